def f_Told_at_tracked (F : Nat) (σ : St) (x1 : Int) : Option (Int × St) := gd (rng x1) (if x1 < 0 then some ((-1), σ) else gd (rng x1 ∧ rng (gF σ 833)) (if (gF σ 833) ≤ x1 then some ((-1), σ) else gd (rng x1 ∧ rng 3) (if (3 : Int) ≤ x1 then some ((-1), σ) else gd (inb x1 3) (some ((gA σ 14 (Int.toNat x1)), σ)))))
set_option maxRecDepth 100000 in
set_option maxHeartbeats 4000000 in
theorem c_Told_at_tracked {x : Bool} (F : Nat) (σ : St) (x1 : Int) : Ct 1 0 1 yX9_at cX9_at 2 (some .int) (LYC x false false) (LYC x false false) [.ref 13, vi x1] σ (f_Told_at_tracked F σ x1) := by
  unfold f_Told_at_tracked
  refine Ct_of (d := 1) (kp := 0) (kd := 1) (own := RX9) (nL := 2) (ret := (some .int)) (LY := (LYC x false false)) (LYe := (LYC x false false)) (L := [some (.ref 13), some (vi x1)]) rfl (by decide +kernel) rfl rfl mf_X10_234.2.2.2.1 rfl fun K => ?_
  refine a_iload_n dX9_at_0 rfl ?_
  refine a_if_lt dX9_at_1 rfl (fun _ => ?_) (fun _ => ?_)
  · refine a_iconst dX9_at_30 ?_
    exact a_iret dX9_at_31
  refine a_iload_n dX9_at_4 rfl ?_
  refine a_aload_n dX9_at_5 rfl ?_
  refine a_getI fl_X9_15 lyC_13 rfl dX9_at_6 (key := 833) rfl ?_
  refine a_icmp_ge dX9_at_9 rfl (fun _ => ?_) (fun _ => ?_)
  · refine a_iconst dX9_at_30 ?_
    exact a_iret dX9_at_31
  refine a_iload_n dX9_at_12 rfl ?_
  refine a_aload_n dX9_at_13 rfl ?_
  refine a_getR (c0 := 14) fl_X9_9 lyC_13 rfl dX9_at_14 (key := 832) rfl ?_
  refine a_alen lyC_14 dX9_at_17 ?_
  refine a_icmp_ge dX9_at_18 rfl (fun _ => ?_) (fun _ => ?_)
  · refine a_iconst dX9_at_30 ?_
    exact a_iret dX9_at_31
  refine a_aload_n dX9_at_21 rfl ?_
  refine a_getR (c0 := 14) fl_X9_9 lyC_13 rfl dX9_at_22 (key := 832) rfl ?_
  refine a_iload_n dX9_at_25 rfl ?_
  refine a_iald lyC_14 rfl dX9_at_26 ?_
  refine a_goto dX9_at_27 rfl ?_
  exact a_iret dX9_at_31
def f_W_track (F : Nat) (σ : St) (x1 : Int) : Option (Int × St) := bnd (f_Told_at_tracked F σ x1) fun r1 σ2 => some (r1, σ2)
set_option maxRecDepth 100000 in
set_option maxHeartbeats 4000000 in
theorem c_W_track {x : Bool} (F : Nat) (σ : St) (x1 : Int) : Ct 2 0 1 yX10_track cX10_track 2 (some .int) (LYC x false false) (LYC x false false) [.ref 0, vi x1] σ (f_W_track F σ x1) := by
  unfold f_W_track
  refine Ct_of (d := 2) (kp := 0) (kd := 1) (own := RX10) (nL := 2) (ret := (some .int)) (LY := (LYC x false false)) (LYe := (LYC x false false)) (L := [some (.ref 0), some (vi x1)]) rfl (by decide +kernel) rfl rfl mf_L_128.2.2.2.1 rfl fun K => ?_
  refine a_aload_n dX10_track_0 rfl ?_
  refine a_getR (c0 := 13) fl_X10_78 lyC_0 rfl dX10_track_1 (key := 11) rfl ?_
  refine a_iload_n dX10_track_4 rfl ?_
  refine a_callVi (as := [vi x1]) mf_X10_234 lyC_13 rfl (c_Told_at_tracked F _ _) LYsame.rf dX10_track_5 rfl rfl rfl rfl rfl rfl (Or.inl rfl) fun r1 σ2 => ?_
  exact a_iret dX10_track_8
def f_JI_bitCount (F : Nat) (σ : St) (x0 : Int) : Option (Int × St) := gd (sh5 1) (bv (x0 % 4294967296 / 2 ^ (Int.toNat 1)) fun t1 => bv (x0 - (iandI t1 1431655765)) fun x0_2 => gd (sh5 2) (bv (x0_2 % 4294967296 / 2 ^ (Int.toNat 2)) fun t3 => bv ((iandI x0_2 858993459) + (iandI t3 858993459)) fun t4 => gd (sh5 4) (bv (t4 % 4294967296 / 2 ^ (Int.toNat 4)) fun t5 => bv (iandI (t4 + t5) 252645135) fun x0_6 => gd (sh5 8) (bv (x0_6 % 4294967296 / 2 ^ (Int.toNat 8)) fun t7 => bv (x0_6 + t7) fun x0_8 => gd (sh5 16) (bv (x0_8 % 4294967296 / 2 ^ (Int.toNat 16)) fun t9 => bv (x0_8 + t9) fun x0_10 => some ((iandI x0_10 63), σ))))))
set_option maxRecDepth 100000 in
set_option maxHeartbeats 4000000 in
theorem c_JI_bitCount {x : Bool} (F : Nat) (σ : St) (x0 : Int) : Ct 1 0 1 yJ6_bitCount_0f7a4 cJ6_bitCount_0f7a4 1 (some .int) (LYC x false false) (LYC x false false) [vi x0] σ (f_JI_bitCount F σ x0) := by
  unfold f_JI_bitCount
  refine Ct_of (d := 1) (kp := 0) (kd := 1) (own := RJ6) (nL := 1) (ret := (some .int)) (LY := (LYC x false false)) (LYe := (LYC x false false)) (L := [some (vi x0)]) rfl (by decide +kernel) rfl rfl mf_X10_265.2.2.2.1 rfl fun K => ?_
  refine a_iload_n dJ6_bitCount_0f7a4_0 rfl ?_
  refine a_iload_n dJ6_bitCount_0f7a4_1 rfl ?_
  refine a_iconst dJ6_bitCount_0f7a4_2 ?_
  refine a_iushr dJ6_bitCount_0f7a4_3 (fun _ => ?_)
  refine a_bvi fun t1 => ?_
  refine a_ldc_w kc_J6_265 rfl dJ6_bitCount_0f7a4_4 ?_
  refine a_iand dJ6_bitCount_0f7a4_7 ?_
  refine a_isub dJ6_bitCount_0f7a4_8 ?_
  refine a_bv fun x0_2 ex0_2 => ?_
  refine a_istore_n (y := x0_2) (L' := [some (vi x0_2)]) dJ6_bitCount_0f7a4_9 ex0_2 rfl rfl rfl ?_
  refine a_iload_n dJ6_bitCount_0f7a4_10 rfl ?_
  refine a_ldc_w kc_J6_266 rfl dJ6_bitCount_0f7a4_11 ?_
  refine a_iand dJ6_bitCount_0f7a4_14 ?_
  refine a_iload_n dJ6_bitCount_0f7a4_15 rfl ?_
  refine a_iconst dJ6_bitCount_0f7a4_16 ?_
  refine a_iushr dJ6_bitCount_0f7a4_17 (fun _ => ?_)
  refine a_bvi fun t3 => ?_
  refine a_ldc_w kc_J6_266 rfl dJ6_bitCount_0f7a4_18 ?_
  refine a_iand dJ6_bitCount_0f7a4_21 ?_
  refine a_iadd dJ6_bitCount_0f7a4_22 ?_
  refine a_bvi fun t4 => ?_
  refine a_istore_n (L' := [some (vi t4)]) dJ6_bitCount_0f7a4_23 rfl rfl rfl rfl ?_
  refine a_iload_n dJ6_bitCount_0f7a4_24 rfl ?_
  refine a_iload_n dJ6_bitCount_0f7a4_25 rfl ?_
  refine a_iconst dJ6_bitCount_0f7a4_26 ?_
  refine a_iushr dJ6_bitCount_0f7a4_27 (fun _ => ?_)
  refine a_bvi fun t5 => ?_
  refine a_iadd dJ6_bitCount_0f7a4_28 ?_
  refine a_ldc_w kc_J6_267 rfl dJ6_bitCount_0f7a4_29 ?_
  refine a_iand dJ6_bitCount_0f7a4_32 ?_
  refine a_bv fun x0_6 ex0_6 => ?_
  refine a_istore_n (y := x0_6) (L' := [some (vi x0_6)]) dJ6_bitCount_0f7a4_33 ex0_6 rfl rfl rfl ?_
  refine a_iload_n dJ6_bitCount_0f7a4_34 rfl ?_
  refine a_iload_n dJ6_bitCount_0f7a4_35 rfl ?_
  refine a_bipush dJ6_bitCount_0f7a4_36 bi_8 ?_
  refine a_iushr dJ6_bitCount_0f7a4_38 (fun _ => ?_)
  refine a_bvi fun t7 => ?_
  refine a_iadd dJ6_bitCount_0f7a4_39 ?_
  refine a_bv fun x0_8 ex0_8 => ?_
  refine a_istore_n (y := x0_8) (L' := [some (vi x0_8)]) dJ6_bitCount_0f7a4_40 ex0_8 rfl rfl rfl ?_
  refine a_iload_n dJ6_bitCount_0f7a4_41 rfl ?_
  refine a_iload_n dJ6_bitCount_0f7a4_42 rfl ?_
  refine a_bipush dJ6_bitCount_0f7a4_43 bi_16 ?_
  refine a_iushr dJ6_bitCount_0f7a4_45 (fun _ => ?_)
  refine a_bvi fun t9 => ?_
  refine a_iadd dJ6_bitCount_0f7a4_46 ?_
  refine a_bv fun x0_10 ex0_10 => ?_
  refine a_istore_n (y := x0_10) (L' := [some (vi x0_10)]) dJ6_bitCount_0f7a4_47 ex0_10 rfl rfl rfl ?_
  refine a_iload_n dJ6_bitCount_0f7a4_48 rfl ?_
  refine a_bipush dJ6_bitCount_0f7a4_49 bi_63 ?_
  refine a_iand dJ6_bitCount_0f7a4_51 ?_
  exact a_iret dJ6_bitCount_0f7a4_52
def f_JI_numberOfTrailingZeros (F : Nat) (σ : St) (x0 : Int) : Option (Int × St) := bv (iandI (ixorI x0 (-1)) (x0 - 1)) fun t1 => gd (rng t1) (if (0 : Int) < t1 then gd (rng t1 ∧ rng 65536) (if t1 ≤ 65536 then gd (rng t1 ∧ rng 256) (if t1 ≤ 256 then gd (rng t1 ∧ rng 16) (if t1 ≤ 16 then gd (rng t1 ∧ rng 4) (if t1 ≤ 4 then gd (sh5 1) (bv (t1 % 4294967296 / 2 ^ (Int.toNat 1)) fun t2 => some ((1 + t2), σ)) else bv (1 + 2) fun x1_3 => gd (sh5 2) (bv (t1 % 4294967296 / 2 ^ (Int.toNat 2)) fun t4 => gd (sh5 1) (bv (t4 % 4294967296 / 2 ^ (Int.toNat 1)) fun t5 => some ((x1_3 + t5), σ)))) else bv (1 + 4) fun x1_6 => gd (sh5 4) (bv (t1 % 4294967296 / 2 ^ (Int.toNat 4)) fun t7 => gd (rng t7 ∧ rng 4) (if t7 ≤ 4 then gd (sh5 1) (bv (t7 % 4294967296 / 2 ^ (Int.toNat 1)) fun t8 => some ((x1_6 + t8), σ)) else bv (x1_6 + 2) fun x1_9 => gd (sh5 2) (bv (t7 % 4294967296 / 2 ^ (Int.toNat 2)) fun t10 => gd (sh5 1) (bv (t10 % 4294967296 / 2 ^ (Int.toNat 1)) fun t11 => some ((x1_9 + t11), σ)))))) else bv (1 + 8) fun x1_12 => gd (sh5 8) (bv (t1 % 4294967296 / 2 ^ (Int.toNat 8)) fun t13 => gd (rng t13 ∧ rng 16) (if t13 ≤ 16 then gd (rng t13 ∧ rng 4) (if t13 ≤ 4 then gd (sh5 1) (bv (t13 % 4294967296 / 2 ^ (Int.toNat 1)) fun t14 => some ((x1_12 + t14), σ)) else bv (x1_12 + 2) fun x1_15 => gd (sh5 2) (bv (t13 % 4294967296 / 2 ^ (Int.toNat 2)) fun t16 => gd (sh5 1) (bv (t16 % 4294967296 / 2 ^ (Int.toNat 1)) fun t17 => some ((x1_15 + t17), σ)))) else bv (x1_12 + 4) fun x1_18 => gd (sh5 4) (bv (t13 % 4294967296 / 2 ^ (Int.toNat 4)) fun t19 => gd (rng t19 ∧ rng 4) (if t19 ≤ 4 then gd (sh5 1) (bv (t19 % 4294967296 / 2 ^ (Int.toNat 1)) fun t20 => some ((x1_18 + t20), σ)) else bv (x1_18 + 2) fun x1_21 => gd (sh5 2) (bv (t19 % 4294967296 / 2 ^ (Int.toNat 2)) fun t22 => gd (sh5 1) (bv (t22 % 4294967296 / 2 ^ (Int.toNat 1)) fun t23 => some ((x1_21 + t23), σ)))))))) else bv (1 + 16) fun x1_24 => gd (sh5 16) (bv (t1 % 4294967296 / 2 ^ (Int.toNat 16)) fun t25 => gd (rng t25 ∧ rng 256) (if t25 ≤ 256 then gd (rng t25 ∧ rng 16) (if t25 ≤ 16 then gd (rng t25 ∧ rng 4) (if t25 ≤ 4 then gd (sh5 1) (bv (t25 % 4294967296 / 2 ^ (Int.toNat 1)) fun t26 => some ((x1_24 + t26), σ)) else bv (x1_24 + 2) fun x1_27 => gd (sh5 2) (bv (t25 % 4294967296 / 2 ^ (Int.toNat 2)) fun t28 => gd (sh5 1) (bv (t28 % 4294967296 / 2 ^ (Int.toNat 1)) fun t29 => some ((x1_27 + t29), σ)))) else bv (x1_24 + 4) fun x1_30 => gd (sh5 4) (bv (t25 % 4294967296 / 2 ^ (Int.toNat 4)) fun t31 => gd (rng t31 ∧ rng 4) (if t31 ≤ 4 then gd (sh5 1) (bv (t31 % 4294967296 / 2 ^ (Int.toNat 1)) fun t32 => some ((x1_30 + t32), σ)) else bv (x1_30 + 2) fun x1_33 => gd (sh5 2) (bv (t31 % 4294967296 / 2 ^ (Int.toNat 2)) fun t34 => gd (sh5 1) (bv (t34 % 4294967296 / 2 ^ (Int.toNat 1)) fun t35 => some ((x1_33 + t35), σ)))))) else bv (x1_24 + 8) fun x1_36 => gd (sh5 8) (bv (t25 % 4294967296 / 2 ^ (Int.toNat 8)) fun t37 => gd (rng t37 ∧ rng 16) (if t37 ≤ 16 then gd (rng t37 ∧ rng 4) (if t37 ≤ 4 then gd (sh5 1) (bv (t37 % 4294967296 / 2 ^ (Int.toNat 1)) fun t38 => some ((x1_36 + t38), σ)) else bv (x1_36 + 2) fun x1_39 => gd (sh5 2) (bv (t37 % 4294967296 / 2 ^ (Int.toNat 2)) fun t40 => gd (sh5 1) (bv (t40 % 4294967296 / 2 ^ (Int.toNat 1)) fun t41 => some ((x1_39 + t41), σ)))) else bv (x1_36 + 4) fun x1_42 => gd (sh5 4) (bv (t37 % 4294967296 / 2 ^ (Int.toNat 4)) fun t43 => gd (rng t43 ∧ rng 4) (if t43 ≤ 4 then gd (sh5 1) (bv (t43 % 4294967296 / 2 ^ (Int.toNat 1)) fun t44 => some ((x1_42 + t44), σ)) else bv (x1_42 + 2) fun x1_45 => gd (sh5 2) (bv (t43 % 4294967296 / 2 ^ (Int.toNat 2)) fun t46 => gd (sh5 1) (bv (t46 % 4294967296 / 2 ^ (Int.toNat 1)) fun t47 => some ((x1_45 + t47), σ)))))))))) else some ((iandI t1 32), σ))
set_option maxRecDepth 100000 in
set_option maxHeartbeats 4000000 in
theorem c_JI_numberOfTrailingZeros {x : Bool} (F : Nat) (σ : St) (x0 : Int) : Ct 1 0 1 yJ6_numberOfTrailingZeros_0f7a4 cJ6_numberOfTrailingZeros_0f7a4 2 (some .int) (LYC x false false) (LYC x false false) [vi x0] σ (f_JI_numberOfTrailingZeros F σ x0) := by
  unfold f_JI_numberOfTrailingZeros
  refine Ct_of (d := 1) (kp := 0) (kd := 1) (own := RJ6) (nL := 2) (ret := (some .int)) (LY := (LYC x false false)) (LYe := (LYC x false false)) (L := [some (vi x0), none]) rfl (by decide +kernel) rfl rfl mf_X7_109.2.2.2.1 rfl fun K => ?_
  refine a_iload_n dJ6_numberOfTrailingZeros_0f7a4_0 rfl ?_
  refine a_iconst dJ6_numberOfTrailingZeros_0f7a4_1 ?_
  refine a_ixor dJ6_numberOfTrailingZeros_0f7a4_2 ?_
  refine a_iload_n dJ6_numberOfTrailingZeros_0f7a4_3 rfl ?_
  refine a_iconst dJ6_numberOfTrailingZeros_0f7a4_4 ?_
  refine a_isub dJ6_numberOfTrailingZeros_0f7a4_5 ?_
  refine a_iand dJ6_numberOfTrailingZeros_0f7a4_6 ?_
  refine a_bvi fun t1 => ?_
  refine a_istore_n (L' := [some (vi t1), none]) dJ6_numberOfTrailingZeros_0f7a4_7 rfl rfl rfl rfl ?_
  refine a_iload_n dJ6_numberOfTrailingZeros_0f7a4_8 rfl ?_
  refine a_if_gt dJ6_numberOfTrailingZeros_0f7a4_9 rfl (fun _ => ?_) (fun _ => ?_)
  · refine a_iconst dJ6_numberOfTrailingZeros_0f7a4_17 ?_
    refine a_istore_n (L' := [some (vi t1), some (vi 1)]) dJ6_numberOfTrailingZeros_0f7a4_18 rfl rfl rfl rfl ?_
    refine a_iload_n dJ6_numberOfTrailingZeros_0f7a4_19 rfl ?_
    refine a_ldc_w kc_J6_264 rfl dJ6_numberOfTrailingZeros_0f7a4_20 ?_
    refine a_icmp_le dJ6_numberOfTrailingZeros_0f7a4_23 rfl (fun _ => ?_) (fun _ => ?_)
    · refine a_iload_n dJ6_numberOfTrailingZeros_0f7a4_34 rfl ?_
      refine a_sipush dJ6_numberOfTrailingZeros_0f7a4_35 si_256 ?_
      refine a_icmp_le dJ6_numberOfTrailingZeros_0f7a4_38 rfl (fun _ => ?_) (fun _ => ?_)
      · refine a_iload_n dJ6_numberOfTrailingZeros_0f7a4_49 rfl ?_
        refine a_bipush dJ6_numberOfTrailingZeros_0f7a4_50 bi_16 ?_
        refine a_icmp_le dJ6_numberOfTrailingZeros_0f7a4_52 rfl (fun _ => ?_) (fun _ => ?_)
        · refine a_iload_n dJ6_numberOfTrailingZeros_0f7a4_62 rfl ?_
          refine a_iconst dJ6_numberOfTrailingZeros_0f7a4_63 ?_
          refine a_icmp_le dJ6_numberOfTrailingZeros_0f7a4_64 rfl (fun _ => ?_) (fun _ => ?_)
          · refine a_iload_n dJ6_numberOfTrailingZeros_0f7a4_74 rfl ?_
            refine a_iload_n dJ6_numberOfTrailingZeros_0f7a4_75 rfl ?_
            refine a_iconst dJ6_numberOfTrailingZeros_0f7a4_76 ?_
            refine a_iushr dJ6_numberOfTrailingZeros_0f7a4_77 (fun _ => ?_)
            refine a_bvi fun t2 => ?_
            refine a_iadd dJ6_numberOfTrailingZeros_0f7a4_78 ?_
            exact a_iret dJ6_numberOfTrailingZeros_0f7a4_79
          refine a_bv fun x1_3 ex1_3 => ?_
          refine a_iinc (y := x1_3) (L' := [some (vi t1), some (vi x1_3)]) dJ6_numberOfTrailingZeros_0f7a4_67 rfl ex1_3 rfl rfl rfl ?_
          refine a_iload_n dJ6_numberOfTrailingZeros_0f7a4_70 rfl ?_
          refine a_iconst dJ6_numberOfTrailingZeros_0f7a4_71 ?_
          refine a_iushr dJ6_numberOfTrailingZeros_0f7a4_72 (fun _ => ?_)
          refine a_bvi fun t4 => ?_
          refine a_istore_n (L' := [some (vi t4), some (vi x1_3)]) dJ6_numberOfTrailingZeros_0f7a4_73 rfl rfl rfl rfl ?_
          refine a_iload_n dJ6_numberOfTrailingZeros_0f7a4_74 rfl ?_
          refine a_iload_n dJ6_numberOfTrailingZeros_0f7a4_75 rfl ?_
          refine a_iconst dJ6_numberOfTrailingZeros_0f7a4_76 ?_
          refine a_iushr dJ6_numberOfTrailingZeros_0f7a4_77 (fun _ => ?_)
          refine a_bvi fun t5 => ?_
          refine a_iadd dJ6_numberOfTrailingZeros_0f7a4_78 ?_
          exact a_iret dJ6_numberOfTrailingZeros_0f7a4_79
        refine a_bv fun x1_6 ex1_6 => ?_
        refine a_iinc (y := x1_6) (L' := [some (vi t1), some (vi x1_6)]) dJ6_numberOfTrailingZeros_0f7a4_55 rfl ex1_6 rfl rfl rfl ?_
        refine a_iload_n dJ6_numberOfTrailingZeros_0f7a4_58 rfl ?_
        refine a_iconst dJ6_numberOfTrailingZeros_0f7a4_59 ?_
        refine a_iushr dJ6_numberOfTrailingZeros_0f7a4_60 (fun _ => ?_)
        refine a_bvi fun t7 => ?_
        refine a_istore_n (L' := [some (vi t7), some (vi x1_6)]) dJ6_numberOfTrailingZeros_0f7a4_61 rfl rfl rfl rfl ?_
        refine a_iload_n dJ6_numberOfTrailingZeros_0f7a4_62 rfl ?_
        refine a_iconst dJ6_numberOfTrailingZeros_0f7a4_63 ?_
        refine a_icmp_le dJ6_numberOfTrailingZeros_0f7a4_64 rfl (fun _ => ?_) (fun _ => ?_)
        · refine a_iload_n dJ6_numberOfTrailingZeros_0f7a4_74 rfl ?_
          refine a_iload_n dJ6_numberOfTrailingZeros_0f7a4_75 rfl ?_
          refine a_iconst dJ6_numberOfTrailingZeros_0f7a4_76 ?_
          refine a_iushr dJ6_numberOfTrailingZeros_0f7a4_77 (fun _ => ?_)
          refine a_bvi fun t8 => ?_
          refine a_iadd dJ6_numberOfTrailingZeros_0f7a4_78 ?_
          exact a_iret dJ6_numberOfTrailingZeros_0f7a4_79
        refine a_bv fun x1_9 ex1_9 => ?_
        refine a_iinc (y := x1_9) (L' := [some (vi t7), some (vi x1_9)]) dJ6_numberOfTrailingZeros_0f7a4_67 rfl ex1_9 rfl rfl rfl ?_
        refine a_iload_n dJ6_numberOfTrailingZeros_0f7a4_70 rfl ?_
        refine a_iconst dJ6_numberOfTrailingZeros_0f7a4_71 ?_
        refine a_iushr dJ6_numberOfTrailingZeros_0f7a4_72 (fun _ => ?_)
        refine a_bvi fun t10 => ?_
        refine a_istore_n (L' := [some (vi t10), some (vi x1_9)]) dJ6_numberOfTrailingZeros_0f7a4_73 rfl rfl rfl rfl ?_
        refine a_iload_n dJ6_numberOfTrailingZeros_0f7a4_74 rfl ?_
        refine a_iload_n dJ6_numberOfTrailingZeros_0f7a4_75 rfl ?_
        refine a_iconst dJ6_numberOfTrailingZeros_0f7a4_76 ?_
        refine a_iushr dJ6_numberOfTrailingZeros_0f7a4_77 (fun _ => ?_)
        refine a_bvi fun t11 => ?_
        refine a_iadd dJ6_numberOfTrailingZeros_0f7a4_78 ?_
        exact a_iret dJ6_numberOfTrailingZeros_0f7a4_79
      refine a_bv fun x1_12 ex1_12 => ?_
      refine a_iinc (y := x1_12) (L' := [some (vi t1), some (vi x1_12)]) dJ6_numberOfTrailingZeros_0f7a4_41 rfl ex1_12 rfl rfl rfl ?_
      refine a_iload_n dJ6_numberOfTrailingZeros_0f7a4_44 rfl ?_
      refine a_bipush dJ6_numberOfTrailingZeros_0f7a4_45 bi_8 ?_
      refine a_iushr dJ6_numberOfTrailingZeros_0f7a4_47 (fun _ => ?_)
      refine a_bvi fun t13 => ?_
      refine a_istore_n (L' := [some (vi t13), some (vi x1_12)]) dJ6_numberOfTrailingZeros_0f7a4_48 rfl rfl rfl rfl ?_
      refine a_iload_n dJ6_numberOfTrailingZeros_0f7a4_49 rfl ?_
      refine a_bipush dJ6_numberOfTrailingZeros_0f7a4_50 bi_16 ?_
      refine a_icmp_le dJ6_numberOfTrailingZeros_0f7a4_52 rfl (fun _ => ?_) (fun _ => ?_)
      · refine a_iload_n dJ6_numberOfTrailingZeros_0f7a4_62 rfl ?_
        refine a_iconst dJ6_numberOfTrailingZeros_0f7a4_63 ?_
        refine a_icmp_le dJ6_numberOfTrailingZeros_0f7a4_64 rfl (fun _ => ?_) (fun _ => ?_)
        · refine a_iload_n dJ6_numberOfTrailingZeros_0f7a4_74 rfl ?_
          refine a_iload_n dJ6_numberOfTrailingZeros_0f7a4_75 rfl ?_
          refine a_iconst dJ6_numberOfTrailingZeros_0f7a4_76 ?_
          refine a_iushr dJ6_numberOfTrailingZeros_0f7a4_77 (fun _ => ?_)
          refine a_bvi fun t14 => ?_
          refine a_iadd dJ6_numberOfTrailingZeros_0f7a4_78 ?_
          exact a_iret dJ6_numberOfTrailingZeros_0f7a4_79
        refine a_bv fun x1_15 ex1_15 => ?_
        refine a_iinc (y := x1_15) (L' := [some (vi t13), some (vi x1_15)]) dJ6_numberOfTrailingZeros_0f7a4_67 rfl ex1_15 rfl rfl rfl ?_
        refine a_iload_n dJ6_numberOfTrailingZeros_0f7a4_70 rfl ?_
        refine a_iconst dJ6_numberOfTrailingZeros_0f7a4_71 ?_
        refine a_iushr dJ6_numberOfTrailingZeros_0f7a4_72 (fun _ => ?_)
        refine a_bvi fun t16 => ?_
        refine a_istore_n (L' := [some (vi t16), some (vi x1_15)]) dJ6_numberOfTrailingZeros_0f7a4_73 rfl rfl rfl rfl ?_
        refine a_iload_n dJ6_numberOfTrailingZeros_0f7a4_74 rfl ?_
        refine a_iload_n dJ6_numberOfTrailingZeros_0f7a4_75 rfl ?_
        refine a_iconst dJ6_numberOfTrailingZeros_0f7a4_76 ?_
        refine a_iushr dJ6_numberOfTrailingZeros_0f7a4_77 (fun _ => ?_)
        refine a_bvi fun t17 => ?_
        refine a_iadd dJ6_numberOfTrailingZeros_0f7a4_78 ?_
        exact a_iret dJ6_numberOfTrailingZeros_0f7a4_79
      refine a_bv fun x1_18 ex1_18 => ?_
      refine a_iinc (y := x1_18) (L' := [some (vi t13), some (vi x1_18)]) dJ6_numberOfTrailingZeros_0f7a4_55 rfl ex1_18 rfl rfl rfl ?_
      refine a_iload_n dJ6_numberOfTrailingZeros_0f7a4_58 rfl ?_
      refine a_iconst dJ6_numberOfTrailingZeros_0f7a4_59 ?_
      refine a_iushr dJ6_numberOfTrailingZeros_0f7a4_60 (fun _ => ?_)
      refine a_bvi fun t19 => ?_
      refine a_istore_n (L' := [some (vi t19), some (vi x1_18)]) dJ6_numberOfTrailingZeros_0f7a4_61 rfl rfl rfl rfl ?_
      refine a_iload_n dJ6_numberOfTrailingZeros_0f7a4_62 rfl ?_
      refine a_iconst dJ6_numberOfTrailingZeros_0f7a4_63 ?_
      refine a_icmp_le dJ6_numberOfTrailingZeros_0f7a4_64 rfl (fun _ => ?_) (fun _ => ?_)
      · refine a_iload_n dJ6_numberOfTrailingZeros_0f7a4_74 rfl ?_
        refine a_iload_n dJ6_numberOfTrailingZeros_0f7a4_75 rfl ?_
        refine a_iconst dJ6_numberOfTrailingZeros_0f7a4_76 ?_
        refine a_iushr dJ6_numberOfTrailingZeros_0f7a4_77 (fun _ => ?_)
        refine a_bvi fun t20 => ?_
        refine a_iadd dJ6_numberOfTrailingZeros_0f7a4_78 ?_
        exact a_iret dJ6_numberOfTrailingZeros_0f7a4_79
      refine a_bv fun x1_21 ex1_21 => ?_
      refine a_iinc (y := x1_21) (L' := [some (vi t19), some (vi x1_21)]) dJ6_numberOfTrailingZeros_0f7a4_67 rfl ex1_21 rfl rfl rfl ?_
      refine a_iload_n dJ6_numberOfTrailingZeros_0f7a4_70 rfl ?_
      refine a_iconst dJ6_numberOfTrailingZeros_0f7a4_71 ?_
      refine a_iushr dJ6_numberOfTrailingZeros_0f7a4_72 (fun _ => ?_)
      refine a_bvi fun t22 => ?_
      refine a_istore_n (L' := [some (vi t22), some (vi x1_21)]) dJ6_numberOfTrailingZeros_0f7a4_73 rfl rfl rfl rfl ?_
      refine a_iload_n dJ6_numberOfTrailingZeros_0f7a4_74 rfl ?_
      refine a_iload_n dJ6_numberOfTrailingZeros_0f7a4_75 rfl ?_
      refine a_iconst dJ6_numberOfTrailingZeros_0f7a4_76 ?_
      refine a_iushr dJ6_numberOfTrailingZeros_0f7a4_77 (fun _ => ?_)
      refine a_bvi fun t23 => ?_
      refine a_iadd dJ6_numberOfTrailingZeros_0f7a4_78 ?_
      exact a_iret dJ6_numberOfTrailingZeros_0f7a4_79
    refine a_bv fun x1_24 ex1_24 => ?_
    refine a_iinc (y := x1_24) (L' := [some (vi t1), some (vi x1_24)]) dJ6_numberOfTrailingZeros_0f7a4_26 rfl ex1_24 rfl rfl rfl ?_
    refine a_iload_n dJ6_numberOfTrailingZeros_0f7a4_29 rfl ?_
    refine a_bipush dJ6_numberOfTrailingZeros_0f7a4_30 bi_16 ?_
    refine a_iushr dJ6_numberOfTrailingZeros_0f7a4_32 (fun _ => ?_)
    refine a_bvi fun t25 => ?_
    refine a_istore_n (L' := [some (vi t25), some (vi x1_24)]) dJ6_numberOfTrailingZeros_0f7a4_33 rfl rfl rfl rfl ?_
    refine a_iload_n dJ6_numberOfTrailingZeros_0f7a4_34 rfl ?_
    refine a_sipush dJ6_numberOfTrailingZeros_0f7a4_35 si_256 ?_
    refine a_icmp_le dJ6_numberOfTrailingZeros_0f7a4_38 rfl (fun _ => ?_) (fun _ => ?_)
    · refine a_iload_n dJ6_numberOfTrailingZeros_0f7a4_49 rfl ?_
      refine a_bipush dJ6_numberOfTrailingZeros_0f7a4_50 bi_16 ?_
      refine a_icmp_le dJ6_numberOfTrailingZeros_0f7a4_52 rfl (fun _ => ?_) (fun _ => ?_)
      · refine a_iload_n dJ6_numberOfTrailingZeros_0f7a4_62 rfl ?_
        refine a_iconst dJ6_numberOfTrailingZeros_0f7a4_63 ?_
        refine a_icmp_le dJ6_numberOfTrailingZeros_0f7a4_64 rfl (fun _ => ?_) (fun _ => ?_)
        · refine a_iload_n dJ6_numberOfTrailingZeros_0f7a4_74 rfl ?_
          refine a_iload_n dJ6_numberOfTrailingZeros_0f7a4_75 rfl ?_
          refine a_iconst dJ6_numberOfTrailingZeros_0f7a4_76 ?_
          refine a_iushr dJ6_numberOfTrailingZeros_0f7a4_77 (fun _ => ?_)
          refine a_bvi fun t26 => ?_
          refine a_iadd dJ6_numberOfTrailingZeros_0f7a4_78 ?_
          exact a_iret dJ6_numberOfTrailingZeros_0f7a4_79
        refine a_bv fun x1_27 ex1_27 => ?_
        refine a_iinc (y := x1_27) (L' := [some (vi t25), some (vi x1_27)]) dJ6_numberOfTrailingZeros_0f7a4_67 rfl ex1_27 rfl rfl rfl ?_
        refine a_iload_n dJ6_numberOfTrailingZeros_0f7a4_70 rfl ?_
        refine a_iconst dJ6_numberOfTrailingZeros_0f7a4_71 ?_
        refine a_iushr dJ6_numberOfTrailingZeros_0f7a4_72 (fun _ => ?_)
        refine a_bvi fun t28 => ?_
        refine a_istore_n (L' := [some (vi t28), some (vi x1_27)]) dJ6_numberOfTrailingZeros_0f7a4_73 rfl rfl rfl rfl ?_
        refine a_iload_n dJ6_numberOfTrailingZeros_0f7a4_74 rfl ?_
        refine a_iload_n dJ6_numberOfTrailingZeros_0f7a4_75 rfl ?_
        refine a_iconst dJ6_numberOfTrailingZeros_0f7a4_76 ?_
        refine a_iushr dJ6_numberOfTrailingZeros_0f7a4_77 (fun _ => ?_)
        refine a_bvi fun t29 => ?_
        refine a_iadd dJ6_numberOfTrailingZeros_0f7a4_78 ?_
        exact a_iret dJ6_numberOfTrailingZeros_0f7a4_79
      refine a_bv fun x1_30 ex1_30 => ?_
      refine a_iinc (y := x1_30) (L' := [some (vi t25), some (vi x1_30)]) dJ6_numberOfTrailingZeros_0f7a4_55 rfl ex1_30 rfl rfl rfl ?_
      refine a_iload_n dJ6_numberOfTrailingZeros_0f7a4_58 rfl ?_
      refine a_iconst dJ6_numberOfTrailingZeros_0f7a4_59 ?_
      refine a_iushr dJ6_numberOfTrailingZeros_0f7a4_60 (fun _ => ?_)
      refine a_bvi fun t31 => ?_
      refine a_istore_n (L' := [some (vi t31), some (vi x1_30)]) dJ6_numberOfTrailingZeros_0f7a4_61 rfl rfl rfl rfl ?_
      refine a_iload_n dJ6_numberOfTrailingZeros_0f7a4_62 rfl ?_
      refine a_iconst dJ6_numberOfTrailingZeros_0f7a4_63 ?_
      refine a_icmp_le dJ6_numberOfTrailingZeros_0f7a4_64 rfl (fun _ => ?_) (fun _ => ?_)
      · refine a_iload_n dJ6_numberOfTrailingZeros_0f7a4_74 rfl ?_
        refine a_iload_n dJ6_numberOfTrailingZeros_0f7a4_75 rfl ?_
        refine a_iconst dJ6_numberOfTrailingZeros_0f7a4_76 ?_
        refine a_iushr dJ6_numberOfTrailingZeros_0f7a4_77 (fun _ => ?_)
        refine a_bvi fun t32 => ?_
        refine a_iadd dJ6_numberOfTrailingZeros_0f7a4_78 ?_
        exact a_iret dJ6_numberOfTrailingZeros_0f7a4_79
      refine a_bv fun x1_33 ex1_33 => ?_
      refine a_iinc (y := x1_33) (L' := [some (vi t31), some (vi x1_33)]) dJ6_numberOfTrailingZeros_0f7a4_67 rfl ex1_33 rfl rfl rfl ?_
      refine a_iload_n dJ6_numberOfTrailingZeros_0f7a4_70 rfl ?_
      refine a_iconst dJ6_numberOfTrailingZeros_0f7a4_71 ?_
      refine a_iushr dJ6_numberOfTrailingZeros_0f7a4_72 (fun _ => ?_)
      refine a_bvi fun t34 => ?_
      refine a_istore_n (L' := [some (vi t34), some (vi x1_33)]) dJ6_numberOfTrailingZeros_0f7a4_73 rfl rfl rfl rfl ?_
      refine a_iload_n dJ6_numberOfTrailingZeros_0f7a4_74 rfl ?_
      refine a_iload_n dJ6_numberOfTrailingZeros_0f7a4_75 rfl ?_
      refine a_iconst dJ6_numberOfTrailingZeros_0f7a4_76 ?_
      refine a_iushr dJ6_numberOfTrailingZeros_0f7a4_77 (fun _ => ?_)
      refine a_bvi fun t35 => ?_
      refine a_iadd dJ6_numberOfTrailingZeros_0f7a4_78 ?_
      exact a_iret dJ6_numberOfTrailingZeros_0f7a4_79
    refine a_bv fun x1_36 ex1_36 => ?_
    refine a_iinc (y := x1_36) (L' := [some (vi t25), some (vi x1_36)]) dJ6_numberOfTrailingZeros_0f7a4_41 rfl ex1_36 rfl rfl rfl ?_
    refine a_iload_n dJ6_numberOfTrailingZeros_0f7a4_44 rfl ?_
    refine a_bipush dJ6_numberOfTrailingZeros_0f7a4_45 bi_8 ?_
    refine a_iushr dJ6_numberOfTrailingZeros_0f7a4_47 (fun _ => ?_)
    refine a_bvi fun t37 => ?_
    refine a_istore_n (L' := [some (vi t37), some (vi x1_36)]) dJ6_numberOfTrailingZeros_0f7a4_48 rfl rfl rfl rfl ?_
    refine a_iload_n dJ6_numberOfTrailingZeros_0f7a4_49 rfl ?_
    refine a_bipush dJ6_numberOfTrailingZeros_0f7a4_50 bi_16 ?_
    refine a_icmp_le dJ6_numberOfTrailingZeros_0f7a4_52 rfl (fun _ => ?_) (fun _ => ?_)
    · refine a_iload_n dJ6_numberOfTrailingZeros_0f7a4_62 rfl ?_
      refine a_iconst dJ6_numberOfTrailingZeros_0f7a4_63 ?_
      refine a_icmp_le dJ6_numberOfTrailingZeros_0f7a4_64 rfl (fun _ => ?_) (fun _ => ?_)
      · refine a_iload_n dJ6_numberOfTrailingZeros_0f7a4_74 rfl ?_
        refine a_iload_n dJ6_numberOfTrailingZeros_0f7a4_75 rfl ?_
        refine a_iconst dJ6_numberOfTrailingZeros_0f7a4_76 ?_
        refine a_iushr dJ6_numberOfTrailingZeros_0f7a4_77 (fun _ => ?_)
        refine a_bvi fun t38 => ?_
        refine a_iadd dJ6_numberOfTrailingZeros_0f7a4_78 ?_
        exact a_iret dJ6_numberOfTrailingZeros_0f7a4_79
      refine a_bv fun x1_39 ex1_39 => ?_
      refine a_iinc (y := x1_39) (L' := [some (vi t37), some (vi x1_39)]) dJ6_numberOfTrailingZeros_0f7a4_67 rfl ex1_39 rfl rfl rfl ?_
      refine a_iload_n dJ6_numberOfTrailingZeros_0f7a4_70 rfl ?_
      refine a_iconst dJ6_numberOfTrailingZeros_0f7a4_71 ?_
      refine a_iushr dJ6_numberOfTrailingZeros_0f7a4_72 (fun _ => ?_)
      refine a_bvi fun t40 => ?_
      refine a_istore_n (L' := [some (vi t40), some (vi x1_39)]) dJ6_numberOfTrailingZeros_0f7a4_73 rfl rfl rfl rfl ?_
      refine a_iload_n dJ6_numberOfTrailingZeros_0f7a4_74 rfl ?_
      refine a_iload_n dJ6_numberOfTrailingZeros_0f7a4_75 rfl ?_
      refine a_iconst dJ6_numberOfTrailingZeros_0f7a4_76 ?_
      refine a_iushr dJ6_numberOfTrailingZeros_0f7a4_77 (fun _ => ?_)
      refine a_bvi fun t41 => ?_
      refine a_iadd dJ6_numberOfTrailingZeros_0f7a4_78 ?_
      exact a_iret dJ6_numberOfTrailingZeros_0f7a4_79
    refine a_bv fun x1_42 ex1_42 => ?_
    refine a_iinc (y := x1_42) (L' := [some (vi t37), some (vi x1_42)]) dJ6_numberOfTrailingZeros_0f7a4_55 rfl ex1_42 rfl rfl rfl ?_
    refine a_iload_n dJ6_numberOfTrailingZeros_0f7a4_58 rfl ?_
    refine a_iconst dJ6_numberOfTrailingZeros_0f7a4_59 ?_
    refine a_iushr dJ6_numberOfTrailingZeros_0f7a4_60 (fun _ => ?_)
    refine a_bvi fun t43 => ?_
    refine a_istore_n (L' := [some (vi t43), some (vi x1_42)]) dJ6_numberOfTrailingZeros_0f7a4_61 rfl rfl rfl rfl ?_
    refine a_iload_n dJ6_numberOfTrailingZeros_0f7a4_62 rfl ?_
    refine a_iconst dJ6_numberOfTrailingZeros_0f7a4_63 ?_
    refine a_icmp_le dJ6_numberOfTrailingZeros_0f7a4_64 rfl (fun _ => ?_) (fun _ => ?_)
    · refine a_iload_n dJ6_numberOfTrailingZeros_0f7a4_74 rfl ?_
      refine a_iload_n dJ6_numberOfTrailingZeros_0f7a4_75 rfl ?_
      refine a_iconst dJ6_numberOfTrailingZeros_0f7a4_76 ?_
      refine a_iushr dJ6_numberOfTrailingZeros_0f7a4_77 (fun _ => ?_)
      refine a_bvi fun t44 => ?_
      refine a_iadd dJ6_numberOfTrailingZeros_0f7a4_78 ?_
      exact a_iret dJ6_numberOfTrailingZeros_0f7a4_79
    refine a_bv fun x1_45 ex1_45 => ?_
    refine a_iinc (y := x1_45) (L' := [some (vi t43), some (vi x1_45)]) dJ6_numberOfTrailingZeros_0f7a4_67 rfl ex1_45 rfl rfl rfl ?_
    refine a_iload_n dJ6_numberOfTrailingZeros_0f7a4_70 rfl ?_
    refine a_iconst dJ6_numberOfTrailingZeros_0f7a4_71 ?_
    refine a_iushr dJ6_numberOfTrailingZeros_0f7a4_72 (fun _ => ?_)
    refine a_bvi fun t46 => ?_
    refine a_istore_n (L' := [some (vi t46), some (vi x1_45)]) dJ6_numberOfTrailingZeros_0f7a4_73 rfl rfl rfl rfl ?_
    refine a_iload_n dJ6_numberOfTrailingZeros_0f7a4_74 rfl ?_
    refine a_iload_n dJ6_numberOfTrailingZeros_0f7a4_75 rfl ?_
    refine a_iconst dJ6_numberOfTrailingZeros_0f7a4_76 ?_
    refine a_iushr dJ6_numberOfTrailingZeros_0f7a4_77 (fun _ => ?_)
    refine a_bvi fun t47 => ?_
    refine a_iadd dJ6_numberOfTrailingZeros_0f7a4_78 ?_
    exact a_iret dJ6_numberOfTrailingZeros_0f7a4_79
  refine a_iload_n dJ6_numberOfTrailingZeros_0f7a4_12 rfl ?_
  refine a_bipush dJ6_numberOfTrailingZeros_0f7a4_13 bi_32 ?_
  refine a_iand dJ6_numberOfTrailingZeros_0f7a4_15 ?_
  exact a_iret dJ6_numberOfTrailingZeros_0f7a4_16
def b_W_commonMeasure_12 (F : Nat) (self : St → Int → Int → Int → Option (Int × St)) (σ : St) (x4 x6 x8 : Int) : Option (Int × St) := gd (rng x8 ∧ rng 200) (if (200 : Int) ≤ x8 then some (x4, σ) else gd (rng64 x6 ∧ rng64 0) (if x6 = 0 then some (x4, σ) else gd (rng64 x4 ∧ rng64 x6 ∧ x6 ≠ (0 : Int)) (bv (Int.tmod x4 x6) fun x9_2 => bv (x8 + 1) fun x8_3 => self σ x6 x9_2 x8_3)))
def l_W_commonMeasure_12 (F : Nat) : Nat → St → Int → Int → Int → Option (Int × St)
  | 0 => fun _ _ _ _ => none
  | n + 1 => fun σ x4 x6 x8 => b_W_commonMeasure_12 F (l_W_commonMeasure_12 F n) σ x4 x6 x8
def f_W_commonMeasure (F : Nat) (σ : St) (x0 x2 : Int) : Option (Int × St) := gd (rng64 x0) (bv (labs x0) fun t1 => l_W_commonMeasure_12 F F σ t1 x2 0)
set_option maxRecDepth 100000 in
set_option maxHeartbeats 4000000 in
theorem cb_W_commonMeasure_12 {K : KX} {x : Bool} (F : Nat) (self : St → Int → Int → Int → Option (Int × St)) (hself : ∀ σ x4 x6 x8, WA 1 0 2 cX10_commonMeasure RX10 11 (some .long) (LYC x false false) (LYC x false false) K 12 [none, none, none, none, some (vl x4), none, some (vl x6), none, some (vi x8), none, none] [] σ (self σ x4 x6 x8)) (σ : St) (x4 x6 x8 : Int) : WA 1 0 2 cX10_commonMeasure RX10 11 (some .long) (LYC x false false) (LYC x false false) K 12 [none, none, none, none, some (vl x4), none, some (vl x6), none, some (vi x8), none, none] [] σ (b_W_commonMeasure_12 F self σ x4 x6 x8) := by
  unfold b_W_commonMeasure_12
  refine a_iload dX10_commonMeasure_12 rfl ?_
  refine a_sipush dX10_commonMeasure_14 si_200 ?_
  refine a_icmp_ge dX10_commonMeasure_17 rfl (fun _ => ?_) (fun _ => ?_)
  · refine a_lload dX10_commonMeasure_48 rfl ?_
    exact a_lret dX10_commonMeasure_50
  refine a_lload dX10_commonMeasure_20 rfl ?_
  refine a_lconst (v := 0) dX10_commonMeasure_22 rfl ?_
  refine a_lcmp_eq dX10_commonMeasure_23 dX10_commonMeasure_24 rfl (fun _ => ?_) (fun _ => ?_)
  · refine a_lload dX10_commonMeasure_48 rfl ?_
    exact a_lret dX10_commonMeasure_50
  refine a_lload dX10_commonMeasure_27 rfl ?_
  refine a_lload dX10_commonMeasure_29 rfl ?_
  refine a_lrem dX10_commonMeasure_31 (fun _ => ?_)
  refine a_bv fun x9_2 ex9_2 => ?_
  refine a_lstore (y := x9_2) (L' := [none, none, none, none, some (vl x4), none, some (vl x6), none, some (vi x8), some (vl x9_2), none]) dX10_commonMeasure_32 ex9_2 rfl rfl rfl ?_
  refine a_lload dX10_commonMeasure_34 rfl ?_
  refine a_lstore (L' := [none, none, none, none, some (vl x6), none, some (vl x6), none, some (vi x8), some (vl x9_2), none]) dX10_commonMeasure_36 rfl rfl rfl rfl ?_
  refine a_lload dX10_commonMeasure_38 rfl ?_
  refine a_lstore (L' := [none, none, none, none, some (vl x6), none, some (vl x9_2), none, some (vi x8), some (vl x9_2), none]) dX10_commonMeasure_40 rfl rfl rfl rfl ?_
  refine a_bv fun x8_3 ex8_3 => ?_
  refine a_iinc (y := x8_3) (L' := [none, none, none, none, some (vl x6), none, some (vl x9_2), none, some (vi x8_3), some (vl x9_2), none]) dX10_commonMeasure_42 rfl ex8_3 rfl rfl rfl ?_
  refine a_goto dX10_commonMeasure_45 rfl ?_
  exact a_L (lsub_get (A := [none, none, none, none, some (vl x6), none, some (vl x9_2), none, some (vi x8_3), none, none]) ⟨rfl, ⟨rfl, ⟨rfl, trivial⟩⟩⟩) (hself _ _ _ _)
set_option maxRecDepth 100000 in
set_option maxHeartbeats 4000000 in
theorem cl_W_commonMeasure_12 {K : KX} {x : Bool} (F : Nat) : ∀ (n : Nat) (σ : St) (x4 x6 x8 : Int), WA 1 0 2 cX10_commonMeasure RX10 11 (some .long) (LYC x false false) (LYC x false false) K 12 [none, none, none, none, some (vl x4), none, some (vl x6), none, some (vi x8), none, none] [] σ (l_W_commonMeasure_12 F n σ x4 x6 x8)
  | 0, _, _, _, _ => a_none
  | n + 1, σ, x4, x6, x8 => cb_W_commonMeasure_12 F _ (cl_W_commonMeasure_12 F n) σ x4 x6 x8
set_option maxRecDepth 100000 in
set_option maxHeartbeats 4000000 in
theorem c_W_commonMeasure {x : Bool} (F : Nat) (σ : St) (x0 x2 : Int) : Ct 1 0 2 yX10_commonMeasure cX10_commonMeasure 11 (some .long) (LYC x false false) (LYC x false false) [vl x0, vl x2] σ (f_W_commonMeasure F σ x0 x2) := by
  unfold f_W_commonMeasure
  refine Ct_of (d := 1) (kp := 0) (kd := 2) (own := RX10) (nL := 11) (ret := (some .long)) (LY := (LYC x false false)) (LYe := (LYC x false false)) (L := [some (vl x0), none, some (vl x2), none, none, none, none, none, none, none, none]) rfl (by decide +kernel) rfl rfl mf_X10_334.2.2.2.1 rfl fun K => ?_
  refine a_lload_n dX10_commonMeasure_0 rfl ?_
  refine a_mabsl mf_X10_364 rfl rfl dX10_commonMeasure_1 ?_
  refine a_bvl fun t1 => ?_
  refine a_lstore (L' := [some (vl x0), none, some (vl x2), none, some (vl t1), none, none, none, none, none, none]) dX10_commonMeasure_4 rfl rfl rfl rfl ?_
  refine a_lload_n dX10_commonMeasure_6 rfl ?_
  refine a_lstore (L' := [some (vl x0), none, some (vl x2), none, some (vl t1), none, some (vl x2), none, none, none, none]) dX10_commonMeasure_7 rfl rfl rfl rfl ?_
  refine a_iconst dX10_commonMeasure_9 ?_
  refine a_istore (L' := [some (vl x0), none, some (vl x2), none, some (vl t1), none, some (vl x2), none, some (vi 0), none, none]) dX10_commonMeasure_10 rfl rfl rfl rfl ?_
  exact a_L (lsub_get (A := [none, none, none, none, some (vl t1), none, some (vl x2), none, some (vi 0), none, none]) ⟨rfl, ⟨rfl, ⟨rfl, trivial⟩⟩⟩) (cl_W_commonMeasure_12 F F _ _ _ _)
def b_Scene_partsAll_scene0_19 (F : Nat) (self : St → Int → Int → Int → Int → Option (Int × St)) (σ : St) (x1 x2 x3 x5 : Int) : Option (Int × St) := gd (rng x5 ∧ rng (gF σ 5059)) (if (gF σ 5059) ≤ x5 then gd (rng64 x3 ∧ rng64 1) (if x3 = 1 then some (1, σ) else some (0, σ)) else gd (rng x1 ∧ sh5 x5) (bv (iandI (x1 / 2 ^ (Int.toNat x5)) 1) fun t5 => gd (rng t5 ∧ rng 1) (if t5 = 1 then gd (inb x5 10) (gd (inb x2 10) (bv ((gA σ 55 (Int.toNat x5)) - (gA σ 55 (Int.toNat x2))) fun t7 => gd (rng t7) (bnd (f_W_commonMeasure F σ t7 x3) fun r8 σ9 => bv (x5 + 1) fun x5_10 => self σ9 x1 x2 r8 x5_10))) else bv (x5 + 1) fun x5_6 => self σ x1 x2 x3 x5_6)))
def l_Scene_partsAll_scene0_19 (F : Nat) : Nat → St → Int → Int → Int → Int → Option (Int × St)
  | 0 => fun _ _ _ _ _ => none
  | n + 1 => fun σ x1 x2 x3 x5 => b_Scene_partsAll_scene0_19 F (l_Scene_partsAll_scene0_19 F n) σ x1 x2 x3 x5
def f_Scene_partsAll_scene0 (F : Nat) (σ : St) (x1 : Int) : Option (Int × St) := bnd (f_JI_numberOfTrailingZeros F σ x1) fun r1 σ2 => gd (rng (gF σ2 1472)) (bv (gF σ2 1472) fun x3_3 => bv (r1 + 1) fun x5_4 => l_Scene_partsAll_scene0_19 F F σ2 x1 r1 x3_3 x5_4)
set_option maxRecDepth 100000 in
set_option maxHeartbeats 4000000 in
theorem cb_Scene_partsAll_scene0_19 {K : KX} {x : Bool} (F : Nat) (self : St → Int → Int → Int → Int → Option (Int × St)) (hself : ∀ σ x1 x2 x3 x5, WA 2 0 1 cX7_partsAll RX7 6 (some .boolean) (LYC x false false) (LYC x false false) K 19 [some (.ref 79), some (vi x1), some (vi x2), some (vl x3), none, some (vi x5)] [] σ (self σ x1 x2 x3 x5)) (σ : St) (x1 x2 x3 x5 : Int) : WA 2 0 1 cX7_partsAll RX7 6 (some .boolean) (LYC x false false) (LYC x false false) K 19 [some (.ref 79), some (vi x1), some (vi x2), some (vl x3), none, some (vi x5)] [] σ (b_Scene_partsAll_scene0_19 F self σ x1 x2 x3 x5) := by
  unfold b_Scene_partsAll_scene0_19
  refine a_iload dX7_partsAll_19 rfl ?_
  refine a_aload_n dX7_partsAll_21 rfl ?_
  refine a_getI fl_X7_48 lyC_79 rfl dX7_partsAll_22 (key := 5059) rfl ?_
  refine a_icmp_ge dX7_partsAll_25 rfl (fun _ => ?_) (fun _ => ?_)
  · refine a_lload_n dX7_partsAll_64 rfl ?_
    refine a_lconst (v := 1) dX7_partsAll_65 rfl ?_
    refine a_lcmp_ne dX7_partsAll_66 dX7_partsAll_67 rfl (fun _ => ?_) (fun _ => ?_)
    · refine a_iconst dX7_partsAll_74 ?_
      exact a_zretc (by decide) dX7_partsAll_75
    refine a_iconst dX7_partsAll_70 ?_
    refine a_goto dX7_partsAll_71 rfl ?_
    exact a_zretc (by decide) dX7_partsAll_75
  refine a_iload_n dX7_partsAll_28 rfl ?_
  refine a_iload dX7_partsAll_29 rfl ?_
  refine a_ishr dX7_partsAll_31 (fun _ => ?_)
  refine a_iconst dX7_partsAll_32 ?_
  refine a_iand dX7_partsAll_33 ?_
  refine a_bvi fun t5 => ?_
  refine a_iconst dX7_partsAll_34 ?_
  refine a_icmp_ne dX7_partsAll_35 rfl (fun _ => ?_) (fun _ => ?_)
  · refine a_bv fun x5_6 ex5_6 => ?_
    refine a_iinc (y := x5_6) (L' := [some (.ref 79), some (vi x1), some (vi x2), some (vl x3), none, some (vi x5_6)]) dX7_partsAll_58 rfl ex5_6 rfl rfl rfl ?_
    refine a_goto dX7_partsAll_61 rfl ?_
    exact hself _ _ _ _ _
  refine a_aload_n dX7_partsAll_38 rfl ?_
  refine a_getR (c0 := 55) fl_X7_25 lyC_79 rfl dX7_partsAll_39 (key := 5060) rfl ?_
  refine a_iload dX7_partsAll_42 rfl ?_
  refine a_iald lyC_55 rfl dX7_partsAll_44 ?_
  refine a_aload_n dX7_partsAll_45 rfl ?_
  refine a_getR (c0 := 55) fl_X7_25 lyC_79 rfl dX7_partsAll_46 (key := 5060) rfl ?_
  refine a_iload_n dX7_partsAll_49 rfl ?_
  refine a_iald lyC_55 rfl dX7_partsAll_50 ?_
  refine a_isub dX7_partsAll_51 ?_
  refine a_bvi fun t7 => ?_
  refine a_i2l dX7_partsAll_52 (fun _ => ?_)
  refine a_lload_n dX7_partsAll_53 rfl ?_
  refine a_callNl (as := [vl t7, vl x3]) mf_X7_114 (c_W_commonMeasure F _ _ _) LYsame.rf dX7_partsAll_54 rfl rfl rfl rfl rfl rfl (Or.inl rfl) fun r8 σ9 => ?_
  refine a_lstore_n (L' := [some (.ref 79), some (vi x1), some (vi x2), some (vl r8), none, some (vi x5)]) dX7_partsAll_57 rfl rfl rfl rfl ?_
  refine a_bv fun x5_10 ex5_10 => ?_
  refine a_iinc (y := x5_10) (L' := [some (.ref 79), some (vi x1), some (vi x2), some (vl r8), none, some (vi x5_10)]) dX7_partsAll_58 rfl ex5_10 rfl rfl rfl ?_
  refine a_goto dX7_partsAll_61 rfl ?_
  exact hself _ _ _ _ _
set_option maxRecDepth 100000 in
set_option maxHeartbeats 4000000 in
theorem cl_Scene_partsAll_scene0_19 {K : KX} {x : Bool} (F : Nat) : ∀ (n : Nat) (σ : St) (x1 x2 x3 x5 : Int), WA 2 0 1 cX7_partsAll RX7 6 (some .boolean) (LYC x false false) (LYC x false false) K 19 [some (.ref 79), some (vi x1), some (vi x2), some (vl x3), none, some (vi x5)] [] σ (l_Scene_partsAll_scene0_19 F n σ x1 x2 x3 x5)
  | 0, _, _, _, _, _ => a_none
  | n + 1, σ, x1, x2, x3, x5 => cb_Scene_partsAll_scene0_19 F _ (cl_Scene_partsAll_scene0_19 F n) σ x1 x2 x3 x5
set_option maxRecDepth 100000 in
set_option maxHeartbeats 4000000 in
theorem c_Scene_partsAll_scene0 {x : Bool} (F : Nat) (σ : St) (x1 : Int) : Ct 2 0 1 yX7_partsAll cX7_partsAll 6 (some .boolean) (LYC x false false) (LYC x false false) [.ref 79, vi x1] σ (f_Scene_partsAll_scene0 F σ x1) := by
  unfold f_Scene_partsAll_scene0
  refine Ct_of (d := 2) (kp := 0) (kd := 1) (own := RX7) (nL := 6) (ret := (some .boolean)) (LY := (LYC x false false)) (LYe := (LYC x false false)) (L := [some (.ref 79), some (vi x1), none, none, none, none]) rfl (by decide +kernel) rfl rfl mf_X10_270.2.2.2.1 rfl fun K => ?_
  refine a_iload_n dX7_partsAll_0 rfl ?_
  refine a_callSi (as := [vi x1]) mf_X7_109 (c_JI_numberOfTrailingZeros F _ _) LYsame.rf dX7_partsAll_1 rfl rfl rfl rfl rfl rfl (Or.inl rfl) fun r1 σ2 => ?_
  refine a_istore_n (L' := [some (.ref 79), some (vi x1), some (vi r1), none, none, none]) dX7_partsAll_4 rfl rfl rfl rfl ?_
  refine a_aload_n dX7_partsAll_5 rfl ?_
  refine a_getR (c0 := 23) fl_X7_12 lyC_79 rfl dX7_partsAll_6 (key := 5056) rfl ?_
  refine a_getI fl_X7_73 lyC_23 rfl dX7_partsAll_9 (key := 1472) rfl ?_
  refine a_i2l dX7_partsAll_12 (fun _ => ?_)
  refine a_bv fun x3_3 ex3_3 => ?_
  refine a_lstore_n (y := x3_3) (L' := [some (.ref 79), some (vi x1), some (vi r1), some (vl x3_3), none, none]) dX7_partsAll_13 ex3_3 rfl rfl rfl ?_
  refine a_iload_n dX7_partsAll_14 rfl ?_
  refine a_iconst dX7_partsAll_15 ?_
  refine a_iadd dX7_partsAll_16 ?_
  refine a_bv fun x5_4 ex5_4 => ?_
  refine a_istore (y := x5_4) (L' := [some (.ref 79), some (vi x1), some (vi r1), some (vl x3_3), none, some (vi x5_4)]) dX7_partsAll_17 ex5_4 rfl rfl rfl ?_
  exact cl_Scene_partsAll_scene0_19 F F _ _ _ _ _
def b_W_enough_7 (F : Nat) (self : St → Int → Int → Int → Option (Int × St)) (σ : St) (x1 x2 x3 : Int) : Option (Int × St) := gd (sh5 (gF σ 5059)) (bv (1 * 2 ^ (Int.toNat (gF σ 5059))) fun t1 => gd (rng x3 ∧ rng t1) (if t1 ≤ x3 then some (x1, σ) else bnd (f_JI_bitCount F σ x3) fun r2 σ3 => gd (rng r2 ∧ rng x2) (if x2 ≤ r2 then bv (x3 + 1) fun x3_4 => self σ3 x1 x2 x3_4 else bnd (f_Scene_partsAll_scene0 F σ3 x3) fun r5 σ6 => gd (rng r5) (if r5 = 0 then bv (x3 + 1) fun x3_7 => self σ6 x1 x2 x3_7 else bv (x3 + 1) fun x3_8 => self σ6 x3 r2 x3_8))))
def l_W_enough_7 (F : Nat) : Nat → St → Int → Int → Int → Option (Int × St)
  | 0 => fun _ _ _ _ => none
  | n + 1 => fun σ x1 x2 x3 => b_W_enough_7 F (l_W_enough_7 F n) σ x1 x2 x3
def f_W_enough (F : Nat) (σ : St) : Option (Int × St) := l_W_enough_7 F F σ (-1) 11 0
set_option maxRecDepth 100000 in
set_option maxHeartbeats 4000000 in
theorem cb_W_enough_7 {K : KX} {x : Bool} (F : Nat) (self : St → Int → Int → Int → Option (Int × St)) (hself : ∀ σ x1 x2 x3, WA 3 0 1 cX10_enough RX10 5 (some .int) (LYC x false false) (LYC x false false) K 7 [some (.ref 0), some (vi x1), some (vi x2), some (vi x3), none] [] σ (self σ x1 x2 x3)) (σ : St) (x1 x2 x3 : Int) : WA 3 0 1 cX10_enough RX10 5 (some .int) (LYC x false false) (LYC x false false) K 7 [some (.ref 0), some (vi x1), some (vi x2), some (vi x3), none] [] σ (b_W_enough_7 F self σ x1 x2 x3) := by
  unfold b_W_enough_7
  refine a_iload_n dX10_enough_7 rfl ?_
  refine a_iconst dX10_enough_8 ?_
  refine a_aload_n dX10_enough_9 rfl ?_
  refine a_getR (c0 := 79) fl_X10_26 lyC_0 rfl dX10_enough_10 (key := 2) rfl ?_
  refine a_getI fl_X10_172 lyC_79 rfl dX10_enough_13 (key := 5059) rfl ?_
  refine a_ishl dX10_enough_16 (fun _ => ?_)
  refine a_bvi fun t1 => ?_
  refine a_icmp_ge dX10_enough_17 rfl (fun _ => ?_) (fun _ => ?_)
  · refine a_iload_n dX10_enough_54 rfl ?_
    exact a_iret dX10_enough_55
  refine a_iload_n dX10_enough_20 rfl ?_
  refine a_callSi (as := [vi x3]) mf_X10_265 (c_JI_bitCount F _ _) LYsame.rf dX10_enough_21 rfl rfl rfl rfl rfl rfl (Or.inl rfl) fun r2 σ3 => ?_
  refine a_istore (L' := [some (.ref 0), some (vi x1), some (vi x2), some (vi x3), some (vi r2)]) dX10_enough_24 rfl rfl rfl rfl ?_
  refine a_iload dX10_enough_26 rfl ?_
  refine a_iload_n dX10_enough_28 rfl ?_
  refine a_icmp_ge dX10_enough_29 rfl (fun _ => ?_) (fun _ => ?_)
  · refine a_bv fun x3_4 ex3_4 => ?_
    refine a_iinc (y := x3_4) (L' := [some (.ref 0), some (vi x1), some (vi x2), some (vi x3_4), some (vi r2)]) dX10_enough_48 rfl ex3_4 rfl rfl rfl ?_
    refine a_goto dX10_enough_51 rfl ?_
    exact a_L (lsub_get (A := [some (.ref 0), some (vi x1), some (vi x2), some (vi x3_4), none]) ⟨rfl, ⟨rfl, ⟨rfl, ⟨rfl, trivial⟩⟩⟩⟩) (hself _ _ _ _)
  refine a_aload_n dX10_enough_32 rfl ?_
  refine a_getR (c0 := 79) fl_X10_26 lyC_0 rfl dX10_enough_33 (key := 2) rfl ?_
  refine a_iload_n dX10_enough_36 rfl ?_
  refine a_callVi (as := [vi x3]) mf_X10_270 lyC_79 rfl (c_Scene_partsAll_scene0 F _ _) LYsame.rf dX10_enough_37 rfl rfl rfl rfl rfl rfl (Or.inl rfl) fun r5 σ6 => ?_
  refine a_if_eq dX10_enough_40 rfl (fun _ => ?_) (fun _ => ?_)
  · refine a_bv fun x3_7 ex3_7 => ?_
    refine a_iinc (y := x3_7) (L' := [some (.ref 0), some (vi x1), some (vi x2), some (vi x3_7), some (vi r2)]) dX10_enough_48 rfl ex3_7 rfl rfl rfl ?_
    refine a_goto dX10_enough_51 rfl ?_
    exact a_L (lsub_get (A := [some (.ref 0), some (vi x1), some (vi x2), some (vi x3_7), none]) ⟨rfl, ⟨rfl, ⟨rfl, ⟨rfl, trivial⟩⟩⟩⟩) (hself _ _ _ _)
  refine a_iload_n dX10_enough_43 rfl ?_
  refine a_istore_n (L' := [some (.ref 0), some (vi x3), some (vi x2), some (vi x3), some (vi r2)]) dX10_enough_44 rfl rfl rfl rfl ?_
  refine a_iload dX10_enough_45 rfl ?_
  refine a_istore_n (L' := [some (.ref 0), some (vi x3), some (vi r2), some (vi x3), some (vi r2)]) dX10_enough_47 rfl rfl rfl rfl ?_
  refine a_bv fun x3_8 ex3_8 => ?_
  refine a_iinc (y := x3_8) (L' := [some (.ref 0), some (vi x3), some (vi r2), some (vi x3_8), some (vi r2)]) dX10_enough_48 rfl ex3_8 rfl rfl rfl ?_
  refine a_goto dX10_enough_51 rfl ?_
  exact a_L (lsub_get (A := [some (.ref 0), some (vi x3), some (vi r2), some (vi x3_8), none]) ⟨rfl, ⟨rfl, ⟨rfl, ⟨rfl, trivial⟩⟩⟩⟩) (hself _ _ _ _)
set_option maxRecDepth 100000 in
set_option maxHeartbeats 4000000 in
theorem cl_W_enough_7 {K : KX} {x : Bool} (F : Nat) : ∀ (n : Nat) (σ : St) (x1 x2 x3 : Int), WA 3 0 1 cX10_enough RX10 5 (some .int) (LYC x false false) (LYC x false false) K 7 [some (.ref 0), some (vi x1), some (vi x2), some (vi x3), none] [] σ (l_W_enough_7 F n σ x1 x2 x3)
  | 0, _, _, _, _ => a_none
  | n + 1, σ, x1, x2, x3 => cb_W_enough_7 F _ (cl_W_enough_7 F n) σ x1 x2 x3
set_option maxRecDepth 100000 in
set_option maxHeartbeats 4000000 in
theorem c_W_enough {x : Bool} (F : Nat) (σ : St) : Ct 3 0 1 yX10_enough cX10_enough 5 (some .int) (LYC x false false) (LYC x false false) [.ref 0] σ (f_W_enough F σ) := by
  unfold f_W_enough
  refine Ct_of (d := 3) (kp := 0) (kd := 1) (own := RX10) (nL := 5) (ret := (some .int)) (LY := (LYC x false false)) (LYe := (LYC x false false)) (L := [some (.ref 0), none, none, none, none]) rfl (by decide +kernel) rfl rfl mf_L_132.2.2.2.1 rfl fun K => ?_
  refine a_iconst dX10_enough_0 ?_
  refine a_istore_n (L' := [some (.ref 0), some (vi (-1)), none, none, none]) dX10_enough_1 rfl rfl rfl rfl ?_
  refine a_bipush dX10_enough_2 bi_11 ?_
  refine a_istore_n (L' := [some (.ref 0), some (vi (-1)), some (vi 11), none, none]) dX10_enough_4 rfl rfl rfl rfl ?_
  refine a_iconst dX10_enough_5 ?_
  refine a_istore_n (L' := [some (.ref 0), some (vi (-1)), some (vi 11), some (vi 0), none]) dX10_enough_6 rfl rfl rfl rfl ?_
  exact cl_W_enough_7 F F _ _ _ _
def b_Scene_dropHearer_scene0_2 (F : Nat) (self : St → Int → Option (Int × St)) (σ : St) (x2 : Int) : Option (Int × St) := gd (rng (x2 + 1) ∧ rng (gF σ 5059)) (if (gF σ 5059) ≤ (x2 + 1) then bs (sF σ 5059 ((gF σ 5059) - 1)) fun σ1 => some (0, σ1) else gd (inb (x2 + 1) 10) (gd (inb x2 10) (bs (sA σ 55 (Int.toNat x2) (gA σ 55 (Int.toNat (x2 + 1)))) fun σ2 => gd (inb (x2 + 1) 10) (bv (gA σ2 59 (Int.toNat (x2 + 1))) fun t3 => gd (inb x2 10) (bs (sA σ2 59 (Int.toNat x2) t3) fun σ4 => bv (x2 + 1) fun x2_5 => self σ4 x2_5)))))
def l_Scene_dropHearer_scene0_2 (F : Nat) : Nat → St → Int → Option (Int × St)
  | 0 => fun _ _ => none
  | n + 1 => fun σ x2 => b_Scene_dropHearer_scene0_2 F (l_Scene_dropHearer_scene0_2 F n) σ x2
def f_Scene_dropHearer_scene0 (F : Nat) (σ : St) (x1 : Int) : Option (Int × St) := l_Scene_dropHearer_scene0_2 F F σ x1
set_option maxRecDepth 100000 in
set_option maxHeartbeats 4000000 in
theorem cb_Scene_dropHearer_scene0_2 {K : KX} {x : Bool} (F : Nat) (self : St → Int → Option (Int × St)) (hself : ∀ σ x2, WA 1 0 0 cX7_dropHearer RX7 3 none (LYC x false false) (LYC x false false) K 2 [some (.ref 79), none, some (vi x2)] [] σ (self σ x2)) (σ : St) (x2 : Int) : WA 1 0 0 cX7_dropHearer RX7 3 none (LYC x false false) (LYC x false false) K 2 [some (.ref 79), none, some (vi x2)] [] σ (b_Scene_dropHearer_scene0_2 F self σ x2) := by
  unfold b_Scene_dropHearer_scene0_2
  refine a_iload_n dX7_dropHearer_2 rfl ?_
  refine a_iconst dX7_dropHearer_3 ?_
  refine a_iadd dX7_dropHearer_4 ?_
  refine a_aload_n dX7_dropHearer_5 rfl ?_
  refine a_getI fl_X7_48 lyC_79 rfl dX7_dropHearer_6 (key := 5059) rfl ?_
  refine a_icmp_ge dX7_dropHearer_9 rfl (fun _ => ?_) (fun _ => ?_)
  · refine a_aload_n dX7_dropHearer_46 rfl ?_
    refine a_dup dX7_dropHearer_47 rfl ?_
    refine a_getI fl_X7_48 lyC_79 rfl dX7_dropHearer_48 (key := 5059) rfl ?_
    refine a_iconst dX7_dropHearer_51 ?_
    refine a_isub dX7_dropHearer_52 ?_
    refine a_putI fl_X7_48 cf_X7 rfl rfl lyC_79 rfl dX7_dropHearer_53 (key := 5059) rfl fun σ1 => ?_
    exact a_vret dX7_dropHearer_56
  refine a_aload_n dX7_dropHearer_12 rfl ?_
  refine a_getR (c0 := 55) fl_X7_25 lyC_79 rfl dX7_dropHearer_13 (key := 5060) rfl ?_
  refine a_iload_n dX7_dropHearer_16 rfl ?_
  refine a_aload_n dX7_dropHearer_17 rfl ?_
  refine a_getR (c0 := 55) fl_X7_25 lyC_79 rfl dX7_dropHearer_18 (key := 5060) rfl ?_
  refine a_iload_n dX7_dropHearer_21 rfl ?_
  refine a_iconst dX7_dropHearer_22 ?_
  refine a_iadd dX7_dropHearer_23 ?_
  refine a_iald lyC_55 rfl dX7_dropHearer_24 ?_
  refine a_iast lyC_55 rfl dX7_dropHearer_25 fun σ2 => ?_
  refine a_aload_n dX7_dropHearer_26 rfl ?_
  refine a_getR (c0 := 59) fl_X7_29 lyC_79 rfl dX7_dropHearer_27 (key := 5061) rfl ?_
  refine a_iload_n dX7_dropHearer_30 rfl ?_
  refine a_aload_n dX7_dropHearer_31 rfl ?_
  refine a_getR (c0 := 59) fl_X7_29 lyC_79 rfl dX7_dropHearer_32 (key := 5061) rfl ?_
  refine a_iload_n dX7_dropHearer_35 rfl ?_
  refine a_iconst dX7_dropHearer_36 ?_
  refine a_iadd dX7_dropHearer_37 ?_
  refine a_iald lyC_59 rfl dX7_dropHearer_38 ?_
  refine a_bvi fun t3 => ?_
  refine a_iast lyC_59 rfl dX7_dropHearer_39 fun σ4 => ?_
  refine a_bv fun x2_5 ex2_5 => ?_
  refine a_iinc (y := x2_5) (L' := [some (.ref 79), none, some (vi x2_5)]) dX7_dropHearer_40 rfl ex2_5 rfl rfl rfl ?_
  refine a_goto dX7_dropHearer_43 rfl ?_
  exact hself _ _
set_option maxRecDepth 100000 in
set_option maxHeartbeats 4000000 in
theorem cl_Scene_dropHearer_scene0_2 {K : KX} {x : Bool} (F : Nat) : ∀ (n : Nat) (σ : St) (x2 : Int), WA 1 0 0 cX7_dropHearer RX7 3 none (LYC x false false) (LYC x false false) K 2 [some (.ref 79), none, some (vi x2)] [] σ (l_Scene_dropHearer_scene0_2 F n σ x2)
  | 0, _, _ => a_none
  | n + 1, σ, x2 => cb_Scene_dropHearer_scene0_2 F _ (cl_Scene_dropHearer_scene0_2 F n) σ x2
set_option maxRecDepth 100000 in
set_option maxHeartbeats 4000000 in
theorem c_Scene_dropHearer_scene0 {x : Bool} (F : Nat) (σ : St) (x1 : Int) : Ct 1 0 0 yX7_dropHearer cX7_dropHearer 3 none (LYC x false false) (LYC x false false) [.ref 79, vi x1] σ (f_Scene_dropHearer_scene0 F σ x1) := by
  unfold f_Scene_dropHearer_scene0
  refine Ct_of (d := 1) (kp := 0) (kd := 0) (own := RX7) (nL := 3) (ret := none) (LY := (LYC x false false)) (LYe := (LYC x false false)) (L := [some (.ref 79), some (vi x1), none]) rfl (by decide +kernel) rfl rfl mf_X10_273.2.2.2.1 rfl fun K => ?_
  refine a_iload_n dX7_dropHearer_0 rfl ?_
  refine a_istore_n (L' := [some (.ref 79), some (vi x1), some (vi x1)]) dX7_dropHearer_1 rfl rfl rfl rfl ?_
  exact a_L (lsub_get (A := [some (.ref 79), none, some (vi x1)]) ⟨rfl, ⟨rfl, trivial⟩⟩) (cl_Scene_dropHearer_scene0_2 F F _ _)
def f_W_lose (F : Nat) (σ : St) (x1 : Int) : Option (Int × St) := bnd (f_Scene_hasHearer_scene0 F σ x1) fun r1 σ2 => gd (rng r1) (if r1 = 0 then some ((-1), σ2) else bnd (f_Scene_dropHearer_scene0 F σ2 x1) fun r3 σ4 => some ((gF σ4 5059), σ4))
set_option maxRecDepth 100000 in
set_option maxHeartbeats 4000000 in
theorem c_W_lose {x : Bool} (F : Nat) (σ : St) (x1 : Int) : Ct 2 0 1 yX10_lose cX10_lose 2 (some .int) (LYC x false false) (LYC x false false) [.ref 0, vi x1] σ (f_W_lose F σ x1) := by
  unfold f_W_lose
  refine Ct_of (d := 2) (kp := 0) (kd := 1) (own := RX10) (nL := 2) (ret := (some .int)) (LY := (LYC x false false)) (LYe := (LYC x false false)) (L := [some (.ref 0), some (vi x1)]) rfl (by decide +kernel) rfl rfl mf_L_136.2.2.2.1 rfl fun K => ?_
  refine a_aload_n dX10_lose_0 rfl ?_
  refine a_getR (c0 := 79) fl_X10_26 lyC_0 rfl dX10_lose_1 (key := 2) rfl ?_
  refine a_iload_n dX10_lose_4 rfl ?_
  refine a_callVi (as := [vi x1]) mf_X10_121 lyC_79 rfl (c_Scene_hasHearer_scene0 F _ _) LYsame.rf dX10_lose_5 rfl rfl rfl rfl rfl rfl (Or.inl rfl) fun r1 σ2 => ?_
  refine a_if_ne dX10_lose_8 rfl (fun _ => ?_) (fun _ => ?_)
  · refine a_aload_n dX10_lose_13 rfl ?_
    refine a_getR (c0 := 79) fl_X10_26 lyC_0 rfl dX10_lose_14 (key := 2) rfl ?_
    refine a_iload_n dX10_lose_17 rfl ?_
    refine a_callVv (as := [vi x1]) mf_X10_273 lyC_79 rfl (c_Scene_dropHearer_scene0 F _ _) LYsame.rf dX10_lose_18 rfl rfl rfl rfl rfl rfl (Or.inl rfl) fun r3 σ4 => ?_
    refine a_aload_n dX10_lose_21 rfl ?_
    refine a_getR (c0 := 79) fl_X10_26 lyC_0 rfl dX10_lose_22 (key := 2) rfl ?_
    refine a_getI fl_X10_172 lyC_79 rfl dX10_lose_25 (key := 5059) rfl ?_
    exact a_iret dX10_lose_28
  refine a_iconst dX10_lose_11 ?_
  exact a_iret dX10_lose_12
def b_Makers_hear_scene0_readings_54 (F : Nat) (k32 : St → Int → Option (Int × St)) (self : St → Int → Int → Option (Int × St)) (σ : St) (x3 x4 : Int) : Option (Int × St) := gd (rng x4 ∧ rng (gF σ 6083)) (if (gF σ 6083) ≤ x4 then bv (x3 + 1) fun x3_6 => k32 σ x3_6 else gd (inb x4 60) (bnd (f_Scene_gainedWave_scene0 F σ x3 x4) fun r8 σ9 => gd (inb x3 10) (bs (sA σ9 (149 + (Int.toNat x4)) (Int.toNat x3) r8) fun σ10 => bv (x4 + 1) fun x4_11 => self σ10 x3 x4_11)))
def l_Makers_hear_scene0_readings_54 (F : Nat) (k32 : St → Int → Option (Int × St)) : Nat → St → Int → Int → Option (Int × St)
  | 0 => fun _ _ _ => none
  | n + 1 => fun σ x3 x4 => b_Makers_hear_scene0_readings_54 F k32 (l_Makers_hear_scene0_readings_54 F k32 n) σ x3 x4
def b_Makers_hear_scene0_readings_32 (F : Nat) (self : St → Int → Option (Int × St)) (σ : St) (x3 : Int) : Option (Int × St) := gd (rng x3 ∧ rng (gF σ 6084)) (if (gF σ 6084) ≤ x3 then some (0, σ) else gd (inb 0 3) (gd (inb x3 10) (gd (inb x3 10) (bs (sA σ (212 + (Int.toNat 0)) (Int.toNat x3) (gA σ 94 (Int.toNat x3))) fun σ5 => l_Makers_hear_scene0_readings_54 F self F σ5 x3 0))))
def l_Makers_hear_scene0_readings_32 (F : Nat) : Nat → St → Int → Option (Int × St)
  | 0 => fun _ _ => none
  | n + 1 => fun σ x3 => b_Makers_hear_scene0_readings_32 F (l_Makers_hear_scene0_readings_32 F n) σ x3
def f_Makers_hear_scene0_readings (F : Nat) (σ : St) : Option (Int × St) := bs (sF σ 6082 (gF σ 1473)) fun σ1 => bs (sF σ1 6083 (gF σ1 1472)) fun σ2 => bs (sF σ2 6084 (gF σ2 5059)) fun σ3 => l_Makers_hear_scene0_readings_32 F F σ3 0
set_option maxRecDepth 100000 in
set_option maxHeartbeats 4000000 in
theorem cb_Makers_hear_scene0_readings_54 {K : KX} {x : Bool} (F : Nat) (k32 : St → Int → Option (Int × St)) (h32 : ∀ σ x3, WA 3 0 0 cX3_hear RX3 5 none (LYC x false false) (LYC x false false) K 32 [some (.ref 95), some (.ref 79), some (.ref 94), some (vi x3), none] [] σ (k32 σ x3)) (self : St → Int → Int → Option (Int × St)) (hself : ∀ σ x3 x4, WA 3 0 0 cX3_hear RX3 5 none (LYC x false false) (LYC x false false) K 54 [some (.ref 95), some (.ref 79), some (.ref 94), some (vi x3), some (vi x4)] [] σ (self σ x3 x4)) (σ : St) (x3 x4 : Int) : WA 3 0 0 cX3_hear RX3 5 none (LYC x false false) (LYC x false false) K 54 [some (.ref 95), some (.ref 79), some (.ref 94), some (vi x3), some (vi x4)] [] σ (b_Makers_hear_scene0_readings_54 F k32 self σ x3 x4) := by
  unfold b_Makers_hear_scene0_readings_54
  refine a_iload dX3_hear_54 rfl ?_
  refine a_aload_n dX3_hear_56 rfl ?_
  refine a_getI fl_X3_51 lyC_95 rfl dX3_hear_57 (key := 6083) rfl ?_
  refine a_icmp_ge dX3_hear_60 rfl (fun _ => ?_) (fun _ => ?_)
  · refine a_bv fun x3_6 ex3_6 => ?_
    refine a_iinc (y := x3_6) (L' := [some (.ref 95), some (.ref 79), some (.ref 94), some (vi x3_6), some (vi x4)]) dX3_hear_85 rfl ex3_6 rfl rfl rfl ?_
    refine a_goto dX3_hear_88 rfl ?_
    exact a_L (lsub_get (A := [some (.ref 95), some (.ref 79), some (.ref 94), some (vi x3_6), none]) ⟨rfl, ⟨rfl, ⟨rfl, ⟨rfl, trivial⟩⟩⟩⟩) (h32 _ _)
  refine a_aload_n dX3_hear_63 rfl ?_
  refine a_getR (c0 := 97) fl_X3_17 lyC_95 rfl dX3_hear_64 (key := 6085) rfl ?_
  refine a_iload dX3_hear_67 rfl ?_
  refine a_aaldI lyC_97 rfl dX3_hear_69 fun hi7 => ?_
  refine a_iload_n dX3_hear_70 rfl ?_
  refine a_aload_n dX3_hear_71 rfl ?_
  refine a_iload_n dX3_hear_72 rfl ?_
  refine a_iload dX3_hear_73 rfl ?_
  refine a_callVi (as := [vi x3, vi x4]) mf_X3_56 lyC_79 rfl (c_Scene_gainedWave_scene0 F _ _ _) LYsame.rf dX3_hear_75 rfl rfl rfl rfl rfl rfl (Or.inl rfl) fun r8 σ9 => ?_
  refine a_iast (lyC_c _ (ix_lt hi7)) rfl dX3_hear_78 fun σ10 => ?_
  refine a_bv fun x4_11 ex4_11 => ?_
  refine a_iinc (y := x4_11) (L' := [some (.ref 95), some (.ref 79), some (.ref 94), some (vi x3), some (vi x4_11)]) dX3_hear_79 rfl ex4_11 rfl rfl rfl ?_
  refine a_goto dX3_hear_82 rfl ?_
  exact hself _ _ _
set_option maxRecDepth 100000 in
set_option maxHeartbeats 4000000 in
theorem cl_Makers_hear_scene0_readings_54 {K : KX} {x : Bool} (F : Nat) (k32 : St → Int → Option (Int × St)) (h32 : ∀ σ x3, WA 3 0 0 cX3_hear RX3 5 none (LYC x false false) (LYC x false false) K 32 [some (.ref 95), some (.ref 79), some (.ref 94), some (vi x3), none] [] σ (k32 σ x3)) : ∀ (n : Nat) (σ : St) (x3 x4 : Int), WA 3 0 0 cX3_hear RX3 5 none (LYC x false false) (LYC x false false) K 54 [some (.ref 95), some (.ref 79), some (.ref 94), some (vi x3), some (vi x4)] [] σ (l_Makers_hear_scene0_readings_54 F k32 n σ x3 x4)
  | 0, _, _, _ => a_none
  | n + 1, σ, x3, x4 => cb_Makers_hear_scene0_readings_54 F k32 h32 _ (cl_Makers_hear_scene0_readings_54 F k32 h32 n) σ x3 x4
set_option maxRecDepth 100000 in
set_option maxHeartbeats 4000000 in
theorem cb_Makers_hear_scene0_readings_32 {K : KX} {x : Bool} (F : Nat) (self : St → Int → Option (Int × St)) (hself : ∀ σ x3, WA 3 0 0 cX3_hear RX3 5 none (LYC x false false) (LYC x false false) K 32 [some (.ref 95), some (.ref 79), some (.ref 94), some (vi x3), none] [] σ (self σ x3)) (σ : St) (x3 : Int) : WA 3 0 0 cX3_hear RX3 5 none (LYC x false false) (LYC x false false) K 32 [some (.ref 95), some (.ref 79), some (.ref 94), some (vi x3), none] [] σ (b_Makers_hear_scene0_readings_32 F self σ x3) := by
  unfold b_Makers_hear_scene0_readings_32
  refine a_iload_n dX3_hear_32 rfl ?_
  refine a_aload_n dX3_hear_33 rfl ?_
  refine a_getI fl_X3_55 lyC_95 rfl dX3_hear_34 (key := 6084) rfl ?_
  refine a_icmp_ge dX3_hear_37 rfl (fun _ => ?_) (fun _ => ?_)
  · exact a_vret dX3_hear_91
  refine a_aload_n dX3_hear_40 rfl ?_
  refine a_getR (c0 := 100) fl_X3_26 lyC_95 rfl dX3_hear_41 (key := 6089) rfl ?_
  refine a_iconst dX3_hear_44 ?_
  refine a_aaldI lyC_100 rfl dX3_hear_45 fun hi4 => ?_
  refine a_iload_n dX3_hear_46 rfl ?_
  refine a_aload_n dX3_hear_47 rfl ?_
  refine a_iload_n dX3_hear_48 rfl ?_
  refine a_iald lyC_94 rfl dX3_hear_49 ?_
  refine a_iast (lyC_s _ (ix_lt hi4)) rfl dX3_hear_50 fun σ5 => ?_
  refine a_iconst dX3_hear_51 ?_
  refine a_istore (L' := [some (.ref 95), some (.ref 79), some (.ref 94), some (vi x3), some (vi 0)]) dX3_hear_52 rfl rfl rfl rfl ?_
  exact cl_Makers_hear_scene0_readings_54 F _ hself F _ _ _
set_option maxRecDepth 100000 in
set_option maxHeartbeats 4000000 in
theorem cl_Makers_hear_scene0_readings_32 {K : KX} {x : Bool} (F : Nat) : ∀ (n : Nat) (σ : St) (x3 : Int), WA 3 0 0 cX3_hear RX3 5 none (LYC x false false) (LYC x false false) K 32 [some (.ref 95), some (.ref 79), some (.ref 94), some (vi x3), none] [] σ (l_Makers_hear_scene0_readings_32 F n σ x3)
  | 0, _, _ => a_none
  | n + 1, σ, x3 => cb_Makers_hear_scene0_readings_32 F _ (cl_Makers_hear_scene0_readings_32 F n) σ x3
set_option maxRecDepth 100000 in
set_option maxHeartbeats 4000000 in
theorem c_Makers_hear_scene0_readings {x : Bool} (F : Nat) (σ : St) : Ct 3 0 0 yX3_hear cX3_hear 5 none (LYC x false false) (LYC x false false) [.ref 95, .ref 79, .ref 94] σ (f_Makers_hear_scene0_readings F σ) := by
  unfold f_Makers_hear_scene0_readings
  refine Ct_of (d := 3) (kp := 0) (kd := 0) (own := RX3) (nL := 5) (ret := none) (LY := (LYC x false false)) (LYe := (LYC x false false)) (L := [some (.ref 95), some (.ref 79), some (.ref 94), none, none]) rfl (by decide +kernel) rfl rfl mf_X10_276.2.2.2.1 rfl fun K => ?_
  refine a_aload_n dX3_hear_0 rfl ?_
  refine a_aload_n dX3_hear_1 rfl ?_
  refine a_getR (c0 := 23) fl_X3_35 lyC_79 rfl dX3_hear_2 (key := 5056) rfl ?_
  refine a_getI fl_X3_41 lyC_23 rfl dX3_hear_5 (key := 1473) rfl ?_
  refine a_putI fl_X3_47 cf_X3 rfl rfl lyC_95 rfl dX3_hear_8 (key := 6082) rfl fun σ1 => ?_
  refine a_aload_n dX3_hear_11 rfl ?_
  refine a_aload_n dX3_hear_12 rfl ?_
  refine a_getR (c0 := 23) fl_X3_35 lyC_79 rfl dX3_hear_13 (key := 5056) rfl ?_
  refine a_getI fl_X3_48 lyC_23 rfl dX3_hear_16 (key := 1472) rfl ?_
  refine a_putI fl_X3_51 cf_X3 rfl rfl lyC_95 rfl dX3_hear_19 (key := 6083) rfl fun σ2 => ?_
  refine a_aload_n dX3_hear_22 rfl ?_
  refine a_aload_n dX3_hear_23 rfl ?_
  refine a_getI fl_X3_52 lyC_79 rfl dX3_hear_24 (key := 5059) rfl ?_
  refine a_putI fl_X3_55 cf_X3 rfl rfl lyC_95 rfl dX3_hear_27 (key := 6084) rfl fun σ3 => ?_
  refine a_iconst dX3_hear_30 ?_
  refine a_istore_n (L' := [some (.ref 95), some (.ref 79), some (.ref 94), some (vi 0), none]) dX3_hear_31 rfl rfl rfl rfl ?_
  exact cl_Makers_hear_scene0_readings_32 F F _ _
def b_Makers_hearAllBut_7 (F : Nat) (self : St → Int → Int → Int → Option (Int × St)) (σ : St) (x1 x2 x3 : Int) : Option (Int × St) := gd (rng x3 ∧ rng (gF σ 6084)) (if (gF σ 6084) ≤ x3 then some (0, σ) else gd (rng x3 ∧ rng x1) (if x3 = x1 then bv (x3 + 1) fun x3_2 => self σ x1 x2 x3_2 else gd (rng x3 ∧ rng x2) (if x3 = x2 then bv (x3 + 1) fun x3_3 => self σ x1 x2 x3_3 else gd (inb (gF σ 6086) 10) (bs (sA σ 98 (Int.toNat (gF σ 6086)) x3) fun σ4 => bs (sF σ4 6086 ((gF σ4 6086) + 1)) fun σ5 => bv (x3 + 1) fun x3_6 => self σ5 x1 x2 x3_6))))
def l_Makers_hearAllBut_7 (F : Nat) : Nat → St → Int → Int → Int → Option (Int × St)
  | 0 => fun _ _ _ _ => none
  | n + 1 => fun σ x1 x2 x3 => b_Makers_hearAllBut_7 F (l_Makers_hearAllBut_7 F n) σ x1 x2 x3
def f_Makers_hearAllBut (F : Nat) (σ : St) (x1 x2 : Int) : Option (Int × St) := bs (sF σ 6086 0) fun σ1 => l_Makers_hearAllBut_7 F F σ1 x1 x2 0
set_option maxRecDepth 100000 in
set_option maxHeartbeats 4000000 in
theorem cb_Makers_hearAllBut_7 {K : KX} {x : Bool} (F : Nat) (self : St → Int → Int → Int → Option (Int × St)) (hself : ∀ σ x1 x2 x3, WA 1 0 0 cX3_hearAllBut RX3 4 none (LYC x false false) (LYC x false false) K 7 [some (.ref 95), some (vi x1), some (vi x2), some (vi x3)] [] σ (self σ x1 x2 x3)) (σ : St) (x1 x2 x3 : Int) : WA 1 0 0 cX3_hearAllBut RX3 4 none (LYC x false false) (LYC x false false) K 7 [some (.ref 95), some (vi x1), some (vi x2), some (vi x3)] [] σ (b_Makers_hearAllBut_7 F self σ x1 x2 x3) := by
  unfold b_Makers_hearAllBut_7
  refine a_iload_n dX3_hearAllBut_7 rfl ?_
  refine a_aload_n dX3_hearAllBut_8 rfl ?_
  refine a_getI fl_X3_55 lyC_95 rfl dX3_hearAllBut_9 (key := 6084) rfl ?_
  refine a_icmp_ge dX3_hearAllBut_12 rfl (fun _ => ?_) (fun _ => ?_)
  · exact a_vret dX3_hearAllBut_51
  refine a_iload_n dX3_hearAllBut_15 rfl ?_
  refine a_iload_n dX3_hearAllBut_16 rfl ?_
  refine a_icmp_eq dX3_hearAllBut_17 rfl (fun _ => ?_) (fun _ => ?_)
  · refine a_bv fun x3_2 ex3_2 => ?_
    refine a_iinc (y := x3_2) (L' := [some (.ref 95), some (vi x1), some (vi x2), some (vi x3_2)]) dX3_hearAllBut_45 rfl ex3_2 rfl rfl rfl ?_
    refine a_goto dX3_hearAllBut_48 rfl ?_
    exact hself _ _ _ _
  refine a_iload_n dX3_hearAllBut_20 rfl ?_
  refine a_iload_n dX3_hearAllBut_21 rfl ?_
  refine a_icmp_eq dX3_hearAllBut_22 rfl (fun _ => ?_) (fun _ => ?_)
  · refine a_bv fun x3_3 ex3_3 => ?_
    refine a_iinc (y := x3_3) (L' := [some (.ref 95), some (vi x1), some (vi x2), some (vi x3_3)]) dX3_hearAllBut_45 rfl ex3_3 rfl rfl rfl ?_
    refine a_goto dX3_hearAllBut_48 rfl ?_
    exact hself _ _ _ _
  refine a_aload_n dX3_hearAllBut_25 rfl ?_
  refine a_getR (c0 := 98) fl_X3_20 lyC_95 rfl dX3_hearAllBut_26 (key := 6087) rfl ?_
  refine a_aload_n dX3_hearAllBut_29 rfl ?_
  refine a_getI fl_X3_60 lyC_95 rfl dX3_hearAllBut_30 (key := 6086) rfl ?_
  refine a_iload_n dX3_hearAllBut_33 rfl ?_
  refine a_iast lyC_98 rfl dX3_hearAllBut_34 fun σ4 => ?_
  refine a_aload_n dX3_hearAllBut_35 rfl ?_
  refine a_dup dX3_hearAllBut_36 rfl ?_
  refine a_getI fl_X3_60 lyC_95 rfl dX3_hearAllBut_37 (key := 6086) rfl ?_
  refine a_iconst dX3_hearAllBut_40 ?_
  refine a_iadd dX3_hearAllBut_41 ?_
  refine a_putI fl_X3_60 cf_X3 rfl rfl lyC_95 rfl dX3_hearAllBut_42 (key := 6086) rfl fun σ5 => ?_
  refine a_bv fun x3_6 ex3_6 => ?_
  refine a_iinc (y := x3_6) (L' := [some (.ref 95), some (vi x1), some (vi x2), some (vi x3_6)]) dX3_hearAllBut_45 rfl ex3_6 rfl rfl rfl ?_
  refine a_goto dX3_hearAllBut_48 rfl ?_
  exact hself _ _ _ _
set_option maxRecDepth 100000 in
set_option maxHeartbeats 4000000 in
theorem cl_Makers_hearAllBut_7 {K : KX} {x : Bool} (F : Nat) : ∀ (n : Nat) (σ : St) (x1 x2 x3 : Int), WA 1 0 0 cX3_hearAllBut RX3 4 none (LYC x false false) (LYC x false false) K 7 [some (.ref 95), some (vi x1), some (vi x2), some (vi x3)] [] σ (l_Makers_hearAllBut_7 F n σ x1 x2 x3)
  | 0, _, _, _, _ => a_none
  | n + 1, σ, x1, x2, x3 => cb_Makers_hearAllBut_7 F _ (cl_Makers_hearAllBut_7 F n) σ x1 x2 x3
set_option maxRecDepth 100000 in
set_option maxHeartbeats 4000000 in
theorem c_Makers_hearAllBut {x : Bool} (F : Nat) (σ : St) (x1 x2 : Int) : Ct 1 0 0 yX3_hearAllBut cX3_hearAllBut 4 none (LYC x false false) (LYC x false false) [.ref 95, vi x1, vi x2] σ (f_Makers_hearAllBut F σ x1 x2) := by
  unfold f_Makers_hearAllBut
  refine Ct_of (d := 1) (kp := 0) (kd := 0) (own := RX3) (nL := 4) (ret := none) (LY := (LYC x false false)) (LYe := (LYC x false false)) (L := [some (.ref 95), some (vi x1), some (vi x2), none]) rfl (by decide +kernel) rfl rfl mf_X10_280.2.2.2.1 rfl fun K => ?_
  refine a_aload_n dX3_hearAllBut_0 rfl ?_
  refine a_iconst dX3_hearAllBut_1 ?_
  refine a_putI fl_X3_60 cf_X3 rfl rfl lyC_95 rfl dX3_hearAllBut_2 (key := 6086) rfl fun σ1 => ?_
  refine a_iconst dX3_hearAllBut_5 ?_
  refine a_istore_n (L' := [some (.ref 95), some (vi x1), some (vi x2), some (vi 0)]) dX3_hearAllBut_6 rfl rfl rfl rfl ?_
  exact cl_Makers_hearAllBut_7 F F _ _ _ _
def b_Makers_bringForward_2 (F : Nat) (a1 : Nat) (self : St → Int → Int → Option (Int × St)) (σ : St) (x2 x3 : Int) : Option (Int × St) := gd (rng x3 ∧ rng (gF σ 6086)) (if (gF σ 6086) ≤ x3 then some (0, σ) else gd (inb x3 10) (bv (gA σ 98 (Int.toNat x3)) fun x4_1 => gd (inb x4_1 10) (gd (rng (gA σ a1 (Int.toNat x4_1))) (if (gA σ a1 (Int.toNat x4_1)) = 0 then bv (x3 + 1) fun x3_2 => self σ x2 x3_2 else gd (inb x2 10) (gd (inb x3 10) (bs (sA σ 98 (Int.toNat x3) (gA σ 98 (Int.toNat x2))) fun σ3 => gd (inb x2 10) (bs (sA σ3 98 (Int.toNat x2) x4_1) fun σ4 => gd (inb x4_1 10) (some ((gA σ4 a1 (Int.toNat x4_1)), σ4)))))))))
def l_Makers_bringForward_2 (F : Nat) (a1 : Nat) : Nat → St → Int → Int → Option (Int × St)
  | 0 => fun _ _ _ => none
  | n + 1 => fun σ x2 x3 => b_Makers_bringForward_2 F a1 (l_Makers_bringForward_2 F a1 n) σ x2 x3
def f_Makers_bringForward (F : Nat) (a1 : Nat) (σ : St) (x2 : Int) : Option (Int × St) := l_Makers_bringForward_2 F a1 F σ x2 x2
set_option maxRecDepth 100000 in
set_option maxHeartbeats 4000000 in
theorem cb_Makers_bringForward_2 {K : KX} {x : Bool} (F : Nat) (a1 : Nat) (ha1 : (LYC x false false)[a1]? = some (Sum.inr (10, 0, 0))) (self : St → Int → Int → Option (Int × St)) (hself : ∀ σ x2 x3, WA 1 0 1 cX3_bringForward RX3 5 (some .int) (LYC x false false) (LYC x false false) K 2 [some (.ref 95), some (.ref a1), some (vi x2), some (vi x3), none] [] σ (self σ x2 x3)) (σ : St) (x2 x3 : Int) : WA 1 0 1 cX3_bringForward RX3 5 (some .int) (LYC x false false) (LYC x false false) K 2 [some (.ref 95), some (.ref a1), some (vi x2), some (vi x3), none] [] σ (b_Makers_bringForward_2 F a1 self σ x2 x3) := by
  unfold b_Makers_bringForward_2
  refine a_iload_n dX3_bringForward_2 rfl ?_
  refine a_aload_n dX3_bringForward_3 rfl ?_
  refine a_getI fl_X3_60 lyC_95 rfl dX3_bringForward_4 (key := 6086) rfl ?_
  refine a_icmp_ge dX3_bringForward_7 rfl (fun _ => ?_) (fun _ => ?_)
  · refine a_iconst dX3_bringForward_56 ?_
    exact a_iret dX3_bringForward_57
  refine a_aload_n dX3_bringForward_10 rfl ?_
  refine a_getR (c0 := 98) fl_X3_20 lyC_95 rfl dX3_bringForward_11 (key := 6087) rfl ?_
  refine a_iload_n dX3_bringForward_14 rfl ?_
  refine a_iald lyC_98 rfl dX3_bringForward_15 ?_
  refine a_bv fun x4_1 ex4_1 => ?_
  refine a_istore (y := x4_1) (L' := [some (.ref 95), some (.ref a1), some (vi x2), some (vi x3), some (vi x4_1)]) dX3_bringForward_16 ex4_1 rfl rfl rfl ?_
  refine a_aload_n dX3_bringForward_18 rfl ?_
  refine a_iload dX3_bringForward_19 rfl ?_
  refine a_iald ha1 rfl dX3_bringForward_21 ?_
  refine a_if_eq dX3_bringForward_22 rfl (fun _ => ?_) (fun _ => ?_)
  · refine a_bv fun x3_2 ex3_2 => ?_
    refine a_iinc (y := x3_2) (L' := [some (.ref 95), some (.ref a1), some (vi x2), some (vi x3_2), some (vi x4_1)]) dX3_bringForward_50 rfl ex3_2 rfl rfl rfl ?_
    refine a_goto dX3_bringForward_53 rfl ?_
    exact a_L (lsub_get (A := [some (.ref 95), some (.ref a1), some (vi x2), some (vi x3_2), none]) ⟨rfl, ⟨rfl, ⟨rfl, ⟨rfl, trivial⟩⟩⟩⟩) (hself _ _ _)
  refine a_aload_n dX3_bringForward_25 rfl ?_
  refine a_getR (c0 := 98) fl_X3_20 lyC_95 rfl dX3_bringForward_26 (key := 6087) rfl ?_
  refine a_iload_n dX3_bringForward_29 rfl ?_
  refine a_aload_n dX3_bringForward_30 rfl ?_
  refine a_getR (c0 := 98) fl_X3_20 lyC_95 rfl dX3_bringForward_31 (key := 6087) rfl ?_
  refine a_iload_n dX3_bringForward_34 rfl ?_
  refine a_iald lyC_98 rfl dX3_bringForward_35 ?_
  refine a_iast lyC_98 rfl dX3_bringForward_36 fun σ3 => ?_
  refine a_aload_n dX3_bringForward_37 rfl ?_
  refine a_getR (c0 := 98) fl_X3_20 lyC_95 rfl dX3_bringForward_38 (key := 6087) rfl ?_
  refine a_iload_n dX3_bringForward_41 rfl ?_
  refine a_iload dX3_bringForward_42 rfl ?_
  refine a_iast lyC_98 rfl dX3_bringForward_44 fun σ4 => ?_
  refine a_aload_n dX3_bringForward_45 rfl ?_
  refine a_iload dX3_bringForward_46 rfl ?_
  refine a_iald ha1 rfl dX3_bringForward_48 ?_
  exact a_iret dX3_bringForward_49
set_option maxRecDepth 100000 in
set_option maxHeartbeats 4000000 in
theorem cl_Makers_bringForward_2 {K : KX} {x : Bool} (F : Nat) (a1 : Nat) (ha1 : (LYC x false false)[a1]? = some (Sum.inr (10, 0, 0))) : ∀ (n : Nat) (σ : St) (x2 x3 : Int), WA 1 0 1 cX3_bringForward RX3 5 (some .int) (LYC x false false) (LYC x false false) K 2 [some (.ref 95), some (.ref a1), some (vi x2), some (vi x3), none] [] σ (l_Makers_bringForward_2 F a1 n σ x2 x3)
  | 0, _, _, _ => a_none
  | n + 1, σ, x2, x3 => cb_Makers_bringForward_2 F a1 ha1 _ (cl_Makers_bringForward_2 F a1 ha1 n) σ x2 x3
set_option maxRecDepth 100000 in
set_option maxHeartbeats 4000000 in
theorem c_Makers_bringForward {x : Bool} (F : Nat) (a1 : Nat) (ha1 : (LYC x false false)[a1]? = some (Sum.inr (10, 0, 0))) (σ : St) (x2 : Int) : Ct 1 0 1 yX3_bringForward cX3_bringForward 5 (some .int) (LYC x false false) (LYC x false false) [.ref 95, .ref a1, vi x2] σ (f_Makers_bringForward F a1 σ x2) := by
  unfold f_Makers_bringForward
  refine Ct_of (d := 1) (kp := 0) (kd := 1) (own := RX3) (nL := 5) (ret := (some .int)) (LY := (LYC x false false)) (LYe := (LYC x false false)) (L := [some (.ref 95), some (.ref a1), some (vi x2), none, none]) rfl (by decide +kernel) rfl rfl mf_X3_70.2.2.2.1 rfl fun K => ?_
  refine a_iload_n dX3_bringForward_0 rfl ?_
  refine a_istore_n (L' := [some (.ref 95), some (.ref a1), some (vi x2), some (vi x2), none]) dX3_bringForward_1 rfl rfl rfl rfl ?_
  exact cl_Makers_bringForward_2 F a1 ha1 F _ _ _
def f_Makers_isDone (F : Nat) (σ : St) : Option (Int × St) := gd (rng (gF σ 6092)) (if (gF σ 6092) = 0 then some (0, σ) else gd (rng (gF σ 6080)) (if (gF σ 6080) ≤ 0 then some (0, σ) else some (1, σ)))
set_option maxRecDepth 100000 in
set_option maxHeartbeats 4000000 in
theorem c_Makers_isDone {x : Bool} (F : Nat) (σ : St) : Ct 1 0 1 yX3_isDone cX3_isDone 1 (some .boolean) (LYC x false false) (LYC x false false) [.ref 95] σ (f_Makers_isDone F σ) := by
  unfold f_Makers_isDone
  refine Ct_of (d := 1) (kp := 0) (kd := 1) (own := RX3) (nL := 1) (ret := (some .boolean)) (LY := (LYC x false false)) (LYe := (LYC x false false)) (L := [some (.ref 95)]) rfl (by decide +kernel) rfl rfl mf_X3_82.2.2.2.1 rfl fun K => ?_
  refine a_aload_n dX3_isDone_0 rfl ?_
  refine a_getI fl_X3_63 lyC_95 rfl dX3_isDone_1 (key := 6092) rfl ?_
  refine a_if_eq dX3_isDone_4 rfl (fun _ => ?_) (fun _ => ?_)
  · refine a_iconst dX3_isDone_18 ?_
    exact a_zretc (by decide) dX3_isDone_19
  refine a_aload_n dX3_isDone_7 rfl ?_
  refine a_getI fl_X3_67 lyC_95 rfl dX3_isDone_8 (key := 6080) rfl ?_
  refine a_if_le dX3_isDone_11 rfl (fun _ => ?_) (fun _ => ?_)
  · refine a_iconst dX3_isDone_18 ?_
    exact a_zretc (by decide) dX3_isDone_19
  refine a_iconst dX3_isDone_14 ?_
  refine a_goto dX3_isDone_15 rfl ?_
  exact a_zretc (by decide) dX3_isDone_19
def b_Makers_lessBase_13 (F : Nat) (self : St → Int → Int → Int → Int → Option (Int × St)) (σ : St) (x1 x3 x4 x5 : Int) : Option (Int × St) := gd (rng x5 ∧ rng x1) (if x1 ≤ x5 then gd (rng x4 ∧ rng (gF σ 6082) ∧ (gF σ 6082) ≠ (0 : Int)) (some ((Int.tmod x4 (gF σ 6082)), σ)) else gd (inb x5 3) (bv ((gF σ 6082) - (gA σ 101 (Int.toNat x5))) fun t3 => gd (inb x5 3) (gd (inb x3 10) (bv (gA σ (209 + (Int.toNat x5)) (Int.toNat x3)) fun t5 => bv (x4 + (t3 * t5)) fun x4_6 => bv (x5 + 1) fun x5_7 => self σ x1 x3 x4_6 x5_7))))
def l_Makers_lessBase_13 (F : Nat) : Nat → St → Int → Int → Int → Int → Option (Int × St)
  | 0 => fun _ _ _ _ _ => none
  | n + 1 => fun σ x1 x3 x4 x5 => b_Makers_lessBase_13 F (l_Makers_lessBase_13 F n) σ x1 x3 x4 x5
def f_Makers_lessBase (F : Nat) (σ : St) (x1 x2 x3 : Int) : Option (Int × St) := gd (inb x2 60) (gd (inb x3 10) (bv (gA σ (149 + (Int.toNat x2)) (Int.toNat x3)) fun t2 => l_Makers_lessBase_13 F F σ x1 x3 t2 0))
set_option maxRecDepth 100000 in
set_option maxHeartbeats 4000000 in
theorem cb_Makers_lessBase_13 {K : KX} {x : Bool} (F : Nat) (self : St → Int → Int → Int → Int → Option (Int × St)) (hself : ∀ σ x1 x3 x4 x5, WA 1 0 1 cX3_lessBase RX3 6 (some .int) (LYC x false false) (LYC x false false) K 13 [some (.ref 95), some (vi x1), none, some (vi x3), some (vi x4), some (vi x5)] [] σ (self σ x1 x3 x4 x5)) (σ : St) (x1 x3 x4 x5 : Int) : WA 1 0 1 cX3_lessBase RX3 6 (some .int) (LYC x false false) (LYC x false false) K 13 [some (.ref 95), some (vi x1), none, some (vi x3), some (vi x4), some (vi x5)] [] σ (b_Makers_lessBase_13 F self σ x1 x3 x4 x5) := by
  unfold b_Makers_lessBase_13
  refine a_iload dX3_lessBase_13 rfl ?_
  refine a_iload_n dX3_lessBase_15 rfl ?_
  refine a_icmp_ge dX3_lessBase_16 rfl (fun _ => ?_) (fun _ => ?_)
  · refine a_iload dX3_lessBase_52 rfl ?_
    refine a_aload_n dX3_lessBase_54 rfl ?_
    refine a_getI fl_X3_47 lyC_95 rfl dX3_lessBase_55 (key := 6082) rfl ?_
    refine a_irem dX3_lessBase_58 (fun _ => ?_)
    exact a_iret dX3_lessBase_59
  refine a_iload dX3_lessBase_19 rfl ?_
  refine a_aload_n dX3_lessBase_21 rfl ?_
  refine a_getI fl_X3_47 lyC_95 rfl dX3_lessBase_22 (key := 6082) rfl ?_
  refine a_aload_n dX3_lessBase_25 rfl ?_
  refine a_getR (c0 := 101) fl_X3_29 lyC_95 rfl dX3_lessBase_26 (key := 6090) rfl ?_
  refine a_iload dX3_lessBase_29 rfl ?_
  refine a_iald lyC_101 rfl dX3_lessBase_31 ?_
  refine a_isub dX3_lessBase_32 ?_
  refine a_bvi fun t3 => ?_
  refine a_aload_n dX3_lessBase_33 rfl ?_
  refine a_getR (c0 := 99) fl_X3_23 lyC_95 rfl dX3_lessBase_34 (key := 6088) rfl ?_
  refine a_iload dX3_lessBase_37 rfl ?_
  refine a_aaldI lyC_99 rfl dX3_lessBase_39 fun hi4 => ?_
  refine a_iload_n dX3_lessBase_40 rfl ?_
  refine a_iald (lyC_b _ (ix_lt hi4)) rfl dX3_lessBase_41 ?_
  refine a_bvi fun t5 => ?_
  refine a_imul dX3_lessBase_42 ?_
  refine a_iadd dX3_lessBase_43 ?_
  refine a_bv fun x4_6 ex4_6 => ?_
  refine a_istore (y := x4_6) (L' := [some (.ref 95), some (vi x1), none, some (vi x3), some (vi x4_6), some (vi x5)]) dX3_lessBase_44 ex4_6 rfl rfl rfl ?_
  refine a_bv fun x5_7 ex5_7 => ?_
  refine a_iinc (y := x5_7) (L' := [some (.ref 95), some (vi x1), none, some (vi x3), some (vi x4_6), some (vi x5_7)]) dX3_lessBase_46 rfl ex5_7 rfl rfl rfl ?_
  refine a_goto dX3_lessBase_49 rfl ?_
  exact hself _ _ _ _ _
set_option maxRecDepth 100000 in
set_option maxHeartbeats 4000000 in
theorem cl_Makers_lessBase_13 {K : KX} {x : Bool} (F : Nat) : ∀ (n : Nat) (σ : St) (x1 x3 x4 x5 : Int), WA 1 0 1 cX3_lessBase RX3 6 (some .int) (LYC x false false) (LYC x false false) K 13 [some (.ref 95), some (vi x1), none, some (vi x3), some (vi x4), some (vi x5)] [] σ (l_Makers_lessBase_13 F n σ x1 x3 x4 x5)
  | 0, _, _, _, _, _ => a_none
  | n + 1, σ, x1, x3, x4, x5 => cb_Makers_lessBase_13 F _ (cl_Makers_lessBase_13 F n) σ x1 x3 x4 x5
set_option maxRecDepth 100000 in
set_option maxHeartbeats 4000000 in
theorem c_Makers_lessBase {x : Bool} (F : Nat) (σ : St) (x1 x2 x3 : Int) : Ct 1 0 1 yX3_lessBase cX3_lessBase 6 (some .int) (LYC x false false) (LYC x false false) [.ref 95, vi x1, vi x2, vi x3] σ (f_Makers_lessBase F σ x1 x2 x3) := by
  unfold f_Makers_lessBase
  refine Ct_of (d := 1) (kp := 0) (kd := 1) (own := RX3) (nL := 6) (ret := (some .int)) (LY := (LYC x false false)) (LYe := (LYC x false false)) (L := [some (.ref 95), some (vi x1), some (vi x2), some (vi x3), none, none]) rfl (by decide +kernel) rfl rfl mf_X3_102.2.2.2.1 rfl fun K => ?_
  refine a_aload_n dX3_lessBase_0 rfl ?_
  refine a_getR (c0 := 97) fl_X3_17 lyC_95 rfl dX3_lessBase_1 (key := 6085) rfl ?_
  refine a_iload_n dX3_lessBase_4 rfl ?_
  refine a_aaldI lyC_97 rfl dX3_lessBase_5 fun hi1 => ?_
  refine a_iload_n dX3_lessBase_6 rfl ?_
  refine a_iald (lyC_c _ (ix_lt hi1)) rfl dX3_lessBase_7 ?_
  refine a_bvi fun t2 => ?_
  refine a_istore (L' := [some (.ref 95), some (vi x1), some (vi x2), some (vi x3), some (vi t2), none]) dX3_lessBase_8 rfl rfl rfl rfl ?_
  refine a_iconst dX3_lessBase_10 ?_
  refine a_istore (L' := [some (.ref 95), some (vi x1), some (vi x2), some (vi x3), some (vi t2), some (vi 0)]) dX3_lessBase_11 rfl rfl rfl rfl ?_
  exact a_L (lsub_get (A := [some (.ref 95), some (vi x1), none, some (vi x3), some (vi t2), some (vi 0)]) ⟨rfl, ⟨rfl, ⟨rfl, ⟨rfl, ⟨rfl, trivial⟩⟩⟩⟩⟩) (cl_Makers_lessBase_13 F F _ _ _ _ _)
def b_Makers_findTimes_2 (F : Nat) (self : St → Int → Int → Int → Option (Int × St)) (σ : St) (x1 x2 x3 : Int) : Option (Int × St) := gd (rng x3 ∧ rng x1) (if x1 ≤ x3 then some (0, σ) else gd (inb x3 10) (bnd (f_Makers_lessBase F σ x3 x2 (gA σ 98 (Int.toNat x3))) fun r1 σ2 => gd (inb x3 3) (bs (sA σ2 101 (Int.toNat x3) r1) fun σ3 => bv (x3 + 1) fun x3_4 => self σ3 x1 x2 x3_4)))
def l_Makers_findTimes_2 (F : Nat) : Nat → St → Int → Int → Int → Option (Int × St)
  | 0 => fun _ _ _ _ => none
  | n + 1 => fun σ x1 x2 x3 => b_Makers_findTimes_2 F (l_Makers_findTimes_2 F n) σ x1 x2 x3
def f_Makers_findTimes (F : Nat) (σ : St) (x1 x2 : Int) : Option (Int × St) := l_Makers_findTimes_2 F F σ x1 x2 0
set_option maxRecDepth 100000 in
set_option maxHeartbeats 4000000 in
theorem cb_Makers_findTimes_2 {K : KX} {x : Bool} (F : Nat) (self : St → Int → Int → Int → Option (Int × St)) (hself : ∀ σ x1 x2 x3, WA 2 0 0 cX3_findTimes RX3 4 none (LYC x false false) (LYC x false false) K 2 [some (.ref 95), some (vi x1), some (vi x2), some (vi x3)] [] σ (self σ x1 x2 x3)) (σ : St) (x1 x2 x3 : Int) : WA 2 0 0 cX3_findTimes RX3 4 none (LYC x false false) (LYC x false false) K 2 [some (.ref 95), some (vi x1), some (vi x2), some (vi x3)] [] σ (b_Makers_findTimes_2 F self σ x1 x2 x3) := by
  unfold b_Makers_findTimes_2
  refine a_iload_n dX3_findTimes_2 rfl ?_
  refine a_iload_n dX3_findTimes_3 rfl ?_
  refine a_icmp_ge dX3_findTimes_4 rfl (fun _ => ?_) (fun _ => ?_)
  · exact a_vret dX3_findTimes_31
  refine a_aload_n dX3_findTimes_7 rfl ?_
  refine a_getR (c0 := 101) fl_X3_29 lyC_95 rfl dX3_findTimes_8 (key := 6090) rfl ?_
  refine a_iload_n dX3_findTimes_11 rfl ?_
  refine a_aload_n dX3_findTimes_12 rfl ?_
  refine a_iload_n dX3_findTimes_13 rfl ?_
  refine a_iload_n dX3_findTimes_14 rfl ?_
  refine a_aload_n dX3_findTimes_15 rfl ?_
  refine a_getR (c0 := 98) fl_X3_20 lyC_95 rfl dX3_findTimes_16 (key := 6087) rfl ?_
  refine a_iload_n dX3_findTimes_19 rfl ?_
  refine a_iald lyC_98 rfl dX3_findTimes_20 ?_
  refine a_callVi (as := [vi x3, vi x2, vi (gA σ 98 (Int.toNat x3))]) mf_X3_102 lyC_95 rfl (c_Makers_lessBase F _ _ _ _) LYsame.rf dX3_findTimes_21 rfl rfl rfl rfl rfl rfl (Or.inl rfl) fun r1 σ2 => ?_
  refine a_iast lyC_101 rfl dX3_findTimes_24 fun σ3 => ?_
  refine a_bv fun x3_4 ex3_4 => ?_
  refine a_iinc (y := x3_4) (L' := [some (.ref 95), some (vi x1), some (vi x2), some (vi x3_4)]) dX3_findTimes_25 rfl ex3_4 rfl rfl rfl ?_
  refine a_goto dX3_findTimes_28 rfl ?_
  exact hself _ _ _ _
set_option maxRecDepth 100000 in
set_option maxHeartbeats 4000000 in
theorem cl_Makers_findTimes_2 {K : KX} {x : Bool} (F : Nat) : ∀ (n : Nat) (σ : St) (x1 x2 x3 : Int), WA 2 0 0 cX3_findTimes RX3 4 none (LYC x false false) (LYC x false false) K 2 [some (.ref 95), some (vi x1), some (vi x2), some (vi x3)] [] σ (l_Makers_findTimes_2 F n σ x1 x2 x3)
  | 0, _, _, _, _ => a_none
  | n + 1, σ, x1, x2, x3 => cb_Makers_findTimes_2 F _ (cl_Makers_findTimes_2 F n) σ x1 x2 x3
set_option maxRecDepth 100000 in
set_option maxHeartbeats 4000000 in
theorem c_Makers_findTimes {x : Bool} (F : Nat) (σ : St) (x1 x2 : Int) : Ct 2 0 0 yX3_findTimes cX3_findTimes 4 none (LYC x false false) (LYC x false false) [.ref 95, vi x1, vi x2] σ (f_Makers_findTimes F σ x1 x2) := by
  unfold f_Makers_findTimes
  refine Ct_of (d := 2) (kp := 0) (kd := 0) (own := RX3) (nL := 4) (ret := none) (LY := (LYC x false false)) (LYe := (LYC x false false)) (L := [some (.ref 95), some (vi x1), some (vi x2), none]) rfl (by decide +kernel) rfl rfl mf_X3_99.2.2.2.1 rfl fun K => ?_
  refine a_iconst dX3_findTimes_0 ?_
  refine a_istore_n (L' := [some (.ref 95), some (vi x1), some (vi x2), some (vi 0)]) dX3_findTimes_1 rfl rfl rfl rfl ?_
  exact cl_Makers_findTimes_2 F F _ _ _ _
def b_Makers_takeIntoBase_93 (F : Nat) (self : St → Int → Int → Int → Int → Option (Int × St)) (σ : St) (x1 x4 x5 x6 : Int) : Option (Int × St) := gd (rng x6 ∧ rng (gF σ 6086)) (if (gF σ 6086) ≤ x6 then some (1, σ) else gd (inb x6 10) (bv (gA σ 98 (Int.toNat x6)) fun x7_10 => gd (inb x1 3) (gd (inb x1 3) (gd (inb x7_10 10) (bv (gA σ (209 + (Int.toNat x1)) (Int.toNat x7_10)) fun t13 => bnd (f_W_product F σ t13 x4 (gF σ 6082)) fun r14 σ15 => gd (inb x7_10 10) (bs (sA σ15 (209 + (Int.toNat x1)) (Int.toNat x7_10) r14) fun σ16 => gd (inb (x1 + 1) 3) (gd (inb x1 3) (gd (inb x7_10 10) (bv (gA σ16 (212 + (Int.toNat x1)) (Int.toNat x7_10)) fun t19 => gd (inb x1 3) (gd (inb x7_10 10) (bv (gA σ16 (209 + (Int.toNat x1)) (Int.toNat x7_10)) fun t21 => bnd (f_W_product F σ16 x5 t21 (gF σ16 6082)) fun r22 σ23 => bnd (f_W_difference F σ23 t19 r22 (gF σ23 6082)) fun r24 σ25 => gd (inb x7_10 10) (bs (sA σ25 (212 + (Int.toNat (x1 + 1))) (Int.toNat x7_10) r24) fun σ26 => bv (x6 + 1) fun x6_27 => self σ26 x1 x4 x5 x6_27))))))))))))
def l_Makers_takeIntoBase_93 (F : Nat) : Nat → St → Int → Int → Int → Int → Option (Int × St)
  | 0 => fun _ _ _ _ _ => none
  | n + 1 => fun σ x1 x4 x5 x6 => b_Makers_takeIntoBase_93 F (l_Makers_takeIntoBase_93 F n) σ x1 x4 x5 x6
def b_Makers_takeIntoBase_8 (F : Nat) (self : St → Int → Int → Int → Option (Int × St)) (σ : St) (x1 x2 x3 : Int) : Option (Int × St) := gd (rng x3 ∧ rng (gF σ 6086)) (if (gF σ 6086) ≤ x3 then gd (inb x1 3) (bnd (f_Makers_bringForward F (209 + (Int.toNat x1)) σ x1) fun r4 σ5 => gd (rng r4) (if r4 = 0 then some (0, σ5) else bnd (f_W_inverse F σ5 r4 (gF σ5 6082)) fun r6 σ7 => gd (inb x1 3) (gd (inb x1 10) (gd (inb (gA σ7 98 (Int.toNat x1)) 10) (bv (gA σ7 (212 + (Int.toNat x1)) (Int.toNat (gA σ7 98 (Int.toNat x1)))) fun t9 => l_Makers_takeIntoBase_93 F F σ7 x1 r6 t9 x1))))) else gd (inb x1 3) (gd (inb x3 10) (gd (inb x3 10) (bnd (f_Makers_lessBase F σ x1 x2 (gA σ 98 (Int.toNat x3))) fun r29 σ30 => gd (inb (gA σ 98 (Int.toNat x3)) 10) (bs (sA σ30 (209 + (Int.toNat x1)) (Int.toNat (gA σ 98 (Int.toNat x3))) r29) fun σ31 => bv (x3 + 1) fun x3_32 => self σ31 x1 x2 x3_32)))))
def l_Makers_takeIntoBase_8 (F : Nat) : Nat → St → Int → Int → Int → Option (Int × St)
  | 0 => fun _ _ _ _ => none
  | n + 1 => fun σ x1 x2 x3 => b_Makers_takeIntoBase_8 F (l_Makers_takeIntoBase_8 F n) σ x1 x2 x3
def f_Makers_takeIntoBase (F : Nat) (σ : St) (x1 x2 : Int) : Option (Int × St) := bnd (f_Makers_findTimes F σ x1 x2) fun r1 σ2 => l_Makers_takeIntoBase_8 F F σ2 x1 x2 x1
set_option maxRecDepth 100000 in
set_option maxHeartbeats 4000000 in
theorem cb_Makers_takeIntoBase_93 {K : KX} {x : Bool} (F : Nat) (self : St → Int → Int → Int → Int → Option (Int × St)) (hself : ∀ σ x1 x4 x5 x6, WA 3 0 1 cX3_takeIntoBase RX3 8 (some .boolean) (LYC x false false) (LYC x false false) K 93 [some (.ref 95), some (vi x1), none, none, some (vi x4), some (vi x5), some (vi x6), none] [] σ (self σ x1 x4 x5 x6)) (σ : St) (x1 x4 x5 x6 : Int) : WA 3 0 1 cX3_takeIntoBase RX3 8 (some .boolean) (LYC x false false) (LYC x false false) K 93 [some (.ref 95), some (vi x1), none, none, some (vi x4), some (vi x5), some (vi x6), none] [] σ (b_Makers_takeIntoBase_93 F self σ x1 x4 x5 x6) := by
  unfold b_Makers_takeIntoBase_93
  refine a_iload dX3_takeIntoBase_93 rfl ?_
  refine a_aload_n dX3_takeIntoBase_95 rfl ?_
  refine a_getI fl_X3_60 lyC_95 rfl dX3_takeIntoBase_96 (key := 6086) rfl ?_
  refine a_icmp_ge dX3_takeIntoBase_99 rfl (fun _ => ?_) (fun _ => ?_)
  · refine a_iconst dX3_takeIntoBase_189 ?_
    exact a_zretc (by decide) dX3_takeIntoBase_190
  refine a_aload_n dX3_takeIntoBase_102 rfl ?_
  refine a_getR (c0 := 98) fl_X3_20 lyC_95 rfl dX3_takeIntoBase_103 (key := 6087) rfl ?_
  refine a_iload dX3_takeIntoBase_106 rfl ?_
  refine a_iald lyC_98 rfl dX3_takeIntoBase_108 ?_
  refine a_bv fun x7_10 ex7_10 => ?_
  refine a_istore (y := x7_10) (L' := [some (.ref 95), some (vi x1), none, none, some (vi x4), some (vi x5), some (vi x6), some (vi x7_10)]) dX3_takeIntoBase_109 ex7_10 rfl rfl rfl ?_
  refine a_aload_n dX3_takeIntoBase_111 rfl ?_
  refine a_getR (c0 := 99) fl_X3_23 lyC_95 rfl dX3_takeIntoBase_112 (key := 6088) rfl ?_
  refine a_iload_n dX3_takeIntoBase_115 rfl ?_
  refine a_aaldI lyC_99 rfl dX3_takeIntoBase_116 fun hi11 => ?_
  refine a_iload dX3_takeIntoBase_117 rfl ?_
  refine a_aload_n dX3_takeIntoBase_119 rfl ?_
  refine a_getR (c0 := 99) fl_X3_23 lyC_95 rfl dX3_takeIntoBase_120 (key := 6088) rfl ?_
  refine a_iload_n dX3_takeIntoBase_123 rfl ?_
  refine a_aaldI lyC_99 rfl dX3_takeIntoBase_124 fun hi12 => ?_
  refine a_iload dX3_takeIntoBase_125 rfl ?_
  refine a_iald (lyC_b _ (ix_lt hi12)) rfl dX3_takeIntoBase_127 ?_
  refine a_bvi fun t13 => ?_
  refine a_iload dX3_takeIntoBase_128 rfl ?_
  refine a_aload_n dX3_takeIntoBase_130 rfl ?_
  refine a_getI fl_X3_47 lyC_95 rfl dX3_takeIntoBase_131 (key := 6082) rfl ?_
  refine a_callNi (as := [vi t13, vi x4, vi (gF σ 6082)]) mf_X3_109 (c_W_product F _ _ _ _) LYsame.rf dX3_takeIntoBase_134 rfl rfl rfl rfl rfl rfl (Or.inl rfl) fun r14 σ15 => ?_
  refine a_iast (lyC_b _ (ix_lt hi11)) rfl dX3_takeIntoBase_137 fun σ16 => ?_
  refine a_aload_n dX3_takeIntoBase_138 rfl ?_
  refine a_getR (c0 := 100) fl_X3_26 lyC_95 rfl dX3_takeIntoBase_139 (key := 6089) rfl ?_
  refine a_iload_n dX3_takeIntoBase_142 rfl ?_
  refine a_iconst dX3_takeIntoBase_143 ?_
  refine a_iadd dX3_takeIntoBase_144 ?_
  refine a_aaldI lyC_100 rfl dX3_takeIntoBase_145 fun hi17 => ?_
  refine a_iload dX3_takeIntoBase_146 rfl ?_
  refine a_aload_n dX3_takeIntoBase_148 rfl ?_
  refine a_getR (c0 := 100) fl_X3_26 lyC_95 rfl dX3_takeIntoBase_149 (key := 6089) rfl ?_
  refine a_iload_n dX3_takeIntoBase_152 rfl ?_
  refine a_aaldI lyC_100 rfl dX3_takeIntoBase_153 fun hi18 => ?_
  refine a_iload dX3_takeIntoBase_154 rfl ?_
  refine a_iald (lyC_s _ (ix_lt hi18)) rfl dX3_takeIntoBase_156 ?_
  refine a_bvi fun t19 => ?_
  refine a_iload dX3_takeIntoBase_157 rfl ?_
  refine a_aload_n dX3_takeIntoBase_159 rfl ?_
  refine a_getR (c0 := 99) fl_X3_23 lyC_95 rfl dX3_takeIntoBase_160 (key := 6088) rfl ?_
  refine a_iload_n dX3_takeIntoBase_163 rfl ?_
  refine a_aaldI lyC_99 rfl dX3_takeIntoBase_164 fun hi20 => ?_
  refine a_iload dX3_takeIntoBase_165 rfl ?_
  refine a_iald (lyC_b _ (ix_lt hi20)) rfl dX3_takeIntoBase_167 ?_
  refine a_bvi fun t21 => ?_
  refine a_aload_n dX3_takeIntoBase_168 rfl ?_
  refine a_getI fl_X3_47 lyC_95 rfl dX3_takeIntoBase_169 (key := 6082) rfl ?_
  refine a_callNi (as := [vi x5, vi t21, vi (gF σ16 6082)]) mf_X3_109 (c_W_product F _ _ _ _) LYsame.rf dX3_takeIntoBase_172 rfl rfl rfl rfl rfl rfl (Or.inl rfl) fun r22 σ23 => ?_
  refine a_aload_n dX3_takeIntoBase_175 rfl ?_
  refine a_getI fl_X3_47 lyC_95 rfl dX3_takeIntoBase_176 (key := 6082) rfl ?_
  refine a_callNi (as := [vi t19, vi r22, vi (gF σ23 6082)]) mf_X3_112 (c_W_difference F _ _ _ _) LYsame.rf dX3_takeIntoBase_179 rfl rfl rfl rfl rfl rfl (Or.inl rfl) fun r24 σ25 => ?_
  refine a_iast (lyC_s _ (ix_lt hi17)) rfl dX3_takeIntoBase_182 fun σ26 => ?_
  refine a_bv fun x6_27 ex6_27 => ?_
  refine a_iinc (y := x6_27) (L' := [some (.ref 95), some (vi x1), none, none, some (vi x4), some (vi x5), some (vi x6_27), some (vi x7_10)]) dX3_takeIntoBase_183 rfl ex6_27 rfl rfl rfl ?_
  refine a_goto dX3_takeIntoBase_186 rfl ?_
  exact a_L (lsub_get (A := [some (.ref 95), some (vi x1), none, none, some (vi x4), some (vi x5), some (vi x6_27), none]) ⟨rfl, ⟨rfl, ⟨rfl, ⟨rfl, ⟨rfl, trivial⟩⟩⟩⟩⟩) (hself _ _ _ _ _)
set_option maxRecDepth 100000 in
set_option maxHeartbeats 4000000 in
theorem cl_Makers_takeIntoBase_93 {K : KX} {x : Bool} (F : Nat) : ∀ (n : Nat) (σ : St) (x1 x4 x5 x6 : Int), WA 3 0 1 cX3_takeIntoBase RX3 8 (some .boolean) (LYC x false false) (LYC x false false) K 93 [some (.ref 95), some (vi x1), none, none, some (vi x4), some (vi x5), some (vi x6), none] [] σ (l_Makers_takeIntoBase_93 F n σ x1 x4 x5 x6)
  | 0, _, _, _, _, _ => a_none
  | n + 1, σ, x1, x4, x5, x6 => cb_Makers_takeIntoBase_93 F _ (cl_Makers_takeIntoBase_93 F n) σ x1 x4 x5 x6
set_option maxRecDepth 100000 in
set_option maxHeartbeats 4000000 in
theorem cb_Makers_takeIntoBase_8 {K : KX} {x : Bool} (F : Nat) (self : St → Int → Int → Int → Option (Int × St)) (hself : ∀ σ x1 x2 x3, WA 3 0 1 cX3_takeIntoBase RX3 8 (some .boolean) (LYC x false false) (LYC x false false) K 8 [some (.ref 95), some (vi x1), some (vi x2), some (vi x3), none, none, none, none] [] σ (self σ x1 x2 x3)) (σ : St) (x1 x2 x3 : Int) : WA 3 0 1 cX3_takeIntoBase RX3 8 (some .boolean) (LYC x false false) (LYC x false false) K 8 [some (.ref 95), some (vi x1), some (vi x2), some (vi x3), none, none, none, none] [] σ (b_Makers_takeIntoBase_8 F self σ x1 x2 x3) := by
  unfold b_Makers_takeIntoBase_8
  refine a_iload_n dX3_takeIntoBase_8 rfl ?_
  refine a_aload_n dX3_takeIntoBase_9 rfl ?_
  refine a_getI fl_X3_60 lyC_95 rfl dX3_takeIntoBase_10 (key := 6086) rfl ?_
  refine a_icmp_ge dX3_takeIntoBase_13 rfl (fun _ => ?_) (fun _ => ?_)
  · refine a_aload_n dX3_takeIntoBase_47 rfl ?_
    refine a_aload_n dX3_takeIntoBase_48 rfl ?_
    refine a_getR (c0 := 99) fl_X3_23 lyC_95 rfl dX3_takeIntoBase_49 (key := 6088) rfl ?_
    refine a_iload_n dX3_takeIntoBase_52 rfl ?_
    refine a_aaldI lyC_99 rfl dX3_takeIntoBase_53 fun hi3 => ?_
    refine a_iload_n dX3_takeIntoBase_54 rfl ?_
    refine a_callVi (as := [.ref (209 + (Int.toNat x1)), vi x1]) mf_X3_70 lyC_95 rfl (c_Makers_bringForward F (209 + (Int.toNat x1)) (lyC_b _ (ix_lt hi3)) _ _) LYsame.rf dX3_takeIntoBase_55 rfl rfl rfl rfl rfl rfl (Or.inl rfl) fun r4 σ5 => ?_
    refine a_istore_n (L' := [some (.ref 95), some (vi x1), some (vi x2), some (vi r4), none, none, none, none]) dX3_takeIntoBase_58 rfl rfl rfl rfl ?_
    refine a_iload_n dX3_takeIntoBase_59 rfl ?_
    refine a_if_ne dX3_takeIntoBase_60 rfl (fun _ => ?_) (fun _ => ?_)
    · refine a_iload_n dX3_takeIntoBase_65 rfl ?_
      refine a_aload_n dX3_takeIntoBase_66 rfl ?_
      refine a_getI fl_X3_47 lyC_95 rfl dX3_takeIntoBase_67 (key := 6082) rfl ?_
      refine a_callNi (as := [vi r4, vi (gF σ5 6082)]) mf_X3_106 (c_W_inverse F _ _ _) LYsame.rf dX3_takeIntoBase_70 rfl rfl rfl rfl rfl rfl (Or.inl rfl) fun r6 σ7 => ?_
      refine a_istore (L' := [some (.ref 95), some (vi x1), some (vi x2), some (vi r4), some (vi r6), none, none, none]) dX3_takeIntoBase_73 rfl rfl rfl rfl ?_
      refine a_aload_n dX3_takeIntoBase_75 rfl ?_
      refine a_getR (c0 := 100) fl_X3_26 lyC_95 rfl dX3_takeIntoBase_76 (key := 6089) rfl ?_
      refine a_iload_n dX3_takeIntoBase_79 rfl ?_
      refine a_aaldI lyC_100 rfl dX3_takeIntoBase_80 fun hi8 => ?_
      refine a_aload_n dX3_takeIntoBase_81 rfl ?_
      refine a_getR (c0 := 98) fl_X3_20 lyC_95 rfl dX3_takeIntoBase_82 (key := 6087) rfl ?_
      refine a_iload_n dX3_takeIntoBase_85 rfl ?_
      refine a_iald lyC_98 rfl dX3_takeIntoBase_86 ?_
      refine a_iald (lyC_s _ (ix_lt hi8)) rfl dX3_takeIntoBase_87 ?_
      refine a_bvi fun t9 => ?_
      refine a_istore (L' := [some (.ref 95), some (vi x1), some (vi x2), some (vi r4), some (vi r6), some (vi t9), none, none]) dX3_takeIntoBase_88 rfl rfl rfl rfl ?_
      refine a_iload_n dX3_takeIntoBase_90 rfl ?_
      refine a_istore (L' := [some (.ref 95), some (vi x1), some (vi x2), some (vi r4), some (vi r6), some (vi t9), some (vi x1), none]) dX3_takeIntoBase_91 rfl rfl rfl rfl ?_
      exact a_L (lsub_get (A := [some (.ref 95), some (vi x1), none, none, some (vi r6), some (vi t9), some (vi x1), none]) ⟨rfl, ⟨rfl, ⟨rfl, ⟨rfl, ⟨rfl, trivial⟩⟩⟩⟩⟩) (cl_Makers_takeIntoBase_93 F F _ _ _ _ _)
    refine a_iconst dX3_takeIntoBase_63 ?_
    exact a_zretc (by decide) dX3_takeIntoBase_64
  refine a_aload_n dX3_takeIntoBase_16 rfl ?_
  refine a_getR (c0 := 99) fl_X3_23 lyC_95 rfl dX3_takeIntoBase_17 (key := 6088) rfl ?_
  refine a_iload_n dX3_takeIntoBase_20 rfl ?_
  refine a_aaldI lyC_99 rfl dX3_takeIntoBase_21 fun hi28 => ?_
  refine a_aload_n dX3_takeIntoBase_22 rfl ?_
  refine a_getR (c0 := 98) fl_X3_20 lyC_95 rfl dX3_takeIntoBase_23 (key := 6087) rfl ?_
  refine a_iload_n dX3_takeIntoBase_26 rfl ?_
  refine a_iald lyC_98 rfl dX3_takeIntoBase_27 ?_
  refine a_aload_n dX3_takeIntoBase_28 rfl ?_
  refine a_iload_n dX3_takeIntoBase_29 rfl ?_
  refine a_iload_n dX3_takeIntoBase_30 rfl ?_
  refine a_aload_n dX3_takeIntoBase_31 rfl ?_
  refine a_getR (c0 := 98) fl_X3_20 lyC_95 rfl dX3_takeIntoBase_32 (key := 6087) rfl ?_
  refine a_iload_n dX3_takeIntoBase_35 rfl ?_
  refine a_iald lyC_98 rfl dX3_takeIntoBase_36 ?_
  refine a_callVi (as := [vi x1, vi x2, vi (gA σ 98 (Int.toNat x3))]) mf_X3_102 lyC_95 rfl (c_Makers_lessBase F _ _ _ _) LYsame.rf dX3_takeIntoBase_37 rfl rfl rfl rfl rfl rfl (Or.inl rfl) fun r29 σ30 => ?_
  refine a_iast (lyC_b _ (ix_lt hi28)) rfl dX3_takeIntoBase_40 fun σ31 => ?_
  refine a_bv fun x3_32 ex3_32 => ?_
  refine a_iinc (y := x3_32) (L' := [some (.ref 95), some (vi x1), some (vi x2), some (vi x3_32), none, none, none, none]) dX3_takeIntoBase_41 rfl ex3_32 rfl rfl rfl ?_
  refine a_goto dX3_takeIntoBase_44 rfl ?_
  exact hself _ _ _ _
set_option maxRecDepth 100000 in
set_option maxHeartbeats 4000000 in
theorem cl_Makers_takeIntoBase_8 {K : KX} {x : Bool} (F : Nat) : ∀ (n : Nat) (σ : St) (x1 x2 x3 : Int), WA 3 0 1 cX3_takeIntoBase RX3 8 (some .boolean) (LYC x false false) (LYC x false false) K 8 [some (.ref 95), some (vi x1), some (vi x2), some (vi x3), none, none, none, none] [] σ (l_Makers_takeIntoBase_8 F n σ x1 x2 x3)
  | 0, _, _, _, _ => a_none
  | n + 1, σ, x1, x2, x3 => cb_Makers_takeIntoBase_8 F _ (cl_Makers_takeIntoBase_8 F n) σ x1 x2 x3
set_option maxRecDepth 100000 in
set_option maxHeartbeats 4000000 in
theorem c_Makers_takeIntoBase {x : Bool} (F : Nat) (σ : St) (x1 x2 : Int) : Ct 3 0 1 yX3_takeIntoBase cX3_takeIntoBase 8 (some .boolean) (LYC x false false) (LYC x false false) [.ref 95, vi x1, vi x2] σ (f_Makers_takeIntoBase F σ x1 x2) := by
  unfold f_Makers_takeIntoBase
  refine Ct_of (d := 3) (kp := 0) (kd := 1) (own := RX3) (nL := 8) (ret := (some .boolean)) (LY := (LYC x false false)) (LYe := (LYC x false false)) (L := [some (.ref 95), some (vi x1), some (vi x2), none, none, none, none, none]) rfl (by decide +kernel) rfl rfl mf_X3_86.2.2.2.1 rfl fun K => ?_
  refine a_aload_n dX3_takeIntoBase_0 rfl ?_
  refine a_iload_n dX3_takeIntoBase_1 rfl ?_
  refine a_iload_n dX3_takeIntoBase_2 rfl ?_
  refine a_callVv (as := [vi x1, vi x2]) mf_X3_99 lyC_95 rfl (c_Makers_findTimes F _ _ _) LYsame.rf dX3_takeIntoBase_3 rfl rfl rfl rfl rfl rfl (Or.inl rfl) fun r1 σ2 => ?_
  refine a_iload_n dX3_takeIntoBase_6 rfl ?_
  refine a_istore_n (L' := [some (.ref 95), some (vi x1), some (vi x2), some (vi x1), none, none, none, none]) dX3_takeIntoBase_7 rfl rfl rfl rfl ?_
  exact cl_Makers_takeIntoBase_8 F F _ _ _ _
def b_Makers_makesRest_44 (F : Nat) (self : St → Int → Int → Int → Int → Int → Option (Int × St)) (σ : St) (x1 x2 x4 x5 x6 : Int) : Option (Int × St) := gd (rng x6 ∧ rng (gF σ 6086)) (if (gF σ 6086) ≤ x6 then some (1, σ) else gd (inb x6 10) (bv (gA σ 98 (Int.toNat x6)) fun x7_9 => bnd (f_Makers_lessBase F σ x1 x2 x7_9) fun r10 σ11 => bnd (f_W_product F σ11 r10 x5 (gF σ11 6082)) fun r12 σ13 => gd (inb x1 3) (gd (inb x7_9 10) (bv (gA σ13 (212 + (Int.toNat x1)) (Int.toNat x7_9)) fun t15 => bnd (f_W_product F σ13 x4 t15 (gF σ13 6082)) fun r16 σ17 => gd (rng r12 ∧ rng r16) (if r12 = r16 then bv (x6 + 1) fun x6_18 => self σ17 x1 x2 x4 x5 x6_18 else some (0, σ17))))))
def l_Makers_makesRest_44 (F : Nat) : Nat → St → Int → Int → Int → Int → Int → Option (Int × St)
  | 0 => fun _ _ _ _ _ _ => none
  | n + 1 => fun σ x1 x2 x4 x5 x6 => b_Makers_makesRest_44 F (l_Makers_makesRest_44 F n) σ x1 x2 x4 x5 x6
def f_Makers_makesRest (F : Nat) (σ : St) (x1 x2 : Int) : Option (Int × St) := bnd (f_Makers_findTimes F σ x1 x2) fun r1 σ2 => gd (inb x1 10) (bv (gA σ2 98 (Int.toNat x1)) fun x3_3 => bnd (f_Makers_lessBase F σ2 x1 x2 x3_3) fun r4 σ5 => gd (rng r4) (if r4 = 0 then some (0, σ5) else gd (inb x1 3) (gd (inb x3_3 10) (bv (gA σ5 (212 + (Int.toNat x1)) (Int.toNat x3_3)) fun t7 => bv (x1 + 1) fun x6_8 => l_Makers_makesRest_44 F F σ5 x1 x2 r4 t7 x6_8))))
set_option maxRecDepth 100000 in
set_option maxHeartbeats 4000000 in
theorem cb_Makers_makesRest_44 {K : KX} {x : Bool} (F : Nat) (self : St → Int → Int → Int → Int → Int → Option (Int × St)) (hself : ∀ σ x1 x2 x4 x5 x6, WA 3 0 1 cX3_makesRest RX3 8 (some .boolean) (LYC x false false) (LYC x false false) K 44 [some (.ref 95), some (vi x1), some (vi x2), none, some (vi x4), some (vi x5), some (vi x6), none] [] σ (self σ x1 x2 x4 x5 x6)) (σ : St) (x1 x2 x4 x5 x6 : Int) : WA 3 0 1 cX3_makesRest RX3 8 (some .boolean) (LYC x false false) (LYC x false false) K 44 [some (.ref 95), some (vi x1), some (vi x2), none, some (vi x4), some (vi x5), some (vi x6), none] [] σ (b_Makers_makesRest_44 F self σ x1 x2 x4 x5 x6) := by
  unfold b_Makers_makesRest_44
  refine a_iload dX3_makesRest_44 rfl ?_
  refine a_aload_n dX3_makesRest_46 rfl ?_
  refine a_getI fl_X3_60 lyC_95 rfl dX3_makesRest_47 (key := 6086) rfl ?_
  refine a_icmp_ge dX3_makesRest_50 rfl (fun _ => ?_) (fun _ => ?_)
  · refine a_iconst dX3_makesRest_108 ?_
    exact a_zretc (by decide) dX3_makesRest_109
  refine a_aload_n dX3_makesRest_53 rfl ?_
  refine a_getR (c0 := 98) fl_X3_20 lyC_95 rfl dX3_makesRest_54 (key := 6087) rfl ?_
  refine a_iload dX3_makesRest_57 rfl ?_
  refine a_iald lyC_98 rfl dX3_makesRest_59 ?_
  refine a_bv fun x7_9 ex7_9 => ?_
  refine a_istore (y := x7_9) (L' := [some (.ref 95), some (vi x1), some (vi x2), none, some (vi x4), some (vi x5), some (vi x6), some (vi x7_9)]) dX3_makesRest_60 ex7_9 rfl rfl rfl ?_
  refine a_aload_n dX3_makesRest_62 rfl ?_
  refine a_iload_n dX3_makesRest_63 rfl ?_
  refine a_iload_n dX3_makesRest_64 rfl ?_
  refine a_iload dX3_makesRest_65 rfl ?_
  refine a_callVi (as := [vi x1, vi x2, vi x7_9]) mf_X3_102 lyC_95 rfl (c_Makers_lessBase F _ _ _ _) LYsame.rf dX3_makesRest_67 rfl rfl rfl rfl rfl rfl (Or.inl rfl) fun r10 σ11 => ?_
  refine a_iload dX3_makesRest_70 rfl ?_
  refine a_aload_n dX3_makesRest_72 rfl ?_
  refine a_getI fl_X3_47 lyC_95 rfl dX3_makesRest_73 (key := 6082) rfl ?_
  refine a_callNi (as := [vi r10, vi x5, vi (gF σ11 6082)]) mf_X3_109 (c_W_product F _ _ _ _) LYsame.rf dX3_makesRest_76 rfl rfl rfl rfl rfl rfl (Or.inl rfl) fun r12 σ13 => ?_
  refine a_iload dX3_makesRest_79 rfl ?_
  refine a_aload_n dX3_makesRest_81 rfl ?_
  refine a_getR (c0 := 100) fl_X3_26 lyC_95 rfl dX3_makesRest_82 (key := 6089) rfl ?_
  refine a_iload_n dX3_makesRest_85 rfl ?_
  refine a_aaldI lyC_100 rfl dX3_makesRest_86 fun hi14 => ?_
  refine a_iload dX3_makesRest_87 rfl ?_
  refine a_iald (lyC_s _ (ix_lt hi14)) rfl dX3_makesRest_89 ?_
  refine a_bvi fun t15 => ?_
  refine a_aload_n dX3_makesRest_90 rfl ?_
  refine a_getI fl_X3_47 lyC_95 rfl dX3_makesRest_91 (key := 6082) rfl ?_
  refine a_callNi (as := [vi x4, vi t15, vi (gF σ13 6082)]) mf_X3_109 (c_W_product F _ _ _ _) LYsame.rf dX3_makesRest_94 rfl rfl rfl rfl rfl rfl (Or.inl rfl) fun r16 σ17 => ?_
  refine a_icmp_eq dX3_makesRest_97 rfl (fun _ => ?_) (fun _ => ?_)
  · refine a_bv fun x6_18 ex6_18 => ?_
    refine a_iinc (y := x6_18) (L' := [some (.ref 95), some (vi x1), some (vi x2), none, some (vi x4), some (vi x5), some (vi x6_18), some (vi x7_9)]) dX3_makesRest_102 rfl ex6_18 rfl rfl rfl ?_
    refine a_goto dX3_makesRest_105 rfl ?_
    exact a_L (lsub_get (A := [some (.ref 95), some (vi x1), some (vi x2), none, some (vi x4), some (vi x5), some (vi x6_18), none]) ⟨rfl, ⟨rfl, ⟨rfl, ⟨rfl, ⟨rfl, ⟨rfl, trivial⟩⟩⟩⟩⟩⟩) (hself _ _ _ _ _ _)
  refine a_iconst dX3_makesRest_100 ?_
  exact a_zretc (by decide) dX3_makesRest_101
set_option maxRecDepth 100000 in
set_option maxHeartbeats 4000000 in
theorem cl_Makers_makesRest_44 {K : KX} {x : Bool} (F : Nat) : ∀ (n : Nat) (σ : St) (x1 x2 x4 x5 x6 : Int), WA 3 0 1 cX3_makesRest RX3 8 (some .boolean) (LYC x false false) (LYC x false false) K 44 [some (.ref 95), some (vi x1), some (vi x2), none, some (vi x4), some (vi x5), some (vi x6), none] [] σ (l_Makers_makesRest_44 F n σ x1 x2 x4 x5 x6)
  | 0, _, _, _, _, _, _ => a_none
  | n + 1, σ, x1, x2, x4, x5, x6 => cb_Makers_makesRest_44 F _ (cl_Makers_makesRest_44 F n) σ x1 x2 x4 x5 x6
set_option maxRecDepth 100000 in
set_option maxHeartbeats 4000000 in
theorem c_Makers_makesRest {x : Bool} (F : Nat) (σ : St) (x1 x2 : Int) : Ct 3 0 1 yX3_makesRest cX3_makesRest 8 (some .boolean) (LYC x false false) (LYC x false false) [.ref 95, vi x1, vi x2] σ (f_Makers_makesRest F σ x1 x2) := by
  unfold f_Makers_makesRest
  refine Ct_of (d := 3) (kp := 0) (kd := 1) (own := RX3) (nL := 8) (ret := (some .boolean)) (LY := (LYC x false false)) (LYe := (LYC x false false)) (L := [some (.ref 95), some (vi x1), some (vi x2), none, none, none, none, none]) rfl (by decide +kernel) rfl rfl mf_X3_90.2.2.2.1 rfl fun K => ?_
  refine a_aload_n dX3_makesRest_0 rfl ?_
  refine a_iload_n dX3_makesRest_1 rfl ?_
  refine a_iload_n dX3_makesRest_2 rfl ?_
  refine a_callVv (as := [vi x1, vi x2]) mf_X3_99 lyC_95 rfl (c_Makers_findTimes F _ _ _) LYsame.rf dX3_makesRest_3 rfl rfl rfl rfl rfl rfl (Or.inl rfl) fun r1 σ2 => ?_
  refine a_aload_n dX3_makesRest_6 rfl ?_
  refine a_getR (c0 := 98) fl_X3_20 lyC_95 rfl dX3_makesRest_7 (key := 6087) rfl ?_
  refine a_iload_n dX3_makesRest_10 rfl ?_
  refine a_iald lyC_98 rfl dX3_makesRest_11 ?_
  refine a_bv fun x3_3 ex3_3 => ?_
  refine a_istore_n (y := x3_3) (L' := [some (.ref 95), some (vi x1), some (vi x2), some (vi x3_3), none, none, none, none]) dX3_makesRest_12 ex3_3 rfl rfl rfl ?_
  refine a_aload_n dX3_makesRest_13 rfl ?_
  refine a_iload_n dX3_makesRest_14 rfl ?_
  refine a_iload_n dX3_makesRest_15 rfl ?_
  refine a_iload_n dX3_makesRest_16 rfl ?_
  refine a_callVi (as := [vi x1, vi x2, vi x3_3]) mf_X3_102 lyC_95 rfl (c_Makers_lessBase F _ _ _ _) LYsame.rf dX3_makesRest_17 rfl rfl rfl rfl rfl rfl (Or.inl rfl) fun r4 σ5 => ?_
  refine a_istore (L' := [some (.ref 95), some (vi x1), some (vi x2), some (vi x3_3), some (vi r4), none, none, none]) dX3_makesRest_20 rfl rfl rfl rfl ?_
  refine a_iload dX3_makesRest_22 rfl ?_
  refine a_if_ne dX3_makesRest_24 rfl (fun _ => ?_) (fun _ => ?_)
  · refine a_aload_n dX3_makesRest_29 rfl ?_
    refine a_getR (c0 := 100) fl_X3_26 lyC_95 rfl dX3_makesRest_30 (key := 6089) rfl ?_
    refine a_iload_n dX3_makesRest_33 rfl ?_
    refine a_aaldI lyC_100 rfl dX3_makesRest_34 fun hi6 => ?_
    refine a_iload_n dX3_makesRest_35 rfl ?_
    refine a_iald (lyC_s _ (ix_lt hi6)) rfl dX3_makesRest_36 ?_
    refine a_bvi fun t7 => ?_
    refine a_istore (L' := [some (.ref 95), some (vi x1), some (vi x2), some (vi x3_3), some (vi r4), some (vi t7), none, none]) dX3_makesRest_37 rfl rfl rfl rfl ?_
    refine a_iload_n dX3_makesRest_39 rfl ?_
    refine a_iconst dX3_makesRest_40 ?_
    refine a_iadd dX3_makesRest_41 ?_
    refine a_bv fun x6_8 ex6_8 => ?_
    refine a_istore (y := x6_8) (L' := [some (.ref 95), some (vi x1), some (vi x2), some (vi x3_3), some (vi r4), some (vi t7), some (vi x6_8), none]) dX3_makesRest_42 ex6_8 rfl rfl rfl ?_
    exact a_L (lsub_get (A := [some (.ref 95), some (vi x1), some (vi x2), none, some (vi r4), some (vi t7), some (vi x6_8), none]) ⟨rfl, ⟨rfl, ⟨rfl, ⟨rfl, ⟨rfl, ⟨rfl, trivial⟩⟩⟩⟩⟩⟩) (cl_Makers_makesRest_44 F F _ _ _ _ _ _)
  refine a_iconst dX3_makesRest_27 ?_
  exact a_zretc (by decide) dX3_makesRest_28
def b_Makers_chooseLast_17 (F : Nat) (self : St → Int → Int → Option (Int × St)) (σ : St) (x1 x3 : Int) : Option (Int × St) := gd (rng x3 ∧ rng (gF σ 6083)) (if (gF σ 6083) ≤ x3 then some (0, σ) else bnd (f_Makers_isDone F σ) fun r4 σ5 => gd (rng r4) (if r4 = 0 then bnd (f_Makers_makesRest F σ5 x1 x3) fun r6 σ7 => gd (rng r6) (if r6 = 0 then bv (x3 + 1) fun x3_8 => self σ7 x1 x3_8 else gd (inb x1 3) (bs (sA σ7 102 (Int.toNat x1) x3) fun σ9 => gd (rng (gF σ9 6080)) (if (gF σ9 6080) = 0 then gd (0 ≤ (0 : Int) ∧ 0 ≤ (0 : Int) ∧ 0 ≤ (x1 + 1) ∧ 0 + (x1 + 1) ≤ 3 ∧ 0 + (x1 + 1) ≤ 3) (bs (cpA σ9 102 (Int.toNat 0) 96 (Int.toNat 0) (Int.toNat (x1 + 1))) fun σ12 => bs (sF σ12 6080 ((gF σ12 6080) + 1)) fun σ13 => bv (x3 + 1) fun x3_14 => self σ13 x1 x3_14) else bs (sF σ9 6080 ((gF σ9 6080) + 1)) fun σ10 => bv (x3 + 1) fun x3_11 => self σ10 x1 x3_11))) else some (0, σ5)))
def l_Makers_chooseLast_17 (F : Nat) : Nat → St → Int → Int → Option (Int × St)
  | 0 => fun _ _ _ => none
  | n + 1 => fun σ x1 x3 => b_Makers_chooseLast_17 F (l_Makers_chooseLast_17 F n) σ x1 x3
def f_Makers_chooseLast (F : Nat) (σ : St) (x1 x2 : Int) : Option (Int × St) := gd (inb x1 3) (bnd (f_Makers_bringForward F (212 + (Int.toNat x1)) σ x1) fun r2 σ3 => gd (rng r2) (if r2 = 0 then some (0, σ3) else l_Makers_chooseLast_17 F F σ3 x1 x2))
set_option maxRecDepth 100000 in
set_option maxHeartbeats 4000000 in
theorem cb_Makers_chooseLast_17 {K : KX} {x : Bool} (F : Nat) (self : St → Int → Int → Option (Int × St)) (hself : ∀ σ x1 x3, WA 4 0 0 cX3_chooseLast RX3 4 none (LYC x false false) (LYC x false false) K 17 [some (.ref 95), some (vi x1), none, some (vi x3)] [] σ (self σ x1 x3)) (σ : St) (x1 x3 : Int) : WA 4 0 0 cX3_chooseLast RX3 4 none (LYC x false false) (LYC x false false) K 17 [some (.ref 95), some (vi x1), none, some (vi x3)] [] σ (b_Makers_chooseLast_17 F self σ x1 x3) := by
  unfold b_Makers_chooseLast_17
  refine a_iload_n dX3_chooseLast_17 rfl ?_
  refine a_aload_n dX3_chooseLast_18 rfl ?_
  refine a_getI fl_X3_51 lyC_95 rfl dX3_chooseLast_19 (key := 6083) rfl ?_
  refine a_icmp_ge dX3_chooseLast_22 rfl (fun _ => ?_) (fun _ => ?_)
  · exact a_vret dX3_chooseLast_87
  refine a_aload_n dX3_chooseLast_25 rfl ?_
  refine a_callVi (as := []) mf_X3_82 lyC_95 rfl (c_Makers_isDone F _) LYsame.rf dX3_chooseLast_26 rfl rfl rfl rfl rfl rfl (Or.inl rfl) fun r4 σ5 => ?_
  refine a_if_ne dX3_chooseLast_29 rfl (fun _ => ?_) (fun _ => ?_)
  · exact a_vret dX3_chooseLast_87
  refine a_aload_n dX3_chooseLast_32 rfl ?_
  refine a_iload_n dX3_chooseLast_33 rfl ?_
  refine a_iload_n dX3_chooseLast_34 rfl ?_
  refine a_callVi (as := [vi x1, vi x3]) mf_X3_90 lyC_95 rfl (c_Makers_makesRest F _ _ _) LYsame.rf dX3_chooseLast_35 rfl rfl rfl rfl rfl rfl (Or.inl rfl) fun r6 σ7 => ?_
  refine a_if_eq dX3_chooseLast_38 rfl (fun _ => ?_) (fun _ => ?_)
  · refine a_bv fun x3_8 ex3_8 => ?_
    refine a_iinc (y := x3_8) (L' := [some (.ref 95), some (vi x1), none, some (vi x3_8)]) dX3_chooseLast_81 rfl ex3_8 rfl rfl rfl ?_
    refine a_goto dX3_chooseLast_84 rfl ?_
    exact hself _ _ _
  refine a_aload_n dX3_chooseLast_41 rfl ?_
  refine a_getR (c0 := 102) fl_X3_32 lyC_95 rfl dX3_chooseLast_42 (key := 6091) rfl ?_
  refine a_iload_n dX3_chooseLast_45 rfl ?_
  refine a_iload_n dX3_chooseLast_46 rfl ?_
  refine a_iast lyC_102 rfl dX3_chooseLast_47 fun σ9 => ?_
  refine a_aload_n dX3_chooseLast_48 rfl ?_
  refine a_getI fl_X3_67 lyC_95 rfl dX3_chooseLast_49 (key := 6080) rfl ?_
  refine a_if_ne dX3_chooseLast_52 rfl (fun _ => ?_) (fun _ => ?_)
  · refine a_aload_n dX3_chooseLast_71 rfl ?_
    refine a_dup dX3_chooseLast_72 rfl ?_
    refine a_getI fl_X3_67 lyC_95 rfl dX3_chooseLast_73 (key := 6080) rfl ?_
    refine a_iconst dX3_chooseLast_76 ?_
    refine a_iadd dX3_chooseLast_77 ?_
    refine a_putI fl_X3_67 cf_X3 rfl rfl lyC_95 rfl dX3_chooseLast_78 (key := 6080) rfl fun σ10 => ?_
    refine a_bv fun x3_11 ex3_11 => ?_
    refine a_iinc (y := x3_11) (L' := [some (.ref 95), some (vi x1), none, some (vi x3_11)]) dX3_chooseLast_81 rfl ex3_11 rfl rfl rfl ?_
    refine a_goto dX3_chooseLast_84 rfl ?_
    exact hself _ _ _
  refine a_aload_n dX3_chooseLast_55 rfl ?_
  refine a_getR (c0 := 102) fl_X3_32 lyC_95 rfl dX3_chooseLast_56 (key := 6091) rfl ?_
  refine a_iconst dX3_chooseLast_59 ?_
  refine a_aload_n dX3_chooseLast_60 rfl ?_
  refine a_getR (c0 := 96) fl_X3_9 lyC_95 rfl dX3_chooseLast_61 (key := 6081) rfl ?_
  refine a_iconst dX3_chooseLast_64 ?_
  refine a_iload_n dX3_chooseLast_65 rfl ?_
  refine a_iconst dX3_chooseLast_66 ?_
  refine a_iadd dX3_chooseLast_67 ?_
  refine a_acopy ac_X3_93 lyC_102 lyC_96 rfl rfl rfl rfl dX3_chooseLast_68 fun σ12 => ?_
  refine a_aload_n dX3_chooseLast_71 rfl ?_
  refine a_dup dX3_chooseLast_72 rfl ?_
  refine a_getI fl_X3_67 lyC_95 rfl dX3_chooseLast_73 (key := 6080) rfl ?_
  refine a_iconst dX3_chooseLast_76 ?_
  refine a_iadd dX3_chooseLast_77 ?_
  refine a_putI fl_X3_67 cf_X3 rfl rfl lyC_95 rfl dX3_chooseLast_78 (key := 6080) rfl fun σ13 => ?_
  refine a_bv fun x3_14 ex3_14 => ?_
  refine a_iinc (y := x3_14) (L' := [some (.ref 95), some (vi x1), none, some (vi x3_14)]) dX3_chooseLast_81 rfl ex3_14 rfl rfl rfl ?_
  refine a_goto dX3_chooseLast_84 rfl ?_
  exact hself _ _ _
set_option maxRecDepth 100000 in
set_option maxHeartbeats 4000000 in
theorem cl_Makers_chooseLast_17 {K : KX} {x : Bool} (F : Nat) : ∀ (n : Nat) (σ : St) (x1 x3 : Int), WA 4 0 0 cX3_chooseLast RX3 4 none (LYC x false false) (LYC x false false) K 17 [some (.ref 95), some (vi x1), none, some (vi x3)] [] σ (l_Makers_chooseLast_17 F n σ x1 x3)
  | 0, _, _, _ => a_none
  | n + 1, σ, x1, x3 => cb_Makers_chooseLast_17 F _ (cl_Makers_chooseLast_17 F n) σ x1 x3
set_option maxRecDepth 100000 in
set_option maxHeartbeats 4000000 in
theorem c_Makers_chooseLast {x : Bool} (F : Nat) (σ : St) (x1 x2 : Int) : Ct 4 0 0 yX3_chooseLast cX3_chooseLast 4 none (LYC x false false) (LYC x false false) [.ref 95, vi x1, vi x2] σ (f_Makers_chooseLast F σ x1 x2) := by
  unfold f_Makers_chooseLast
  refine Ct_of (d := 4) (kp := 0) (kd := 0) (own := RX3) (nL := 4) (ret := none) (LY := (LYC x false false)) (LYe := (LYC x false false)) (L := [some (.ref 95), some (vi x1), some (vi x2), none]) rfl (by decide +kernel) rfl rfl mf_X3_78.2.2.2.1 rfl fun K => ?_
  refine a_aload_n dX3_chooseLast_0 rfl ?_
  refine a_aload_n dX3_chooseLast_1 rfl ?_
  refine a_getR (c0 := 100) fl_X3_26 lyC_95 rfl dX3_chooseLast_2 (key := 6089) rfl ?_
  refine a_iload_n dX3_chooseLast_5 rfl ?_
  refine a_aaldI lyC_100 rfl dX3_chooseLast_6 fun hi1 => ?_
  refine a_iload_n dX3_chooseLast_7 rfl ?_
  refine a_callVi (as := [.ref (212 + (Int.toNat x1)), vi x1]) mf_X3_70 lyC_95 rfl (c_Makers_bringForward F (212 + (Int.toNat x1)) (lyC_s _ (ix_lt hi1)) _ _) LYsame.rf dX3_chooseLast_8 rfl rfl rfl rfl rfl rfl (Or.inl rfl) fun r2 σ3 => ?_
  refine a_if_ne dX3_chooseLast_11 rfl (fun _ => ?_) (fun _ => ?_)
  · refine a_iload_n dX3_chooseLast_15 rfl ?_
    refine a_istore_n (L' := [some (.ref 95), some (vi x1), some (vi x2), some (vi x2)]) dX3_chooseLast_16 rfl rfl rfl rfl ?_
    exact a_L (lsub_get (A := [some (.ref 95), some (vi x1), none, some (vi x2)]) ⟨rfl, ⟨rfl, ⟨rfl, trivial⟩⟩⟩) (cl_Makers_chooseLast_17 F F _ _ _)
  exact a_vret dX3_chooseLast_14
def b_Makers_choose_17 (F : Nat) (rec : St → Int → Int → Int → Option (Int × St)) (self : St → Int → Int → Int → Option (Int × St)) (σ : St) (x1 x3 x4 : Int) : Option (Int × St) := gd (rng x4 ∧ rng (gF σ 6083)) (if (gF σ 6083) ≤ x4 then some (0, σ) else bnd (f_Makers_isDone F σ) fun r1 σ2 => gd (rng r1) (if r1 = 0 then bnd (f_Makers_takeIntoBase F σ2 x1 x4) fun r3 σ4 => gd (rng r3) (if r3 = 0 then bv (x4 + 1) fun x4_5 => self σ4 x1 x3 x4_5 else gd (inb x1 3) (bs (sA σ4 102 (Int.toNat x1) x4) fun σ6 => bnd (rec σ6 (x1 + 1) (x4 + 1) x3) fun r7 σ8 => bv (x4 + 1) fun x4_9 => self σ8 x1 x3 x4_9)) else some (0, σ2)))
def l_Makers_choose_17 (F : Nat) (rec : St → Int → Int → Int → Option (Int × St)) : Nat → St → Int → Int → Int → Option (Int × St)
  | 0 => fun _ _ _ _ => none
  | n + 1 => fun σ x1 x3 x4 => b_Makers_choose_17 F rec (l_Makers_choose_17 F rec n) σ x1 x3 x4
def b_Makers_choose (F : Nat) (rec : St → Int → Int → Int → Option (Int × St)) (σ : St) (x1 x2 x3 : Int) : Option (Int × St) := gd (rng (x1 + 1) ∧ rng x3) (if (x1 + 1) < x3 then l_Makers_choose_17 F rec F σ x1 x3 x2 else bnd (f_Makers_chooseLast F σ x1 x2) fun r10 σ11 => some (0, σ11))
def f_Makers_choose (F : Nat) : Nat → St → Int → Int → Int → Option (Int × St)
  | 0 => fun _ _ _ _ => none
  | dep + 1 => fun σ x1 x2 x3 => b_Makers_choose F (f_Makers_choose F dep) σ x1 x2 x3
set_option maxRecDepth 100000 in
set_option maxHeartbeats 4000000 in
theorem cb_Makers_choose_17 {K : KX} {x : Bool} {dep : Nat} (F : Nat) (rec : St → Int → Int → Int → Option (Int × St)) (hrec : ∀ σ x1 x2 x3, Ct (5 + dep) 0 0 yX3_choose cX3_choose 5 none (LYC x false false) (LYC x false false) [.ref 95, vi x1, vi x2, vi x3] σ (rec σ x1 x2 x3)) (self : St → Int → Int → Int → Option (Int × St)) (hself : ∀ σ x1 x3 x4, WA (5 + (dep + 1)) 0 0 cX3_choose RX3 5 none (LYC x false false) (LYC x false false) K 17 [some (.ref 95), some (vi x1), none, some (vi x3), some (vi x4)] [] σ (self σ x1 x3 x4)) (σ : St) (x1 x3 x4 : Int) : WA (5 + (dep + 1)) 0 0 cX3_choose RX3 5 none (LYC x false false) (LYC x false false) K 17 [some (.ref 95), some (vi x1), none, some (vi x3), some (vi x4)] [] σ (b_Makers_choose_17 F rec self σ x1 x3 x4) := by
  unfold b_Makers_choose_17
  refine a_iload dX3_choose_17 rfl ?_
  refine a_aload_n dX3_choose_19 rfl ?_
  refine a_getI fl_X3_51 lyC_95 rfl dX3_choose_20 (key := 6083) rfl ?_
  refine a_icmp_ge dX3_choose_23 rfl (fun _ => ?_) (fun _ => ?_)
  · exact a_vret dX3_choose_69
  refine a_aload_n dX3_choose_26 rfl ?_
  refine a_callVi (as := []) mf_X3_82 lyC_95 rfl (c_Makers_isDone F _) LYsame.rf dX3_choose_27 (Nat.ble_eq_true_of_le (by omega)) rfl rfl rfl rfl rfl (Or.inl rfl) fun r1 σ2 => ?_
  refine a_if_ne dX3_choose_30 rfl (fun _ => ?_) (fun _ => ?_)
  · exact a_vret dX3_choose_69
  refine a_aload_n dX3_choose_33 rfl ?_
  refine a_iload_n dX3_choose_34 rfl ?_
  refine a_iload dX3_choose_35 rfl ?_
  refine a_callVi (as := [vi x1, vi x4]) mf_X3_86 lyC_95 rfl (c_Makers_takeIntoBase F _ _ _) LYsame.rf dX3_choose_37 (Nat.ble_eq_true_of_le (by omega)) rfl rfl rfl rfl rfl (Or.inl rfl) fun r3 σ4 => ?_
  refine a_if_eq dX3_choose_40 rfl (fun _ => ?_) (fun _ => ?_)
  · refine a_bv fun x4_5 ex4_5 => ?_
    refine a_iinc (y := x4_5) (L' := [some (.ref 95), some (vi x1), none, some (vi x3), some (vi x4_5)]) dX3_choose_63 rfl ex4_5 rfl rfl rfl ?_
    refine a_goto dX3_choose_66 rfl ?_
    exact hself _ _ _ _
  refine a_aload_n dX3_choose_43 rfl ?_
  refine a_getR (c0 := 102) fl_X3_32 lyC_95 rfl dX3_choose_44 (key := 6091) rfl ?_
  refine a_iload_n dX3_choose_47 rfl ?_
  refine a_iload dX3_choose_48 rfl ?_
  refine a_iast lyC_102 rfl dX3_choose_50 fun σ6 => ?_
  refine a_aload_n dX3_choose_51 rfl ?_
  refine a_iload_n dX3_choose_52 rfl ?_
  refine a_iconst dX3_choose_53 ?_
  refine a_iadd dX3_choose_54 ?_
  refine a_iload dX3_choose_55 rfl ?_
  refine a_iconst dX3_choose_57 ?_
  refine a_iadd dX3_choose_58 ?_
  refine a_iload_n dX3_choose_59 rfl ?_
  refine a_callVv (as := [vi (x1 + 1), vi (x4 + 1), vi x3]) mf_X3_74 lyC_95 rfl (hrec _ _ _ _) LYsame.rf dX3_choose_60 (Nat.ble_eq_true_of_le (by omega)) rfl rfl rfl rfl rfl (Or.inl rfl) fun r7 σ8 => ?_
  refine a_bv fun x4_9 ex4_9 => ?_
  refine a_iinc (y := x4_9) (L' := [some (.ref 95), some (vi x1), none, some (vi x3), some (vi x4_9)]) dX3_choose_63 rfl ex4_9 rfl rfl rfl ?_
  refine a_goto dX3_choose_66 rfl ?_
  exact hself _ _ _ _
set_option maxRecDepth 100000 in
set_option maxHeartbeats 4000000 in
theorem cl_Makers_choose_17 {K : KX} {x : Bool} {dep : Nat} (F : Nat) (rec : St → Int → Int → Int → Option (Int × St)) (hrec : ∀ σ x1 x2 x3, Ct (5 + dep) 0 0 yX3_choose cX3_choose 5 none (LYC x false false) (LYC x false false) [.ref 95, vi x1, vi x2, vi x3] σ (rec σ x1 x2 x3)) : ∀ (n : Nat) (σ : St) (x1 x3 x4 : Int), WA (5 + (dep + 1)) 0 0 cX3_choose RX3 5 none (LYC x false false) (LYC x false false) K 17 [some (.ref 95), some (vi x1), none, some (vi x3), some (vi x4)] [] σ (l_Makers_choose_17 F rec n σ x1 x3 x4)
  | 0, _, _, _, _ => a_none
  | n + 1, σ, x1, x3, x4 => cb_Makers_choose_17 F rec hrec _ (cl_Makers_choose_17 F rec hrec n) σ x1 x3 x4
set_option maxRecDepth 100000 in
set_option maxHeartbeats 4000000 in
theorem cr_Makers_choose {x : Bool} {dep : Nat} (F : Nat) (rec : St → Int → Int → Int → Option (Int × St)) (hrec : ∀ σ x1 x2 x3, Ct (5 + dep) 0 0 yX3_choose cX3_choose 5 none (LYC x false false) (LYC x false false) [.ref 95, vi x1, vi x2, vi x3] σ (rec σ x1 x2 x3)) (σ : St) (x1 x2 x3 : Int) : Ct (5 + (dep + 1)) 0 0 yX3_choose cX3_choose 5 none (LYC x false false) (LYC x false false) [.ref 95, vi x1, vi x2, vi x3] σ (b_Makers_choose F rec σ x1 x2 x3) := by
  unfold b_Makers_choose
  refine Ct_of (d := (5 + (dep + 1))) (kp := 0) (kd := 0) (own := RX3) (nL := 5) (ret := none) (LY := (LYC x false false)) (LYe := (LYC x false false)) (L := [some (.ref 95), some (vi x1), some (vi x2), some (vi x3), none]) rfl (by decide +kernel) rfl rfl mf_X3_74.2.2.2.1 rfl fun K => ?_
  refine a_iload_n dX3_choose_0 rfl ?_
  refine a_iconst dX3_choose_1 ?_
  refine a_iadd dX3_choose_2 ?_
  refine a_iload_n dX3_choose_3 rfl ?_
  refine a_icmp_lt dX3_choose_4 rfl (fun _ => ?_) (fun _ => ?_)
  · refine a_iload_n dX3_choose_14 rfl ?_
    refine a_istore (L' := [some (.ref 95), some (vi x1), some (vi x2), some (vi x3), some (vi x2)]) dX3_choose_15 rfl rfl rfl rfl ?_
    exact a_L (lsub_get (A := [some (.ref 95), some (vi x1), none, some (vi x3), some (vi x2)]) ⟨rfl, ⟨rfl, ⟨rfl, ⟨rfl, trivial⟩⟩⟩⟩) (cl_Makers_choose_17 F rec hrec F _ _ _ _)
  refine a_aload_n dX3_choose_7 rfl ?_
  refine a_iload_n dX3_choose_8 rfl ?_
  refine a_iload_n dX3_choose_9 rfl ?_
  refine a_callVv (as := [vi x1, vi x2]) mf_X3_78 lyC_95 rfl (c_Makers_chooseLast F _ _ _) LYsame.rf dX3_choose_10 (Nat.ble_eq_true_of_le (by omega)) rfl rfl rfl rfl rfl (Or.inl rfl) fun r10 σ11 => ?_
  exact a_vret dX3_choose_13
set_option maxRecDepth 100000 in
set_option maxHeartbeats 4000000 in
theorem c_Makers_choose {x : Bool} (F : Nat) : ∀ (dep : Nat) (σ : St) (x1 x2 x3 : Int), Ct (5 + dep) 0 0 yX3_choose cX3_choose 5 none (LYC x false false) (LYC x false false) [.ref 95, vi x1, vi x2, vi x3] σ (f_Makers_choose F dep σ x1 x2 x3)
  | 0, _, _, _, _ => fun _ _ h => by cases h
  | dep + 1, σ, x1, x2, x3 => cr_Makers_choose F _ (c_Makers_choose F dep) σ x1 x2 x3
def b_Makers_fewestUpTo_33 (F : Nat) (self : St → Int → Int → Option (Int × St)) (σ : St) (x1 x3 : Int) : Option (Int × St) := gd (rng x3 ∧ rng x1) (if x1 < x3 then some ((-1), σ) else bnd (f_Makers_choose F 4 σ 0 0 x3) fun r6 σ7 => gd (rng (gF σ7 6080)) (if (gF σ7 6080) ≤ 0 then bv (x3 + 1) fun x3_8 => self σ7 x1 x3_8 else some (x3, σ7)))
def l_Makers_fewestUpTo_33 (F : Nat) : Nat → St → Int → Int → Option (Int × St)
  | 0 => fun _ _ _ => none
  | n + 1 => fun σ x1 x3 => b_Makers_fewestUpTo_33 F (l_Makers_fewestUpTo_33 F n) σ x1 x3
def f_Makers_fewestUpTo (F : Nat) (σ : St) (x1 x2 : Int) : Option (Int × St) := gd (isb x2) (bs (sF σ 6092 x2) fun σ1 => bs (sF σ1 6080 0) fun σ2 => gd (inb 0 3) (bnd (f_Makers_bringForward F (212 + (Int.toNat 0)) σ2 0) fun r4 σ5 => gd (rng r4) (if r4 = 0 then bs (sF σ5 6080 1) fun σ9 => some (0, σ9) else l_Makers_fewestUpTo_33 F F σ5 x1 1)))
set_option maxRecDepth 100000 in
set_option maxHeartbeats 4000000 in
theorem cb_Makers_fewestUpTo_33 {K : KX} {x : Bool} (F : Nat) (self : St → Int → Int → Option (Int × St)) (hself : ∀ σ x1 x3, WA 10 0 1 cX3_fewestUpTo RX3 4 (some .int) (LYC x false false) (LYC x false false) K 33 [some (.ref 95), some (vi x1), none, some (vi x3)] [] σ (self σ x1 x3)) (σ : St) (x1 x3 : Int) : WA 10 0 1 cX3_fewestUpTo RX3 4 (some .int) (LYC x false false) (LYC x false false) K 33 [some (.ref 95), some (vi x1), none, some (vi x3)] [] σ (b_Makers_fewestUpTo_33 F self σ x1 x3) := by
  unfold b_Makers_fewestUpTo_33
  refine a_iload_n dX3_fewestUpTo_33 rfl ?_
  refine a_iload_n dX3_fewestUpTo_34 rfl ?_
  refine a_icmp_gt dX3_fewestUpTo_35 rfl (fun _ => ?_) (fun _ => ?_)
  · refine a_iconst dX3_fewestUpTo_60 ?_
    exact a_iret dX3_fewestUpTo_61
  refine a_aload_n dX3_fewestUpTo_38 rfl ?_
  refine a_iconst dX3_fewestUpTo_39 ?_
  refine a_iconst dX3_fewestUpTo_40 ?_
  refine a_iload_n dX3_fewestUpTo_41 rfl ?_
  refine a_callVv (as := [vi 0, vi 0, vi x3]) mf_X3_74 lyC_95 rfl (c_Makers_choose F 4 _ _ _ _) LYsame.rf dX3_fewestUpTo_42 rfl rfl rfl rfl rfl rfl (Or.inl rfl) fun r6 σ7 => ?_
  refine a_aload_n dX3_fewestUpTo_45 rfl ?_
  refine a_getI fl_X3_67 lyC_95 rfl dX3_fewestUpTo_46 (key := 6080) rfl ?_
  refine a_if_le dX3_fewestUpTo_49 rfl (fun _ => ?_) (fun _ => ?_)
  · refine a_bv fun x3_8 ex3_8 => ?_
    refine a_iinc (y := x3_8) (L' := [some (.ref 95), some (vi x1), none, some (vi x3_8)]) dX3_fewestUpTo_54 rfl ex3_8 rfl rfl rfl ?_
    refine a_goto dX3_fewestUpTo_57 rfl ?_
    exact hself _ _ _
  refine a_iload_n dX3_fewestUpTo_52 rfl ?_
  exact a_iret dX3_fewestUpTo_53
set_option maxRecDepth 100000 in
set_option maxHeartbeats 4000000 in
theorem cl_Makers_fewestUpTo_33 {K : KX} {x : Bool} (F : Nat) : ∀ (n : Nat) (σ : St) (x1 x3 : Int), WA 10 0 1 cX3_fewestUpTo RX3 4 (some .int) (LYC x false false) (LYC x false false) K 33 [some (.ref 95), some (vi x1), none, some (vi x3)] [] σ (l_Makers_fewestUpTo_33 F n σ x1 x3)
  | 0, _, _, _ => a_none
  | n + 1, σ, x1, x3 => cb_Makers_fewestUpTo_33 F _ (cl_Makers_fewestUpTo_33 F n) σ x1 x3
set_option maxRecDepth 100000 in
set_option maxHeartbeats 4000000 in
theorem c_Makers_fewestUpTo {x : Bool} (F : Nat) (σ : St) (x1 x2 : Int) : Ct 10 0 1 yX3_fewestUpTo cX3_fewestUpTo 4 (some .int) (LYC x false false) (LYC x false false) [.ref 95, vi x1, vi x2] σ (f_Makers_fewestUpTo F σ x1 x2) := by
  unfold f_Makers_fewestUpTo
  refine Ct_of (d := 10) (kp := 0) (kd := 1) (own := RX3) (nL := 4) (ret := (some .int)) (LY := (LYC x false false)) (LYe := (LYC x false false)) (L := [some (.ref 95), some (vi x1), some (vi x2), none]) rfl (by decide +kernel) rfl rfl mf_X10_283.2.2.2.1 rfl fun K => ?_
  refine a_aload_n dX3_fewestUpTo_0 rfl ?_
  refine a_iload_n dX3_fewestUpTo_1 rfl ?_
  refine a_putZ fl_X3_63 cf_X3 rfl rfl lyC_95 rfl dX3_fewestUpTo_2 (key := 6092) rfl fun σ1 => ?_
  refine a_aload_n dX3_fewestUpTo_5 rfl ?_
  refine a_iconst dX3_fewestUpTo_6 ?_
  refine a_putI fl_X3_67 cf_X3 rfl rfl lyC_95 rfl dX3_fewestUpTo_7 (key := 6080) rfl fun σ2 => ?_
  refine a_aload_n dX3_fewestUpTo_10 rfl ?_
  refine a_aload_n dX3_fewestUpTo_11 rfl ?_
  refine a_getR (c0 := 100) fl_X3_26 lyC_95 rfl dX3_fewestUpTo_12 (key := 6089) rfl ?_
  refine a_iconst dX3_fewestUpTo_15 ?_
  refine a_aaldI lyC_100 rfl dX3_fewestUpTo_16 fun hi3 => ?_
  refine a_iconst dX3_fewestUpTo_17 ?_
  refine a_callVi (as := [.ref (212 + (Int.toNat 0)), vi 0]) mf_X3_70 lyC_95 rfl (c_Makers_bringForward F (212 + (Int.toNat 0)) (lyC_s _ (ix_lt hi3)) _ _) LYsame.rf dX3_fewestUpTo_18 rfl rfl rfl rfl rfl rfl (Or.inl rfl) fun r4 σ5 => ?_
  refine a_if_ne dX3_fewestUpTo_21 rfl (fun _ => ?_) (fun _ => ?_)
  · refine a_iconst dX3_fewestUpTo_31 ?_
    refine a_istore_n (L' := [some (.ref 95), some (vi x1), some (vi x2), some (vi 1)]) dX3_fewestUpTo_32 rfl rfl rfl rfl ?_
    exact a_L (lsub_get (A := [some (.ref 95), some (vi x1), none, some (vi 1)]) ⟨rfl, ⟨rfl, ⟨rfl, trivial⟩⟩⟩) (cl_Makers_fewestUpTo_33 F F _ _ _)
  refine a_aload_n dX3_fewestUpTo_24 rfl ?_
  refine a_iconst dX3_fewestUpTo_25 ?_
  refine a_putI fl_X3_67 cf_X3 rfl rfl lyC_95 rfl dX3_fewestUpTo_26 (key := 6080) rfl fun σ9 => ?_
  refine a_iconst dX3_fewestUpTo_29 ?_
  exact a_iret dX3_fewestUpTo_30
def b_Rows_solve_makerNumber_59 (F : Nat) (self : St → Int → Int → Int → Option (Int × St)) (σ : St) (x2 x5 x6 : Int) : Option (Int × St) := gd (rng x6 ∧ rng x5) (if x5 ≤ x6 then some (1, σ) else gd (inb x6 46) (gd (inb x6 46) (gd (inb x2 70) (bv (gA σ (103 + (Int.toNat x6)) (Int.toNat x2)) fun t7 => gd (inb (gA σ 87 (Int.toNat x6)) 3) (bs (sA σ 18 (Int.toNat (gA σ 87 (Int.toNat x6))) t7) fun σ8 => bv (x6 + 1) fun x6_9 => self σ8 x2 x5 x6_9)))))
def l_Rows_solve_makerNumber_59 (F : Nat) : Nat → St → Int → Int → Int → Option (Int × St)
  | 0 => fun _ _ _ _ => none
  | n + 1 => fun σ x2 x5 x6 => b_Rows_solve_makerNumber_59 F (l_Rows_solve_makerNumber_59 F n) σ x2 x5 x6
def b_Rows_solve_makerNumber_35 (F : Nat) (self : St → Int → Int → Int → Option (Int × St)) (σ : St) (x2 x5 x6 : Int) : Option (Int × St) := gd (rng x6 ∧ rng x2) (if x2 ≤ x6 then l_Rows_solve_makerNumber_59 F F σ x2 x5 0 else gd (inb x6 3) (bs (sA σ 18 (Int.toNat x6) 0) fun σ10 => bv (x6 + 1) fun x6_11 => self σ10 x2 x5 x6_11))
def l_Rows_solve_makerNumber_35 (F : Nat) : Nat → St → Int → Int → Int → Option (Int × St)
  | 0 => fun _ _ _ _ => none
  | n + 1 => fun σ x2 x5 x6 => b_Rows_solve_makerNumber_35 F (l_Rows_solve_makerNumber_35 F n) σ x2 x5 x6
def f_Rows_solve_makerNumber (F : Nat) (σ : St) (x1 x2 x3 : Int) : Option (Int × St) := bnd (f_Rows_reduce F σ x1 (x2 + 1) x2 x3) fun r1 σ2 => bnd (f_Rows_rowWith F σ2 x2 r1 x1) fun r3 σ4 => gd (rng r3 ∧ rng (-1)) (if r3 = (-1) then bs (sF σ4 1089 x2) fun σ5 => l_Rows_solve_makerNumber_35 F F σ5 x2 r1 0 else some (0, σ4))
set_option maxRecDepth 100000 in
set_option maxHeartbeats 4000000 in
theorem cb_Rows_solve_makerNumber_59 {K : KX} {x : Bool} (F : Nat) (self : St → Int → Int → Int → Option (Int × St)) (hself : ∀ σ x2 x5 x6, WA 4 1 1 cX5_solve RX5 7 (some .boolean) (LYC x false false) (LYC x false false) K 59 [some (.ref 85), none, some (vi x2), none, some (.ref 17), some (vi x5), some (vi x6)] [] σ (self σ x2 x5 x6)) (σ : St) (x2 x5 x6 : Int) : WA 4 1 1 cX5_solve RX5 7 (some .boolean) (LYC x false false) (LYC x false false) K 59 [some (.ref 85), none, some (vi x2), none, some (.ref 17), some (vi x5), some (vi x6)] [] σ (b_Rows_solve_makerNumber_59 F self σ x2 x5 x6) := by
  unfold b_Rows_solve_makerNumber_59
  refine a_iload dX5_solve_59 rfl ?_
  refine a_iload dX5_solve_61 rfl ?_
  refine a_icmp_ge dX5_solve_63 rfl (fun _ => ?_) (fun _ => ?_)
  · refine a_iconst dX5_solve_94 ?_
    exact a_zretc (by decide) dX5_solve_95
  refine a_aload dX5_solve_66 rfl ?_
  refine a_getR (c0 := 18) fl_X5_58 lyC_17 rfl dX5_solve_68 (key := 1088) rfl ?_
  refine a_aload_n dX5_solve_71 rfl ?_
  refine a_getR (c0 := 87) fl_X5_16 lyC_85 rfl dX5_solve_72 (key := 5441) rfl ?_
  refine a_iload dX5_solve_75 rfl ?_
  refine a_iald lyC_87 rfl dX5_solve_77 ?_
  refine a_aload_n dX5_solve_78 rfl ?_
  refine a_getR (c0 := 86) fl_X5_13 lyC_85 rfl dX5_solve_79 (key := 5440) rfl ?_
  refine a_iload dX5_solve_82 rfl ?_
  refine a_aaldI lyC_86 rfl dX5_solve_84 fun hi6 => ?_
  refine a_iload_n dX5_solve_85 rfl ?_
  refine a_iald (lyC_r _ (ix_lt hi6)) rfl dX5_solve_86 ?_
  refine a_bvi fun t7 => ?_
  refine a_iast lyC_18 rfl dX5_solve_87 fun σ8 => ?_
  refine a_bv fun x6_9 ex6_9 => ?_
  refine a_iinc (y := x6_9) (L' := [some (.ref 85), none, some (vi x2), none, some (.ref 17), some (vi x5), some (vi x6_9)]) dX5_solve_88 rfl ex6_9 rfl rfl rfl ?_
  refine a_goto dX5_solve_91 rfl ?_
  exact hself _ _ _ _
set_option maxRecDepth 100000 in
set_option maxHeartbeats 4000000 in
theorem cl_Rows_solve_makerNumber_59 {K : KX} {x : Bool} (F : Nat) : ∀ (n : Nat) (σ : St) (x2 x5 x6 : Int), WA 4 1 1 cX5_solve RX5 7 (some .boolean) (LYC x false false) (LYC x false false) K 59 [some (.ref 85), none, some (vi x2), none, some (.ref 17), some (vi x5), some (vi x6)] [] σ (l_Rows_solve_makerNumber_59 F n σ x2 x5 x6)
  | 0, _, _, _, _ => a_none
  | n + 1, σ, x2, x5, x6 => cb_Rows_solve_makerNumber_59 F _ (cl_Rows_solve_makerNumber_59 F n) σ x2 x5 x6
set_option maxRecDepth 100000 in
set_option maxHeartbeats 4000000 in
theorem cb_Rows_solve_makerNumber_35 {K : KX} {x : Bool} (F : Nat) (self : St → Int → Int → Int → Option (Int × St)) (hself : ∀ σ x2 x5 x6, WA 4 1 1 cX5_solve RX5 7 (some .boolean) (LYC x false false) (LYC x false false) K 35 [some (.ref 85), none, some (vi x2), none, some (.ref 17), some (vi x5), some (vi x6)] [] σ (self σ x2 x5 x6)) (σ : St) (x2 x5 x6 : Int) : WA 4 1 1 cX5_solve RX5 7 (some .boolean) (LYC x false false) (LYC x false false) K 35 [some (.ref 85), none, some (vi x2), none, some (.ref 17), some (vi x5), some (vi x6)] [] σ (b_Rows_solve_makerNumber_35 F self σ x2 x5 x6) := by
  unfold b_Rows_solve_makerNumber_35
  refine a_iload dX5_solve_35 rfl ?_
  refine a_iload_n dX5_solve_37 rfl ?_
  refine a_icmp_ge dX5_solve_38 rfl (fun _ => ?_) (fun _ => ?_)
  · refine a_iconst dX5_solve_56 ?_
    refine a_istore (L' := [some (.ref 85), none, some (vi x2), none, some (.ref 17), some (vi x5), some (vi 0)]) dX5_solve_57 rfl rfl rfl rfl ?_
    exact cl_Rows_solve_makerNumber_59 F F _ _ _ _
  refine a_aload dX5_solve_41 rfl ?_
  refine a_getR (c0 := 18) fl_X5_58 lyC_17 rfl dX5_solve_43 (key := 1088) rfl ?_
  refine a_iload dX5_solve_46 rfl ?_
  refine a_iconst dX5_solve_48 ?_
  refine a_iast lyC_18 rfl dX5_solve_49 fun σ10 => ?_
  refine a_bv fun x6_11 ex6_11 => ?_
  refine a_iinc (y := x6_11) (L' := [some (.ref 85), none, some (vi x2), none, some (.ref 17), some (vi x5), some (vi x6_11)]) dX5_solve_50 rfl ex6_11 rfl rfl rfl ?_
  refine a_goto dX5_solve_53 rfl ?_
  exact hself _ _ _ _
set_option maxRecDepth 100000 in
set_option maxHeartbeats 4000000 in
theorem cl_Rows_solve_makerNumber_35 {K : KX} {x : Bool} (F : Nat) : ∀ (n : Nat) (σ : St) (x2 x5 x6 : Int), WA 4 1 1 cX5_solve RX5 7 (some .boolean) (LYC x false false) (LYC x false false) K 35 [some (.ref 85), none, some (vi x2), none, some (.ref 17), some (vi x5), some (vi x6)] [] σ (l_Rows_solve_makerNumber_35 F n σ x2 x5 x6)
  | 0, _, _, _, _ => a_none
  | n + 1, σ, x2, x5, x6 => cb_Rows_solve_makerNumber_35 F _ (cl_Rows_solve_makerNumber_35 F n) σ x2 x5 x6
set_option maxRecDepth 100000 in
set_option maxHeartbeats 4000000 in
theorem c_Rows_solve_makerNumber {x : Bool} (F : Nat) (σ : St) (x1 x2 x3 : Int) : Ct 4 1 1 yX5_solve cX5_solve 7 (some .boolean) (LYC x false false) (LYC x false false) [.ref 85, vi x1, vi x2, vi x3, .ref 17] σ (f_Rows_solve_makerNumber F σ x1 x2 x3) := by
  unfold f_Rows_solve_makerNumber
  refine Ct_of (d := 4) (kp := 1) (kd := 1) (own := RX5) (nL := 7) (ret := (some .boolean)) (LY := (LYC x false false)) (LYe := (LYC x false false)) (L := [some (.ref 85), some (vi x1), some (vi x2), some (vi x3), some (.ref 17), none, none]) rfl (by decide +kernel) rfl rfl mf_X10_309.2.2.2.1 rfl fun K => ?_
  refine a_aload_n dX5_solve_0 rfl ?_
  refine a_iload_n dX5_solve_1 rfl ?_
  refine a_iload_n dX5_solve_2 rfl ?_
  refine a_iconst dX5_solve_3 ?_
  refine a_iadd dX5_solve_4 ?_
  refine a_iload_n dX5_solve_5 rfl ?_
  refine a_iload_n dX5_solve_6 rfl ?_
  refine a_callVi (as := [vi x1, vi (x2 + 1), vi x2, vi x3]) mf_X5_49 lyC_85 rfl (c_Rows_reduce F _ _ _ _ _) LYsame.rf dX5_solve_7 rfl rfl rfl rfl rfl rfl (Or.inr rfl) fun r1 σ2 => ?_
  refine a_istore (L' := [some (.ref 85), some (vi x1), some (vi x2), some (vi x3), some (.ref 17), some (vi r1), none]) dX5_solve_10 rfl rfl rfl rfl ?_
  refine a_aload_n dX5_solve_12 rfl ?_
  refine a_iload_n dX5_solve_13 rfl ?_
  refine a_iload dX5_solve_14 rfl ?_
  refine a_iload_n dX5_solve_16 rfl ?_
  refine a_callVi (as := [vi x2, vi r1, vi x1]) mf_X5_20 lyC_85 rfl (c_Rows_rowWith F _ _ _ _) LYsame.rf dX5_solve_17 rfl rfl rfl rfl rfl rfl (Or.inl rfl) fun r3 σ4 => ?_
  refine a_iconst dX5_solve_20 ?_
  refine a_icmp_eq dX5_solve_21 rfl (fun _ => ?_) (fun _ => ?_)
  · refine a_aload dX5_solve_26 rfl ?_
    refine a_iload_n dX5_solve_28 rfl ?_
    refine a_putI fl_X5_53 cf_X9 rfl rfl lyC_17 rfl dX5_solve_29 (key := 1089) rfl fun σ5 => ?_
    refine a_iconst dX5_solve_32 ?_
    refine a_istore (L' := [some (.ref 85), some (vi x1), some (vi x2), some (vi x3), some (.ref 17), some (vi r1), some (vi 0)]) dX5_solve_33 rfl rfl rfl rfl ?_
    exact a_L (lsub_get (A := [some (.ref 85), none, some (vi x2), none, some (.ref 17), some (vi r1), some (vi 0)]) ⟨rfl, ⟨rfl, ⟨rfl, ⟨rfl, ⟨rfl, trivial⟩⟩⟩⟩⟩) (cl_Rows_solve_makerNumber_35 F F _ _ _ _)
  refine a_iconst dX5_solve_24 ?_
  exact a_zretc (by decide) dX5_solve_25
def b_W_findMakerNumbers_15 (F : Nat) (k2 : St → Int → Int → Option (Int × St)) (self : St → Int → Int → Int → Option (Int × St)) (σ : St) (x1 x2 x3 : Int) : Option (Int × St) := gd (rng x3 ∧ rng x1) (if x1 ≤ x3 then gd (inb x2 46) (gd (inb x2 10) (gd (inb x1 70) (bs (sA σ (103 + (Int.toNat x2)) (Int.toNat x1) (gA σ 94 (Int.toNat x2))) fun σ4 => bv (x2 + 1) fun x2_5 => k2 σ4 x1 x2_5))) else gd (inb x2 46) (gd (inb x3 3) (bnd (f_Scene_gainedWave_scene0 F σ x2 (gA σ 16 (Int.toNat x3))) fun r7 σ8 => gd (inb x3 70) (bs (sA σ8 (103 + (Int.toNat x2)) (Int.toNat x3) r7) fun σ9 => bv (x3 + 1) fun x3_10 => self σ9 x1 x2 x3_10))))
def l_W_findMakerNumbers_15 (F : Nat) (k2 : St → Int → Int → Option (Int × St)) : Nat → St → Int → Int → Int → Option (Int × St)
  | 0 => fun _ _ _ _ => none
  | n + 1 => fun σ x1 x2 x3 => b_W_findMakerNumbers_15 F k2 (l_W_findMakerNumbers_15 F k2 n) σ x1 x2 x3
def b_W_findMakerNumbers_2 (F : Nat) (self : St → Int → Int → Option (Int × St)) (σ : St) (x1 x2 : Int) : Option (Int × St) := gd (rng x2 ∧ rng (gF σ 5059)) (if (gF σ 5059) ≤ x2 then bnd (f_Rows_solve_makerNumber F σ (gF σ 5059) x1 (gF σ 1473)) fun r1 σ2 => some (0, σ2) else l_W_findMakerNumbers_15 F self F σ x1 x2 0)
def l_W_findMakerNumbers_2 (F : Nat) : Nat → St → Int → Int → Option (Int × St)
  | 0 => fun _ _ _ => none
  | n + 1 => fun σ x1 x2 => b_W_findMakerNumbers_2 F (l_W_findMakerNumbers_2 F n) σ x1 x2
def f_W_findMakerNumbers (F : Nat) (σ : St) (x1 : Int) : Option (Int × St) := l_W_findMakerNumbers_2 F F σ x1 0
set_option maxRecDepth 100000 in
set_option maxHeartbeats 4000000 in
theorem cb_W_findMakerNumbers_15 {K : KX} {x : Bool} (F : Nat) (k2 : St → Int → Int → Option (Int × St)) (h2 : ∀ σ x1 x2, WA 5 1 0 cX10_findMakerNumbers RX10 4 none (LYC x false false) (LYC x false false) K 2 [some (.ref 0), some (vi x1), some (vi x2), none] [] σ (k2 σ x1 x2)) (self : St → Int → Int → Int → Option (Int × St)) (hself : ∀ σ x1 x2 x3, WA 5 1 0 cX10_findMakerNumbers RX10 4 none (LYC x false false) (LYC x false false) K 15 [some (.ref 0), some (vi x1), some (vi x2), some (vi x3)] [] σ (self σ x1 x2 x3)) (σ : St) (x1 x2 x3 : Int) : WA 5 1 0 cX10_findMakerNumbers RX10 4 none (LYC x false false) (LYC x false false) K 15 [some (.ref 0), some (vi x1), some (vi x2), some (vi x3)] [] σ (b_W_findMakerNumbers_15 F k2 self σ x1 x2 x3) := by
  unfold b_W_findMakerNumbers_15
  refine a_iload_n dX10_findMakerNumbers_15 rfl ?_
  refine a_iload_n dX10_findMakerNumbers_16 rfl ?_
  refine a_icmp_ge dX10_findMakerNumbers_17 rfl (fun _ => ?_) (fun _ => ?_)
  · refine a_aload_n dX10_findMakerNumbers_54 rfl ?_
    refine a_getR (c0 := 85) fl_X10_44 lyC_0 rfl dX10_findMakerNumbers_55 (key := 6) rfl ?_
    refine a_getR (c0 := 86) fl_X10_188 lyC_85 rfl dX10_findMakerNumbers_58 (key := 5440) rfl ?_
    refine a_iload_n dX10_findMakerNumbers_61 rfl ?_
    refine a_aaldI lyC_86 rfl dX10_findMakerNumbers_62 fun hi3 => ?_
    refine a_iload_n dX10_findMakerNumbers_63 rfl ?_
    refine a_aload_n dX10_findMakerNumbers_64 rfl ?_
    refine a_getR (c0 := 94) fl_X10_69 lyC_0 rfl dX10_findMakerNumbers_65 (key := 10) rfl ?_
    refine a_iload_n dX10_findMakerNumbers_68 rfl ?_
    refine a_iald lyC_94 rfl dX10_findMakerNumbers_69 ?_
    refine a_iast (lyC_r _ (ix_lt hi3)) rfl dX10_findMakerNumbers_70 fun σ4 => ?_
    refine a_bv fun x2_5 ex2_5 => ?_
    refine a_iinc (y := x2_5) (L' := [some (.ref 0), some (vi x1), some (vi x2_5), some (vi x3)]) dX10_findMakerNumbers_71 rfl ex2_5 rfl rfl rfl ?_
    refine a_goto dX10_findMakerNumbers_74 rfl ?_
    exact a_L (lsub_get (A := [some (.ref 0), some (vi x1), some (vi x2_5), none]) ⟨rfl, ⟨rfl, ⟨rfl, trivial⟩⟩⟩) (h2 _ _ _)
  refine a_aload_n dX10_findMakerNumbers_20 rfl ?_
  refine a_getR (c0 := 85) fl_X10_44 lyC_0 rfl dX10_findMakerNumbers_21 (key := 6) rfl ?_
  refine a_getR (c0 := 86) fl_X10_188 lyC_85 rfl dX10_findMakerNumbers_24 (key := 5440) rfl ?_
  refine a_iload_n dX10_findMakerNumbers_27 rfl ?_
  refine a_aaldI lyC_86 rfl dX10_findMakerNumbers_28 fun hi6 => ?_
  refine a_iload_n dX10_findMakerNumbers_29 rfl ?_
  refine a_aload_n dX10_findMakerNumbers_30 rfl ?_
  refine a_getR (c0 := 79) fl_X10_26 lyC_0 rfl dX10_findMakerNumbers_31 (key := 2) rfl ?_
  refine a_iload_n dX10_findMakerNumbers_34 rfl ?_
  refine a_aload_n dX10_findMakerNumbers_35 rfl ?_
  refine a_getR (c0 := 15) fl_X10_82 lyC_0 rfl dX10_findMakerNumbers_36 (key := 12) rfl ?_
  refine a_getR (c0 := 16) fl_X10_290 lyC_15 rfl dX10_findMakerNumbers_39 (key := 960) rfl ?_
  refine a_iload_n dX10_findMakerNumbers_42 rfl ?_
  refine a_iald lyC_16 rfl dX10_findMakerNumbers_43 ?_
  refine a_callVi (as := [vi x2, vi (gA σ 16 (Int.toNat x3))]) mf_X10_192 lyC_79 rfl (c_Scene_gainedWave_scene0 F _ _ _) LYsame.rf dX10_findMakerNumbers_44 rfl rfl rfl rfl rfl rfl (Or.inl rfl) fun r7 σ8 => ?_
  refine a_iast (lyC_r _ (ix_lt hi6)) rfl dX10_findMakerNumbers_47 fun σ9 => ?_
  refine a_bv fun x3_10 ex3_10 => ?_
  refine a_iinc (y := x3_10) (L' := [some (.ref 0), some (vi x1), some (vi x2), some (vi x3_10)]) dX10_findMakerNumbers_48 rfl ex3_10 rfl rfl rfl ?_
  refine a_goto dX10_findMakerNumbers_51 rfl ?_
  exact hself _ _ _ _
set_option maxRecDepth 100000 in
set_option maxHeartbeats 4000000 in
theorem cl_W_findMakerNumbers_15 {K : KX} {x : Bool} (F : Nat) (k2 : St → Int → Int → Option (Int × St)) (h2 : ∀ σ x1 x2, WA 5 1 0 cX10_findMakerNumbers RX10 4 none (LYC x false false) (LYC x false false) K 2 [some (.ref 0), some (vi x1), some (vi x2), none] [] σ (k2 σ x1 x2)) : ∀ (n : Nat) (σ : St) (x1 x2 x3 : Int), WA 5 1 0 cX10_findMakerNumbers RX10 4 none (LYC x false false) (LYC x false false) K 15 [some (.ref 0), some (vi x1), some (vi x2), some (vi x3)] [] σ (l_W_findMakerNumbers_15 F k2 n σ x1 x2 x3)
  | 0, _, _, _, _ => a_none
  | n + 1, σ, x1, x2, x3 => cb_W_findMakerNumbers_15 F k2 h2 _ (cl_W_findMakerNumbers_15 F k2 h2 n) σ x1 x2 x3
set_option maxRecDepth 100000 in
set_option maxHeartbeats 4000000 in
theorem cb_W_findMakerNumbers_2 {K : KX} {x : Bool} (F : Nat) (self : St → Int → Int → Option (Int × St)) (hself : ∀ σ x1 x2, WA 5 1 0 cX10_findMakerNumbers RX10 4 none (LYC x false false) (LYC x false false) K 2 [some (.ref 0), some (vi x1), some (vi x2), none] [] σ (self σ x1 x2)) (σ : St) (x1 x2 : Int) : WA 5 1 0 cX10_findMakerNumbers RX10 4 none (LYC x false false) (LYC x false false) K 2 [some (.ref 0), some (vi x1), some (vi x2), none] [] σ (b_W_findMakerNumbers_2 F self σ x1 x2) := by
  unfold b_W_findMakerNumbers_2
  refine a_iload_n dX10_findMakerNumbers_2 rfl ?_
  refine a_aload_n dX10_findMakerNumbers_3 rfl ?_
  refine a_getR (c0 := 79) fl_X10_26 lyC_0 rfl dX10_findMakerNumbers_4 (key := 2) rfl ?_
  refine a_getI fl_X10_172 lyC_79 rfl dX10_findMakerNumbers_7 (key := 5059) rfl ?_
  refine a_icmp_ge dX10_findMakerNumbers_10 rfl (fun _ => ?_) (fun _ => ?_)
  · refine a_aload_n dX10_findMakerNumbers_77 rfl ?_
    refine a_getR (c0 := 85) fl_X10_44 lyC_0 rfl dX10_findMakerNumbers_78 (key := 6) rfl ?_
    refine a_aload_n dX10_findMakerNumbers_81 rfl ?_
    refine a_getR (c0 := 79) fl_X10_26 lyC_0 rfl dX10_findMakerNumbers_82 (key := 2) rfl ?_
    refine a_getI fl_X10_172 lyC_79 rfl dX10_findMakerNumbers_85 (key := 5059) rfl ?_
    refine a_iload_n dX10_findMakerNumbers_88 rfl ?_
    refine a_aload_n dX10_findMakerNumbers_89 rfl ?_
    refine a_getR (c0 := 79) fl_X10_26 lyC_0 rfl dX10_findMakerNumbers_90 (key := 2) rfl ?_
    refine a_getR (c0 := 23) fl_X10_153 lyC_79 rfl dX10_findMakerNumbers_93 (key := 5056) rfl ?_
    refine a_getI fl_X10_178 lyC_23 rfl dX10_findMakerNumbers_96 (key := 1473) rfl ?_
    refine a_aload_n dX10_findMakerNumbers_99 rfl ?_
    refine a_getR (c0 := 17) fl_X10_85 lyC_0 rfl dX10_findMakerNumbers_100 (key := 13) rfl ?_
    refine a_callVi (as := [vi (gF σ 5059), vi x1, vi (gF σ 1473), .ref 17]) mf_X10_309 lyC_85 rfl (c_Rows_solve_makerNumber F _ _ _ _) LYsame.rf dX10_findMakerNumbers_103 rfl rfl rfl rfl rfl rfl (Or.inr rfl) fun r1 σ2 => ?_
    refine a_pop dX10_findMakerNumbers_106 rfl ?_
    exact a_vret dX10_findMakerNumbers_107
  refine a_iconst dX10_findMakerNumbers_13 ?_
  refine a_istore_n (L' := [some (.ref 0), some (vi x1), some (vi x2), some (vi 0)]) dX10_findMakerNumbers_14 rfl rfl rfl rfl ?_
  exact cl_W_findMakerNumbers_15 F _ hself F _ _ _ _
set_option maxRecDepth 100000 in
set_option maxHeartbeats 4000000 in
theorem cl_W_findMakerNumbers_2 {K : KX} {x : Bool} (F : Nat) : ∀ (n : Nat) (σ : St) (x1 x2 : Int), WA 5 1 0 cX10_findMakerNumbers RX10 4 none (LYC x false false) (LYC x false false) K 2 [some (.ref 0), some (vi x1), some (vi x2), none] [] σ (l_W_findMakerNumbers_2 F n σ x1 x2)
  | 0, _, _, _ => a_none
  | n + 1, σ, x1, x2 => cb_W_findMakerNumbers_2 F _ (cl_W_findMakerNumbers_2 F n) σ x1 x2
set_option maxRecDepth 100000 in
set_option maxHeartbeats 4000000 in
theorem c_W_findMakerNumbers {x : Bool} (F : Nat) (σ : St) (x1 : Int) : Ct 5 1 0 yX10_findMakerNumbers cX10_findMakerNumbers 4 none (LYC x false false) (LYC x false false) [.ref 0, vi x1] σ (f_W_findMakerNumbers F σ x1) := by
  unfold f_W_findMakerNumbers
  refine Ct_of (d := 5) (kp := 1) (kd := 0) (own := RX10) (nL := 4) (ret := none) (LY := (LYC x false false)) (LYe := (LYC x false false)) (L := [some (.ref 0), some (vi x1), none, none]) rfl (by decide +kernel) rfl rfl mf_X10_296.2.2.2.1 rfl fun K => ?_
  refine a_iconst dX10_findMakerNumbers_0 ?_
  refine a_istore_n (L' := [some (.ref 0), some (vi x1), some (vi 0), none]) dX10_findMakerNumbers_1 rfl rfl rfl rfl ?_
  exact cl_W_findMakerNumbers_2 F F _ _ _
def b_W_fewest_79 (F : Nat) (self : St → Int → Int → Option (Int × St)) (σ : St) (x1 x2 : Int) : Option (Int × St) := gd (rng x2 ∧ rng x1) (if x1 ≤ x2 then bnd (f_W_findMakerNumbers F σ x1) fun r11 σ12 => some (x1, σ12) else gd (inb x2 3) (gd (inb x2 3) (bs (sA σ 16 (Int.toNat x2) (gA σ 96 (Int.toNat x2))) fun σ13 => bv (x2 + 1) fun x2_14 => self σ13 x1 x2_14)))
def l_W_fewest_79 (F : Nat) : Nat → St → Int → Int → Option (Int × St)
  | 0 => fun _ _ _ => none
  | n + 1 => fun σ x1 x2 => b_W_fewest_79 F (l_W_fewest_79 F n) σ x1 x2
def f_W_fewest (F : Nat) (σ : St) : Option (Int × St) := bnd (f_W_takeReadings F σ) fun r1 σ2 => gd (rng r1 ∧ rng (gF σ2 5059)) (if r1 = (gF σ2 5059) then bnd (f_Makers_hear_scene0_readings F σ2) fun r3 σ4 => bnd (f_Makers_hearAllBut F σ4 (-1) (-1)) fun r5 σ6 => bnd (f_Makers_fewestUpTo F σ6 3 0) fun r7 σ8 => gd (rng r7 ∧ rng (-1)) (if r7 = (-1) then some ((-1), σ8) else bs (sF σ8 14 (gF σ8 6080)) fun σ9 => bs (sF σ9 961 r7) fun σ10 => l_W_fewest_79 F F σ10 r7 0) else some ((-2), σ2))
set_option maxRecDepth 100000 in
set_option maxHeartbeats 4000000 in
theorem cb_W_fewest_79 {K : KX} {x : Bool} (F : Nat) (self : St → Int → Int → Option (Int × St)) (hself : ∀ σ x1 x2, WA 11 1 1 cX10_fewest RX10 3 (some .int) (LYC x false false) (LYC x false false) K 79 [some (.ref 0), some (vi x1), some (vi x2)] [] σ (self σ x1 x2)) (σ : St) (x1 x2 : Int) : WA 11 1 1 cX10_fewest RX10 3 (some .int) (LYC x false false) (LYC x false false) K 79 [some (.ref 0), some (vi x1), some (vi x2)] [] σ (b_W_fewest_79 F self σ x1 x2) := by
  unfold b_W_fewest_79
  refine a_iload_n dX10_fewest_79 rfl ?_
  refine a_iload_n dX10_fewest_80 rfl ?_
  refine a_icmp_ge dX10_fewest_81 rfl (fun _ => ?_) (fun _ => ?_)
  · refine a_aload_n dX10_fewest_108 rfl ?_
    refine a_iload_n dX10_fewest_109 rfl ?_
    refine a_callVv (as := [vi x1]) mf_X10_296 lyC_0 rfl (c_W_findMakerNumbers F _ _) LYsame.rf dX10_fewest_110 rfl rfl rfl rfl rfl rfl (Or.inr rfl) fun r11 σ12 => ?_
    refine a_iload_n dX10_fewest_113 rfl ?_
    exact a_iret dX10_fewest_114
  refine a_aload_n dX10_fewest_84 rfl ?_
  refine a_getR (c0 := 15) fl_X10_82 lyC_0 rfl dX10_fewest_85 (key := 12) rfl ?_
  refine a_getR (c0 := 16) fl_X10_290 lyC_15 rfl dX10_fewest_88 (key := 960) rfl ?_
  refine a_iload_n dX10_fewest_91 rfl ?_
  refine a_aload_n dX10_fewest_92 rfl ?_
  refine a_getR (c0 := 95) fl_X10_58 lyC_0 rfl dX10_fewest_93 (key := 8) rfl ?_
  refine a_getR (c0 := 96) fl_X10_293 lyC_95 rfl dX10_fewest_96 (key := 6081) rfl ?_
  refine a_iload_n dX10_fewest_99 rfl ?_
  refine a_iald lyC_96 rfl dX10_fewest_100 ?_
  refine a_iast lyC_16 rfl dX10_fewest_101 fun σ13 => ?_
  refine a_bv fun x2_14 ex2_14 => ?_
  refine a_iinc (y := x2_14) (L' := [some (.ref 0), some (vi x1), some (vi x2_14)]) dX10_fewest_102 rfl ex2_14 rfl rfl rfl ?_
  refine a_goto dX10_fewest_105 rfl ?_
  exact hself _ _ _
set_option maxRecDepth 100000 in
set_option maxHeartbeats 4000000 in
theorem cl_W_fewest_79 {K : KX} {x : Bool} (F : Nat) : ∀ (n : Nat) (σ : St) (x1 x2 : Int), WA 11 1 1 cX10_fewest RX10 3 (some .int) (LYC x false false) (LYC x false false) K 79 [some (.ref 0), some (vi x1), some (vi x2)] [] σ (l_W_fewest_79 F n σ x1 x2)
  | 0, _, _, _ => a_none
  | n + 1, σ, x1, x2 => cb_W_fewest_79 F _ (cl_W_fewest_79 F n) σ x1 x2
set_option maxRecDepth 100000 in
set_option maxHeartbeats 4000000 in
theorem c_W_fewest {x : Bool} (F : Nat) (σ : St) : Ct 11 1 1 yX10_fewest cX10_fewest 3 (some .int) (LYC x false false) (LYC x false false) [.ref 0] σ (f_W_fewest F σ) := by
  unfold f_W_fewest
  refine Ct_of (d := 11) (kp := 1) (kd := 1) (own := RX10) (nL := 3) (ret := (some .int)) (LY := (LYC x false false)) (LYe := (LYC x false false)) (L := [some (.ref 0), none, none]) rfl (by decide +kernel) rfl rfl mf_L_140.2.2.2.1 rfl fun K => ?_
  refine a_aload_n dX10_fewest_0 rfl ?_
  refine a_callVi (as := []) mf_X10_244 lyC_0 rfl (c_W_takeReadings F _) LYsame.rf dX10_fewest_1 rfl rfl rfl rfl rfl rfl (Or.inl rfl) fun r1 σ2 => ?_
  refine a_aload_n dX10_fewest_4 rfl ?_
  refine a_getR (c0 := 79) fl_X10_26 lyC_0 rfl dX10_fewest_5 (key := 2) rfl ?_
  refine a_getI fl_X10_172 lyC_79 rfl dX10_fewest_8 (key := 5059) rfl ?_
  refine a_icmp_eq dX10_fewest_11 rfl (fun _ => ?_) (fun _ => ?_)
  · refine a_aload_n dX10_fewest_17 rfl ?_
    refine a_getR (c0 := 95) fl_X10_58 lyC_0 rfl dX10_fewest_18 (key := 8) rfl ?_
    refine a_aload_n dX10_fewest_21 rfl ?_
    refine a_getR (c0 := 79) fl_X10_26 lyC_0 rfl dX10_fewest_22 (key := 2) rfl ?_
    refine a_aload_n dX10_fewest_25 rfl ?_
    refine a_getR (c0 := 94) fl_X10_69 lyC_0 rfl dX10_fewest_26 (key := 10) rfl ?_
    refine a_callVv (as := [.ref 79, .ref 94]) mf_X10_276 lyC_95 rfl (c_Makers_hear_scene0_readings F _) LYsame.rf dX10_fewest_29 rfl rfl rfl rfl rfl rfl (Or.inl rfl) fun r3 σ4 => ?_
    refine a_aload_n dX10_fewest_32 rfl ?_
    refine a_getR (c0 := 95) fl_X10_58 lyC_0 rfl dX10_fewest_33 (key := 8) rfl ?_
    refine a_iconst dX10_fewest_36 ?_
    refine a_iconst dX10_fewest_37 ?_
    refine a_callVv (as := [vi (-1), vi (-1)]) mf_X10_280 lyC_95 rfl (c_Makers_hearAllBut F _ _ _) LYsame.rf dX10_fewest_38 rfl rfl rfl rfl rfl rfl (Or.inl rfl) fun r5 σ6 => ?_
    refine a_aload_n dX10_fewest_41 rfl ?_
    refine a_getR (c0 := 95) fl_X10_58 lyC_0 rfl dX10_fewest_42 (key := 8) rfl ?_
    refine a_iconst dX10_fewest_45 ?_
    refine a_iconst dX10_fewest_46 ?_
    refine a_callVi (as := [vi 3, vi 0]) mf_X10_283 lyC_95 rfl (c_Makers_fewestUpTo F _ _ _) LYsame.rf dX10_fewest_47 rfl rfl rfl rfl rfl rfl (Or.inl rfl) fun r7 σ8 => ?_
    refine a_istore_n (L' := [some (.ref 0), some (vi r7), none]) dX10_fewest_50 rfl rfl rfl rfl ?_
    refine a_iload_n dX10_fewest_51 rfl ?_
    refine a_iconst dX10_fewest_52 ?_
    refine a_icmp_ne dX10_fewest_53 rfl (fun _ => ?_) (fun _ => ?_)
    · refine a_aload_n dX10_fewest_58 rfl ?_
      refine a_aload_n dX10_fewest_59 rfl ?_
      refine a_getR (c0 := 95) fl_X10_58 lyC_0 rfl dX10_fewest_60 (key := 8) rfl ?_
      refine a_getI fl_X10_287 lyC_95 rfl dX10_fewest_63 (key := 6080) rfl ?_
      refine a_putI fl_X10_88 cf_X10 rfl rfl lyC_0 rfl dX10_fewest_66 (key := 14) rfl fun σ9 => ?_
      refine a_aload_n dX10_fewest_69 rfl ?_
      refine a_getR (c0 := 15) fl_X10_82 lyC_0 rfl dX10_fewest_70 (key := 12) rfl ?_
      refine a_iload_n dX10_fewest_73 rfl ?_
      refine a_putI fl_X10_231 cf_X9 rfl rfl lyC_15 rfl dX10_fewest_74 (key := 961) rfl fun σ10 => ?_
      refine a_iconst dX10_fewest_77 ?_
      refine a_istore_n (L' := [some (.ref 0), some (vi r7), some (vi 0)]) dX10_fewest_78 rfl rfl rfl rfl ?_
      exact cl_W_fewest_79 F F _ _ _
    refine a_iconst dX10_fewest_56 ?_
    exact a_iret dX10_fewest_57
  refine a_bipush dX10_fewest_14 bi_m2 ?_
  exact a_iret dX10_fewest_16
def f_Told_at_maker (F : Nat) (σ : St) (x1 : Int) : Option (Int × St) := gd (rng x1) (if x1 < 0 then some ((-1), σ) else gd (rng x1 ∧ rng (gF σ 961)) (if (gF σ 961) ≤ x1 then some ((-1), σ) else gd (rng x1 ∧ rng 3) (if (3 : Int) ≤ x1 then some ((-1), σ) else gd (inb x1 3) (some ((gA σ 16 (Int.toNat x1)), σ)))))
set_option maxRecDepth 100000 in
set_option maxHeartbeats 4000000 in
theorem c_Told_at_maker {x : Bool} (F : Nat) (σ : St) (x1 : Int) : Ct 1 0 1 yX9_at cX9_at 2 (some .int) (LYC x false false) (LYC x false false) [.ref 15, vi x1] σ (f_Told_at_maker F σ x1) := by
  unfold f_Told_at_maker
  refine Ct_of (d := 1) (kp := 0) (kd := 1) (own := RX9) (nL := 2) (ret := (some .int)) (LY := (LYC x false false)) (LYe := (LYC x false false)) (L := [some (.ref 15), some (vi x1)]) rfl (by decide +kernel) rfl rfl mf_X10_234.2.2.2.1 rfl fun K => ?_
  refine a_iload_n dX9_at_0 rfl ?_
  refine a_if_lt dX9_at_1 rfl (fun _ => ?_) (fun _ => ?_)
  · refine a_iconst dX9_at_30 ?_
    exact a_iret dX9_at_31
  refine a_iload_n dX9_at_4 rfl ?_
  refine a_aload_n dX9_at_5 rfl ?_
  refine a_getI fl_X9_15 lyC_15 rfl dX9_at_6 (key := 961) rfl ?_
  refine a_icmp_ge dX9_at_9 rfl (fun _ => ?_) (fun _ => ?_)
  · refine a_iconst dX9_at_30 ?_
    exact a_iret dX9_at_31
  refine a_iload_n dX9_at_12 rfl ?_
  refine a_aload_n dX9_at_13 rfl ?_
  refine a_getR (c0 := 16) fl_X9_9 lyC_15 rfl dX9_at_14 (key := 960) rfl ?_
  refine a_alen lyC_16 dX9_at_17 ?_
  refine a_icmp_ge dX9_at_18 rfl (fun _ => ?_) (fun _ => ?_)
  · refine a_iconst dX9_at_30 ?_
    exact a_iret dX9_at_31
  refine a_aload_n dX9_at_21 rfl ?_
  refine a_getR (c0 := 16) fl_X9_9 lyC_15 rfl dX9_at_22 (key := 960) rfl ?_
  refine a_iload_n dX9_at_25 rfl ?_
  refine a_iald lyC_16 rfl dX9_at_26 ?_
  refine a_goto dX9_at_27 rfl ?_
  exact a_iret dX9_at_31
def f_W_made (F : Nat) (σ : St) (x1 : Int) : Option (Int × St) := gd (rng x1 ∧ rng (-1)) (if x1 = (-1) then some ((gF σ 14), σ) else bnd (f_Told_at_maker F σ x1) fun r1 σ2 => some (r1, σ2))
set_option maxRecDepth 100000 in
set_option maxHeartbeats 4000000 in
theorem c_W_made {x : Bool} (F : Nat) (σ : St) (x1 : Int) : Ct 2 0 1 yX10_made cX10_made 2 (some .int) (LYC x false false) (LYC x false false) [.ref 0, vi x1] σ (f_W_made F σ x1) := by
  unfold f_W_made
  refine Ct_of (d := 2) (kp := 0) (kd := 1) (own := RX10) (nL := 2) (ret := (some .int)) (LY := (LYC x false false)) (LYe := (LYC x false false)) (L := [some (.ref 0), some (vi x1)]) rfl (by decide +kernel) rfl rfl mf_L_144.2.2.2.1 rfl fun K => ?_
  refine a_iload_n dX10_made_0 rfl ?_
  refine a_iconst dX10_made_1 ?_
  refine a_icmp_ne dX10_made_2 rfl (fun _ => ?_) (fun _ => ?_)
  · refine a_aload_n dX10_made_12 rfl ?_
    refine a_getR (c0 := 15) fl_X10_82 lyC_0 rfl dX10_made_13 (key := 12) rfl ?_
    refine a_iload_n dX10_made_16 rfl ?_
    refine a_callVi (as := [vi x1]) mf_X10_234 lyC_15 rfl (c_Told_at_maker F _ _) LYsame.rf dX10_made_17 rfl rfl rfl rfl rfl rfl (Or.inl rfl) fun r1 σ2 => ?_
    exact a_iret dX10_made_20
  refine a_aload_n dX10_made_5 rfl ?_
  refine a_getI fl_X10_88 lyC_0 rfl dX10_made_6 (key := 14) rfl ?_
  refine a_goto dX10_made_9 rfl ?_
  exact a_iret dX10_made_20
def f_Told_at_makerNumber (F : Nat) (σ : St) (x1 : Int) : Option (Int × St) := gd (rng x1) (if x1 < 0 then some ((-1), σ) else gd (rng x1 ∧ rng (gF σ 1089)) (if (gF σ 1089) ≤ x1 then some ((-1), σ) else gd (rng x1 ∧ rng 3) (if (3 : Int) ≤ x1 then some ((-1), σ) else gd (inb x1 3) (some ((gA σ 18 (Int.toNat x1)), σ)))))
set_option maxRecDepth 100000 in
set_option maxHeartbeats 4000000 in
theorem c_Told_at_makerNumber {x : Bool} (F : Nat) (σ : St) (x1 : Int) : Ct 1 0 1 yX9_at cX9_at 2 (some .int) (LYC x false false) (LYC x false false) [.ref 17, vi x1] σ (f_Told_at_makerNumber F σ x1) := by
  unfold f_Told_at_makerNumber
  refine Ct_of (d := 1) (kp := 0) (kd := 1) (own := RX9) (nL := 2) (ret := (some .int)) (LY := (LYC x false false)) (LYe := (LYC x false false)) (L := [some (.ref 17), some (vi x1)]) rfl (by decide +kernel) rfl rfl mf_X10_234.2.2.2.1 rfl fun K => ?_
  refine a_iload_n dX9_at_0 rfl ?_
  refine a_if_lt dX9_at_1 rfl (fun _ => ?_) (fun _ => ?_)
  · refine a_iconst dX9_at_30 ?_
    exact a_iret dX9_at_31
  refine a_iload_n dX9_at_4 rfl ?_
  refine a_aload_n dX9_at_5 rfl ?_
  refine a_getI fl_X9_15 lyC_17 rfl dX9_at_6 (key := 1089) rfl ?_
  refine a_icmp_ge dX9_at_9 rfl (fun _ => ?_) (fun _ => ?_)
  · refine a_iconst dX9_at_30 ?_
    exact a_iret dX9_at_31
  refine a_iload_n dX9_at_12 rfl ?_
  refine a_aload_n dX9_at_13 rfl ?_
  refine a_getR (c0 := 18) fl_X9_9 lyC_17 rfl dX9_at_14 (key := 1088) rfl ?_
  refine a_alen lyC_18 dX9_at_17 ?_
  refine a_icmp_ge dX9_at_18 rfl (fun _ => ?_) (fun _ => ?_)
  · refine a_iconst dX9_at_30 ?_
    exact a_iret dX9_at_31
  refine a_aload_n dX9_at_21 rfl ?_
  refine a_getR (c0 := 18) fl_X9_9 lyC_17 rfl dX9_at_22 (key := 1088) rfl ?_
  refine a_iload_n dX9_at_25 rfl ?_
  refine a_iald lyC_18 rfl dX9_at_26 ?_
  refine a_goto dX9_at_27 rfl ?_
  exact a_iret dX9_at_31
def f_W_madeBy (F : Nat) (σ : St) (x1 : Int) : Option (Int × St) := bnd (f_Told_at_makerNumber F σ x1) fun r1 σ2 => some (r1, σ2)
set_option maxRecDepth 100000 in
set_option maxHeartbeats 4000000 in
theorem c_W_madeBy {x : Bool} (F : Nat) (σ : St) (x1 : Int) : Ct 2 0 1 yX10_madeBy cX10_madeBy 2 (some .int) (LYC x false false) (LYC x false false) [.ref 0, vi x1] σ (f_W_madeBy F σ x1) := by
  unfold f_W_madeBy
  refine Ct_of (d := 2) (kp := 0) (kd := 1) (own := RX10) (nL := 2) (ret := (some .int)) (LY := (LYC x false false)) (LYe := (LYC x false false)) (L := [some (.ref 0), some (vi x1)]) rfl (by decide +kernel) rfl rfl mf_L_148.2.2.2.1 rfl fun K => ?_
  refine a_aload_n dX10_madeBy_0 rfl ?_
  refine a_getR (c0 := 17) fl_X10_85 lyC_0 rfl dX10_madeBy_1 (key := 13) rfl ?_
  refine a_iload_n dX10_madeBy_4 rfl ?_
  refine a_callVi (as := [vi x1]) mf_X10_234 lyC_17 rfl (c_Told_at_makerNumber F _ _) LYsame.rf dX10_madeBy_5 rfl rfl rfl rfl rfl rfl (Or.inl rfl) fun r1 σ2 => ?_
  exact a_iret dX10_madeBy_8
def f_W_tellLiars (F : Nat) (σ : St) (x1 x2 x3 : Int) : Option (Int × St) := bs (sF σ 1217 x1) fun σ1 => gd (inb 0 2) (bs (sA σ1 20 (Int.toNat 0) x2) fun σ2 => gd (inb 1 2) (bs (sA σ2 20 (Int.toNat 1) x3) fun σ3 => some (0, σ3)))
set_option maxRecDepth 100000 in
set_option maxHeartbeats 4000000 in
theorem c_W_tellLiars {x : Bool} (F : Nat) (σ : St) (x1 x2 x3 : Int) : Ct 1 0 0 yX10_tellLiars cX10_tellLiars 4 none (LYC x false false) (LYC x false false) [.ref 0, vi x1, vi x2, vi x3] σ (f_W_tellLiars F σ x1 x2 x3) := by
  unfold f_W_tellLiars
  refine Ct_of (d := 1) (kp := 0) (kd := 0) (own := RX10) (nL := 4) (ret := none) (LY := (LYC x false false)) (LYe := (LYC x false false)) (L := [some (.ref 0), some (vi x1), some (vi x2), some (vi x3)]) rfl (by decide +kernel) rfl rfl mf_X10_360.2.2.2.1 rfl fun K => ?_
  refine a_aload_n dX10_tellLiars_0 rfl ?_
  refine a_getR (c0 := 19) fl_X10_92 lyC_0 rfl dX10_tellLiars_1 (key := 15) rfl ?_
  refine a_iload_n dX10_tellLiars_4 rfl ?_
  refine a_putI fl_X10_231 cf_X9 rfl rfl lyC_19 rfl dX10_tellLiars_5 (key := 1217) rfl fun σ1 => ?_
  refine a_aload_n dX10_tellLiars_8 rfl ?_
  refine a_getR (c0 := 19) fl_X10_92 lyC_0 rfl dX10_tellLiars_9 (key := 15) rfl ?_
  refine a_getR (c0 := 20) fl_X10_290 lyC_19 rfl dX10_tellLiars_12 (key := 1216) rfl ?_
  refine a_iconst dX10_tellLiars_15 ?_
  refine a_iload_n dX10_tellLiars_16 rfl ?_
  refine a_iast lyC_20 rfl dX10_tellLiars_17 fun σ2 => ?_
  refine a_aload_n dX10_tellLiars_18 rfl ?_
  refine a_getR (c0 := 19) fl_X10_92 lyC_0 rfl dX10_tellLiars_19 (key := 15) rfl ?_
  refine a_getR (c0 := 20) fl_X10_290 lyC_19 rfl dX10_tellLiars_22 (key := 1216) rfl ?_
  refine a_iconst dX10_tellLiars_25 ?_
  refine a_iload_n dX10_tellLiars_26 rfl ?_
  refine a_iast lyC_20 rfl dX10_tellLiars_27 fun σ3 => ?_
  exact a_vret dX10_tellLiars_28
def b_W_findLiars_56 (F : Nat) (k22 : St → Int → Int → Int → Int → Int → Option (Int × St)) (self : St → Int → Int → Int → Int → Int → Int → Int → Option (Int × St)) (σ : St) (x1 x2 x3 x4 x5 x6 x7 : Int) : Option (Int × St) := gd (rng x7 ∧ rng x6) (if x6 ≤ x7 then bv (x5 + 1) fun x5_4 => k22 σ x1 x2 x3 x4 x5_4 else gd (rng x1) (if x1 ≤ 0 then gd (rng x1 ∧ rng 1) (if x1 ≤ 1 then bnd (f_Makers_hearAllBut F σ (-1) (-1)) fun r5 σ6 => bnd (f_Makers_fewestUpTo F σ6 x2 1) fun r7 σ8 => gd (rng r7 ∧ rng (-1)) (if r7 = (-1) then bv (x7 + 1) fun x7_9 => self σ8 x1 x2 x3 x4 x5 x6 x7_9 else bv (x3 + 1) fun x3_10 => gd (rng x3_10 ∧ rng 1) (if x3_10 = 1 then bnd (f_W_tellLiars F σ8 x1 x5 x7) fun r12 σ13 => bv (x7 + 1) fun x7_14 => self σ13 x1 x2 x3_10 x4 x5 x6 x7_14 else bv (x7 + 1) fun x7_11 => self σ8 x1 x2 x3_10 x4 x5 x6 x7_11)) else bnd (f_Makers_hearAllBut F σ (-1) x7) fun r15 σ16 => bnd (f_Makers_fewestUpTo F σ16 x2 1) fun r17 σ18 => gd (rng r17 ∧ rng (-1)) (if r17 = (-1) then bv (x7 + 1) fun x7_19 => self σ18 x1 x2 x3 x4 x5 x6 x7_19 else bv (x3 + 1) fun x3_20 => gd (rng x3_20 ∧ rng 1) (if x3_20 = 1 then bnd (f_W_tellLiars F σ18 x1 x5 x7) fun r22 σ23 => bv (x7 + 1) fun x7_24 => self σ23 x1 x2 x3_20 x4 x5 x6 x7_24 else bv (x7 + 1) fun x7_21 => self σ18 x1 x2 x3_20 x4 x5 x6 x7_21))) else gd (rng x1 ∧ rng 1) (if x1 ≤ 1 then bnd (f_Makers_hearAllBut F σ x5 (-1)) fun r25 σ26 => bnd (f_Makers_fewestUpTo F σ26 x2 1) fun r27 σ28 => gd (rng r27 ∧ rng (-1)) (if r27 = (-1) then bv (x7 + 1) fun x7_29 => self σ28 x1 x2 x3 x4 x5 x6 x7_29 else bv (x3 + 1) fun x3_30 => gd (rng x3_30 ∧ rng 1) (if x3_30 = 1 then bnd (f_W_tellLiars F σ28 x1 x5 x7) fun r32 σ33 => bv (x7 + 1) fun x7_34 => self σ33 x1 x2 x3_30 x4 x5 x6 x7_34 else bv (x7 + 1) fun x7_31 => self σ28 x1 x2 x3_30 x4 x5 x6 x7_31)) else bnd (f_Makers_hearAllBut F σ x5 x7) fun r35 σ36 => bnd (f_Makers_fewestUpTo F σ36 x2 1) fun r37 σ38 => gd (rng r37 ∧ rng (-1)) (if r37 = (-1) then bv (x7 + 1) fun x7_39 => self σ38 x1 x2 x3 x4 x5 x6 x7_39 else bv (x3 + 1) fun x3_40 => gd (rng x3_40 ∧ rng 1) (if x3_40 = 1 then bnd (f_W_tellLiars F σ38 x1 x5 x7) fun r42 σ43 => bv (x7 + 1) fun x7_44 => self σ43 x1 x2 x3_40 x4 x5 x6 x7_44 else bv (x7 + 1) fun x7_41 => self σ38 x1 x2 x3_40 x4 x5 x6 x7_41)))))
def l_W_findLiars_56 (F : Nat) (k22 : St → Int → Int → Int → Int → Int → Option (Int × St)) : Nat → St → Int → Int → Int → Int → Int → Int → Int → Option (Int × St)
  | 0 => fun _ _ _ _ _ _ _ _ => none
  | n + 1 => fun σ x1 x2 x3 x4 x5 x6 x7 => b_W_findLiars_56 F k22 (l_W_findLiars_56 F k22 n) σ x1 x2 x3 x4 x5 x6 x7
def b_W_findLiars_22 (F : Nat) (self : St → Int → Int → Int → Int → Int → Option (Int × St)) (σ : St) (x1 x2 x3 x4 x5 : Int) : Option (Int × St) := gd (rng x5 ∧ rng x4) (if x4 ≤ x5 then gd (rng x3) (if x3 ≤ 0 then gd (rng x3) (if x3 ≤ 0 then some (0, σ) else some (1, σ)) else bs (sF σ 16 x3) fun σ1 => gd (rng x3) (if x3 ≤ 0 then some (0, σ1) else some (1, σ1))) else gd (rng x1 ∧ rng 1) (if x1 ≤ 1 then bv (x5 + 2) fun x6_2 => bv (x5 + 1) fun x7_3 => l_W_findLiars_56 F self F σ x1 x2 x3 x4 x5 x6_2 x7_3 else bv (gF σ 5059) fun x6_45 => bv (x5 + 1) fun x7_46 => l_W_findLiars_56 F self F σ x1 x2 x3 x4 x5 x6_45 x7_46))
def l_W_findLiars_22 (F : Nat) : Nat → St → Int → Int → Int → Int → Int → Option (Int × St)
  | 0 => fun _ _ _ _ _ _ => none
  | n + 1 => fun σ x1 x2 x3 x4 x5 => b_W_findLiars_22 F (l_W_findLiars_22 F n) σ x1 x2 x3 x4 x5
def f_W_findLiars (F : Nat) (σ : St) (x1 x2 : Int) : Option (Int × St) := gd (rng x1) (if x1 ≤ 0 then l_W_findLiars_22 F F σ x1 x2 0 1 0 else bv (gF σ 5059) fun x4_47 => l_W_findLiars_22 F F σ x1 x2 0 x4_47 0)
set_option maxRecDepth 100000 in
set_option maxHeartbeats 4000000 in
theorem cb_W_findLiars_56 {K : KX} {x : Bool} (F : Nat) (k22 : St → Int → Int → Int → Int → Int → Option (Int × St)) (h22 : ∀ σ x1 x2 x3 x4 x5, WA 11 0 1 cX10_findLiars RX10 8 (some .boolean) (LYC x false false) (LYC x false false) K 22 [some (.ref 0), some (vi x1), some (vi x2), some (vi x3), some (vi x4), some (vi x5), none, none] [] σ (k22 σ x1 x2 x3 x4 x5)) (self : St → Int → Int → Int → Int → Int → Int → Int → Option (Int × St)) (hself : ∀ σ x1 x2 x3 x4 x5 x6 x7, WA 11 0 1 cX10_findLiars RX10 8 (some .boolean) (LYC x false false) (LYC x false false) K 56 [some (.ref 0), some (vi x1), some (vi x2), some (vi x3), some (vi x4), some (vi x5), some (vi x6), some (vi x7)] [] σ (self σ x1 x2 x3 x4 x5 x6 x7)) (σ : St) (x1 x2 x3 x4 x5 x6 x7 : Int) : WA 11 0 1 cX10_findLiars RX10 8 (some .boolean) (LYC x false false) (LYC x false false) K 56 [some (.ref 0), some (vi x1), some (vi x2), some (vi x3), some (vi x4), some (vi x5), some (vi x6), some (vi x7)] [] σ (b_W_findLiars_56 F k22 self σ x1 x2 x3 x4 x5 x6 x7) := by
  unfold b_W_findLiars_56
  refine a_iload dX10_findLiars_56 rfl ?_
  refine a_iload dX10_findLiars_58 rfl ?_
  refine a_icmp_ge dX10_findLiars_60 rfl (fun _ => ?_) (fun _ => ?_)
  · refine a_bv fun x5_4 ex5_4 => ?_
    refine a_iinc (y := x5_4) (L' := [some (.ref 0), some (vi x1), some (vi x2), some (vi x3), some (vi x4), some (vi x5_4), some (vi x6), some (vi x7)]) dX10_findLiars_127 rfl ex5_4 rfl rfl rfl ?_
    refine a_goto dX10_findLiars_130 rfl ?_
    exact a_L (lsub_get (A := [some (.ref 0), some (vi x1), some (vi x2), some (vi x3), some (vi x4), some (vi x5_4), none, none]) ⟨rfl, ⟨rfl, ⟨rfl, ⟨rfl, ⟨rfl, ⟨rfl, trivial⟩⟩⟩⟩⟩⟩) (h22 _ _ _ _ _ _)
  refine a_aload_n dX10_findLiars_63 rfl ?_
  refine a_getR (c0 := 95) fl_X10_58 lyC_0 rfl dX10_findLiars_64 (key := 8) rfl ?_
  refine a_iload_n dX10_findLiars_67 rfl ?_
  refine a_if_le dX10_findLiars_68 rfl (fun _ => ?_) (fun _ => ?_)
  · refine a_iconst dX10_findLiars_76 ?_
    refine a_iload_n dX10_findLiars_77 rfl ?_
    refine a_iconst dX10_findLiars_78 ?_
    refine a_icmp_le dX10_findLiars_79 rfl (fun _ => ?_) (fun _ => ?_)
    · refine a_iconst dX10_findLiars_87 ?_
      refine a_callVv (as := [vi (-1), vi (-1)]) mf_X10_280 lyC_95 rfl (c_Makers_hearAllBut F _ _ _) LYsame.rf dX10_findLiars_88 rfl rfl rfl rfl rfl rfl (Or.inl rfl) fun r5 σ6 => ?_
      refine a_aload_n dX10_findLiars_91 rfl ?_
      refine a_getR (c0 := 95) fl_X10_58 lyC_0 rfl dX10_findLiars_92 (key := 8) rfl ?_
      refine a_iload_n dX10_findLiars_95 rfl ?_
      refine a_iconst dX10_findLiars_96 ?_
      refine a_callVi (as := [vi x2, vi 1]) mf_X10_283 lyC_95 rfl (c_Makers_fewestUpTo F _ _ _) LYsame.rf dX10_findLiars_97 rfl rfl rfl rfl rfl rfl (Or.inl rfl) fun r7 σ8 => ?_
      refine a_iconst dX10_findLiars_100 ?_
      refine a_icmp_eq dX10_findLiars_101 rfl (fun _ => ?_) (fun _ => ?_)
      · refine a_bv fun x7_9 ex7_9 => ?_
        refine a_iinc (y := x7_9) (L' := [some (.ref 0), some (vi x1), some (vi x2), some (vi x3), some (vi x4), some (vi x5), some (vi x6), some (vi x7_9)]) dX10_findLiars_121 rfl ex7_9 rfl rfl rfl ?_
        refine a_goto dX10_findLiars_124 rfl ?_
        exact hself _ _ _ _ _ _ _ _
      refine a_bv fun x3_10 ex3_10 => ?_
      refine a_iinc (y := x3_10) (L' := [some (.ref 0), some (vi x1), some (vi x2), some (vi x3_10), some (vi x4), some (vi x5), some (vi x6), some (vi x7)]) dX10_findLiars_104 rfl ex3_10 rfl rfl rfl ?_
      refine a_iload_n dX10_findLiars_107 rfl ?_
      refine a_iconst dX10_findLiars_108 ?_
      refine a_icmp_ne dX10_findLiars_109 rfl (fun _ => ?_) (fun _ => ?_)
      · refine a_bv fun x7_11 ex7_11 => ?_
        refine a_iinc (y := x7_11) (L' := [some (.ref 0), some (vi x1), some (vi x2), some (vi x3_10), some (vi x4), some (vi x5), some (vi x6), some (vi x7_11)]) dX10_findLiars_121 rfl ex7_11 rfl rfl rfl ?_
        refine a_goto dX10_findLiars_124 rfl ?_
        exact hself _ _ _ _ _ _ _ _
      refine a_aload_n dX10_findLiars_112 rfl ?_
      refine a_iload_n dX10_findLiars_113 rfl ?_
      refine a_iload dX10_findLiars_114 rfl ?_
      refine a_iload dX10_findLiars_116 rfl ?_
      refine a_callVv (as := [vi x1, vi x5, vi x7]) mf_X10_360 lyC_0 rfl (c_W_tellLiars F _ _ _ _) LYsame.rf dX10_findLiars_118 rfl rfl rfl rfl rfl rfl (Or.inl rfl) fun r12 σ13 => ?_
      refine a_bv fun x7_14 ex7_14 => ?_
      refine a_iinc (y := x7_14) (L' := [some (.ref 0), some (vi x1), some (vi x2), some (vi x3_10), some (vi x4), some (vi x5), some (vi x6), some (vi x7_14)]) dX10_findLiars_121 rfl ex7_14 rfl rfl rfl ?_
      refine a_goto dX10_findLiars_124 rfl ?_
      exact hself _ _ _ _ _ _ _ _
    refine a_iload dX10_findLiars_82 rfl ?_
    refine a_goto dX10_findLiars_84 rfl ?_
    refine a_callVv (as := [vi (-1), vi x7]) mf_X10_280 lyC_95 rfl (c_Makers_hearAllBut F _ _ _) LYsame.rf dX10_findLiars_88 rfl rfl rfl rfl rfl rfl (Or.inl rfl) fun r15 σ16 => ?_
    refine a_aload_n dX10_findLiars_91 rfl ?_
    refine a_getR (c0 := 95) fl_X10_58 lyC_0 rfl dX10_findLiars_92 (key := 8) rfl ?_
    refine a_iload_n dX10_findLiars_95 rfl ?_
    refine a_iconst dX10_findLiars_96 ?_
    refine a_callVi (as := [vi x2, vi 1]) mf_X10_283 lyC_95 rfl (c_Makers_fewestUpTo F _ _ _) LYsame.rf dX10_findLiars_97 rfl rfl rfl rfl rfl rfl (Or.inl rfl) fun r17 σ18 => ?_
    refine a_iconst dX10_findLiars_100 ?_
    refine a_icmp_eq dX10_findLiars_101 rfl (fun _ => ?_) (fun _ => ?_)
    · refine a_bv fun x7_19 ex7_19 => ?_
      refine a_iinc (y := x7_19) (L' := [some (.ref 0), some (vi x1), some (vi x2), some (vi x3), some (vi x4), some (vi x5), some (vi x6), some (vi x7_19)]) dX10_findLiars_121 rfl ex7_19 rfl rfl rfl ?_
      refine a_goto dX10_findLiars_124 rfl ?_
      exact hself _ _ _ _ _ _ _ _
    refine a_bv fun x3_20 ex3_20 => ?_
    refine a_iinc (y := x3_20) (L' := [some (.ref 0), some (vi x1), some (vi x2), some (vi x3_20), some (vi x4), some (vi x5), some (vi x6), some (vi x7)]) dX10_findLiars_104 rfl ex3_20 rfl rfl rfl ?_
    refine a_iload_n dX10_findLiars_107 rfl ?_
    refine a_iconst dX10_findLiars_108 ?_
    refine a_icmp_ne dX10_findLiars_109 rfl (fun _ => ?_) (fun _ => ?_)
    · refine a_bv fun x7_21 ex7_21 => ?_
      refine a_iinc (y := x7_21) (L' := [some (.ref 0), some (vi x1), some (vi x2), some (vi x3_20), some (vi x4), some (vi x5), some (vi x6), some (vi x7_21)]) dX10_findLiars_121 rfl ex7_21 rfl rfl rfl ?_
      refine a_goto dX10_findLiars_124 rfl ?_
      exact hself _ _ _ _ _ _ _ _
    refine a_aload_n dX10_findLiars_112 rfl ?_
    refine a_iload_n dX10_findLiars_113 rfl ?_
    refine a_iload dX10_findLiars_114 rfl ?_
    refine a_iload dX10_findLiars_116 rfl ?_
    refine a_callVv (as := [vi x1, vi x5, vi x7]) mf_X10_360 lyC_0 rfl (c_W_tellLiars F _ _ _ _) LYsame.rf dX10_findLiars_118 rfl rfl rfl rfl rfl rfl (Or.inl rfl) fun r22 σ23 => ?_
    refine a_bv fun x7_24 ex7_24 => ?_
    refine a_iinc (y := x7_24) (L' := [some (.ref 0), some (vi x1), some (vi x2), some (vi x3_20), some (vi x4), some (vi x5), some (vi x6), some (vi x7_24)]) dX10_findLiars_121 rfl ex7_24 rfl rfl rfl ?_
    refine a_goto dX10_findLiars_124 rfl ?_
    exact hself _ _ _ _ _ _ _ _
  refine a_iload dX10_findLiars_71 rfl ?_
  refine a_goto dX10_findLiars_73 rfl ?_
  refine a_iload_n dX10_findLiars_77 rfl ?_
  refine a_iconst dX10_findLiars_78 ?_
  refine a_icmp_le dX10_findLiars_79 rfl (fun _ => ?_) (fun _ => ?_)
  · refine a_iconst dX10_findLiars_87 ?_
    refine a_callVv (as := [vi x5, vi (-1)]) mf_X10_280 lyC_95 rfl (c_Makers_hearAllBut F _ _ _) LYsame.rf dX10_findLiars_88 rfl rfl rfl rfl rfl rfl (Or.inl rfl) fun r25 σ26 => ?_
    refine a_aload_n dX10_findLiars_91 rfl ?_
    refine a_getR (c0 := 95) fl_X10_58 lyC_0 rfl dX10_findLiars_92 (key := 8) rfl ?_
    refine a_iload_n dX10_findLiars_95 rfl ?_
    refine a_iconst dX10_findLiars_96 ?_
    refine a_callVi (as := [vi x2, vi 1]) mf_X10_283 lyC_95 rfl (c_Makers_fewestUpTo F _ _ _) LYsame.rf dX10_findLiars_97 rfl rfl rfl rfl rfl rfl (Or.inl rfl) fun r27 σ28 => ?_
    refine a_iconst dX10_findLiars_100 ?_
    refine a_icmp_eq dX10_findLiars_101 rfl (fun _ => ?_) (fun _ => ?_)
    · refine a_bv fun x7_29 ex7_29 => ?_
      refine a_iinc (y := x7_29) (L' := [some (.ref 0), some (vi x1), some (vi x2), some (vi x3), some (vi x4), some (vi x5), some (vi x6), some (vi x7_29)]) dX10_findLiars_121 rfl ex7_29 rfl rfl rfl ?_
      refine a_goto dX10_findLiars_124 rfl ?_
      exact hself _ _ _ _ _ _ _ _
    refine a_bv fun x3_30 ex3_30 => ?_
    refine a_iinc (y := x3_30) (L' := [some (.ref 0), some (vi x1), some (vi x2), some (vi x3_30), some (vi x4), some (vi x5), some (vi x6), some (vi x7)]) dX10_findLiars_104 rfl ex3_30 rfl rfl rfl ?_
    refine a_iload_n dX10_findLiars_107 rfl ?_
    refine a_iconst dX10_findLiars_108 ?_
    refine a_icmp_ne dX10_findLiars_109 rfl (fun _ => ?_) (fun _ => ?_)
    · refine a_bv fun x7_31 ex7_31 => ?_
      refine a_iinc (y := x7_31) (L' := [some (.ref 0), some (vi x1), some (vi x2), some (vi x3_30), some (vi x4), some (vi x5), some (vi x6), some (vi x7_31)]) dX10_findLiars_121 rfl ex7_31 rfl rfl rfl ?_
      refine a_goto dX10_findLiars_124 rfl ?_
      exact hself _ _ _ _ _ _ _ _
    refine a_aload_n dX10_findLiars_112 rfl ?_
    refine a_iload_n dX10_findLiars_113 rfl ?_
    refine a_iload dX10_findLiars_114 rfl ?_
    refine a_iload dX10_findLiars_116 rfl ?_
    refine a_callVv (as := [vi x1, vi x5, vi x7]) mf_X10_360 lyC_0 rfl (c_W_tellLiars F _ _ _ _) LYsame.rf dX10_findLiars_118 rfl rfl rfl rfl rfl rfl (Or.inl rfl) fun r32 σ33 => ?_
    refine a_bv fun x7_34 ex7_34 => ?_
    refine a_iinc (y := x7_34) (L' := [some (.ref 0), some (vi x1), some (vi x2), some (vi x3_30), some (vi x4), some (vi x5), some (vi x6), some (vi x7_34)]) dX10_findLiars_121 rfl ex7_34 rfl rfl rfl ?_
    refine a_goto dX10_findLiars_124 rfl ?_
    exact hself _ _ _ _ _ _ _ _
  refine a_iload dX10_findLiars_82 rfl ?_
  refine a_goto dX10_findLiars_84 rfl ?_
  refine a_callVv (as := [vi x5, vi x7]) mf_X10_280 lyC_95 rfl (c_Makers_hearAllBut F _ _ _) LYsame.rf dX10_findLiars_88 rfl rfl rfl rfl rfl rfl (Or.inl rfl) fun r35 σ36 => ?_
  refine a_aload_n dX10_findLiars_91 rfl ?_
  refine a_getR (c0 := 95) fl_X10_58 lyC_0 rfl dX10_findLiars_92 (key := 8) rfl ?_
  refine a_iload_n dX10_findLiars_95 rfl ?_
  refine a_iconst dX10_findLiars_96 ?_
  refine a_callVi (as := [vi x2, vi 1]) mf_X10_283 lyC_95 rfl (c_Makers_fewestUpTo F _ _ _) LYsame.rf dX10_findLiars_97 rfl rfl rfl rfl rfl rfl (Or.inl rfl) fun r37 σ38 => ?_
  refine a_iconst dX10_findLiars_100 ?_
  refine a_icmp_eq dX10_findLiars_101 rfl (fun _ => ?_) (fun _ => ?_)
  · refine a_bv fun x7_39 ex7_39 => ?_
    refine a_iinc (y := x7_39) (L' := [some (.ref 0), some (vi x1), some (vi x2), some (vi x3), some (vi x4), some (vi x5), some (vi x6), some (vi x7_39)]) dX10_findLiars_121 rfl ex7_39 rfl rfl rfl ?_
    refine a_goto dX10_findLiars_124 rfl ?_
    exact hself _ _ _ _ _ _ _ _
  refine a_bv fun x3_40 ex3_40 => ?_
  refine a_iinc (y := x3_40) (L' := [some (.ref 0), some (vi x1), some (vi x2), some (vi x3_40), some (vi x4), some (vi x5), some (vi x6), some (vi x7)]) dX10_findLiars_104 rfl ex3_40 rfl rfl rfl ?_
  refine a_iload_n dX10_findLiars_107 rfl ?_
  refine a_iconst dX10_findLiars_108 ?_
  refine a_icmp_ne dX10_findLiars_109 rfl (fun _ => ?_) (fun _ => ?_)
  · refine a_bv fun x7_41 ex7_41 => ?_
    refine a_iinc (y := x7_41) (L' := [some (.ref 0), some (vi x1), some (vi x2), some (vi x3_40), some (vi x4), some (vi x5), some (vi x6), some (vi x7_41)]) dX10_findLiars_121 rfl ex7_41 rfl rfl rfl ?_
    refine a_goto dX10_findLiars_124 rfl ?_
    exact hself _ _ _ _ _ _ _ _
  refine a_aload_n dX10_findLiars_112 rfl ?_
  refine a_iload_n dX10_findLiars_113 rfl ?_
  refine a_iload dX10_findLiars_114 rfl ?_
  refine a_iload dX10_findLiars_116 rfl ?_
  refine a_callVv (as := [vi x1, vi x5, vi x7]) mf_X10_360 lyC_0 rfl (c_W_tellLiars F _ _ _ _) LYsame.rf dX10_findLiars_118 rfl rfl rfl rfl rfl rfl (Or.inl rfl) fun r42 σ43 => ?_
  refine a_bv fun x7_44 ex7_44 => ?_
  refine a_iinc (y := x7_44) (L' := [some (.ref 0), some (vi x1), some (vi x2), some (vi x3_40), some (vi x4), some (vi x5), some (vi x6), some (vi x7_44)]) dX10_findLiars_121 rfl ex7_44 rfl rfl rfl ?_
  refine a_goto dX10_findLiars_124 rfl ?_
  exact hself _ _ _ _ _ _ _ _
set_option maxRecDepth 100000 in
set_option maxHeartbeats 4000000 in
theorem cl_W_findLiars_56 {K : KX} {x : Bool} (F : Nat) (k22 : St → Int → Int → Int → Int → Int → Option (Int × St)) (h22 : ∀ σ x1 x2 x3 x4 x5, WA 11 0 1 cX10_findLiars RX10 8 (some .boolean) (LYC x false false) (LYC x false false) K 22 [some (.ref 0), some (vi x1), some (vi x2), some (vi x3), some (vi x4), some (vi x5), none, none] [] σ (k22 σ x1 x2 x3 x4 x5)) : ∀ (n : Nat) (σ : St) (x1 x2 x3 x4 x5 x6 x7 : Int), WA 11 0 1 cX10_findLiars RX10 8 (some .boolean) (LYC x false false) (LYC x false false) K 56 [some (.ref 0), some (vi x1), some (vi x2), some (vi x3), some (vi x4), some (vi x5), some (vi x6), some (vi x7)] [] σ (l_W_findLiars_56 F k22 n σ x1 x2 x3 x4 x5 x6 x7)
  | 0, _, _, _, _, _, _, _, _ => a_none
  | n + 1, σ, x1, x2, x3, x4, x5, x6, x7 => cb_W_findLiars_56 F k22 h22 _ (cl_W_findLiars_56 F k22 h22 n) σ x1 x2 x3 x4 x5 x6 x7
set_option maxRecDepth 100000 in
set_option maxHeartbeats 4000000 in
theorem cb_W_findLiars_22 {K : KX} {x : Bool} (F : Nat) (self : St → Int → Int → Int → Int → Int → Option (Int × St)) (hself : ∀ σ x1 x2 x3 x4 x5, WA 11 0 1 cX10_findLiars RX10 8 (some .boolean) (LYC x false false) (LYC x false false) K 22 [some (.ref 0), some (vi x1), some (vi x2), some (vi x3), some (vi x4), some (vi x5), none, none] [] σ (self σ x1 x2 x3 x4 x5)) (σ : St) (x1 x2 x3 x4 x5 : Int) : WA 11 0 1 cX10_findLiars RX10 8 (some .boolean) (LYC x false false) (LYC x false false) K 22 [some (.ref 0), some (vi x1), some (vi x2), some (vi x3), some (vi x4), some (vi x5), none, none] [] σ (b_W_findLiars_22 F self σ x1 x2 x3 x4 x5) := by
  unfold b_W_findLiars_22
  refine a_iload dX10_findLiars_22 rfl ?_
  refine a_iload dX10_findLiars_24 rfl ?_
  refine a_icmp_ge dX10_findLiars_26 rfl (fun _ => ?_) (fun _ => ?_)
  · refine a_iload_n dX10_findLiars_133 rfl ?_
    refine a_if_le dX10_findLiars_134 rfl (fun _ => ?_) (fun _ => ?_)
    · refine a_iload_n dX10_findLiars_142 rfl ?_
      refine a_if_le dX10_findLiars_143 rfl (fun _ => ?_) (fun _ => ?_)
      · refine a_iconst dX10_findLiars_150 ?_
        exact a_zretc (by decide) dX10_findLiars_151
      refine a_iconst dX10_findLiars_146 ?_
      refine a_goto dX10_findLiars_147 rfl ?_
      exact a_zretc (by decide) dX10_findLiars_151
    refine a_aload_n dX10_findLiars_137 rfl ?_
    refine a_iload_n dX10_findLiars_138 rfl ?_
    refine a_putI fl_X10_95 cf_X10 rfl rfl lyC_0 rfl dX10_findLiars_139 (key := 16) rfl fun σ1 => ?_
    refine a_iload_n dX10_findLiars_142 rfl ?_
    refine a_if_le dX10_findLiars_143 rfl (fun _ => ?_) (fun _ => ?_)
    · refine a_iconst dX10_findLiars_150 ?_
      exact a_zretc (by decide) dX10_findLiars_151
    refine a_iconst dX10_findLiars_146 ?_
    refine a_goto dX10_findLiars_147 rfl ?_
    exact a_zretc (by decide) dX10_findLiars_151
  refine a_iload_n dX10_findLiars_29 rfl ?_
  refine a_iconst dX10_findLiars_30 ?_
  refine a_icmp_le dX10_findLiars_31 rfl (fun _ => ?_) (fun _ => ?_)
  · refine a_iload dX10_findLiars_44 rfl ?_
    refine a_iconst dX10_findLiars_46 ?_
    refine a_iadd dX10_findLiars_47 ?_
    refine a_bv fun x6_2 ex6_2 => ?_
    refine a_istore (y := x6_2) (L' := [some (.ref 0), some (vi x1), some (vi x2), some (vi x3), some (vi x4), some (vi x5), some (vi x6_2), none]) dX10_findLiars_48 ex6_2 rfl rfl rfl ?_
    refine a_iload dX10_findLiars_50 rfl ?_
    refine a_iconst dX10_findLiars_52 ?_
    refine a_iadd dX10_findLiars_53 ?_
    refine a_bv fun x7_3 ex7_3 => ?_
    refine a_istore (y := x7_3) (L' := [some (.ref 0), some (vi x1), some (vi x2), some (vi x3), some (vi x4), some (vi x5), some (vi x6_2), some (vi x7_3)]) dX10_findLiars_54 ex7_3 rfl rfl rfl ?_
    exact cl_W_findLiars_56 F _ hself F _ _ _ _ _ _ _ _
  refine a_aload_n dX10_findLiars_34 rfl ?_
  refine a_getR (c0 := 79) fl_X10_26 lyC_0 rfl dX10_findLiars_35 (key := 2) rfl ?_
  refine a_getI fl_X10_172 lyC_79 rfl dX10_findLiars_38 (key := 5059) rfl ?_
  refine a_goto dX10_findLiars_41 rfl ?_
  refine a_bv fun x6_45 ex6_45 => ?_
  refine a_istore (y := x6_45) (L' := [some (.ref 0), some (vi x1), some (vi x2), some (vi x3), some (vi x4), some (vi x5), some (vi x6_45), none]) dX10_findLiars_48 ex6_45 rfl rfl rfl ?_
  refine a_iload dX10_findLiars_50 rfl ?_
  refine a_iconst dX10_findLiars_52 ?_
  refine a_iadd dX10_findLiars_53 ?_
  refine a_bv fun x7_46 ex7_46 => ?_
  refine a_istore (y := x7_46) (L' := [some (.ref 0), some (vi x1), some (vi x2), some (vi x3), some (vi x4), some (vi x5), some (vi x6_45), some (vi x7_46)]) dX10_findLiars_54 ex7_46 rfl rfl rfl ?_
  exact cl_W_findLiars_56 F _ hself F _ _ _ _ _ _ _ _
set_option maxRecDepth 100000 in
set_option maxHeartbeats 4000000 in
theorem cl_W_findLiars_22 {K : KX} {x : Bool} (F : Nat) : ∀ (n : Nat) (σ : St) (x1 x2 x3 x4 x5 : Int), WA 11 0 1 cX10_findLiars RX10 8 (some .boolean) (LYC x false false) (LYC x false false) K 22 [some (.ref 0), some (vi x1), some (vi x2), some (vi x3), some (vi x4), some (vi x5), none, none] [] σ (l_W_findLiars_22 F n σ x1 x2 x3 x4 x5)
  | 0, _, _, _, _, _, _ => a_none
  | n + 1, σ, x1, x2, x3, x4, x5 => cb_W_findLiars_22 F _ (cl_W_findLiars_22 F n) σ x1 x2 x3 x4 x5
set_option maxRecDepth 100000 in
set_option maxHeartbeats 4000000 in
theorem c_W_findLiars {x : Bool} (F : Nat) (σ : St) (x1 x2 : Int) : Ct 11 0 1 yX10_findLiars cX10_findLiars 8 (some .boolean) (LYC x false false) (LYC x false false) [.ref 0, vi x1, vi x2] σ (f_W_findLiars F σ x1 x2) := by
  unfold f_W_findLiars
  refine Ct_of (d := 11) (kp := 0) (kd := 1) (own := RX10) (nL := 8) (ret := (some .boolean)) (LY := (LYC x false false)) (LYe := (LYC x false false)) (L := [some (.ref 0), some (vi x1), some (vi x2), none, none, none, none, none]) rfl (by decide +kernel) rfl rfl mf_X10_299.2.2.2.1 rfl fun K => ?_
  refine a_iconst dX10_findLiars_0 ?_
  refine a_istore_n (L' := [some (.ref 0), some (vi x1), some (vi x2), some (vi 0), none, none, none, none]) dX10_findLiars_1 rfl rfl rfl rfl ?_
  refine a_iload_n dX10_findLiars_2 rfl ?_
  refine a_if_le dX10_findLiars_3 rfl (fun _ => ?_) (fun _ => ?_)
  · refine a_iconst dX10_findLiars_16 ?_
    refine a_istore (L' := [some (.ref 0), some (vi x1), some (vi x2), some (vi 0), some (vi 1), none, none, none]) dX10_findLiars_17 rfl rfl rfl rfl ?_
    refine a_iconst dX10_findLiars_19 ?_
    refine a_istore (L' := [some (.ref 0), some (vi x1), some (vi x2), some (vi 0), some (vi 1), some (vi 0), none, none]) dX10_findLiars_20 rfl rfl rfl rfl ?_
    exact cl_W_findLiars_22 F F _ _ _ _ _ _
  refine a_aload_n dX10_findLiars_6 rfl ?_
  refine a_getR (c0 := 79) fl_X10_26 lyC_0 rfl dX10_findLiars_7 (key := 2) rfl ?_
  refine a_getI fl_X10_172 lyC_79 rfl dX10_findLiars_10 (key := 5059) rfl ?_
  refine a_goto dX10_findLiars_13 rfl ?_
  refine a_bv fun x4_47 ex4_47 => ?_
  refine a_istore (y := x4_47) (L' := [some (.ref 0), some (vi x1), some (vi x2), some (vi 0), some (vi x4_47), none, none, none]) dX10_findLiars_17 ex4_47 rfl rfl rfl ?_
  refine a_iconst dX10_findLiars_19 ?_
  refine a_istore (L' := [some (.ref 0), some (vi x1), some (vi x2), some (vi 0), some (vi x4_47), some (vi 0), none, none]) dX10_findLiars_20 rfl rfl rfl rfl ?_
  exact cl_W_findLiars_22 F F _ _ _ _ _ _
def b_W_liars_43 (F : Nat) (self : St → Int → Int → Option (Int × St)) (σ : St) (x1 x2 : Int) : Option (Int × St) := gd (rng x2 ∧ rng 2) (if (2 : Int) < x2 then some ((-1), σ) else bnd (f_W_findLiars F σ x2 x1) fun r5 σ6 => gd (rng r5) (if r5 = 0 then bv (x2 + 1) fun x2_7 => self σ6 x1 x2_7 else some (x2, σ6)))
def l_W_liars_43 (F : Nat) : Nat → St → Int → Int → Option (Int × St)
  | 0 => fun _ _ _ => none
  | n + 1 => fun σ x1 x2 => b_W_liars_43 F (l_W_liars_43 F n) σ x1 x2
def f_W_liars (F : Nat) (σ : St) (x1 : Int) : Option (Int × St) := bnd (f_W_takeReadings F σ) fun r1 σ2 => gd (rng r1 ∧ rng (gF σ2 5059)) (if r1 = (gF σ2 5059) then gd (rng x1) (if x1 < 0 then some ((-2), σ2) else gd (rng x1 ∧ rng 2) (if x1 ≤ 2 then bnd (f_Makers_hear_scene0_readings F σ2) fun r3 σ4 => l_W_liars_43 F F σ4 x1 0 else some ((-2), σ2))) else some ((-2), σ2))
set_option maxRecDepth 100000 in
set_option maxHeartbeats 4000000 in
theorem cb_W_liars_43 {K : KX} {x : Bool} (F : Nat) (self : St → Int → Int → Option (Int × St)) (hself : ∀ σ x1 x2, WA 12 0 1 cX10_liars RX10 3 (some .int) (LYC x false false) (LYC x false false) K 43 [some (.ref 0), some (vi x1), some (vi x2)] [] σ (self σ x1 x2)) (σ : St) (x1 x2 : Int) : WA 12 0 1 cX10_liars RX10 3 (some .int) (LYC x false false) (LYC x false false) K 43 [some (.ref 0), some (vi x1), some (vi x2)] [] σ (b_W_liars_43 F self σ x1 x2) := by
  unfold b_W_liars_43
  refine a_iload_n dX10_liars_43 rfl ?_
  refine a_iconst dX10_liars_44 ?_
  refine a_icmp_gt dX10_liars_45 rfl (fun _ => ?_) (fun _ => ?_)
  · refine a_iconst dX10_liars_65 ?_
    exact a_iret dX10_liars_66
  refine a_aload_n dX10_liars_48 rfl ?_
  refine a_iload_n dX10_liars_49 rfl ?_
  refine a_iload_n dX10_liars_50 rfl ?_
  refine a_callVi (as := [vi x2, vi x1]) mf_X10_299 lyC_0 rfl (c_W_findLiars F _ _ _) LYsame.rf dX10_liars_51 rfl rfl rfl rfl rfl rfl (Or.inl rfl) fun r5 σ6 => ?_
  refine a_if_eq dX10_liars_54 rfl (fun _ => ?_) (fun _ => ?_)
  · refine a_bv fun x2_7 ex2_7 => ?_
    refine a_iinc (y := x2_7) (L' := [some (.ref 0), some (vi x1), some (vi x2_7)]) dX10_liars_59 rfl ex2_7 rfl rfl rfl ?_
    refine a_goto dX10_liars_62 rfl ?_
    exact hself _ _ _
  refine a_iload_n dX10_liars_57 rfl ?_
  exact a_iret dX10_liars_58
set_option maxRecDepth 100000 in
set_option maxHeartbeats 4000000 in
theorem cl_W_liars_43 {K : KX} {x : Bool} (F : Nat) : ∀ (n : Nat) (σ : St) (x1 x2 : Int), WA 12 0 1 cX10_liars RX10 3 (some .int) (LYC x false false) (LYC x false false) K 43 [some (.ref 0), some (vi x1), some (vi x2)] [] σ (l_W_liars_43 F n σ x1 x2)
  | 0, _, _, _ => a_none
  | n + 1, σ, x1, x2 => cb_W_liars_43 F _ (cl_W_liars_43 F n) σ x1 x2
set_option maxRecDepth 100000 in
set_option maxHeartbeats 4000000 in
theorem c_W_liars {x : Bool} (F : Nat) (σ : St) (x1 : Int) : Ct 12 0 1 yX10_liars cX10_liars 3 (some .int) (LYC x false false) (LYC x false false) [.ref 0, vi x1] σ (f_W_liars F σ x1) := by
  unfold f_W_liars
  refine Ct_of (d := 12) (kp := 0) (kd := 1) (own := RX10) (nL := 3) (ret := (some .int)) (LY := (LYC x false false)) (LYe := (LYC x false false)) (L := [some (.ref 0), some (vi x1), none]) rfl (by decide +kernel) rfl rfl mf_L_152.2.2.2.1 rfl fun K => ?_
  refine a_aload_n dX10_liars_0 rfl ?_
  refine a_callVi (as := []) mf_X10_244 lyC_0 rfl (c_W_takeReadings F _) LYsame.rf dX10_liars_1 rfl rfl rfl rfl rfl rfl (Or.inl rfl) fun r1 σ2 => ?_
  refine a_aload_n dX10_liars_4 rfl ?_
  refine a_getR (c0 := 79) fl_X10_26 lyC_0 rfl dX10_liars_5 (key := 2) rfl ?_
  refine a_getI fl_X10_172 lyC_79 rfl dX10_liars_8 (key := 5059) rfl ?_
  refine a_icmp_ne dX10_liars_11 rfl (fun _ => ?_) (fun _ => ?_)
  · refine a_bipush dX10_liars_23 bi_m2 ?_
    exact a_iret dX10_liars_25
  refine a_iload_n dX10_liars_14 rfl ?_
  refine a_if_lt dX10_liars_15 rfl (fun _ => ?_) (fun _ => ?_)
  · refine a_bipush dX10_liars_23 bi_m2 ?_
    exact a_iret dX10_liars_25
  refine a_iload_n dX10_liars_18 rfl ?_
  refine a_iconst dX10_liars_19 ?_
  refine a_icmp_le dX10_liars_20 rfl (fun _ => ?_) (fun _ => ?_)
  · refine a_aload_n dX10_liars_26 rfl ?_
    refine a_getR (c0 := 95) fl_X10_58 lyC_0 rfl dX10_liars_27 (key := 8) rfl ?_
    refine a_aload_n dX10_liars_30 rfl ?_
    refine a_getR (c0 := 79) fl_X10_26 lyC_0 rfl dX10_liars_31 (key := 2) rfl ?_
    refine a_aload_n dX10_liars_34 rfl ?_
    refine a_getR (c0 := 94) fl_X10_69 lyC_0 rfl dX10_liars_35 (key := 10) rfl ?_
    refine a_callVv (as := [.ref 79, .ref 94]) mf_X10_276 lyC_95 rfl (c_Makers_hear_scene0_readings F _) LYsame.rf dX10_liars_38 rfl rfl rfl rfl rfl rfl (Or.inl rfl) fun r3 σ4 => ?_
    refine a_iconst dX10_liars_41 ?_
    refine a_istore_n (L' := [some (.ref 0), some (vi x1), some (vi 0)]) dX10_liars_42 rfl rfl rfl rfl ?_
    exact cl_W_liars_43 F F _ _ _
  refine a_bipush dX10_liars_23 bi_m2 ?_
  exact a_iret dX10_liars_25
def f_Told_at_lying (F : Nat) (σ : St) (x1 : Int) : Option (Int × St) := gd (rng x1) (if x1 < 0 then some ((-1), σ) else gd (rng x1 ∧ rng (gF σ 1217)) (if (gF σ 1217) ≤ x1 then some ((-1), σ) else gd (rng x1 ∧ rng 2) (if (2 : Int) ≤ x1 then some ((-1), σ) else gd (inb x1 2) (some ((gA σ 20 (Int.toNat x1)), σ)))))
set_option maxRecDepth 100000 in
set_option maxHeartbeats 4000000 in
theorem c_Told_at_lying {x : Bool} (F : Nat) (σ : St) (x1 : Int) : Ct 1 0 1 yX9_at cX9_at 2 (some .int) (LYC x false false) (LYC x false false) [.ref 19, vi x1] σ (f_Told_at_lying F σ x1) := by
  unfold f_Told_at_lying
  refine Ct_of (d := 1) (kp := 0) (kd := 1) (own := RX9) (nL := 2) (ret := (some .int)) (LY := (LYC x false false)) (LYe := (LYC x false false)) (L := [some (.ref 19), some (vi x1)]) rfl (by decide +kernel) rfl rfl mf_X10_234.2.2.2.1 rfl fun K => ?_
  refine a_iload_n dX9_at_0 rfl ?_
  refine a_if_lt dX9_at_1 rfl (fun _ => ?_) (fun _ => ?_)
  · refine a_iconst dX9_at_30 ?_
    exact a_iret dX9_at_31
  refine a_iload_n dX9_at_4 rfl ?_
  refine a_aload_n dX9_at_5 rfl ?_
  refine a_getI fl_X9_15 lyC_19 rfl dX9_at_6 (key := 1217) rfl ?_
  refine a_icmp_ge dX9_at_9 rfl (fun _ => ?_) (fun _ => ?_)
  · refine a_iconst dX9_at_30 ?_
    exact a_iret dX9_at_31
  refine a_iload_n dX9_at_12 rfl ?_
  refine a_aload_n dX9_at_13 rfl ?_
  refine a_getR (c0 := 20) fl_X9_9 lyC_19 rfl dX9_at_14 (key := 1216) rfl ?_
  refine a_alen lyC_20 dX9_at_17 ?_
  refine a_icmp_ge dX9_at_18 rfl (fun _ => ?_) (fun _ => ?_)
  · refine a_iconst dX9_at_30 ?_
    exact a_iret dX9_at_31
  refine a_aload_n dX9_at_21 rfl ?_
  refine a_getR (c0 := 20) fl_X9_9 lyC_19 rfl dX9_at_22 (key := 1216) rfl ?_
  refine a_iload_n dX9_at_25 rfl ?_
  refine a_iald lyC_20 rfl dX9_at_26 ?_
  refine a_goto dX9_at_27 rfl ?_
  exact a_iret dX9_at_31
def f_W_liar (F : Nat) (σ : St) (x1 : Int) : Option (Int × St) := gd (rng x1 ∧ rng (-1)) (if x1 = (-1) then some ((gF σ 16), σ) else bnd (f_Told_at_lying F σ x1) fun r1 σ2 => some (r1, σ2))
set_option maxRecDepth 100000 in
set_option maxHeartbeats 4000000 in
theorem c_W_liar {x : Bool} (F : Nat) (σ : St) (x1 : Int) : Ct 2 0 1 yX10_liar cX10_liar 2 (some .int) (LYC x false false) (LYC x false false) [.ref 0, vi x1] σ (f_W_liar F σ x1) := by
  unfold f_W_liar
  refine Ct_of (d := 2) (kp := 0) (kd := 1) (own := RX10) (nL := 2) (ret := (some .int)) (LY := (LYC x false false)) (LYe := (LYC x false false)) (L := [some (.ref 0), some (vi x1)]) rfl (by decide +kernel) rfl rfl mf_L_156.2.2.2.1 rfl fun K => ?_
  refine a_iload_n dX10_liar_0 rfl ?_
  refine a_iconst dX10_liar_1 ?_
  refine a_icmp_ne dX10_liar_2 rfl (fun _ => ?_) (fun _ => ?_)
  · refine a_aload_n dX10_liar_12 rfl ?_
    refine a_getR (c0 := 19) fl_X10_92 lyC_0 rfl dX10_liar_13 (key := 15) rfl ?_
    refine a_iload_n dX10_liar_16 rfl ?_
    refine a_callVi (as := [vi x1]) mf_X10_234 lyC_19 rfl (c_Told_at_lying F _ _) LYsame.rf dX10_liar_17 rfl rfl rfl rfl rfl rfl (Or.inl rfl) fun r1 σ2 => ?_
    exact a_iret dX10_liar_20
  refine a_aload_n dX10_liar_5 rfl ?_
  refine a_getI fl_X10_95 lyC_0 rfl dX10_liar_6 (key := 16) rfl ?_
  refine a_goto dX10_liar_9 rfl ?_
  exact a_iret dX10_liar_20
def b_W_unlikeDirections_5 (F : Nat) (self : St → Int → Int → Int → Option (Int × St)) (σ : St) (x1 x2 x4 : Int) : Option (Int × St) := gd (rng x4 ∧ rng x1) (if x1 ≤ x4 then some (1, σ) else gd (inb x4 940) (bv (gA σ 2 (Int.toNat x4)) fun x5_1 => bnd (f_Lattice_has_lattice0 F σ x5_1) fun r2 σ3 => gd (rng r2) (if r2 = 0 then some (0, σ3) else gd (rng64 x2 ∧ sh6 x5_1) (bv (landI (x2 / 2 ^ (Int.toNat x5_1)) 1) fun t4 => gd (rng64 t4 ∧ rng64 0) (if t4 = 0 then gd (sh6 x5_1) (bv (lorI x2 (1 * 2 ^ (Int.toNat x5_1))) fun t5 => bv (x4 + 1) fun x4_6 => self σ3 x1 t5 x4_6) else some (0, σ3))))))
def l_W_unlikeDirections_5 (F : Nat) : Nat → St → Int → Int → Int → Option (Int × St)
  | 0 => fun _ _ _ _ => none
  | n + 1 => fun σ x1 x2 x4 => b_W_unlikeDirections_5 F (l_W_unlikeDirections_5 F n) σ x1 x2 x4
def f_W_unlikeDirections (F : Nat) (σ : St) (x1 : Int) : Option (Int × St) := l_W_unlikeDirections_5 F F σ x1 0 0
set_option maxRecDepth 100000 in
set_option maxHeartbeats 4000000 in
theorem cb_W_unlikeDirections_5 {K : KX} {x : Bool} (F : Nat) (self : St → Int → Int → Int → Option (Int × St)) (hself : ∀ σ x1 x2 x4, WA 2 0 1 cX10_unlikeDirections RX10 6 (some .boolean) (LYC x false false) (LYC x false false) K 5 [some (.ref 0), some (vi x1), some (vl x2), none, some (vi x4), none] [] σ (self σ x1 x2 x4)) (σ : St) (x1 x2 x4 : Int) : WA 2 0 1 cX10_unlikeDirections RX10 6 (some .boolean) (LYC x false false) (LYC x false false) K 5 [some (.ref 0), some (vi x1), some (vl x2), none, some (vi x4), none] [] σ (b_W_unlikeDirections_5 F self σ x1 x2 x4) := by
  unfold b_W_unlikeDirections_5
  refine a_iload dX10_unlikeDirections_5 rfl ?_
  refine a_iload_n dX10_unlikeDirections_7 rfl ?_
  refine a_icmp_ge dX10_unlikeDirections_8 rfl (fun _ => ?_) (fun _ => ?_)
  · refine a_iconst dX10_unlikeDirections_64 ?_
    exact a_zretc (by decide) dX10_unlikeDirections_65
  refine a_aload_n dX10_unlikeDirections_11 rfl ?_
  refine a_getR (c0 := 1) fl_X10_10 lyC_0 rfl dX10_unlikeDirections_12 (key := 0) rfl ?_
  refine a_getR (c0 := 2) fl_X10_306 lyC_1 rfl dX10_unlikeDirections_15 (key := 64) rfl ?_
  refine a_iload dX10_unlikeDirections_18 rfl ?_
  refine a_iald lyC_2 rfl dX10_unlikeDirections_20 ?_
  refine a_bv fun x5_1 ex5_1 => ?_
  refine a_istore (y := x5_1) (L' := [some (.ref 0), some (vi x1), some (vl x2), none, some (vi x4), some (vi x5_1)]) dX10_unlikeDirections_21 ex5_1 rfl rfl rfl ?_
  refine a_aload_n dX10_unlikeDirections_23 rfl ?_
  refine a_getR (c0 := 79) fl_X10_26 lyC_0 rfl dX10_unlikeDirections_24 (key := 2) rfl ?_
  refine a_getR (c0 := 23) fl_X10_153 lyC_79 rfl dX10_unlikeDirections_27 (key := 5056) rfl ?_
  refine a_iload dX10_unlikeDirections_30 rfl ?_
  refine a_callVi (as := [vi x5_1]) mf_X10_157 lyC_23 rfl (c_Lattice_has_lattice0 F _ _) LYsame.rf dX10_unlikeDirections_32 rfl rfl rfl rfl rfl rfl (Or.inl rfl) fun r2 σ3 => ?_
  refine a_if_eq dX10_unlikeDirections_35 rfl (fun _ => ?_) (fun _ => ?_)
  · refine a_iconst dX10_unlikeDirections_49 ?_
    exact a_zretc (by decide) dX10_unlikeDirections_50
  refine a_lload_n dX10_unlikeDirections_38 rfl ?_
  refine a_iload dX10_unlikeDirections_39 rfl ?_
  refine a_lshr dX10_unlikeDirections_41 (fun _ => ?_)
  refine a_lconst (v := 1) dX10_unlikeDirections_42 rfl ?_
  refine a_land dX10_unlikeDirections_43 ?_
  refine a_bvl fun t4 => ?_
  refine a_lconst (v := 0) dX10_unlikeDirections_44 rfl ?_
  refine a_lcmp_eq dX10_unlikeDirections_45 dX10_unlikeDirections_46 rfl (fun _ => ?_) (fun _ => ?_)
  · refine a_lload_n dX10_unlikeDirections_51 rfl ?_
    refine a_lconst (v := 1) dX10_unlikeDirections_52 rfl ?_
    refine a_iload dX10_unlikeDirections_53 rfl ?_
    refine a_lshl dX10_unlikeDirections_55 (fun _ => ?_)
    refine a_lor dX10_unlikeDirections_56 ?_
    refine a_bvl fun t5 => ?_
    refine a_lstore_n (L' := [some (.ref 0), some (vi x1), some (vl t5), none, some (vi x4), some (vi x5_1)]) dX10_unlikeDirections_57 rfl rfl rfl rfl ?_
    refine a_bv fun x4_6 ex4_6 => ?_
    refine a_iinc (y := x4_6) (L' := [some (.ref 0), some (vi x1), some (vl t5), none, some (vi x4_6), some (vi x5_1)]) dX10_unlikeDirections_58 rfl ex4_6 rfl rfl rfl ?_
    refine a_goto dX10_unlikeDirections_61 rfl ?_
    exact a_L (lsub_get (A := [some (.ref 0), some (vi x1), some (vl t5), none, some (vi x4_6), none]) ⟨rfl, ⟨rfl, ⟨rfl, ⟨rfl, trivial⟩⟩⟩⟩) (hself _ _ _ _)
  refine a_iconst dX10_unlikeDirections_49 ?_
  exact a_zretc (by decide) dX10_unlikeDirections_50
set_option maxRecDepth 100000 in
set_option maxHeartbeats 4000000 in
theorem cl_W_unlikeDirections_5 {K : KX} {x : Bool} (F : Nat) : ∀ (n : Nat) (σ : St) (x1 x2 x4 : Int), WA 2 0 1 cX10_unlikeDirections RX10 6 (some .boolean) (LYC x false false) (LYC x false false) K 5 [some (.ref 0), some (vi x1), some (vl x2), none, some (vi x4), none] [] σ (l_W_unlikeDirections_5 F n σ x1 x2 x4)
  | 0, _, _, _, _ => a_none
  | n + 1, σ, x1, x2, x4 => cb_W_unlikeDirections_5 F _ (cl_W_unlikeDirections_5 F n) σ x1 x2 x4
set_option maxRecDepth 100000 in
set_option maxHeartbeats 4000000 in
theorem c_W_unlikeDirections {x : Bool} (F : Nat) (σ : St) (x1 : Int) : Ct 2 0 1 yX10_unlikeDirections cX10_unlikeDirections 6 (some .boolean) (LYC x false false) (LYC x false false) [.ref 0, vi x1] σ (f_W_unlikeDirections F σ x1) := by
  unfold f_W_unlikeDirections
  refine Ct_of (d := 2) (kp := 0) (kd := 1) (own := RX10) (nL := 6) (ret := (some .boolean)) (LY := (LYC x false false)) (LYe := (LYC x false false)) (L := [some (.ref 0), some (vi x1), none, none, none, none]) rfl (by decide +kernel) rfl rfl mf_X10_303.2.2.2.1 rfl fun K => ?_
  refine a_lconst (v := 0) dX10_unlikeDirections_0 rfl ?_
  refine a_lstore_n (L' := [some (.ref 0), some (vi x1), some (vl 0), none, none, none]) dX10_unlikeDirections_1 rfl rfl rfl rfl ?_
  refine a_iconst dX10_unlikeDirections_2 ?_
  refine a_istore (L' := [some (.ref 0), some (vi x1), some (vl 0), none, some (vi 0), none]) dX10_unlikeDirections_3 rfl rfl rfl rfl ?_
  exact cl_W_unlikeDirections_5 F F _ _ _ _
def b_Rows_solve_nulls_59 (F : Nat) (self : St → Int → Int → Int → Option (Int × St)) (σ : St) (x2 x5 x6 : Int) : Option (Int × St) := gd (rng x6 ∧ rng x5) (if x5 ≤ x6 then some (1, σ) else gd (inb x6 46) (gd (inb x6 46) (gd (inb x2 70) (bv (gA σ (103 + (Int.toNat x6)) (Int.toNat x2)) fun t7 => gd (inb (gA σ 87 (Int.toNat x6)) 10) (bs (sA σ 22 (Int.toNat (gA σ 87 (Int.toNat x6))) t7) fun σ8 => bv (x6 + 1) fun x6_9 => self σ8 x2 x5 x6_9)))))
def l_Rows_solve_nulls_59 (F : Nat) : Nat → St → Int → Int → Int → Option (Int × St)
  | 0 => fun _ _ _ _ => none
  | n + 1 => fun σ x2 x5 x6 => b_Rows_solve_nulls_59 F (l_Rows_solve_nulls_59 F n) σ x2 x5 x6
def b_Rows_solve_nulls_35 (F : Nat) (self : St → Int → Int → Int → Option (Int × St)) (σ : St) (x2 x5 x6 : Int) : Option (Int × St) := gd (rng x6 ∧ rng x2) (if x2 ≤ x6 then l_Rows_solve_nulls_59 F F σ x2 x5 0 else gd (inb x6 10) (bs (sA σ 22 (Int.toNat x6) 0) fun σ10 => bv (x6 + 1) fun x6_11 => self σ10 x2 x5 x6_11))
def l_Rows_solve_nulls_35 (F : Nat) : Nat → St → Int → Int → Int → Option (Int × St)
  | 0 => fun _ _ _ _ => none
  | n + 1 => fun σ x2 x5 x6 => b_Rows_solve_nulls_35 F (l_Rows_solve_nulls_35 F n) σ x2 x5 x6
def f_Rows_solve_nulls (F : Nat) (σ : St) (x1 x2 x3 : Int) : Option (Int × St) := bnd (f_Rows_reduce F σ x1 (x2 + 1) x2 x3) fun r1 σ2 => bnd (f_Rows_rowWith F σ2 x2 r1 x1) fun r3 σ4 => gd (rng r3 ∧ rng (-1)) (if r3 = (-1) then bs (sF σ4 1345 x2) fun σ5 => l_Rows_solve_nulls_35 F F σ5 x2 r1 0 else some (0, σ4))
set_option maxRecDepth 100000 in
set_option maxHeartbeats 4000000 in
theorem cb_Rows_solve_nulls_59 {K : KX} {x : Bool} (F : Nat) (self : St → Int → Int → Int → Option (Int × St)) (hself : ∀ σ x2 x5 x6, WA 4 1 1 cX5_solve RX5 7 (some .boolean) (LYC x false false) (LYC x false false) K 59 [some (.ref 85), none, some (vi x2), none, some (.ref 21), some (vi x5), some (vi x6)] [] σ (self σ x2 x5 x6)) (σ : St) (x2 x5 x6 : Int) : WA 4 1 1 cX5_solve RX5 7 (some .boolean) (LYC x false false) (LYC x false false) K 59 [some (.ref 85), none, some (vi x2), none, some (.ref 21), some (vi x5), some (vi x6)] [] σ (b_Rows_solve_nulls_59 F self σ x2 x5 x6) := by
  unfold b_Rows_solve_nulls_59
  refine a_iload dX5_solve_59 rfl ?_
  refine a_iload dX5_solve_61 rfl ?_
  refine a_icmp_ge dX5_solve_63 rfl (fun _ => ?_) (fun _ => ?_)
  · refine a_iconst dX5_solve_94 ?_
    exact a_zretc (by decide) dX5_solve_95
  refine a_aload dX5_solve_66 rfl ?_
  refine a_getR (c0 := 22) fl_X5_58 lyC_21 rfl dX5_solve_68 (key := 1344) rfl ?_
  refine a_aload_n dX5_solve_71 rfl ?_
  refine a_getR (c0 := 87) fl_X5_16 lyC_85 rfl dX5_solve_72 (key := 5441) rfl ?_
  refine a_iload dX5_solve_75 rfl ?_
  refine a_iald lyC_87 rfl dX5_solve_77 ?_
  refine a_aload_n dX5_solve_78 rfl ?_
  refine a_getR (c0 := 86) fl_X5_13 lyC_85 rfl dX5_solve_79 (key := 5440) rfl ?_
  refine a_iload dX5_solve_82 rfl ?_
  refine a_aaldI lyC_86 rfl dX5_solve_84 fun hi6 => ?_
  refine a_iload_n dX5_solve_85 rfl ?_
  refine a_iald (lyC_r _ (ix_lt hi6)) rfl dX5_solve_86 ?_
  refine a_bvi fun t7 => ?_
  refine a_iast lyC_22 rfl dX5_solve_87 fun σ8 => ?_
  refine a_bv fun x6_9 ex6_9 => ?_
  refine a_iinc (y := x6_9) (L' := [some (.ref 85), none, some (vi x2), none, some (.ref 21), some (vi x5), some (vi x6_9)]) dX5_solve_88 rfl ex6_9 rfl rfl rfl ?_
  refine a_goto dX5_solve_91 rfl ?_
  exact hself _ _ _ _
set_option maxRecDepth 100000 in
set_option maxHeartbeats 4000000 in
theorem cl_Rows_solve_nulls_59 {K : KX} {x : Bool} (F : Nat) : ∀ (n : Nat) (σ : St) (x2 x5 x6 : Int), WA 4 1 1 cX5_solve RX5 7 (some .boolean) (LYC x false false) (LYC x false false) K 59 [some (.ref 85), none, some (vi x2), none, some (.ref 21), some (vi x5), some (vi x6)] [] σ (l_Rows_solve_nulls_59 F n σ x2 x5 x6)
  | 0, _, _, _, _ => a_none
  | n + 1, σ, x2, x5, x6 => cb_Rows_solve_nulls_59 F _ (cl_Rows_solve_nulls_59 F n) σ x2 x5 x6
set_option maxRecDepth 100000 in
set_option maxHeartbeats 4000000 in
theorem cb_Rows_solve_nulls_35 {K : KX} {x : Bool} (F : Nat) (self : St → Int → Int → Int → Option (Int × St)) (hself : ∀ σ x2 x5 x6, WA 4 1 1 cX5_solve RX5 7 (some .boolean) (LYC x false false) (LYC x false false) K 35 [some (.ref 85), none, some (vi x2), none, some (.ref 21), some (vi x5), some (vi x6)] [] σ (self σ x2 x5 x6)) (σ : St) (x2 x5 x6 : Int) : WA 4 1 1 cX5_solve RX5 7 (some .boolean) (LYC x false false) (LYC x false false) K 35 [some (.ref 85), none, some (vi x2), none, some (.ref 21), some (vi x5), some (vi x6)] [] σ (b_Rows_solve_nulls_35 F self σ x2 x5 x6) := by
  unfold b_Rows_solve_nulls_35
  refine a_iload dX5_solve_35 rfl ?_
  refine a_iload_n dX5_solve_37 rfl ?_
  refine a_icmp_ge dX5_solve_38 rfl (fun _ => ?_) (fun _ => ?_)
  · refine a_iconst dX5_solve_56 ?_
    refine a_istore (L' := [some (.ref 85), none, some (vi x2), none, some (.ref 21), some (vi x5), some (vi 0)]) dX5_solve_57 rfl rfl rfl rfl ?_
    exact cl_Rows_solve_nulls_59 F F _ _ _ _
  refine a_aload dX5_solve_41 rfl ?_
  refine a_getR (c0 := 22) fl_X5_58 lyC_21 rfl dX5_solve_43 (key := 1344) rfl ?_
  refine a_iload dX5_solve_46 rfl ?_
  refine a_iconst dX5_solve_48 ?_
  refine a_iast lyC_22 rfl dX5_solve_49 fun σ10 => ?_
  refine a_bv fun x6_11 ex6_11 => ?_
  refine a_iinc (y := x6_11) (L' := [some (.ref 85), none, some (vi x2), none, some (.ref 21), some (vi x5), some (vi x6_11)]) dX5_solve_50 rfl ex6_11 rfl rfl rfl ?_
  refine a_goto dX5_solve_53 rfl ?_
  exact hself _ _ _ _
set_option maxRecDepth 100000 in
set_option maxHeartbeats 4000000 in
theorem cl_Rows_solve_nulls_35 {K : KX} {x : Bool} (F : Nat) : ∀ (n : Nat) (σ : St) (x2 x5 x6 : Int), WA 4 1 1 cX5_solve RX5 7 (some .boolean) (LYC x false false) (LYC x false false) K 35 [some (.ref 85), none, some (vi x2), none, some (.ref 21), some (vi x5), some (vi x6)] [] σ (l_Rows_solve_nulls_35 F n σ x2 x5 x6)
  | 0, _, _, _, _ => a_none
  | n + 1, σ, x2, x5, x6 => cb_Rows_solve_nulls_35 F _ (cl_Rows_solve_nulls_35 F n) σ x2 x5 x6
set_option maxRecDepth 100000 in
set_option maxHeartbeats 4000000 in
theorem c_Rows_solve_nulls {x : Bool} (F : Nat) (σ : St) (x1 x2 x3 : Int) : Ct 4 1 1 yX5_solve cX5_solve 7 (some .boolean) (LYC x false false) (LYC x false false) [.ref 85, vi x1, vi x2, vi x3, .ref 21] σ (f_Rows_solve_nulls F σ x1 x2 x3) := by
  unfold f_Rows_solve_nulls
  refine Ct_of (d := 4) (kp := 1) (kd := 1) (own := RX5) (nL := 7) (ret := (some .boolean)) (LY := (LYC x false false)) (LYe := (LYC x false false)) (L := [some (.ref 85), some (vi x1), some (vi x2), some (vi x3), some (.ref 21), none, none]) rfl (by decide +kernel) rfl rfl mf_X10_309.2.2.2.1 rfl fun K => ?_
  refine a_aload_n dX5_solve_0 rfl ?_
  refine a_iload_n dX5_solve_1 rfl ?_
  refine a_iload_n dX5_solve_2 rfl ?_
  refine a_iconst dX5_solve_3 ?_
  refine a_iadd dX5_solve_4 ?_
  refine a_iload_n dX5_solve_5 rfl ?_
  refine a_iload_n dX5_solve_6 rfl ?_
  refine a_callVi (as := [vi x1, vi (x2 + 1), vi x2, vi x3]) mf_X5_49 lyC_85 rfl (c_Rows_reduce F _ _ _ _ _) LYsame.rf dX5_solve_7 rfl rfl rfl rfl rfl rfl (Or.inr rfl) fun r1 σ2 => ?_
  refine a_istore (L' := [some (.ref 85), some (vi x1), some (vi x2), some (vi x3), some (.ref 21), some (vi r1), none]) dX5_solve_10 rfl rfl rfl rfl ?_
  refine a_aload_n dX5_solve_12 rfl ?_
  refine a_iload_n dX5_solve_13 rfl ?_
  refine a_iload dX5_solve_14 rfl ?_
  refine a_iload_n dX5_solve_16 rfl ?_
  refine a_callVi (as := [vi x2, vi r1, vi x1]) mf_X5_20 lyC_85 rfl (c_Rows_rowWith F _ _ _ _) LYsame.rf dX5_solve_17 rfl rfl rfl rfl rfl rfl (Or.inl rfl) fun r3 σ4 => ?_
  refine a_iconst dX5_solve_20 ?_
  refine a_icmp_eq dX5_solve_21 rfl (fun _ => ?_) (fun _ => ?_)
  · refine a_aload dX5_solve_26 rfl ?_
    refine a_iload_n dX5_solve_28 rfl ?_
    refine a_putI fl_X5_53 cf_X9 rfl rfl lyC_21 rfl dX5_solve_29 (key := 1345) rfl fun σ5 => ?_
    refine a_iconst dX5_solve_32 ?_
    refine a_istore (L' := [some (.ref 85), some (vi x1), some (vi x2), some (vi x3), some (.ref 21), some (vi r1), some (vi 0)]) dX5_solve_33 rfl rfl rfl rfl ?_
    exact a_L (lsub_get (A := [some (.ref 85), none, some (vi x2), none, some (.ref 21), some (vi r1), some (vi 0)]) ⟨rfl, ⟨rfl, ⟨rfl, ⟨rfl, ⟨rfl, trivial⟩⟩⟩⟩⟩) (cl_Rows_solve_nulls_35 F F _ _ _ _)
  refine a_iconst dX5_solve_24 ?_
  exact a_zretc (by decide) dX5_solve_25
def b_W_nulled_46 (F : Nat) (k39 : St → Int → Int → Option (Int × St)) (self : St → Int → Int → Int → Option (Int × St)) (σ : St) (x1 x2 x3 : Int) : Option (Int × St) := gd (rng x3 ∧ rng (gF σ 5059)) (if (gF σ 5059) ≤ x3 then gd (inb x2 46) (gd (rng x2) (if x2 = 0 then gd (inb (gF σ 5059) 70) (bs (sA σ (103 + (Int.toNat x2)) (Int.toNat (gF σ 5059)) 1) fun σ10 => bv (x2 + 1) fun x2_11 => k39 σ10 x1 x2_11) else gd (inb (gF σ 5059) 70) (bs (sA σ (103 + (Int.toNat x2)) (Int.toNat (gF σ 5059)) 0) fun σ8 => bv (x2 + 1) fun x2_9 => k39 σ8 x1 x2_9))) else gd (inb x2 46) (gd (inb x2 940) (bnd (f_Scene_gainedWave_scene0 F σ x3 (gA σ 2 (Int.toNat x2))) fun r13 σ14 => gd (inb x3 70) (bs (sA σ14 (103 + (Int.toNat x2)) (Int.toNat x3) r13) fun σ15 => bv (x3 + 1) fun x3_16 => self σ15 x1 x2 x3_16))))
def l_W_nulled_46 (F : Nat) (k39 : St → Int → Int → Option (Int × St)) : Nat → St → Int → Int → Int → Option (Int × St)
  | 0 => fun _ _ _ _ => none
  | n + 1 => fun σ x1 x2 x3 => b_W_nulled_46 F k39 (l_W_nulled_46 F k39 n) σ x1 x2 x3
def b_W_nulled_39 (F : Nat) (self : St → Int → Int → Option (Int × St)) (σ : St) (x1 x2 : Int) : Option (Int × St) := gd (rng x2 ∧ rng x1) (if x1 ≤ x2 then bnd (f_Rows_solve_nulls F σ x1 (gF σ 5059) (gF σ 1473)) fun r5 σ6 => gd (isb r5) (some (r5, σ6)) else l_W_nulled_46 F self F σ x1 x2 0)
def l_W_nulled_39 (F : Nat) : Nat → St → Int → Int → Option (Int × St)
  | 0 => fun _ _ _ => none
  | n + 1 => fun σ x1 x2 => b_W_nulled_39 F (l_W_nulled_39 F n) σ x1 x2
def f_W_nulled (F : Nat) (σ : St) : Option (Int × St) := bv (gF σ 65) fun x1_1 => bs (sF σ 65 0) fun σ2 => gd (rng x1_1 ∧ rng 1) (if x1_1 < 1 then some (0, σ2) else gd (rng x1_1 ∧ rng 7) (if (7 : Int) < x1_1 then some (0, σ2) else bnd (f_W_unlikeDirections F σ2 x1_1) fun r3 σ4 => gd (rng r3) (if r3 = 0 then some (0, σ4) else l_W_nulled_39 F F σ4 x1_1 0)))
set_option maxRecDepth 100000 in
set_option maxHeartbeats 4000000 in
theorem cb_W_nulled_46 {K : KX} {x : Bool} (F : Nat) (k39 : St → Int → Int → Option (Int × St)) (h39 : ∀ σ x1 x2, WA 5 1 1 cX10_nulled RX10 4 (some .boolean) (LYC x false false) (LYC x false false) K 39 [some (.ref 0), some (vi x1), some (vi x2), none] [] σ (k39 σ x1 x2)) (self : St → Int → Int → Int → Option (Int × St)) (hself : ∀ σ x1 x2 x3, WA 5 1 1 cX10_nulled RX10 4 (some .boolean) (LYC x false false) (LYC x false false) K 46 [some (.ref 0), some (vi x1), some (vi x2), some (vi x3)] [] σ (self σ x1 x2 x3)) (σ : St) (x1 x2 x3 : Int) : WA 5 1 1 cX10_nulled RX10 4 (some .boolean) (LYC x false false) (LYC x false false) K 46 [some (.ref 0), some (vi x1), some (vi x2), some (vi x3)] [] σ (b_W_nulled_46 F k39 self σ x1 x2 x3) := by
  unfold b_W_nulled_46
  refine a_iload_n dX10_nulled_46 rfl ?_
  refine a_aload_n dX10_nulled_47 rfl ?_
  refine a_getR (c0 := 79) fl_X10_26 lyC_0 rfl dX10_nulled_48 (key := 2) rfl ?_
  refine a_getI fl_X10_172 lyC_79 rfl dX10_nulled_51 (key := 5059) rfl ?_
  refine a_icmp_ge dX10_nulled_54 rfl (fun _ => ?_) (fun _ => ?_)
  · refine a_aload_n dX10_nulled_91 rfl ?_
    refine a_getR (c0 := 85) fl_X10_44 lyC_0 rfl dX10_nulled_92 (key := 6) rfl ?_
    refine a_getR (c0 := 86) fl_X10_188 lyC_85 rfl dX10_nulled_95 (key := 5440) rfl ?_
    refine a_iload_n dX10_nulled_98 rfl ?_
    refine a_aaldI lyC_86 rfl dX10_nulled_99 fun hi7 => ?_
    refine a_aload_n dX10_nulled_100 rfl ?_
    refine a_getR (c0 := 79) fl_X10_26 lyC_0 rfl dX10_nulled_101 (key := 2) rfl ?_
    refine a_getI fl_X10_172 lyC_79 rfl dX10_nulled_104 (key := 5059) rfl ?_
    refine a_iload_n dX10_nulled_107 rfl ?_
    refine a_if_ne dX10_nulled_108 rfl (fun _ => ?_) (fun _ => ?_)
    · refine a_iconst dX10_nulled_115 ?_
      refine a_iast (lyC_r _ (ix_lt hi7)) rfl dX10_nulled_116 fun σ8 => ?_
      refine a_bv fun x2_9 ex2_9 => ?_
      refine a_iinc (y := x2_9) (L' := [some (.ref 0), some (vi x1), some (vi x2_9), some (vi x3)]) dX10_nulled_117 rfl ex2_9 rfl rfl rfl ?_
      refine a_goto dX10_nulled_120 rfl ?_
      exact a_L (lsub_get (A := [some (.ref 0), some (vi x1), some (vi x2_9), none]) ⟨rfl, ⟨rfl, ⟨rfl, trivial⟩⟩⟩) (h39 _ _ _)
    refine a_iconst dX10_nulled_111 ?_
    refine a_goto dX10_nulled_112 rfl ?_
    refine a_iast (lyC_r _ (ix_lt hi7)) rfl dX10_nulled_116 fun σ10 => ?_
    refine a_bv fun x2_11 ex2_11 => ?_
    refine a_iinc (y := x2_11) (L' := [some (.ref 0), some (vi x1), some (vi x2_11), some (vi x3)]) dX10_nulled_117 rfl ex2_11 rfl rfl rfl ?_
    refine a_goto dX10_nulled_120 rfl ?_
    exact a_L (lsub_get (A := [some (.ref 0), some (vi x1), some (vi x2_11), none]) ⟨rfl, ⟨rfl, ⟨rfl, trivial⟩⟩⟩) (h39 _ _ _)
  refine a_aload_n dX10_nulled_57 rfl ?_
  refine a_getR (c0 := 85) fl_X10_44 lyC_0 rfl dX10_nulled_58 (key := 6) rfl ?_
  refine a_getR (c0 := 86) fl_X10_188 lyC_85 rfl dX10_nulled_61 (key := 5440) rfl ?_
  refine a_iload_n dX10_nulled_64 rfl ?_
  refine a_aaldI lyC_86 rfl dX10_nulled_65 fun hi12 => ?_
  refine a_iload_n dX10_nulled_66 rfl ?_
  refine a_aload_n dX10_nulled_67 rfl ?_
  refine a_getR (c0 := 79) fl_X10_26 lyC_0 rfl dX10_nulled_68 (key := 2) rfl ?_
  refine a_iload_n dX10_nulled_71 rfl ?_
  refine a_aload_n dX10_nulled_72 rfl ?_
  refine a_getR (c0 := 1) fl_X10_10 lyC_0 rfl dX10_nulled_73 (key := 0) rfl ?_
  refine a_getR (c0 := 2) fl_X10_306 lyC_1 rfl dX10_nulled_76 (key := 64) rfl ?_
  refine a_iload_n dX10_nulled_79 rfl ?_
  refine a_iald lyC_2 rfl dX10_nulled_80 ?_
  refine a_callVi (as := [vi x3, vi (gA σ 2 (Int.toNat x2))]) mf_X10_192 lyC_79 rfl (c_Scene_gainedWave_scene0 F _ _ _) LYsame.rf dX10_nulled_81 rfl rfl rfl rfl rfl rfl (Or.inl rfl) fun r13 σ14 => ?_
  refine a_iast (lyC_r _ (ix_lt hi12)) rfl dX10_nulled_84 fun σ15 => ?_
  refine a_bv fun x3_16 ex3_16 => ?_
  refine a_iinc (y := x3_16) (L' := [some (.ref 0), some (vi x1), some (vi x2), some (vi x3_16)]) dX10_nulled_85 rfl ex3_16 rfl rfl rfl ?_
  refine a_goto dX10_nulled_88 rfl ?_
  exact hself _ _ _ _
set_option maxRecDepth 100000 in
set_option maxHeartbeats 4000000 in
theorem cl_W_nulled_46 {K : KX} {x : Bool} (F : Nat) (k39 : St → Int → Int → Option (Int × St)) (h39 : ∀ σ x1 x2, WA 5 1 1 cX10_nulled RX10 4 (some .boolean) (LYC x false false) (LYC x false false) K 39 [some (.ref 0), some (vi x1), some (vi x2), none] [] σ (k39 σ x1 x2)) : ∀ (n : Nat) (σ : St) (x1 x2 x3 : Int), WA 5 1 1 cX10_nulled RX10 4 (some .boolean) (LYC x false false) (LYC x false false) K 46 [some (.ref 0), some (vi x1), some (vi x2), some (vi x3)] [] σ (l_W_nulled_46 F k39 n σ x1 x2 x3)
  | 0, _, _, _, _ => a_none
  | n + 1, σ, x1, x2, x3 => cb_W_nulled_46 F k39 h39 _ (cl_W_nulled_46 F k39 h39 n) σ x1 x2 x3
set_option maxRecDepth 100000 in
set_option maxHeartbeats 4000000 in
theorem cb_W_nulled_39 {K : KX} {x : Bool} (F : Nat) (self : St → Int → Int → Option (Int × St)) (hself : ∀ σ x1 x2, WA 5 1 1 cX10_nulled RX10 4 (some .boolean) (LYC x false false) (LYC x false false) K 39 [some (.ref 0), some (vi x1), some (vi x2), none] [] σ (self σ x1 x2)) (σ : St) (x1 x2 : Int) : WA 5 1 1 cX10_nulled RX10 4 (some .boolean) (LYC x false false) (LYC x false false) K 39 [some (.ref 0), some (vi x1), some (vi x2), none] [] σ (b_W_nulled_39 F self σ x1 x2) := by
  unfold b_W_nulled_39
  refine a_iload_n dX10_nulled_39 rfl ?_
  refine a_iload_n dX10_nulled_40 rfl ?_
  refine a_icmp_ge dX10_nulled_41 rfl (fun _ => ?_) (fun _ => ?_)
  · refine a_aload_n dX10_nulled_123 rfl ?_
    refine a_getR (c0 := 85) fl_X10_44 lyC_0 rfl dX10_nulled_124 (key := 6) rfl ?_
    refine a_iload_n dX10_nulled_127 rfl ?_
    refine a_aload_n dX10_nulled_128 rfl ?_
    refine a_getR (c0 := 79) fl_X10_26 lyC_0 rfl dX10_nulled_129 (key := 2) rfl ?_
    refine a_getI fl_X10_172 lyC_79 rfl dX10_nulled_132 (key := 5059) rfl ?_
    refine a_aload_n dX10_nulled_135 rfl ?_
    refine a_getR (c0 := 79) fl_X10_26 lyC_0 rfl dX10_nulled_136 (key := 2) rfl ?_
    refine a_getR (c0 := 23) fl_X10_153 lyC_79 rfl dX10_nulled_139 (key := 5056) rfl ?_
    refine a_getI fl_X10_178 lyC_23 rfl dX10_nulled_142 (key := 1473) rfl ?_
    refine a_aload_n dX10_nulled_145 rfl ?_
    refine a_getR (c0 := 21) fl_X10_98 lyC_0 rfl dX10_nulled_146 (key := 17) rfl ?_
    refine a_callVi (as := [vi x1, vi (gF σ 5059), vi (gF σ 1473), .ref 21]) mf_X10_309 lyC_85 rfl (c_Rows_solve_nulls F _ _ _ _) LYsame.rf dX10_nulled_149 rfl rfl rfl rfl rfl rfl (Or.inr rfl) fun r5 σ6 => ?_
    exact a_zret dX10_nulled_152
  refine a_iconst dX10_nulled_44 ?_
  refine a_istore_n (L' := [some (.ref 0), some (vi x1), some (vi x2), some (vi 0)]) dX10_nulled_45 rfl rfl rfl rfl ?_
  exact cl_W_nulled_46 F _ hself F _ _ _ _
set_option maxRecDepth 100000 in
set_option maxHeartbeats 4000000 in
theorem cl_W_nulled_39 {K : KX} {x : Bool} (F : Nat) : ∀ (n : Nat) (σ : St) (x1 x2 : Int), WA 5 1 1 cX10_nulled RX10 4 (some .boolean) (LYC x false false) (LYC x false false) K 39 [some (.ref 0), some (vi x1), some (vi x2), none] [] σ (l_W_nulled_39 F n σ x1 x2)
  | 0, _, _, _ => a_none
  | n + 1, σ, x1, x2 => cb_W_nulled_39 F _ (cl_W_nulled_39 F n) σ x1 x2
set_option maxRecDepth 100000 in
set_option maxHeartbeats 4000000 in
theorem c_W_nulled {x : Bool} (F : Nat) (σ : St) : Ct 5 1 1 yX10_nulled cX10_nulled 4 (some .boolean) (LYC x false false) (LYC x false false) [.ref 0] σ (f_W_nulled F σ) := by
  unfold f_W_nulled
  refine Ct_of (d := 5) (kp := 1) (kd := 1) (own := RX10) (nL := 4) (ret := (some .boolean)) (LY := (LYC x false false)) (LYe := (LYC x false false)) (L := [some (.ref 0), none, none, none]) rfl (by decide +kernel) rfl rfl mf_L_160.2.2.2.1 rfl fun K => ?_
  refine a_aload_n dX10_nulled_0 rfl ?_
  refine a_getR (c0 := 1) fl_X10_10 lyC_0 rfl dX10_nulled_1 (key := 0) rfl ?_
  refine a_getI fl_X10_108 lyC_1 rfl dX10_nulled_4 (key := 65) rfl ?_
  refine a_bv fun x1_1 ex1_1 => ?_
  refine a_istore_n (y := x1_1) (L' := [some (.ref 0), some (vi x1_1), none, none]) dX10_nulled_7 ex1_1 rfl rfl rfl ?_
  refine a_aload_n dX10_nulled_8 rfl ?_
  refine a_getR (c0 := 1) fl_X10_10 lyC_0 rfl dX10_nulled_9 (key := 0) rfl ?_
  refine a_iconst dX10_nulled_12 ?_
  refine a_putI fl_X10_108 cf_X8 rfl rfl lyC_1 rfl dX10_nulled_13 (key := 65) rfl fun σ2 => ?_
  refine a_iload_n dX10_nulled_16 rfl ?_
  refine a_iconst dX10_nulled_17 ?_
  refine a_icmp_lt dX10_nulled_18 rfl (fun _ => ?_) (fun _ => ?_)
  · refine a_iconst dX10_nulled_35 ?_
    exact a_zretc (by decide) dX10_nulled_36
  refine a_iload_n dX10_nulled_21 rfl ?_
  refine a_bipush dX10_nulled_22 bi_7 ?_
  refine a_icmp_gt dX10_nulled_24 rfl (fun _ => ?_) (fun _ => ?_)
  · refine a_iconst dX10_nulled_35 ?_
    exact a_zretc (by decide) dX10_nulled_36
  refine a_aload_n dX10_nulled_27 rfl ?_
  refine a_iload_n dX10_nulled_28 rfl ?_
  refine a_callVi (as := [vi x1_1]) mf_X10_303 lyC_0 rfl (c_W_unlikeDirections F _ _) LYsame.rf dX10_nulled_29 rfl rfl rfl rfl rfl rfl (Or.inl rfl) fun r3 σ4 => ?_
  refine a_if_ne dX10_nulled_32 rfl (fun _ => ?_) (fun _ => ?_)
  · refine a_iconst dX10_nulled_37 ?_
    refine a_istore_n (L' := [some (.ref 0), some (vi x1_1), some (vi 0), none]) dX10_nulled_38 rfl rfl rfl rfl ?_
    exact cl_W_nulled_39 F F _ _ _
  refine a_iconst dX10_nulled_35 ?_
  exact a_zretc (by decide) dX10_nulled_36
def f_Told_at_nulls (F : Nat) (σ : St) (x1 : Int) : Option (Int × St) := gd (rng x1) (if x1 < 0 then some ((-1), σ) else gd (rng x1 ∧ rng (gF σ 1345)) (if (gF σ 1345) ≤ x1 then some ((-1), σ) else gd (rng x1 ∧ rng 10) (if (10 : Int) ≤ x1 then some ((-1), σ) else gd (inb x1 10) (some ((gA σ 22 (Int.toNat x1)), σ)))))
set_option maxRecDepth 100000 in
set_option maxHeartbeats 4000000 in
theorem c_Told_at_nulls {x : Bool} (F : Nat) (σ : St) (x1 : Int) : Ct 1 0 1 yX9_at cX9_at 2 (some .int) (LYC x false false) (LYC x false false) [.ref 21, vi x1] σ (f_Told_at_nulls F σ x1) := by
  unfold f_Told_at_nulls
  refine Ct_of (d := 1) (kp := 0) (kd := 1) (own := RX9) (nL := 2) (ret := (some .int)) (LY := (LYC x false false)) (LYe := (LYC x false false)) (L := [some (.ref 21), some (vi x1)]) rfl (by decide +kernel) rfl rfl mf_X10_234.2.2.2.1 rfl fun K => ?_
  refine a_iload_n dX9_at_0 rfl ?_
  refine a_if_lt dX9_at_1 rfl (fun _ => ?_) (fun _ => ?_)
  · refine a_iconst dX9_at_30 ?_
    exact a_iret dX9_at_31
  refine a_iload_n dX9_at_4 rfl ?_
  refine a_aload_n dX9_at_5 rfl ?_
  refine a_getI fl_X9_15 lyC_21 rfl dX9_at_6 (key := 1345) rfl ?_
  refine a_icmp_ge dX9_at_9 rfl (fun _ => ?_) (fun _ => ?_)
  · refine a_iconst dX9_at_30 ?_
    exact a_iret dX9_at_31
  refine a_iload_n dX9_at_12 rfl ?_
  refine a_aload_n dX9_at_13 rfl ?_
  refine a_getR (c0 := 22) fl_X9_9 lyC_21 rfl dX9_at_14 (key := 1344) rfl ?_
  refine a_alen lyC_22 dX9_at_17 ?_
  refine a_icmp_ge dX9_at_18 rfl (fun _ => ?_) (fun _ => ?_)
  · refine a_iconst dX9_at_30 ?_
    exact a_iret dX9_at_31
  refine a_aload_n dX9_at_21 rfl ?_
  refine a_getR (c0 := 22) fl_X9_9 lyC_21 rfl dX9_at_22 (key := 1344) rfl ?_
  refine a_iload_n dX9_at_25 rfl ?_
  refine a_iald lyC_22 rfl dX9_at_26 ?_
  refine a_goto dX9_at_27 rfl ?_
  exact a_iret dX9_at_31
def f_W_number (F : Nat) (σ : St) (x1 : Int) : Option (Int × St) := bnd (f_Told_at_nulls F σ x1) fun r1 σ2 => some (r1, σ2)
set_option maxRecDepth 100000 in
set_option maxHeartbeats 4000000 in
theorem c_W_number {x : Bool} (F : Nat) (σ : St) (x1 : Int) : Ct 2 0 1 yX10_number cX10_number 2 (some .int) (LYC x false false) (LYC x false false) [.ref 0, vi x1] σ (f_W_number F σ x1) := by
  unfold f_W_number
  refine Ct_of (d := 2) (kp := 0) (kd := 1) (own := RX10) (nL := 2) (ret := (some .int)) (LY := (LYC x false false)) (LYe := (LYC x false false)) (L := [some (.ref 0), some (vi x1)]) rfl (by decide +kernel) rfl rfl mf_L_165.2.2.2.1 rfl fun K => ?_
  refine a_aload_n dX10_number_0 rfl ?_
  refine a_getR (c0 := 21) fl_X10_98 lyC_0 rfl dX10_number_1 (key := 17) rfl ?_
  refine a_iload_n dX10_number_4 rfl ?_
  refine a_callVi (as := [vi x1]) mf_X10_234 lyC_21 rfl (c_Told_at_nulls F _ _) LYsame.rf dX10_number_5 rfl rfl rfl rfl rfl rfl (Or.inl rfl) fun r1 σ2 => ?_
  exact a_iret dX10_number_8
def b_W_comes_59 (F : Nat) (self : St → Int → Int → Int → Int → Option (Int × St)) (σ : St) (x1 x2 x3 x4 : Int) : Option (Int × St) := gd (rng x4 ∧ rng (gF σ 5059)) (if (gF σ 5059) ≤ x4 then some (x3, σ) else gd (inb x4 10) (bnd (f_Scene_gainedWave_scene0 F σ x4 x1) fun r4 σ5 => bnd (f_W_product F σ5 (gA σ 22 (Int.toNat x4)) r4 x2) fun r6 σ7 => gd (rng (x3 + r6) ∧ rng x2 ∧ x2 ≠ (0 : Int)) (bv (Int.tmod (x3 + r6) x2) fun x3_8 => bv (x4 + 1) fun x4_9 => self σ7 x1 x2 x3_8 x4_9)))
def l_W_comes_59 (F : Nat) : Nat → St → Int → Int → Int → Int → Option (Int × St)
  | 0 => fun _ _ _ _ _ => none
  | n + 1 => fun σ x1 x2 x3 x4 => b_W_comes_59 F (l_W_comes_59 F n) σ x1 x2 x3 x4
def f_W_comes (F : Nat) (σ : St) (x1 : Int) : Option (Int × St) := bnd (f_Lattice_has_lattice0 F σ x1) fun r1 σ2 => gd (rng r1) (if r1 = 0 then some ((-1), σ2) else gd (rng (gF σ2 1345)) (if (gF σ2 1345) = 0 then some ((-1), σ2) else gd (rng (gF σ2 1345) ∧ rng (gF σ2 5059)) (if (gF σ2 1345) = (gF σ2 5059) then bv (gF σ2 1473) fun x2_3 => l_W_comes_59 F F σ2 x1 x2_3 0 0 else some ((-1), σ2))))
set_option maxRecDepth 100000 in
set_option maxHeartbeats 4000000 in
theorem cb_W_comes_59 {K : KX} {x : Bool} (F : Nat) (self : St → Int → Int → Int → Int → Option (Int × St)) (hself : ∀ σ x1 x2 x3 x4, WA 3 0 1 cX10_comes RX10 5 (some .int) (LYC x false false) (LYC x false false) K 59 [some (.ref 0), some (vi x1), some (vi x2), some (vi x3), some (vi x4)] [] σ (self σ x1 x2 x3 x4)) (σ : St) (x1 x2 x3 x4 : Int) : WA 3 0 1 cX10_comes RX10 5 (some .int) (LYC x false false) (LYC x false false) K 59 [some (.ref 0), some (vi x1), some (vi x2), some (vi x3), some (vi x4)] [] σ (b_W_comes_59 F self σ x1 x2 x3 x4) := by
  unfold b_W_comes_59
  refine a_iload dX10_comes_59 rfl ?_
  refine a_aload_n dX10_comes_61 rfl ?_
  refine a_getR (c0 := 79) fl_X10_26 lyC_0 rfl dX10_comes_62 (key := 2) rfl ?_
  refine a_getI fl_X10_172 lyC_79 rfl dX10_comes_65 (key := 5059) rfl ?_
  refine a_icmp_ge dX10_comes_68 rfl (fun _ => ?_) (fun _ => ?_)
  · refine a_iload_n dX10_comes_106 rfl ?_
    exact a_iret dX10_comes_107
  refine a_iload_n dX10_comes_71 rfl ?_
  refine a_aload_n dX10_comes_72 rfl ?_
  refine a_getR (c0 := 21) fl_X10_98 lyC_0 rfl dX10_comes_73 (key := 17) rfl ?_
  refine a_getR (c0 := 22) fl_X10_290 lyC_21 rfl dX10_comes_76 (key := 1344) rfl ?_
  refine a_iload dX10_comes_79 rfl ?_
  refine a_iald lyC_22 rfl dX10_comes_81 ?_
  refine a_aload_n dX10_comes_82 rfl ?_
  refine a_getR (c0 := 79) fl_X10_26 lyC_0 rfl dX10_comes_83 (key := 2) rfl ?_
  refine a_iload dX10_comes_86 rfl ?_
  refine a_iload_n dX10_comes_88 rfl ?_
  refine a_callVi (as := [vi x4, vi x1]) mf_X10_192 lyC_79 rfl (c_Scene_gainedWave_scene0 F _ _ _) LYsame.rf dX10_comes_89 rfl rfl rfl rfl rfl rfl (Or.inl rfl) fun r4 σ5 => ?_
  refine a_iload_n dX10_comes_92 rfl ?_
  refine a_callSi (as := [vi (gA σ 22 (Int.toNat x4)), vi r4, vi x2]) mf_X10_257 (c_W_product F _ _ _ _) LYsame.rf dX10_comes_93 rfl rfl rfl rfl rfl rfl (Or.inl rfl) fun r6 σ7 => ?_
  refine a_iadd dX10_comes_96 ?_
  refine a_iload_n dX10_comes_97 rfl ?_
  refine a_irem dX10_comes_98 (fun _ => ?_)
  refine a_bv fun x3_8 ex3_8 => ?_
  refine a_istore_n (y := x3_8) (L' := [some (.ref 0), some (vi x1), some (vi x2), some (vi x3_8), some (vi x4)]) dX10_comes_99 ex3_8 rfl rfl rfl ?_
  refine a_bv fun x4_9 ex4_9 => ?_
  refine a_iinc (y := x4_9) (L' := [some (.ref 0), some (vi x1), some (vi x2), some (vi x3_8), some (vi x4_9)]) dX10_comes_100 rfl ex4_9 rfl rfl rfl ?_
  refine a_goto dX10_comes_103 rfl ?_
  exact hself _ _ _ _ _
set_option maxRecDepth 100000 in
set_option maxHeartbeats 4000000 in
theorem cl_W_comes_59 {K : KX} {x : Bool} (F : Nat) : ∀ (n : Nat) (σ : St) (x1 x2 x3 x4 : Int), WA 3 0 1 cX10_comes RX10 5 (some .int) (LYC x false false) (LYC x false false) K 59 [some (.ref 0), some (vi x1), some (vi x2), some (vi x3), some (vi x4)] [] σ (l_W_comes_59 F n σ x1 x2 x3 x4)
  | 0, _, _, _, _, _ => a_none
  | n + 1, σ, x1, x2, x3, x4 => cb_W_comes_59 F _ (cl_W_comes_59 F n) σ x1 x2 x3 x4
set_option maxRecDepth 100000 in
set_option maxHeartbeats 4000000 in
theorem c_W_comes {x : Bool} (F : Nat) (σ : St) (x1 : Int) : Ct 3 0 1 yX10_comes cX10_comes 5 (some .int) (LYC x false false) (LYC x false false) [.ref 0, vi x1] σ (f_W_comes F σ x1) := by
  unfold f_W_comes
  refine Ct_of (d := 3) (kp := 0) (kd := 1) (own := RX10) (nL := 5) (ret := (some .int)) (LY := (LYC x false false)) (LYe := (LYC x false false)) (L := [some (.ref 0), some (vi x1), none, none, none]) rfl (by decide +kernel) rfl rfl mf_L_169.2.2.2.1 rfl fun K => ?_
  refine a_aload_n dX10_comes_0 rfl ?_
  refine a_getR (c0 := 79) fl_X10_26 lyC_0 rfl dX10_comes_1 (key := 2) rfl ?_
  refine a_getR (c0 := 23) fl_X10_153 lyC_79 rfl dX10_comes_4 (key := 5056) rfl ?_
  refine a_iload_n dX10_comes_7 rfl ?_
  refine a_callVi (as := [vi x1]) mf_X10_157 lyC_23 rfl (c_Lattice_has_lattice0 F _ _) LYsame.rf dX10_comes_8 rfl rfl rfl rfl rfl rfl (Or.inl rfl) fun r1 σ2 => ?_
  refine a_if_eq dX10_comes_11 rfl (fun _ => ?_) (fun _ => ?_)
  · refine a_iconst dX10_comes_41 ?_
    exact a_iret dX10_comes_42
  refine a_aload_n dX10_comes_14 rfl ?_
  refine a_getR (c0 := 21) fl_X10_98 lyC_0 rfl dX10_comes_15 (key := 17) rfl ?_
  refine a_getI fl_X10_231 lyC_21 rfl dX10_comes_18 (key := 1345) rfl ?_
  refine a_if_eq dX10_comes_21 rfl (fun _ => ?_) (fun _ => ?_)
  · refine a_iconst dX10_comes_41 ?_
    exact a_iret dX10_comes_42
  refine a_aload_n dX10_comes_24 rfl ?_
  refine a_getR (c0 := 21) fl_X10_98 lyC_0 rfl dX10_comes_25 (key := 17) rfl ?_
  refine a_getI fl_X10_231 lyC_21 rfl dX10_comes_28 (key := 1345) rfl ?_
  refine a_aload_n dX10_comes_31 rfl ?_
  refine a_getR (c0 := 79) fl_X10_26 lyC_0 rfl dX10_comes_32 (key := 2) rfl ?_
  refine a_getI fl_X10_172 lyC_79 rfl dX10_comes_35 (key := 5059) rfl ?_
  refine a_icmp_eq dX10_comes_38 rfl (fun _ => ?_) (fun _ => ?_)
  · refine a_aload_n dX10_comes_43 rfl ?_
    refine a_getR (c0 := 79) fl_X10_26 lyC_0 rfl dX10_comes_44 (key := 2) rfl ?_
    refine a_getR (c0 := 23) fl_X10_153 lyC_79 rfl dX10_comes_47 (key := 5056) rfl ?_
    refine a_getI fl_X10_178 lyC_23 rfl dX10_comes_50 (key := 1473) rfl ?_
    refine a_bv fun x2_3 ex2_3 => ?_
    refine a_istore_n (y := x2_3) (L' := [some (.ref 0), some (vi x1), some (vi x2_3), none, none]) dX10_comes_53 ex2_3 rfl rfl rfl ?_
    refine a_iconst dX10_comes_54 ?_
    refine a_istore_n (L' := [some (.ref 0), some (vi x1), some (vi x2_3), some (vi 0), none]) dX10_comes_55 rfl rfl rfl rfl ?_
    refine a_iconst dX10_comes_56 ?_
    refine a_istore (L' := [some (.ref 0), some (vi x1), some (vi x2_3), some (vi 0), some (vi 0)]) dX10_comes_57 rfl rfl rfl rfl ?_
    exact cl_W_comes_59 F F _ _ _ _ _
  refine a_iconst dX10_comes_41 ?_
  exact a_iret dX10_comes_42
