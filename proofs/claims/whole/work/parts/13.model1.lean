def f_M_thrown (F : Nat) (σ : St) : Option (Int × St) := some ((gF σ 0), σ)
set_option maxRecDepth 100000 in
set_option maxHeartbeats 4000000 in
theorem c_M_thrown (F : Nat) (σ : St) : Ct 1 0 1 yX11_thrown cX11_thrown 1 (some .int) LYM LYM [.ref 0] σ (f_M_thrown F σ) := by
  unfold f_M_thrown
  refine Ct_of (d := 1) (kp := 0) (kd := 1) (own := RX11) (nL := 1) (ret := (some .int)) (LY := LYM) (LYe := LYM) (L := [some (.ref 0)]) rfl (by decide +kernel) rfl rfl mf_L_51.2.2.2.1 rfl fun K => ?_
  refine a_aload_n dX11_thrown_0 rfl ?_
  refine a_getI fl_X11_1 lyM_0 rfl dX11_thrown_1 (key := 0) rfl ?_
  exact a_iret dX11_thrown_4
def f_M_throwsIf (F : Nat) (σ : St) (x1 : Int) : Option (Int × St) := gd (rng x1) (if x1 = 0 then bs (sF σ 0 0) fun σ1 => gd (isb x1) (some (x1, σ1)) else bs (sF σ 0 1) fun σ2 => gd (isb x1) (some (x1, σ2)))
set_option maxRecDepth 100000 in
set_option maxHeartbeats 4000000 in
theorem c_M_throwsIf (F : Nat) (σ : St) (x1 : Int) : Ct 1 0 1 yX11_throwsIf cX11_throwsIf 2 (some .boolean) LYM LYM [.ref 0, vi x1] σ (f_M_throwsIf F σ x1) := by
  unfold f_M_throwsIf
  refine Ct_of (d := 1) (kp := 0) (kd := 1) (own := RX11) (nL := 2) (ret := (some .boolean)) (LY := LYM) (LYe := LYM) (L := [some (.ref 0), some (vi x1)]) rfl (by decide +kernel) rfl rfl mf_X11_264.2.2.2.1 rfl fun K => ?_
  refine a_aload_n dX11_throwsIf_0 rfl ?_
  refine a_iload_n dX11_throwsIf_1 rfl ?_
  refine a_if_eq dX11_throwsIf_2 rfl (fun _ => ?_) (fun _ => ?_)
  · refine a_iconst dX11_throwsIf_9 ?_
    refine a_putI fl_X11_1 cf_X11 rfl rfl lyM_0 rfl dX11_throwsIf_10 (key := 0) rfl fun σ1 => ?_
    refine a_iload_n dX11_throwsIf_13 rfl ?_
    exact a_zret dX11_throwsIf_14
  refine a_iconst dX11_throwsIf_5 ?_
  refine a_goto dX11_throwsIf_6 rfl ?_
  refine a_putI fl_X11_1 cf_X11 rfl rfl lyM_0 rfl dX11_throwsIf_10 (key := 0) rfl fun σ2 => ?_
  refine a_iload_n dX11_throwsIf_13 rfl ?_
  exact a_zret dX11_throwsIf_14
def b_M_four_3 (F : Nat) (self : St → Int → Int → Option (Int × St)) (σ : St) (x1 x2 : Int) : Option (Int × St) := gd (rng x2) (if x2 < 0 then some (0, σ) else gd (rng x1 ∧ sh5 x2) (bv (Int.bmod (x1 / 2 ^ (Int.toNat x2)) 256) fun t1 => gd (inb (gF σ 2) 940) (bs (sA σ 1 (Int.toNat (gF σ 2)) (Int.bmod t1 256)) fun σ2 => bs (sF σ2 2 ((gF σ2 2) + 1)) fun σ3 => bv (x2 + (-8)) fun x2_4 => self σ3 x1 x2_4)))
def l_M_four_3 (F : Nat) : Nat → St → Int → Int → Option (Int × St)
  | 0 => fun _ _ _ => none
  | n + 1 => fun σ x1 x2 => b_M_four_3 F (l_M_four_3 F n) σ x1 x2
def f_M_four (F : Nat) (σ : St) (x1 : Int) : Option (Int × St) := l_M_four_3 F F σ x1 24
set_option maxRecDepth 100000 in
set_option maxHeartbeats 4000000 in
theorem cb_M_four_3 {K : KX} (F : Nat) (self : St → Int → Int → Option (Int × St)) (hself : ∀ σ x1 x2, WA 1 0 0 cX11_four RX11 3 none LYM LYM K 3 [some (.ref 0), some (vi x1), some (vi x2)] [] σ (self σ x1 x2)) (σ : St) (x1 x2 : Int) : WA 1 0 0 cX11_four RX11 3 none LYM LYM K 3 [some (.ref 0), some (vi x1), some (vi x2)] [] σ (b_M_four_3 F self σ x1 x2) := by
  unfold b_M_four_3
  refine a_iload_n dX11_four_3 rfl ?_
  refine a_if_lt dX11_four_4 rfl (fun _ => ?_) (fun _ => ?_)
  · exact a_vret dX11_four_36
  refine a_aload_n dX11_four_7 rfl ?_
  refine a_getR (c0 := 1) fl_X11_14 lyM_0 rfl dX11_four_8 (key := 1) rfl ?_
  refine a_aload_n dX11_four_11 rfl ?_
  refine a_getI fl_X11_7 lyM_0 rfl dX11_four_12 (key := 2) rfl ?_
  refine a_iload_n dX11_four_15 rfl ?_
  refine a_iload_n dX11_four_16 rfl ?_
  refine a_ishr dX11_four_17 (fun _ => ?_)
  refine a_i2b dX11_four_18 ?_
  refine a_bvi fun t1 => ?_
  refine a_bast lyM_1 rfl dX11_four_19 fun σ2 => ?_
  refine a_aload_n dX11_four_20 rfl ?_
  refine a_dup dX11_four_21 rfl ?_
  refine a_getI fl_X11_7 lyM_0 rfl dX11_four_22 (key := 2) rfl ?_
  refine a_iconst dX11_four_25 ?_
  refine a_iadd dX11_four_26 ?_
  refine a_putI fl_X11_7 cf_X11 rfl rfl lyM_0 rfl dX11_four_27 (key := 2) rfl fun σ3 => ?_
  refine a_bv fun x2_4 ex2_4 => ?_
  refine a_iinc (y := x2_4) (L' := [some (.ref 0), some (vi x1), some (vi x2_4)]) dX11_four_30 rfl ex2_4 rfl rfl rfl ?_
  refine a_goto dX11_four_33 rfl ?_
  exact hself _ _ _
set_option maxRecDepth 100000 in
set_option maxHeartbeats 4000000 in
theorem cl_M_four_3 {K : KX} (F : Nat) : ∀ (n : Nat) (σ : St) (x1 x2 : Int), WA 1 0 0 cX11_four RX11 3 none LYM LYM K 3 [some (.ref 0), some (vi x1), some (vi x2)] [] σ (l_M_four_3 F n σ x1 x2)
  | 0, _, _, _ => a_none
  | n + 1, σ, x1, x2 => cb_M_four_3 F _ (cl_M_four_3 F n) σ x1 x2
set_option maxRecDepth 100000 in
set_option maxHeartbeats 4000000 in
theorem c_M_four (F : Nat) (σ : St) (x1 : Int) : Ct 1 0 0 yX11_four cX11_four 3 none LYM LYM [.ref 0, vi x1] σ (f_M_four F σ x1) := by
  unfold f_M_four
  refine Ct_of (d := 1) (kp := 0) (kd := 0) (own := RX11) (nL := 3) (ret := none) (LY := LYM) (LYe := LYM) (L := [some (.ref 0), some (vi x1), none]) rfl (by decide +kernel) rfl rfl mf_X11_10.2.2.2.1 rfl fun K => ?_
  refine a_bipush dX11_four_0 bi_24 ?_
  refine a_istore_n (L' := [some (.ref 0), some (vi x1), some (vi 24)]) dX11_four_2 rfl rfl rfl rfl ?_
  exact cl_M_four_3 F F _ _ _
def f_M_feed (F : Nat) (σ : St) (x1 x2 x3 x4 x5 : Int) : Option (Int × St) := bs (sF σ 0 0) fun σ1 => gd (rng ((gF σ1 2) + 20) ∧ rng 940) (if ((gF σ1 2) + 20) ≤ 940 then bnd (f_M_four F σ1 x1) fun r2 σ3 => bnd (f_M_four F σ3 x2) fun r4 σ5 => bnd (f_M_four F σ5 x3) fun r6 σ7 => bnd (f_M_four F σ7 x4) fun r8 σ9 => bnd (f_M_four F σ9 x5) fun r10 σ11 => some ((gF σ11 2), σ11) else some ((-1), σ1))
set_option maxRecDepth 100000 in
set_option maxHeartbeats 4000000 in
theorem c_M_feed (F : Nat) (σ : St) (x1 x2 x3 x4 x5 : Int) : Ct 2 0 1 yX11_feed cX11_feed 6 (some .int) LYM LYM [.ref 0, vi x1, vi x2, vi x3, vi x4, vi x5] σ (f_M_feed F σ x1 x2 x3 x4 x5) := by
  unfold f_M_feed
  refine Ct_of (d := 2) (kp := 0) (kd := 1) (own := RX11) (nL := 6) (ret := (some .int)) (LY := LYM) (LYe := LYM) (L := [some (.ref 0), some (vi x1), some (vi x2), some (vi x3), some (vi x4), some (vi x5)]) rfl (by decide +kernel) rfl rfl mf_L_30.2.2.2.1 rfl fun K => ?_
  refine a_aload_n dX11_feed_0 rfl ?_
  refine a_iconst dX11_feed_1 ?_
  refine a_putI fl_X11_1 cf_X11 rfl rfl lyM_0 rfl dX11_feed_2 (key := 0) rfl fun σ1 => ?_
  refine a_aload_n dX11_feed_5 rfl ?_
  refine a_getI fl_X11_7 lyM_0 rfl dX11_feed_6 (key := 2) rfl ?_
  refine a_bipush dX11_feed_9 bi_20 ?_
  refine a_iadd dX11_feed_11 ?_
  refine a_sipush dX11_feed_12 si_940 ?_
  refine a_icmp_le dX11_feed_15 rfl (fun _ => ?_) (fun _ => ?_)
  · refine a_aload_n dX11_feed_20 rfl ?_
    refine a_iload_n dX11_feed_21 rfl ?_
    refine a_callVv (as := [vi x1]) mf_X11_10 lyM_0 rfl (c_M_four F _ _) LYsame.rf dX11_feed_22 rfl rfl rfl rfl rfl rfl (Or.inl rfl) fun r2 σ3 => ?_
    refine a_aload_n dX11_feed_25 rfl ?_
    refine a_iload_n dX11_feed_26 rfl ?_
    refine a_callVv (as := [vi x2]) mf_X11_10 lyM_0 rfl (c_M_four F _ _) LYsame.rf dX11_feed_27 rfl rfl rfl rfl rfl rfl (Or.inl rfl) fun r4 σ5 => ?_
    refine a_aload_n dX11_feed_30 rfl ?_
    refine a_iload_n dX11_feed_31 rfl ?_
    refine a_callVv (as := [vi x3]) mf_X11_10 lyM_0 rfl (c_M_four F _ _) LYsame.rf dX11_feed_32 rfl rfl rfl rfl rfl rfl (Or.inl rfl) fun r6 σ7 => ?_
    refine a_aload_n dX11_feed_35 rfl ?_
    refine a_iload dX11_feed_36 rfl ?_
    refine a_callVv (as := [vi x4]) mf_X11_10 lyM_0 rfl (c_M_four F _ _) LYsame.rf dX11_feed_38 rfl rfl rfl rfl rfl rfl (Or.inl rfl) fun r8 σ9 => ?_
    refine a_aload_n dX11_feed_41 rfl ?_
    refine a_iload dX11_feed_42 rfl ?_
    refine a_callVv (as := [vi x5]) mf_X11_10 lyM_0 rfl (c_M_four F _ _) LYsame.rf dX11_feed_44 rfl rfl rfl rfl rfl rfl (Or.inl rfl) fun r10 σ11 => ?_
    refine a_aload_n dX11_feed_47 rfl ?_
    refine a_getI fl_X11_7 lyM_0 rfl dX11_feed_48 (key := 2) rfl ?_
    exact a_iret dX11_feed_51
  refine a_iconst dX11_feed_18 ?_
  exact a_iret dX11_feed_19
def f_M_end (F : Nat) (σ : St) (x1 : Int) : Option (Int × St) := bs (sF σ 0 0) fun σ1 => gd (rng x1) (if x1 < 0 then some (0, σ1) else gd (rng x1 ∧ rng (gF σ1 2)) (if x1 ≤ (gF σ1 2) then bs (sF σ1 2 x1) fun σ2 => some (1, σ2) else some (0, σ1)))
set_option maxRecDepth 100000 in
set_option maxHeartbeats 4000000 in
theorem c_M_end (F : Nat) (σ : St) (x1 : Int) : Ct 1 0 1 yX11_end cX11_end 2 (some .boolean) LYM LYM [.ref 0, vi x1] σ (f_M_end F σ x1) := by
  unfold f_M_end
  refine Ct_of (d := 1) (kp := 0) (kd := 1) (own := RX11) (nL := 2) (ret := (some .boolean)) (LY := LYM) (LYe := LYM) (L := [some (.ref 0), some (vi x1)]) rfl (by decide +kernel) rfl rfl mf_L_35.2.2.2.1 rfl fun K => ?_
  refine a_aload_n dX11_end_0 rfl ?_
  refine a_iconst dX11_end_1 ?_
  refine a_putI fl_X11_1 cf_X11 rfl rfl lyM_0 rfl dX11_end_2 (key := 0) rfl fun σ1 => ?_
  refine a_iload_n dX11_end_5 rfl ?_
  refine a_if_lt dX11_end_6 rfl (fun _ => ?_) (fun _ => ?_)
  · refine a_iconst dX11_end_17 ?_
    exact a_zretc (by decide) dX11_end_18
  refine a_iload_n dX11_end_9 rfl ?_
  refine a_aload_n dX11_end_10 rfl ?_
  refine a_getI fl_X11_7 lyM_0 rfl dX11_end_11 (key := 2) rfl ?_
  refine a_icmp_le dX11_end_14 rfl (fun _ => ?_) (fun _ => ?_)
  · refine a_aload_n dX11_end_19 rfl ?_
    refine a_iload_n dX11_end_20 rfl ?_
    refine a_putI fl_X11_7 cf_X11 rfl rfl lyM_0 rfl dX11_end_21 (key := 2) rfl fun σ2 => ?_
    refine a_iconst dX11_end_24 ?_
    exact a_zretc (by decide) dX11_end_25
  refine a_iconst dX11_end_17 ?_
  exact a_zretc (by decide) dX11_end_18
def f_M_taken (F : Nat) (σ : St) (x1 : Int) : Option (Int × St) := bs (sF σ 3 (gF σ 2)) fun σ1 => bs (sF σ1 2 0) fun σ2 => bs (sF σ2 4 0) fun σ3 => bs (sF σ3 5 x1) fun σ4 => some (0, σ4)
set_option maxRecDepth 100000 in
set_option maxHeartbeats 4000000 in
theorem c_M_taken (F : Nat) (σ : St) (x1 : Int) : Ct 1 0 0 yX11_taken cX11_taken 2 none LYM LYM [.ref 0, vi x1] σ (f_M_taken F σ x1) := by
  unfold f_M_taken
  refine Ct_of (d := 1) (kp := 0) (kd := 0) (own := RX11) (nL := 2) (ret := none) (LY := LYM) (LYe := LYM) (L := [some (.ref 0), some (vi x1)]) rfl (by decide +kernel) rfl rfl mf_X11_218.2.2.2.1 rfl fun K => ?_
  refine a_aload_n dX11_taken_0 rfl ?_
  refine a_aload_n dX11_taken_1 rfl ?_
  refine a_getI fl_X11_7 lyM_0 rfl dX11_taken_2 (key := 2) rfl ?_
  refine a_putI fl_X11_18 cf_X11 rfl rfl lyM_0 rfl dX11_taken_5 (key := 3) rfl fun σ1 => ?_
  refine a_aload_n dX11_taken_8 rfl ?_
  refine a_iconst dX11_taken_9 ?_
  refine a_putI fl_X11_7 cf_X11 rfl rfl lyM_0 rfl dX11_taken_10 (key := 2) rfl fun σ2 => ?_
  refine a_aload_n dX11_taken_13 rfl ?_
  refine a_iconst dX11_taken_14 ?_
  refine a_putI fl_X11_21 cf_X11 rfl rfl lyM_0 rfl dX11_taken_15 (key := 4) rfl fun σ3 => ?_
  refine a_aload_n dX11_taken_18 rfl ?_
  refine a_iload_n dX11_taken_19 rfl ?_
  refine a_putI fl_X11_24 cf_X11 rfl rfl lyM_0 rfl dX11_taken_20 (key := 5) rfl fun σ4 => ?_
  exact a_vret dX11_taken_23
def f_M_isIn (F : Nat) (σ : St) (x0 x1 x2 : Int) : Option (Int × St) := gd (rng x0 ∧ rng x1) (if x0 < x1 then some (0, σ) else gd (rng x0 ∧ rng x2) (if x2 < x0 then some (0, σ) else some (1, σ)))
set_option maxRecDepth 100000 in
set_option maxHeartbeats 4000000 in
theorem c_M_isIn (F : Nat) (σ : St) (x0 x1 x2 : Int) : Ct 1 0 1 yX11_isIn cX11_isIn 3 (some .boolean) LYM LYM [vi x0, vi x1, vi x2] σ (f_M_isIn F σ x0 x1 x2) := by
  unfold f_M_isIn
  refine Ct_of (d := 1) (kp := 0) (kd := 1) (own := RX11) (nL := 3) (ret := (some .boolean)) (LY := LYM) (LYe := LYM) (L := [some (vi x0), some (vi x1), some (vi x2)]) rfl (by decide +kernel) rfl rfl mf_X11_175.2.2.2.1 rfl fun K => ?_
  refine a_iload_n dX11_isIn_0 rfl ?_
  refine a_iload_n dX11_isIn_1 rfl ?_
  refine a_icmp_lt dX11_isIn_2 rfl (fun _ => ?_) (fun _ => ?_)
  · refine a_iconst dX11_isIn_14 ?_
    exact a_zretc (by decide) dX11_isIn_15
  refine a_iload_n dX11_isIn_5 rfl ?_
  refine a_iload_n dX11_isIn_6 rfl ?_
  refine a_icmp_gt dX11_isIn_7 rfl (fun _ => ?_) (fun _ => ?_)
  · refine a_iconst dX11_isIn_14 ?_
    exact a_zretc (by decide) dX11_isIn_15
  refine a_iconst dX11_isIn_10 ?_
  refine a_goto dX11_isIn_11 rfl ?_
  exact a_zretc (by decide) dX11_isIn_15
def f_M_has (F : Nat) (σ : St) (x0 x1 : Int) : Option (Int × St) := gd (rng x0 ∧ sh5 x1) (bv (iandI (x0 / 2 ^ (Int.toNat x1)) 1) fun t1 => gd (rng t1 ∧ rng 1) (if t1 = 1 then some (1, σ) else some (0, σ)))
set_option maxRecDepth 100000 in
set_option maxHeartbeats 4000000 in
theorem c_M_has (F : Nat) (σ : St) (x0 x1 : Int) : Ct 1 0 1 yX11_has cX11_has 2 (some .boolean) LYM LYM [vi x0, vi x1] σ (f_M_has F σ x0 x1) := by
  unfold f_M_has
  refine Ct_of (d := 1) (kp := 0) (kd := 1) (own := RX11) (nL := 2) (ret := (some .boolean)) (LY := LYM) (LYe := LYM) (L := [some (vi x0), some (vi x1)]) rfl (by decide +kernel) rfl rfl mf_X11_294.2.2.2.1 rfl fun K => ?_
  refine a_iload_n dX11_has_0 rfl ?_
  refine a_iload_n dX11_has_1 rfl ?_
  refine a_ishr dX11_has_2 (fun _ => ?_)
  refine a_iconst dX11_has_3 ?_
  refine a_iand dX11_has_4 ?_
  refine a_bvi fun t1 => ?_
  refine a_iconst dX11_has_5 ?_
  refine a_icmp_ne dX11_has_6 rfl (fun _ => ?_) (fun _ => ?_)
  · refine a_iconst dX11_has_13 ?_
    exact a_zretc (by decide) dX11_has_14
  refine a_iconst dX11_has_9 ?_
  refine a_goto dX11_has_10 rfl ?_
  exact a_zretc (by decide) dX11_has_14
def b_M_bits_4 (F : Nat) (self : St → Int → Int → Option (Int × St)) (σ : St) (x1 x2 : Int) : Option (Int × St) := gd (rng x2) (if x2 = 0 then some (x1, σ) else bv (x1 + 1) fun x1_1 => bv (iandI x2 (x2 - 1)) fun x2_2 => self σ x1_1 x2_2)
def l_M_bits_4 (F : Nat) : Nat → St → Int → Int → Option (Int × St)
  | 0 => fun _ _ _ => none
  | n + 1 => fun σ x1 x2 => b_M_bits_4 F (l_M_bits_4 F n) σ x1 x2
def f_M_bits (F : Nat) (σ : St) (x0 : Int) : Option (Int × St) := l_M_bits_4 F F σ 0 x0
set_option maxRecDepth 100000 in
set_option maxHeartbeats 4000000 in
theorem cb_M_bits_4 {K : KX} (F : Nat) (self : St → Int → Int → Option (Int × St)) (hself : ∀ σ x1 x2, WA 1 0 1 cX11_bits RX11 3 (some .int) LYM LYM K 4 [none, some (vi x1), some (vi x2)] [] σ (self σ x1 x2)) (σ : St) (x1 x2 : Int) : WA 1 0 1 cX11_bits RX11 3 (some .int) LYM LYM K 4 [none, some (vi x1), some (vi x2)] [] σ (b_M_bits_4 F self σ x1 x2) := by
  unfold b_M_bits_4
  refine a_iload_n dX11_bits_4 rfl ?_
  refine a_if_eq dX11_bits_5 rfl (fun _ => ?_) (fun _ => ?_)
  · refine a_iload_n dX11_bits_20 rfl ?_
    exact a_iret dX11_bits_21
  refine a_bv fun x1_1 ex1_1 => ?_
  refine a_iinc (y := x1_1) (L' := [none, some (vi x1_1), some (vi x2)]) dX11_bits_8 rfl ex1_1 rfl rfl rfl ?_
  refine a_iload_n dX11_bits_11 rfl ?_
  refine a_iload_n dX11_bits_12 rfl ?_
  refine a_iconst dX11_bits_13 ?_
  refine a_isub dX11_bits_14 ?_
  refine a_iand dX11_bits_15 ?_
  refine a_bv fun x2_2 ex2_2 => ?_
  refine a_istore_n (y := x2_2) (L' := [none, some (vi x1_1), some (vi x2_2)]) dX11_bits_16 ex2_2 rfl rfl rfl ?_
  refine a_goto dX11_bits_17 rfl ?_
  exact hself _ _ _
set_option maxRecDepth 100000 in
set_option maxHeartbeats 4000000 in
theorem cl_M_bits_4 {K : KX} (F : Nat) : ∀ (n : Nat) (σ : St) (x1 x2 : Int), WA 1 0 1 cX11_bits RX11 3 (some .int) LYM LYM K 4 [none, some (vi x1), some (vi x2)] [] σ (l_M_bits_4 F n σ x1 x2)
  | 0, _, _, _ => a_none
  | n + 1, σ, x1, x2 => cb_M_bits_4 F _ (cl_M_bits_4 F n) σ x1 x2
set_option maxRecDepth 100000 in
set_option maxHeartbeats 4000000 in
theorem c_M_bits (F : Nat) (σ : St) (x0 : Int) : Ct 1 0 1 yX11_bits cX11_bits 3 (some .int) LYM LYM [vi x0] σ (f_M_bits F σ x0) := by
  unfold f_M_bits
  refine Ct_of (d := 1) (kp := 0) (kd := 1) (own := RX11) (nL := 3) (ret := (some .int)) (LY := LYM) (LYe := LYM) (L := [some (vi x0), none, none]) rfl (by decide +kernel) rfl rfl mf_X11_350.2.2.2.1 rfl fun K => ?_
  refine a_iconst dX11_bits_0 ?_
  refine a_istore_n (L' := [some (vi x0), some (vi 0), none]) dX11_bits_1 rfl rfl rfl rfl ?_
  refine a_iload_n dX11_bits_2 rfl ?_
  refine a_istore_n (L' := [some (vi x0), some (vi 0), some (vi x0)]) dX11_bits_3 rfl rfl rfl rfl ?_
  exact a_L (lsub_get (A := [none, some (vi 0), some (vi x0)]) ⟨rfl, ⟨rfl, trivial⟩⟩) (cl_M_bits_4 F F _ _ _)
def f_M_octet (F : Nat) (σ : St) (x1 : Int) : Option (Int × St) := gd (inb x1 940) (bv (iandI (gA σ 1 (Int.toNat x1)) 255) fun t1 => some (t1, σ))
set_option maxRecDepth 100000 in
set_option maxHeartbeats 4000000 in
theorem c_M_octet (F : Nat) (σ : St) (x1 : Int) : Ct 1 0 1 yX11_octet cX11_octet 2 (some .int) LYM LYM [.ref 0, vi x1] σ (f_M_octet F σ x1) := by
  unfold f_M_octet
  refine Ct_of (d := 1) (kp := 0) (kd := 1) (own := RX11) (nL := 2) (ret := (some .int)) (LY := LYM) (LYe := LYM) (L := [some (.ref 0), some (vi x1)]) rfl (by decide +kernel) rfl rfl mf_X11_341.2.2.2.1 rfl fun K => ?_
  refine a_aload_n dX11_octet_0 rfl ?_
  refine a_getR (c0 := 1) fl_X11_14 lyM_0 rfl dX11_octet_1 (key := 1) rfl ?_
  refine a_iload_n dX11_octet_4 rfl ?_
  refine a_bald lyM_1 rfl dX11_octet_5 ?_
  refine a_sipush dX11_octet_6 si_255 ?_
  refine a_iand dX11_octet_9 ?_
  refine a_bvi fun t1 => ?_
  exact a_iret dX11_octet_10
def f_M_peek (F : Nat) (σ : St) : Option (Int × St) := gd (rng (gF σ 4) ∧ rng (gF σ 3)) (if (gF σ 3) ≤ (gF σ 4) then some ((-1), σ) else gd (inb (gF σ 4) 940) (bv (iandI (gA σ 1 (Int.toNat (gF σ 4))) 255) fun t1 => some (t1, σ)))
set_option maxRecDepth 100000 in
set_option maxHeartbeats 4000000 in
theorem c_M_peek (F : Nat) (σ : St) : Ct 1 0 1 yX11_peek cX11_peek 1 (some .int) LYM LYM [.ref 0] σ (f_M_peek F σ) := by
  unfold f_M_peek
  refine Ct_of (d := 1) (kp := 0) (kd := 1) (own := RX11) (nL := 1) (ret := (some .int)) (LY := LYM) (LYe := LYM) (L := [some (.ref 0)]) rfl (by decide +kernel) rfl rfl mf_X11_133.2.2.2.1 rfl fun K => ?_
  refine a_aload_n dX11_peek_0 rfl ?_
  refine a_getI fl_X11_21 lyM_0 rfl dX11_peek_1 (key := 4) rfl ?_
  refine a_aload_n dX11_peek_4 rfl ?_
  refine a_getI fl_X11_18 lyM_0 rfl dX11_peek_5 (key := 3) rfl ?_
  refine a_icmp_ge dX11_peek_8 rfl (fun _ => ?_) (fun _ => ?_)
  · refine a_iconst dX11_peek_27 ?_
    exact a_iret dX11_peek_28
  refine a_aload_n dX11_peek_11 rfl ?_
  refine a_getR (c0 := 1) fl_X11_14 lyM_0 rfl dX11_peek_12 (key := 1) rfl ?_
  refine a_aload_n dX11_peek_15 rfl ?_
  refine a_getI fl_X11_21 lyM_0 rfl dX11_peek_16 (key := 4) rfl ?_
  refine a_bald lyM_1 rfl dX11_peek_19 ?_
  refine a_sipush dX11_peek_20 si_255 ?_
  refine a_iand dX11_peek_23 ?_
  refine a_bvi fun t1 => ?_
  refine a_goto dX11_peek_24 rfl ?_
  exact a_iret dX11_peek_28
def f_M_isSmall (F : Nat) (σ : St) (x0 : Int) : Option (Int × St) := gd (rng x0 ∧ rng 97) (if x0 < 97 then some (0, σ) else gd (rng x0 ∧ rng 122) (if (122 : Int) < x0 then some (0, σ) else some (1, σ)))
set_option maxRecDepth 100000 in
set_option maxHeartbeats 4000000 in
theorem c_M_isSmall (F : Nat) (σ : St) (x0 : Int) : Ct 1 0 1 yX11_isSmall cX11_isSmall 1 (some .boolean) LYM LYM [vi x0] σ (f_M_isSmall F σ x0) := by
  unfold f_M_isSmall
  refine Ct_of (d := 1) (kp := 0) (kd := 1) (own := RX11) (nL := 1) (ret := (some .boolean)) (LY := LYM) (LYe := LYM) (L := [some (vi x0)]) rfl (by decide +kernel) rfl rfl mf_X11_146.2.2.2.1 rfl fun K => ?_
  refine a_iload_n dX11_isSmall_0 rfl ?_
  refine a_bipush dX11_isSmall_1 bi_97 ?_
  refine a_icmp_lt dX11_isSmall_3 rfl (fun _ => ?_) (fun _ => ?_)
  · refine a_iconst dX11_isSmall_16 ?_
    exact a_zretc (by decide) dX11_isSmall_17
  refine a_iload_n dX11_isSmall_6 rfl ?_
  refine a_bipush dX11_isSmall_7 bi_122 ?_
  refine a_icmp_gt dX11_isSmall_9 rfl (fun _ => ?_) (fun _ => ?_)
  · refine a_iconst dX11_isSmall_16 ?_
    exact a_zretc (by decide) dX11_isSmall_17
  refine a_iconst dX11_isSmall_12 ?_
  refine a_goto dX11_isSmall_13 rfl ?_
  exact a_zretc (by decide) dX11_isSmall_17
def f_M_isDigit (F : Nat) (σ : St) (x0 : Int) : Option (Int × St) := gd (rng x0 ∧ rng 48) (if x0 < 48 then some (0, σ) else gd (rng x0 ∧ rng 57) (if (57 : Int) < x0 then some (0, σ) else some (1, σ)))
set_option maxRecDepth 100000 in
set_option maxHeartbeats 4000000 in
theorem c_M_isDigit (F : Nat) (σ : St) (x0 : Int) : Ct 1 0 1 yX11_isDigit cX11_isDigit 1 (some .boolean) LYM LYM [vi x0] σ (f_M_isDigit F σ x0) := by
  unfold f_M_isDigit
  refine Ct_of (d := 1) (kp := 0) (kd := 1) (own := RX11) (nL := 1) (ret := (some .boolean)) (LY := LYM) (LYe := LYM) (L := [some (vi x0)]) rfl (by decide +kernel) rfl rfl mf_X11_150.2.2.2.1 rfl fun K => ?_
  refine a_iload_n dX11_isDigit_0 rfl ?_
  refine a_bipush dX11_isDigit_1 bi_48 ?_
  refine a_icmp_lt dX11_isDigit_3 rfl (fun _ => ?_) (fun _ => ?_)
  · refine a_iconst dX11_isDigit_16 ?_
    exact a_zretc (by decide) dX11_isDigit_17
  refine a_iload_n dX11_isDigit_6 rfl ?_
  refine a_bipush dX11_isDigit_7 bi_57 ?_
  refine a_icmp_gt dX11_isDigit_9 rfl (fun _ => ?_) (fun _ => ?_)
  · refine a_iconst dX11_isDigit_16 ?_
    exact a_zretc (by decide) dX11_isDigit_17
  refine a_iconst dX11_isDigit_12 ?_
  refine a_goto dX11_isDigit_13 rfl ?_
  exact a_zretc (by decide) dX11_isDigit_17
def b_M_next_257 (F : Nat) (k163 : St → Int → Int → Option (Int × St)) (σ : St) (x2 x3 : Int) : Option (Int × St) := bs (sF σ 12 ((gF σ 12) + 1)) fun σ20 => bs (sF σ20 4 ((gF σ20 4) + 1)) fun σ21 => k163 σ21 x2 x3
def b_M_next_230 (F : Nat) (k163 : St → Int → Int → Option (Int × St)) (σ : St) (x2 x3 : Int) : Option (Int × St) := gd (rng (gF σ 12) ∧ rng 3) (if (3 : Int) ≤ (gF σ 12) then b_M_next_257 F k163 σ x2 x3 else bnd (f_M_peek F σ) fun r22 σ23 => bv (((10 * (gF σ 13)) + r22) - 48) fun t24 => bs (sF σ23 13 t24) fun σ25 => b_M_next_257 F k163 σ25 x2 x3)
def b_M_next_204 (F : Nat) (k163 : St → Int → Int → Option (Int × St)) (σ : St) (x2 x3 : Int) : Option (Int × St) := gd (rng (gF σ 12) ∧ rng 7) (if (7 : Int) ≤ (gF σ 12) then b_M_next_230 F k163 σ x2 x3 else gd (sh6 8) (bv ((gF σ 16) * 2 ^ (Int.toNat 8)) fun t26 => bnd (f_M_peek F σ) fun r27 σ28 => gd (rng r27) (bs (sF σ28 16 (lorI t26 r27)) fun σ29 => b_M_next_230 F k163 σ29 x2 x3)))
def b_M_next_183 (F : Nat) (k163 : St → Int → Int → Option (Int × St)) (σ : St) (x2 x3 : Int) : Option (Int × St) := gd (rng x3) (if x3 = 0 then b_M_next_204 F k163 σ x2 0 else bnd (f_M_peek F σ) fun r30 σ31 => bnd (f_M_isSmall F σ31 r30) fun r32 σ33 => gd (rng r32 ∧ rng x2) (if r32 = x2 then b_M_next_204 F k163 σ33 x2 1 else b_M_next_204 F k163 σ33 x2 0))
def b_M_next_280 (F : Nat) (σ : St) (x2 x3 : Int) : Option (Int × St) := gd (rng x3) (if x3 = 0 then bs (sF σ 10 4) fun σ38 => some (0, σ38) else gd (rng x2) (if x2 = 0 then gd (rng (gF σ 12) ∧ rng 3) (if (gF σ 12) ≤ 3 then gd (rng x2) (if x2 = 0 then bs (sF σ 10 2) fun σ39 => some (0, σ39) else bs (sF σ 10 1) fun σ40 => some (0, σ40)) else bs (sF σ 10 4) fun σ41 => some (0, σ41)) else gd (rng (gF σ 12) ∧ rng 7) (if (gF σ 12) ≤ 7 then gd (rng x2) (if x2 = 0 then bs (sF σ 10 2) fun σ42 => some (0, σ42) else bs (sF σ 10 1) fun σ43 => some (0, σ43)) else bs (sF σ 10 4) fun σ44 => some (0, σ44))))
def b_M_next_163 (F : Nat) (self : St → Int → Int → Option (Int × St)) (σ : St) (x2 x3 : Int) : Option (Int × St) := bnd (f_M_peek F σ) fun r16 σ17 => bnd (f_M_isSmall F σ17 r16) fun r18 σ19 => gd (rng r18) (if r18 = 0 then bnd (f_M_peek F σ19) fun r34 σ35 => bnd (f_M_isDigit F σ35 r34) fun r36 σ37 => gd (rng r36) (if r36 = 0 then b_M_next_280 F σ37 x2 x3 else b_M_next_183 F self σ37 x2 x3) else b_M_next_183 F self σ19 x2 x3)
def l_M_next_163 (F : Nat) : Nat → St → Int → Int → Option (Int × St)
  | 0 => fun _ _ _ => none
  | n + 1 => fun σ x2 x3 => b_M_next_163 F (l_M_next_163 F n) σ x2 x3
def b_M_next_146 (F : Nat) (σ : St) (x1 : Int) : Option (Int × St) := bnd (f_M_isSmall F σ x1) fun r12 σ13 => bs (sF σ13 16 0) fun σ14 => bs (sF σ14 13 0) fun σ15 => l_M_next_163 F F σ15 r12 1
def b_M_next_80 (F : Nat) (σ : St) : Option (Int × St) := bnd (f_M_peek F σ) fun r8 σ9 => gd (rng r8) (if (0 : Int) ≤ r8 then bnd (f_M_isSmall F σ9 r8) fun r10 σ11 => gd (rng r10) (if r10 = 0 then bnd (f_M_isDigit F σ11 r8) fun r45 σ46 => gd (rng r45) (if r45 = 0 then gd (rng r8 ∧ rng 59) (if r8 = 59 then bs (sF σ46 10 3) fun σ47 => bs (sF σ47 13 r8) fun σ48 => bs (sF σ48 4 ((gF σ48 4) + 1)) fun σ49 => some (0, σ49) else gd (rng r8 ∧ rng 45) (if r8 = 45 then bs (sF σ46 10 3) fun σ53 => bs (sF σ53 13 r8) fun σ54 => bs (sF σ54 4 ((gF σ54 4) + 1)) fun σ55 => some (0, σ55) else bs (sF σ46 10 4) fun σ50 => bs (sF σ50 13 r8) fun σ51 => bs (sF σ51 4 ((gF σ51 4) + 1)) fun σ52 => some (0, σ52))) else b_M_next_146 F σ46 r8) else b_M_next_146 F σ11 r8) else bs (sF σ9 10 0) fun σ56 => some (0, σ56))
def b_M_next_0 (F : Nat) (self : St → Option (Int × St)) (σ : St) : Option (Int × St) := bnd (f_M_peek F σ) fun r1 σ2 => gd (rng r1 ∧ rng 32) (if r1 = 32 then bs (sF σ2 4 ((gF σ2 4) + 1)) fun σ3 => self σ3 else bnd (f_M_peek F σ2) fun r4 σ5 => gd (rng r4 ∧ rng 10) (if r4 = 10 then bs (sF σ5 4 ((gF σ5 4) + 1)) fun σ59 => self σ59 else bs (sF σ5 11 (gF σ5 4)) fun σ6 => bs (sF σ6 12 0) fun σ7 => gd (rng (gF σ7 3) ∧ rng (gF σ7 5)) (if (gF σ7 3) ≤ (gF σ7 5) then b_M_next_80 F σ7 else gd (rng (gF σ7 4) ∧ rng (gF σ7 5)) (if (gF σ7 4) < (gF σ7 5) then b_M_next_80 F σ7 else bs (sF σ7 11 (gF σ7 5)) fun σ57 => bs (sF σ57 10 4) fun σ58 => some (0, σ58)))))
def l_M_next_0 (F : Nat) : Nat → St → Option (Int × St)
  | 0 => fun _ => none
  | n + 1 => fun σ => b_M_next_0 F (l_M_next_0 F n) σ
def f_M_next (F : Nat) (σ : St) : Option (Int × St) := l_M_next_0 F F σ
set_option maxRecDepth 100000 in
set_option maxHeartbeats 4000000 in
theorem cb_M_next_257 {K : KX} (F : Nat) (k163 : St → Int → Int → Option (Int × St)) (h163 : ∀ σ x2 x3, WA 2 0 0 cX11_next RX11 4 none LYM LYM K 163 [some (.ref 0), none, some (vi x2), some (vi x3)] [] σ (k163 σ x2 x3)) (σ : St) (x2 x3 : Int) : WA 2 0 0 cX11_next RX11 4 none LYM LYM K 257 [some (.ref 0), none, some (vi x2), some (vi x3)] [] σ (b_M_next_257 F k163 σ x2 x3) := by
  unfold b_M_next_257
  refine a_aload_n dX11_next_257 rfl ?_
  refine a_dup dX11_next_258 rfl ?_
  refine a_getI fl_X11_140 lyM_0 rfl dX11_next_259 (key := 12) rfl ?_
  refine a_iconst dX11_next_262 ?_
  refine a_iadd dX11_next_263 ?_
  refine a_putI fl_X11_140 cf_X11 rfl rfl lyM_0 rfl dX11_next_264 (key := 12) rfl fun σ20 => ?_
  refine a_aload_n dX11_next_267 rfl ?_
  refine a_dup dX11_next_268 rfl ?_
  refine a_getI fl_X11_21 lyM_0 rfl dX11_next_269 (key := 4) rfl ?_
  refine a_iconst dX11_next_272 ?_
  refine a_iadd dX11_next_273 ?_
  refine a_putI fl_X11_21 cf_X11 rfl rfl lyM_0 rfl dX11_next_274 (key := 4) rfl fun σ21 => ?_
  refine a_goto dX11_next_277 rfl ?_
  exact h163 _ _ _
set_option maxRecDepth 100000 in
set_option maxHeartbeats 4000000 in
theorem cb_M_next_230 {K : KX} (F : Nat) (k163 : St → Int → Int → Option (Int × St)) (h163 : ∀ σ x2 x3, WA 2 0 0 cX11_next RX11 4 none LYM LYM K 163 [some (.ref 0), none, some (vi x2), some (vi x3)] [] σ (k163 σ x2 x3)) (σ : St) (x2 x3 : Int) : WA 2 0 0 cX11_next RX11 4 none LYM LYM K 230 [some (.ref 0), none, some (vi x2), some (vi x3)] [] σ (b_M_next_230 F k163 σ x2 x3) := by
  unfold b_M_next_230
  refine a_aload_n dX11_next_230 rfl ?_
  refine a_getI fl_X11_140 lyM_0 rfl dX11_next_231 (key := 12) rfl ?_
  refine a_iconst dX11_next_234 ?_
  refine a_icmp_ge dX11_next_235 rfl (fun _ => ?_) (fun _ => ?_)
  · exact cb_M_next_257 F _ h163 _ _ _
  refine a_aload_n dX11_next_238 rfl ?_
  refine a_bipush dX11_next_239 bi_10 ?_
  refine a_aload_n dX11_next_241 rfl ?_
  refine a_getI fl_X11_153 lyM_0 rfl dX11_next_242 (key := 13) rfl ?_
  refine a_imul dX11_next_245 ?_
  refine a_aload_n dX11_next_246 rfl ?_
  refine a_callVi (as := []) mf_X11_133 lyM_0 rfl (c_M_peek F _) LYsame.rf dX11_next_247 rfl rfl rfl rfl rfl rfl (Or.inl rfl) fun r22 σ23 => ?_
  refine a_iadd dX11_next_250 ?_
  refine a_bipush dX11_next_251 bi_48 ?_
  refine a_isub dX11_next_253 ?_
  refine a_bvi fun t24 => ?_
  refine a_putI fl_X11_153 cf_X11 rfl rfl lyM_0 rfl dX11_next_254 (key := 13) rfl fun σ25 => ?_
  exact cb_M_next_257 F _ h163 _ _ _
set_option maxRecDepth 100000 in
set_option maxHeartbeats 4000000 in
theorem cb_M_next_204 {K : KX} (F : Nat) (k163 : St → Int → Int → Option (Int × St)) (h163 : ∀ σ x2 x3, WA 2 0 0 cX11_next RX11 4 none LYM LYM K 163 [some (.ref 0), none, some (vi x2), some (vi x3)] [] σ (k163 σ x2 x3)) (σ : St) (x2 x3 : Int) : WA 2 0 0 cX11_next RX11 4 none LYM LYM K 204 [some (.ref 0), none, some (vi x2), some (vi x3)] [] σ (b_M_next_204 F k163 σ x2 x3) := by
  unfold b_M_next_204
  refine a_aload_n dX11_next_204 rfl ?_
  refine a_getI fl_X11_140 lyM_0 rfl dX11_next_205 (key := 12) rfl ?_
  refine a_bipush dX11_next_208 bi_7 ?_
  refine a_icmp_ge dX11_next_210 rfl (fun _ => ?_) (fun _ => ?_)
  · exact cb_M_next_230 F _ h163 _ _ _
  refine a_aload_n dX11_next_213 rfl ?_
  refine a_aload_n dX11_next_214 rfl ?_
  refine a_getL fl_X11_156 lyM_0 rfl dX11_next_215 (key := 16) rfl ?_
  refine a_bipush dX11_next_218 bi_8 ?_
  refine a_lshl dX11_next_220 (fun _ => ?_)
  refine a_bvl fun t26 => ?_
  refine a_aload_n dX11_next_221 rfl ?_
  refine a_callVi (as := []) mf_X11_133 lyM_0 rfl (c_M_peek F _) LYsame.rf dX11_next_222 rfl rfl rfl rfl rfl rfl (Or.inl rfl) fun r27 σ28 => ?_
  refine a_i2l dX11_next_225 (fun _ => ?_)
  refine a_lor dX11_next_226 ?_
  refine a_putL fl_X11_156 cf_X11 rfl rfl lyM_0 rfl dX11_next_227 (key := 16) rfl fun σ29 => ?_
  exact cb_M_next_230 F _ h163 _ _ _
set_option maxRecDepth 100000 in
set_option maxHeartbeats 4000000 in
theorem cb_M_next_183 {K : KX} (F : Nat) (k163 : St → Int → Int → Option (Int × St)) (h163 : ∀ σ x2 x3, WA 2 0 0 cX11_next RX11 4 none LYM LYM K 163 [some (.ref 0), none, some (vi x2), some (vi x3)] [] σ (k163 σ x2 x3)) (σ : St) (x2 x3 : Int) : WA 2 0 0 cX11_next RX11 4 none LYM LYM K 183 [some (.ref 0), none, some (vi x2), some (vi x3)] [] σ (b_M_next_183 F k163 σ x2 x3) := by
  unfold b_M_next_183
  refine a_iload_n dX11_next_183 rfl ?_
  refine a_if_eq dX11_next_184 rfl (fun _ => ?_) (fun _ => ?_)
  · refine a_iconst dX11_next_202 ?_
    refine a_istore_n (L' := [some (.ref 0), none, some (vi x2), some (vi 0)]) dX11_next_203 rfl rfl rfl rfl ?_
    exact cb_M_next_204 F _ h163 _ _ _
  refine a_aload_n dX11_next_187 rfl ?_
  refine a_callVi (as := []) mf_X11_133 lyM_0 rfl (c_M_peek F _) LYsame.rf dX11_next_188 rfl rfl rfl rfl rfl rfl (Or.inl rfl) fun r30 σ31 => ?_
  refine a_callSi (as := [vi r30]) mf_X11_146 (c_M_isSmall F _ _) LYsame.rf dX11_next_191 rfl rfl rfl rfl rfl rfl (Or.inl rfl) fun r32 σ33 => ?_
  refine a_iload_n dX11_next_194 rfl ?_
  refine a_icmp_ne dX11_next_195 rfl (fun _ => ?_) (fun _ => ?_)
  · refine a_iconst dX11_next_202 ?_
    refine a_istore_n (L' := [some (.ref 0), none, some (vi x2), some (vi 0)]) dX11_next_203 rfl rfl rfl rfl ?_
    exact cb_M_next_204 F _ h163 _ _ _
  refine a_iconst dX11_next_198 ?_
  refine a_goto dX11_next_199 rfl ?_
  refine a_istore_n (L' := [some (.ref 0), none, some (vi x2), some (vi 1)]) dX11_next_203 rfl rfl rfl rfl ?_
  exact cb_M_next_204 F _ h163 _ _ _
set_option maxRecDepth 100000 in
set_option maxHeartbeats 4000000 in
theorem cb_M_next_280 {K : KX} (F : Nat) (σ : St) (x2 x3 : Int) : WA 2 0 0 cX11_next RX11 4 none LYM LYM K 280 [some (.ref 0), none, some (vi x2), some (vi x3)] [] σ (b_M_next_280 F σ x2 x3) := by
  unfold b_M_next_280
  refine a_aload_n dX11_next_280 rfl ?_
  refine a_iload_n dX11_next_281 rfl ?_
  refine a_if_eq dX11_next_282 rfl (fun _ => ?_) (fun _ => ?_)
  · refine a_iconst dX11_next_302 ?_
    refine a_goto dX11_next_303 rfl ?_
    refine a_putI fl_X11_143 cf_X11 rfl rfl lyM_0 rfl dX11_next_315 (key := 10) rfl fun σ38 => ?_
    exact a_vret dX11_next_318
  refine a_aload_n dX11_next_285 rfl ?_
  refine a_getI fl_X11_140 lyM_0 rfl dX11_next_286 (key := 12) rfl ?_
  refine a_iload_n dX11_next_289 rfl ?_
  refine a_if_eq dX11_next_290 rfl (fun _ => ?_) (fun _ => ?_)
  · refine a_iconst dX11_next_298 ?_
    refine a_icmp_le dX11_next_299 rfl (fun _ => ?_) (fun _ => ?_)
    · refine a_iload_n dX11_next_306 rfl ?_
      refine a_if_eq dX11_next_307 rfl (fun _ => ?_) (fun _ => ?_)
      · refine a_iconst dX11_next_314 ?_
        refine a_putI fl_X11_143 cf_X11 rfl rfl lyM_0 rfl dX11_next_315 (key := 10) rfl fun σ39 => ?_
        exact a_vret dX11_next_318
      refine a_iconst dX11_next_310 ?_
      refine a_goto dX11_next_311 rfl ?_
      refine a_putI fl_X11_143 cf_X11 rfl rfl lyM_0 rfl dX11_next_315 (key := 10) rfl fun σ40 => ?_
      exact a_vret dX11_next_318
    refine a_iconst dX11_next_302 ?_
    refine a_goto dX11_next_303 rfl ?_
    refine a_putI fl_X11_143 cf_X11 rfl rfl lyM_0 rfl dX11_next_315 (key := 10) rfl fun σ41 => ?_
    exact a_vret dX11_next_318
  refine a_bipush dX11_next_293 bi_7 ?_
  refine a_goto dX11_next_295 rfl ?_
  refine a_icmp_le dX11_next_299 rfl (fun _ => ?_) (fun _ => ?_)
  · refine a_iload_n dX11_next_306 rfl ?_
    refine a_if_eq dX11_next_307 rfl (fun _ => ?_) (fun _ => ?_)
    · refine a_iconst dX11_next_314 ?_
      refine a_putI fl_X11_143 cf_X11 rfl rfl lyM_0 rfl dX11_next_315 (key := 10) rfl fun σ42 => ?_
      exact a_vret dX11_next_318
    refine a_iconst dX11_next_310 ?_
    refine a_goto dX11_next_311 rfl ?_
    refine a_putI fl_X11_143 cf_X11 rfl rfl lyM_0 rfl dX11_next_315 (key := 10) rfl fun σ43 => ?_
    exact a_vret dX11_next_318
  refine a_iconst dX11_next_302 ?_
  refine a_goto dX11_next_303 rfl ?_
  refine a_putI fl_X11_143 cf_X11 rfl rfl lyM_0 rfl dX11_next_315 (key := 10) rfl fun σ44 => ?_
  exact a_vret dX11_next_318
set_option maxRecDepth 100000 in
set_option maxHeartbeats 4000000 in
theorem cb_M_next_163 {K : KX} (F : Nat) (self : St → Int → Int → Option (Int × St)) (hself : ∀ σ x2 x3, WA 2 0 0 cX11_next RX11 4 none LYM LYM K 163 [some (.ref 0), none, some (vi x2), some (vi x3)] [] σ (self σ x2 x3)) (σ : St) (x2 x3 : Int) : WA 2 0 0 cX11_next RX11 4 none LYM LYM K 163 [some (.ref 0), none, some (vi x2), some (vi x3)] [] σ (b_M_next_163 F self σ x2 x3) := by
  unfold b_M_next_163
  refine a_aload_n dX11_next_163 rfl ?_
  refine a_callVi (as := []) mf_X11_133 lyM_0 rfl (c_M_peek F _) LYsame.rf dX11_next_164 rfl rfl rfl rfl rfl rfl (Or.inl rfl) fun r16 σ17 => ?_
  refine a_callSi (as := [vi r16]) mf_X11_146 (c_M_isSmall F _ _) LYsame.rf dX11_next_167 rfl rfl rfl rfl rfl rfl (Or.inl rfl) fun r18 σ19 => ?_
  refine a_if_ne dX11_next_170 rfl (fun _ => ?_) (fun _ => ?_)
  · exact cb_M_next_183 F _ hself _ _ _
  refine a_aload_n dX11_next_173 rfl ?_
  refine a_callVi (as := []) mf_X11_133 lyM_0 rfl (c_M_peek F _) LYsame.rf dX11_next_174 rfl rfl rfl rfl rfl rfl (Or.inl rfl) fun r34 σ35 => ?_
  refine a_callSi (as := [vi r34]) mf_X11_150 (c_M_isDigit F _ _) LYsame.rf dX11_next_177 rfl rfl rfl rfl rfl rfl (Or.inl rfl) fun r36 σ37 => ?_
  refine a_if_eq dX11_next_180 rfl (fun _ => ?_) (fun _ => ?_)
  · exact cb_M_next_280 F _ _ _
  exact cb_M_next_183 F _ hself _ _ _
set_option maxRecDepth 100000 in
set_option maxHeartbeats 4000000 in
theorem cl_M_next_163 {K : KX} (F : Nat) : ∀ (n : Nat) (σ : St) (x2 x3 : Int), WA 2 0 0 cX11_next RX11 4 none LYM LYM K 163 [some (.ref 0), none, some (vi x2), some (vi x3)] [] σ (l_M_next_163 F n σ x2 x3)
  | 0, _, _, _ => a_none
  | n + 1, σ, x2, x3 => cb_M_next_163 F _ (cl_M_next_163 F n) σ x2 x3
set_option maxRecDepth 100000 in
set_option maxHeartbeats 4000000 in
theorem cb_M_next_146 {K : KX} (F : Nat) (σ : St) (x1 : Int) : WA 2 0 0 cX11_next RX11 4 none LYM LYM K 146 [some (.ref 0), some (vi x1), none, none] [] σ (b_M_next_146 F σ x1) := by
  unfold b_M_next_146
  refine a_iload_n dX11_next_146 rfl ?_
  refine a_callSi (as := [vi x1]) mf_X11_146 (c_M_isSmall F _ _) LYsame.rf dX11_next_147 rfl rfl rfl rfl rfl rfl (Or.inl rfl) fun r12 σ13 => ?_
  refine a_istore_n (L' := [some (.ref 0), some (vi x1), some (vi r12), none]) dX11_next_150 rfl rfl rfl rfl ?_
  refine a_iconst dX11_next_151 ?_
  refine a_istore_n (L' := [some (.ref 0), some (vi x1), some (vi r12), some (vi 1)]) dX11_next_152 rfl rfl rfl rfl ?_
  refine a_aload_n dX11_next_153 rfl ?_
  refine a_lconst (v := 0) dX11_next_154 rfl ?_
  refine a_putL fl_X11_156 cf_X11 rfl rfl lyM_0 rfl dX11_next_155 (key := 16) rfl fun σ14 => ?_
  refine a_aload_n dX11_next_158 rfl ?_
  refine a_iconst dX11_next_159 ?_
  refine a_putI fl_X11_153 cf_X11 rfl rfl lyM_0 rfl dX11_next_160 (key := 13) rfl fun σ15 => ?_
  exact a_L (lsub_get (A := [some (.ref 0), none, some (vi r12), some (vi 1)]) ⟨rfl, ⟨rfl, ⟨rfl, trivial⟩⟩⟩) (cl_M_next_163 F F _ _ _)
set_option maxRecDepth 100000 in
set_option maxHeartbeats 4000000 in
theorem cb_M_next_80 {K : KX} (F : Nat) (σ : St) : WA 2 0 0 cX11_next RX11 4 none LYM LYM K 80 [some (.ref 0), none, none, none] [] σ (b_M_next_80 F σ) := by
  unfold b_M_next_80
  refine a_aload_n dX11_next_80 rfl ?_
  refine a_callVi (as := []) mf_X11_133 lyM_0 rfl (c_M_peek F _) LYsame.rf dX11_next_81 rfl rfl rfl rfl rfl rfl (Or.inl rfl) fun r8 σ9 => ?_
  refine a_istore_n (L' := [some (.ref 0), some (vi r8), none, none]) dX11_next_84 rfl rfl rfl rfl ?_
  refine a_iload_n dX11_next_85 rfl ?_
  refine a_if_ge dX11_next_86 rfl (fun _ => ?_) (fun _ => ?_)
  · refine a_iload_n dX11_next_95 rfl ?_
    refine a_callSi (as := [vi r8]) mf_X11_146 (c_M_isSmall F _ _) LYsame.rf dX11_next_96 rfl rfl rfl rfl rfl rfl (Or.inl rfl) fun r10 σ11 => ?_
    refine a_if_ne dX11_next_99 rfl (fun _ => ?_) (fun _ => ?_)
    · exact cb_M_next_146 F _ _
    refine a_iload_n dX11_next_102 rfl ?_
    refine a_callSi (as := [vi r8]) mf_X11_150 (c_M_isDigit F _ _) LYsame.rf dX11_next_103 rfl rfl rfl rfl rfl rfl (Or.inl rfl) fun r45 σ46 => ?_
    refine a_if_ne dX11_next_106 rfl (fun _ => ?_) (fun _ => ?_)
    · exact cb_M_next_146 F _ _
    refine a_aload_n dX11_next_109 rfl ?_
    refine a_iload_n dX11_next_110 rfl ?_
    refine a_bipush dX11_next_111 bi_59 ?_
    refine a_icmp_eq dX11_next_113 rfl (fun _ => ?_) (fun _ => ?_)
    · refine a_iconst dX11_next_122 ?_
      refine a_goto dX11_next_123 rfl ?_
      refine a_putI fl_X11_143 cf_X11 rfl rfl lyM_0 rfl dX11_next_127 (key := 10) rfl fun σ47 => ?_
      refine a_aload_n dX11_next_130 rfl ?_
      refine a_iload_n dX11_next_131 rfl ?_
      refine a_putI fl_X11_153 cf_X11 rfl rfl lyM_0 rfl dX11_next_132 (key := 13) rfl fun σ48 => ?_
      refine a_aload_n dX11_next_135 rfl ?_
      refine a_dup dX11_next_136 rfl ?_
      refine a_getI fl_X11_21 lyM_0 rfl dX11_next_137 (key := 4) rfl ?_
      refine a_iconst dX11_next_140 ?_
      refine a_iadd dX11_next_141 ?_
      refine a_putI fl_X11_21 cf_X11 rfl rfl lyM_0 rfl dX11_next_142 (key := 4) rfl fun σ49 => ?_
      exact a_vret dX11_next_145
    refine a_iload_n dX11_next_116 rfl ?_
    refine a_bipush dX11_next_117 bi_45 ?_
    refine a_icmp_ne dX11_next_119 rfl (fun _ => ?_) (fun _ => ?_)
    · refine a_iconst dX11_next_126 ?_
      refine a_putI fl_X11_143 cf_X11 rfl rfl lyM_0 rfl dX11_next_127 (key := 10) rfl fun σ50 => ?_
      refine a_aload_n dX11_next_130 rfl ?_
      refine a_iload_n dX11_next_131 rfl ?_
      refine a_putI fl_X11_153 cf_X11 rfl rfl lyM_0 rfl dX11_next_132 (key := 13) rfl fun σ51 => ?_
      refine a_aload_n dX11_next_135 rfl ?_
      refine a_dup dX11_next_136 rfl ?_
      refine a_getI fl_X11_21 lyM_0 rfl dX11_next_137 (key := 4) rfl ?_
      refine a_iconst dX11_next_140 ?_
      refine a_iadd dX11_next_141 ?_
      refine a_putI fl_X11_21 cf_X11 rfl rfl lyM_0 rfl dX11_next_142 (key := 4) rfl fun σ52 => ?_
      exact a_vret dX11_next_145
    refine a_iconst dX11_next_122 ?_
    refine a_goto dX11_next_123 rfl ?_
    refine a_putI fl_X11_143 cf_X11 rfl rfl lyM_0 rfl dX11_next_127 (key := 10) rfl fun σ53 => ?_
    refine a_aload_n dX11_next_130 rfl ?_
    refine a_iload_n dX11_next_131 rfl ?_
    refine a_putI fl_X11_153 cf_X11 rfl rfl lyM_0 rfl dX11_next_132 (key := 13) rfl fun σ54 => ?_
    refine a_aload_n dX11_next_135 rfl ?_
    refine a_dup dX11_next_136 rfl ?_
    refine a_getI fl_X11_21 lyM_0 rfl dX11_next_137 (key := 4) rfl ?_
    refine a_iconst dX11_next_140 ?_
    refine a_iadd dX11_next_141 ?_
    refine a_putI fl_X11_21 cf_X11 rfl rfl lyM_0 rfl dX11_next_142 (key := 4) rfl fun σ55 => ?_
    exact a_vret dX11_next_145
  refine a_aload_n dX11_next_89 rfl ?_
  refine a_iconst dX11_next_90 ?_
  refine a_putI fl_X11_143 cf_X11 rfl rfl lyM_0 rfl dX11_next_91 (key := 10) rfl fun σ56 => ?_
  exact a_vret dX11_next_94
set_option maxRecDepth 100000 in
set_option maxHeartbeats 4000000 in
theorem cb_M_next_0 {K : KX} (F : Nat) (self : St → Option (Int × St)) (hself : ∀ σ, WA 2 0 0 cX11_next RX11 4 none LYM LYM K 0 [some (.ref 0), none, none, none] [] σ (self σ)) (σ : St) : WA 2 0 0 cX11_next RX11 4 none LYM LYM K 0 [some (.ref 0), none, none, none] [] σ (b_M_next_0 F self σ) := by
  unfold b_M_next_0
  refine a_aload_n dX11_next_0 rfl ?_
  refine a_callVi (as := []) mf_X11_133 lyM_0 rfl (c_M_peek F _) LYsame.rf dX11_next_1 rfl rfl rfl rfl rfl rfl (Or.inl rfl) fun r1 σ2 => ?_
  refine a_bipush dX11_next_4 bi_32 ?_
  refine a_icmp_eq dX11_next_6 rfl (fun _ => ?_) (fun _ => ?_)
  · refine a_aload_n dX11_next_18 rfl ?_
    refine a_dup dX11_next_19 rfl ?_
    refine a_getI fl_X11_21 lyM_0 rfl dX11_next_20 (key := 4) rfl ?_
    refine a_iconst dX11_next_23 ?_
    refine a_iadd dX11_next_24 ?_
    refine a_putI fl_X11_21 cf_X11 rfl rfl lyM_0 rfl dX11_next_25 (key := 4) rfl fun σ3 => ?_
    refine a_goto dX11_next_28 rfl ?_
    exact hself _
  refine a_aload_n dX11_next_9 rfl ?_
  refine a_callVi (as := []) mf_X11_133 lyM_0 rfl (c_M_peek F _) LYsame.rf dX11_next_10 rfl rfl rfl rfl rfl rfl (Or.inl rfl) fun r4 σ5 => ?_
  refine a_bipush dX11_next_13 bi_10 ?_
  refine a_icmp_ne dX11_next_15 rfl (fun _ => ?_) (fun _ => ?_)
  · refine a_aload_n dX11_next_31 rfl ?_
    refine a_aload_n dX11_next_32 rfl ?_
    refine a_getI fl_X11_21 lyM_0 rfl dX11_next_33 (key := 4) rfl ?_
    refine a_putI fl_X11_137 cf_X11 rfl rfl lyM_0 rfl dX11_next_36 (key := 11) rfl fun σ6 => ?_
    refine a_aload_n dX11_next_39 rfl ?_
    refine a_iconst dX11_next_40 ?_
    refine a_putI fl_X11_140 cf_X11 rfl rfl lyM_0 rfl dX11_next_41 (key := 12) rfl fun σ7 => ?_
    refine a_aload_n dX11_next_44 rfl ?_
    refine a_getI fl_X11_18 lyM_0 rfl dX11_next_45 (key := 3) rfl ?_
    refine a_aload_n dX11_next_48 rfl ?_
    refine a_getI fl_X11_24 lyM_0 rfl dX11_next_49 (key := 5) rfl ?_
    refine a_icmp_le dX11_next_52 rfl (fun _ => ?_) (fun _ => ?_)
    · exact cb_M_next_80 F _
    refine a_aload_n dX11_next_55 rfl ?_
    refine a_getI fl_X11_21 lyM_0 rfl dX11_next_56 (key := 4) rfl ?_
    refine a_aload_n dX11_next_59 rfl ?_
    refine a_getI fl_X11_24 lyM_0 rfl dX11_next_60 (key := 5) rfl ?_
    refine a_icmp_lt dX11_next_63 rfl (fun _ => ?_) (fun _ => ?_)
    · exact cb_M_next_80 F _
    refine a_aload_n dX11_next_66 rfl ?_
    refine a_aload_n dX11_next_67 rfl ?_
    refine a_getI fl_X11_24 lyM_0 rfl dX11_next_68 (key := 5) rfl ?_
    refine a_putI fl_X11_137 cf_X11 rfl rfl lyM_0 rfl dX11_next_71 (key := 11) rfl fun σ57 => ?_
    refine a_aload_n dX11_next_74 rfl ?_
    refine a_iconst dX11_next_75 ?_
    refine a_putI fl_X11_143 cf_X11 rfl rfl lyM_0 rfl dX11_next_76 (key := 10) rfl fun σ58 => ?_
    exact a_vret dX11_next_79
  refine a_aload_n dX11_next_18 rfl ?_
  refine a_dup dX11_next_19 rfl ?_
  refine a_getI fl_X11_21 lyM_0 rfl dX11_next_20 (key := 4) rfl ?_
  refine a_iconst dX11_next_23 ?_
  refine a_iadd dX11_next_24 ?_
  refine a_putI fl_X11_21 cf_X11 rfl rfl lyM_0 rfl dX11_next_25 (key := 4) rfl fun σ59 => ?_
  refine a_goto dX11_next_28 rfl ?_
  exact hself _
set_option maxRecDepth 100000 in
set_option maxHeartbeats 4000000 in
theorem cl_M_next_0 {K : KX} (F : Nat) : ∀ (n : Nat) (σ : St), WA 2 0 0 cX11_next RX11 4 none LYM LYM K 0 [some (.ref 0), none, none, none] [] σ (l_M_next_0 F n σ)
  | 0, _ => a_none
  | n + 1, σ => cb_M_next_0 F _ (cl_M_next_0 F n) σ
set_option maxRecDepth 100000 in
set_option maxHeartbeats 4000000 in
theorem c_M_next (F : Nat) (σ : St) : Ct 2 0 0 yX11_next cX11_next 4 none LYM LYM [.ref 0] σ (f_M_next F σ) := by
  unfold f_M_next
  refine Ct_of (d := 2) (kp := 0) (kd := 0) (own := RX11) (nL := 4) (ret := none) (LY := LYM) (LYe := LYM) (L := [some (.ref 0), none, none, none]) rfl (by decide +kernel) rfl rfl mf_X11_172.2.2.2.1 rfl fun K => ?_
  exact cl_M_next_0 F F _
def f_M_bad (F : Nat) (σ : St) (x1 : Int) : Option (Int × St) := bs (sF σ 14 x1) fun σ1 => bs (sF σ1 15 (gF σ1 11)) fun σ2 => some (0, σ2)
set_option maxRecDepth 100000 in
set_option maxHeartbeats 4000000 in
theorem c_M_bad (F : Nat) (σ : St) (x1 : Int) : Ct 1 0 1 yX11_bad cX11_bad 2 (some .boolean) LYM LYM [.ref 0, vi x1] σ (f_M_bad F σ x1) := by
  unfold f_M_bad
  refine Ct_of (d := 1) (kp := 0) (kd := 1) (own := RX11) (nL := 2) (ret := (some .boolean)) (LY := LYM) (LYe := LYM) (L := [some (.ref 0), some (vi x1)]) rfl (by decide +kernel) rfl rfl mf_X11_169.2.2.2.1 rfl fun K => ?_
  refine a_aload_n dX11_bad_0 rfl ?_
  refine a_iload_n dX11_bad_1 rfl ?_
  refine a_putI fl_X11_160 cf_X11 rfl rfl lyM_0 rfl dX11_bad_2 (key := 14) rfl fun σ1 => ?_
  refine a_aload_n dX11_bad_5 rfl ?_
  refine a_aload_n dX11_bad_6 rfl ?_
  refine a_getI fl_X11_137 lyM_0 rfl dX11_bad_7 (key := 11) rfl ?_
  refine a_putI fl_X11_163 cf_X11 rfl rfl lyM_0 rfl dX11_bad_10 (key := 15) rfl fun σ2 => ?_
  refine a_iconst dX11_bad_13 ?_
  exact a_zretc (by decide) dX11_bad_14
def f_M_isWord (F : Nat) (σ : St) (x1 : Int) : Option (Int × St) := gd (rng (gF σ 10) ∧ rng 1) (if (gF σ 10) = 1 then gd (rng64 (gF σ 16) ∧ rng64 x1) (if (gF σ 16) = x1 then some (1, σ) else some (0, σ)) else some (0, σ))
set_option maxRecDepth 100000 in
set_option maxHeartbeats 4000000 in
theorem c_M_isWord (F : Nat) (σ : St) (x1 : Int) : Ct 1 0 1 yX11_isWord cX11_isWord 3 (some .boolean) LYM LYM [.ref 0, vl x1] σ (f_M_isWord F σ x1) := by
  unfold f_M_isWord
  refine Ct_of (d := 1) (kp := 0) (kd := 1) (own := RX11) (nL := 3) (ret := (some .boolean)) (LY := LYM) (LYe := LYM) (L := [some (.ref 0), some (vl x1), none]) rfl (by decide +kernel) rfl rfl mf_X11_190.2.2.2.1 rfl fun K => ?_
  refine a_aload_n dX11_isWord_0 rfl ?_
  refine a_getI fl_X11_143 lyM_0 rfl dX11_isWord_1 (key := 10) rfl ?_
  refine a_iconst dX11_isWord_4 ?_
  refine a_icmp_ne dX11_isWord_5 rfl (fun _ => ?_) (fun _ => ?_)
  · refine a_iconst dX11_isWord_21 ?_
    exact a_zretc (by decide) dX11_isWord_22
  refine a_aload_n dX11_isWord_8 rfl ?_
  refine a_getL fl_X11_156 lyM_0 rfl dX11_isWord_9 (key := 16) rfl ?_
  refine a_lload_n dX11_isWord_12 rfl ?_
  refine a_lcmp_ne dX11_isWord_13 dX11_isWord_14 rfl (fun _ => ?_) (fun _ => ?_)
  · refine a_iconst dX11_isWord_21 ?_
    exact a_zretc (by decide) dX11_isWord_22
  refine a_iconst dX11_isWord_17 ?_
  refine a_goto dX11_isWord_18 rfl ?_
  exact a_zretc (by decide) dX11_isWord_22
def f_M_isSign (F : Nat) (σ : St) (x1 : Int) : Option (Int × St) := gd (rng (gF σ 10) ∧ rng 3) (if (gF σ 10) = 3 then gd (rng (gF σ 13) ∧ rng x1) (if (gF σ 13) = x1 then some (1, σ) else some (0, σ)) else some (0, σ))
set_option maxRecDepth 100000 in
set_option maxHeartbeats 4000000 in
theorem c_M_isSign (F : Nat) (σ : St) (x1 : Int) : Ct 1 0 1 yX11_isSign cX11_isSign 2 (some .boolean) LYM LYM [.ref 0, vi x1] σ (f_M_isSign F σ x1) := by
  unfold f_M_isSign
  refine Ct_of (d := 1) (kp := 0) (kd := 1) (own := RX11) (nL := 2) (ret := (some .boolean)) (LY := LYM) (LYe := LYM) (L := [some (.ref 0), some (vi x1)]) rfl (by decide +kernel) rfl rfl mf_X11_166.2.2.2.1 rfl fun K => ?_
  refine a_aload_n dX11_isSign_0 rfl ?_
  refine a_getI fl_X11_143 lyM_0 rfl dX11_isSign_1 (key := 10) rfl ?_
  refine a_iconst dX11_isSign_4 ?_
  refine a_icmp_ne dX11_isSign_5 rfl (fun _ => ?_) (fun _ => ?_)
  · refine a_iconst dX11_isSign_20 ?_
    exact a_zretc (by decide) dX11_isSign_21
  refine a_aload_n dX11_isSign_8 rfl ?_
  refine a_getI fl_X11_153 lyM_0 rfl dX11_isSign_9 (key := 13) rfl ?_
  refine a_iload_n dX11_isSign_12 rfl ?_
  refine a_icmp_ne dX11_isSign_13 rfl (fun _ => ?_) (fun _ => ?_)
  · refine a_iconst dX11_isSign_20 ?_
    exact a_zretc (by decide) dX11_isSign_21
  refine a_iconst dX11_isSign_16 ?_
  refine a_goto dX11_isSign_17 rfl ?_
  exact a_zretc (by decide) dX11_isSign_21
def f_M_sign (F : Nat) (σ : St) (x1 : Int) : Option (Int × St) := bnd (f_M_isSign F σ x1) fun r1 σ2 => gd (rng r1) (if r1 = 0 then bnd (f_M_bad F σ2 1) fun r5 σ6 => gd (isb r5) (some (r5, σ6)) else bnd (f_M_next F σ2) fun r3 σ4 => some (1, σ4))
set_option maxRecDepth 100000 in
set_option maxHeartbeats 4000000 in
theorem c_M_sign (F : Nat) (σ : St) (x1 : Int) : Ct 3 0 1 yX11_sign cX11_sign 2 (some .boolean) LYM LYM [.ref 0, vi x1] σ (f_M_sign F σ x1) := by
  unfold f_M_sign
  refine Ct_of (d := 3) (kp := 0) (kd := 1) (own := RX11) (nL := 2) (ret := (some .boolean)) (LY := LYM) (LYe := LYM) (L := [some (.ref 0), some (vi x1)]) rfl (by decide +kernel) rfl rfl mf_X11_227.2.2.2.1 rfl fun K => ?_
  refine a_aload_n dX11_sign_0 rfl ?_
  refine a_iload_n dX11_sign_1 rfl ?_
  refine a_callVi (as := [vi x1]) mf_X11_166 lyM_0 rfl (c_M_isSign F _ _) LYsame.rf dX11_sign_2 rfl rfl rfl rfl rfl rfl (Or.inl rfl) fun r1 σ2 => ?_
  refine a_if_ne dX11_sign_5 rfl (fun _ => ?_) (fun _ => ?_)
  · refine a_aload_n dX11_sign_14 rfl ?_
    refine a_callVv (as := []) mf_X11_172 lyM_0 rfl (c_M_next F _) LYsame.rf dX11_sign_15 rfl rfl rfl rfl rfl rfl (Or.inl rfl) fun r3 σ4 => ?_
    refine a_iconst dX11_sign_18 ?_
    exact a_zretc (by decide) dX11_sign_19
  refine a_aload_n dX11_sign_8 rfl ?_
  refine a_iconst dX11_sign_9 ?_
  refine a_callVi (as := [vi 1]) mf_X11_169 lyM_0 rfl (c_M_bad F _ _) LYsame.rf dX11_sign_10 rfl rfl rfl rfl rfl rfl (Or.inl rfl) fun r5 σ6 => ?_
  exact a_zret dX11_sign_13
def b_M_isName_16 (F : Nat) (self : St → Int → Int → Option (Int × St)) (σ : St) (x1 x2 : Int) : Option (Int × St) := gd (rng x2 ∧ rng 8) (if (8 : Int) ≤ x2 then gd (isb x1) (some (x1, σ)) else gd (rng x1) (if x1 = 0 then bv (x2 + 1) fun x2_1 => self σ 0 x2_1 else gd (inb x2 8) (gd (rng64 (gF σ 16) ∧ rng64 (gA σ 5 (Int.toNat x2))) (if (gF σ 16) = (gA σ 5 (Int.toNat x2)) then bv (x2 + 1) fun x2_2 => self σ 0 x2_2 else bv (x2 + 1) fun x2_3 => self σ 1 x2_3))))
def l_M_isName_16 (F : Nat) : Nat → St → Int → Int → Option (Int × St)
  | 0 => fun _ _ _ => none
  | n + 1 => fun σ x1 x2 => b_M_isName_16 F (l_M_isName_16 F n) σ x1 x2
def f_M_isName (F : Nat) (σ : St) : Option (Int × St) := gd (rng (gF σ 10) ∧ rng 1) (if (gF σ 10) = 1 then l_M_isName_16 F F σ 1 0 else l_M_isName_16 F F σ 0 0)
set_option maxRecDepth 100000 in
set_option maxHeartbeats 4000000 in
theorem cb_M_isName_16 {K : KX} (F : Nat) (self : St → Int → Int → Option (Int × St)) (hself : ∀ σ x1 x2, WA 1 0 1 cX11_isName RX11 3 (some .boolean) LYM LYM K 16 [some (.ref 0), some (vi x1), some (vi x2)] [] σ (self σ x1 x2)) (σ : St) (x1 x2 : Int) : WA 1 0 1 cX11_isName RX11 3 (some .boolean) LYM LYM K 16 [some (.ref 0), some (vi x1), some (vi x2)] [] σ (b_M_isName_16 F self σ x1 x2) := by
  unfold b_M_isName_16
  refine a_iload_n dX11_isName_16 rfl ?_
  refine a_bipush dX11_isName_17 bi_8 ?_
  refine a_icmp_ge dX11_isName_19 rfl (fun _ => ?_) (fun _ => ?_)
  · refine a_iload_n dX11_isName_52 rfl ?_
    exact a_zret dX11_isName_53
  refine a_iload_n dX11_isName_22 rfl ?_
  refine a_if_eq dX11_isName_23 rfl (fun _ => ?_) (fun _ => ?_)
  · refine a_iconst dX11_isName_44 ?_
    refine a_istore_n (L' := [some (.ref 0), some (vi 0), some (vi x2)]) dX11_isName_45 rfl rfl rfl rfl ?_
    refine a_bv fun x2_1 ex2_1 => ?_
    refine a_iinc (y := x2_1) (L' := [some (.ref 0), some (vi 0), some (vi x2_1)]) dX11_isName_46 rfl ex2_1 rfl rfl rfl ?_
    refine a_goto dX11_isName_49 rfl ?_
    exact hself _ _ _
  refine a_aload_n dX11_isName_26 rfl ?_
  refine a_getL fl_X11_156 lyM_0 rfl dX11_isName_27 (key := 16) rfl ?_
  refine a_aload_n dX11_isName_30 rfl ?_
  refine a_getR (c0 := 5) fl_X11_44 lyM_0 rfl dX11_isName_31 (key := 9) rfl ?_
  refine a_iload_n dX11_isName_34 rfl ?_
  refine a_lald lyM_5 rfl dX11_isName_35 ?_
  refine a_lcmp_eq dX11_isName_36 dX11_isName_37 rfl (fun _ => ?_) (fun _ => ?_)
  · refine a_iconst dX11_isName_44 ?_
    refine a_istore_n (L' := [some (.ref 0), some (vi 0), some (vi x2)]) dX11_isName_45 rfl rfl rfl rfl ?_
    refine a_bv fun x2_2 ex2_2 => ?_
    refine a_iinc (y := x2_2) (L' := [some (.ref 0), some (vi 0), some (vi x2_2)]) dX11_isName_46 rfl ex2_2 rfl rfl rfl ?_
    refine a_goto dX11_isName_49 rfl ?_
    exact hself _ _ _
  refine a_iconst dX11_isName_40 ?_
  refine a_goto dX11_isName_41 rfl ?_
  refine a_istore_n (L' := [some (.ref 0), some (vi 1), some (vi x2)]) dX11_isName_45 rfl rfl rfl rfl ?_
  refine a_bv fun x2_3 ex2_3 => ?_
  refine a_iinc (y := x2_3) (L' := [some (.ref 0), some (vi 1), some (vi x2_3)]) dX11_isName_46 rfl ex2_3 rfl rfl rfl ?_
  refine a_goto dX11_isName_49 rfl ?_
  exact hself _ _ _
set_option maxRecDepth 100000 in
set_option maxHeartbeats 4000000 in
theorem cl_M_isName_16 {K : KX} (F : Nat) : ∀ (n : Nat) (σ : St) (x1 x2 : Int), WA 1 0 1 cX11_isName RX11 3 (some .boolean) LYM LYM K 16 [some (.ref 0), some (vi x1), some (vi x2)] [] σ (l_M_isName_16 F n σ x1 x2)
  | 0, _, _, _ => a_none
  | n + 1, σ, x1, x2 => cb_M_isName_16 F _ (cl_M_isName_16 F n) σ x1 x2
set_option maxRecDepth 100000 in
set_option maxHeartbeats 4000000 in
theorem c_M_isName (F : Nat) (σ : St) : Ct 1 0 1 yX11_isName cX11_isName 3 (some .boolean) LYM LYM [.ref 0] σ (f_M_isName F σ) := by
  unfold f_M_isName
  refine Ct_of (d := 1) (kp := 0) (kd := 1) (own := RX11) (nL := 3) (ret := (some .boolean)) (LY := LYM) (LYe := LYM) (L := [some (.ref 0), none, none]) rfl (by decide +kernel) rfl rfl mf_X11_182.2.2.2.1 rfl fun K => ?_
  refine a_aload_n dX11_isName_0 rfl ?_
  refine a_getI fl_X11_143 lyM_0 rfl dX11_isName_1 (key := 10) rfl ?_
  refine a_iconst dX11_isName_4 ?_
  refine a_icmp_ne dX11_isName_5 rfl (fun _ => ?_) (fun _ => ?_)
  · refine a_iconst dX11_isName_12 ?_
    refine a_istore_n (L' := [some (.ref 0), some (vi 0), none]) dX11_isName_13 rfl rfl rfl rfl ?_
    refine a_iconst dX11_isName_14 ?_
    refine a_istore_n (L' := [some (.ref 0), some (vi 0), some (vi 0)]) dX11_isName_15 rfl rfl rfl rfl ?_
    exact cl_M_isName_16 F F _ _ _
  refine a_iconst dX11_isName_8 ?_
  refine a_goto dX11_isName_9 rfl ?_
  refine a_istore_n (L' := [some (.ref 0), some (vi 1), none]) dX11_isName_13 rfl rfl rfl rfl ?_
  refine a_iconst dX11_isName_14 ?_
  refine a_istore_n (L' := [some (.ref 0), some (vi 1), some (vi 0)]) dX11_isName_15 rfl rfl rfl rfl ?_
  exact cl_M_isName_16 F F _ _ _
def f_M_takes (F : Nat) (σ : St) (x1 x2 : Int) : Option (Int × St) := gd (rng (gF σ 10) ∧ rng 2) (if (gF σ 10) = 2 then bnd (f_M_isIn F σ (gF σ 13) x1 x2) fun r1 σ2 => gd (rng r1) (if r1 = 0 then bnd (f_M_bad F σ2 2) fun r6 σ7 => gd (isb r6) (some (r6, σ7)) else bs (sF σ2 17 (gF σ2 13)) fun σ3 => bnd (f_M_next F σ3) fun r4 σ5 => some (1, σ5)) else bnd (f_M_bad F σ 1) fun r8 σ9 => gd (isb r8) (some (r8, σ9)))
set_option maxRecDepth 100000 in
set_option maxHeartbeats 4000000 in
theorem c_M_takes (F : Nat) (σ : St) (x1 x2 : Int) : Ct 3 0 1 yX11_takes cX11_takes 3 (some .boolean) LYM LYM [.ref 0, vi x1, vi x2] σ (f_M_takes F σ x1 x2) := by
  unfold f_M_takes
  refine Ct_of (d := 3) (kp := 0) (kd := 1) (own := RX11) (nL := 3) (ret := (some .boolean)) (LY := LYM) (LYe := LYM) (L := [some (.ref 0), some (vi x1), some (vi x2)]) rfl (by decide +kernel) rfl rfl mf_X11_198.2.2.2.1 rfl fun K => ?_
  refine a_aload_n dX11_takes_0 rfl ?_
  refine a_getI fl_X11_143 lyM_0 rfl dX11_takes_1 (key := 10) rfl ?_
  refine a_iconst dX11_takes_4 ?_
  refine a_icmp_eq dX11_takes_5 rfl (fun _ => ?_) (fun _ => ?_)
  · refine a_aload_n dX11_takes_14 rfl ?_
    refine a_getI fl_X11_153 lyM_0 rfl dX11_takes_15 (key := 13) rfl ?_
    refine a_iload_n dX11_takes_18 rfl ?_
    refine a_iload_n dX11_takes_19 rfl ?_
    refine a_callSi (as := [vi (gF σ 13), vi x1, vi x2]) mf_X11_175 (c_M_isIn F _ _ _ _) LYsame.rf dX11_takes_20 rfl rfl rfl rfl rfl rfl (Or.inl rfl) fun r1 σ2 => ?_
    refine a_if_ne dX11_takes_23 rfl (fun _ => ?_) (fun _ => ?_)
    · refine a_aload_n dX11_takes_32 rfl ?_
      refine a_aload_n dX11_takes_33 rfl ?_
      refine a_getI fl_X11_153 lyM_0 rfl dX11_takes_34 (key := 13) rfl ?_
      refine a_putI fl_X11_179 cf_X11 rfl rfl lyM_0 rfl dX11_takes_37 (key := 17) rfl fun σ3 => ?_
      refine a_aload_n dX11_takes_40 rfl ?_
      refine a_callVv (as := []) mf_X11_172 lyM_0 rfl (c_M_next F _) LYsame.rf dX11_takes_41 rfl rfl rfl rfl rfl rfl (Or.inl rfl) fun r4 σ5 => ?_
      refine a_iconst dX11_takes_44 ?_
      exact a_zretc (by decide) dX11_takes_45
    refine a_aload_n dX11_takes_26 rfl ?_
    refine a_iconst dX11_takes_27 ?_
    refine a_callVi (as := [vi 2]) mf_X11_169 lyM_0 rfl (c_M_bad F _ _) LYsame.rf dX11_takes_28 rfl rfl rfl rfl rfl rfl (Or.inl rfl) fun r6 σ7 => ?_
    exact a_zret dX11_takes_31
  refine a_aload_n dX11_takes_8 rfl ?_
  refine a_iconst dX11_takes_9 ?_
  refine a_callVi (as := [vi 1]) mf_X11_169 lyM_0 rfl (c_M_bad F _ _) LYsame.rf dX11_takes_10 rfl rfl rfl rfl rfl rfl (Or.inl rfl) fun r8 σ9 => ?_
  exact a_zret dX11_takes_13
def b_M_find_2 (F : Nat) (self : St → Int → Int → Int → Option (Int × St)) (σ : St) (x1 x2 x3 : Int) : Option (Int × St) := gd (rng x3 ∧ rng x2) (if x2 ≤ x3 then some ((-1), σ) else gd (inb (x1 + x3) 20) (gd (rng64 (gA σ 4 (Int.toNat (x1 + x3))) ∧ rng64 (gF σ 16)) (if (gA σ 4 (Int.toNat (x1 + x3))) = (gF σ 16) then some (x3, σ) else bv (x3 + 1) fun x3_1 => self σ x1 x2 x3_1)))
def l_M_find_2 (F : Nat) : Nat → St → Int → Int → Int → Option (Int × St)
  | 0 => fun _ _ _ _ => none
  | n + 1 => fun σ x1 x2 x3 => b_M_find_2 F (l_M_find_2 F n) σ x1 x2 x3
def f_M_find (F : Nat) (σ : St) (x1 x2 : Int) : Option (Int × St) := l_M_find_2 F F σ x1 x2 0
set_option maxRecDepth 100000 in
set_option maxHeartbeats 4000000 in
theorem cb_M_find_2 {K : KX} (F : Nat) (self : St → Int → Int → Int → Option (Int × St)) (hself : ∀ σ x1 x2 x3, WA 1 0 1 cX11_find RX11 4 (some .int) LYM LYM K 2 [some (.ref 0), some (vi x1), some (vi x2), some (vi x3)] [] σ (self σ x1 x2 x3)) (σ : St) (x1 x2 x3 : Int) : WA 1 0 1 cX11_find RX11 4 (some .int) LYM LYM K 2 [some (.ref 0), some (vi x1), some (vi x2), some (vi x3)] [] σ (b_M_find_2 F self σ x1 x2 x3) := by
  unfold b_M_find_2
  refine a_iload_n dX11_find_2 rfl ?_
  refine a_iload_n dX11_find_3 rfl ?_
  refine a_icmp_ge dX11_find_4 rfl (fun _ => ?_) (fun _ => ?_)
  · refine a_iconst dX11_find_31 ?_
    exact a_iret dX11_find_32
  refine a_aload_n dX11_find_7 rfl ?_
  refine a_getR (c0 := 4) fl_X11_40 lyM_0 rfl dX11_find_8 (key := 8) rfl ?_
  refine a_iload_n dX11_find_11 rfl ?_
  refine a_iload_n dX11_find_12 rfl ?_
  refine a_iadd dX11_find_13 ?_
  refine a_lald lyM_4 rfl dX11_find_14 ?_
  refine a_aload_n dX11_find_15 rfl ?_
  refine a_getL fl_X11_156 lyM_0 rfl dX11_find_16 (key := 16) rfl ?_
  refine a_lcmp_ne dX11_find_19 dX11_find_20 rfl (fun _ => ?_) (fun _ => ?_)
  · refine a_bv fun x3_1 ex3_1 => ?_
    refine a_iinc (y := x3_1) (L' := [some (.ref 0), some (vi x1), some (vi x2), some (vi x3_1)]) dX11_find_25 rfl ex3_1 rfl rfl rfl ?_
    refine a_goto dX11_find_28 rfl ?_
    exact hself _ _ _ _
  refine a_iload_n dX11_find_23 rfl ?_
  exact a_iret dX11_find_24
set_option maxRecDepth 100000 in
set_option maxHeartbeats 4000000 in
theorem cl_M_find_2 {K : KX} (F : Nat) : ∀ (n : Nat) (σ : St) (x1 x2 x3 : Int), WA 1 0 1 cX11_find RX11 4 (some .int) LYM LYM K 2 [some (.ref 0), some (vi x1), some (vi x2), some (vi x3)] [] σ (l_M_find_2 F n σ x1 x2 x3)
  | 0, _, _, _, _ => a_none
  | n + 1, σ, x1, x2, x3 => cb_M_find_2 F _ (cl_M_find_2 F n) σ x1 x2 x3
set_option maxRecDepth 100000 in
set_option maxHeartbeats 4000000 in
theorem c_M_find (F : Nat) (σ : St) (x1 x2 : Int) : Ct 1 0 1 yX11_find cX11_find 4 (some .int) LYM LYM [.ref 0, vi x1, vi x2] σ (f_M_find F σ x1 x2) := by
  unfold f_M_find
  refine Ct_of (d := 1) (kp := 0) (kd := 1) (own := RX11) (nL := 4) (ret := (some .int)) (LY := LYM) (LYe := LYM) (L := [some (.ref 0), some (vi x1), some (vi x2), none]) rfl (by decide +kernel) rfl rfl mf_X11_186.2.2.2.1 rfl fun K => ?_
  refine a_iconst dX11_find_0 ?_
  refine a_istore_n (L' := [some (.ref 0), some (vi x1), some (vi x2), some (vi 0)]) dX11_find_1 rfl rfl rfl rfl ?_
  exact cl_M_find_2 F F _ _ _ _
def f_M_fresh (F : Nat) (σ : St) (x1 : Int) : Option (Int × St) := bnd (f_M_isName F σ) fun r1 σ2 => gd (rng r1) (if r1 = 0 then bnd (f_M_bad F σ2 1) fun r14 σ15 => gd (isb r14) (some (r14, σ15)) else gd (inb 2 82) (bnd (f_M_find F σ2 10 (gA σ2 3 (Int.toNat 2))) fun r3 σ4 => gd (rng r3) (if (0 : Int) ≤ r3 then bnd (f_M_bad F σ4 3) fun r5 σ6 => gd (isb r5) (some (r5, σ6)) else gd (inb 3 82) (bnd (f_M_find F σ4 16 (gA σ4 3 (Int.toNat 3))) fun r7 σ8 => gd (rng r7) (if r7 < 0 then gd (inb x1 20) (bs (sA σ8 4 (Int.toNat x1) (gF σ8 16)) fun σ9 => bnd (f_M_next F σ9) fun r10 σ11 => some (1, σ11)) else bnd (f_M_bad F σ8 3) fun r12 σ13 => gd (isb r12) (some (r12, σ13)))))))
set_option maxRecDepth 100000 in
set_option maxHeartbeats 4000000 in
theorem c_M_fresh (F : Nat) (σ : St) (x1 : Int) : Ct 3 0 1 yX11_fresh cX11_fresh 2 (some .boolean) LYM LYM [.ref 0, vi x1] σ (f_M_fresh F σ x1) := by
  unfold f_M_fresh
  refine Ct_of (d := 3) (kp := 0) (kd := 1) (own := RX11) (nL := 2) (ret := (some .boolean)) (LY := LYM) (LYe := LYM) (L := [some (.ref 0), some (vi x1)]) rfl (by decide +kernel) rfl rfl mf_X11_208.2.2.2.1 rfl fun K => ?_
  refine a_aload_n dX11_fresh_0 rfl ?_
  refine a_callVi (as := []) mf_X11_182 lyM_0 rfl (c_M_isName F _) LYsame.rf dX11_fresh_1 rfl rfl rfl rfl rfl rfl (Or.inl rfl) fun r1 σ2 => ?_
  refine a_if_ne dX11_fresh_4 rfl (fun _ => ?_) (fun _ => ?_)
  · refine a_aload_n dX11_fresh_13 rfl ?_
    refine a_bipush dX11_fresh_14 bi_10 ?_
    refine a_aload_n dX11_fresh_16 rfl ?_
    refine a_getR (c0 := 3) fl_X11_37 lyM_0 rfl dX11_fresh_17 (key := 7) rfl ?_
    refine a_iconst dX11_fresh_20 ?_
    refine a_iald lyM_3 rfl dX11_fresh_21 ?_
    refine a_callVi (as := [vi 10, vi (gA σ2 3 (Int.toNat 2))]) mf_X11_186 lyM_0 rfl (c_M_find F _ _ _) LYsame.rf dX11_fresh_22 rfl rfl rfl rfl rfl rfl (Or.inl rfl) fun r3 σ4 => ?_
    refine a_if_ge dX11_fresh_25 rfl (fun _ => ?_) (fun _ => ?_)
    · refine a_aload_n dX11_fresh_43 rfl ?_
      refine a_iconst dX11_fresh_44 ?_
      refine a_callVi (as := [vi 3]) mf_X11_169 lyM_0 rfl (c_M_bad F _ _) LYsame.rf dX11_fresh_45 rfl rfl rfl rfl rfl rfl (Or.inl rfl) fun r5 σ6 => ?_
      exact a_zret dX11_fresh_48
    refine a_aload_n dX11_fresh_28 rfl ?_
    refine a_bipush dX11_fresh_29 bi_16 ?_
    refine a_aload_n dX11_fresh_31 rfl ?_
    refine a_getR (c0 := 3) fl_X11_37 lyM_0 rfl dX11_fresh_32 (key := 7) rfl ?_
    refine a_iconst dX11_fresh_35 ?_
    refine a_iald lyM_3 rfl dX11_fresh_36 ?_
    refine a_callVi (as := [vi 16, vi (gA σ4 3 (Int.toNat 3))]) mf_X11_186 lyM_0 rfl (c_M_find F _ _ _) LYsame.rf dX11_fresh_37 rfl rfl rfl rfl rfl rfl (Or.inl rfl) fun r7 σ8 => ?_
    refine a_if_lt dX11_fresh_40 rfl (fun _ => ?_) (fun _ => ?_)
    · refine a_aload_n dX11_fresh_49 rfl ?_
      refine a_getR (c0 := 4) fl_X11_40 lyM_0 rfl dX11_fresh_50 (key := 8) rfl ?_
      refine a_iload_n dX11_fresh_53 rfl ?_
      refine a_aload_n dX11_fresh_54 rfl ?_
      refine a_getL fl_X11_156 lyM_0 rfl dX11_fresh_55 (key := 16) rfl ?_
      refine a_last lyM_4 rfl dX11_fresh_58 fun σ9 => ?_
      refine a_aload_n dX11_fresh_59 rfl ?_
      refine a_callVv (as := []) mf_X11_172 lyM_0 rfl (c_M_next F _) LYsame.rf dX11_fresh_60 rfl rfl rfl rfl rfl rfl (Or.inl rfl) fun r10 σ11 => ?_
      refine a_iconst dX11_fresh_63 ?_
      exact a_zretc (by decide) dX11_fresh_64
    refine a_aload_n dX11_fresh_43 rfl ?_
    refine a_iconst dX11_fresh_44 ?_
    refine a_callVi (as := [vi 3]) mf_X11_169 lyM_0 rfl (c_M_bad F _ _) LYsame.rf dX11_fresh_45 rfl rfl rfl rfl rfl rfl (Or.inl rfl) fun r12 σ13 => ?_
    exact a_zret dX11_fresh_48
  refine a_aload_n dX11_fresh_7 rfl ?_
  refine a_iconst dX11_fresh_8 ?_
  refine a_callVi (as := [vi 1]) mf_X11_169 lyM_0 rfl (c_M_bad F _ _) LYsame.rf dX11_fresh_9 rfl rfl rfl rfl rfl rfl (Or.inl rfl) fun r14 σ15 => ?_
  exact a_zret dX11_fresh_12
def f_M_takesSigned (F : Nat) (σ : St) (x1 : Int) : Option (Int × St) := bnd (f_M_isSign F σ 45) fun r1 σ2 => gd (rng r1) (if r1 = 0 then gd (rng (gF σ2 10) ∧ rng 2) (if (gF σ2 10) = 2 then gd (rng (gF σ2 13) ∧ rng 99) (if (99 : Int) < (gF σ2 13) then bnd (f_M_bad F σ2 2) fun r3 σ4 => gd (isb r3) (some (r3, σ4)) else gd (rng x1) (if x1 = 0 then gd (rng r1) (if r1 = 0 then bs (sF σ2 17 (gF σ2 13)) fun σ5 => bnd (f_M_next F σ5) fun r6 σ7 => some (1, σ7) else bs (sF σ2 17 (-(gF σ2 13))) fun σ8 => bnd (f_M_next F σ8) fun r9 σ10 => some (1, σ10)) else gd (rng (gF σ2 13)) (if (gF σ2 13) = 0 then bnd (f_M_bad F σ2 2) fun r17 σ18 => gd (isb r17) (some (r17, σ18)) else gd (rng r1) (if r1 = 0 then bs (sF σ2 17 (gF σ2 13)) fun σ11 => bnd (f_M_next F σ11) fun r12 σ13 => some (1, σ13) else bs (sF σ2 17 (-(gF σ2 13))) fun σ14 => bnd (f_M_next F σ14) fun r15 σ16 => some (1, σ16))))) else bnd (f_M_bad F σ2 1) fun r19 σ20 => gd (isb r19) (some (r19, σ20))) else bnd (f_M_next F σ2) fun r21 σ22 => gd (rng (gF σ22 10) ∧ rng 2) (if (gF σ22 10) = 2 then gd (rng (gF σ22 13) ∧ rng 99) (if (99 : Int) < (gF σ22 13) then bnd (f_M_bad F σ22 2) fun r23 σ24 => gd (isb r23) (some (r23, σ24)) else gd (rng x1) (if x1 = 0 then gd (rng r1) (if r1 = 0 then bs (sF σ22 17 (gF σ22 13)) fun σ25 => bnd (f_M_next F σ25) fun r26 σ27 => some (1, σ27) else bs (sF σ22 17 (-(gF σ22 13))) fun σ28 => bnd (f_M_next F σ28) fun r29 σ30 => some (1, σ30)) else gd (rng (gF σ22 13)) (if (gF σ22 13) = 0 then bnd (f_M_bad F σ22 2) fun r37 σ38 => gd (isb r37) (some (r37, σ38)) else gd (rng r1) (if r1 = 0 then bs (sF σ22 17 (gF σ22 13)) fun σ31 => bnd (f_M_next F σ31) fun r32 σ33 => some (1, σ33) else bs (sF σ22 17 (-(gF σ22 13))) fun σ34 => bnd (f_M_next F σ34) fun r35 σ36 => some (1, σ36))))) else bnd (f_M_bad F σ22 1) fun r39 σ40 => gd (isb r39) (some (r39, σ40))))
set_option maxRecDepth 100000 in
set_option maxHeartbeats 4000000 in
theorem c_M_takesSigned (F : Nat) (σ : St) (x1 : Int) : Ct 3 0 1 yX11_takesSigned cX11_takesSigned 3 (some .boolean) LYM LYM [.ref 0, vi x1] σ (f_M_takesSigned F σ x1) := by
  unfold f_M_takesSigned
  refine Ct_of (d := 3) (kp := 0) (kd := 1) (own := RX11) (nL := 3) (ret := (some .boolean)) (LY := LYM) (LYe := LYM) (L := [some (.ref 0), some (vi x1), none]) rfl (by decide +kernel) rfl rfl mf_X11_211.2.2.2.1 rfl fun K => ?_
  refine a_aload_n dX11_takesSigned_0 rfl ?_
  refine a_bipush dX11_takesSigned_1 bi_45 ?_
  refine a_callVi (as := [vi 45]) mf_X11_166 lyM_0 rfl (c_M_isSign F _ _) LYsame.rf dX11_takesSigned_3 rfl rfl rfl rfl rfl rfl (Or.inl rfl) fun r1 σ2 => ?_
  refine a_istore_n (L' := [some (.ref 0), some (vi x1), some (vi r1)]) dX11_takesSigned_6 rfl rfl rfl rfl ?_
  refine a_iload_n dX11_takesSigned_7 rfl ?_
  refine a_if_eq dX11_takesSigned_8 rfl (fun _ => ?_) (fun _ => ?_)
  · refine a_aload_n dX11_takesSigned_15 rfl ?_
    refine a_getI fl_X11_143 lyM_0 rfl dX11_takesSigned_16 (key := 10) rfl ?_
    refine a_iconst dX11_takesSigned_19 ?_
    refine a_icmp_eq dX11_takesSigned_20 rfl (fun _ => ?_) (fun _ => ?_)
    · refine a_aload_n dX11_takesSigned_29 rfl ?_
      refine a_getI fl_X11_153 lyM_0 rfl dX11_takesSigned_30 (key := 13) rfl ?_
      refine a_bipush dX11_takesSigned_33 bi_99 ?_
      refine a_icmp_gt dX11_takesSigned_35 rfl (fun _ => ?_) (fun _ => ?_)
      · refine a_aload_n dX11_takesSigned_49 rfl ?_
        refine a_iconst dX11_takesSigned_50 ?_
        refine a_callVi (as := [vi 2]) mf_X11_169 lyM_0 rfl (c_M_bad F _ _) LYsame.rf dX11_takesSigned_51 rfl rfl rfl rfl rfl rfl (Or.inl rfl) fun r3 σ4 => ?_
        exact a_zret dX11_takesSigned_54
      refine a_iload_n dX11_takesSigned_38 rfl ?_
      refine a_if_eq dX11_takesSigned_39 rfl (fun _ => ?_) (fun _ => ?_)
      · refine a_aload_n dX11_takesSigned_55 rfl ?_
        refine a_iload_n dX11_takesSigned_56 rfl ?_
        refine a_if_eq dX11_takesSigned_57 rfl (fun _ => ?_) (fun _ => ?_)
        · refine a_aload_n dX11_takesSigned_68 rfl ?_
          refine a_getI fl_X11_153 lyM_0 rfl dX11_takesSigned_69 (key := 13) rfl ?_
          refine a_putI fl_X11_179 cf_X11 rfl rfl lyM_0 rfl dX11_takesSigned_72 (key := 17) rfl fun σ5 => ?_
          refine a_aload_n dX11_takesSigned_75 rfl ?_
          refine a_callVv (as := []) mf_X11_172 lyM_0 rfl (c_M_next F _) LYsame.rf dX11_takesSigned_76 rfl rfl rfl rfl rfl rfl (Or.inl rfl) fun r6 σ7 => ?_
          refine a_iconst dX11_takesSigned_79 ?_
          exact a_zretc (by decide) dX11_takesSigned_80
        refine a_aload_n dX11_takesSigned_60 rfl ?_
        refine a_getI fl_X11_153 lyM_0 rfl dX11_takesSigned_61 (key := 13) rfl ?_
        refine a_ineg dX11_takesSigned_64 ?_
        refine a_goto dX11_takesSigned_65 rfl ?_
        refine a_putI fl_X11_179 cf_X11 rfl rfl lyM_0 rfl dX11_takesSigned_72 (key := 17) rfl fun σ8 => ?_
        refine a_aload_n dX11_takesSigned_75 rfl ?_
        refine a_callVv (as := []) mf_X11_172 lyM_0 rfl (c_M_next F _) LYsame.rf dX11_takesSigned_76 rfl rfl rfl rfl rfl rfl (Or.inl rfl) fun r9 σ10 => ?_
        refine a_iconst dX11_takesSigned_79 ?_
        exact a_zretc (by decide) dX11_takesSigned_80
      refine a_aload_n dX11_takesSigned_42 rfl ?_
      refine a_getI fl_X11_153 lyM_0 rfl dX11_takesSigned_43 (key := 13) rfl ?_
      refine a_if_ne dX11_takesSigned_46 rfl (fun _ => ?_) (fun _ => ?_)
      · refine a_aload_n dX11_takesSigned_55 rfl ?_
        refine a_iload_n dX11_takesSigned_56 rfl ?_
        refine a_if_eq dX11_takesSigned_57 rfl (fun _ => ?_) (fun _ => ?_)
        · refine a_aload_n dX11_takesSigned_68 rfl ?_
          refine a_getI fl_X11_153 lyM_0 rfl dX11_takesSigned_69 (key := 13) rfl ?_
          refine a_putI fl_X11_179 cf_X11 rfl rfl lyM_0 rfl dX11_takesSigned_72 (key := 17) rfl fun σ11 => ?_
          refine a_aload_n dX11_takesSigned_75 rfl ?_
          refine a_callVv (as := []) mf_X11_172 lyM_0 rfl (c_M_next F _) LYsame.rf dX11_takesSigned_76 rfl rfl rfl rfl rfl rfl (Or.inl rfl) fun r12 σ13 => ?_
          refine a_iconst dX11_takesSigned_79 ?_
          exact a_zretc (by decide) dX11_takesSigned_80
        refine a_aload_n dX11_takesSigned_60 rfl ?_
        refine a_getI fl_X11_153 lyM_0 rfl dX11_takesSigned_61 (key := 13) rfl ?_
        refine a_ineg dX11_takesSigned_64 ?_
        refine a_goto dX11_takesSigned_65 rfl ?_
        refine a_putI fl_X11_179 cf_X11 rfl rfl lyM_0 rfl dX11_takesSigned_72 (key := 17) rfl fun σ14 => ?_
        refine a_aload_n dX11_takesSigned_75 rfl ?_
        refine a_callVv (as := []) mf_X11_172 lyM_0 rfl (c_M_next F _) LYsame.rf dX11_takesSigned_76 rfl rfl rfl rfl rfl rfl (Or.inl rfl) fun r15 σ16 => ?_
        refine a_iconst dX11_takesSigned_79 ?_
        exact a_zretc (by decide) dX11_takesSigned_80
      refine a_aload_n dX11_takesSigned_49 rfl ?_
      refine a_iconst dX11_takesSigned_50 ?_
      refine a_callVi (as := [vi 2]) mf_X11_169 lyM_0 rfl (c_M_bad F _ _) LYsame.rf dX11_takesSigned_51 rfl rfl rfl rfl rfl rfl (Or.inl rfl) fun r17 σ18 => ?_
      exact a_zret dX11_takesSigned_54
    refine a_aload_n dX11_takesSigned_23 rfl ?_
    refine a_iconst dX11_takesSigned_24 ?_
    refine a_callVi (as := [vi 1]) mf_X11_169 lyM_0 rfl (c_M_bad F _ _) LYsame.rf dX11_takesSigned_25 rfl rfl rfl rfl rfl rfl (Or.inl rfl) fun r19 σ20 => ?_
    exact a_zret dX11_takesSigned_28
  refine a_aload_n dX11_takesSigned_11 rfl ?_
  refine a_callVv (as := []) mf_X11_172 lyM_0 rfl (c_M_next F _) LYsame.rf dX11_takesSigned_12 rfl rfl rfl rfl rfl rfl (Or.inl rfl) fun r21 σ22 => ?_
  refine a_aload_n dX11_takesSigned_15 rfl ?_
  refine a_getI fl_X11_143 lyM_0 rfl dX11_takesSigned_16 (key := 10) rfl ?_
  refine a_iconst dX11_takesSigned_19 ?_
  refine a_icmp_eq dX11_takesSigned_20 rfl (fun _ => ?_) (fun _ => ?_)
  · refine a_aload_n dX11_takesSigned_29 rfl ?_
    refine a_getI fl_X11_153 lyM_0 rfl dX11_takesSigned_30 (key := 13) rfl ?_
    refine a_bipush dX11_takesSigned_33 bi_99 ?_
    refine a_icmp_gt dX11_takesSigned_35 rfl (fun _ => ?_) (fun _ => ?_)
    · refine a_aload_n dX11_takesSigned_49 rfl ?_
      refine a_iconst dX11_takesSigned_50 ?_
      refine a_callVi (as := [vi 2]) mf_X11_169 lyM_0 rfl (c_M_bad F _ _) LYsame.rf dX11_takesSigned_51 rfl rfl rfl rfl rfl rfl (Or.inl rfl) fun r23 σ24 => ?_
      exact a_zret dX11_takesSigned_54
    refine a_iload_n dX11_takesSigned_38 rfl ?_
    refine a_if_eq dX11_takesSigned_39 rfl (fun _ => ?_) (fun _ => ?_)
    · refine a_aload_n dX11_takesSigned_55 rfl ?_
      refine a_iload_n dX11_takesSigned_56 rfl ?_
      refine a_if_eq dX11_takesSigned_57 rfl (fun _ => ?_) (fun _ => ?_)
      · refine a_aload_n dX11_takesSigned_68 rfl ?_
        refine a_getI fl_X11_153 lyM_0 rfl dX11_takesSigned_69 (key := 13) rfl ?_
        refine a_putI fl_X11_179 cf_X11 rfl rfl lyM_0 rfl dX11_takesSigned_72 (key := 17) rfl fun σ25 => ?_
        refine a_aload_n dX11_takesSigned_75 rfl ?_
        refine a_callVv (as := []) mf_X11_172 lyM_0 rfl (c_M_next F _) LYsame.rf dX11_takesSigned_76 rfl rfl rfl rfl rfl rfl (Or.inl rfl) fun r26 σ27 => ?_
        refine a_iconst dX11_takesSigned_79 ?_
        exact a_zretc (by decide) dX11_takesSigned_80
      refine a_aload_n dX11_takesSigned_60 rfl ?_
      refine a_getI fl_X11_153 lyM_0 rfl dX11_takesSigned_61 (key := 13) rfl ?_
      refine a_ineg dX11_takesSigned_64 ?_
      refine a_goto dX11_takesSigned_65 rfl ?_
      refine a_putI fl_X11_179 cf_X11 rfl rfl lyM_0 rfl dX11_takesSigned_72 (key := 17) rfl fun σ28 => ?_
      refine a_aload_n dX11_takesSigned_75 rfl ?_
      refine a_callVv (as := []) mf_X11_172 lyM_0 rfl (c_M_next F _) LYsame.rf dX11_takesSigned_76 rfl rfl rfl rfl rfl rfl (Or.inl rfl) fun r29 σ30 => ?_
      refine a_iconst dX11_takesSigned_79 ?_
      exact a_zretc (by decide) dX11_takesSigned_80
    refine a_aload_n dX11_takesSigned_42 rfl ?_
    refine a_getI fl_X11_153 lyM_0 rfl dX11_takesSigned_43 (key := 13) rfl ?_
    refine a_if_ne dX11_takesSigned_46 rfl (fun _ => ?_) (fun _ => ?_)
    · refine a_aload_n dX11_takesSigned_55 rfl ?_
      refine a_iload_n dX11_takesSigned_56 rfl ?_
      refine a_if_eq dX11_takesSigned_57 rfl (fun _ => ?_) (fun _ => ?_)
      · refine a_aload_n dX11_takesSigned_68 rfl ?_
        refine a_getI fl_X11_153 lyM_0 rfl dX11_takesSigned_69 (key := 13) rfl ?_
        refine a_putI fl_X11_179 cf_X11 rfl rfl lyM_0 rfl dX11_takesSigned_72 (key := 17) rfl fun σ31 => ?_
        refine a_aload_n dX11_takesSigned_75 rfl ?_
        refine a_callVv (as := []) mf_X11_172 lyM_0 rfl (c_M_next F _) LYsame.rf dX11_takesSigned_76 rfl rfl rfl rfl rfl rfl (Or.inl rfl) fun r32 σ33 => ?_
        refine a_iconst dX11_takesSigned_79 ?_
        exact a_zretc (by decide) dX11_takesSigned_80
      refine a_aload_n dX11_takesSigned_60 rfl ?_
      refine a_getI fl_X11_153 lyM_0 rfl dX11_takesSigned_61 (key := 13) rfl ?_
      refine a_ineg dX11_takesSigned_64 ?_
      refine a_goto dX11_takesSigned_65 rfl ?_
      refine a_putI fl_X11_179 cf_X11 rfl rfl lyM_0 rfl dX11_takesSigned_72 (key := 17) rfl fun σ34 => ?_
      refine a_aload_n dX11_takesSigned_75 rfl ?_
      refine a_callVv (as := []) mf_X11_172 lyM_0 rfl (c_M_next F _) LYsame.rf dX11_takesSigned_76 rfl rfl rfl rfl rfl rfl (Or.inl rfl) fun r35 σ36 => ?_
      refine a_iconst dX11_takesSigned_79 ?_
      exact a_zretc (by decide) dX11_takesSigned_80
    refine a_aload_n dX11_takesSigned_49 rfl ?_
    refine a_iconst dX11_takesSigned_50 ?_
    refine a_callVi (as := [vi 2]) mf_X11_169 lyM_0 rfl (c_M_bad F _ _) LYsame.rf dX11_takesSigned_51 rfl rfl rfl rfl rfl rfl (Or.inl rfl) fun r37 σ38 => ?_
    exact a_zret dX11_takesSigned_54
  refine a_aload_n dX11_takesSigned_23 rfl ?_
  refine a_iconst dX11_takesSigned_24 ?_
  refine a_callVi (as := [vi 1]) mf_X11_169 lyM_0 rfl (c_M_bad F _ _) LYsame.rf dX11_takesSigned_25 rfl rfl rfl rfl rfl rfl (Or.inl rfl) fun r39 σ40 => ?_
  exact a_zret dX11_takesSigned_28
def f_M_readBearing (F : Nat) (σ : St) : Option (Int × St) := gd (inb 4 82) (bv (gA σ 3 (Int.toNat 4)) fun x1_1 => gd (rng x1_1 ∧ rng 8) (if x1_1 = 8 then bnd (f_M_bad F σ 4) fun r29 σ30 => gd (isb r29) (some (r29, σ30)) else bnd (f_M_next F σ) fun r2 σ3 => bnd (f_M_isName F σ3) fun r4 σ5 => gd (rng r4) (if r4 = 0 then bnd (f_M_bad F σ5 1) fun r27 σ28 => gd (isb r27) (some (r27, σ28)) else gd (inb 3 82) (bnd (f_M_find F σ5 16 (gA σ5 3 (Int.toNat 3))) fun r6 σ7 => gd (rng r6) (if (0 : Int) ≤ r6 then bnd (f_M_next F σ7) fun r8 σ9 => bnd (f_M_takesSigned F σ9 0) fun r10 σ11 => gd (rng r10) (if r10 = 0 then some (0, σ11) else bv (gF σ11 17) fun x3_12 => gd (rng x3_12) (if x3_12 = 0 then bnd (f_M_takesSigned F σ11 1) fun r19 σ20 => gd (rng r19) (if r19 = 0 then some (0, σ20) else gd (inb (58 + (3 * x1_1)) 82) (bs (sA σ20 3 (Int.toNat (58 + (3 * x1_1))) r6) fun σ21 => gd (inb ((58 + (3 * x1_1)) + 1) 82) (bs (sA σ21 3 (Int.toNat ((58 + (3 * x1_1)) + 1)) x3_12) fun σ22 => gd (inb ((58 + (3 * x1_1)) + 2) 82) (bs (sA σ22 3 (Int.toNat ((58 + (3 * x1_1)) + 2)) (gF σ22 17)) fun σ23 => gd (inb 4 82) (gd (inb 4 82) (bs (sA σ23 3 (Int.toNat 4) ((gA σ23 3 (Int.toNat 4)) + 1)) fun σ24 => some (1, σ24))))))) else bnd (f_M_takesSigned F σ11 0) fun r13 σ14 => gd (rng r13) (if r13 = 0 then some (0, σ14) else gd (inb (58 + (3 * x1_1)) 82) (bs (sA σ14 3 (Int.toNat (58 + (3 * x1_1))) r6) fun σ15 => gd (inb ((58 + (3 * x1_1)) + 1) 82) (bs (sA σ15 3 (Int.toNat ((58 + (3 * x1_1)) + 1)) x3_12) fun σ16 => gd (inb ((58 + (3 * x1_1)) + 2) 82) (bs (sA σ16 3 (Int.toNat ((58 + (3 * x1_1)) + 2)) (gF σ16 17)) fun σ17 => gd (inb 4 82) (gd (inb 4 82) (bs (sA σ17 3 (Int.toNat 4) ((gA σ17 3 (Int.toNat 4)) + 1)) fun σ18 => some (1, σ18))))))))) else bnd (f_M_bad F σ7 3) fun r25 σ26 => gd (isb r25) (some (r25, σ26)))))))
set_option maxRecDepth 100000 in
set_option maxHeartbeats 4000000 in
theorem c_M_readBearing (F : Nat) (σ : St) : Ct 4 0 1 yX11_readBearing cX11_readBearing 4 (some .boolean) LYM LYM [.ref 0] σ (f_M_readBearing F σ) := by
  unfold f_M_readBearing
  refine Ct_of (d := 4) (kp := 0) (kd := 1) (own := RX11) (nL := 4) (ret := (some .boolean)) (LY := LYM) (LYe := LYM) (L := [some (.ref 0), none, none, none]) rfl (by decide +kernel) rfl rfl mf_X11_215.2.2.2.1 rfl fun K => ?_
  refine a_aload_n dX11_readBearing_0 rfl ?_
  refine a_getR (c0 := 3) fl_X11_37 lyM_0 rfl dX11_readBearing_1 (key := 7) rfl ?_
  refine a_iconst dX11_readBearing_4 ?_
  refine a_iald lyM_3 rfl dX11_readBearing_5 ?_
  refine a_bv fun x1_1 ex1_1 => ?_
  refine a_istore_n (y := x1_1) (L' := [some (.ref 0), some (vi x1_1), none, none]) dX11_readBearing_6 ex1_1 rfl rfl rfl ?_
  refine a_iload_n dX11_readBearing_7 rfl ?_
  refine a_bipush dX11_readBearing_8 bi_8 ?_
  refine a_icmp_ne dX11_readBearing_10 rfl (fun _ => ?_) (fun _ => ?_)
  · refine a_aload_n dX11_readBearing_19 rfl ?_
    refine a_callVv (as := []) mf_X11_172 lyM_0 rfl (c_M_next F _) LYsame.rf dX11_readBearing_20 rfl rfl rfl rfl rfl rfl (Or.inl rfl) fun r2 σ3 => ?_
    refine a_aload_n dX11_readBearing_23 rfl ?_
    refine a_callVi (as := []) mf_X11_182 lyM_0 rfl (c_M_isName F _) LYsame.rf dX11_readBearing_24 rfl rfl rfl rfl rfl rfl (Or.inl rfl) fun r4 σ5 => ?_
    refine a_if_ne dX11_readBearing_27 rfl (fun _ => ?_) (fun _ => ?_)
    · refine a_aload_n dX11_readBearing_36 rfl ?_
      refine a_bipush dX11_readBearing_37 bi_16 ?_
      refine a_aload_n dX11_readBearing_39 rfl ?_
      refine a_getR (c0 := 3) fl_X11_37 lyM_0 rfl dX11_readBearing_40 (key := 7) rfl ?_
      refine a_iconst dX11_readBearing_43 ?_
      refine a_iald lyM_3 rfl dX11_readBearing_44 ?_
      refine a_callVi (as := [vi 16, vi (gA σ5 3 (Int.toNat 3))]) mf_X11_186 lyM_0 rfl (c_M_find F _ _ _) LYsame.rf dX11_readBearing_45 rfl rfl rfl rfl rfl rfl (Or.inl rfl) fun r6 σ7 => ?_
      refine a_istore_n (L' := [some (.ref 0), some (vi x1_1), some (vi r6), none]) dX11_readBearing_48 rfl rfl rfl rfl ?_
      refine a_iload_n dX11_readBearing_49 rfl ?_
      refine a_if_ge dX11_readBearing_50 rfl (fun _ => ?_) (fun _ => ?_)
      · refine a_aload_n dX11_readBearing_59 rfl ?_
        refine a_callVv (as := []) mf_X11_172 lyM_0 rfl (c_M_next F _) LYsame.rf dX11_readBearing_60 rfl rfl rfl rfl rfl rfl (Or.inl rfl) fun r8 σ9 => ?_
        refine a_aload_n dX11_readBearing_63 rfl ?_
        refine a_iconst dX11_readBearing_64 ?_
        refine a_callVi (as := [vi 0]) mf_X11_211 lyM_0 rfl (c_M_takesSigned F _ _) LYsame.rf dX11_readBearing_65 rfl rfl rfl rfl rfl rfl (Or.inl rfl) fun r10 σ11 => ?_
        refine a_if_ne dX11_readBearing_68 rfl (fun _ => ?_) (fun _ => ?_)
        · refine a_aload_n dX11_readBearing_73 rfl ?_
          refine a_getI fl_X11_179 lyM_0 rfl dX11_readBearing_74 (key := 17) rfl ?_
          refine a_bv fun x3_12 ex3_12 => ?_
          refine a_istore_n (y := x3_12) (L' := [some (.ref 0), some (vi x1_1), some (vi r6), some (vi x3_12)]) dX11_readBearing_77 ex3_12 rfl rfl rfl ?_
          refine a_aload_n dX11_readBearing_78 rfl ?_
          refine a_iload_n dX11_readBearing_79 rfl ?_
          refine a_if_ne dX11_readBearing_80 rfl (fun _ => ?_) (fun _ => ?_)
          · refine a_iconst dX11_readBearing_87 ?_
            refine a_callVi (as := [vi 0]) mf_X11_211 lyM_0 rfl (c_M_takesSigned F _ _) LYsame.rf dX11_readBearing_88 rfl rfl rfl rfl rfl rfl (Or.inl rfl) fun r13 σ14 => ?_
            refine a_if_ne dX11_readBearing_91 rfl (fun _ => ?_) (fun _ => ?_)
            · refine a_aload_n dX11_readBearing_96 rfl ?_
              refine a_getR (c0 := 3) fl_X11_37 lyM_0 rfl dX11_readBearing_97 (key := 7) rfl ?_
              refine a_bipush dX11_readBearing_100 bi_58 ?_
              refine a_iconst dX11_readBearing_102 ?_
              refine a_iload_n dX11_readBearing_103 rfl ?_
              refine a_imul dX11_readBearing_104 ?_
              refine a_iadd dX11_readBearing_105 ?_
              refine a_iload_n dX11_readBearing_106 rfl ?_
              refine a_iast lyM_3 rfl dX11_readBearing_107 fun σ15 => ?_
              refine a_aload_n dX11_readBearing_108 rfl ?_
              refine a_getR (c0 := 3) fl_X11_37 lyM_0 rfl dX11_readBearing_109 (key := 7) rfl ?_
              refine a_bipush dX11_readBearing_112 bi_58 ?_
              refine a_iconst dX11_readBearing_114 ?_
              refine a_iload_n dX11_readBearing_115 rfl ?_
              refine a_imul dX11_readBearing_116 ?_
              refine a_iadd dX11_readBearing_117 ?_
              refine a_iconst dX11_readBearing_118 ?_
              refine a_iadd dX11_readBearing_119 ?_
              refine a_iload_n dX11_readBearing_120 rfl ?_
              refine a_iast lyM_3 rfl dX11_readBearing_121 fun σ16 => ?_
              refine a_aload_n dX11_readBearing_122 rfl ?_
              refine a_getR (c0 := 3) fl_X11_37 lyM_0 rfl dX11_readBearing_123 (key := 7) rfl ?_
              refine a_bipush dX11_readBearing_126 bi_58 ?_
              refine a_iconst dX11_readBearing_128 ?_
              refine a_iload_n dX11_readBearing_129 rfl ?_
              refine a_imul dX11_readBearing_130 ?_
              refine a_iadd dX11_readBearing_131 ?_
              refine a_iconst dX11_readBearing_132 ?_
              refine a_iadd dX11_readBearing_133 ?_
              refine a_aload_n dX11_readBearing_134 rfl ?_
              refine a_getI fl_X11_179 lyM_0 rfl dX11_readBearing_135 (key := 17) rfl ?_
              refine a_iast lyM_3 rfl dX11_readBearing_138 fun σ17 => ?_
              refine a_aload_n dX11_readBearing_139 rfl ?_
              refine a_getR (c0 := 3) fl_X11_37 lyM_0 rfl dX11_readBearing_140 (key := 7) rfl ?_
              refine a_iconst dX11_readBearing_143 ?_
              refine a_dup2 dX11_readBearing_144 rfl rfl ?_
              refine a_iald lyM_3 rfl dX11_readBearing_145 ?_
              refine a_iconst dX11_readBearing_146 ?_
              refine a_iadd dX11_readBearing_147 ?_
              refine a_iast lyM_3 rfl dX11_readBearing_148 fun σ18 => ?_
              refine a_iconst dX11_readBearing_149 ?_
              exact a_zretc (by decide) dX11_readBearing_150
            refine a_iconst dX11_readBearing_94 ?_
            exact a_zretc (by decide) dX11_readBearing_95
          refine a_iconst dX11_readBearing_83 ?_
          refine a_goto dX11_readBearing_84 rfl ?_
          refine a_callVi (as := [vi 1]) mf_X11_211 lyM_0 rfl (c_M_takesSigned F _ _) LYsame.rf dX11_readBearing_88 rfl rfl rfl rfl rfl rfl (Or.inl rfl) fun r19 σ20 => ?_
          refine a_if_ne dX11_readBearing_91 rfl (fun _ => ?_) (fun _ => ?_)
          · refine a_aload_n dX11_readBearing_96 rfl ?_
            refine a_getR (c0 := 3) fl_X11_37 lyM_0 rfl dX11_readBearing_97 (key := 7) rfl ?_
            refine a_bipush dX11_readBearing_100 bi_58 ?_
            refine a_iconst dX11_readBearing_102 ?_
            refine a_iload_n dX11_readBearing_103 rfl ?_
            refine a_imul dX11_readBearing_104 ?_
            refine a_iadd dX11_readBearing_105 ?_
            refine a_iload_n dX11_readBearing_106 rfl ?_
            refine a_iast lyM_3 rfl dX11_readBearing_107 fun σ21 => ?_
            refine a_aload_n dX11_readBearing_108 rfl ?_
            refine a_getR (c0 := 3) fl_X11_37 lyM_0 rfl dX11_readBearing_109 (key := 7) rfl ?_
            refine a_bipush dX11_readBearing_112 bi_58 ?_
            refine a_iconst dX11_readBearing_114 ?_
            refine a_iload_n dX11_readBearing_115 rfl ?_
            refine a_imul dX11_readBearing_116 ?_
            refine a_iadd dX11_readBearing_117 ?_
            refine a_iconst dX11_readBearing_118 ?_
            refine a_iadd dX11_readBearing_119 ?_
            refine a_iload_n dX11_readBearing_120 rfl ?_
            refine a_iast lyM_3 rfl dX11_readBearing_121 fun σ22 => ?_
            refine a_aload_n dX11_readBearing_122 rfl ?_
            refine a_getR (c0 := 3) fl_X11_37 lyM_0 rfl dX11_readBearing_123 (key := 7) rfl ?_
            refine a_bipush dX11_readBearing_126 bi_58 ?_
            refine a_iconst dX11_readBearing_128 ?_
            refine a_iload_n dX11_readBearing_129 rfl ?_
            refine a_imul dX11_readBearing_130 ?_
            refine a_iadd dX11_readBearing_131 ?_
            refine a_iconst dX11_readBearing_132 ?_
            refine a_iadd dX11_readBearing_133 ?_
            refine a_aload_n dX11_readBearing_134 rfl ?_
            refine a_getI fl_X11_179 lyM_0 rfl dX11_readBearing_135 (key := 17) rfl ?_
            refine a_iast lyM_3 rfl dX11_readBearing_138 fun σ23 => ?_
            refine a_aload_n dX11_readBearing_139 rfl ?_
            refine a_getR (c0 := 3) fl_X11_37 lyM_0 rfl dX11_readBearing_140 (key := 7) rfl ?_
            refine a_iconst dX11_readBearing_143 ?_
            refine a_dup2 dX11_readBearing_144 rfl rfl ?_
            refine a_iald lyM_3 rfl dX11_readBearing_145 ?_
            refine a_iconst dX11_readBearing_146 ?_
            refine a_iadd dX11_readBearing_147 ?_
            refine a_iast lyM_3 rfl dX11_readBearing_148 fun σ24 => ?_
            refine a_iconst dX11_readBearing_149 ?_
            exact a_zretc (by decide) dX11_readBearing_150
          refine a_iconst dX11_readBearing_94 ?_
          exact a_zretc (by decide) dX11_readBearing_95
        refine a_iconst dX11_readBearing_71 ?_
        exact a_zretc (by decide) dX11_readBearing_72
      refine a_aload_n dX11_readBearing_53 rfl ?_
      refine a_iconst dX11_readBearing_54 ?_
      refine a_callVi (as := [vi 3]) mf_X11_169 lyM_0 rfl (c_M_bad F _ _) LYsame.rf dX11_readBearing_55 rfl rfl rfl rfl rfl rfl (Or.inl rfl) fun r25 σ26 => ?_
      exact a_zret dX11_readBearing_58
    refine a_aload_n dX11_readBearing_30 rfl ?_
    refine a_iconst dX11_readBearing_31 ?_
    refine a_callVi (as := [vi 1]) mf_X11_169 lyM_0 rfl (c_M_bad F _ _) LYsame.rf dX11_readBearing_32 rfl rfl rfl rfl rfl rfl (Or.inl rfl) fun r27 σ28 => ?_
    exact a_zret dX11_readBearing_35
  refine a_aload_n dX11_readBearing_13 rfl ?_
  refine a_iconst dX11_readBearing_14 ?_
  refine a_callVi (as := [vi 4]) mf_X11_169 lyM_0 rfl (c_M_bad F _ _) LYsame.rf dX11_readBearing_15 rfl rfl rfl rfl rfl rfl (Or.inl rfl) fun r29 σ30 => ?_
  exact a_zret dX11_readBearing_18
def f_M_readSender (F : Nat) (σ : St) : Option (Int × St) := gd (inb 2 82) (bv (gA σ 3 (Int.toNat 2)) fun x1_1 => gd (rng x1_1 ∧ rng 6) (if x1_1 = 6 then bnd (f_M_bad F σ 4) fun r58 σ59 => gd (isb r58) (some (r58, σ59)) else bnd (f_M_next F σ) fun r2 σ3 => bnd (f_M_fresh F σ3 (10 + x1_1)) fun r4 σ5 => gd (rng r4) (if r4 = 0 then some (0, σ5) else bv (26 + (4 * x1_1)) fun x2_6 => gd (inb 0 82) (bnd (f_M_takes F σ5 0 ((gA σ5 3 (Int.toNat 0)) - 1)) fun r7 σ8 => gd (rng r7) (if r7 = 0 then some (0, σ8) else gd (inb x2_6 82) (bs (sA σ8 3 (Int.toNat x2_6) (gF σ8 17)) fun σ9 => bnd (f_M_takes F σ9 1 999) fun r10 σ11 => gd (rng r10) (if r10 = 0 then some (0, σ11) else gd (inb (x2_6 + 1) 82) (bs (sA σ11 3 (Int.toNat (x2_6 + 1)) (gF σ11 17)) fun σ12 => gd (inb (x2_6 + 2) 82) (bs (sA σ12 3 (Int.toNat (x2_6 + 2)) 0) fun σ13 => gd (inb (x2_6 + 3) 82) (bs (sA σ13 3 (Int.toNat (x2_6 + 3)) x1_1) fun σ14 => bnd (f_M_isWord F σ14 110442557371507) fun r15 σ16 => gd (rng r15) (if r15 = 0 then bnd (f_M_isWord F σ16 1818848101) fun r17 σ18 => gd (rng r17) (if r17 = 0 then gd (inb 2 82) (gd (inb 2 82) (bs (sA σ18 3 (Int.toNat 2) ((gA σ18 3 (Int.toNat 2)) + 1)) fun σ19 => some (1, σ19))) else bnd (f_M_next F σ18) fun r20 σ21 => bnd (f_M_isName F σ21) fun r22 σ23 => gd (rng r22) (if r22 = 0 then bnd (f_M_bad F σ23 1) fun r33 σ34 => gd (isb r33) (some (r33, σ34)) else bnd (f_M_find F σ23 10 x1_1) fun r24 σ25 => gd (rng r24) (if (0 : Int) ≤ r24 then gd (inb ((26 + (4 * r24)) + 3) 82) (bv (gA σ25 3 (Int.toNat ((26 + (4 * r24)) + 3))) fun t26 => gd (inb (x2_6 + 3) 82) (bs (sA σ25 3 (Int.toNat (x2_6 + 3)) t26) fun σ27 => bnd (f_M_next F σ27) fun r28 σ29 => gd (inb 2 82) (gd (inb 2 82) (bs (sA σ29 3 (Int.toNat 2) ((gA σ29 3 (Int.toNat 2)) + 1)) fun σ30 => some (1, σ30))))) else bnd (f_M_bad F σ25 3) fun r31 σ32 => gd (isb r31) (some (r31, σ32))))) else bnd (f_M_next F σ16) fun r35 σ36 => gd (inb 0 82) (bnd (f_M_takes F σ36 0 ((gA σ36 3 (Int.toNat 0)) - 1)) fun r37 σ38 => gd (rng r37) (if r37 = 0 then some (0, σ38) else gd (inb (x2_6 + 2) 82) (bs (sA σ38 3 (Int.toNat (x2_6 + 2)) (gF σ38 17)) fun σ39 => bnd (f_M_isWord F σ39 1818848101) fun r40 σ41 => gd (rng r40) (if r40 = 0 then gd (inb 2 82) (gd (inb 2 82) (bs (sA σ41 3 (Int.toNat 2) ((gA σ41 3 (Int.toNat 2)) + 1)) fun σ42 => some (1, σ42))) else bnd (f_M_next F σ41) fun r43 σ44 => bnd (f_M_isName F σ44) fun r45 σ46 => gd (rng r45) (if r45 = 0 then bnd (f_M_bad F σ46 1) fun r56 σ57 => gd (isb r56) (some (r56, σ57)) else bnd (f_M_find F σ46 10 x1_1) fun r47 σ48 => gd (rng r47) (if (0 : Int) ≤ r47 then gd (inb ((26 + (4 * r47)) + 3) 82) (bv (gA σ48 3 (Int.toNat ((26 + (4 * r47)) + 3))) fun t49 => gd (inb (x2_6 + 3) 82) (bs (sA σ48 3 (Int.toNat (x2_6 + 3)) t49) fun σ50 => bnd (f_M_next F σ50) fun r51 σ52 => gd (inb 2 82) (gd (inb 2 82) (bs (sA σ52 3 (Int.toNat 2) ((gA σ52 3 (Int.toNat 2)) + 1)) fun σ53 => some (1, σ53))))) else bnd (f_M_bad F σ48 3) fun r54 σ55 => gd (isb r54) (some (r54, σ55)))))))))))))))))))
set_option maxRecDepth 100000 in
set_option maxHeartbeats 4000000 in
theorem c_M_readSender (F : Nat) (σ : St) : Ct 4 0 1 yX11_readSender cX11_readSender 4 (some .boolean) LYM LYM [.ref 0] σ (f_M_readSender F σ) := by
  unfold f_M_readSender
  refine Ct_of (d := 4) (kp := 0) (kd := 1) (own := RX11) (nL := 4) (ret := (some .boolean)) (LY := LYM) (LYe := LYM) (L := [some (.ref 0), none, none, none]) rfl (by decide +kernel) rfl rfl mf_X11_205.2.2.2.1 rfl fun K => ?_
  refine a_aload_n dX11_readSender_0 rfl ?_
  refine a_getR (c0 := 3) fl_X11_37 lyM_0 rfl dX11_readSender_1 (key := 7) rfl ?_
  refine a_iconst dX11_readSender_4 ?_
  refine a_iald lyM_3 rfl dX11_readSender_5 ?_
  refine a_bv fun x1_1 ex1_1 => ?_
  refine a_istore_n (y := x1_1) (L' := [some (.ref 0), some (vi x1_1), none, none]) dX11_readSender_6 ex1_1 rfl rfl rfl ?_
  refine a_iload_n dX11_readSender_7 rfl ?_
  refine a_bipush dX11_readSender_8 bi_6 ?_
  refine a_icmp_ne dX11_readSender_10 rfl (fun _ => ?_) (fun _ => ?_)
  · refine a_aload_n dX11_readSender_19 rfl ?_
    refine a_callVv (as := []) mf_X11_172 lyM_0 rfl (c_M_next F _) LYsame.rf dX11_readSender_20 rfl rfl rfl rfl rfl rfl (Or.inl rfl) fun r2 σ3 => ?_
    refine a_aload_n dX11_readSender_23 rfl ?_
    refine a_bipush dX11_readSender_24 bi_10 ?_
    refine a_iload_n dX11_readSender_26 rfl ?_
    refine a_iadd dX11_readSender_27 ?_
    refine a_callVi (as := [vi (10 + x1_1)]) mf_X11_208 lyM_0 rfl (c_M_fresh F _ _) LYsame.rf dX11_readSender_28 rfl rfl rfl rfl rfl rfl (Or.inl rfl) fun r4 σ5 => ?_
    refine a_if_ne dX11_readSender_31 rfl (fun _ => ?_) (fun _ => ?_)
    · refine a_bipush dX11_readSender_36 bi_26 ?_
      refine a_iconst dX11_readSender_38 ?_
      refine a_iload_n dX11_readSender_39 rfl ?_
      refine a_imul dX11_readSender_40 ?_
      refine a_iadd dX11_readSender_41 ?_
      refine a_bv fun x2_6 ex2_6 => ?_
      refine a_istore_n (y := x2_6) (L' := [some (.ref 0), some (vi x1_1), some (vi x2_6), none]) dX11_readSender_42 ex2_6 rfl rfl rfl ?_
      refine a_aload_n dX11_readSender_43 rfl ?_
      refine a_iconst dX11_readSender_44 ?_
      refine a_aload_n dX11_readSender_45 rfl ?_
      refine a_getR (c0 := 3) fl_X11_37 lyM_0 rfl dX11_readSender_46 (key := 7) rfl ?_
      refine a_iconst dX11_readSender_49 ?_
      refine a_iald lyM_3 rfl dX11_readSender_50 ?_
      refine a_iconst dX11_readSender_51 ?_
      refine a_isub dX11_readSender_52 ?_
      refine a_callVi (as := [vi 0, vi ((gA σ5 3 (Int.toNat 0)) - 1)]) mf_X11_198 lyM_0 rfl (c_M_takes F _ _ _) LYsame.rf dX11_readSender_53 rfl rfl rfl rfl rfl rfl (Or.inl rfl) fun r7 σ8 => ?_
      refine a_if_ne dX11_readSender_56 rfl (fun _ => ?_) (fun _ => ?_)
      · refine a_aload_n dX11_readSender_61 rfl ?_
        refine a_getR (c0 := 3) fl_X11_37 lyM_0 rfl dX11_readSender_62 (key := 7) rfl ?_
        refine a_iload_n dX11_readSender_65 rfl ?_
        refine a_aload_n dX11_readSender_66 rfl ?_
        refine a_getI fl_X11_179 lyM_0 rfl dX11_readSender_67 (key := 17) rfl ?_
        refine a_iast lyM_3 rfl dX11_readSender_70 fun σ9 => ?_
        refine a_aload_n dX11_readSender_71 rfl ?_
        refine a_iconst dX11_readSender_72 ?_
        refine a_sipush dX11_readSender_73 si_999 ?_
        refine a_callVi (as := [vi 1, vi 999]) mf_X11_198 lyM_0 rfl (c_M_takes F _ _ _) LYsame.rf dX11_readSender_76 rfl rfl rfl rfl rfl rfl (Or.inl rfl) fun r10 σ11 => ?_
        refine a_if_ne dX11_readSender_79 rfl (fun _ => ?_) (fun _ => ?_)
        · refine a_aload_n dX11_readSender_84 rfl ?_
          refine a_getR (c0 := 3) fl_X11_37 lyM_0 rfl dX11_readSender_85 (key := 7) rfl ?_
          refine a_iload_n dX11_readSender_88 rfl ?_
          refine a_iconst dX11_readSender_89 ?_
          refine a_iadd dX11_readSender_90 ?_
          refine a_aload_n dX11_readSender_91 rfl ?_
          refine a_getI fl_X11_179 lyM_0 rfl dX11_readSender_92 (key := 17) rfl ?_
          refine a_iast lyM_3 rfl dX11_readSender_95 fun σ12 => ?_
          refine a_aload_n dX11_readSender_96 rfl ?_
          refine a_getR (c0 := 3) fl_X11_37 lyM_0 rfl dX11_readSender_97 (key := 7) rfl ?_
          refine a_iload_n dX11_readSender_100 rfl ?_
          refine a_iconst dX11_readSender_101 ?_
          refine a_iadd dX11_readSender_102 ?_
          refine a_iconst dX11_readSender_103 ?_
          refine a_iast lyM_3 rfl dX11_readSender_104 fun σ13 => ?_
          refine a_aload_n dX11_readSender_105 rfl ?_
          refine a_getR (c0 := 3) fl_X11_37 lyM_0 rfl dX11_readSender_106 (key := 7) rfl ?_
          refine a_iload_n dX11_readSender_109 rfl ?_
          refine a_iconst dX11_readSender_110 ?_
          refine a_iadd dX11_readSender_111 ?_
          refine a_iload_n dX11_readSender_112 rfl ?_
          refine a_iast lyM_3 rfl dX11_readSender_113 fun σ14 => ?_
          refine a_aload_n dX11_readSender_114 rfl ?_
          refine a_ldc2 kc_X11_122 rfl dX11_readSender_115 ?_
          refine a_callVi (as := [vl 110442557371507]) mf_X11_190 lyM_0 rfl (c_M_isWord F _ _) LYsame.rf dX11_readSender_118 rfl rfl rfl rfl rfl rfl (Or.inl rfl) fun r15 σ16 => ?_
          refine a_if_eq dX11_readSender_121 rfl (fun _ => ?_) (fun _ => ?_)
          · refine a_aload_n dX11_readSender_158 rfl ?_
            refine a_ldc2 kc_X11_124 rfl dX11_readSender_159 ?_
            refine a_callVi (as := [vl 1818848101]) mf_X11_190 lyM_0 rfl (c_M_isWord F _ _) LYsame.rf dX11_readSender_162 rfl rfl rfl rfl rfl rfl (Or.inl rfl) fun r17 σ18 => ?_
            refine a_if_eq dX11_readSender_165 rfl (fun _ => ?_) (fun _ => ?_)
            · refine a_aload_n dX11_readSender_228 rfl ?_
              refine a_getR (c0 := 3) fl_X11_37 lyM_0 rfl dX11_readSender_229 (key := 7) rfl ?_
              refine a_iconst dX11_readSender_232 ?_
              refine a_dup2 dX11_readSender_233 rfl rfl ?_
              refine a_iald lyM_3 rfl dX11_readSender_234 ?_
              refine a_iconst dX11_readSender_235 ?_
              refine a_iadd dX11_readSender_236 ?_
              refine a_iast lyM_3 rfl dX11_readSender_237 fun σ19 => ?_
              refine a_iconst dX11_readSender_238 ?_
              exact a_zretc (by decide) dX11_readSender_239
            refine a_aload_n dX11_readSender_168 rfl ?_
            refine a_callVv (as := []) mf_X11_172 lyM_0 rfl (c_M_next F _) LYsame.rf dX11_readSender_169 rfl rfl rfl rfl rfl rfl (Or.inl rfl) fun r20 σ21 => ?_
            refine a_aload_n dX11_readSender_172 rfl ?_
            refine a_callVi (as := []) mf_X11_182 lyM_0 rfl (c_M_isName F _) LYsame.rf dX11_readSender_173 rfl rfl rfl rfl rfl rfl (Or.inl rfl) fun r22 σ23 => ?_
            refine a_if_ne dX11_readSender_176 rfl (fun _ => ?_) (fun _ => ?_)
            · refine a_aload_n dX11_readSender_185 rfl ?_
              refine a_bipush dX11_readSender_186 bi_10 ?_
              refine a_iload_n dX11_readSender_188 rfl ?_
              refine a_callVi (as := [vi 10, vi x1_1]) mf_X11_186 lyM_0 rfl (c_M_find F _ _ _) LYsame.rf dX11_readSender_189 rfl rfl rfl rfl rfl rfl (Or.inl rfl) fun r24 σ25 => ?_
              refine a_istore_n (L' := [some (.ref 0), some (vi x1_1), some (vi x2_6), some (vi r24)]) dX11_readSender_192 rfl rfl rfl rfl ?_
              refine a_iload_n dX11_readSender_193 rfl ?_
              refine a_if_ge dX11_readSender_194 rfl (fun _ => ?_) (fun _ => ?_)
              · refine a_aload_n dX11_readSender_203 rfl ?_
                refine a_getR (c0 := 3) fl_X11_37 lyM_0 rfl dX11_readSender_204 (key := 7) rfl ?_
                refine a_iload_n dX11_readSender_207 rfl ?_
                refine a_iconst dX11_readSender_208 ?_
                refine a_iadd dX11_readSender_209 ?_
                refine a_aload_n dX11_readSender_210 rfl ?_
                refine a_getR (c0 := 3) fl_X11_37 lyM_0 rfl dX11_readSender_211 (key := 7) rfl ?_
                refine a_bipush dX11_readSender_214 bi_26 ?_
                refine a_iconst dX11_readSender_216 ?_
                refine a_iload_n dX11_readSender_217 rfl ?_
                refine a_imul dX11_readSender_218 ?_
                refine a_iadd dX11_readSender_219 ?_
                refine a_iconst dX11_readSender_220 ?_
                refine a_iadd dX11_readSender_221 ?_
                refine a_iald lyM_3 rfl dX11_readSender_222 ?_
                refine a_bvi fun t26 => ?_
                refine a_iast lyM_3 rfl dX11_readSender_223 fun σ27 => ?_
                refine a_aload_n dX11_readSender_224 rfl ?_
                refine a_callVv (as := []) mf_X11_172 lyM_0 rfl (c_M_next F _) LYsame.rf dX11_readSender_225 rfl rfl rfl rfl rfl rfl (Or.inl rfl) fun r28 σ29 => ?_
                refine a_aload_n dX11_readSender_228 rfl ?_
                refine a_getR (c0 := 3) fl_X11_37 lyM_0 rfl dX11_readSender_229 (key := 7) rfl ?_
                refine a_iconst dX11_readSender_232 ?_
                refine a_dup2 dX11_readSender_233 rfl rfl ?_
                refine a_iald lyM_3 rfl dX11_readSender_234 ?_
                refine a_iconst dX11_readSender_235 ?_
                refine a_iadd dX11_readSender_236 ?_
                refine a_iast lyM_3 rfl dX11_readSender_237 fun σ30 => ?_
                refine a_iconst dX11_readSender_238 ?_
                exact a_zretc (by decide) dX11_readSender_239
              refine a_aload_n dX11_readSender_197 rfl ?_
              refine a_iconst dX11_readSender_198 ?_
              refine a_callVi (as := [vi 3]) mf_X11_169 lyM_0 rfl (c_M_bad F _ _) LYsame.rf dX11_readSender_199 rfl rfl rfl rfl rfl rfl (Or.inl rfl) fun r31 σ32 => ?_
              exact a_zret dX11_readSender_202
            refine a_aload_n dX11_readSender_179 rfl ?_
            refine a_iconst dX11_readSender_180 ?_
            refine a_callVi (as := [vi 1]) mf_X11_169 lyM_0 rfl (c_M_bad F _ _) LYsame.rf dX11_readSender_181 rfl rfl rfl rfl rfl rfl (Or.inl rfl) fun r33 σ34 => ?_
            exact a_zret dX11_readSender_184
          refine a_aload_n dX11_readSender_124 rfl ?_
          refine a_callVv (as := []) mf_X11_172 lyM_0 rfl (c_M_next F _) LYsame.rf dX11_readSender_125 rfl rfl rfl rfl rfl rfl (Or.inl rfl) fun r35 σ36 => ?_
          refine a_aload_n dX11_readSender_128 rfl ?_
          refine a_iconst dX11_readSender_129 ?_
          refine a_aload_n dX11_readSender_130 rfl ?_
          refine a_getR (c0 := 3) fl_X11_37 lyM_0 rfl dX11_readSender_131 (key := 7) rfl ?_
          refine a_iconst dX11_readSender_134 ?_
          refine a_iald lyM_3 rfl dX11_readSender_135 ?_
          refine a_iconst dX11_readSender_136 ?_
          refine a_isub dX11_readSender_137 ?_
          refine a_callVi (as := [vi 0, vi ((gA σ36 3 (Int.toNat 0)) - 1)]) mf_X11_198 lyM_0 rfl (c_M_takes F _ _ _) LYsame.rf dX11_readSender_138 rfl rfl rfl rfl rfl rfl (Or.inl rfl) fun r37 σ38 => ?_
          refine a_if_ne dX11_readSender_141 rfl (fun _ => ?_) (fun _ => ?_)
          · refine a_aload_n dX11_readSender_146 rfl ?_
            refine a_getR (c0 := 3) fl_X11_37 lyM_0 rfl dX11_readSender_147 (key := 7) rfl ?_
            refine a_iload_n dX11_readSender_150 rfl ?_
            refine a_iconst dX11_readSender_151 ?_
            refine a_iadd dX11_readSender_152 ?_
            refine a_aload_n dX11_readSender_153 rfl ?_
            refine a_getI fl_X11_179 lyM_0 rfl dX11_readSender_154 (key := 17) rfl ?_
            refine a_iast lyM_3 rfl dX11_readSender_157 fun σ39 => ?_
            refine a_aload_n dX11_readSender_158 rfl ?_
            refine a_ldc2 kc_X11_124 rfl dX11_readSender_159 ?_
            refine a_callVi (as := [vl 1818848101]) mf_X11_190 lyM_0 rfl (c_M_isWord F _ _) LYsame.rf dX11_readSender_162 rfl rfl rfl rfl rfl rfl (Or.inl rfl) fun r40 σ41 => ?_
            refine a_if_eq dX11_readSender_165 rfl (fun _ => ?_) (fun _ => ?_)
            · refine a_aload_n dX11_readSender_228 rfl ?_
              refine a_getR (c0 := 3) fl_X11_37 lyM_0 rfl dX11_readSender_229 (key := 7) rfl ?_
              refine a_iconst dX11_readSender_232 ?_
              refine a_dup2 dX11_readSender_233 rfl rfl ?_
              refine a_iald lyM_3 rfl dX11_readSender_234 ?_
              refine a_iconst dX11_readSender_235 ?_
              refine a_iadd dX11_readSender_236 ?_
              refine a_iast lyM_3 rfl dX11_readSender_237 fun σ42 => ?_
              refine a_iconst dX11_readSender_238 ?_
              exact a_zretc (by decide) dX11_readSender_239
            refine a_aload_n dX11_readSender_168 rfl ?_
            refine a_callVv (as := []) mf_X11_172 lyM_0 rfl (c_M_next F _) LYsame.rf dX11_readSender_169 rfl rfl rfl rfl rfl rfl (Or.inl rfl) fun r43 σ44 => ?_
            refine a_aload_n dX11_readSender_172 rfl ?_
            refine a_callVi (as := []) mf_X11_182 lyM_0 rfl (c_M_isName F _) LYsame.rf dX11_readSender_173 rfl rfl rfl rfl rfl rfl (Or.inl rfl) fun r45 σ46 => ?_
            refine a_if_ne dX11_readSender_176 rfl (fun _ => ?_) (fun _ => ?_)
            · refine a_aload_n dX11_readSender_185 rfl ?_
              refine a_bipush dX11_readSender_186 bi_10 ?_
              refine a_iload_n dX11_readSender_188 rfl ?_
              refine a_callVi (as := [vi 10, vi x1_1]) mf_X11_186 lyM_0 rfl (c_M_find F _ _ _) LYsame.rf dX11_readSender_189 rfl rfl rfl rfl rfl rfl (Or.inl rfl) fun r47 σ48 => ?_
              refine a_istore_n (L' := [some (.ref 0), some (vi x1_1), some (vi x2_6), some (vi r47)]) dX11_readSender_192 rfl rfl rfl rfl ?_
              refine a_iload_n dX11_readSender_193 rfl ?_
              refine a_if_ge dX11_readSender_194 rfl (fun _ => ?_) (fun _ => ?_)
              · refine a_aload_n dX11_readSender_203 rfl ?_
                refine a_getR (c0 := 3) fl_X11_37 lyM_0 rfl dX11_readSender_204 (key := 7) rfl ?_
                refine a_iload_n dX11_readSender_207 rfl ?_
                refine a_iconst dX11_readSender_208 ?_
                refine a_iadd dX11_readSender_209 ?_
                refine a_aload_n dX11_readSender_210 rfl ?_
                refine a_getR (c0 := 3) fl_X11_37 lyM_0 rfl dX11_readSender_211 (key := 7) rfl ?_
                refine a_bipush dX11_readSender_214 bi_26 ?_
                refine a_iconst dX11_readSender_216 ?_
                refine a_iload_n dX11_readSender_217 rfl ?_
                refine a_imul dX11_readSender_218 ?_
                refine a_iadd dX11_readSender_219 ?_
                refine a_iconst dX11_readSender_220 ?_
                refine a_iadd dX11_readSender_221 ?_
                refine a_iald lyM_3 rfl dX11_readSender_222 ?_
                refine a_bvi fun t49 => ?_
                refine a_iast lyM_3 rfl dX11_readSender_223 fun σ50 => ?_
                refine a_aload_n dX11_readSender_224 rfl ?_
                refine a_callVv (as := []) mf_X11_172 lyM_0 rfl (c_M_next F _) LYsame.rf dX11_readSender_225 rfl rfl rfl rfl rfl rfl (Or.inl rfl) fun r51 σ52 => ?_
                refine a_aload_n dX11_readSender_228 rfl ?_
                refine a_getR (c0 := 3) fl_X11_37 lyM_0 rfl dX11_readSender_229 (key := 7) rfl ?_
                refine a_iconst dX11_readSender_232 ?_
                refine a_dup2 dX11_readSender_233 rfl rfl ?_
                refine a_iald lyM_3 rfl dX11_readSender_234 ?_
                refine a_iconst dX11_readSender_235 ?_
                refine a_iadd dX11_readSender_236 ?_
                refine a_iast lyM_3 rfl dX11_readSender_237 fun σ53 => ?_
                refine a_iconst dX11_readSender_238 ?_
                exact a_zretc (by decide) dX11_readSender_239
              refine a_aload_n dX11_readSender_197 rfl ?_
              refine a_iconst dX11_readSender_198 ?_
              refine a_callVi (as := [vi 3]) mf_X11_169 lyM_0 rfl (c_M_bad F _ _) LYsame.rf dX11_readSender_199 rfl rfl rfl rfl rfl rfl (Or.inl rfl) fun r54 σ55 => ?_
              exact a_zret dX11_readSender_202
            refine a_aload_n dX11_readSender_179 rfl ?_
            refine a_iconst dX11_readSender_180 ?_
            refine a_callVi (as := [vi 1]) mf_X11_169 lyM_0 rfl (c_M_bad F _ _) LYsame.rf dX11_readSender_181 rfl rfl rfl rfl rfl rfl (Or.inl rfl) fun r56 σ57 => ?_
            exact a_zret dX11_readSender_184
          refine a_iconst dX11_readSender_144 ?_
          exact a_zretc (by decide) dX11_readSender_145
        refine a_iconst dX11_readSender_82 ?_
        exact a_zretc (by decide) dX11_readSender_83
      refine a_iconst dX11_readSender_59 ?_
      exact a_zretc (by decide) dX11_readSender_60
    refine a_iconst dX11_readSender_34 ?_
    exact a_zretc (by decide) dX11_readSender_35
  refine a_aload_n dX11_readSender_13 rfl ?_
  refine a_iconst dX11_readSender_14 ?_
  refine a_callVi (as := [vi 4]) mf_X11_169 lyM_0 rfl (c_M_bad F _ _) LYsame.rf dX11_readSender_15 rfl rfl rfl rfl rfl rfl (Or.inl rfl) fun r58 σ59 => ?_
  exact a_zret dX11_readSender_18
def b_M_readHearer_54 (F : Nat) (self : St → Int → Int → Option (Int × St)) (σ : St) (x1 x2 : Int) : Option (Int × St) := gd (rng x2 ∧ rng x1) (if x1 ≤ x2 then gd (inb (6 + (2 * x1)) 82) (bs (sA σ 3 (Int.toNat (6 + (2 * x1))) (gF σ 13)) fun σ4 => gd (inb ((6 + (2 * x1)) + 1) 82) (bs (sA σ4 3 (Int.toNat ((6 + (2 * x1)) + 1)) 1) fun σ5 => bnd (f_M_next F σ5) fun r6 σ7 => bnd (f_M_isWord F σ7 1734437230) fun r8 σ9 => gd (rng r8) (if r8 = 0 then gd (inb 1 82) (gd (inb 1 82) (bs (sA σ9 3 (Int.toNat 1) ((gA σ9 3 (Int.toNat 1)) + 1)) fun σ10 => some (1, σ10))) else bnd (f_M_next F σ9) fun r11 σ12 => bnd (f_M_takes F σ12 1 999) fun r13 σ14 => gd (rng r13) (if r13 = 0 then some (0, σ14) else gd (inb ((6 + (2 * x1)) + 1) 82) (bs (sA σ14 3 (Int.toNat ((6 + (2 * x1)) + 1)) (gF σ14 17)) fun σ15 => gd (inb 1 82) (gd (inb 1 82) (bs (sA σ15 3 (Int.toNat 1) ((gA σ15 3 (Int.toNat 1)) + 1)) fun σ16 => some (1, σ16)))))))) else gd (inb (6 + (2 * x2)) 82) (bv (gA σ 3 (Int.toNat (6 + (2 * x2)))) fun t17 => gd (rng t17 ∧ rng (gF σ 13)) (if t17 = (gF σ 13) then bnd (f_M_bad F σ 3) fun r19 σ20 => gd (isb r19) (some (r19, σ20)) else bv (x2 + 1) fun x2_18 => self σ x1 x2_18)))
def l_M_readHearer_54 (F : Nat) : Nat → St → Int → Int → Option (Int × St)
  | 0 => fun _ _ _ => none
  | n + 1 => fun σ x1 x2 => b_M_readHearer_54 F (l_M_readHearer_54 F n) σ x1 x2
def f_M_readHearer (F : Nat) (σ : St) : Option (Int × St) := gd (inb 1 82) (bv (gA σ 3 (Int.toNat 1)) fun x1_1 => gd (rng x1_1 ∧ rng 10) (if x1_1 = 10 then bnd (f_M_bad F σ 4) fun r25 σ26 => gd (isb r25) (some (r25, σ26)) else bnd (f_M_next F σ) fun r2 σ3 => gd (rng (gF σ3 10) ∧ rng 2) (if (gF σ3 10) = 2 then gd (rng (gF σ3 13) ∧ rng 99) (if (gF σ3 13) ≤ 99 then l_M_readHearer_54 F F σ3 x1_1 0 else bnd (f_M_bad F σ3 2) fun r21 σ22 => gd (isb r21) (some (r21, σ22))) else bnd (f_M_bad F σ3 1) fun r23 σ24 => gd (isb r23) (some (r23, σ24)))))
set_option maxRecDepth 100000 in
set_option maxHeartbeats 4000000 in
theorem cb_M_readHearer_54 {K : KX} (F : Nat) (self : St → Int → Int → Option (Int × St)) (hself : ∀ σ x1 x2, WA 4 0 1 cX11_readHearer RX11 3 (some .boolean) LYM LYM K 54 [some (.ref 0), some (vi x1), some (vi x2)] [] σ (self σ x1 x2)) (σ : St) (x1 x2 : Int) : WA 4 0 1 cX11_readHearer RX11 3 (some .boolean) LYM LYM K 54 [some (.ref 0), some (vi x1), some (vi x2)] [] σ (b_M_readHearer_54 F self σ x1 x2) := by
  unfold b_M_readHearer_54
  refine a_iload_n dX11_readHearer_54 rfl ?_
  refine a_iload_n dX11_readHearer_55 rfl ?_
  refine a_icmp_ge dX11_readHearer_56 rfl (fun _ => ?_) (fun _ => ?_)
  · refine a_aload_n dX11_readHearer_89 rfl ?_
    refine a_getR (c0 := 3) fl_X11_37 lyM_0 rfl dX11_readHearer_90 (key := 7) rfl ?_
    refine a_bipush dX11_readHearer_93 bi_6 ?_
    refine a_iconst dX11_readHearer_95 ?_
    refine a_iload_n dX11_readHearer_96 rfl ?_
    refine a_imul dX11_readHearer_97 ?_
    refine a_iadd dX11_readHearer_98 ?_
    refine a_aload_n dX11_readHearer_99 rfl ?_
    refine a_getI fl_X11_153 lyM_0 rfl dX11_readHearer_100 (key := 13) rfl ?_
    refine a_iast lyM_3 rfl dX11_readHearer_103 fun σ4 => ?_
    refine a_aload_n dX11_readHearer_104 rfl ?_
    refine a_getR (c0 := 3) fl_X11_37 lyM_0 rfl dX11_readHearer_105 (key := 7) rfl ?_
    refine a_bipush dX11_readHearer_108 bi_6 ?_
    refine a_iconst dX11_readHearer_110 ?_
    refine a_iload_n dX11_readHearer_111 rfl ?_
    refine a_imul dX11_readHearer_112 ?_
    refine a_iadd dX11_readHearer_113 ?_
    refine a_iconst dX11_readHearer_114 ?_
    refine a_iadd dX11_readHearer_115 ?_
    refine a_iconst dX11_readHearer_116 ?_
    refine a_iast lyM_3 rfl dX11_readHearer_117 fun σ5 => ?_
    refine a_aload_n dX11_readHearer_118 rfl ?_
    refine a_callVv (as := []) mf_X11_172 lyM_0 rfl (c_M_next F _) LYsame.rf dX11_readHearer_119 rfl rfl rfl rfl rfl rfl (Or.inl rfl) fun r6 σ7 => ?_
    refine a_aload_n dX11_readHearer_122 rfl ?_
    refine a_ldc2 kc_X11_118 rfl dX11_readHearer_123 ?_
    refine a_callVi (as := [vl 1734437230]) mf_X11_190 lyM_0 rfl (c_M_isWord F _ _) LYsame.rf dX11_readHearer_126 rfl rfl rfl rfl rfl rfl (Or.inl rfl) fun r8 σ9 => ?_
    refine a_if_eq dX11_readHearer_129 rfl (fun _ => ?_) (fun _ => ?_)
    · refine a_aload_n dX11_readHearer_166 rfl ?_
      refine a_getR (c0 := 3) fl_X11_37 lyM_0 rfl dX11_readHearer_167 (key := 7) rfl ?_
      refine a_iconst dX11_readHearer_170 ?_
      refine a_dup2 dX11_readHearer_171 rfl rfl ?_
      refine a_iald lyM_3 rfl dX11_readHearer_172 ?_
      refine a_iconst dX11_readHearer_173 ?_
      refine a_iadd dX11_readHearer_174 ?_
      refine a_iast lyM_3 rfl dX11_readHearer_175 fun σ10 => ?_
      refine a_iconst dX11_readHearer_176 ?_
      exact a_zretc (by decide) dX11_readHearer_177
    refine a_aload_n dX11_readHearer_132 rfl ?_
    refine a_callVv (as := []) mf_X11_172 lyM_0 rfl (c_M_next F _) LYsame.rf dX11_readHearer_133 rfl rfl rfl rfl rfl rfl (Or.inl rfl) fun r11 σ12 => ?_
    refine a_aload_n dX11_readHearer_136 rfl ?_
    refine a_iconst dX11_readHearer_137 ?_
    refine a_sipush dX11_readHearer_138 si_999 ?_
    refine a_callVi (as := [vi 1, vi 999]) mf_X11_198 lyM_0 rfl (c_M_takes F _ _ _) LYsame.rf dX11_readHearer_141 rfl rfl rfl rfl rfl rfl (Or.inl rfl) fun r13 σ14 => ?_
    refine a_if_ne dX11_readHearer_144 rfl (fun _ => ?_) (fun _ => ?_)
    · refine a_aload_n dX11_readHearer_149 rfl ?_
      refine a_getR (c0 := 3) fl_X11_37 lyM_0 rfl dX11_readHearer_150 (key := 7) rfl ?_
      refine a_bipush dX11_readHearer_153 bi_6 ?_
      refine a_iconst dX11_readHearer_155 ?_
      refine a_iload_n dX11_readHearer_156 rfl ?_
      refine a_imul dX11_readHearer_157 ?_
      refine a_iadd dX11_readHearer_158 ?_
      refine a_iconst dX11_readHearer_159 ?_
      refine a_iadd dX11_readHearer_160 ?_
      refine a_aload_n dX11_readHearer_161 rfl ?_
      refine a_getI fl_X11_179 lyM_0 rfl dX11_readHearer_162 (key := 17) rfl ?_
      refine a_iast lyM_3 rfl dX11_readHearer_165 fun σ15 => ?_
      refine a_aload_n dX11_readHearer_166 rfl ?_
      refine a_getR (c0 := 3) fl_X11_37 lyM_0 rfl dX11_readHearer_167 (key := 7) rfl ?_
      refine a_iconst dX11_readHearer_170 ?_
      refine a_dup2 dX11_readHearer_171 rfl rfl ?_
      refine a_iald lyM_3 rfl dX11_readHearer_172 ?_
      refine a_iconst dX11_readHearer_173 ?_
      refine a_iadd dX11_readHearer_174 ?_
      refine a_iast lyM_3 rfl dX11_readHearer_175 fun σ16 => ?_
      refine a_iconst dX11_readHearer_176 ?_
      exact a_zretc (by decide) dX11_readHearer_177
    refine a_iconst dX11_readHearer_147 ?_
    exact a_zretc (by decide) dX11_readHearer_148
  refine a_aload_n dX11_readHearer_59 rfl ?_
  refine a_getR (c0 := 3) fl_X11_37 lyM_0 rfl dX11_readHearer_60 (key := 7) rfl ?_
  refine a_bipush dX11_readHearer_63 bi_6 ?_
  refine a_iconst dX11_readHearer_65 ?_
  refine a_iload_n dX11_readHearer_66 rfl ?_
  refine a_imul dX11_readHearer_67 ?_
  refine a_iadd dX11_readHearer_68 ?_
  refine a_iald lyM_3 rfl dX11_readHearer_69 ?_
  refine a_bvi fun t17 => ?_
  refine a_aload_n dX11_readHearer_70 rfl ?_
  refine a_getI fl_X11_153 lyM_0 rfl dX11_readHearer_71 (key := 13) rfl ?_
  refine a_icmp_ne dX11_readHearer_74 rfl (fun _ => ?_) (fun _ => ?_)
  · refine a_bv fun x2_18 ex2_18 => ?_
    refine a_iinc (y := x2_18) (L' := [some (.ref 0), some (vi x1), some (vi x2_18)]) dX11_readHearer_83 rfl ex2_18 rfl rfl rfl ?_
    refine a_goto dX11_readHearer_86 rfl ?_
    exact hself _ _ _
  refine a_aload_n dX11_readHearer_77 rfl ?_
  refine a_iconst dX11_readHearer_78 ?_
  refine a_callVi (as := [vi 3]) mf_X11_169 lyM_0 rfl (c_M_bad F _ _) LYsame.rf dX11_readHearer_79 rfl rfl rfl rfl rfl rfl (Or.inl rfl) fun r19 σ20 => ?_
  exact a_zret dX11_readHearer_82
set_option maxRecDepth 100000 in
set_option maxHeartbeats 4000000 in
theorem cl_M_readHearer_54 {K : KX} (F : Nat) : ∀ (n : Nat) (σ : St) (x1 x2 : Int), WA 4 0 1 cX11_readHearer RX11 3 (some .boolean) LYM LYM K 54 [some (.ref 0), some (vi x1), some (vi x2)] [] σ (l_M_readHearer_54 F n σ x1 x2)
  | 0, _, _, _ => a_none
  | n + 1, σ, x1, x2 => cb_M_readHearer_54 F _ (cl_M_readHearer_54 F n) σ x1 x2
set_option maxRecDepth 100000 in
set_option maxHeartbeats 4000000 in
theorem c_M_readHearer (F : Nat) (σ : St) : Ct 4 0 1 yX11_readHearer cX11_readHearer 3 (some .boolean) LYM LYM [.ref 0] σ (f_M_readHearer F σ) := by
  unfold f_M_readHearer
  refine Ct_of (d := 4) (kp := 0) (kd := 1) (own := RX11) (nL := 3) (ret := (some .boolean)) (LY := LYM) (LYe := LYM) (L := [some (.ref 0), none, none]) rfl (by decide +kernel) rfl rfl mf_X11_202.2.2.2.1 rfl fun K => ?_
  refine a_aload_n dX11_readHearer_0 rfl ?_
  refine a_getR (c0 := 3) fl_X11_37 lyM_0 rfl dX11_readHearer_1 (key := 7) rfl ?_
  refine a_iconst dX11_readHearer_4 ?_
  refine a_iald lyM_3 rfl dX11_readHearer_5 ?_
  refine a_bv fun x1_1 ex1_1 => ?_
  refine a_istore_n (y := x1_1) (L' := [some (.ref 0), some (vi x1_1), none]) dX11_readHearer_6 ex1_1 rfl rfl rfl ?_
  refine a_iload_n dX11_readHearer_7 rfl ?_
  refine a_bipush dX11_readHearer_8 bi_10 ?_
  refine a_icmp_ne dX11_readHearer_10 rfl (fun _ => ?_) (fun _ => ?_)
  · refine a_aload_n dX11_readHearer_19 rfl ?_
    refine a_callVv (as := []) mf_X11_172 lyM_0 rfl (c_M_next F _) LYsame.rf dX11_readHearer_20 rfl rfl rfl rfl rfl rfl (Or.inl rfl) fun r2 σ3 => ?_
    refine a_aload_n dX11_readHearer_23 rfl ?_
    refine a_getI fl_X11_143 lyM_0 rfl dX11_readHearer_24 (key := 10) rfl ?_
    refine a_iconst dX11_readHearer_27 ?_
    refine a_icmp_eq dX11_readHearer_28 rfl (fun _ => ?_) (fun _ => ?_)
    · refine a_aload_n dX11_readHearer_37 rfl ?_
      refine a_getI fl_X11_153 lyM_0 rfl dX11_readHearer_38 (key := 13) rfl ?_
      refine a_bipush dX11_readHearer_41 bi_99 ?_
      refine a_icmp_le dX11_readHearer_43 rfl (fun _ => ?_) (fun _ => ?_)
      · refine a_iconst dX11_readHearer_52 ?_
        refine a_istore_n (L' := [some (.ref 0), some (vi x1_1), some (vi 0)]) dX11_readHearer_53 rfl rfl rfl rfl ?_
        exact cl_M_readHearer_54 F F _ _ _
      refine a_aload_n dX11_readHearer_46 rfl ?_
      refine a_iconst dX11_readHearer_47 ?_
      refine a_callVi (as := [vi 2]) mf_X11_169 lyM_0 rfl (c_M_bad F _ _) LYsame.rf dX11_readHearer_48 rfl rfl rfl rfl rfl rfl (Or.inl rfl) fun r21 σ22 => ?_
      exact a_zret dX11_readHearer_51
    refine a_aload_n dX11_readHearer_31 rfl ?_
    refine a_iconst dX11_readHearer_32 ?_
    refine a_callVi (as := [vi 1]) mf_X11_169 lyM_0 rfl (c_M_bad F _ _) LYsame.rf dX11_readHearer_33 rfl rfl rfl rfl rfl rfl (Or.inl rfl) fun r23 σ24 => ?_
    exact a_zret dX11_readHearer_36
  refine a_aload_n dX11_readHearer_13 rfl ?_
  refine a_iconst dX11_readHearer_14 ?_
  refine a_callVi (as := [vi 4]) mf_X11_169 lyM_0 rfl (c_M_bad F _ _) LYsame.rf dX11_readHearer_15 rfl rfl rfl rfl rfl rfl (Or.inl rfl) fun r25 σ26 => ?_
  exact a_zret dX11_readHearer_18
def f_M_line (F : Nat) (σ : St) : Option (Int × St) := bnd (f_M_isWord F σ 30506450281915237) fun r1 σ2 => gd (rng r1) (if r1 = 0 then bnd (f_M_isWord F σ2 114784635872626) fun r3 σ4 => gd (rng r3) (if r3 = 0 then bnd (f_M_isWord F σ4 126879480964466) fun r5 σ6 => gd (rng r5) (if r5 = 0 then bnd (f_M_isWord F σ6 32497584235442030) fun r7 σ8 => gd (rng r7) (if r7 = 0 then bnd (f_M_isWord F σ8 27696016923389543) fun r9 σ10 => gd (rng r9) (if r9 = 0 then bnd (f_M_bad F σ10 1) fun r11 σ12 => gd (isb r11) (some (r11, σ12)) else bnd (f_M_readBearing F σ10) fun r13 σ14 => gd (isb r13) (some (r13, σ14))) else gd (inb 3 82) (bv (gA σ8 3 (Int.toNat 3)) fun x1_15 => gd (rng x1_15 ∧ rng 4) (if x1_15 = 4 then bnd (f_M_bad F σ8 4) fun r27 σ28 => gd (isb r27) (some (r27, σ28)) else bnd (f_M_next F σ8) fun r16 σ17 => bnd (f_M_fresh F σ17 (16 + x1_15)) fun r18 σ19 => gd (rng r18) (if r18 = 0 then some (0, σ19) else bnd (f_M_takesSigned F σ19 0) fun r20 σ21 => gd (rng r20) (if r20 = 0 then some (0, σ21) else gd (inb (50 + (2 * x1_15)) 82) (bs (sA σ21 3 (Int.toNat (50 + (2 * x1_15))) (gF σ21 17)) fun σ22 => bnd (f_M_takesSigned F σ22 0) fun r23 σ24 => gd (rng r23) (if r23 = 0 then some (0, σ24) else gd (inb ((50 + (2 * x1_15)) + 1) 82) (bs (sA σ24 3 (Int.toNat ((50 + (2 * x1_15)) + 1)) (gF σ24 17)) fun σ25 => gd (inb 3 82) (gd (inb 3 82) (bs (sA σ25 3 (Int.toNat 3) ((gA σ25 3 (Int.toNat 3)) + 1)) fun σ26 => some (1, σ26))))))))))) else bnd (f_M_readSender F σ6) fun r29 σ30 => gd (isb r29) (some (r29, σ30))) else bnd (f_M_readHearer F σ4) fun r31 σ32 => gd (isb r31) (some (r31, σ32))) else gd (rng (gF σ2 19)) (if (gF σ2 19) = 0 then gd (inb 2 82) (gd (rng (gA σ2 3 (Int.toNat 2))) (if (gA σ2 3 (Int.toNat 2)) ≤ 0 then gd (isb 1) (bs (sF σ2 19 1) fun σ35 => bnd (f_M_next F σ35) fun r36 σ37 => bnd (f_M_takes F σ37 2 60) fun r38 σ39 => gd (rng r38) (if r38 = 0 then some (0, σ39) else gd (inb 0 82) (bs (sA σ39 3 (Int.toNat 0) (gF σ39 17)) fun σ40 => some (1, σ40)))) else bnd (f_M_bad F σ2 3) fun r41 σ42 => gd (isb r41) (some (r41, σ42)))) else bnd (f_M_bad F σ2 3) fun r33 σ34 => gd (isb r33) (some (r33, σ34))))
set_option maxRecDepth 100000 in
set_option maxHeartbeats 4000000 in
theorem c_M_line (F : Nat) (σ : St) : Ct 5 0 1 yX11_line cX11_line 2 (some .boolean) LYM LYM [.ref 0] σ (f_M_line F σ) := by
  unfold f_M_line
  refine Ct_of (d := 5) (kp := 0) (kd := 1) (own := RX11) (nL := 2) (ret := (some .boolean)) (LY := LYM) (LYe := LYM) (L := [some (.ref 0), none]) rfl (by decide +kernel) rfl rfl mf_X11_224.2.2.2.1 rfl fun K => ?_
  refine a_aload_n dX11_line_0 rfl ?_
  refine a_ldc2 kc_X11_114 rfl dX11_line_1 ?_
  refine a_callVi (as := [vl 30506450281915237]) mf_X11_190 lyM_0 rfl (c_M_isWord F _ _) LYsame.rf dX11_line_4 rfl rfl rfl rfl rfl rfl (Or.inl rfl) fun r1 σ2 => ?_
  refine a_if_eq dX11_line_7 rfl (fun _ => ?_) (fun _ => ?_)
  · refine a_aload_n dX11_line_65 rfl ?_
    refine a_ldc2 kc_X11_116 rfl dX11_line_66 ?_
    refine a_callVi (as := [vl 114784635872626]) mf_X11_190 lyM_0 rfl (c_M_isWord F _ _) LYsame.rf dX11_line_69 rfl rfl rfl rfl rfl rfl (Or.inl rfl) fun r3 σ4 => ?_
    refine a_if_eq dX11_line_72 rfl (fun _ => ?_) (fun _ => ?_)
    · refine a_aload_n dX11_line_80 rfl ?_
      refine a_ldc2 kc_X11_120 rfl dX11_line_81 ?_
      refine a_callVi (as := [vl 126879480964466]) mf_X11_190 lyM_0 rfl (c_M_isWord F _ _) LYsame.rf dX11_line_84 rfl rfl rfl rfl rfl rfl (Or.inl rfl) fun r5 σ6 => ?_
      refine a_if_eq dX11_line_87 rfl (fun _ => ?_) (fun _ => ?_)
      · refine a_aload_n dX11_line_95 rfl ?_
        refine a_ldc2 kc_X11_126 rfl dX11_line_96 ?_
        refine a_callVi (as := [vl 32497584235442030]) mf_X11_190 lyM_0 rfl (c_M_isWord F _ _) LYsame.rf dX11_line_99 rfl rfl rfl rfl rfl rfl (Or.inl rfl) fun r7 σ8 => ?_
        refine a_if_eq dX11_line_102 rfl (fun _ => ?_) (fun _ => ?_)
        · refine a_aload_n dX11_line_204 rfl ?_
          refine a_ldc2 kc_X11_128 rfl dX11_line_205 ?_
          refine a_callVi (as := [vl 27696016923389543]) mf_X11_190 lyM_0 rfl (c_M_isWord F _ _) LYsame.rf dX11_line_208 rfl rfl rfl rfl rfl rfl (Or.inl rfl) fun r9 σ10 => ?_
          refine a_if_eq dX11_line_211 rfl (fun _ => ?_) (fun _ => ?_)
          · refine a_aload_n dX11_line_221 rfl ?_
            refine a_iconst dX11_line_222 ?_
            refine a_callVi (as := [vi 1]) mf_X11_169 lyM_0 rfl (c_M_bad F _ _) LYsame.rf dX11_line_223 rfl rfl rfl rfl rfl rfl (Or.inl rfl) fun r11 σ12 => ?_
            exact a_zret dX11_line_226
          refine a_aload_n dX11_line_214 rfl ?_
          refine a_callVi (as := []) mf_X11_215 lyM_0 rfl (c_M_readBearing F _) LYsame.rf dX11_line_215 rfl rfl rfl rfl rfl rfl (Or.inl rfl) fun r13 σ14 => ?_
          refine a_goto dX11_line_218 rfl ?_
          exact a_zret dX11_line_226
        refine a_aload_n dX11_line_105 rfl ?_
        refine a_getR (c0 := 3) fl_X11_37 lyM_0 rfl dX11_line_106 (key := 7) rfl ?_
        refine a_iconst dX11_line_109 ?_
        refine a_iald lyM_3 rfl dX11_line_110 ?_
        refine a_bv fun x1_15 ex1_15 => ?_
        refine a_istore_n (y := x1_15) (L' := [some (.ref 0), some (vi x1_15)]) dX11_line_111 ex1_15 rfl rfl rfl ?_
        refine a_iload_n dX11_line_112 rfl ?_
        refine a_iconst dX11_line_113 ?_
        refine a_icmp_ne dX11_line_114 rfl (fun _ => ?_) (fun _ => ?_)
        · refine a_aload_n dX11_line_123 rfl ?_
          refine a_callVv (as := []) mf_X11_172 lyM_0 rfl (c_M_next F _) LYsame.rf dX11_line_124 rfl rfl rfl rfl rfl rfl (Or.inl rfl) fun r16 σ17 => ?_
          refine a_aload_n dX11_line_127 rfl ?_
          refine a_bipush dX11_line_128 bi_16 ?_
          refine a_iload_n dX11_line_130 rfl ?_
          refine a_iadd dX11_line_131 ?_
          refine a_callVi (as := [vi (16 + x1_15)]) mf_X11_208 lyM_0 rfl (c_M_fresh F _ _) LYsame.rf dX11_line_132 rfl rfl rfl rfl rfl rfl (Or.inl rfl) fun r18 σ19 => ?_
          refine a_if_ne dX11_line_135 rfl (fun _ => ?_) (fun _ => ?_)
          · refine a_aload_n dX11_line_140 rfl ?_
            refine a_iconst dX11_line_141 ?_
            refine a_callVi (as := [vi 0]) mf_X11_211 lyM_0 rfl (c_M_takesSigned F _ _) LYsame.rf dX11_line_142 rfl rfl rfl rfl rfl rfl (Or.inl rfl) fun r20 σ21 => ?_
            refine a_if_ne dX11_line_145 rfl (fun _ => ?_) (fun _ => ?_)
            · refine a_aload_n dX11_line_150 rfl ?_
              refine a_getR (c0 := 3) fl_X11_37 lyM_0 rfl dX11_line_151 (key := 7) rfl ?_
              refine a_bipush dX11_line_154 bi_50 ?_
              refine a_iconst dX11_line_156 ?_
              refine a_iload_n dX11_line_157 rfl ?_
              refine a_imul dX11_line_158 ?_
              refine a_iadd dX11_line_159 ?_
              refine a_aload_n dX11_line_160 rfl ?_
              refine a_getI fl_X11_179 lyM_0 rfl dX11_line_161 (key := 17) rfl ?_
              refine a_iast lyM_3 rfl dX11_line_164 fun σ22 => ?_
              refine a_aload_n dX11_line_165 rfl ?_
              refine a_iconst dX11_line_166 ?_
              refine a_callVi (as := [vi 0]) mf_X11_211 lyM_0 rfl (c_M_takesSigned F _ _) LYsame.rf dX11_line_167 rfl rfl rfl rfl rfl rfl (Or.inl rfl) fun r23 σ24 => ?_
              refine a_if_ne dX11_line_170 rfl (fun _ => ?_) (fun _ => ?_)
              · refine a_aload_n dX11_line_175 rfl ?_
                refine a_getR (c0 := 3) fl_X11_37 lyM_0 rfl dX11_line_176 (key := 7) rfl ?_
                refine a_bipush dX11_line_179 bi_50 ?_
                refine a_iconst dX11_line_181 ?_
                refine a_iload_n dX11_line_182 rfl ?_
                refine a_imul dX11_line_183 ?_
                refine a_iadd dX11_line_184 ?_
                refine a_iconst dX11_line_185 ?_
                refine a_iadd dX11_line_186 ?_
                refine a_aload_n dX11_line_187 rfl ?_
                refine a_getI fl_X11_179 lyM_0 rfl dX11_line_188 (key := 17) rfl ?_
                refine a_iast lyM_3 rfl dX11_line_191 fun σ25 => ?_
                refine a_aload_n dX11_line_192 rfl ?_
                refine a_getR (c0 := 3) fl_X11_37 lyM_0 rfl dX11_line_193 (key := 7) rfl ?_
                refine a_iconst dX11_line_196 ?_
                refine a_dup2 dX11_line_197 rfl rfl ?_
                refine a_iald lyM_3 rfl dX11_line_198 ?_
                refine a_iconst dX11_line_199 ?_
                refine a_iadd dX11_line_200 ?_
                refine a_iast lyM_3 rfl dX11_line_201 fun σ26 => ?_
                refine a_iconst dX11_line_202 ?_
                exact a_zretc (by decide) dX11_line_203
              refine a_iconst dX11_line_173 ?_
              exact a_zretc (by decide) dX11_line_174
            refine a_iconst dX11_line_148 ?_
            exact a_zretc (by decide) dX11_line_149
          refine a_iconst dX11_line_138 ?_
          exact a_zretc (by decide) dX11_line_139
        refine a_aload_n dX11_line_117 rfl ?_
        refine a_iconst dX11_line_118 ?_
        refine a_callVi (as := [vi 4]) mf_X11_169 lyM_0 rfl (c_M_bad F _ _) LYsame.rf dX11_line_119 rfl rfl rfl rfl rfl rfl (Or.inl rfl) fun r27 σ28 => ?_
        exact a_zret dX11_line_122
      refine a_aload_n dX11_line_90 rfl ?_
      refine a_callVi (as := []) mf_X11_205 lyM_0 rfl (c_M_readSender F _) LYsame.rf dX11_line_91 rfl rfl rfl rfl rfl rfl (Or.inl rfl) fun r29 σ30 => ?_
      exact a_zret dX11_line_94
    refine a_aload_n dX11_line_75 rfl ?_
    refine a_callVi (as := []) mf_X11_202 lyM_0 rfl (c_M_readHearer F _) LYsame.rf dX11_line_76 rfl rfl rfl rfl rfl rfl (Or.inl rfl) fun r31 σ32 => ?_
    exact a_zret dX11_line_79
  refine a_aload_n dX11_line_10 rfl ?_
  refine a_getI fl_X11_194 lyM_0 rfl dX11_line_11 (key := 19) rfl ?_
  refine a_if_ne dX11_line_14 rfl (fun _ => ?_) (fun _ => ?_)
  · refine a_aload_n dX11_line_26 rfl ?_
    refine a_iconst dX11_line_27 ?_
    refine a_callVi (as := [vi 3]) mf_X11_169 lyM_0 rfl (c_M_bad F _ _) LYsame.rf dX11_line_28 rfl rfl rfl rfl rfl rfl (Or.inl rfl) fun r33 σ34 => ?_
    exact a_zret dX11_line_31
  refine a_aload_n dX11_line_17 rfl ?_
  refine a_getR (c0 := 3) fl_X11_37 lyM_0 rfl dX11_line_18 (key := 7) rfl ?_
  refine a_iconst dX11_line_21 ?_
  refine a_iald lyM_3 rfl dX11_line_22 ?_
  refine a_if_le dX11_line_23 rfl (fun _ => ?_) (fun _ => ?_)
  · refine a_aload_n dX11_line_32 rfl ?_
    refine a_iconst dX11_line_33 ?_
    refine a_putZ fl_X11_194 cf_X11 rfl rfl lyM_0 rfl dX11_line_34 (key := 19) rfl fun σ35 => ?_
    refine a_aload_n dX11_line_37 rfl ?_
    refine a_callVv (as := []) mf_X11_172 lyM_0 rfl (c_M_next F _) LYsame.rf dX11_line_38 rfl rfl rfl rfl rfl rfl (Or.inl rfl) fun r36 σ37 => ?_
    refine a_aload_n dX11_line_41 rfl ?_
    refine a_iconst dX11_line_42 ?_
    refine a_bipush dX11_line_43 bi_60 ?_
    refine a_callVi (as := [vi 2, vi 60]) mf_X11_198 lyM_0 rfl (c_M_takes F _ _ _) LYsame.rf dX11_line_45 rfl rfl rfl rfl rfl rfl (Or.inl rfl) fun r38 σ39 => ?_
    refine a_if_ne dX11_line_48 rfl (fun _ => ?_) (fun _ => ?_)
    · refine a_aload_n dX11_line_53 rfl ?_
      refine a_getR (c0 := 3) fl_X11_37 lyM_0 rfl dX11_line_54 (key := 7) rfl ?_
      refine a_iconst dX11_line_57 ?_
      refine a_aload_n dX11_line_58 rfl ?_
      refine a_getI fl_X11_179 lyM_0 rfl dX11_line_59 (key := 17) rfl ?_
      refine a_iast lyM_3 rfl dX11_line_62 fun σ40 => ?_
      refine a_iconst dX11_line_63 ?_
      exact a_zretc (by decide) dX11_line_64
    refine a_iconst dX11_line_51 ?_
    exact a_zretc (by decide) dX11_line_52
  refine a_aload_n dX11_line_26 rfl ?_
  refine a_iconst dX11_line_27 ?_
  refine a_callVi (as := [vi 3]) mf_X11_169 lyM_0 rfl (c_M_bad F _ _) LYsame.rf dX11_line_28 rfl rfl rfl rfl rfl rfl (Or.inl rfl) fun r41 σ42 => ?_
  exact a_zret dX11_line_31
def b_M_isPrime_2 (F : Nat) (self : St → Int → Int → Option (Int × St)) (σ : St) (x0 x1 : Int) : Option (Int × St) := gd (rng (x1 * x1) ∧ rng x0) (if x0 < (x1 * x1) then some (1, σ) else gd (rng x0 ∧ rng x1 ∧ x1 ≠ (0 : Int)) (gd (rng (Int.tmod x0 x1)) (if (Int.tmod x0 x1) = 0 then some (0, σ) else bv (x1 + 1) fun x1_1 => self σ x0 x1_1)))
def l_M_isPrime_2 (F : Nat) : Nat → St → Int → Int → Option (Int × St)
  | 0 => fun _ _ _ => none
  | n + 1 => fun σ x0 x1 => b_M_isPrime_2 F (l_M_isPrime_2 F n) σ x0 x1
def f_M_isPrime (F : Nat) (σ : St) (x0 : Int) : Option (Int × St) := l_M_isPrime_2 F F σ x0 2
set_option maxRecDepth 100000 in
set_option maxHeartbeats 4000000 in
theorem cb_M_isPrime_2 {K : KX} (F : Nat) (self : St → Int → Int → Option (Int × St)) (hself : ∀ σ x0 x1, WA 1 0 1 cX11_isPrime RX11 2 (some .boolean) LYM LYM K 2 [some (vi x0), some (vi x1)] [] σ (self σ x0 x1)) (σ : St) (x0 x1 : Int) : WA 1 0 1 cX11_isPrime RX11 2 (some .boolean) LYM LYM K 2 [some (vi x0), some (vi x1)] [] σ (b_M_isPrime_2 F self σ x0 x1) := by
  unfold b_M_isPrime_2
  refine a_iload_n dX11_isPrime_2 rfl ?_
  refine a_iload_n dX11_isPrime_3 rfl ?_
  refine a_imul dX11_isPrime_4 ?_
  refine a_iload_n dX11_isPrime_5 rfl ?_
  refine a_icmp_gt dX11_isPrime_6 rfl (fun _ => ?_) (fun _ => ?_)
  · refine a_iconst dX11_isPrime_23 ?_
    exact a_zretc (by decide) dX11_isPrime_24
  refine a_iload_n dX11_isPrime_9 rfl ?_
  refine a_iload_n dX11_isPrime_10 rfl ?_
  refine a_irem dX11_isPrime_11 (fun _ => ?_)
  refine a_if_ne dX11_isPrime_12 rfl (fun _ => ?_) (fun _ => ?_)
  · refine a_bv fun x1_1 ex1_1 => ?_
    refine a_iinc (y := x1_1) (L' := [some (vi x0), some (vi x1_1)]) dX11_isPrime_17 rfl ex1_1 rfl rfl rfl ?_
    refine a_goto dX11_isPrime_20 rfl ?_
    exact hself _ _ _
  refine a_iconst dX11_isPrime_15 ?_
  exact a_zretc (by decide) dX11_isPrime_16
set_option maxRecDepth 100000 in
set_option maxHeartbeats 4000000 in
theorem cl_M_isPrime_2 {K : KX} (F : Nat) : ∀ (n : Nat) (σ : St) (x0 x1 : Int), WA 1 0 1 cX11_isPrime RX11 2 (some .boolean) LYM LYM K 2 [some (vi x0), some (vi x1)] [] σ (l_M_isPrime_2 F n σ x0 x1)
  | 0, _, _, _ => a_none
  | n + 1, σ, x0, x1 => cb_M_isPrime_2 F _ (cl_M_isPrime_2 F n) σ x0 x1
set_option maxRecDepth 100000 in
set_option maxHeartbeats 4000000 in
theorem c_M_isPrime (F : Nat) (σ : St) (x0 : Int) : Ct 1 0 1 yX11_isPrime cX11_isPrime 2 (some .boolean) LYM LYM [vi x0] σ (f_M_isPrime F σ x0) := by
  unfold f_M_isPrime
  refine Ct_of (d := 1) (kp := 0) (kd := 1) (own := RX11) (nL := 2) (ret := (some .boolean)) (LY := LYM) (LYe := LYM) (L := [some (vi x0), none]) rfl (by decide +kernel) rfl rfl mf_X11_233.2.2.2.1 rfl fun K => ?_
  refine a_iconst dX11_isPrime_0 ?_
  refine a_istore_n (L' := [some (vi x0), some (vi 2)]) dX11_isPrime_1 rfl rfl rfl rfl ?_
  exact cl_M_isPrime_2 F F _ _ _
def b_M_comesRound_5 (F : Nat) (self : St → Int → Int → Int → Int → Option (Int × St)) (σ : St) (x1 x2 x3 x4 : Int) : Option (Int × St) := gd (rng x4 ∧ rng x2) (if x2 < x4 then some (0, σ) else gd (rng (x3 * x1) ∧ rng (gF σ 20) ∧ (gF σ 20) ≠ (0 : Int)) (bv (Int.tmod (x3 * x1) (gF σ 20)) fun x3_1 => gd (rng x3_1 ∧ rng 1) (if x3_1 = 1 then gd (rng x4 ∧ rng x2) (if x4 = x2 then some (1, σ) else some (0, σ)) else bv (x4 + 1) fun x4_2 => self σ x1 x2 x3_1 x4_2)))
def l_M_comesRound_5 (F : Nat) : Nat → St → Int → Int → Int → Int → Option (Int × St)
  | 0 => fun _ _ _ _ _ => none
  | n + 1 => fun σ x1 x2 x3 x4 => b_M_comesRound_5 F (l_M_comesRound_5 F n) σ x1 x2 x3 x4
def f_M_comesRound (F : Nat) (σ : St) (x1 x2 : Int) : Option (Int × St) := l_M_comesRound_5 F F σ x1 x2 1 1
set_option maxRecDepth 100000 in
set_option maxHeartbeats 4000000 in
theorem cb_M_comesRound_5 {K : KX} (F : Nat) (self : St → Int → Int → Int → Int → Option (Int × St)) (hself : ∀ σ x1 x2 x3 x4, WA 1 0 1 cX11_comesRound RX11 5 (some .boolean) LYM LYM K 5 [some (.ref 0), some (vi x1), some (vi x2), some (vi x3), some (vi x4)] [] σ (self σ x1 x2 x3 x4)) (σ : St) (x1 x2 x3 x4 : Int) : WA 1 0 1 cX11_comesRound RX11 5 (some .boolean) LYM LYM K 5 [some (.ref 0), some (vi x1), some (vi x2), some (vi x3), some (vi x4)] [] σ (b_M_comesRound_5 F self σ x1 x2 x3 x4) := by
  unfold b_M_comesRound_5
  refine a_iload dX11_comesRound_5 rfl ?_
  refine a_iload_n dX11_comesRound_7 rfl ?_
  refine a_icmp_gt dX11_comesRound_8 rfl (fun _ => ?_) (fun _ => ?_)
  · refine a_iconst dX11_comesRound_43 ?_
    exact a_zretc (by decide) dX11_comesRound_44
  refine a_iload_n dX11_comesRound_11 rfl ?_
  refine a_iload_n dX11_comesRound_12 rfl ?_
  refine a_imul dX11_comesRound_13 ?_
  refine a_aload_n dX11_comesRound_14 rfl ?_
  refine a_getI fl_X11_230 lyM_0 rfl dX11_comesRound_15 (key := 20) rfl ?_
  refine a_irem dX11_comesRound_18 (fun _ => ?_)
  refine a_bv fun x3_1 ex3_1 => ?_
  refine a_istore_n (y := x3_1) (L' := [some (.ref 0), some (vi x1), some (vi x2), some (vi x3_1), some (vi x4)]) dX11_comesRound_19 ex3_1 rfl rfl rfl ?_
  refine a_iload_n dX11_comesRound_20 rfl ?_
  refine a_iconst dX11_comesRound_21 ?_
  refine a_icmp_ne dX11_comesRound_22 rfl (fun _ => ?_) (fun _ => ?_)
  · refine a_bv fun x4_2 ex4_2 => ?_
    refine a_iinc (y := x4_2) (L' := [some (.ref 0), some (vi x1), some (vi x2), some (vi x3_1), some (vi x4_2)]) dX11_comesRound_37 rfl ex4_2 rfl rfl rfl ?_
    refine a_goto dX11_comesRound_40 rfl ?_
    exact hself _ _ _ _ _
  refine a_iload dX11_comesRound_25 rfl ?_
  refine a_iload_n dX11_comesRound_27 rfl ?_
  refine a_icmp_ne dX11_comesRound_28 rfl (fun _ => ?_) (fun _ => ?_)
  · refine a_iconst dX11_comesRound_35 ?_
    exact a_zretc (by decide) dX11_comesRound_36
  refine a_iconst dX11_comesRound_31 ?_
  refine a_goto dX11_comesRound_32 rfl ?_
  exact a_zretc (by decide) dX11_comesRound_36
set_option maxRecDepth 100000 in
set_option maxHeartbeats 4000000 in
theorem cl_M_comesRound_5 {K : KX} (F : Nat) : ∀ (n : Nat) (σ : St) (x1 x2 x3 x4 : Int), WA 1 0 1 cX11_comesRound RX11 5 (some .boolean) LYM LYM K 5 [some (.ref 0), some (vi x1), some (vi x2), some (vi x3), some (vi x4)] [] σ (l_M_comesRound_5 F n σ x1 x2 x3 x4)
  | 0, _, _, _, _, _ => a_none
  | n + 1, σ, x1, x2, x3, x4 => cb_M_comesRound_5 F _ (cl_M_comesRound_5 F n) σ x1 x2 x3 x4
set_option maxRecDepth 100000 in
set_option maxHeartbeats 4000000 in
theorem c_M_comesRound (F : Nat) (σ : St) (x1 x2 : Int) : Ct 1 0 1 yX11_comesRound cX11_comesRound 5 (some .boolean) LYM LYM [.ref 0, vi x1, vi x2] σ (f_M_comesRound F σ x1 x2) := by
  unfold f_M_comesRound
  refine Ct_of (d := 1) (kp := 0) (kd := 1) (own := RX11) (nL := 5) (ret := (some .boolean)) (LY := LYM) (LYe := LYM) (L := [some (.ref 0), some (vi x1), some (vi x2), none, none]) rfl (by decide +kernel) rfl rfl mf_X11_239.2.2.2.1 rfl fun K => ?_
  refine a_iconst dX11_comesRound_0 ?_
  refine a_istore_n (L' := [some (.ref 0), some (vi x1), some (vi x2), some (vi 1), none]) dX11_comesRound_1 rfl rfl rfl rfl ?_
  refine a_iconst dX11_comesRound_2 ?_
  refine a_istore (L' := [some (.ref 0), some (vi x1), some (vi x2), some (vi 1), some (vi 1)]) dX11_comesRound_3 rfl rfl rfl rfl ?_
  exact cl_M_comesRound_5 F F _ _ _ _ _
def b_M_power_5 (F : Nat) (self : St → Int → Int → Int → Int → Option (Int × St)) (σ : St) (x1 x2 x3 x4 : Int) : Option (Int × St) := gd (rng x4 ∧ rng x2) (if x2 ≤ x4 then some (x3, σ) else gd (rng (x3 * x1) ∧ rng (gF σ 20) ∧ (gF σ 20) ≠ (0 : Int)) (bv (Int.tmod (x3 * x1) (gF σ 20)) fun x3_1 => bv (x4 + 1) fun x4_2 => self σ x1 x2 x3_1 x4_2))
def l_M_power_5 (F : Nat) : Nat → St → Int → Int → Int → Int → Option (Int × St)
  | 0 => fun _ _ _ _ _ => none
  | n + 1 => fun σ x1 x2 x3 x4 => b_M_power_5 F (l_M_power_5 F n) σ x1 x2 x3 x4
def f_M_power (F : Nat) (σ : St) (x1 x2 : Int) : Option (Int × St) := l_M_power_5 F F σ x1 x2 1 0
set_option maxRecDepth 100000 in
set_option maxHeartbeats 4000000 in
theorem cb_M_power_5 {K : KX} (F : Nat) (self : St → Int → Int → Int → Int → Option (Int × St)) (hself : ∀ σ x1 x2 x3 x4, WA 1 0 1 cX11_power RX11 5 (some .int) LYM LYM K 5 [some (.ref 0), some (vi x1), some (vi x2), some (vi x3), some (vi x4)] [] σ (self σ x1 x2 x3 x4)) (σ : St) (x1 x2 x3 x4 : Int) : WA 1 0 1 cX11_power RX11 5 (some .int) LYM LYM K 5 [some (.ref 0), some (vi x1), some (vi x2), some (vi x3), some (vi x4)] [] σ (b_M_power_5 F self σ x1 x2 x3 x4) := by
  unfold b_M_power_5
  refine a_iload dX11_power_5 rfl ?_
  refine a_iload_n dX11_power_7 rfl ?_
  refine a_icmp_ge dX11_power_8 rfl (fun _ => ?_) (fun _ => ?_)
  · refine a_iload_n dX11_power_26 rfl ?_
    exact a_iret dX11_power_27
  refine a_iload_n dX11_power_11 rfl ?_
  refine a_iload_n dX11_power_12 rfl ?_
  refine a_imul dX11_power_13 ?_
  refine a_aload_n dX11_power_14 rfl ?_
  refine a_getI fl_X11_230 lyM_0 rfl dX11_power_15 (key := 20) rfl ?_
  refine a_irem dX11_power_18 (fun _ => ?_)
  refine a_bv fun x3_1 ex3_1 => ?_
  refine a_istore_n (y := x3_1) (L' := [some (.ref 0), some (vi x1), some (vi x2), some (vi x3_1), some (vi x4)]) dX11_power_19 ex3_1 rfl rfl rfl ?_
  refine a_bv fun x4_2 ex4_2 => ?_
  refine a_iinc (y := x4_2) (L' := [some (.ref 0), some (vi x1), some (vi x2), some (vi x3_1), some (vi x4_2)]) dX11_power_20 rfl ex4_2 rfl rfl rfl ?_
  refine a_goto dX11_power_23 rfl ?_
  exact hself _ _ _ _ _
set_option maxRecDepth 100000 in
set_option maxHeartbeats 4000000 in
theorem cl_M_power_5 {K : KX} (F : Nat) : ∀ (n : Nat) (σ : St) (x1 x2 x3 x4 : Int), WA 1 0 1 cX11_power RX11 5 (some .int) LYM LYM K 5 [some (.ref 0), some (vi x1), some (vi x2), some (vi x3), some (vi x4)] [] σ (l_M_power_5 F n σ x1 x2 x3 x4)
  | 0, _, _, _, _, _ => a_none
  | n + 1, σ, x1, x2, x3, x4 => cb_M_power_5 F _ (cl_M_power_5 F n) σ x1 x2 x3 x4
set_option maxRecDepth 100000 in
set_option maxHeartbeats 4000000 in
theorem c_M_power (F : Nat) (σ : St) (x1 x2 : Int) : Ct 1 0 1 yX11_power cX11_power 5 (some .int) LYM LYM [.ref 0, vi x1, vi x2] σ (f_M_power F σ x1 x2) := by
  unfold f_M_power
  refine Ct_of (d := 1) (kp := 0) (kd := 1) (own := RX11) (nL := 5) (ret := (some .int)) (LY := LYM) (LYe := LYM) (L := [some (.ref 0), some (vi x1), some (vi x2), none, none]) rfl (by decide +kernel) rfl rfl mf_X11_242.2.2.2.1 rfl fun K => ?_
  refine a_iconst dX11_power_0 ?_
  refine a_istore_n (L' := [some (.ref 0), some (vi x1), some (vi x2), some (vi 1), none]) dX11_power_1 rfl rfl rfl rfl ?_
  refine a_iconst dX11_power_2 ?_
  refine a_istore (L' := [some (.ref 0), some (vi x1), some (vi x2), some (vi 1), some (vi 0)]) dX11_power_3 rfl rfl rfl rfl ?_
  exact cl_M_power_5 F F _ _ _ _ _
def b_M_settle_81 (F : Nat) (self : St → Int → Int → Option (Int × St)) (σ : St) (x1 x2 : Int) : Option (Int × St) := gd (rng x2 ∧ rng x1) (if x1 ≤ x2 then some (0, σ) else bnd (f_M_power F σ (gF σ 21) x2) fun r9 σ10 => gd (inb x2 60) (bs (sA σ10 6 (Int.toNat x2) r9) fun σ11 => bv (x2 + 1) fun x2_12 => self σ11 x1 x2_12))
def l_M_settle_81 (F : Nat) : Nat → St → Int → Int → Option (Int × St)
  | 0 => fun _ _ _ => none
  | n + 1 => fun σ x1 x2 => b_M_settle_81 F (l_M_settle_81 F n) σ x1 x2
def b_M_settle_54 (F : Nat) (self : St → Int → Option (Int × St)) (σ : St) (x1 : Int) : Option (Int × St) := bnd (f_M_comesRound F σ (gF σ 21) x1) fun r7 σ8 => gd (rng r7) (if r7 = 0 then bs (sF σ8 21 ((gF σ8 21) + 1)) fun σ13 => self σ13 x1 else l_M_settle_81 F F σ8 x1 0)
def l_M_settle_54 (F : Nat) : Nat → St → Int → Option (Int × St)
  | 0 => fun _ _ => none
  | n + 1 => fun σ x1 => b_M_settle_54 F (l_M_settle_54 F n) σ x1
def b_M_settle_14 (F : Nat) (self : St → Int → Option (Int × St)) (σ : St) (x1 : Int) : Option (Int × St) := gd (rng (gF σ 20) ∧ rng x1 ∧ x1 ≠ (0 : Int)) (gd (rng 1 ∧ rng x1 ∧ x1 ≠ (0 : Int)) (gd (rng (Int.tmod (gF σ 20) x1) ∧ rng (Int.tmod 1 x1)) (if (Int.tmod (gF σ 20) x1) = (Int.tmod 1 x1) then bnd (f_M_isPrime F σ (gF σ 20)) fun r4 σ5 => gd (rng r4) (if r4 = 0 then bs (sF σ5 20 ((gF σ5 20) + 1)) fun σ14 => self σ14 x1 else bs (sF σ5 21 1) fun σ6 => l_M_settle_54 F F σ6 x1) else bs (sF σ 20 ((gF σ 20) + 1)) fun σ3 => self σ3 x1)))
def l_M_settle_14 (F : Nat) : Nat → St → Int → Option (Int × St)
  | 0 => fun _ _ => none
  | n + 1 => fun σ x1 => b_M_settle_14 F (l_M_settle_14 F n) σ x1
def f_M_settle (F : Nat) (σ : St) : Option (Int × St) := gd (inb 0 82) (bv (gA σ 2 (Int.toNat 0)) fun x1_1 => bs (sF σ 20 1001) fun σ2 => l_M_settle_14 F F σ2 x1_1)
set_option maxRecDepth 100000 in
set_option maxHeartbeats 4000000 in
theorem cb_M_settle_81 {K : KX} (F : Nat) (self : St → Int → Int → Option (Int × St)) (hself : ∀ σ x1 x2, WA 2 0 0 cX11_settle RX11 3 none LYM LYM K 81 [some (.ref 0), some (vi x1), some (vi x2)] [] σ (self σ x1 x2)) (σ : St) (x1 x2 : Int) : WA 2 0 0 cX11_settle RX11 3 none LYM LYM K 81 [some (.ref 0), some (vi x1), some (vi x2)] [] σ (b_M_settle_81 F self σ x1 x2) := by
  unfold b_M_settle_81
  refine a_iload_n dX11_settle_81 rfl ?_
  refine a_iload_n dX11_settle_82 rfl ?_
  refine a_icmp_ge dX11_settle_83 rfl (fun _ => ?_) (fun _ => ?_)
  · exact a_vret dX11_settle_107
  refine a_aload_n dX11_settle_86 rfl ?_
  refine a_getR (c0 := 6) fl_X11_47 lyM_0 rfl dX11_settle_87 (key := 22) rfl ?_
  refine a_iload_n dX11_settle_90 rfl ?_
  refine a_aload_n dX11_settle_91 rfl ?_
  refine a_aload_n dX11_settle_92 rfl ?_
  refine a_getI fl_X11_236 lyM_0 rfl dX11_settle_93 (key := 21) rfl ?_
  refine a_iload_n dX11_settle_96 rfl ?_
  refine a_callVi (as := [vi (gF σ 21), vi x2]) mf_X11_242 lyM_0 rfl (c_M_power F _ _ _) LYsame.rf dX11_settle_97 rfl rfl rfl rfl rfl rfl (Or.inl rfl) fun r9 σ10 => ?_
  refine a_iast lyM_6 rfl dX11_settle_100 fun σ11 => ?_
  refine a_bv fun x2_12 ex2_12 => ?_
  refine a_iinc (y := x2_12) (L' := [some (.ref 0), some (vi x1), some (vi x2_12)]) dX11_settle_101 rfl ex2_12 rfl rfl rfl ?_
  refine a_goto dX11_settle_104 rfl ?_
  exact hself _ _ _
set_option maxRecDepth 100000 in
set_option maxHeartbeats 4000000 in
theorem cl_M_settle_81 {K : KX} (F : Nat) : ∀ (n : Nat) (σ : St) (x1 x2 : Int), WA 2 0 0 cX11_settle RX11 3 none LYM LYM K 81 [some (.ref 0), some (vi x1), some (vi x2)] [] σ (l_M_settle_81 F n σ x1 x2)
  | 0, _, _, _ => a_none
  | n + 1, σ, x1, x2 => cb_M_settle_81 F _ (cl_M_settle_81 F n) σ x1 x2
set_option maxRecDepth 100000 in
set_option maxHeartbeats 4000000 in
theorem cb_M_settle_54 {K : KX} (F : Nat) (self : St → Int → Option (Int × St)) (hself : ∀ σ x1, WA 2 0 0 cX11_settle RX11 3 none LYM LYM K 54 [some (.ref 0), some (vi x1), none] [] σ (self σ x1)) (σ : St) (x1 : Int) : WA 2 0 0 cX11_settle RX11 3 none LYM LYM K 54 [some (.ref 0), some (vi x1), none] [] σ (b_M_settle_54 F self σ x1) := by
  unfold b_M_settle_54
  refine a_aload_n dX11_settle_54 rfl ?_
  refine a_aload_n dX11_settle_55 rfl ?_
  refine a_getI fl_X11_236 lyM_0 rfl dX11_settle_56 (key := 21) rfl ?_
  refine a_iload_n dX11_settle_59 rfl ?_
  refine a_callVi (as := [vi (gF σ 21), vi x1]) mf_X11_239 lyM_0 rfl (c_M_comesRound F _ _ _) LYsame.rf dX11_settle_60 rfl rfl rfl rfl rfl rfl (Or.inl rfl) fun r7 σ8 => ?_
  refine a_if_ne dX11_settle_63 rfl (fun _ => ?_) (fun _ => ?_)
  · refine a_iconst dX11_settle_79 ?_
    refine a_istore_n (L' := [some (.ref 0), some (vi x1), some (vi 0)]) dX11_settle_80 rfl rfl rfl rfl ?_
    exact cl_M_settle_81 F F _ _ _
  refine a_aload_n dX11_settle_66 rfl ?_
  refine a_dup dX11_settle_67 rfl ?_
  refine a_getI fl_X11_236 lyM_0 rfl dX11_settle_68 (key := 21) rfl ?_
  refine a_iconst dX11_settle_71 ?_
  refine a_iadd dX11_settle_72 ?_
  refine a_putI fl_X11_236 cf_X11 rfl rfl lyM_0 rfl dX11_settle_73 (key := 21) rfl fun σ13 => ?_
  refine a_goto dX11_settle_76 rfl ?_
  exact hself _ _
set_option maxRecDepth 100000 in
set_option maxHeartbeats 4000000 in
theorem cl_M_settle_54 {K : KX} (F : Nat) : ∀ (n : Nat) (σ : St) (x1 : Int), WA 2 0 0 cX11_settle RX11 3 none LYM LYM K 54 [some (.ref 0), some (vi x1), none] [] σ (l_M_settle_54 F n σ x1)
  | 0, _, _ => a_none
  | n + 1, σ, x1 => cb_M_settle_54 F _ (cl_M_settle_54 F n) σ x1
set_option maxRecDepth 100000 in
set_option maxHeartbeats 4000000 in
theorem cb_M_settle_14 {K : KX} (F : Nat) (self : St → Int → Option (Int × St)) (hself : ∀ σ x1, WA 2 0 0 cX11_settle RX11 3 none LYM LYM K 14 [some (.ref 0), some (vi x1), none] [] σ (self σ x1)) (σ : St) (x1 : Int) : WA 2 0 0 cX11_settle RX11 3 none LYM LYM K 14 [some (.ref 0), some (vi x1), none] [] σ (b_M_settle_14 F self σ x1) := by
  unfold b_M_settle_14
  refine a_aload_n dX11_settle_14 rfl ?_
  refine a_getI fl_X11_230 lyM_0 rfl dX11_settle_15 (key := 20) rfl ?_
  refine a_iload_n dX11_settle_18 rfl ?_
  refine a_irem dX11_settle_19 (fun _ => ?_)
  refine a_iconst dX11_settle_20 ?_
  refine a_iload_n dX11_settle_21 rfl ?_
  refine a_irem dX11_settle_22 (fun _ => ?_)
  refine a_icmp_ne dX11_settle_23 rfl (fun _ => ?_) (fun _ => ?_)
  · refine a_aload_n dX11_settle_36 rfl ?_
    refine a_dup dX11_settle_37 rfl ?_
    refine a_getI fl_X11_230 lyM_0 rfl dX11_settle_38 (key := 20) rfl ?_
    refine a_iconst dX11_settle_41 ?_
    refine a_iadd dX11_settle_42 ?_
    refine a_putI fl_X11_230 cf_X11 rfl rfl lyM_0 rfl dX11_settle_43 (key := 20) rfl fun σ3 => ?_
    refine a_goto dX11_settle_46 rfl ?_
    exact hself _ _
  refine a_aload_n dX11_settle_26 rfl ?_
  refine a_getI fl_X11_230 lyM_0 rfl dX11_settle_27 (key := 20) rfl ?_
  refine a_callSi (as := [vi (gF σ 20)]) mf_X11_233 (c_M_isPrime F _ _) LYsame.rf dX11_settle_30 rfl rfl rfl rfl rfl rfl (Or.inl rfl) fun r4 σ5 => ?_
  refine a_if_ne dX11_settle_33 rfl (fun _ => ?_) (fun _ => ?_)
  · refine a_aload_n dX11_settle_49 rfl ?_
    refine a_iconst dX11_settle_50 ?_
    refine a_putI fl_X11_236 cf_X11 rfl rfl lyM_0 rfl dX11_settle_51 (key := 21) rfl fun σ6 => ?_
    exact cl_M_settle_54 F F _ _
  refine a_aload_n dX11_settle_36 rfl ?_
  refine a_dup dX11_settle_37 rfl ?_
  refine a_getI fl_X11_230 lyM_0 rfl dX11_settle_38 (key := 20) rfl ?_
  refine a_iconst dX11_settle_41 ?_
  refine a_iadd dX11_settle_42 ?_
  refine a_putI fl_X11_230 cf_X11 rfl rfl lyM_0 rfl dX11_settle_43 (key := 20) rfl fun σ14 => ?_
  refine a_goto dX11_settle_46 rfl ?_
  exact hself _ _
set_option maxRecDepth 100000 in
set_option maxHeartbeats 4000000 in
theorem cl_M_settle_14 {K : KX} (F : Nat) : ∀ (n : Nat) (σ : St) (x1 : Int), WA 2 0 0 cX11_settle RX11 3 none LYM LYM K 14 [some (.ref 0), some (vi x1), none] [] σ (l_M_settle_14 F n σ x1)
  | 0, _, _ => a_none
  | n + 1, σ, x1 => cb_M_settle_14 F _ (cl_M_settle_14 F n) σ x1
set_option maxRecDepth 100000 in
set_option maxHeartbeats 4000000 in
theorem c_M_settle (F : Nat) (σ : St) : Ct 2 0 0 yX11_settle cX11_settle 3 none LYM LYM [.ref 0] σ (f_M_settle F σ) := by
  unfold f_M_settle
  refine Ct_of (d := 2) (kp := 0) (kd := 0) (own := RX11) (nL := 3) (ret := none) (LY := LYM) (LYe := LYM) (L := [some (.ref 0), none, none]) rfl (by decide +kernel) rfl rfl mf_X11_130.2.2.2.1 rfl fun K => ?_
  refine a_aload_n dX11_settle_0 rfl ?_
  refine a_getR (c0 := 2) fl_X11_33 lyM_0 rfl dX11_settle_1 (key := 6) rfl ?_
  refine a_iconst dX11_settle_4 ?_
  refine a_iald lyM_2 rfl dX11_settle_5 ?_
  refine a_bv fun x1_1 ex1_1 => ?_
  refine a_istore_n (y := x1_1) (L' := [some (.ref 0), some (vi x1_1), none]) dX11_settle_6 ex1_1 rfl rfl rfl ?_
  refine a_aload_n dX11_settle_7 rfl ?_
  refine a_sipush dX11_settle_8 si_1001 ?_
  refine a_putI fl_X11_230 cf_X11 rfl rfl lyM_0 rfl dX11_settle_11 (key := 20) rfl fun σ2 => ?_
  exact cl_M_settle_14 F F _ _
def b_M_field_131 (F : Nat) (self : St → Int → Option (Int × St)) (σ : St) (x1 : Int) : Option (Int × St) := gd (rng x1 ∧ rng 10) (if (10 : Int) ≤ x1 then bnd (f_M_settle F σ) fun r10 σ11 => some ((gF σ11 18), σ11) else gd (inb (10 + x1) 20) (gd (inb x1 20) (bs (sA σ 4 (Int.toNat x1) (gA σ 4 (Int.toNat (10 + x1)))) fun σ12 => bv (x1 + 1) fun x1_13 => self σ12 x1_13)))
def l_M_field_131 (F : Nat) : Nat → St → Int → Option (Int × St)
  | 0 => fun _ _ => none
  | n + 1 => fun σ x1 => b_M_field_131 F (l_M_field_131 F n) σ x1
def b_M_field_105 (F : Nat) (self : St → Int → Option (Int × St)) (σ : St) (x1 : Int) : Option (Int × St) := gd (rng x1 ∧ rng 82) (if (82 : Int) ≤ x1 then l_M_field_131 F F σ 0 else gd (inb x1 82) (gd (inb x1 82) (bs (sA σ 2 (Int.toNat x1) (gA σ 3 (Int.toNat x1))) fun σ14 => bv (x1 + 1) fun x1_15 => self σ14 x1_15)))
def l_M_field_105 (F : Nat) : Nat → St → Int → Option (Int × St)
  | 0 => fun _ _ => none
  | n + 1 => fun σ x1 => b_M_field_105 F (l_M_field_105 F n) σ x1
def b_M_field_60 (F : Nat) (self : St → Option (Int × St)) (σ : St) : Option (Int × St) := gd (rng (gF σ 10)) (if (gF σ 10) = 0 then l_M_field_105 F F σ 0 else bnd (f_M_line F σ) fun r16 σ17 => gd (rng r16) (if r16 = 0 then some (((-1) - (gF σ17 15)), σ17) else bnd (f_M_sign F σ17 59) fun r18 σ19 => gd (rng r18) (if r18 = 0 then some (((-1) - (gF σ19 15)), σ19) else bs (sF σ19 18 ((gF σ19 18) + 1)) fun σ20 => self σ20)))
def l_M_field_60 (F : Nat) : Nat → St → Option (Int × St)
  | 0 => fun _ => none
  | n + 1 => fun σ => b_M_field_60 F (l_M_field_60 F n) σ
def b_M_field_29 (F : Nat) (self : St → Int → Option (Int × St)) (σ : St) (x1 : Int) : Option (Int × St) := gd (rng x1 ∧ rng 82) (if (82 : Int) ≤ x1 then gd (inb 0 82) (bs (sA σ 3 (Int.toNat 0) 12) fun σ7 => bnd (f_M_next F σ7) fun r8 σ9 => l_M_field_60 F F σ9) else gd (inb x1 82) (bs (sA σ 3 (Int.toNat x1) 0) fun σ21 => bv (x1 + 1) fun x1_22 => self σ21 x1_22))
def l_M_field_29 (F : Nat) : Nat → St → Int → Option (Int × St)
  | 0 => fun _ _ => none
  | n + 1 => fun σ x1 => b_M_field_29 F (l_M_field_29 F n) σ x1
def f_M_field (F : Nat) (σ : St) : Option (Int × St) := bs (sF σ 0 0) fun σ1 => bnd (f_M_taken F σ1 900) fun r2 σ3 => bs (sF σ3 14 0) fun σ4 => bs (sF σ4 18 0) fun σ5 => gd (isb 0) (bs (sF σ5 19 0) fun σ6 => l_M_field_29 F F σ6 0)
set_option maxRecDepth 100000 in
set_option maxHeartbeats 4000000 in
theorem cb_M_field_131 {K : KX} (F : Nat) (self : St → Int → Option (Int × St)) (hself : ∀ σ x1, WA 6 0 1 cX11_field RX11 2 (some .int) LYM LYM K 131 [some (.ref 0), some (vi x1)] [] σ (self σ x1)) (σ : St) (x1 : Int) : WA 6 0 1 cX11_field RX11 2 (some .int) LYM LYM K 131 [some (.ref 0), some (vi x1)] [] σ (b_M_field_131 F self σ x1) := by
  unfold b_M_field_131
  refine a_iload_n dX11_field_131 rfl ?_
  refine a_bipush dX11_field_132 bi_10 ?_
  refine a_icmp_ge dX11_field_134 rfl (fun _ => ?_) (fun _ => ?_)
  · refine a_aload_n dX11_field_158 rfl ?_
    refine a_callVv (as := []) mf_X11_130 lyM_0 rfl (c_M_settle F _) LYsame.rf dX11_field_159 rfl rfl rfl rfl rfl rfl (Or.inl rfl) fun r10 σ11 => ?_
    refine a_aload_n dX11_field_162 rfl ?_
    refine a_getI fl_X11_221 lyM_0 rfl dX11_field_163 (key := 18) rfl ?_
    exact a_iret dX11_field_166
  refine a_aload_n dX11_field_137 rfl ?_
  refine a_getR (c0 := 4) fl_X11_40 lyM_0 rfl dX11_field_138 (key := 8) rfl ?_
  refine a_iload_n dX11_field_141 rfl ?_
  refine a_aload_n dX11_field_142 rfl ?_
  refine a_getR (c0 := 4) fl_X11_40 lyM_0 rfl dX11_field_143 (key := 8) rfl ?_
  refine a_bipush dX11_field_146 bi_10 ?_
  refine a_iload_n dX11_field_148 rfl ?_
  refine a_iadd dX11_field_149 ?_
  refine a_lald lyM_4 rfl dX11_field_150 ?_
  refine a_last lyM_4 rfl dX11_field_151 fun σ12 => ?_
  refine a_bv fun x1_13 ex1_13 => ?_
  refine a_iinc (y := x1_13) (L' := [some (.ref 0), some (vi x1_13)]) dX11_field_152 rfl ex1_13 rfl rfl rfl ?_
  refine a_goto dX11_field_155 rfl ?_
  exact hself _ _
set_option maxRecDepth 100000 in
set_option maxHeartbeats 4000000 in
theorem cl_M_field_131 {K : KX} (F : Nat) : ∀ (n : Nat) (σ : St) (x1 : Int), WA 6 0 1 cX11_field RX11 2 (some .int) LYM LYM K 131 [some (.ref 0), some (vi x1)] [] σ (l_M_field_131 F n σ x1)
  | 0, _, _ => a_none
  | n + 1, σ, x1 => cb_M_field_131 F _ (cl_M_field_131 F n) σ x1
set_option maxRecDepth 100000 in
set_option maxHeartbeats 4000000 in
theorem cb_M_field_105 {K : KX} (F : Nat) (self : St → Int → Option (Int × St)) (hself : ∀ σ x1, WA 6 0 1 cX11_field RX11 2 (some .int) LYM LYM K 105 [some (.ref 0), some (vi x1)] [] σ (self σ x1)) (σ : St) (x1 : Int) : WA 6 0 1 cX11_field RX11 2 (some .int) LYM LYM K 105 [some (.ref 0), some (vi x1)] [] σ (b_M_field_105 F self σ x1) := by
  unfold b_M_field_105
  refine a_iload_n dX11_field_105 rfl ?_
  refine a_bipush dX11_field_106 bi_82 ?_
  refine a_icmp_ge dX11_field_108 rfl (fun _ => ?_) (fun _ => ?_)
  · refine a_iconst dX11_field_129 ?_
    refine a_istore_n (L' := [some (.ref 0), some (vi 0)]) dX11_field_130 rfl rfl rfl rfl ?_
    exact cl_M_field_131 F F _ _
  refine a_aload_n dX11_field_111 rfl ?_
  refine a_getR (c0 := 2) fl_X11_33 lyM_0 rfl dX11_field_112 (key := 6) rfl ?_
  refine a_iload_n dX11_field_115 rfl ?_
  refine a_aload_n dX11_field_116 rfl ?_
  refine a_getR (c0 := 3) fl_X11_37 lyM_0 rfl dX11_field_117 (key := 7) rfl ?_
  refine a_iload_n dX11_field_120 rfl ?_
  refine a_iald lyM_3 rfl dX11_field_121 ?_
  refine a_iast lyM_2 rfl dX11_field_122 fun σ14 => ?_
  refine a_bv fun x1_15 ex1_15 => ?_
  refine a_iinc (y := x1_15) (L' := [some (.ref 0), some (vi x1_15)]) dX11_field_123 rfl ex1_15 rfl rfl rfl ?_
  refine a_goto dX11_field_126 rfl ?_
  exact hself _ _
set_option maxRecDepth 100000 in
set_option maxHeartbeats 4000000 in
theorem cl_M_field_105 {K : KX} (F : Nat) : ∀ (n : Nat) (σ : St) (x1 : Int), WA 6 0 1 cX11_field RX11 2 (some .int) LYM LYM K 105 [some (.ref 0), some (vi x1)] [] σ (l_M_field_105 F n σ x1)
  | 0, _, _ => a_none
  | n + 1, σ, x1 => cb_M_field_105 F _ (cl_M_field_105 F n) σ x1
set_option maxRecDepth 100000 in
set_option maxHeartbeats 4000000 in
theorem cb_M_field_60 {K : KX} (F : Nat) (self : St → Option (Int × St)) (hself : ∀ σ, WA 6 0 1 cX11_field RX11 2 (some .int) LYM LYM K 60 [some (.ref 0), none] [] σ (self σ)) (σ : St) : WA 6 0 1 cX11_field RX11 2 (some .int) LYM LYM K 60 [some (.ref 0), none] [] σ (b_M_field_60 F self σ) := by
  unfold b_M_field_60
  refine a_aload_n dX11_field_60 rfl ?_
  refine a_getI fl_X11_143 lyM_0 rfl dX11_field_61 (key := 10) rfl ?_
  refine a_if_eq dX11_field_64 rfl (fun _ => ?_) (fun _ => ?_)
  · refine a_iconst dX11_field_103 ?_
    refine a_istore_n (L' := [some (.ref 0), some (vi 0)]) dX11_field_104 rfl rfl rfl rfl ?_
    exact cl_M_field_105 F F _ _
  refine a_aload_n dX11_field_67 rfl ?_
  refine a_callVi (as := []) mf_X11_224 lyM_0 rfl (c_M_line F _) LYsame.rf dX11_field_68 rfl rfl rfl rfl rfl rfl (Or.inl rfl) fun r16 σ17 => ?_
  refine a_if_eq dX11_field_71 rfl (fun _ => ?_) (fun _ => ?_)
  · refine a_iconst dX11_field_83 ?_
    refine a_aload_n dX11_field_84 rfl ?_
    refine a_getI fl_X11_163 lyM_0 rfl dX11_field_85 (key := 15) rfl ?_
    refine a_isub dX11_field_88 ?_
    exact a_iret dX11_field_89
  refine a_aload_n dX11_field_74 rfl ?_
  refine a_bipush dX11_field_75 bi_59 ?_
  refine a_callVi (as := [vi 59]) mf_X11_227 lyM_0 rfl (c_M_sign F _ _) LYsame.rf dX11_field_77 rfl rfl rfl rfl rfl rfl (Or.inl rfl) fun r18 σ19 => ?_
  refine a_if_ne dX11_field_80 rfl (fun _ => ?_) (fun _ => ?_)
  · refine a_aload_n dX11_field_90 rfl ?_
    refine a_dup dX11_field_91 rfl ?_
    refine a_getI fl_X11_221 lyM_0 rfl dX11_field_92 (key := 18) rfl ?_
    refine a_iconst dX11_field_95 ?_
    refine a_iadd dX11_field_96 ?_
    refine a_putI fl_X11_221 cf_X11 rfl rfl lyM_0 rfl dX11_field_97 (key := 18) rfl fun σ20 => ?_
    refine a_goto dX11_field_100 rfl ?_
    exact hself _
  refine a_iconst dX11_field_83 ?_
  refine a_aload_n dX11_field_84 rfl ?_
  refine a_getI fl_X11_163 lyM_0 rfl dX11_field_85 (key := 15) rfl ?_
  refine a_isub dX11_field_88 ?_
  exact a_iret dX11_field_89
set_option maxRecDepth 100000 in
set_option maxHeartbeats 4000000 in
theorem cl_M_field_60 {K : KX} (F : Nat) : ∀ (n : Nat) (σ : St), WA 6 0 1 cX11_field RX11 2 (some .int) LYM LYM K 60 [some (.ref 0), none] [] σ (l_M_field_60 F n σ)
  | 0, _ => a_none
  | n + 1, σ => cb_M_field_60 F _ (cl_M_field_60 F n) σ
set_option maxRecDepth 100000 in
set_option maxHeartbeats 4000000 in
theorem cb_M_field_29 {K : KX} (F : Nat) (self : St → Int → Option (Int × St)) (hself : ∀ σ x1, WA 6 0 1 cX11_field RX11 2 (some .int) LYM LYM K 29 [some (.ref 0), some (vi x1)] [] σ (self σ x1)) (σ : St) (x1 : Int) : WA 6 0 1 cX11_field RX11 2 (some .int) LYM LYM K 29 [some (.ref 0), some (vi x1)] [] σ (b_M_field_29 F self σ x1) := by
  unfold b_M_field_29
  refine a_iload_n dX11_field_29 rfl ?_
  refine a_bipush dX11_field_30 bi_82 ?_
  refine a_icmp_ge dX11_field_32 rfl (fun _ => ?_) (fun _ => ?_)
  · refine a_aload_n dX11_field_48 rfl ?_
    refine a_getR (c0 := 3) fl_X11_37 lyM_0 rfl dX11_field_49 (key := 7) rfl ?_
    refine a_iconst dX11_field_52 ?_
    refine a_bipush dX11_field_53 bi_12 ?_
    refine a_iast lyM_3 rfl dX11_field_55 fun σ7 => ?_
    refine a_aload_n dX11_field_56 rfl ?_
    refine a_callVv (as := []) mf_X11_172 lyM_0 rfl (c_M_next F _) LYsame.rf dX11_field_57 rfl rfl rfl rfl rfl rfl (Or.inl rfl) fun r8 σ9 => ?_
    exact a_L (lsub_get (A := [some (.ref 0), none]) ⟨rfl, trivial⟩) (cl_M_field_60 F F _)
  refine a_aload_n dX11_field_35 rfl ?_
  refine a_getR (c0 := 3) fl_X11_37 lyM_0 rfl dX11_field_36 (key := 7) rfl ?_
  refine a_iload_n dX11_field_39 rfl ?_
  refine a_iconst dX11_field_40 ?_
  refine a_iast lyM_3 rfl dX11_field_41 fun σ21 => ?_
  refine a_bv fun x1_22 ex1_22 => ?_
  refine a_iinc (y := x1_22) (L' := [some (.ref 0), some (vi x1_22)]) dX11_field_42 rfl ex1_22 rfl rfl rfl ?_
  refine a_goto dX11_field_45 rfl ?_
  exact hself _ _
set_option maxRecDepth 100000 in
set_option maxHeartbeats 4000000 in
theorem cl_M_field_29 {K : KX} (F : Nat) : ∀ (n : Nat) (σ : St) (x1 : Int), WA 6 0 1 cX11_field RX11 2 (some .int) LYM LYM K 29 [some (.ref 0), some (vi x1)] [] σ (l_M_field_29 F n σ x1)
  | 0, _, _ => a_none
  | n + 1, σ, x1 => cb_M_field_29 F _ (cl_M_field_29 F n) σ x1
set_option maxRecDepth 100000 in
set_option maxHeartbeats 4000000 in
theorem c_M_field (F : Nat) (σ : St) : Ct 6 0 1 yX11_field cX11_field 2 (some .int) LYM LYM [.ref 0] σ (f_M_field F σ) := by
  unfold f_M_field
  refine Ct_of (d := 6) (kp := 0) (kd := 1) (own := RX11) (nL := 2) (ret := (some .int)) (LY := LYM) (LYe := LYM) (L := [some (.ref 0), none]) rfl (by decide +kernel) rfl rfl mf_L_40.2.2.2.1 rfl fun K => ?_
  refine a_aload_n dX11_field_0 rfl ?_
  refine a_iconst dX11_field_1 ?_
  refine a_putI fl_X11_1 cf_X11 rfl rfl lyM_0 rfl dX11_field_2 (key := 0) rfl fun σ1 => ?_
  refine a_aload_n dX11_field_5 rfl ?_
  refine a_sipush dX11_field_6 si_900 ?_
  refine a_callVv (as := [vi 900]) mf_X11_218 lyM_0 rfl (c_M_taken F _ _) LYsame.rf dX11_field_9 rfl rfl rfl rfl rfl rfl (Or.inl rfl) fun r2 σ3 => ?_
  refine a_aload_n dX11_field_12 rfl ?_
  refine a_iconst dX11_field_13 ?_
  refine a_putI fl_X11_160 cf_X11 rfl rfl lyM_0 rfl dX11_field_14 (key := 14) rfl fun σ4 => ?_
  refine a_aload_n dX11_field_17 rfl ?_
  refine a_iconst dX11_field_18 ?_
  refine a_putI fl_X11_221 cf_X11 rfl rfl lyM_0 rfl dX11_field_19 (key := 18) rfl fun σ5 => ?_
  refine a_aload_n dX11_field_22 rfl ?_
  refine a_iconst dX11_field_23 ?_
  refine a_putZ fl_X11_194 cf_X11 rfl rfl lyM_0 rfl dX11_field_24 (key := 19) rfl fun σ6 => ?_
  refine a_iconst dX11_field_27 ?_
  refine a_istore_n (L' := [some (.ref 0), some (vi 0)]) dX11_field_28 rfl rfl rfl rfl ?_
  exact cl_M_field_29 F F _ _
def f_M_fault (F : Nat) (σ : St) : Option (Int × St) := bs (sF σ 0 0) fun σ1 => some ((gF σ1 14), σ1)
set_option maxRecDepth 100000 in
set_option maxHeartbeats 4000000 in
theorem c_M_fault (F : Nat) (σ : St) : Ct 1 0 1 yX11_fault cX11_fault 1 (some .int) LYM LYM [.ref 0] σ (f_M_fault F σ) := by
  unfold f_M_fault
  refine Ct_of (d := 1) (kp := 0) (kd := 1) (own := RX11) (nL := 1) (ret := (some .int)) (LY := LYM) (LYe := LYM) (L := [some (.ref 0)]) rfl (by decide +kernel) rfl rfl mf_L_44.2.2.2.1 rfl fun K => ?_
  refine a_aload_n dX11_fault_0 rfl ?_
  refine a_iconst dX11_fault_1 ?_
  refine a_putI fl_X11_1 cf_X11 rfl rfl lyM_0 rfl dX11_fault_2 (key := 0) rfl fun σ1 => ?_
  refine a_aload_n dX11_fault_5 rfl ?_
  refine a_getI fl_X11_160 lyM_0 rfl dX11_fault_6 (key := 14) rfl ?_
  exact a_iret dX11_fault_9
def f_M_waveOf (F : Nat) (σ : St) (x1 x2 : Int) : Option (Int × St) := gd (inb 0 82) (gd (rng (x1 * x2) ∧ rng (gA σ 2 (Int.toNat 0)) ∧ (gA σ 2 (Int.toNat 0)) ≠ (0 : Int)) (bv (Int.tmod (x1 * x2) (gA σ 2 (Int.toNat 0))) fun t1 => gd (inb t1 60) (some ((gA σ 6 (Int.toNat t1)), σ))))
set_option maxRecDepth 100000 in
set_option maxHeartbeats 4000000 in
theorem c_M_waveOf (F : Nat) (σ : St) (x1 x2 : Int) : Ct 1 0 1 yX11_waveOf cX11_waveOf 3 (some .int) LYM LYM [.ref 0, vi x1, vi x2] σ (f_M_waveOf F σ x1 x2) := by
  unfold f_M_waveOf
  refine Ct_of (d := 1) (kp := 0) (kd := 1) (own := RX11) (nL := 3) (ret := (some .int)) (LY := LYM) (LYe := LYM) (L := [some (.ref 0), some (vi x1), some (vi x2)]) rfl (by decide +kernel) rfl rfl mf_X11_273.2.2.2.1 rfl fun K => ?_
  refine a_aload_n dX11_waveOf_0 rfl ?_
  refine a_getR (c0 := 6) fl_X11_47 lyM_0 rfl dX11_waveOf_1 (key := 22) rfl ?_
  refine a_iload_n dX11_waveOf_4 rfl ?_
  refine a_iload_n dX11_waveOf_5 rfl ?_
  refine a_imul dX11_waveOf_6 ?_
  refine a_aload_n dX11_waveOf_7 rfl ?_
  refine a_getR (c0 := 2) fl_X11_33 lyM_0 rfl dX11_waveOf_8 (key := 6) rfl ?_
  refine a_iconst dX11_waveOf_11 ?_
  refine a_iald lyM_2 rfl dX11_waveOf_12 ?_
  refine a_irem dX11_waveOf_13 (fun _ => ?_)
  refine a_bvi fun t1 => ?_
  refine a_iald lyM_6 rfl dX11_waveOf_14 ?_
  exact a_iret dX11_waveOf_15
def b_M_inverse_12 (F : Nat) (self : St → Int → Int → Int → Option (Int × St)) (σ : St) (x2 x3 x4 : Int) : Option (Int × St) := gd (rng x4) (if x4 ≤ 0 then some (x2, σ) else gd (rng (iandI x4 1) ∧ rng 1) (if (iandI x4 1) = 1 then gd (rng (x2 * x3) ∧ rng (gF σ 20) ∧ (gF σ 20) ≠ (0 : Int)) (bv (Int.tmod (x2 * x3) (gF σ 20)) fun x2_4 => gd (rng (x3 * x3) ∧ rng (gF σ 20) ∧ (gF σ 20) ≠ (0 : Int)) (bv (Int.tmod (x3 * x3) (gF σ 20)) fun x3_5 => gd (rng x4 ∧ sh5 1) (bv (x4 / 2 ^ (Int.toNat 1)) fun x4_6 => self σ x2_4 x3_5 x4_6))) else gd (rng (x3 * x3) ∧ rng (gF σ 20) ∧ (gF σ 20) ≠ (0 : Int)) (bv (Int.tmod (x3 * x3) (gF σ 20)) fun x3_2 => gd (rng x4 ∧ sh5 1) (bv (x4 / 2 ^ (Int.toNat 1)) fun x4_3 => self σ x2 x3_2 x4_3))))
def l_M_inverse_12 (F : Nat) : Nat → St → Int → Int → Int → Option (Int × St)
  | 0 => fun _ _ _ _ => none
  | n + 1 => fun σ x2 x3 x4 => b_M_inverse_12 F (l_M_inverse_12 F n) σ x2 x3 x4
def f_M_inverse (F : Nat) (σ : St) (x1 : Int) : Option (Int × St) := bv ((gF σ 20) - 2) fun x4_1 => l_M_inverse_12 F F σ 1 x1 x4_1
set_option maxRecDepth 100000 in
set_option maxHeartbeats 4000000 in
theorem cb_M_inverse_12 {K : KX} (F : Nat) (self : St → Int → Int → Int → Option (Int × St)) (hself : ∀ σ x2 x3 x4, WA 1 0 1 cX11_inverse RX11 5 (some .int) LYM LYM K 12 [some (.ref 0), none, some (vi x2), some (vi x3), some (vi x4)] [] σ (self σ x2 x3 x4)) (σ : St) (x2 x3 x4 : Int) : WA 1 0 1 cX11_inverse RX11 5 (some .int) LYM LYM K 12 [some (.ref 0), none, some (vi x2), some (vi x3), some (vi x4)] [] σ (b_M_inverse_12 F self σ x2 x3 x4) := by
  unfold b_M_inverse_12
  refine a_iload dX11_inverse_12 rfl ?_
  refine a_if_le dX11_inverse_14 rfl (fun _ => ?_) (fun _ => ?_)
  · refine a_iload_n dX11_inverse_52 rfl ?_
    exact a_iret dX11_inverse_53
  refine a_iload dX11_inverse_17 rfl ?_
  refine a_iconst dX11_inverse_19 ?_
  refine a_iand dX11_inverse_20 ?_
  refine a_iconst dX11_inverse_21 ?_
  refine a_icmp_ne dX11_inverse_22 rfl (fun _ => ?_) (fun _ => ?_)
  · refine a_iload_n dX11_inverse_34 rfl ?_
    refine a_iload_n dX11_inverse_35 rfl ?_
    refine a_imul dX11_inverse_36 ?_
    refine a_aload_n dX11_inverse_37 rfl ?_
    refine a_getI fl_X11_230 lyM_0 rfl dX11_inverse_38 (key := 20) rfl ?_
    refine a_irem dX11_inverse_41 (fun _ => ?_)
    refine a_bv fun x3_2 ex3_2 => ?_
    refine a_istore_n (y := x3_2) (L' := [some (.ref 0), none, some (vi x2), some (vi x3_2), some (vi x4)]) dX11_inverse_42 ex3_2 rfl rfl rfl ?_
    refine a_iload dX11_inverse_43 rfl ?_
    refine a_iconst dX11_inverse_45 ?_
    refine a_ishr dX11_inverse_46 (fun _ => ?_)
    refine a_bv fun x4_3 ex4_3 => ?_
    refine a_istore (y := x4_3) (L' := [some (.ref 0), none, some (vi x2), some (vi x3_2), some (vi x4_3)]) dX11_inverse_47 ex4_3 rfl rfl rfl ?_
    refine a_goto dX11_inverse_49 rfl ?_
    exact hself _ _ _ _
  refine a_iload_n dX11_inverse_25 rfl ?_
  refine a_iload_n dX11_inverse_26 rfl ?_
  refine a_imul dX11_inverse_27 ?_
  refine a_aload_n dX11_inverse_28 rfl ?_
  refine a_getI fl_X11_230 lyM_0 rfl dX11_inverse_29 (key := 20) rfl ?_
  refine a_irem dX11_inverse_32 (fun _ => ?_)
  refine a_bv fun x2_4 ex2_4 => ?_
  refine a_istore_n (y := x2_4) (L' := [some (.ref 0), none, some (vi x2_4), some (vi x3), some (vi x4)]) dX11_inverse_33 ex2_4 rfl rfl rfl ?_
  refine a_iload_n dX11_inverse_34 rfl ?_
  refine a_iload_n dX11_inverse_35 rfl ?_
  refine a_imul dX11_inverse_36 ?_
  refine a_aload_n dX11_inverse_37 rfl ?_
  refine a_getI fl_X11_230 lyM_0 rfl dX11_inverse_38 (key := 20) rfl ?_
  refine a_irem dX11_inverse_41 (fun _ => ?_)
  refine a_bv fun x3_5 ex3_5 => ?_
  refine a_istore_n (y := x3_5) (L' := [some (.ref 0), none, some (vi x2_4), some (vi x3_5), some (vi x4)]) dX11_inverse_42 ex3_5 rfl rfl rfl ?_
  refine a_iload dX11_inverse_43 rfl ?_
  refine a_iconst dX11_inverse_45 ?_
  refine a_ishr dX11_inverse_46 (fun _ => ?_)
  refine a_bv fun x4_6 ex4_6 => ?_
  refine a_istore (y := x4_6) (L' := [some (.ref 0), none, some (vi x2_4), some (vi x3_5), some (vi x4_6)]) dX11_inverse_47 ex4_6 rfl rfl rfl ?_
  refine a_goto dX11_inverse_49 rfl ?_
  exact hself _ _ _ _
set_option maxRecDepth 100000 in
set_option maxHeartbeats 4000000 in
theorem cl_M_inverse_12 {K : KX} (F : Nat) : ∀ (n : Nat) (σ : St) (x2 x3 x4 : Int), WA 1 0 1 cX11_inverse RX11 5 (some .int) LYM LYM K 12 [some (.ref 0), none, some (vi x2), some (vi x3), some (vi x4)] [] σ (l_M_inverse_12 F n σ x2 x3 x4)
  | 0, _, _, _, _ => a_none
  | n + 1, σ, x2, x3, x4 => cb_M_inverse_12 F _ (cl_M_inverse_12 F n) σ x2 x3 x4
set_option maxRecDepth 100000 in
set_option maxHeartbeats 4000000 in
theorem c_M_inverse (F : Nat) (σ : St) (x1 : Int) : Ct 1 0 1 yX11_inverse cX11_inverse 5 (some .int) LYM LYM [.ref 0, vi x1] σ (f_M_inverse F σ x1) := by
  unfold f_M_inverse
  refine Ct_of (d := 1) (kp := 0) (kd := 1) (own := RX11) (nL := 5) (ret := (some .int)) (LY := LYM) (LYe := LYM) (L := [some (.ref 0), some (vi x1), none, none, none]) rfl (by decide +kernel) rfl rfl mf_X11_254.2.2.2.1 rfl fun K => ?_
  refine a_iconst dX11_inverse_0 ?_
  refine a_istore_n (L' := [some (.ref 0), some (vi x1), some (vi 1), none, none]) dX11_inverse_1 rfl rfl rfl rfl ?_
  refine a_iload_n dX11_inverse_2 rfl ?_
  refine a_istore_n (L' := [some (.ref 0), some (vi x1), some (vi 1), some (vi x1), none]) dX11_inverse_3 rfl rfl rfl rfl ?_
  refine a_aload_n dX11_inverse_4 rfl ?_
  refine a_getI fl_X11_230 lyM_0 rfl dX11_inverse_5 (key := 20) rfl ?_
  refine a_iconst dX11_inverse_8 ?_
  refine a_isub dX11_inverse_9 ?_
  refine a_bv fun x4_1 ex4_1 => ?_
  refine a_istore (y := x4_1) (L' := [some (.ref 0), some (vi x1), some (vi 1), some (vi x1), some (vi x4_1)]) dX11_inverse_10 ex4_1 rfl rfl rfl ?_
  exact a_L (lsub_get (A := [some (.ref 0), none, some (vi 1), some (vi x1), some (vi x4_1)]) ⟨rfl, ⟨rfl, ⟨rfl, ⟨rfl, trivial⟩⟩⟩⟩) (cl_M_inverse_12 F F _ _ _ _)
