def LYS : List Sh := [Sum.inl (2, [0, 0, 0, 3]), Sum.inr (60, 0, 0)]
theorem lyS_0 : LYS[0]? = some (Sum.inl (2, [0, 0, 0, 3])) := rfl
theorem lyS_1 : LYS[1]? = some (Sum.inr (60, 0, 0)) := rfl
theorem lySok : LYok LYS := fun j ci ks h => by
  rcases j with _ | _ | j
  · cases h; decide
  · cases h
  · simp [LYS] at h
def b_Lattice_isPrime_s_2 (F : Nat) (self : St → Int → Int → Option (Int × St)) (σ : St) (x0 x1 : Int) : Option (Int × St) := gd (rng (x1 * x1) ∧ rng x0) (if x0 < (x1 * x1) then some (1, σ) else gd (rng x0 ∧ rng x1 ∧ x1 ≠ (0 : Int)) (gd (rng (Int.tmod x0 x1)) (if (Int.tmod x0 x1) = 0 then some (0, σ) else bv (x1 + 1) fun x1_1 => self σ x0 x1_1)))
def l_Lattice_isPrime_s_2 (F : Nat) : Nat → St → Int → Int → Option (Int × St)
  | 0 => fun _ _ _ => none
  | n + 1 => fun σ x0 x1 => b_Lattice_isPrime_s_2 F (l_Lattice_isPrime_s_2 F n) σ x0 x1
def f_Lattice_isPrime_s (F : Nat) (σ : St) (x0 : Int) : Option (Int × St) := l_Lattice_isPrime_s_2 F F σ x0 2
set_option maxRecDepth 100000 in
set_option maxHeartbeats 4000000 in
theorem cb_Lattice_isPrime_s_2 {K : KX} (F : Nat) (self : St → Int → Int → Option (Int × St)) (hself : ∀ σ x0 x1, WA 1 0 1 cX2_isPrime RX2 2 (some .boolean) LYS LYS K 2 [some (vi x0), some (vi x1)] [] σ (self σ x0 x1)) (σ : St) (x0 x1 : Int) : WA 1 0 1 cX2_isPrime RX2 2 (some .boolean) LYS LYS K 2 [some (vi x0), some (vi x1)] [] σ (b_Lattice_isPrime_s_2 F self σ x0 x1) := by
  unfold b_Lattice_isPrime_s_2
  refine a_iload_n dX2_isPrime_2 rfl ?_
  refine a_iload_n dX2_isPrime_3 rfl ?_
  refine a_imul dX2_isPrime_4 ?_
  refine a_iload_n dX2_isPrime_5 rfl ?_
  refine a_icmp_gt dX2_isPrime_6 rfl (fun _ => ?_) (fun _ => ?_)
  · refine a_iconst dX2_isPrime_23 ?_
    exact a_zretc (by decide) dX2_isPrime_24
  refine a_iload_n dX2_isPrime_9 rfl ?_
  refine a_iload_n dX2_isPrime_10 rfl ?_
  refine a_irem dX2_isPrime_11 (fun _ => ?_)
  refine a_if_ne dX2_isPrime_12 rfl (fun _ => ?_) (fun _ => ?_)
  · refine a_bv fun x1_1 ex1_1 => ?_
    refine a_iinc (y := x1_1) (L' := [some (vi x0), some (vi x1_1)]) dX2_isPrime_17 rfl ex1_1 rfl rfl rfl ?_
    refine a_goto dX2_isPrime_20 rfl ?_
    exact hself _ _ _
  refine a_iconst dX2_isPrime_15 ?_
  exact a_zretc (by decide) dX2_isPrime_16
set_option maxRecDepth 100000 in
set_option maxHeartbeats 4000000 in
theorem cl_Lattice_isPrime_s_2 {K : KX} (F : Nat) : ∀ (n : Nat) (σ : St) (x0 x1 : Int), WA 1 0 1 cX2_isPrime RX2 2 (some .boolean) LYS LYS K 2 [some (vi x0), some (vi x1)] [] σ (l_Lattice_isPrime_s_2 F n σ x0 x1)
  | 0, _, _, _ => a_none
  | n + 1, σ, x0, x1 => cb_Lattice_isPrime_s_2 F _ (cl_Lattice_isPrime_s_2 F n) σ x0 x1
set_option maxRecDepth 100000 in
set_option maxHeartbeats 4000000 in
theorem c_Lattice_isPrime_s (F : Nat) (σ : St) (x0 : Int) : Ct 1 0 1 yX2_isPrime cX2_isPrime 2 (some .boolean) LYS LYS [vi x0] σ (f_Lattice_isPrime_s F σ x0) := by
  unfold f_Lattice_isPrime_s
  refine Ct_of (d := 1) (kp := 0) (kd := 1) (own := RX2) (nL := 2) (ret := (some .boolean)) (LY := LYS) (LYe := LYS) (L := [some (vi x0), none]) rfl (by decide +kernel) rfl rfl mf_X2_48.2.2.2.1 rfl fun K => ?_
  refine a_iconst dX2_isPrime_0 ?_
  refine a_istore_n (L' := [some (vi x0), some (vi 2)]) dX2_isPrime_1 rfl rfl rfl rfl ?_
  exact cl_Lattice_isPrime_s_2 F F _ _ _
def b_Lattice_primeFor_s_4 (F : Nat) (self : St → Int → Int → Option (Int × St)) (σ : St) (x0 x1 : Int) : Option (Int × St) := gd (rng x1 ∧ rng 1000000) (if (1000000 : Int) ≤ x1 then some (1001, σ) else gd (rng (x1 - 1) ∧ rng x0 ∧ x0 ≠ (0 : Int)) (gd (rng (Int.tmod (x1 - 1) x0)) (if (Int.tmod (x1 - 1) x0) = 0 then bnd (f_Lattice_isPrime_s F σ x1) fun r2 σ3 => gd (rng r2) (if r2 = 0 then bv (x1 + 1) fun x1_4 => self σ3 x0 x1_4 else some (x1, σ3)) else bv (x1 + 1) fun x1_1 => self σ x0 x1_1)))
def l_Lattice_primeFor_s_4 (F : Nat) : Nat → St → Int → Int → Option (Int × St)
  | 0 => fun _ _ _ => none
  | n + 1 => fun σ x0 x1 => b_Lattice_primeFor_s_4 F (l_Lattice_primeFor_s_4 F n) σ x0 x1
def f_Lattice_primeFor_s (F : Nat) (σ : St) (x0 : Int) : Option (Int × St) := l_Lattice_primeFor_s_4 F F σ x0 1001
set_option maxRecDepth 100000 in
set_option maxHeartbeats 4000000 in
theorem cb_Lattice_primeFor_s_4 {K : KX} (F : Nat) (self : St → Int → Int → Option (Int × St)) (hself : ∀ σ x0 x1, WA 2 0 1 cX2_primeFor RX2 2 (some .int) LYS LYS K 4 [some (vi x0), some (vi x1)] [] σ (self σ x0 x1)) (σ : St) (x0 x1 : Int) : WA 2 0 1 cX2_primeFor RX2 2 (some .int) LYS LYS K 4 [some (vi x0), some (vi x1)] [] σ (b_Lattice_primeFor_s_4 F self σ x0 x1) := by
  unfold b_Lattice_primeFor_s_4
  refine a_iload_n dX2_primeFor_4 rfl ?_
  refine a_ldc kc_X2_47 rfl dX2_primeFor_5 ?_
  refine a_icmp_ge dX2_primeFor_7 rfl (fun _ => ?_) (fun _ => ?_)
  · refine a_sipush dX2_primeFor_33 si_1001 ?_
    exact a_iret dX2_primeFor_36
  refine a_iload_n dX2_primeFor_10 rfl ?_
  refine a_iconst dX2_primeFor_11 ?_
  refine a_isub dX2_primeFor_12 ?_
  refine a_iload_n dX2_primeFor_13 rfl ?_
  refine a_irem dX2_primeFor_14 (fun _ => ?_)
  refine a_if_ne dX2_primeFor_15 rfl (fun _ => ?_) (fun _ => ?_)
  · refine a_bv fun x1_1 ex1_1 => ?_
    refine a_iinc (y := x1_1) (L' := [some (vi x0), some (vi x1_1)]) dX2_primeFor_27 rfl ex1_1 rfl rfl rfl ?_
    refine a_goto dX2_primeFor_30 rfl ?_
    exact hself _ _ _
  refine a_iload_n dX2_primeFor_18 rfl ?_
  refine a_callSi (as := [vi x1]) mf_X2_48 (c_Lattice_isPrime_s F _ _) LYsame.rf dX2_primeFor_19 rfl rfl rfl rfl rfl rfl (Or.inl rfl) fun r2 σ3 => ?_
  refine a_if_eq dX2_primeFor_22 rfl (fun _ => ?_) (fun _ => ?_)
  · refine a_bv fun x1_4 ex1_4 => ?_
    refine a_iinc (y := x1_4) (L' := [some (vi x0), some (vi x1_4)]) dX2_primeFor_27 rfl ex1_4 rfl rfl rfl ?_
    refine a_goto dX2_primeFor_30 rfl ?_
    exact hself _ _ _
  refine a_iload_n dX2_primeFor_25 rfl ?_
  exact a_iret dX2_primeFor_26
set_option maxRecDepth 100000 in
set_option maxHeartbeats 4000000 in
theorem cl_Lattice_primeFor_s_4 {K : KX} (F : Nat) : ∀ (n : Nat) (σ : St) (x0 x1 : Int), WA 2 0 1 cX2_primeFor RX2 2 (some .int) LYS LYS K 4 [some (vi x0), some (vi x1)] [] σ (l_Lattice_primeFor_s_4 F n σ x0 x1)
  | 0, _, _, _ => a_none
  | n + 1, σ, x0, x1 => cb_Lattice_primeFor_s_4 F _ (cl_Lattice_primeFor_s_4 F n) σ x0 x1
set_option maxRecDepth 100000 in
set_option maxHeartbeats 4000000 in
theorem c_Lattice_primeFor_s (F : Nat) (σ : St) (x0 : Int) : Ct 2 0 1 yX2_primeFor cX2_primeFor 2 (some .int) LYS LYS [vi x0] σ (f_Lattice_primeFor_s F σ x0) := by
  unfold f_Lattice_primeFor_s
  refine Ct_of (d := 2) (kp := 0) (kd := 1) (own := RX2) (nL := 2) (ret := (some .int)) (LY := LYS) (LYe := LYS) (L := [some (vi x0), none]) rfl (by decide +kernel) rfl rfl mf_X2_23.2.2.2.1 rfl fun K => ?_
  refine a_sipush dX2_primeFor_0 si_1001 ?_
  refine a_istore_n (L' := [some (vi x0), some (vi 1001)]) dX2_primeFor_3 rfl rfl rfl rfl ?_
  exact cl_Lattice_primeFor_s_4 F F _ _ _
def f_W_product_s (F : Nat) (σ : St) (x0 x1 x2 : Int) : Option (Int × St) := gd (rng x0) (gd (rng x1) (gd (rng x2) (gd (rng64 (x0 * x1) ∧ rng64 x2 ∧ x2 ≠ (0 : Int)) (some ((Int.tmod (x0 * x1) x2), σ)))))
set_option maxRecDepth 100000 in
set_option maxHeartbeats 4000000 in
theorem c_W_product_s (F : Nat) (σ : St) (x0 x1 x2 : Int) : Ct 1 0 1 yX10_product cX10_product 3 (some .int) LYS LYS [vi x0, vi x1, vi x2] σ (f_W_product_s F σ x0 x1 x2) := by
  unfold f_W_product_s
  refine Ct_of (d := 1) (kp := 0) (kd := 1) (own := RX10) (nL := 3) (ret := (some .int)) (LY := LYS) (LYe := LYS) (L := [some (vi x0), some (vi x1), some (vi x2)]) rfl (by decide +kernel) rfl rfl mf_X10_257.2.2.2.1 rfl fun K => ?_
  refine a_iload_n dX10_product_0 rfl ?_
  refine a_i2l dX10_product_1 (fun _ => ?_)
  refine a_iload_n dX10_product_2 rfl ?_
  refine a_i2l dX10_product_3 (fun _ => ?_)
  refine a_lmul dX10_product_4 ?_
  refine a_iload_n dX10_product_5 rfl ?_
  refine a_i2l dX10_product_6 (fun _ => ?_)
  refine a_lrem dX10_product_7 (fun _ => ?_)
  refine a_l2i dX10_product_8 ?_
  exact a_iret dX10_product_9
def b_Lattice_comesRoundFirstAt_s_5 (F : Nat) (self : St → Int → Int → Int → Int → Int → Option (Int × St)) (σ : St) (x0 x1 x2 x3 x4 : Int) : Option (Int × St) := gd (rng x4 ∧ rng x1) (if x1 ≤ x4 then gd (rng x3 ∧ rng 1) (if x3 = 1 then some (1, σ) else some (0, σ)) else gd (rng x3 ∧ rng 1) (if x3 = 1 then some (0, σ) else bnd (f_W_product_s F σ x3 x0 x2) fun r1 σ2 => bv (x4 + 1) fun x4_3 => self σ2 x0 x1 x2 r1 x4_3))
def l_Lattice_comesRoundFirstAt_s_5 (F : Nat) : Nat → St → Int → Int → Int → Int → Int → Option (Int × St)
  | 0 => fun _ _ _ _ _ _ => none
  | n + 1 => fun σ x0 x1 x2 x3 x4 => b_Lattice_comesRoundFirstAt_s_5 F (l_Lattice_comesRoundFirstAt_s_5 F n) σ x0 x1 x2 x3 x4
def f_Lattice_comesRoundFirstAt_s (F : Nat) (σ : St) (x0 x1 x2 : Int) : Option (Int × St) := l_Lattice_comesRoundFirstAt_s_5 F F σ x0 x1 x2 x0 1
set_option maxRecDepth 100000 in
set_option maxHeartbeats 4000000 in
theorem cb_Lattice_comesRoundFirstAt_s_5 {K : KX} (F : Nat) (self : St → Int → Int → Int → Int → Int → Option (Int × St)) (hself : ∀ σ x0 x1 x2 x3 x4, WA 2 0 1 cX2_comesRoundFirstAt RX2 5 (some .boolean) LYS LYS K 5 [some (vi x0), some (vi x1), some (vi x2), some (vi x3), some (vi x4)] [] σ (self σ x0 x1 x2 x3 x4)) (σ : St) (x0 x1 x2 x3 x4 : Int) : WA 2 0 1 cX2_comesRoundFirstAt RX2 5 (some .boolean) LYS LYS K 5 [some (vi x0), some (vi x1), some (vi x2), some (vi x3), some (vi x4)] [] σ (b_Lattice_comesRoundFirstAt_s_5 F self σ x0 x1 x2 x3 x4) := by
  unfold b_Lattice_comesRoundFirstAt_s_5
  refine a_iload dX2_comesRoundFirstAt_5 rfl ?_
  refine a_iload_n dX2_comesRoundFirstAt_7 rfl ?_
  refine a_icmp_ge dX2_comesRoundFirstAt_8 rfl (fun _ => ?_) (fun _ => ?_)
  · refine a_iload_n dX2_comesRoundFirstAt_31 rfl ?_
    refine a_iconst dX2_comesRoundFirstAt_32 ?_
    refine a_icmp_ne dX2_comesRoundFirstAt_33 rfl (fun _ => ?_) (fun _ => ?_)
    · refine a_iconst dX2_comesRoundFirstAt_40 ?_
      exact a_zretc (by decide) dX2_comesRoundFirstAt_41
    refine a_iconst dX2_comesRoundFirstAt_36 ?_
    refine a_goto dX2_comesRoundFirstAt_37 rfl ?_
    exact a_zretc (by decide) dX2_comesRoundFirstAt_41
  refine a_iload_n dX2_comesRoundFirstAt_11 rfl ?_
  refine a_iconst dX2_comesRoundFirstAt_12 ?_
  refine a_icmp_ne dX2_comesRoundFirstAt_13 rfl (fun _ => ?_) (fun _ => ?_)
  · refine a_iload_n dX2_comesRoundFirstAt_18 rfl ?_
    refine a_iload_n dX2_comesRoundFirstAt_19 rfl ?_
    refine a_iload_n dX2_comesRoundFirstAt_20 rfl ?_
    refine a_callNi (as := [vi x3, vi x0, vi x2]) mf_X2_37 (c_W_product_s F _ _ _ _) LYsame.rf dX2_comesRoundFirstAt_21 rfl rfl rfl rfl rfl rfl (Or.inl rfl) fun r1 σ2 => ?_
    refine a_istore_n (L' := [some (vi x0), some (vi x1), some (vi x2), some (vi r1), some (vi x4)]) dX2_comesRoundFirstAt_24 rfl rfl rfl rfl ?_
    refine a_bv fun x4_3 ex4_3 => ?_
    refine a_iinc (y := x4_3) (L' := [some (vi x0), some (vi x1), some (vi x2), some (vi r1), some (vi x4_3)]) dX2_comesRoundFirstAt_25 rfl ex4_3 rfl rfl rfl ?_
    refine a_goto dX2_comesRoundFirstAt_28 rfl ?_
    exact hself _ _ _ _ _ _
  refine a_iconst dX2_comesRoundFirstAt_16 ?_
  exact a_zretc (by decide) dX2_comesRoundFirstAt_17
set_option maxRecDepth 100000 in
set_option maxHeartbeats 4000000 in
theorem cl_Lattice_comesRoundFirstAt_s_5 {K : KX} (F : Nat) : ∀ (n : Nat) (σ : St) (x0 x1 x2 x3 x4 : Int), WA 2 0 1 cX2_comesRoundFirstAt RX2 5 (some .boolean) LYS LYS K 5 [some (vi x0), some (vi x1), some (vi x2), some (vi x3), some (vi x4)] [] σ (l_Lattice_comesRoundFirstAt_s_5 F n σ x0 x1 x2 x3 x4)
  | 0, _, _, _, _, _, _ => a_none
  | n + 1, σ, x0, x1, x2, x3, x4 => cb_Lattice_comesRoundFirstAt_s_5 F _ (cl_Lattice_comesRoundFirstAt_s_5 F n) σ x0 x1 x2 x3 x4
set_option maxRecDepth 100000 in
set_option maxHeartbeats 4000000 in
theorem c_Lattice_comesRoundFirstAt_s (F : Nat) (σ : St) (x0 x1 x2 : Int) : Ct 2 0 1 yX2_comesRoundFirstAt cX2_comesRoundFirstAt 5 (some .boolean) LYS LYS [vi x0, vi x1, vi x2] σ (f_Lattice_comesRoundFirstAt_s F σ x0 x1 x2) := by
  unfold f_Lattice_comesRoundFirstAt_s
  refine Ct_of (d := 2) (kp := 0) (kd := 1) (own := RX2) (nL := 5) (ret := (some .boolean)) (LY := LYS) (LYe := LYS) (L := [some (vi x0), some (vi x1), some (vi x2), none, none]) rfl (by decide +kernel) rfl rfl mf_X2_52.2.2.2.1 rfl fun K => ?_
  refine a_iload_n dX2_comesRoundFirstAt_0 rfl ?_
  refine a_istore_n (L' := [some (vi x0), some (vi x1), some (vi x2), some (vi x0), none]) dX2_comesRoundFirstAt_1 rfl rfl rfl rfl ?_
  refine a_iconst dX2_comesRoundFirstAt_2 ?_
  refine a_istore (L' := [some (vi x0), some (vi x1), some (vi x2), some (vi x0), some (vi 1)]) dX2_comesRoundFirstAt_3 rfl rfl rfl rfl ?_
  exact cl_Lattice_comesRoundFirstAt_s_5 F F _ _ _ _ _ _
def b_Lattice_rootFor_s_2 (F : Nat) (self : St → Int → Int → Int → Option (Int × St)) (σ : St) (x0 x1 x2 : Int) : Option (Int × St) := gd (rng x2 ∧ rng x1) (if x1 ≤ x2 then some (1, σ) else bnd (f_Lattice_comesRoundFirstAt_s F σ x2 x0 x1) fun r1 σ2 => gd (rng r1) (if r1 = 0 then bv (x2 + 1) fun x2_3 => self σ2 x0 x1 x2_3 else some (x2, σ2)))
def l_Lattice_rootFor_s_2 (F : Nat) : Nat → St → Int → Int → Int → Option (Int × St)
  | 0 => fun _ _ _ _ => none
  | n + 1 => fun σ x0 x1 x2 => b_Lattice_rootFor_s_2 F (l_Lattice_rootFor_s_2 F n) σ x0 x1 x2
def f_Lattice_rootFor_s (F : Nat) (σ : St) (x0 x1 : Int) : Option (Int × St) := l_Lattice_rootFor_s_2 F F σ x0 x1 2
set_option maxRecDepth 100000 in
set_option maxHeartbeats 4000000 in
theorem cb_Lattice_rootFor_s_2 {K : KX} (F : Nat) (self : St → Int → Int → Int → Option (Int × St)) (hself : ∀ σ x0 x1 x2, WA 3 0 1 cX2_rootFor RX2 3 (some .int) LYS LYS K 2 [some (vi x0), some (vi x1), some (vi x2)] [] σ (self σ x0 x1 x2)) (σ : St) (x0 x1 x2 : Int) : WA 3 0 1 cX2_rootFor RX2 3 (some .int) LYS LYS K 2 [some (vi x0), some (vi x1), some (vi x2)] [] σ (b_Lattice_rootFor_s_2 F self σ x0 x1 x2) := by
  unfold b_Lattice_rootFor_s_2
  refine a_iload_n dX2_rootFor_2 rfl ?_
  refine a_iload_n dX2_rootFor_3 rfl ?_
  refine a_icmp_ge dX2_rootFor_4 rfl (fun _ => ?_) (fun _ => ?_)
  · refine a_iconst dX2_rootFor_24 ?_
    exact a_iret dX2_rootFor_25
  refine a_iload_n dX2_rootFor_7 rfl ?_
  refine a_iload_n dX2_rootFor_8 rfl ?_
  refine a_iload_n dX2_rootFor_9 rfl ?_
  refine a_callSi (as := [vi x2, vi x0, vi x1]) mf_X2_52 (c_Lattice_comesRoundFirstAt_s F _ _ _ _) LYsame.rf dX2_rootFor_10 rfl rfl rfl rfl rfl rfl (Or.inl rfl) fun r1 σ2 => ?_
  refine a_if_eq dX2_rootFor_13 rfl (fun _ => ?_) (fun _ => ?_)
  · refine a_bv fun x2_3 ex2_3 => ?_
    refine a_iinc (y := x2_3) (L' := [some (vi x0), some (vi x1), some (vi x2_3)]) dX2_rootFor_18 rfl ex2_3 rfl rfl rfl ?_
    refine a_goto dX2_rootFor_21 rfl ?_
    exact hself _ _ _ _
  refine a_iload_n dX2_rootFor_16 rfl ?_
  exact a_iret dX2_rootFor_17
set_option maxRecDepth 100000 in
set_option maxHeartbeats 4000000 in
theorem cl_Lattice_rootFor_s_2 {K : KX} (F : Nat) : ∀ (n : Nat) (σ : St) (x0 x1 x2 : Int), WA 3 0 1 cX2_rootFor RX2 3 (some .int) LYS LYS K 2 [some (vi x0), some (vi x1), some (vi x2)] [] σ (l_Lattice_rootFor_s_2 F n σ x0 x1 x2)
  | 0, _, _, _, _ => a_none
  | n + 1, σ, x0, x1, x2 => cb_Lattice_rootFor_s_2 F _ (cl_Lattice_rootFor_s_2 F n) σ x0 x1 x2
set_option maxRecDepth 100000 in
set_option maxHeartbeats 4000000 in
theorem c_Lattice_rootFor_s (F : Nat) (σ : St) (x0 x1 : Int) : Ct 3 0 1 yX2_rootFor cX2_rootFor 3 (some .int) LYS LYS [vi x0, vi x1] σ (f_Lattice_rootFor_s F σ x0 x1) := by
  unfold f_Lattice_rootFor_s
  refine Ct_of (d := 3) (kp := 0) (kd := 1) (own := RX2) (nL := 3) (ret := (some .int)) (LY := LYS) (LYe := LYS) (L := [some (vi x0), some (vi x1), none]) rfl (by decide +kernel) rfl rfl mf_X2_30.2.2.2.1 rfl fun K => ?_
  refine a_iconst dX2_rootFor_0 ?_
  refine a_istore_n (L' := [some (vi x0), some (vi x1), some (vi 2)]) dX2_rootFor_1 rfl rfl rfl rfl ?_
  exact cl_Lattice_rootFor_s_2 F F _ _ _ _
def b_Lattice_spread_s_54 (F : Nat) (self : St → Int → Int → Option (Int × St)) (σ : St) (x1 x2 : Int) : Option (Int × St) := gd (rng x2 ∧ rng x1) (if x1 ≤ x2 then some (0, σ) else gd (inb (x2 - 1) 60) (bnd (f_W_product_s F σ (gA σ 1 (Int.toNat (x2 - 1))) (gF σ 2) (gF σ 1)) fun r9 σ10 => gd (inb x2 60) (bs (sA σ10 1 (Int.toNat x2) r9) fun σ11 => bv (x2 + 1) fun x2_12 => self σ11 x1 x2_12)))
def l_Lattice_spread_s_54 (F : Nat) : Nat → St → Int → Int → Option (Int × St)
  | 0 => fun _ _ _ => none
  | n + 1 => fun σ x1 x2 => b_Lattice_spread_s_54 F (l_Lattice_spread_s_54 F n) σ x1 x2
def f_Lattice_spread_s (F : Nat) (σ : St) (x1 : Int) : Option (Int × St) := gd (rng x1 ∧ rng (gF σ 0)) (if x1 = (gF σ 0) then some (0, σ) else gd (rng x1 ∧ rng 2) (if x1 < 2 then some (0, σ) else gd (rng x1 ∧ rng 60) (if x1 ≤ 60 then bs (sF σ 0 x1) fun σ1 => bnd (f_Lattice_primeFor_s F σ1 x1) fun r2 σ3 => bs (sF σ3 1 r2) fun σ4 => bnd (f_Lattice_rootFor_s F σ4 x1 (gF σ4 1)) fun r5 σ6 => bs (sF σ6 2 r5) fun σ7 => gd (inb 0 60) (bs (sA σ7 1 (Int.toNat 0) 1) fun σ8 => l_Lattice_spread_s_54 F F σ8 x1 1) else some (0, σ))))
set_option maxRecDepth 100000 in
set_option maxHeartbeats 4000000 in
theorem cb_Lattice_spread_s_54 {K : KX} (F : Nat) (self : St → Int → Int → Option (Int × St)) (hself : ∀ σ x1 x2, WA 4 0 0 cX2_spread RX2 3 none LYS LYS K 54 [some (.ref 0), some (vi x1), some (vi x2)] [] σ (self σ x1 x2)) (σ : St) (x1 x2 : Int) : WA 4 0 0 cX2_spread RX2 3 none LYS LYS K 54 [some (.ref 0), some (vi x1), some (vi x2)] [] σ (b_Lattice_spread_s_54 F self σ x1 x2) := by
  unfold b_Lattice_spread_s_54
  refine a_iload_n dX2_spread_54 rfl ?_
  refine a_iload_n dX2_spread_55 rfl ?_
  refine a_icmp_ge dX2_spread_56 rfl (fun _ => ?_) (fun _ => ?_)
  · exact a_vret dX2_spread_90
  refine a_aload_n dX2_spread_59 rfl ?_
  refine a_getR (c0 := 1) fl_X2_9 lyS_0 rfl dX2_spread_60 (key := 3) rfl ?_
  refine a_iload_n dX2_spread_63 rfl ?_
  refine a_aload_n dX2_spread_64 rfl ?_
  refine a_getR (c0 := 1) fl_X2_9 lyS_0 rfl dX2_spread_65 (key := 3) rfl ?_
  refine a_iload_n dX2_spread_68 rfl ?_
  refine a_iconst dX2_spread_69 ?_
  refine a_isub dX2_spread_70 ?_
  refine a_iald lyS_1 rfl dX2_spread_71 ?_
  refine a_aload_n dX2_spread_72 rfl ?_
  refine a_getI fl_X2_34 lyS_0 rfl dX2_spread_73 (key := 2) rfl ?_
  refine a_aload_n dX2_spread_76 rfl ?_
  refine a_getI fl_X2_27 lyS_0 rfl dX2_spread_77 (key := 1) rfl ?_
  refine a_callNi (as := [vi (gA σ 1 (Int.toNat (x2 - 1))), vi (gF σ 2), vi (gF σ 1)]) mf_X2_37 (c_W_product_s F _ _ _ _) LYsame.rf dX2_spread_80 rfl rfl rfl rfl rfl rfl (Or.inl rfl) fun r9 σ10 => ?_
  refine a_iast lyS_1 rfl dX2_spread_83 fun σ11 => ?_
  refine a_bv fun x2_12 ex2_12 => ?_
  refine a_iinc (y := x2_12) (L' := [some (.ref 0), some (vi x1), some (vi x2_12)]) dX2_spread_84 rfl ex2_12 rfl rfl rfl ?_
  refine a_goto dX2_spread_87 rfl ?_
  exact hself _ _ _
set_option maxRecDepth 100000 in
set_option maxHeartbeats 4000000 in
theorem cl_Lattice_spread_s_54 {K : KX} (F : Nat) : ∀ (n : Nat) (σ : St) (x1 x2 : Int), WA 4 0 0 cX2_spread RX2 3 none LYS LYS K 54 [some (.ref 0), some (vi x1), some (vi x2)] [] σ (l_Lattice_spread_s_54 F n σ x1 x2)
  | 0, _, _, _ => a_none
  | n + 1, σ, x1, x2 => cb_Lattice_spread_s_54 F _ (cl_Lattice_spread_s_54 F n) σ x1 x2
set_option maxRecDepth 100000 in
set_option maxHeartbeats 4000000 in
theorem c_Lattice_spread_s (F : Nat) (σ : St) (x1 : Int) : Ct 4 0 0 yX2_spread cX2_spread 3 none LYS LYS [.ref 0, vi x1] σ (f_Lattice_spread_s F σ x1) := by
  unfold f_Lattice_spread_s
  refine Ct_of (d := 4) (kp := 0) (kd := 0) (own := RX2) (nL := 3) (ret := none) (LY := LYS) (LYe := LYS) (L := [some (.ref 0), some (vi x1), none]) rfl (by decide +kernel) rfl rfl mf_X2_15.2.2.2.1 rfl fun K => ?_
  refine a_iload_n dX2_spread_0 rfl ?_
  refine a_aload_n dX2_spread_1 rfl ?_
  refine a_getI fl_X2_19 lyS_0 rfl dX2_spread_2 (key := 0) rfl ?_
  refine a_icmp_eq dX2_spread_5 rfl (fun _ => ?_) (fun _ => ?_)
  · exact a_vret dX2_spread_19
  refine a_iload_n dX2_spread_8 rfl ?_
  refine a_iconst dX2_spread_9 ?_
  refine a_icmp_lt dX2_spread_10 rfl (fun _ => ?_) (fun _ => ?_)
  · exact a_vret dX2_spread_19
  refine a_iload_n dX2_spread_13 rfl ?_
  refine a_bipush dX2_spread_14 bi_60 ?_
  refine a_icmp_le dX2_spread_16 rfl (fun _ => ?_) (fun _ => ?_)
  · refine a_aload_n dX2_spread_20 rfl ?_
    refine a_iload_n dX2_spread_21 rfl ?_
    refine a_putI fl_X2_19 cf_X2 rfl rfl lyS_0 rfl dX2_spread_22 (key := 0) rfl fun σ1 => ?_
    refine a_aload_n dX2_spread_25 rfl ?_
    refine a_iload_n dX2_spread_26 rfl ?_
    refine a_callSi (as := [vi x1]) mf_X2_23 (c_Lattice_primeFor_s F _ _) LYsame.rf dX2_spread_27 rfl rfl rfl rfl rfl rfl (Or.inl rfl) fun r2 σ3 => ?_
    refine a_putI fl_X2_27 cf_X2 rfl rfl lyS_0 rfl dX2_spread_30 (key := 1) rfl fun σ4 => ?_
    refine a_aload_n dX2_spread_33 rfl ?_
    refine a_iload_n dX2_spread_34 rfl ?_
    refine a_aload_n dX2_spread_35 rfl ?_
    refine a_getI fl_X2_27 lyS_0 rfl dX2_spread_36 (key := 1) rfl ?_
    refine a_callSi (as := [vi x1, vi (gF σ4 1)]) mf_X2_30 (c_Lattice_rootFor_s F _ _ _) LYsame.rf dX2_spread_39 rfl rfl rfl rfl rfl rfl (Or.inl rfl) fun r5 σ6 => ?_
    refine a_putI fl_X2_34 cf_X2 rfl rfl lyS_0 rfl dX2_spread_42 (key := 2) rfl fun σ7 => ?_
    refine a_aload_n dX2_spread_45 rfl ?_
    refine a_getR (c0 := 1) fl_X2_9 lyS_0 rfl dX2_spread_46 (key := 3) rfl ?_
    refine a_iconst dX2_spread_49 ?_
    refine a_iconst dX2_spread_50 ?_
    refine a_iast lyS_1 rfl dX2_spread_51 fun σ8 => ?_
    refine a_iconst dX2_spread_52 ?_
    refine a_istore_n (L' := [some (.ref 0), some (vi x1), some (vi 1)]) dX2_spread_53 rfl rfl rfl rfl ?_
    exact cl_Lattice_spread_s_54 F F _ _ _
  exact a_vret dX2_spread_19

theorem KC.arr {tc : Nat → ClassId} {D : va_G} {U : State} {args : Array Value} (hts : ∀ w ∈ lw_g, w.before args U = true) (h : KC tc D U) : ∀ t, t < 6 → ArrOfT U (tc t) (aty t) ∧ va_RA U (tc t) (aty t) := by
  intro t ht
  have hf := h.2.1 t ht
  have base : ∀ ty : FieldType, (Cond.arrayClass ty).before args U = true → ty = aty t → (∀ C, ty ≠ .object C) → ArrOfT U (tc t) ty ∧ va_RA U (tc t) ty := fun ty hw e hno => by
    obtain ⟨cA, kA, comp, hfind, hk, hkind⟩ := Cond.arrayClass_spec hw
    subst e
    have ec : tc t = cA := Option.some.inj (hf.symm.trans hfind)
    rw [ec]
    exact ⟨fun N z => ⟨(fun _ q => by cases q), kA, hk, comp, hkind⟩, by cases e9 : aty t <;> first | exact absurd e9 (hno _) | (rw [e9] at hfind; exact hfind)⟩
  have h6 : t = 0 ∨ t = 1 ∨ t = 2 ∨ t = 3 ∨ t = 4 ∨ t = 5 := by omega
  rcases h6 with rfl | rfl | rfl | rfl | rfl | rfl
  · exact base .int (hts _ (tg 46 (by decide +kernel) rfl)) rfl (fun C q => by cases q)
  · exact base .byte (hts _ (tg 1347 (by decide +kernel) rfl)) rfl (fun C q => by cases q)
  · exact base .boolean (hts _ (tg 267 (by decide +kernel) rfl)) rfl (fun C q => by cases q)
  · exact base .long (hts _ (tg 95 (by decide +kernel) rfl)) rfl (fun C q => by cases q)
  · obtain ⟨comp, c, k, h1, h2, h3, h4, h5⟩ := Jvm.Stand.arrayOver_specB h.2.2.2.2
    have e : tc 4 = c := Option.some.inj (hf.symm.trans h5)
    rw [e]
    exact ⟨fun N z => ⟨(fun _ q => by cases q), k, h3, comp, h4⟩, h5⟩
  · exact h.scenes.2 0 _ rfl
theorem KC.grid {tc : Nat → ClassId} {D : va_G} {U : State} {args : Array Value} (h : KC tc D U) (hts : ∀ w ∈ lw_g, w.before args U = true) : GridK tc U := by
  obtain ⟨comp, c, k, h1, h2, h3, h4, h5⟩ := Jvm.Stand.arrayOver_specB h.2.2.2.2
  obtain ⟨cA, kA, comp2, hfind, hk, hkind⟩ := Cond.arrayClass_spec (type := .int) (hts (Cond.arrayClass .int) (tg 46 (by decide +kernel) rfl))
  have e4 : tc 4 = c := Option.some.inj ((h.2.1 4 (by omega)).symm.trans h5)
  have e0 : tc 0 = comp := Option.some.inj ((h.2.1 0 (by omega)).symm.trans h1)
  have e1 : tc 0 = cA := Option.some.inj ((h.2.1 0 (by omega)).symm.trans hfind)
  exact ⟨k, kA, by rw [e4]; exact h3, by rw [e0]; exact h4, by rw [e1]; exact hk⟩
theorem KC.KK {tc : Nat → ClassId} {D : va_G} {U : State} {args : Array Value} {LY : List Sh} (hts : ∀ w ∈ lw_g, w.before args U = true) (h : KC tc D U) (h6 : ∀ (j n t b : Nat), LY[j]? = some (Sum.inr (n, t, b)) → t < 6) : KK LY tc D U := ⟨h.1, fun j n t b hj => KC.arr hts h t (h6 j n t b hj), h.2.2.1, fun _ _ _ _ => h.grid hts⟩
theorem lyS6 : ∀ (j n t b : Nat), LYS[j]? = some (Sum.inr (n, t, b)) → t < 6 := fun j n t b h => by
  rcases j with _ | _ | j
  · cases h
  · cases h; decide
  · simp [LYS] at h
section WCm
variable {d mc ms : Nat} {cc : ByteArray} {own : String} {nL h0 : Nat} {K : KX} {B : (Nat → ClassId) → va_W → Prop} {pc : Nat} {L : List (Option Value)} {st : List Value} {ws : va_W} {cu su : Nat}
/-- a constructor calls a method over the whole of its cells -/
theorem c_callM {d1 idx n nL1 q ci N : Nat} {ks : List Nat} {T : u_T} {y : MethodName} {cc1 : ByteArray} {as st0 : List Value} {LY : List Sh} {σ σ1 : St} {r1 : Int} {ad : Nat → Nat} (hM : MFv own idx y cc1 nL1 none n) (hq : LY[q]? = some (Sum.inl (ci, ks))) (hc : vwCl[ci]? = some (y.cls, T, N)) (hC : Ct d1 0 0 y cc1 nL1 none LY LY (.ref q :: as) σ (some (r1, σ1))) (hok : LYok LY) (hKY : ∀ (args : Array Value) (D : va_G) (U : State), (∀ w ∈ lw_g, w.before args U = true) → KC K.2.2.2.1 D U → KK LY K.2.2.2.1 D U) (hws : ws = wl ad K.2.2.2.1 σ 0 LY) (had : as.map (cv ad) = as) (hd : decode cc pc = .ok (.invokevirtual idx, 3)) (hdd : Nat.blt d1 d = true) (hn : as.length = n) (hnL : Nat.ble nL1 45 = true) (hst : st0 = as.reverse ++ .ref (ad q) :: st) (hcat : Nat.ble (st.map fun v => v.category).sum 8 = true) (hcu : Nat.ble cu mc = true) (hsu : Nat.ble su ms = true) (kk : WC d mc ms cc own nL h0 K B (pc + 3) L st (wl ad K.2.2.2.1 σ1 0 LY) cu su) : WC d mc ms cc own nL h0 K B pc L st0 ws cu su := by
  intro hK
  obtain ⟨⟨p, l, e, s, m, args⟩, ⟨below, meth, c⟩, ⟨ad0, tc, D⟩⟩ := K
  obtain ⟨hx, hb, hml, hown, hts, hlk, hret, hinit, hKC⟩ := id hK
  intro H locs ls hP hD hS hl
  subst hst
  subst hws
  have hMet := hC r1 σ1 rfl l D ad tc H.size
  have h64 : 64 * d1 + 64 ≤ 64 * d := by have := Nat.le_of_ble_eq_true hdd; omega
  have hn45 := Nat.le_of_ble_eq_true hnL
  have hKK : KK LY tc D s := hKY args D s hts hKC
  have hg : ∀ j, j < LY.length → ∃ x, (wl ad tc σ 0 LY)[j]? = some (ad j, x) := fun j hj => by
    have := wl_get (ad := ad) (tc := tc) (σ := σ) (k := 0) (List.getElem?_eq_getElem hj)
    rw [Nat.zero_add] at this
    exact ⟨_, this⟩
  have hAsz : AdOK LY ad (fA LY ad H.size) := ⟨fun i j hi hj hij => by
    obtain ⟨x, hx1⟩ := hg i hi
    obtain ⟨y1, hy1⟩ := hg j hj
    exact hD.1 i j _ _ hx1 hy1 hij, fun i hi => Or.inl ⟨i, hi, rfl⟩⟩
  have hup : ∀ a : Nat, fA LY ad H.size a → cA0 h0 s.heap.size a := fun a h => by
    rcases h with ⟨j, hj, rfl⟩ | h
    · obtain ⟨x, hx1⟩ := hg j hj
      exact hD.2 j _ hx1
    · exact Or.inr (Nat.le_trans hS.1 h)
  have cw : CallW (rmC d mc ms) s args own y.cls idx y cc1 nL1 none (Cond.code y cc1 nL1 none :: lw_g) (rmD d1) 0 0 n := ⟨callB_of n hts (lg_good hM.2.2.2.1) rfl rfl rfl (hts _ hM.2.2.1) (hts _ hM.1) hM.2.2.2.2.1 ⟨by have := Nat.le_of_ble_eq_true hdd; show d1 + 1 ≤ d; omega, by show 8 + (nL1 + 11) + 64 * d1 ≤ 64 * d; omega⟩, (hts _ hM.2.1), (hts _ hM.2.2.2.2.2)⟩
  have he := wl_get (ad := ad) (tc := tc) (σ := σ) (k := 0) hq
  rw [Nat.zero_add] at he
  have run := va_runV (As := as.map (cv ad)) (b := ad q) (rest := st) (g := F0 m pc ls (as.reverse ++ .ref (ad q) :: st)) (cells := cu) (slots := su) (e := e) (below := below) (meth := meth) (H := H) (locs := locs) ⟨hx, hb, hml, hown, hts⟩ hMet cw ⟨Ct_blind, va_recv (⟨hKC.1, fun k q h => by simp at h⟩ : va_K D vwCl [] s) hP hc he, fun U hU hW => ⟨rfl, by rw [hU], hAsz, hok, by rw [hU]; exact hP, hKK.warm hW⟩⟩ rfl (by rw [List.length_map]; exact hn) hl.1 (by rw [had]) (lv_room (Nat.le_of_ble_eq_true hcat)) hd ⟨Nat.le_of_ble_eq_true hcu, Nat.le_of_ble_eq_true hsu⟩
  refine va_callv (a := #[]) run hS (fun a _ h => hup a h) (fun a h => hup a h) (fun u t H1 locs1 ht hvm hw hB hz1 hkeep hS1 => ?_)
  obtain ⟨ad', hR, hP1⟩ := hB
  rw [ht] at hP1
  rw [adrel0 hR] at hP1
  refine kk hK H1 locs1 ls hP1 ?_ hS1 hl
  refine ⟨fun i j x y1 hi hj hxy => ?_, fun j x hx1 => ?_⟩
  · obtain ⟨s1, hs1, rfl⟩ := wl_inv hi
    obtain ⟨s2, hs2, rfl⟩ := wl_inv hj
    have e1 := List.getElem?_eq_some_iff.mp hs1
    have e2 := List.getElem?_eq_some_iff.mp hs2
    exact hAsz.1 i j e1.1 e2.1 (by simpa using hxy)
  · obtain ⟨s1, hs1, rfl⟩ := wl_inv hx1
    have e1 := List.getElem?_eq_some_iff.mp hs1
    exact hup _ (Or.inl ⟨j, e1.1, by simp⟩)
end WCm
