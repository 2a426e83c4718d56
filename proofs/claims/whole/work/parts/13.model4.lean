def f_M_cross (F : Nat) (σ : St) (x1 x2 x3 : Int) : Option (Int × St) := bnd (f_M_isBearing F σ x1) fun r1 σ2 => gd (rng r1) (if r1 = 0 then bnd (f_M_throwsIf F σ2 1) fun r3 σ4 => gd (rng r3) (if r3 = 0 then gd (rng x3 ∧ rng 2) (if (2 : Int) ≤ x3 then bv (gF σ4 49) fun x4_5 => bnd (f_M_common F σ4 x4_5 (gF σ4 50)) fun r6 σ7 => gd (rng x3 ∧ rng 2 ∧ 2 ≠ (0 : Int)) (gd (rng (Int.tmod x3 2)) (if (Int.tmod x3 2) = 0 then gd (rng64 x4_5 ∧ rng64 r6 ∧ r6 ≠ (0 : Int)) (some ((Int.tdiv x4_5 r6), σ7)) else gd (rng64 (gF σ7 50) ∧ rng64 r6 ∧ r6 ≠ (0 : Int)) (some ((Int.tdiv (gF σ7 50) r6), σ7)))) else bv (gF σ4 48) fun x4_8 => bnd (f_M_common F σ4 x4_8 (gF σ4 50)) fun r9 σ10 => gd (rng x3 ∧ rng 2 ∧ 2 ≠ (0 : Int)) (gd (rng (Int.tmod x3 2)) (if (Int.tmod x3 2) = 0 then gd (rng64 x4_8 ∧ rng64 r9 ∧ r9 ≠ (0 : Int)) (some ((Int.tdiv x4_8 r9), σ10)) else gd (rng64 (gF σ10 50) ∧ rng64 r9 ∧ r9 ≠ (0 : Int)) (some ((Int.tdiv (gF σ10 50) r9), σ10))))) else some (0, σ4)) else bnd (f_M_isBearing F σ2 x2) fun r11 σ12 => gd (rng r11) (if r11 = 0 then bnd (f_M_throwsIf F σ12 1) fun r13 σ14 => gd (rng r13) (if r13 = 0 then gd (rng x3 ∧ rng 2) (if (2 : Int) ≤ x3 then bv (gF σ14 49) fun x4_15 => bnd (f_M_common F σ14 x4_15 (gF σ14 50)) fun r16 σ17 => gd (rng x3 ∧ rng 2 ∧ 2 ≠ (0 : Int)) (gd (rng (Int.tmod x3 2)) (if (Int.tmod x3 2) = 0 then gd (rng64 x4_15 ∧ rng64 r16 ∧ r16 ≠ (0 : Int)) (some ((Int.tdiv x4_15 r16), σ17)) else gd (rng64 (gF σ17 50) ∧ rng64 r16 ∧ r16 ≠ (0 : Int)) (some ((Int.tdiv (gF σ17 50) r16), σ17)))) else bv (gF σ14 48) fun x4_18 => bnd (f_M_common F σ14 x4_18 (gF σ14 50)) fun r19 σ20 => gd (rng x3 ∧ rng 2 ∧ 2 ≠ (0 : Int)) (gd (rng (Int.tmod x3 2)) (if (Int.tmod x3 2) = 0 then gd (rng64 x4_18 ∧ rng64 r19 ∧ r19 ≠ (0 : Int)) (some ((Int.tdiv x4_18 r19), σ20)) else gd (rng64 (gF σ20 50) ∧ rng64 r19 ∧ r19 ≠ (0 : Int)) (some ((Int.tdiv (gF σ20 50) r19), σ20))))) else some (0, σ14)) else bnd (f_M_isIn F σ12 x3 0 3) fun r21 σ22 => gd (rng r21) (if r21 = 0 then bnd (f_M_throwsIf F σ22 1) fun r23 σ24 => gd (rng r23) (if r23 = 0 then gd (rng x3 ∧ rng 2) (if (2 : Int) ≤ x3 then bv (gF σ24 49) fun x4_25 => bnd (f_M_common F σ24 x4_25 (gF σ24 50)) fun r26 σ27 => gd (rng x3 ∧ rng 2 ∧ 2 ≠ (0 : Int)) (gd (rng (Int.tmod x3 2)) (if (Int.tmod x3 2) = 0 then gd (rng64 x4_25 ∧ rng64 r26 ∧ r26 ≠ (0 : Int)) (some ((Int.tdiv x4_25 r26), σ27)) else gd (rng64 (gF σ27 50) ∧ rng64 r26 ∧ r26 ≠ (0 : Int)) (some ((Int.tdiv (gF σ27 50) r26), σ27)))) else bv (gF σ24 48) fun x4_28 => bnd (f_M_common F σ24 x4_28 (gF σ24 50)) fun r29 σ30 => gd (rng x3 ∧ rng 2 ∧ 2 ≠ (0 : Int)) (gd (rng (Int.tmod x3 2)) (if (Int.tmod x3 2) = 0 then gd (rng64 x4_28 ∧ rng64 r29 ∧ r29 ≠ (0 : Int)) (some ((Int.tdiv x4_28 r29), σ30)) else gd (rng64 (gF σ30 50) ∧ rng64 r29 ∧ r29 ≠ (0 : Int)) (some ((Int.tdiv (gF σ30 50) r29), σ30))))) else some (0, σ24)) else bnd (f_M_crosses F σ22 x1 x2) fun r31 σ32 => gd (rng r31) (if r31 = 0 then bnd (f_M_throwsIf F σ32 1) fun r41 σ42 => gd (rng r41) (if r41 = 0 then gd (rng x3 ∧ rng 2) (if (2 : Int) ≤ x3 then bv (gF σ42 49) fun x4_43 => bnd (f_M_common F σ42 x4_43 (gF σ42 50)) fun r44 σ45 => gd (rng x3 ∧ rng 2 ∧ 2 ≠ (0 : Int)) (gd (rng (Int.tmod x3 2)) (if (Int.tmod x3 2) = 0 then gd (rng64 x4_43 ∧ rng64 r44 ∧ r44 ≠ (0 : Int)) (some ((Int.tdiv x4_43 r44), σ45)) else gd (rng64 (gF σ45 50) ∧ rng64 r44 ∧ r44 ≠ (0 : Int)) (some ((Int.tdiv (gF σ45 50) r44), σ45)))) else bv (gF σ42 48) fun x4_46 => bnd (f_M_common F σ42 x4_46 (gF σ42 50)) fun r47 σ48 => gd (rng x3 ∧ rng 2 ∧ 2 ≠ (0 : Int)) (gd (rng (Int.tmod x3 2)) (if (Int.tmod x3 2) = 0 then gd (rng64 x4_46 ∧ rng64 r47 ∧ r47 ≠ (0 : Int)) (some ((Int.tdiv x4_46 r47), σ48)) else gd (rng64 (gF σ48 50) ∧ rng64 r47 ∧ r47 ≠ (0 : Int)) (some ((Int.tdiv (gF σ48 50) r47), σ48))))) else some (0, σ42)) else bnd (f_M_throwsIf F σ32 0) fun r33 σ34 => gd (rng r33) (if r33 = 0 then gd (rng x3 ∧ rng 2) (if (2 : Int) ≤ x3 then bv (gF σ34 49) fun x4_35 => bnd (f_M_common F σ34 x4_35 (gF σ34 50)) fun r36 σ37 => gd (rng x3 ∧ rng 2 ∧ 2 ≠ (0 : Int)) (gd (rng (Int.tmod x3 2)) (if (Int.tmod x3 2) = 0 then gd (rng64 x4_35 ∧ rng64 r36 ∧ r36 ≠ (0 : Int)) (some ((Int.tdiv x4_35 r36), σ37)) else gd (rng64 (gF σ37 50) ∧ rng64 r36 ∧ r36 ≠ (0 : Int)) (some ((Int.tdiv (gF σ37 50) r36), σ37)))) else bv (gF σ34 48) fun x4_38 => bnd (f_M_common F σ34 x4_38 (gF σ34 50)) fun r39 σ40 => gd (rng x3 ∧ rng 2 ∧ 2 ≠ (0 : Int)) (gd (rng (Int.tmod x3 2)) (if (Int.tmod x3 2) = 0 then gd (rng64 x4_38 ∧ rng64 r39 ∧ r39 ≠ (0 : Int)) (some ((Int.tdiv x4_38 r39), σ40)) else gd (rng64 (gF σ40 50) ∧ rng64 r39 ∧ r39 ≠ (0 : Int)) (some ((Int.tdiv (gF σ40 50) r39), σ40))))) else some (0, σ34))))))
set_option maxRecDepth 100000 in
set_option maxHeartbeats 4000000 in
theorem c_M_cross (F : Nat) (σ : St) (x1 x2 x3 : Int) : Ct 3 0 2 yX11_cross cX11_cross 8 (some .long) LYM LYM [.ref 0, vi x1, vi x2, vi x3] σ (f_M_cross F σ x1 x2 x3) := by
  unfold f_M_cross
  refine Ct_of (d := 3) (kp := 0) (kd := 2) (own := RX11) (nL := 8) (ret := (some .long)) (LY := LYM) (LYe := LYM) (L := [some (.ref 0), some (vi x1), some (vi x2), some (vi x3), none, none, none, none]) rfl (by decide +kernel) rfl rfl mf_L_180.2.2.2.1 rfl fun K => ?_
  refine a_aload_n dX11_cross_0 rfl ?_
  refine a_aload_n dX11_cross_1 rfl ?_
  refine a_iload_n dX11_cross_2 rfl ?_
  refine a_callVi (as := [vi x1]) mf_X11_405 lyM_0 rfl (c_M_isBearing F _ _) LYsame.rf dX11_cross_3 rfl rfl rfl rfl rfl rfl (Or.inl rfl) fun r1 σ2 => ?_
  refine a_if_eq dX11_cross_6 rfl (fun _ => ?_) (fun _ => ?_)
  · refine a_iconst dX11_cross_35 ?_
    refine a_goto dX11_cross_36 rfl ?_
    refine a_callVi (as := [vi 1]) mf_X11_264 lyM_0 rfl (c_M_throwsIf F _ _) LYsame.rf dX11_cross_40 rfl rfl rfl rfl rfl rfl (Or.inl rfl) fun r3 σ4 => ?_
    refine a_if_eq dX11_cross_43 rfl (fun _ => ?_) (fun _ => ?_)
    · refine a_iload_n dX11_cross_48 rfl ?_
      refine a_iconst dX11_cross_49 ?_
      refine a_icmp_ge dX11_cross_50 rfl (fun _ => ?_) (fun _ => ?_)
      · refine a_aload_n dX11_cross_60 rfl ?_
        refine a_getL fl_X11_399 lyM_0 rfl dX11_cross_61 (key := 49) rfl ?_
        refine a_bv fun x4_5 ex4_5 => ?_
        refine a_lstore (y := x4_5) (L' := [some (.ref 0), some (vi x1), some (vi x2), some (vi x3), some (vl x4_5), none, none, none]) dX11_cross_64 ex4_5 rfl rfl rfl ?_
        refine a_lload dX11_cross_66 rfl ?_
        refine a_aload_n dX11_cross_68 rfl ?_
        refine a_getL fl_X11_393 lyM_0 rfl dX11_cross_69 (key := 50) rfl ?_
        refine a_callSl (as := [vl x4_5, vl (gF σ4 50)]) mf_X11_411 (c_M_common F _ _ _) LYsame.rf dX11_cross_72 rfl rfl rfl rfl rfl rfl (Or.inl rfl) fun r6 σ7 => ?_
        refine a_lstore (L' := [some (.ref 0), some (vi x1), some (vi x2), some (vi x3), some (vl x4_5), none, some (vl r6), none]) dX11_cross_75 rfl rfl rfl rfl ?_
        refine a_iload_n dX11_cross_77 rfl ?_
        refine a_iconst dX11_cross_78 ?_
        refine a_irem dX11_cross_79 (fun _ => ?_)
        refine a_if_ne dX11_cross_80 rfl (fun _ => ?_) (fun _ => ?_)
        · refine a_aload_n dX11_cross_88 rfl ?_
          refine a_getL fl_X11_393 lyM_0 rfl dX11_cross_89 (key := 50) rfl ?_
          refine a_lload dX11_cross_92 rfl ?_
          refine a_ldiv dX11_cross_94 (fun _ => ?_)
          exact a_lret dX11_cross_95
        refine a_lload dX11_cross_83 rfl ?_
        refine a_goto dX11_cross_85 rfl ?_
        refine a_lload dX11_cross_92 rfl ?_
        refine a_ldiv dX11_cross_94 (fun _ => ?_)
        exact a_lret dX11_cross_95
      refine a_aload_n dX11_cross_53 rfl ?_
      refine a_getL fl_X11_396 lyM_0 rfl dX11_cross_54 (key := 48) rfl ?_
      refine a_goto dX11_cross_57 rfl ?_
      refine a_bv fun x4_8 ex4_8 => ?_
      refine a_lstore (y := x4_8) (L' := [some (.ref 0), some (vi x1), some (vi x2), some (vi x3), some (vl x4_8), none, none, none]) dX11_cross_64 ex4_8 rfl rfl rfl ?_
      refine a_lload dX11_cross_66 rfl ?_
      refine a_aload_n dX11_cross_68 rfl ?_
      refine a_getL fl_X11_393 lyM_0 rfl dX11_cross_69 (key := 50) rfl ?_
      refine a_callSl (as := [vl x4_8, vl (gF σ4 50)]) mf_X11_411 (c_M_common F _ _ _) LYsame.rf dX11_cross_72 rfl rfl rfl rfl rfl rfl (Or.inl rfl) fun r9 σ10 => ?_
      refine a_lstore (L' := [some (.ref 0), some (vi x1), some (vi x2), some (vi x3), some (vl x4_8), none, some (vl r9), none]) dX11_cross_75 rfl rfl rfl rfl ?_
      refine a_iload_n dX11_cross_77 rfl ?_
      refine a_iconst dX11_cross_78 ?_
      refine a_irem dX11_cross_79 (fun _ => ?_)
      refine a_if_ne dX11_cross_80 rfl (fun _ => ?_) (fun _ => ?_)
      · refine a_aload_n dX11_cross_88 rfl ?_
        refine a_getL fl_X11_393 lyM_0 rfl dX11_cross_89 (key := 50) rfl ?_
        refine a_lload dX11_cross_92 rfl ?_
        refine a_ldiv dX11_cross_94 (fun _ => ?_)
        exact a_lret dX11_cross_95
      refine a_lload dX11_cross_83 rfl ?_
      refine a_goto dX11_cross_85 rfl ?_
      refine a_lload dX11_cross_92 rfl ?_
      refine a_ldiv dX11_cross_94 (fun _ => ?_)
      exact a_lret dX11_cross_95
    refine a_lconst (v := 0) dX11_cross_46 rfl ?_
    exact a_lret dX11_cross_47
  refine a_aload_n dX11_cross_9 rfl ?_
  refine a_iload_n dX11_cross_10 rfl ?_
  refine a_callVi (as := [vi x2]) mf_X11_405 lyM_0 rfl (c_M_isBearing F _ _) LYsame.rf dX11_cross_11 rfl rfl rfl rfl rfl rfl (Or.inl rfl) fun r11 σ12 => ?_
  refine a_if_eq dX11_cross_14 rfl (fun _ => ?_) (fun _ => ?_)
  · refine a_iconst dX11_cross_35 ?_
    refine a_goto dX11_cross_36 rfl ?_
    refine a_callVi (as := [vi 1]) mf_X11_264 lyM_0 rfl (c_M_throwsIf F _ _) LYsame.rf dX11_cross_40 rfl rfl rfl rfl rfl rfl (Or.inl rfl) fun r13 σ14 => ?_
    refine a_if_eq dX11_cross_43 rfl (fun _ => ?_) (fun _ => ?_)
    · refine a_iload_n dX11_cross_48 rfl ?_
      refine a_iconst dX11_cross_49 ?_
      refine a_icmp_ge dX11_cross_50 rfl (fun _ => ?_) (fun _ => ?_)
      · refine a_aload_n dX11_cross_60 rfl ?_
        refine a_getL fl_X11_399 lyM_0 rfl dX11_cross_61 (key := 49) rfl ?_
        refine a_bv fun x4_15 ex4_15 => ?_
        refine a_lstore (y := x4_15) (L' := [some (.ref 0), some (vi x1), some (vi x2), some (vi x3), some (vl x4_15), none, none, none]) dX11_cross_64 ex4_15 rfl rfl rfl ?_
        refine a_lload dX11_cross_66 rfl ?_
        refine a_aload_n dX11_cross_68 rfl ?_
        refine a_getL fl_X11_393 lyM_0 rfl dX11_cross_69 (key := 50) rfl ?_
        refine a_callSl (as := [vl x4_15, vl (gF σ14 50)]) mf_X11_411 (c_M_common F _ _ _) LYsame.rf dX11_cross_72 rfl rfl rfl rfl rfl rfl (Or.inl rfl) fun r16 σ17 => ?_
        refine a_lstore (L' := [some (.ref 0), some (vi x1), some (vi x2), some (vi x3), some (vl x4_15), none, some (vl r16), none]) dX11_cross_75 rfl rfl rfl rfl ?_
        refine a_iload_n dX11_cross_77 rfl ?_
        refine a_iconst dX11_cross_78 ?_
        refine a_irem dX11_cross_79 (fun _ => ?_)
        refine a_if_ne dX11_cross_80 rfl (fun _ => ?_) (fun _ => ?_)
        · refine a_aload_n dX11_cross_88 rfl ?_
          refine a_getL fl_X11_393 lyM_0 rfl dX11_cross_89 (key := 50) rfl ?_
          refine a_lload dX11_cross_92 rfl ?_
          refine a_ldiv dX11_cross_94 (fun _ => ?_)
          exact a_lret dX11_cross_95
        refine a_lload dX11_cross_83 rfl ?_
        refine a_goto dX11_cross_85 rfl ?_
        refine a_lload dX11_cross_92 rfl ?_
        refine a_ldiv dX11_cross_94 (fun _ => ?_)
        exact a_lret dX11_cross_95
      refine a_aload_n dX11_cross_53 rfl ?_
      refine a_getL fl_X11_396 lyM_0 rfl dX11_cross_54 (key := 48) rfl ?_
      refine a_goto dX11_cross_57 rfl ?_
      refine a_bv fun x4_18 ex4_18 => ?_
      refine a_lstore (y := x4_18) (L' := [some (.ref 0), some (vi x1), some (vi x2), some (vi x3), some (vl x4_18), none, none, none]) dX11_cross_64 ex4_18 rfl rfl rfl ?_
      refine a_lload dX11_cross_66 rfl ?_
      refine a_aload_n dX11_cross_68 rfl ?_
      refine a_getL fl_X11_393 lyM_0 rfl dX11_cross_69 (key := 50) rfl ?_
      refine a_callSl (as := [vl x4_18, vl (gF σ14 50)]) mf_X11_411 (c_M_common F _ _ _) LYsame.rf dX11_cross_72 rfl rfl rfl rfl rfl rfl (Or.inl rfl) fun r19 σ20 => ?_
      refine a_lstore (L' := [some (.ref 0), some (vi x1), some (vi x2), some (vi x3), some (vl x4_18), none, some (vl r19), none]) dX11_cross_75 rfl rfl rfl rfl ?_
      refine a_iload_n dX11_cross_77 rfl ?_
      refine a_iconst dX11_cross_78 ?_
      refine a_irem dX11_cross_79 (fun _ => ?_)
      refine a_if_ne dX11_cross_80 rfl (fun _ => ?_) (fun _ => ?_)
      · refine a_aload_n dX11_cross_88 rfl ?_
        refine a_getL fl_X11_393 lyM_0 rfl dX11_cross_89 (key := 50) rfl ?_
        refine a_lload dX11_cross_92 rfl ?_
        refine a_ldiv dX11_cross_94 (fun _ => ?_)
        exact a_lret dX11_cross_95
      refine a_lload dX11_cross_83 rfl ?_
      refine a_goto dX11_cross_85 rfl ?_
      refine a_lload dX11_cross_92 rfl ?_
      refine a_ldiv dX11_cross_94 (fun _ => ?_)
      exact a_lret dX11_cross_95
    refine a_lconst (v := 0) dX11_cross_46 rfl ?_
    exact a_lret dX11_cross_47
  refine a_iload_n dX11_cross_17 rfl ?_
  refine a_iconst dX11_cross_18 ?_
  refine a_iconst dX11_cross_19 ?_
  refine a_callSi (as := [vi x3, vi 0, vi 3]) mf_X11_175 (c_M_isIn F _ _ _ _) LYsame.rf dX11_cross_20 rfl rfl rfl rfl rfl rfl (Or.inl rfl) fun r21 σ22 => ?_
  refine a_if_eq dX11_cross_23 rfl (fun _ => ?_) (fun _ => ?_)
  · refine a_iconst dX11_cross_35 ?_
    refine a_goto dX11_cross_36 rfl ?_
    refine a_callVi (as := [vi 1]) mf_X11_264 lyM_0 rfl (c_M_throwsIf F _ _) LYsame.rf dX11_cross_40 rfl rfl rfl rfl rfl rfl (Or.inl rfl) fun r23 σ24 => ?_
    refine a_if_eq dX11_cross_43 rfl (fun _ => ?_) (fun _ => ?_)
    · refine a_iload_n dX11_cross_48 rfl ?_
      refine a_iconst dX11_cross_49 ?_
      refine a_icmp_ge dX11_cross_50 rfl (fun _ => ?_) (fun _ => ?_)
      · refine a_aload_n dX11_cross_60 rfl ?_
        refine a_getL fl_X11_399 lyM_0 rfl dX11_cross_61 (key := 49) rfl ?_
        refine a_bv fun x4_25 ex4_25 => ?_
        refine a_lstore (y := x4_25) (L' := [some (.ref 0), some (vi x1), some (vi x2), some (vi x3), some (vl x4_25), none, none, none]) dX11_cross_64 ex4_25 rfl rfl rfl ?_
        refine a_lload dX11_cross_66 rfl ?_
        refine a_aload_n dX11_cross_68 rfl ?_
        refine a_getL fl_X11_393 lyM_0 rfl dX11_cross_69 (key := 50) rfl ?_
        refine a_callSl (as := [vl x4_25, vl (gF σ24 50)]) mf_X11_411 (c_M_common F _ _ _) LYsame.rf dX11_cross_72 rfl rfl rfl rfl rfl rfl (Or.inl rfl) fun r26 σ27 => ?_
        refine a_lstore (L' := [some (.ref 0), some (vi x1), some (vi x2), some (vi x3), some (vl x4_25), none, some (vl r26), none]) dX11_cross_75 rfl rfl rfl rfl ?_
        refine a_iload_n dX11_cross_77 rfl ?_
        refine a_iconst dX11_cross_78 ?_
        refine a_irem dX11_cross_79 (fun _ => ?_)
        refine a_if_ne dX11_cross_80 rfl (fun _ => ?_) (fun _ => ?_)
        · refine a_aload_n dX11_cross_88 rfl ?_
          refine a_getL fl_X11_393 lyM_0 rfl dX11_cross_89 (key := 50) rfl ?_
          refine a_lload dX11_cross_92 rfl ?_
          refine a_ldiv dX11_cross_94 (fun _ => ?_)
          exact a_lret dX11_cross_95
        refine a_lload dX11_cross_83 rfl ?_
        refine a_goto dX11_cross_85 rfl ?_
        refine a_lload dX11_cross_92 rfl ?_
        refine a_ldiv dX11_cross_94 (fun _ => ?_)
        exact a_lret dX11_cross_95
      refine a_aload_n dX11_cross_53 rfl ?_
      refine a_getL fl_X11_396 lyM_0 rfl dX11_cross_54 (key := 48) rfl ?_
      refine a_goto dX11_cross_57 rfl ?_
      refine a_bv fun x4_28 ex4_28 => ?_
      refine a_lstore (y := x4_28) (L' := [some (.ref 0), some (vi x1), some (vi x2), some (vi x3), some (vl x4_28), none, none, none]) dX11_cross_64 ex4_28 rfl rfl rfl ?_
      refine a_lload dX11_cross_66 rfl ?_
      refine a_aload_n dX11_cross_68 rfl ?_
      refine a_getL fl_X11_393 lyM_0 rfl dX11_cross_69 (key := 50) rfl ?_
      refine a_callSl (as := [vl x4_28, vl (gF σ24 50)]) mf_X11_411 (c_M_common F _ _ _) LYsame.rf dX11_cross_72 rfl rfl rfl rfl rfl rfl (Or.inl rfl) fun r29 σ30 => ?_
      refine a_lstore (L' := [some (.ref 0), some (vi x1), some (vi x2), some (vi x3), some (vl x4_28), none, some (vl r29), none]) dX11_cross_75 rfl rfl rfl rfl ?_
      refine a_iload_n dX11_cross_77 rfl ?_
      refine a_iconst dX11_cross_78 ?_
      refine a_irem dX11_cross_79 (fun _ => ?_)
      refine a_if_ne dX11_cross_80 rfl (fun _ => ?_) (fun _ => ?_)
      · refine a_aload_n dX11_cross_88 rfl ?_
        refine a_getL fl_X11_393 lyM_0 rfl dX11_cross_89 (key := 50) rfl ?_
        refine a_lload dX11_cross_92 rfl ?_
        refine a_ldiv dX11_cross_94 (fun _ => ?_)
        exact a_lret dX11_cross_95
      refine a_lload dX11_cross_83 rfl ?_
      refine a_goto dX11_cross_85 rfl ?_
      refine a_lload dX11_cross_92 rfl ?_
      refine a_ldiv dX11_cross_94 (fun _ => ?_)
      exact a_lret dX11_cross_95
    refine a_lconst (v := 0) dX11_cross_46 rfl ?_
    exact a_lret dX11_cross_47
  refine a_aload_n dX11_cross_26 rfl ?_
  refine a_iload_n dX11_cross_27 rfl ?_
  refine a_iload_n dX11_cross_28 rfl ?_
  refine a_callVi (as := [vi x1, vi x2]) mf_X11_408 lyM_0 rfl (c_M_crosses F _ _ _) LYsame.rf dX11_cross_29 rfl rfl rfl rfl rfl rfl (Or.inl rfl) fun r31 σ32 => ?_
  refine a_if_ne dX11_cross_32 rfl (fun _ => ?_) (fun _ => ?_)
  · refine a_iconst dX11_cross_39 ?_
    refine a_callVi (as := [vi 0]) mf_X11_264 lyM_0 rfl (c_M_throwsIf F _ _) LYsame.rf dX11_cross_40 rfl rfl rfl rfl rfl rfl (Or.inl rfl) fun r33 σ34 => ?_
    refine a_if_eq dX11_cross_43 rfl (fun _ => ?_) (fun _ => ?_)
    · refine a_iload_n dX11_cross_48 rfl ?_
      refine a_iconst dX11_cross_49 ?_
      refine a_icmp_ge dX11_cross_50 rfl (fun _ => ?_) (fun _ => ?_)
      · refine a_aload_n dX11_cross_60 rfl ?_
        refine a_getL fl_X11_399 lyM_0 rfl dX11_cross_61 (key := 49) rfl ?_
        refine a_bv fun x4_35 ex4_35 => ?_
        refine a_lstore (y := x4_35) (L' := [some (.ref 0), some (vi x1), some (vi x2), some (vi x3), some (vl x4_35), none, none, none]) dX11_cross_64 ex4_35 rfl rfl rfl ?_
        refine a_lload dX11_cross_66 rfl ?_
        refine a_aload_n dX11_cross_68 rfl ?_
        refine a_getL fl_X11_393 lyM_0 rfl dX11_cross_69 (key := 50) rfl ?_
        refine a_callSl (as := [vl x4_35, vl (gF σ34 50)]) mf_X11_411 (c_M_common F _ _ _) LYsame.rf dX11_cross_72 rfl rfl rfl rfl rfl rfl (Or.inl rfl) fun r36 σ37 => ?_
        refine a_lstore (L' := [some (.ref 0), some (vi x1), some (vi x2), some (vi x3), some (vl x4_35), none, some (vl r36), none]) dX11_cross_75 rfl rfl rfl rfl ?_
        refine a_iload_n dX11_cross_77 rfl ?_
        refine a_iconst dX11_cross_78 ?_
        refine a_irem dX11_cross_79 (fun _ => ?_)
        refine a_if_ne dX11_cross_80 rfl (fun _ => ?_) (fun _ => ?_)
        · refine a_aload_n dX11_cross_88 rfl ?_
          refine a_getL fl_X11_393 lyM_0 rfl dX11_cross_89 (key := 50) rfl ?_
          refine a_lload dX11_cross_92 rfl ?_
          refine a_ldiv dX11_cross_94 (fun _ => ?_)
          exact a_lret dX11_cross_95
        refine a_lload dX11_cross_83 rfl ?_
        refine a_goto dX11_cross_85 rfl ?_
        refine a_lload dX11_cross_92 rfl ?_
        refine a_ldiv dX11_cross_94 (fun _ => ?_)
        exact a_lret dX11_cross_95
      refine a_aload_n dX11_cross_53 rfl ?_
      refine a_getL fl_X11_396 lyM_0 rfl dX11_cross_54 (key := 48) rfl ?_
      refine a_goto dX11_cross_57 rfl ?_
      refine a_bv fun x4_38 ex4_38 => ?_
      refine a_lstore (y := x4_38) (L' := [some (.ref 0), some (vi x1), some (vi x2), some (vi x3), some (vl x4_38), none, none, none]) dX11_cross_64 ex4_38 rfl rfl rfl ?_
      refine a_lload dX11_cross_66 rfl ?_
      refine a_aload_n dX11_cross_68 rfl ?_
      refine a_getL fl_X11_393 lyM_0 rfl dX11_cross_69 (key := 50) rfl ?_
      refine a_callSl (as := [vl x4_38, vl (gF σ34 50)]) mf_X11_411 (c_M_common F _ _ _) LYsame.rf dX11_cross_72 rfl rfl rfl rfl rfl rfl (Or.inl rfl) fun r39 σ40 => ?_
      refine a_lstore (L' := [some (.ref 0), some (vi x1), some (vi x2), some (vi x3), some (vl x4_38), none, some (vl r39), none]) dX11_cross_75 rfl rfl rfl rfl ?_
      refine a_iload_n dX11_cross_77 rfl ?_
      refine a_iconst dX11_cross_78 ?_
      refine a_irem dX11_cross_79 (fun _ => ?_)
      refine a_if_ne dX11_cross_80 rfl (fun _ => ?_) (fun _ => ?_)
      · refine a_aload_n dX11_cross_88 rfl ?_
        refine a_getL fl_X11_393 lyM_0 rfl dX11_cross_89 (key := 50) rfl ?_
        refine a_lload dX11_cross_92 rfl ?_
        refine a_ldiv dX11_cross_94 (fun _ => ?_)
        exact a_lret dX11_cross_95
      refine a_lload dX11_cross_83 rfl ?_
      refine a_goto dX11_cross_85 rfl ?_
      refine a_lload dX11_cross_92 rfl ?_
      refine a_ldiv dX11_cross_94 (fun _ => ?_)
      exact a_lret dX11_cross_95
    refine a_lconst (v := 0) dX11_cross_46 rfl ?_
    exact a_lret dX11_cross_47
  refine a_iconst dX11_cross_35 ?_
  refine a_goto dX11_cross_36 rfl ?_
  refine a_callVi (as := [vi 1]) mf_X11_264 lyM_0 rfl (c_M_throwsIf F _ _) LYsame.rf dX11_cross_40 rfl rfl rfl rfl rfl rfl (Or.inl rfl) fun r41 σ42 => ?_
  refine a_if_eq dX11_cross_43 rfl (fun _ => ?_) (fun _ => ?_)
  · refine a_iload_n dX11_cross_48 rfl ?_
    refine a_iconst dX11_cross_49 ?_
    refine a_icmp_ge dX11_cross_50 rfl (fun _ => ?_) (fun _ => ?_)
    · refine a_aload_n dX11_cross_60 rfl ?_
      refine a_getL fl_X11_399 lyM_0 rfl dX11_cross_61 (key := 49) rfl ?_
      refine a_bv fun x4_43 ex4_43 => ?_
      refine a_lstore (y := x4_43) (L' := [some (.ref 0), some (vi x1), some (vi x2), some (vi x3), some (vl x4_43), none, none, none]) dX11_cross_64 ex4_43 rfl rfl rfl ?_
      refine a_lload dX11_cross_66 rfl ?_
      refine a_aload_n dX11_cross_68 rfl ?_
      refine a_getL fl_X11_393 lyM_0 rfl dX11_cross_69 (key := 50) rfl ?_
      refine a_callSl (as := [vl x4_43, vl (gF σ42 50)]) mf_X11_411 (c_M_common F _ _ _) LYsame.rf dX11_cross_72 rfl rfl rfl rfl rfl rfl (Or.inl rfl) fun r44 σ45 => ?_
      refine a_lstore (L' := [some (.ref 0), some (vi x1), some (vi x2), some (vi x3), some (vl x4_43), none, some (vl r44), none]) dX11_cross_75 rfl rfl rfl rfl ?_
      refine a_iload_n dX11_cross_77 rfl ?_
      refine a_iconst dX11_cross_78 ?_
      refine a_irem dX11_cross_79 (fun _ => ?_)
      refine a_if_ne dX11_cross_80 rfl (fun _ => ?_) (fun _ => ?_)
      · refine a_aload_n dX11_cross_88 rfl ?_
        refine a_getL fl_X11_393 lyM_0 rfl dX11_cross_89 (key := 50) rfl ?_
        refine a_lload dX11_cross_92 rfl ?_
        refine a_ldiv dX11_cross_94 (fun _ => ?_)
        exact a_lret dX11_cross_95
      refine a_lload dX11_cross_83 rfl ?_
      refine a_goto dX11_cross_85 rfl ?_
      refine a_lload dX11_cross_92 rfl ?_
      refine a_ldiv dX11_cross_94 (fun _ => ?_)
      exact a_lret dX11_cross_95
    refine a_aload_n dX11_cross_53 rfl ?_
    refine a_getL fl_X11_396 lyM_0 rfl dX11_cross_54 (key := 48) rfl ?_
    refine a_goto dX11_cross_57 rfl ?_
    refine a_bv fun x4_46 ex4_46 => ?_
    refine a_lstore (y := x4_46) (L' := [some (.ref 0), some (vi x1), some (vi x2), some (vi x3), some (vl x4_46), none, none, none]) dX11_cross_64 ex4_46 rfl rfl rfl ?_
    refine a_lload dX11_cross_66 rfl ?_
    refine a_aload_n dX11_cross_68 rfl ?_
    refine a_getL fl_X11_393 lyM_0 rfl dX11_cross_69 (key := 50) rfl ?_
    refine a_callSl (as := [vl x4_46, vl (gF σ42 50)]) mf_X11_411 (c_M_common F _ _ _) LYsame.rf dX11_cross_72 rfl rfl rfl rfl rfl rfl (Or.inl rfl) fun r47 σ48 => ?_
    refine a_lstore (L' := [some (.ref 0), some (vi x1), some (vi x2), some (vi x3), some (vl x4_46), none, some (vl r47), none]) dX11_cross_75 rfl rfl rfl rfl ?_
    refine a_iload_n dX11_cross_77 rfl ?_
    refine a_iconst dX11_cross_78 ?_
    refine a_irem dX11_cross_79 (fun _ => ?_)
    refine a_if_ne dX11_cross_80 rfl (fun _ => ?_) (fun _ => ?_)
    · refine a_aload_n dX11_cross_88 rfl ?_
      refine a_getL fl_X11_393 lyM_0 rfl dX11_cross_89 (key := 50) rfl ?_
      refine a_lload dX11_cross_92 rfl ?_
      refine a_ldiv dX11_cross_94 (fun _ => ?_)
      exact a_lret dX11_cross_95
    refine a_lload dX11_cross_83 rfl ?_
    refine a_goto dX11_cross_85 rfl ?_
    refine a_lload dX11_cross_92 rfl ?_
    refine a_ldiv dX11_cross_94 (fun _ => ?_)
    exact a_lret dX11_cross_95
  refine a_lconst (v := 0) dX11_cross_46 rfl ?_
  exact a_lret dX11_cross_47
def f_M_through (F : Nat) (σ : St) (x1 x2 : Int) : Option (Int × St) := bs (sF σ 0 0) fun σ1 => bnd (f_M_isBearing F σ1 x1) fun r2 σ3 => gd (rng r2) (if r2 = 0 then some ((-1), σ3) else bnd (f_M_isBearing F σ3 x2) fun r4 σ5 => gd (rng r4) (if r4 = 0 then some ((-1), σ5) else bnd (f_M_crosses F σ5 x1 x2) fun r6 σ7 => gd (rng r6) (if r6 = 0 then some ((-1), σ7) else bnd (f_M_throughSet F σ7) fun r8 σ9 => some (r8, σ9))))
set_option maxRecDepth 100000 in
set_option maxHeartbeats 4000000 in
theorem c_M_through (F : Nat) (σ : St) (x1 x2 : Int) : Ct 4 0 1 yX11_through cX11_through 3 (some .int) LYM LYM [.ref 0, vi x1, vi x2] σ (f_M_through F σ x1 x2) := by
  unfold f_M_through
  refine Ct_of (d := 4) (kp := 0) (kd := 1) (own := RX11) (nL := 3) (ret := (some .int)) (LY := LYM) (LYe := LYM) (L := [some (.ref 0), some (vi x1), some (vi x2)]) rfl (by decide +kernel) rfl rfl mf_L_192.2.2.2.1 rfl fun K => ?_
  refine a_aload_n dX11_through_0 rfl ?_
  refine a_iconst dX11_through_1 ?_
  refine a_putI fl_X11_1 cf_X11 rfl rfl lyM_0 rfl dX11_through_2 (key := 0) rfl fun σ1 => ?_
  refine a_aload_n dX11_through_5 rfl ?_
  refine a_iload_n dX11_through_6 rfl ?_
  refine a_callVi (as := [vi x1]) mf_X11_405 lyM_0 rfl (c_M_isBearing F _ _) LYsame.rf dX11_through_7 rfl rfl rfl rfl rfl rfl (Or.inl rfl) fun r2 σ3 => ?_
  refine a_if_eq dX11_through_10 rfl (fun _ => ?_) (fun _ => ?_)
  · refine a_iconst dX11_through_37 ?_
    exact a_iret dX11_through_38
  refine a_aload_n dX11_through_13 rfl ?_
  refine a_iload_n dX11_through_14 rfl ?_
  refine a_callVi (as := [vi x2]) mf_X11_405 lyM_0 rfl (c_M_isBearing F _ _) LYsame.rf dX11_through_15 rfl rfl rfl rfl rfl rfl (Or.inl rfl) fun r4 σ5 => ?_
  refine a_if_eq dX11_through_18 rfl (fun _ => ?_) (fun _ => ?_)
  · refine a_iconst dX11_through_37 ?_
    exact a_iret dX11_through_38
  refine a_aload_n dX11_through_21 rfl ?_
  refine a_iload_n dX11_through_22 rfl ?_
  refine a_iload_n dX11_through_23 rfl ?_
  refine a_callVi (as := [vi x1, vi x2]) mf_X11_408 lyM_0 rfl (c_M_crosses F _ _ _) LYsame.rf dX11_through_24 rfl rfl rfl rfl rfl rfl (Or.inl rfl) fun r6 σ7 => ?_
  refine a_if_eq dX11_through_27 rfl (fun _ => ?_) (fun _ => ?_)
  · refine a_iconst dX11_through_37 ?_
    exact a_iret dX11_through_38
  refine a_aload_n dX11_through_30 rfl ?_
  refine a_callVi (as := []) mf_X11_415 lyM_0 rfl (c_M_throughSet F _) LYsame.rf dX11_through_31 rfl rfl rfl rfl rfl rfl (Or.inl rfl) fun r8 σ9 => ?_
  refine a_goto dX11_through_34 rfl ?_
  exact a_iret dX11_through_38
def b_M_findPoints_66 (F : Nat) (k7 : St → Int → Option (Int × St)) (k21 : St → Int → Int → Option (Int × St)) (k54 : St → Int → Int → Int → Int → Int → Option (Int × St)) (self : St → Int → Int → Int → Int → Int → Int → Option (Int × St)) (σ : St) (x1 x2 x3 x4 x5 x6 : Int) : Option (Int × St) := gd (rng x5 ∧ rng x1) (if x5 = x1 then gd (rng x6 ∧ rng x2) (if x2 ≤ x6 then bv (x5 + 1) fun x5_50 => k54 σ x1 x2 x3 x4 x5_50 else bnd (f_M_has F σ x3 x5) fun r51 σ52 => gd (rng r51) (if r51 = 0 then bv (x6 + 1) fun x6_53 => self σ52 x1 x2 x3 x4 x5 x6_53 else bnd (f_M_has F σ52 x3 x6) fun r54 σ55 => gd (rng r54) (if r54 = 0 then bv (x6 + 1) fun x6_85 => self σ55 x1 x2 x3 x4 x5 x6_85 else bv (gF σ55 48) fun x7_56 => bv (gF σ55 49) fun x9_57 => bv (gF σ55 50) fun x11_58 => bnd (f_M_crosses F σ55 x5 x6) fun r59 σ60 => gd (rng r59) (if r59 = 0 then bs (sF σ60 48 x7_56) fun σ61 => bs (sF σ61 49 x9_57) fun σ62 => bs (sF σ62 50 x11_58) fun σ63 => gd (rng x4) (if x4 = 0 then bv (x6 + 1) fun x6_64 => self σ63 x1 x2 x3 0 x5 x6_64 else gd (rng 0) (if (0 : Int) = 0 then bv (x6 + 1) fun x6_66 => self σ63 x1 x2 x3 1 x5 x6_66 else bv (x6 + 1) fun x6_65 => self σ63 x1 x2 x3 0 x5 x6_65)) else gd (rng64 ((gF σ60 48) * x11_58) ∧ rng64 (x7_56 * (gF σ60 50))) (if ((gF σ60 48) * x11_58) = (x7_56 * (gF σ60 50)) then gd (rng64 ((gF σ60 49) * x11_58) ∧ rng64 (x9_57 * (gF σ60 50))) (if ((gF σ60 49) * x11_58) = (x9_57 * (gF σ60 50)) then bs (sF σ60 48 x7_56) fun σ79 => bs (sF σ79 49 x9_57) fun σ80 => bs (sF σ80 50 x11_58) fun σ81 => gd (rng x4) (if x4 = 0 then bv (x6 + 1) fun x6_82 => self σ81 x1 x2 x3 0 x5 x6_82 else gd (rng 1) (if (1 : Int) = 0 then bv (x6 + 1) fun x6_84 => self σ81 x1 x2 x3 1 x5 x6_84 else bv (x6 + 1) fun x6_83 => self σ81 x1 x2 x3 0 x5 x6_83)) else bs (sF σ60 48 x7_56) fun σ73 => bs (sF σ73 49 x9_57) fun σ74 => bs (sF σ74 50 x11_58) fun σ75 => gd (rng x4) (if x4 = 0 then bv (x6 + 1) fun x6_76 => self σ75 x1 x2 x3 0 x5 x6_76 else gd (rng 0) (if (0 : Int) = 0 then bv (x6 + 1) fun x6_78 => self σ75 x1 x2 x3 1 x5 x6_78 else bv (x6 + 1) fun x6_77 => self σ75 x1 x2 x3 0 x5 x6_77))) else bs (sF σ60 48 x7_56) fun σ67 => bs (sF σ67 49 x9_57) fun σ68 => bs (sF σ68 50 x11_58) fun σ69 => gd (rng x4) (if x4 = 0 then bv (x6 + 1) fun x6_70 => self σ69 x1 x2 x3 0 x5 x6_70 else gd (rng 0) (if (0 : Int) = 0 then bv (x6 + 1) fun x6_72 => self σ69 x1 x2 x3 1 x5 x6_72 else bv (x6 + 1) fun x6_71 => self σ69 x1 x2 x3 0 x5 x6_71))))))) else gd (inb 4 82) (gd (rng x6 ∧ rng (gA σ 2 (Int.toNat 4))) (if (gA σ 2 (Int.toNat 4)) ≤ x6 then bv (x5 + 1) fun x5_14 => k54 σ x1 x2 x3 x4 x5_14 else bnd (f_M_has F σ x3 x5) fun r15 σ16 => gd (rng r15) (if r15 = 0 then bv (x6 + 1) fun x6_17 => self σ16 x1 x2 x3 x4 x5 x6_17 else bnd (f_M_has F σ16 x3 x6) fun r18 σ19 => gd (rng r18) (if r18 = 0 then bv (x6 + 1) fun x6_49 => self σ19 x1 x2 x3 x4 x5 x6_49 else bv (gF σ19 48) fun x7_20 => bv (gF σ19 49) fun x9_21 => bv (gF σ19 50) fun x11_22 => bnd (f_M_crosses F σ19 x5 x6) fun r23 σ24 => gd (rng r23) (if r23 = 0 then bs (sF σ24 48 x7_20) fun σ25 => bs (sF σ25 49 x9_21) fun σ26 => bs (sF σ26 50 x11_22) fun σ27 => gd (rng x4) (if x4 = 0 then bv (x6 + 1) fun x6_28 => self σ27 x1 x2 x3 0 x5 x6_28 else gd (rng 0) (if (0 : Int) = 0 then bv (x6 + 1) fun x6_30 => self σ27 x1 x2 x3 1 x5 x6_30 else bv (x6 + 1) fun x6_29 => self σ27 x1 x2 x3 0 x5 x6_29)) else gd (rng64 ((gF σ24 48) * x11_22) ∧ rng64 (x7_20 * (gF σ24 50))) (if ((gF σ24 48) * x11_22) = (x7_20 * (gF σ24 50)) then gd (rng64 ((gF σ24 49) * x11_22) ∧ rng64 (x9_21 * (gF σ24 50))) (if ((gF σ24 49) * x11_22) = (x9_21 * (gF σ24 50)) then bs (sF σ24 48 x7_20) fun σ43 => bs (sF σ43 49 x9_21) fun σ44 => bs (sF σ44 50 x11_22) fun σ45 => gd (rng x4) (if x4 = 0 then bv (x6 + 1) fun x6_46 => self σ45 x1 x2 x3 0 x5 x6_46 else gd (rng 1) (if (1 : Int) = 0 then bv (x6 + 1) fun x6_48 => self σ45 x1 x2 x3 1 x5 x6_48 else bv (x6 + 1) fun x6_47 => self σ45 x1 x2 x3 0 x5 x6_47)) else bs (sF σ24 48 x7_20) fun σ37 => bs (sF σ37 49 x9_21) fun σ38 => bs (sF σ38 50 x11_22) fun σ39 => gd (rng x4) (if x4 = 0 then bv (x6 + 1) fun x6_40 => self σ39 x1 x2 x3 0 x5 x6_40 else gd (rng 0) (if (0 : Int) = 0 then bv (x6 + 1) fun x6_42 => self σ39 x1 x2 x3 1 x5 x6_42 else bv (x6 + 1) fun x6_41 => self σ39 x1 x2 x3 0 x5 x6_41))) else bs (sF σ24 48 x7_20) fun σ31 => bs (sF σ31 49 x9_21) fun σ32 => bs (sF σ32 50 x11_22) fun σ33 => gd (rng x4) (if x4 = 0 then bv (x6 + 1) fun x6_34 => self σ33 x1 x2 x3 0 x5 x6_34 else gd (rng 0) (if (0 : Int) = 0 then bv (x6 + 1) fun x6_36 => self σ33 x1 x2 x3 1 x5 x6_36 else bv (x6 + 1) fun x6_35 => self σ33 x1 x2 x3 0 x5 x6_35)))))))))
def l_M_findPoints_66 (F : Nat) (k7 : St → Int → Option (Int × St)) (k21 : St → Int → Int → Option (Int × St)) (k54 : St → Int → Int → Int → Int → Int → Option (Int × St)) : Nat → St → Int → Int → Int → Int → Int → Int → Option (Int × St)
  | 0 => fun _ _ _ _ _ _ _ => none
  | n + 1 => fun σ x1 x2 x3 x4 x5 x6 => b_M_findPoints_66 F k7 k21 k54 (l_M_findPoints_66 F k7 k21 k54 n) σ x1 x2 x3 x4 x5 x6
def b_M_findPoints_54 (F : Nat) (k7 : St → Int → Option (Int × St)) (k21 : St → Int → Int → Option (Int × St)) (self : St → Int → Int → Int → Int → Int → Option (Int × St)) (σ : St) (x1 x2 x3 x4 x5 : Int) : Option (Int × St) := gd (rng x5 ∧ rng x1) (if x1 < x5 then gd (rng x4) (if x4 = 0 then bv (x2 + 1) fun x2_12 => k21 σ x1 x2_12 else gd (inb (gF σ 55) 28) (bs (sA σ 18 (Int.toNat (gF σ 55)) ((10 * x1) + x2)) fun σ8 => gd (inb (gF σ8 55) 28) (bs (sA σ8 19 (Int.toNat (gF σ8 55)) x3) fun σ9 => bs (sF σ9 55 ((gF σ9 55) + 1)) fun σ10 => bv (x2 + 1) fun x2_11 => k21 σ10 x1 x2_11))) else bv (x5 + 1) fun x6_13 => l_M_findPoints_66 F k7 k21 self F σ x1 x2 x3 x4 x5 x6_13)
def l_M_findPoints_54 (F : Nat) (k7 : St → Int → Option (Int × St)) (k21 : St → Int → Int → Option (Int × St)) : Nat → St → Int → Int → Int → Int → Int → Option (Int × St)
  | 0 => fun _ _ _ _ _ _ => none
  | n + 1 => fun σ x1 x2 x3 x4 x5 => b_M_findPoints_54 F k7 k21 (l_M_findPoints_54 F k7 k21 n) σ x1 x2 x3 x4 x5
def b_M_findPoints_21 (F : Nat) (k7 : St → Int → Option (Int × St)) (self : St → Int → Int → Option (Int × St)) (σ : St) (x1 x2 : Int) : Option (Int × St) := gd (inb 4 82) (gd (rng x2 ∧ rng (gA σ 2 (Int.toNat 4))) (if (gA σ 2 (Int.toNat 4)) ≤ x2 then bv (x1 + 1) fun x1_3 => k7 σ x1_3 else bnd (f_M_crosses F σ x1 x2) fun r4 σ5 => gd (rng r4) (if r4 = 0 then bv (x2 + 1) fun x2_86 => self σ5 x1 x2_86 else bnd (f_M_throughSet F σ5) fun r6 σ7 => l_M_findPoints_54 F k7 self F σ7 x1 x2 r6 1 0)))
def l_M_findPoints_21 (F : Nat) (k7 : St → Int → Option (Int × St)) : Nat → St → Int → Int → Option (Int × St)
  | 0 => fun _ _ _ => none
  | n + 1 => fun σ x1 x2 => b_M_findPoints_21 F k7 (l_M_findPoints_21 F k7 n) σ x1 x2
def b_M_findPoints_7 (F : Nat) (self : St → Int → Option (Int × St)) (σ : St) (x1 : Int) : Option (Int × St) := gd (inb 4 82) (gd (rng x1 ∧ rng (gA σ 2 (Int.toNat 4))) (if (gA σ 2 (Int.toNat 4)) ≤ x1 then some (0, σ) else bv (x1 + 1) fun x2_2 => l_M_findPoints_21 F self F σ x1 x2_2))
def l_M_findPoints_7 (F : Nat) : Nat → St → Int → Option (Int × St)
  | 0 => fun _ _ => none
  | n + 1 => fun σ x1 => b_M_findPoints_7 F (l_M_findPoints_7 F n) σ x1
def f_M_findPoints (F : Nat) (σ : St) : Option (Int × St) := bs (sF σ 55 0) fun σ1 => l_M_findPoints_7 F F σ1 0
set_option maxRecDepth 100000 in
set_option maxHeartbeats 4000000 in
theorem cb_M_findPoints_66 {K : KX} (F : Nat) (k7 : St → Int → Option (Int × St)) (k21 : St → Int → Int → Option (Int × St)) (k54 : St → Int → Int → Int → Int → Int → Option (Int × St)) (h7 : ∀ σ x1, WA 4 0 0 cX11_findPoints RX11 14 none LYM LYM K 7 [some (.ref 0), some (vi x1), none, none, none, none, none, none, none, none, none, none, none, none] [] σ (k7 σ x1)) (h21 : ∀ σ x1 x2, WA 4 0 0 cX11_findPoints RX11 14 none LYM LYM K 21 [some (.ref 0), some (vi x1), some (vi x2), none, none, none, none, none, none, none, none, none, none, none] [] σ (k21 σ x1 x2)) (h54 : ∀ σ x1 x2 x3 x4 x5, WA 4 0 0 cX11_findPoints RX11 14 none LYM LYM K 54 [some (.ref 0), some (vi x1), some (vi x2), some (vi x3), some (vi x4), some (vi x5), none, none, none, none, none, none, none, none] [] σ (k54 σ x1 x2 x3 x4 x5)) (self : St → Int → Int → Int → Int → Int → Int → Option (Int × St)) (hself : ∀ σ x1 x2 x3 x4 x5 x6, WA 4 0 0 cX11_findPoints RX11 14 none LYM LYM K 66 [some (.ref 0), some (vi x1), some (vi x2), some (vi x3), some (vi x4), some (vi x5), some (vi x6), none, none, none, none, none, none, none] [] σ (self σ x1 x2 x3 x4 x5 x6)) (σ : St) (x1 x2 x3 x4 x5 x6 : Int) : WA 4 0 0 cX11_findPoints RX11 14 none LYM LYM K 66 [some (.ref 0), some (vi x1), some (vi x2), some (vi x3), some (vi x4), some (vi x5), some (vi x6), none, none, none, none, none, none, none] [] σ (b_M_findPoints_66 F k7 k21 k54 self σ x1 x2 x3 x4 x5 x6) := by
  unfold b_M_findPoints_66
  refine a_iload dX11_findPoints_66 rfl ?_
  refine a_iload dX11_findPoints_68 rfl ?_
  refine a_iload_n dX11_findPoints_70 rfl ?_
  refine a_icmp_ne dX11_findPoints_71 rfl (fun _ => ?_) (fun _ => ?_)
  · refine a_aload_n dX11_findPoints_78 rfl ?_
    refine a_getR (c0 := 2) fl_X11_33 lyM_0 rfl dX11_findPoints_79 (key := 6) rfl ?_
    refine a_iconst dX11_findPoints_82 ?_
    refine a_iald lyM_2 rfl dX11_findPoints_83 ?_
    refine a_icmp_ge dX11_findPoints_84 rfl (fun _ => ?_) (fun _ => ?_)
    · refine a_bv fun x5_14 ex5_14 => ?_
      refine a_iinc (y := x5_14) (L' := [some (.ref 0), some (vi x1), some (vi x2), some (vi x3), some (vi x4), some (vi x5_14), some (vi x6), none, none, none, none, none, none, none]) dX11_findPoints_221 rfl ex5_14 rfl rfl rfl ?_
      refine a_goto dX11_findPoints_224 rfl ?_
      exact a_L (lsub_get (A := [some (.ref 0), some (vi x1), some (vi x2), some (vi x3), some (vi x4), some (vi x5_14), none, none, none, none, none, none, none, none]) ⟨rfl, ⟨rfl, ⟨rfl, ⟨rfl, ⟨rfl, ⟨rfl, trivial⟩⟩⟩⟩⟩⟩) (h54 _ _ _ _ _ _)
    refine a_iload_n dX11_findPoints_87 rfl ?_
    refine a_iload dX11_findPoints_88 rfl ?_
    refine a_callSi (as := [vi x3, vi x5]) mf_X11_294 (c_M_has F _ _ _) LYsame.rf dX11_findPoints_90 rfl rfl rfl rfl rfl rfl (Or.inl rfl) fun r15 σ16 => ?_
    refine a_if_eq dX11_findPoints_93 rfl (fun _ => ?_) (fun _ => ?_)
    · refine a_bv fun x6_17 ex6_17 => ?_
      refine a_iinc (y := x6_17) (L' := [some (.ref 0), some (vi x1), some (vi x2), some (vi x3), some (vi x4), some (vi x5), some (vi x6_17), none, none, none, none, none, none, none]) dX11_findPoints_215 rfl ex6_17 rfl rfl rfl ?_
      refine a_goto dX11_findPoints_218 rfl ?_
      exact hself _ _ _ _ _ _ _
    refine a_iload_n dX11_findPoints_96 rfl ?_
    refine a_iload dX11_findPoints_97 rfl ?_
    refine a_callSi (as := [vi x3, vi x6]) mf_X11_294 (c_M_has F _ _ _) LYsame.rf dX11_findPoints_99 rfl rfl rfl rfl rfl rfl (Or.inl rfl) fun r18 σ19 => ?_
    refine a_if_ne dX11_findPoints_102 rfl (fun _ => ?_) (fun _ => ?_)
    · refine a_aload_n dX11_findPoints_108 rfl ?_
      refine a_getL fl_X11_396 lyM_0 rfl dX11_findPoints_109 (key := 48) rfl ?_
      refine a_bv fun x7_20 ex7_20 => ?_
      refine a_lstore (y := x7_20) (L' := [some (.ref 0), some (vi x1), some (vi x2), some (vi x3), some (vi x4), some (vi x5), some (vi x6), some (vl x7_20), none, none, none, none, none, none]) dX11_findPoints_112 ex7_20 rfl rfl rfl ?_
      refine a_aload_n dX11_findPoints_114 rfl ?_
      refine a_getL fl_X11_399 lyM_0 rfl dX11_findPoints_115 (key := 49) rfl ?_
      refine a_bv fun x9_21 ex9_21 => ?_
      refine a_lstore (y := x9_21) (L' := [some (.ref 0), some (vi x1), some (vi x2), some (vi x3), some (vi x4), some (vi x5), some (vi x6), some (vl x7_20), none, some (vl x9_21), none, none, none, none]) dX11_findPoints_118 ex9_21 rfl rfl rfl ?_
      refine a_aload_n dX11_findPoints_120 rfl ?_
      refine a_getL fl_X11_393 lyM_0 rfl dX11_findPoints_121 (key := 50) rfl ?_
      refine a_bv fun x11_22 ex11_22 => ?_
      refine a_lstore (y := x11_22) (L' := [some (.ref 0), some (vi x1), some (vi x2), some (vi x3), some (vi x4), some (vi x5), some (vi x6), some (vl x7_20), none, some (vl x9_21), none, some (vl x11_22), none, none]) dX11_findPoints_124 ex11_22 rfl rfl rfl ?_
      refine a_aload_n dX11_findPoints_126 rfl ?_
      refine a_iload dX11_findPoints_127 rfl ?_
      refine a_iload dX11_findPoints_129 rfl ?_
      refine a_callVi (as := [vi x5, vi x6]) mf_X11_408 lyM_0 rfl (c_M_crosses F _ _ _) LYsame.rf dX11_findPoints_131 rfl rfl rfl rfl rfl rfl (Or.inl rfl) fun r23 σ24 => ?_
      refine a_if_eq dX11_findPoints_134 rfl (fun _ => ?_) (fun _ => ?_)
      · refine a_iconst dX11_findPoints_177 ?_
        refine a_istore (L' := [some (.ref 0), some (vi x1), some (vi x2), some (vi x3), some (vi x4), some (vi x5), some (vi x6), some (vl x7_20), none, some (vl x9_21), none, some (vl x11_22), none, some (vi 0)]) dX11_findPoints_178 rfl rfl rfl rfl ?_
        refine a_aload_n dX11_findPoints_180 rfl ?_
        refine a_lload dX11_findPoints_181 rfl ?_
        refine a_putL fl_X11_396 cf_X11 rfl rfl lyM_0 rfl dX11_findPoints_183 (key := 48) rfl fun σ25 => ?_
        refine a_aload_n dX11_findPoints_186 rfl ?_
        refine a_lload dX11_findPoints_187 rfl ?_
        refine a_putL fl_X11_399 cf_X11 rfl rfl lyM_0 rfl dX11_findPoints_189 (key := 49) rfl fun σ26 => ?_
        refine a_aload_n dX11_findPoints_192 rfl ?_
        refine a_lload dX11_findPoints_193 rfl ?_
        refine a_putL fl_X11_393 cf_X11 rfl rfl lyM_0 rfl dX11_findPoints_195 (key := 50) rfl fun σ27 => ?_
        refine a_iload dX11_findPoints_198 rfl ?_
        refine a_if_eq dX11_findPoints_200 rfl (fun _ => ?_) (fun _ => ?_)
        · refine a_iconst dX11_findPoints_212 ?_
          refine a_istore (L' := [some (.ref 0), some (vi x1), some (vi x2), some (vi x3), some (vi 0), some (vi x5), some (vi x6), some (vl x7_20), none, some (vl x9_21), none, some (vl x11_22), none, some (vi 0)]) dX11_findPoints_213 rfl rfl rfl rfl ?_
          refine a_bv fun x6_28 ex6_28 => ?_
          refine a_iinc (y := x6_28) (L' := [some (.ref 0), some (vi x1), some (vi x2), some (vi x3), some (vi 0), some (vi x5), some (vi x6_28), some (vl x7_20), none, some (vl x9_21), none, some (vl x11_22), none, some (vi 0)]) dX11_findPoints_215 rfl ex6_28 rfl rfl rfl ?_
          refine a_goto dX11_findPoints_218 rfl ?_
          exact a_L (lsub_get (A := [some (.ref 0), some (vi x1), some (vi x2), some (vi x3), some (vi 0), some (vi x5), some (vi x6_28), none, none, none, none, none, none, none]) ⟨rfl, ⟨rfl, ⟨rfl, ⟨rfl, ⟨rfl, ⟨rfl, ⟨rfl, trivial⟩⟩⟩⟩⟩⟩⟩) (hself _ _ _ _ _ _ _)
        refine a_iload dX11_findPoints_203 rfl ?_
        refine a_if_ne dX11_findPoints_205 rfl (fun _ => ?_) (fun _ => ?_)
        · refine a_iconst dX11_findPoints_212 ?_
          refine a_istore (L' := [some (.ref 0), some (vi x1), some (vi x2), some (vi x3), some (vi 0), some (vi x5), some (vi x6), some (vl x7_20), none, some (vl x9_21), none, some (vl x11_22), none, some (vi 0)]) dX11_findPoints_213 rfl rfl rfl rfl ?_
          refine a_bv fun x6_29 ex6_29 => ?_
          refine a_iinc (y := x6_29) (L' := [some (.ref 0), some (vi x1), some (vi x2), some (vi x3), some (vi 0), some (vi x5), some (vi x6_29), some (vl x7_20), none, some (vl x9_21), none, some (vl x11_22), none, some (vi 0)]) dX11_findPoints_215 rfl ex6_29 rfl rfl rfl ?_
          refine a_goto dX11_findPoints_218 rfl ?_
          exact a_L (lsub_get (A := [some (.ref 0), some (vi x1), some (vi x2), some (vi x3), some (vi 0), some (vi x5), some (vi x6_29), none, none, none, none, none, none, none]) ⟨rfl, ⟨rfl, ⟨rfl, ⟨rfl, ⟨rfl, ⟨rfl, ⟨rfl, trivial⟩⟩⟩⟩⟩⟩⟩) (hself _ _ _ _ _ _ _)
        refine a_iconst dX11_findPoints_208 ?_
        refine a_goto dX11_findPoints_209 rfl ?_
        refine a_istore (L' := [some (.ref 0), some (vi x1), some (vi x2), some (vi x3), some (vi 1), some (vi x5), some (vi x6), some (vl x7_20), none, some (vl x9_21), none, some (vl x11_22), none, some (vi 0)]) dX11_findPoints_213 rfl rfl rfl rfl ?_
        refine a_bv fun x6_30 ex6_30 => ?_
        refine a_iinc (y := x6_30) (L' := [some (.ref 0), some (vi x1), some (vi x2), some (vi x3), some (vi 1), some (vi x5), some (vi x6_30), some (vl x7_20), none, some (vl x9_21), none, some (vl x11_22), none, some (vi 0)]) dX11_findPoints_215 rfl ex6_30 rfl rfl rfl ?_
        refine a_goto dX11_findPoints_218 rfl ?_
        exact a_L (lsub_get (A := [some (.ref 0), some (vi x1), some (vi x2), some (vi x3), some (vi 1), some (vi x5), some (vi x6_30), none, none, none, none, none, none, none]) ⟨rfl, ⟨rfl, ⟨rfl, ⟨rfl, ⟨rfl, ⟨rfl, ⟨rfl, trivial⟩⟩⟩⟩⟩⟩⟩) (hself _ _ _ _ _ _ _)
      refine a_aload_n dX11_findPoints_137 rfl ?_
      refine a_getL fl_X11_396 lyM_0 rfl dX11_findPoints_138 (key := 48) rfl ?_
      refine a_lload dX11_findPoints_141 rfl ?_
      refine a_lmul dX11_findPoints_143 ?_
      refine a_lload dX11_findPoints_144 rfl ?_
      refine a_aload_n dX11_findPoints_146 rfl ?_
      refine a_getL fl_X11_393 lyM_0 rfl dX11_findPoints_147 (key := 50) rfl ?_
      refine a_lmul dX11_findPoints_150 ?_
      refine a_lcmp_ne dX11_findPoints_151 dX11_findPoints_152 rfl (fun _ => ?_) (fun _ => ?_)
      · refine a_iconst dX11_findPoints_177 ?_
        refine a_istore (L' := [some (.ref 0), some (vi x1), some (vi x2), some (vi x3), some (vi x4), some (vi x5), some (vi x6), some (vl x7_20), none, some (vl x9_21), none, some (vl x11_22), none, some (vi 0)]) dX11_findPoints_178 rfl rfl rfl rfl ?_
        refine a_aload_n dX11_findPoints_180 rfl ?_
        refine a_lload dX11_findPoints_181 rfl ?_
        refine a_putL fl_X11_396 cf_X11 rfl rfl lyM_0 rfl dX11_findPoints_183 (key := 48) rfl fun σ31 => ?_
        refine a_aload_n dX11_findPoints_186 rfl ?_
        refine a_lload dX11_findPoints_187 rfl ?_
        refine a_putL fl_X11_399 cf_X11 rfl rfl lyM_0 rfl dX11_findPoints_189 (key := 49) rfl fun σ32 => ?_
        refine a_aload_n dX11_findPoints_192 rfl ?_
        refine a_lload dX11_findPoints_193 rfl ?_
        refine a_putL fl_X11_393 cf_X11 rfl rfl lyM_0 rfl dX11_findPoints_195 (key := 50) rfl fun σ33 => ?_
        refine a_iload dX11_findPoints_198 rfl ?_
        refine a_if_eq dX11_findPoints_200 rfl (fun _ => ?_) (fun _ => ?_)
        · refine a_iconst dX11_findPoints_212 ?_
          refine a_istore (L' := [some (.ref 0), some (vi x1), some (vi x2), some (vi x3), some (vi 0), some (vi x5), some (vi x6), some (vl x7_20), none, some (vl x9_21), none, some (vl x11_22), none, some (vi 0)]) dX11_findPoints_213 rfl rfl rfl rfl ?_
          refine a_bv fun x6_34 ex6_34 => ?_
          refine a_iinc (y := x6_34) (L' := [some (.ref 0), some (vi x1), some (vi x2), some (vi x3), some (vi 0), some (vi x5), some (vi x6_34), some (vl x7_20), none, some (vl x9_21), none, some (vl x11_22), none, some (vi 0)]) dX11_findPoints_215 rfl ex6_34 rfl rfl rfl ?_
          refine a_goto dX11_findPoints_218 rfl ?_
          exact a_L (lsub_get (A := [some (.ref 0), some (vi x1), some (vi x2), some (vi x3), some (vi 0), some (vi x5), some (vi x6_34), none, none, none, none, none, none, none]) ⟨rfl, ⟨rfl, ⟨rfl, ⟨rfl, ⟨rfl, ⟨rfl, ⟨rfl, trivial⟩⟩⟩⟩⟩⟩⟩) (hself _ _ _ _ _ _ _)
        refine a_iload dX11_findPoints_203 rfl ?_
        refine a_if_ne dX11_findPoints_205 rfl (fun _ => ?_) (fun _ => ?_)
        · refine a_iconst dX11_findPoints_212 ?_
          refine a_istore (L' := [some (.ref 0), some (vi x1), some (vi x2), some (vi x3), some (vi 0), some (vi x5), some (vi x6), some (vl x7_20), none, some (vl x9_21), none, some (vl x11_22), none, some (vi 0)]) dX11_findPoints_213 rfl rfl rfl rfl ?_
          refine a_bv fun x6_35 ex6_35 => ?_
          refine a_iinc (y := x6_35) (L' := [some (.ref 0), some (vi x1), some (vi x2), some (vi x3), some (vi 0), some (vi x5), some (vi x6_35), some (vl x7_20), none, some (vl x9_21), none, some (vl x11_22), none, some (vi 0)]) dX11_findPoints_215 rfl ex6_35 rfl rfl rfl ?_
          refine a_goto dX11_findPoints_218 rfl ?_
          exact a_L (lsub_get (A := [some (.ref 0), some (vi x1), some (vi x2), some (vi x3), some (vi 0), some (vi x5), some (vi x6_35), none, none, none, none, none, none, none]) ⟨rfl, ⟨rfl, ⟨rfl, ⟨rfl, ⟨rfl, ⟨rfl, ⟨rfl, trivial⟩⟩⟩⟩⟩⟩⟩) (hself _ _ _ _ _ _ _)
        refine a_iconst dX11_findPoints_208 ?_
        refine a_goto dX11_findPoints_209 rfl ?_
        refine a_istore (L' := [some (.ref 0), some (vi x1), some (vi x2), some (vi x3), some (vi 1), some (vi x5), some (vi x6), some (vl x7_20), none, some (vl x9_21), none, some (vl x11_22), none, some (vi 0)]) dX11_findPoints_213 rfl rfl rfl rfl ?_
        refine a_bv fun x6_36 ex6_36 => ?_
        refine a_iinc (y := x6_36) (L' := [some (.ref 0), some (vi x1), some (vi x2), some (vi x3), some (vi 1), some (vi x5), some (vi x6_36), some (vl x7_20), none, some (vl x9_21), none, some (vl x11_22), none, some (vi 0)]) dX11_findPoints_215 rfl ex6_36 rfl rfl rfl ?_
        refine a_goto dX11_findPoints_218 rfl ?_
        exact a_L (lsub_get (A := [some (.ref 0), some (vi x1), some (vi x2), some (vi x3), some (vi 1), some (vi x5), some (vi x6_36), none, none, none, none, none, none, none]) ⟨rfl, ⟨rfl, ⟨rfl, ⟨rfl, ⟨rfl, ⟨rfl, ⟨rfl, trivial⟩⟩⟩⟩⟩⟩⟩) (hself _ _ _ _ _ _ _)
      refine a_aload_n dX11_findPoints_155 rfl ?_
      refine a_getL fl_X11_399 lyM_0 rfl dX11_findPoints_156 (key := 49) rfl ?_
      refine a_lload dX11_findPoints_159 rfl ?_
      refine a_lmul dX11_findPoints_161 ?_
      refine a_lload dX11_findPoints_162 rfl ?_
      refine a_aload_n dX11_findPoints_164 rfl ?_
      refine a_getL fl_X11_393 lyM_0 rfl dX11_findPoints_165 (key := 50) rfl ?_
      refine a_lmul dX11_findPoints_168 ?_
      refine a_lcmp_ne dX11_findPoints_169 dX11_findPoints_170 rfl (fun _ => ?_) (fun _ => ?_)
      · refine a_iconst dX11_findPoints_177 ?_
        refine a_istore (L' := [some (.ref 0), some (vi x1), some (vi x2), some (vi x3), some (vi x4), some (vi x5), some (vi x6), some (vl x7_20), none, some (vl x9_21), none, some (vl x11_22), none, some (vi 0)]) dX11_findPoints_178 rfl rfl rfl rfl ?_
        refine a_aload_n dX11_findPoints_180 rfl ?_
        refine a_lload dX11_findPoints_181 rfl ?_
        refine a_putL fl_X11_396 cf_X11 rfl rfl lyM_0 rfl dX11_findPoints_183 (key := 48) rfl fun σ37 => ?_
        refine a_aload_n dX11_findPoints_186 rfl ?_
        refine a_lload dX11_findPoints_187 rfl ?_
        refine a_putL fl_X11_399 cf_X11 rfl rfl lyM_0 rfl dX11_findPoints_189 (key := 49) rfl fun σ38 => ?_
        refine a_aload_n dX11_findPoints_192 rfl ?_
        refine a_lload dX11_findPoints_193 rfl ?_
        refine a_putL fl_X11_393 cf_X11 rfl rfl lyM_0 rfl dX11_findPoints_195 (key := 50) rfl fun σ39 => ?_
        refine a_iload dX11_findPoints_198 rfl ?_
        refine a_if_eq dX11_findPoints_200 rfl (fun _ => ?_) (fun _ => ?_)
        · refine a_iconst dX11_findPoints_212 ?_
          refine a_istore (L' := [some (.ref 0), some (vi x1), some (vi x2), some (vi x3), some (vi 0), some (vi x5), some (vi x6), some (vl x7_20), none, some (vl x9_21), none, some (vl x11_22), none, some (vi 0)]) dX11_findPoints_213 rfl rfl rfl rfl ?_
          refine a_bv fun x6_40 ex6_40 => ?_
          refine a_iinc (y := x6_40) (L' := [some (.ref 0), some (vi x1), some (vi x2), some (vi x3), some (vi 0), some (vi x5), some (vi x6_40), some (vl x7_20), none, some (vl x9_21), none, some (vl x11_22), none, some (vi 0)]) dX11_findPoints_215 rfl ex6_40 rfl rfl rfl ?_
          refine a_goto dX11_findPoints_218 rfl ?_
          exact a_L (lsub_get (A := [some (.ref 0), some (vi x1), some (vi x2), some (vi x3), some (vi 0), some (vi x5), some (vi x6_40), none, none, none, none, none, none, none]) ⟨rfl, ⟨rfl, ⟨rfl, ⟨rfl, ⟨rfl, ⟨rfl, ⟨rfl, trivial⟩⟩⟩⟩⟩⟩⟩) (hself _ _ _ _ _ _ _)
        refine a_iload dX11_findPoints_203 rfl ?_
        refine a_if_ne dX11_findPoints_205 rfl (fun _ => ?_) (fun _ => ?_)
        · refine a_iconst dX11_findPoints_212 ?_
          refine a_istore (L' := [some (.ref 0), some (vi x1), some (vi x2), some (vi x3), some (vi 0), some (vi x5), some (vi x6), some (vl x7_20), none, some (vl x9_21), none, some (vl x11_22), none, some (vi 0)]) dX11_findPoints_213 rfl rfl rfl rfl ?_
          refine a_bv fun x6_41 ex6_41 => ?_
          refine a_iinc (y := x6_41) (L' := [some (.ref 0), some (vi x1), some (vi x2), some (vi x3), some (vi 0), some (vi x5), some (vi x6_41), some (vl x7_20), none, some (vl x9_21), none, some (vl x11_22), none, some (vi 0)]) dX11_findPoints_215 rfl ex6_41 rfl rfl rfl ?_
          refine a_goto dX11_findPoints_218 rfl ?_
          exact a_L (lsub_get (A := [some (.ref 0), some (vi x1), some (vi x2), some (vi x3), some (vi 0), some (vi x5), some (vi x6_41), none, none, none, none, none, none, none]) ⟨rfl, ⟨rfl, ⟨rfl, ⟨rfl, ⟨rfl, ⟨rfl, ⟨rfl, trivial⟩⟩⟩⟩⟩⟩⟩) (hself _ _ _ _ _ _ _)
        refine a_iconst dX11_findPoints_208 ?_
        refine a_goto dX11_findPoints_209 rfl ?_
        refine a_istore (L' := [some (.ref 0), some (vi x1), some (vi x2), some (vi x3), some (vi 1), some (vi x5), some (vi x6), some (vl x7_20), none, some (vl x9_21), none, some (vl x11_22), none, some (vi 0)]) dX11_findPoints_213 rfl rfl rfl rfl ?_
        refine a_bv fun x6_42 ex6_42 => ?_
        refine a_iinc (y := x6_42) (L' := [some (.ref 0), some (vi x1), some (vi x2), some (vi x3), some (vi 1), some (vi x5), some (vi x6_42), some (vl x7_20), none, some (vl x9_21), none, some (vl x11_22), none, some (vi 0)]) dX11_findPoints_215 rfl ex6_42 rfl rfl rfl ?_
        refine a_goto dX11_findPoints_218 rfl ?_
        exact a_L (lsub_get (A := [some (.ref 0), some (vi x1), some (vi x2), some (vi x3), some (vi 1), some (vi x5), some (vi x6_42), none, none, none, none, none, none, none]) ⟨rfl, ⟨rfl, ⟨rfl, ⟨rfl, ⟨rfl, ⟨rfl, ⟨rfl, trivial⟩⟩⟩⟩⟩⟩⟩) (hself _ _ _ _ _ _ _)
      refine a_iconst dX11_findPoints_173 ?_
      refine a_goto dX11_findPoints_174 rfl ?_
      refine a_istore (L' := [some (.ref 0), some (vi x1), some (vi x2), some (vi x3), some (vi x4), some (vi x5), some (vi x6), some (vl x7_20), none, some (vl x9_21), none, some (vl x11_22), none, some (vi 1)]) dX11_findPoints_178 rfl rfl rfl rfl ?_
      refine a_aload_n dX11_findPoints_180 rfl ?_
      refine a_lload dX11_findPoints_181 rfl ?_
      refine a_putL fl_X11_396 cf_X11 rfl rfl lyM_0 rfl dX11_findPoints_183 (key := 48) rfl fun σ43 => ?_
      refine a_aload_n dX11_findPoints_186 rfl ?_
      refine a_lload dX11_findPoints_187 rfl ?_
      refine a_putL fl_X11_399 cf_X11 rfl rfl lyM_0 rfl dX11_findPoints_189 (key := 49) rfl fun σ44 => ?_
      refine a_aload_n dX11_findPoints_192 rfl ?_
      refine a_lload dX11_findPoints_193 rfl ?_
      refine a_putL fl_X11_393 cf_X11 rfl rfl lyM_0 rfl dX11_findPoints_195 (key := 50) rfl fun σ45 => ?_
      refine a_iload dX11_findPoints_198 rfl ?_
      refine a_if_eq dX11_findPoints_200 rfl (fun _ => ?_) (fun _ => ?_)
      · refine a_iconst dX11_findPoints_212 ?_
        refine a_istore (L' := [some (.ref 0), some (vi x1), some (vi x2), some (vi x3), some (vi 0), some (vi x5), some (vi x6), some (vl x7_20), none, some (vl x9_21), none, some (vl x11_22), none, some (vi 1)]) dX11_findPoints_213 rfl rfl rfl rfl ?_
        refine a_bv fun x6_46 ex6_46 => ?_
        refine a_iinc (y := x6_46) (L' := [some (.ref 0), some (vi x1), some (vi x2), some (vi x3), some (vi 0), some (vi x5), some (vi x6_46), some (vl x7_20), none, some (vl x9_21), none, some (vl x11_22), none, some (vi 1)]) dX11_findPoints_215 rfl ex6_46 rfl rfl rfl ?_
        refine a_goto dX11_findPoints_218 rfl ?_
        exact a_L (lsub_get (A := [some (.ref 0), some (vi x1), some (vi x2), some (vi x3), some (vi 0), some (vi x5), some (vi x6_46), none, none, none, none, none, none, none]) ⟨rfl, ⟨rfl, ⟨rfl, ⟨rfl, ⟨rfl, ⟨rfl, ⟨rfl, trivial⟩⟩⟩⟩⟩⟩⟩) (hself _ _ _ _ _ _ _)
      refine a_iload dX11_findPoints_203 rfl ?_
      refine a_if_ne dX11_findPoints_205 rfl (fun _ => ?_) (fun _ => ?_)
      · refine a_iconst dX11_findPoints_212 ?_
        refine a_istore (L' := [some (.ref 0), some (vi x1), some (vi x2), some (vi x3), some (vi 0), some (vi x5), some (vi x6), some (vl x7_20), none, some (vl x9_21), none, some (vl x11_22), none, some (vi 1)]) dX11_findPoints_213 rfl rfl rfl rfl ?_
        refine a_bv fun x6_47 ex6_47 => ?_
        refine a_iinc (y := x6_47) (L' := [some (.ref 0), some (vi x1), some (vi x2), some (vi x3), some (vi 0), some (vi x5), some (vi x6_47), some (vl x7_20), none, some (vl x9_21), none, some (vl x11_22), none, some (vi 1)]) dX11_findPoints_215 rfl ex6_47 rfl rfl rfl ?_
        refine a_goto dX11_findPoints_218 rfl ?_
        exact a_L (lsub_get (A := [some (.ref 0), some (vi x1), some (vi x2), some (vi x3), some (vi 0), some (vi x5), some (vi x6_47), none, none, none, none, none, none, none]) ⟨rfl, ⟨rfl, ⟨rfl, ⟨rfl, ⟨rfl, ⟨rfl, ⟨rfl, trivial⟩⟩⟩⟩⟩⟩⟩) (hself _ _ _ _ _ _ _)
      refine a_iconst dX11_findPoints_208 ?_
      refine a_goto dX11_findPoints_209 rfl ?_
      refine a_istore (L' := [some (.ref 0), some (vi x1), some (vi x2), some (vi x3), some (vi 1), some (vi x5), some (vi x6), some (vl x7_20), none, some (vl x9_21), none, some (vl x11_22), none, some (vi 1)]) dX11_findPoints_213 rfl rfl rfl rfl ?_
      refine a_bv fun x6_48 ex6_48 => ?_
      refine a_iinc (y := x6_48) (L' := [some (.ref 0), some (vi x1), some (vi x2), some (vi x3), some (vi 1), some (vi x5), some (vi x6_48), some (vl x7_20), none, some (vl x9_21), none, some (vl x11_22), none, some (vi 1)]) dX11_findPoints_215 rfl ex6_48 rfl rfl rfl ?_
      refine a_goto dX11_findPoints_218 rfl ?_
      exact a_L (lsub_get (A := [some (.ref 0), some (vi x1), some (vi x2), some (vi x3), some (vi 1), some (vi x5), some (vi x6_48), none, none, none, none, none, none, none]) ⟨rfl, ⟨rfl, ⟨rfl, ⟨rfl, ⟨rfl, ⟨rfl, ⟨rfl, trivial⟩⟩⟩⟩⟩⟩⟩) (hself _ _ _ _ _ _ _)
    refine a_goto dX11_findPoints_105 rfl ?_
    refine a_bv fun x6_49 ex6_49 => ?_
    refine a_iinc (y := x6_49) (L' := [some (.ref 0), some (vi x1), some (vi x2), some (vi x3), some (vi x4), some (vi x5), some (vi x6_49), none, none, none, none, none, none, none]) dX11_findPoints_215 rfl ex6_49 rfl rfl rfl ?_
    refine a_goto dX11_findPoints_218 rfl ?_
    exact hself _ _ _ _ _ _ _
  refine a_iload_n dX11_findPoints_74 rfl ?_
  refine a_goto dX11_findPoints_75 rfl ?_
  refine a_icmp_ge dX11_findPoints_84 rfl (fun _ => ?_) (fun _ => ?_)
  · refine a_bv fun x5_50 ex5_50 => ?_
    refine a_iinc (y := x5_50) (L' := [some (.ref 0), some (vi x1), some (vi x2), some (vi x3), some (vi x4), some (vi x5_50), some (vi x6), none, none, none, none, none, none, none]) dX11_findPoints_221 rfl ex5_50 rfl rfl rfl ?_
    refine a_goto dX11_findPoints_224 rfl ?_
    exact a_L (lsub_get (A := [some (.ref 0), some (vi x1), some (vi x2), some (vi x3), some (vi x4), some (vi x5_50), none, none, none, none, none, none, none, none]) ⟨rfl, ⟨rfl, ⟨rfl, ⟨rfl, ⟨rfl, ⟨rfl, trivial⟩⟩⟩⟩⟩⟩) (h54 _ _ _ _ _ _)
  refine a_iload_n dX11_findPoints_87 rfl ?_
  refine a_iload dX11_findPoints_88 rfl ?_
  refine a_callSi (as := [vi x3, vi x5]) mf_X11_294 (c_M_has F _ _ _) LYsame.rf dX11_findPoints_90 rfl rfl rfl rfl rfl rfl (Or.inl rfl) fun r51 σ52 => ?_
  refine a_if_eq dX11_findPoints_93 rfl (fun _ => ?_) (fun _ => ?_)
  · refine a_bv fun x6_53 ex6_53 => ?_
    refine a_iinc (y := x6_53) (L' := [some (.ref 0), some (vi x1), some (vi x2), some (vi x3), some (vi x4), some (vi x5), some (vi x6_53), none, none, none, none, none, none, none]) dX11_findPoints_215 rfl ex6_53 rfl rfl rfl ?_
    refine a_goto dX11_findPoints_218 rfl ?_
    exact hself _ _ _ _ _ _ _
  refine a_iload_n dX11_findPoints_96 rfl ?_
  refine a_iload dX11_findPoints_97 rfl ?_
  refine a_callSi (as := [vi x3, vi x6]) mf_X11_294 (c_M_has F _ _ _) LYsame.rf dX11_findPoints_99 rfl rfl rfl rfl rfl rfl (Or.inl rfl) fun r54 σ55 => ?_
  refine a_if_ne dX11_findPoints_102 rfl (fun _ => ?_) (fun _ => ?_)
  · refine a_aload_n dX11_findPoints_108 rfl ?_
    refine a_getL fl_X11_396 lyM_0 rfl dX11_findPoints_109 (key := 48) rfl ?_
    refine a_bv fun x7_56 ex7_56 => ?_
    refine a_lstore (y := x7_56) (L' := [some (.ref 0), some (vi x1), some (vi x2), some (vi x3), some (vi x4), some (vi x5), some (vi x6), some (vl x7_56), none, none, none, none, none, none]) dX11_findPoints_112 ex7_56 rfl rfl rfl ?_
    refine a_aload_n dX11_findPoints_114 rfl ?_
    refine a_getL fl_X11_399 lyM_0 rfl dX11_findPoints_115 (key := 49) rfl ?_
    refine a_bv fun x9_57 ex9_57 => ?_
    refine a_lstore (y := x9_57) (L' := [some (.ref 0), some (vi x1), some (vi x2), some (vi x3), some (vi x4), some (vi x5), some (vi x6), some (vl x7_56), none, some (vl x9_57), none, none, none, none]) dX11_findPoints_118 ex9_57 rfl rfl rfl ?_
    refine a_aload_n dX11_findPoints_120 rfl ?_
    refine a_getL fl_X11_393 lyM_0 rfl dX11_findPoints_121 (key := 50) rfl ?_
    refine a_bv fun x11_58 ex11_58 => ?_
    refine a_lstore (y := x11_58) (L' := [some (.ref 0), some (vi x1), some (vi x2), some (vi x3), some (vi x4), some (vi x5), some (vi x6), some (vl x7_56), none, some (vl x9_57), none, some (vl x11_58), none, none]) dX11_findPoints_124 ex11_58 rfl rfl rfl ?_
    refine a_aload_n dX11_findPoints_126 rfl ?_
    refine a_iload dX11_findPoints_127 rfl ?_
    refine a_iload dX11_findPoints_129 rfl ?_
    refine a_callVi (as := [vi x5, vi x6]) mf_X11_408 lyM_0 rfl (c_M_crosses F _ _ _) LYsame.rf dX11_findPoints_131 rfl rfl rfl rfl rfl rfl (Or.inl rfl) fun r59 σ60 => ?_
    refine a_if_eq dX11_findPoints_134 rfl (fun _ => ?_) (fun _ => ?_)
    · refine a_iconst dX11_findPoints_177 ?_
      refine a_istore (L' := [some (.ref 0), some (vi x1), some (vi x2), some (vi x3), some (vi x4), some (vi x5), some (vi x6), some (vl x7_56), none, some (vl x9_57), none, some (vl x11_58), none, some (vi 0)]) dX11_findPoints_178 rfl rfl rfl rfl ?_
      refine a_aload_n dX11_findPoints_180 rfl ?_
      refine a_lload dX11_findPoints_181 rfl ?_
      refine a_putL fl_X11_396 cf_X11 rfl rfl lyM_0 rfl dX11_findPoints_183 (key := 48) rfl fun σ61 => ?_
      refine a_aload_n dX11_findPoints_186 rfl ?_
      refine a_lload dX11_findPoints_187 rfl ?_
      refine a_putL fl_X11_399 cf_X11 rfl rfl lyM_0 rfl dX11_findPoints_189 (key := 49) rfl fun σ62 => ?_
      refine a_aload_n dX11_findPoints_192 rfl ?_
      refine a_lload dX11_findPoints_193 rfl ?_
      refine a_putL fl_X11_393 cf_X11 rfl rfl lyM_0 rfl dX11_findPoints_195 (key := 50) rfl fun σ63 => ?_
      refine a_iload dX11_findPoints_198 rfl ?_
      refine a_if_eq dX11_findPoints_200 rfl (fun _ => ?_) (fun _ => ?_)
      · refine a_iconst dX11_findPoints_212 ?_
        refine a_istore (L' := [some (.ref 0), some (vi x1), some (vi x2), some (vi x3), some (vi 0), some (vi x5), some (vi x6), some (vl x7_56), none, some (vl x9_57), none, some (vl x11_58), none, some (vi 0)]) dX11_findPoints_213 rfl rfl rfl rfl ?_
        refine a_bv fun x6_64 ex6_64 => ?_
        refine a_iinc (y := x6_64) (L' := [some (.ref 0), some (vi x1), some (vi x2), some (vi x3), some (vi 0), some (vi x5), some (vi x6_64), some (vl x7_56), none, some (vl x9_57), none, some (vl x11_58), none, some (vi 0)]) dX11_findPoints_215 rfl ex6_64 rfl rfl rfl ?_
        refine a_goto dX11_findPoints_218 rfl ?_
        exact a_L (lsub_get (A := [some (.ref 0), some (vi x1), some (vi x2), some (vi x3), some (vi 0), some (vi x5), some (vi x6_64), none, none, none, none, none, none, none]) ⟨rfl, ⟨rfl, ⟨rfl, ⟨rfl, ⟨rfl, ⟨rfl, ⟨rfl, trivial⟩⟩⟩⟩⟩⟩⟩) (hself _ _ _ _ _ _ _)
      refine a_iload dX11_findPoints_203 rfl ?_
      refine a_if_ne dX11_findPoints_205 rfl (fun _ => ?_) (fun _ => ?_)
      · refine a_iconst dX11_findPoints_212 ?_
        refine a_istore (L' := [some (.ref 0), some (vi x1), some (vi x2), some (vi x3), some (vi 0), some (vi x5), some (vi x6), some (vl x7_56), none, some (vl x9_57), none, some (vl x11_58), none, some (vi 0)]) dX11_findPoints_213 rfl rfl rfl rfl ?_
        refine a_bv fun x6_65 ex6_65 => ?_
        refine a_iinc (y := x6_65) (L' := [some (.ref 0), some (vi x1), some (vi x2), some (vi x3), some (vi 0), some (vi x5), some (vi x6_65), some (vl x7_56), none, some (vl x9_57), none, some (vl x11_58), none, some (vi 0)]) dX11_findPoints_215 rfl ex6_65 rfl rfl rfl ?_
        refine a_goto dX11_findPoints_218 rfl ?_
        exact a_L (lsub_get (A := [some (.ref 0), some (vi x1), some (vi x2), some (vi x3), some (vi 0), some (vi x5), some (vi x6_65), none, none, none, none, none, none, none]) ⟨rfl, ⟨rfl, ⟨rfl, ⟨rfl, ⟨rfl, ⟨rfl, ⟨rfl, trivial⟩⟩⟩⟩⟩⟩⟩) (hself _ _ _ _ _ _ _)
      refine a_iconst dX11_findPoints_208 ?_
      refine a_goto dX11_findPoints_209 rfl ?_
      refine a_istore (L' := [some (.ref 0), some (vi x1), some (vi x2), some (vi x3), some (vi 1), some (vi x5), some (vi x6), some (vl x7_56), none, some (vl x9_57), none, some (vl x11_58), none, some (vi 0)]) dX11_findPoints_213 rfl rfl rfl rfl ?_
      refine a_bv fun x6_66 ex6_66 => ?_
      refine a_iinc (y := x6_66) (L' := [some (.ref 0), some (vi x1), some (vi x2), some (vi x3), some (vi 1), some (vi x5), some (vi x6_66), some (vl x7_56), none, some (vl x9_57), none, some (vl x11_58), none, some (vi 0)]) dX11_findPoints_215 rfl ex6_66 rfl rfl rfl ?_
      refine a_goto dX11_findPoints_218 rfl ?_
      exact a_L (lsub_get (A := [some (.ref 0), some (vi x1), some (vi x2), some (vi x3), some (vi 1), some (vi x5), some (vi x6_66), none, none, none, none, none, none, none]) ⟨rfl, ⟨rfl, ⟨rfl, ⟨rfl, ⟨rfl, ⟨rfl, ⟨rfl, trivial⟩⟩⟩⟩⟩⟩⟩) (hself _ _ _ _ _ _ _)
    refine a_aload_n dX11_findPoints_137 rfl ?_
    refine a_getL fl_X11_396 lyM_0 rfl dX11_findPoints_138 (key := 48) rfl ?_
    refine a_lload dX11_findPoints_141 rfl ?_
    refine a_lmul dX11_findPoints_143 ?_
    refine a_lload dX11_findPoints_144 rfl ?_
    refine a_aload_n dX11_findPoints_146 rfl ?_
    refine a_getL fl_X11_393 lyM_0 rfl dX11_findPoints_147 (key := 50) rfl ?_
    refine a_lmul dX11_findPoints_150 ?_
    refine a_lcmp_ne dX11_findPoints_151 dX11_findPoints_152 rfl (fun _ => ?_) (fun _ => ?_)
    · refine a_iconst dX11_findPoints_177 ?_
      refine a_istore (L' := [some (.ref 0), some (vi x1), some (vi x2), some (vi x3), some (vi x4), some (vi x5), some (vi x6), some (vl x7_56), none, some (vl x9_57), none, some (vl x11_58), none, some (vi 0)]) dX11_findPoints_178 rfl rfl rfl rfl ?_
      refine a_aload_n dX11_findPoints_180 rfl ?_
      refine a_lload dX11_findPoints_181 rfl ?_
      refine a_putL fl_X11_396 cf_X11 rfl rfl lyM_0 rfl dX11_findPoints_183 (key := 48) rfl fun σ67 => ?_
      refine a_aload_n dX11_findPoints_186 rfl ?_
      refine a_lload dX11_findPoints_187 rfl ?_
      refine a_putL fl_X11_399 cf_X11 rfl rfl lyM_0 rfl dX11_findPoints_189 (key := 49) rfl fun σ68 => ?_
      refine a_aload_n dX11_findPoints_192 rfl ?_
      refine a_lload dX11_findPoints_193 rfl ?_
      refine a_putL fl_X11_393 cf_X11 rfl rfl lyM_0 rfl dX11_findPoints_195 (key := 50) rfl fun σ69 => ?_
      refine a_iload dX11_findPoints_198 rfl ?_
      refine a_if_eq dX11_findPoints_200 rfl (fun _ => ?_) (fun _ => ?_)
      · refine a_iconst dX11_findPoints_212 ?_
        refine a_istore (L' := [some (.ref 0), some (vi x1), some (vi x2), some (vi x3), some (vi 0), some (vi x5), some (vi x6), some (vl x7_56), none, some (vl x9_57), none, some (vl x11_58), none, some (vi 0)]) dX11_findPoints_213 rfl rfl rfl rfl ?_
        refine a_bv fun x6_70 ex6_70 => ?_
        refine a_iinc (y := x6_70) (L' := [some (.ref 0), some (vi x1), some (vi x2), some (vi x3), some (vi 0), some (vi x5), some (vi x6_70), some (vl x7_56), none, some (vl x9_57), none, some (vl x11_58), none, some (vi 0)]) dX11_findPoints_215 rfl ex6_70 rfl rfl rfl ?_
        refine a_goto dX11_findPoints_218 rfl ?_
        exact a_L (lsub_get (A := [some (.ref 0), some (vi x1), some (vi x2), some (vi x3), some (vi 0), some (vi x5), some (vi x6_70), none, none, none, none, none, none, none]) ⟨rfl, ⟨rfl, ⟨rfl, ⟨rfl, ⟨rfl, ⟨rfl, ⟨rfl, trivial⟩⟩⟩⟩⟩⟩⟩) (hself _ _ _ _ _ _ _)
      refine a_iload dX11_findPoints_203 rfl ?_
      refine a_if_ne dX11_findPoints_205 rfl (fun _ => ?_) (fun _ => ?_)
      · refine a_iconst dX11_findPoints_212 ?_
        refine a_istore (L' := [some (.ref 0), some (vi x1), some (vi x2), some (vi x3), some (vi 0), some (vi x5), some (vi x6), some (vl x7_56), none, some (vl x9_57), none, some (vl x11_58), none, some (vi 0)]) dX11_findPoints_213 rfl rfl rfl rfl ?_
        refine a_bv fun x6_71 ex6_71 => ?_
        refine a_iinc (y := x6_71) (L' := [some (.ref 0), some (vi x1), some (vi x2), some (vi x3), some (vi 0), some (vi x5), some (vi x6_71), some (vl x7_56), none, some (vl x9_57), none, some (vl x11_58), none, some (vi 0)]) dX11_findPoints_215 rfl ex6_71 rfl rfl rfl ?_
        refine a_goto dX11_findPoints_218 rfl ?_
        exact a_L (lsub_get (A := [some (.ref 0), some (vi x1), some (vi x2), some (vi x3), some (vi 0), some (vi x5), some (vi x6_71), none, none, none, none, none, none, none]) ⟨rfl, ⟨rfl, ⟨rfl, ⟨rfl, ⟨rfl, ⟨rfl, ⟨rfl, trivial⟩⟩⟩⟩⟩⟩⟩) (hself _ _ _ _ _ _ _)
      refine a_iconst dX11_findPoints_208 ?_
      refine a_goto dX11_findPoints_209 rfl ?_
      refine a_istore (L' := [some (.ref 0), some (vi x1), some (vi x2), some (vi x3), some (vi 1), some (vi x5), some (vi x6), some (vl x7_56), none, some (vl x9_57), none, some (vl x11_58), none, some (vi 0)]) dX11_findPoints_213 rfl rfl rfl rfl ?_
      refine a_bv fun x6_72 ex6_72 => ?_
      refine a_iinc (y := x6_72) (L' := [some (.ref 0), some (vi x1), some (vi x2), some (vi x3), some (vi 1), some (vi x5), some (vi x6_72), some (vl x7_56), none, some (vl x9_57), none, some (vl x11_58), none, some (vi 0)]) dX11_findPoints_215 rfl ex6_72 rfl rfl rfl ?_
      refine a_goto dX11_findPoints_218 rfl ?_
      exact a_L (lsub_get (A := [some (.ref 0), some (vi x1), some (vi x2), some (vi x3), some (vi 1), some (vi x5), some (vi x6_72), none, none, none, none, none, none, none]) ⟨rfl, ⟨rfl, ⟨rfl, ⟨rfl, ⟨rfl, ⟨rfl, ⟨rfl, trivial⟩⟩⟩⟩⟩⟩⟩) (hself _ _ _ _ _ _ _)
    refine a_aload_n dX11_findPoints_155 rfl ?_
    refine a_getL fl_X11_399 lyM_0 rfl dX11_findPoints_156 (key := 49) rfl ?_
    refine a_lload dX11_findPoints_159 rfl ?_
    refine a_lmul dX11_findPoints_161 ?_
    refine a_lload dX11_findPoints_162 rfl ?_
    refine a_aload_n dX11_findPoints_164 rfl ?_
    refine a_getL fl_X11_393 lyM_0 rfl dX11_findPoints_165 (key := 50) rfl ?_
    refine a_lmul dX11_findPoints_168 ?_
    refine a_lcmp_ne dX11_findPoints_169 dX11_findPoints_170 rfl (fun _ => ?_) (fun _ => ?_)
    · refine a_iconst dX11_findPoints_177 ?_
      refine a_istore (L' := [some (.ref 0), some (vi x1), some (vi x2), some (vi x3), some (vi x4), some (vi x5), some (vi x6), some (vl x7_56), none, some (vl x9_57), none, some (vl x11_58), none, some (vi 0)]) dX11_findPoints_178 rfl rfl rfl rfl ?_
      refine a_aload_n dX11_findPoints_180 rfl ?_
      refine a_lload dX11_findPoints_181 rfl ?_
      refine a_putL fl_X11_396 cf_X11 rfl rfl lyM_0 rfl dX11_findPoints_183 (key := 48) rfl fun σ73 => ?_
      refine a_aload_n dX11_findPoints_186 rfl ?_
      refine a_lload dX11_findPoints_187 rfl ?_
      refine a_putL fl_X11_399 cf_X11 rfl rfl lyM_0 rfl dX11_findPoints_189 (key := 49) rfl fun σ74 => ?_
      refine a_aload_n dX11_findPoints_192 rfl ?_
      refine a_lload dX11_findPoints_193 rfl ?_
      refine a_putL fl_X11_393 cf_X11 rfl rfl lyM_0 rfl dX11_findPoints_195 (key := 50) rfl fun σ75 => ?_
      refine a_iload dX11_findPoints_198 rfl ?_
      refine a_if_eq dX11_findPoints_200 rfl (fun _ => ?_) (fun _ => ?_)
      · refine a_iconst dX11_findPoints_212 ?_
        refine a_istore (L' := [some (.ref 0), some (vi x1), some (vi x2), some (vi x3), some (vi 0), some (vi x5), some (vi x6), some (vl x7_56), none, some (vl x9_57), none, some (vl x11_58), none, some (vi 0)]) dX11_findPoints_213 rfl rfl rfl rfl ?_
        refine a_bv fun x6_76 ex6_76 => ?_
        refine a_iinc (y := x6_76) (L' := [some (.ref 0), some (vi x1), some (vi x2), some (vi x3), some (vi 0), some (vi x5), some (vi x6_76), some (vl x7_56), none, some (vl x9_57), none, some (vl x11_58), none, some (vi 0)]) dX11_findPoints_215 rfl ex6_76 rfl rfl rfl ?_
        refine a_goto dX11_findPoints_218 rfl ?_
        exact a_L (lsub_get (A := [some (.ref 0), some (vi x1), some (vi x2), some (vi x3), some (vi 0), some (vi x5), some (vi x6_76), none, none, none, none, none, none, none]) ⟨rfl, ⟨rfl, ⟨rfl, ⟨rfl, ⟨rfl, ⟨rfl, ⟨rfl, trivial⟩⟩⟩⟩⟩⟩⟩) (hself _ _ _ _ _ _ _)
      refine a_iload dX11_findPoints_203 rfl ?_
      refine a_if_ne dX11_findPoints_205 rfl (fun _ => ?_) (fun _ => ?_)
      · refine a_iconst dX11_findPoints_212 ?_
        refine a_istore (L' := [some (.ref 0), some (vi x1), some (vi x2), some (vi x3), some (vi 0), some (vi x5), some (vi x6), some (vl x7_56), none, some (vl x9_57), none, some (vl x11_58), none, some (vi 0)]) dX11_findPoints_213 rfl rfl rfl rfl ?_
        refine a_bv fun x6_77 ex6_77 => ?_
        refine a_iinc (y := x6_77) (L' := [some (.ref 0), some (vi x1), some (vi x2), some (vi x3), some (vi 0), some (vi x5), some (vi x6_77), some (vl x7_56), none, some (vl x9_57), none, some (vl x11_58), none, some (vi 0)]) dX11_findPoints_215 rfl ex6_77 rfl rfl rfl ?_
        refine a_goto dX11_findPoints_218 rfl ?_
        exact a_L (lsub_get (A := [some (.ref 0), some (vi x1), some (vi x2), some (vi x3), some (vi 0), some (vi x5), some (vi x6_77), none, none, none, none, none, none, none]) ⟨rfl, ⟨rfl, ⟨rfl, ⟨rfl, ⟨rfl, ⟨rfl, ⟨rfl, trivial⟩⟩⟩⟩⟩⟩⟩) (hself _ _ _ _ _ _ _)
      refine a_iconst dX11_findPoints_208 ?_
      refine a_goto dX11_findPoints_209 rfl ?_
      refine a_istore (L' := [some (.ref 0), some (vi x1), some (vi x2), some (vi x3), some (vi 1), some (vi x5), some (vi x6), some (vl x7_56), none, some (vl x9_57), none, some (vl x11_58), none, some (vi 0)]) dX11_findPoints_213 rfl rfl rfl rfl ?_
      refine a_bv fun x6_78 ex6_78 => ?_
      refine a_iinc (y := x6_78) (L' := [some (.ref 0), some (vi x1), some (vi x2), some (vi x3), some (vi 1), some (vi x5), some (vi x6_78), some (vl x7_56), none, some (vl x9_57), none, some (vl x11_58), none, some (vi 0)]) dX11_findPoints_215 rfl ex6_78 rfl rfl rfl ?_
      refine a_goto dX11_findPoints_218 rfl ?_
      exact a_L (lsub_get (A := [some (.ref 0), some (vi x1), some (vi x2), some (vi x3), some (vi 1), some (vi x5), some (vi x6_78), none, none, none, none, none, none, none]) ⟨rfl, ⟨rfl, ⟨rfl, ⟨rfl, ⟨rfl, ⟨rfl, ⟨rfl, trivial⟩⟩⟩⟩⟩⟩⟩) (hself _ _ _ _ _ _ _)
    refine a_iconst dX11_findPoints_173 ?_
    refine a_goto dX11_findPoints_174 rfl ?_
    refine a_istore (L' := [some (.ref 0), some (vi x1), some (vi x2), some (vi x3), some (vi x4), some (vi x5), some (vi x6), some (vl x7_56), none, some (vl x9_57), none, some (vl x11_58), none, some (vi 1)]) dX11_findPoints_178 rfl rfl rfl rfl ?_
    refine a_aload_n dX11_findPoints_180 rfl ?_
    refine a_lload dX11_findPoints_181 rfl ?_
    refine a_putL fl_X11_396 cf_X11 rfl rfl lyM_0 rfl dX11_findPoints_183 (key := 48) rfl fun σ79 => ?_
    refine a_aload_n dX11_findPoints_186 rfl ?_
    refine a_lload dX11_findPoints_187 rfl ?_
    refine a_putL fl_X11_399 cf_X11 rfl rfl lyM_0 rfl dX11_findPoints_189 (key := 49) rfl fun σ80 => ?_
    refine a_aload_n dX11_findPoints_192 rfl ?_
    refine a_lload dX11_findPoints_193 rfl ?_
    refine a_putL fl_X11_393 cf_X11 rfl rfl lyM_0 rfl dX11_findPoints_195 (key := 50) rfl fun σ81 => ?_
    refine a_iload dX11_findPoints_198 rfl ?_
    refine a_if_eq dX11_findPoints_200 rfl (fun _ => ?_) (fun _ => ?_)
    · refine a_iconst dX11_findPoints_212 ?_
      refine a_istore (L' := [some (.ref 0), some (vi x1), some (vi x2), some (vi x3), some (vi 0), some (vi x5), some (vi x6), some (vl x7_56), none, some (vl x9_57), none, some (vl x11_58), none, some (vi 1)]) dX11_findPoints_213 rfl rfl rfl rfl ?_
      refine a_bv fun x6_82 ex6_82 => ?_
      refine a_iinc (y := x6_82) (L' := [some (.ref 0), some (vi x1), some (vi x2), some (vi x3), some (vi 0), some (vi x5), some (vi x6_82), some (vl x7_56), none, some (vl x9_57), none, some (vl x11_58), none, some (vi 1)]) dX11_findPoints_215 rfl ex6_82 rfl rfl rfl ?_
      refine a_goto dX11_findPoints_218 rfl ?_
      exact a_L (lsub_get (A := [some (.ref 0), some (vi x1), some (vi x2), some (vi x3), some (vi 0), some (vi x5), some (vi x6_82), none, none, none, none, none, none, none]) ⟨rfl, ⟨rfl, ⟨rfl, ⟨rfl, ⟨rfl, ⟨rfl, ⟨rfl, trivial⟩⟩⟩⟩⟩⟩⟩) (hself _ _ _ _ _ _ _)
    refine a_iload dX11_findPoints_203 rfl ?_
    refine a_if_ne dX11_findPoints_205 rfl (fun _ => ?_) (fun _ => ?_)
    · refine a_iconst dX11_findPoints_212 ?_
      refine a_istore (L' := [some (.ref 0), some (vi x1), some (vi x2), some (vi x3), some (vi 0), some (vi x5), some (vi x6), some (vl x7_56), none, some (vl x9_57), none, some (vl x11_58), none, some (vi 1)]) dX11_findPoints_213 rfl rfl rfl rfl ?_
      refine a_bv fun x6_83 ex6_83 => ?_
      refine a_iinc (y := x6_83) (L' := [some (.ref 0), some (vi x1), some (vi x2), some (vi x3), some (vi 0), some (vi x5), some (vi x6_83), some (vl x7_56), none, some (vl x9_57), none, some (vl x11_58), none, some (vi 1)]) dX11_findPoints_215 rfl ex6_83 rfl rfl rfl ?_
      refine a_goto dX11_findPoints_218 rfl ?_
      exact a_L (lsub_get (A := [some (.ref 0), some (vi x1), some (vi x2), some (vi x3), some (vi 0), some (vi x5), some (vi x6_83), none, none, none, none, none, none, none]) ⟨rfl, ⟨rfl, ⟨rfl, ⟨rfl, ⟨rfl, ⟨rfl, ⟨rfl, trivial⟩⟩⟩⟩⟩⟩⟩) (hself _ _ _ _ _ _ _)
    refine a_iconst dX11_findPoints_208 ?_
    refine a_goto dX11_findPoints_209 rfl ?_
    refine a_istore (L' := [some (.ref 0), some (vi x1), some (vi x2), some (vi x3), some (vi 1), some (vi x5), some (vi x6), some (vl x7_56), none, some (vl x9_57), none, some (vl x11_58), none, some (vi 1)]) dX11_findPoints_213 rfl rfl rfl rfl ?_
    refine a_bv fun x6_84 ex6_84 => ?_
    refine a_iinc (y := x6_84) (L' := [some (.ref 0), some (vi x1), some (vi x2), some (vi x3), some (vi 1), some (vi x5), some (vi x6_84), some (vl x7_56), none, some (vl x9_57), none, some (vl x11_58), none, some (vi 1)]) dX11_findPoints_215 rfl ex6_84 rfl rfl rfl ?_
    refine a_goto dX11_findPoints_218 rfl ?_
    exact a_L (lsub_get (A := [some (.ref 0), some (vi x1), some (vi x2), some (vi x3), some (vi 1), some (vi x5), some (vi x6_84), none, none, none, none, none, none, none]) ⟨rfl, ⟨rfl, ⟨rfl, ⟨rfl, ⟨rfl, ⟨rfl, ⟨rfl, trivial⟩⟩⟩⟩⟩⟩⟩) (hself _ _ _ _ _ _ _)
  refine a_goto dX11_findPoints_105 rfl ?_
  refine a_bv fun x6_85 ex6_85 => ?_
  refine a_iinc (y := x6_85) (L' := [some (.ref 0), some (vi x1), some (vi x2), some (vi x3), some (vi x4), some (vi x5), some (vi x6_85), none, none, none, none, none, none, none]) dX11_findPoints_215 rfl ex6_85 rfl rfl rfl ?_
  refine a_goto dX11_findPoints_218 rfl ?_
  exact hself _ _ _ _ _ _ _
set_option maxRecDepth 100000 in
set_option maxHeartbeats 4000000 in
theorem cl_M_findPoints_66 {K : KX} (F : Nat) (k7 : St → Int → Option (Int × St)) (k21 : St → Int → Int → Option (Int × St)) (k54 : St → Int → Int → Int → Int → Int → Option (Int × St)) (h7 : ∀ σ x1, WA 4 0 0 cX11_findPoints RX11 14 none LYM LYM K 7 [some (.ref 0), some (vi x1), none, none, none, none, none, none, none, none, none, none, none, none] [] σ (k7 σ x1)) (h21 : ∀ σ x1 x2, WA 4 0 0 cX11_findPoints RX11 14 none LYM LYM K 21 [some (.ref 0), some (vi x1), some (vi x2), none, none, none, none, none, none, none, none, none, none, none] [] σ (k21 σ x1 x2)) (h54 : ∀ σ x1 x2 x3 x4 x5, WA 4 0 0 cX11_findPoints RX11 14 none LYM LYM K 54 [some (.ref 0), some (vi x1), some (vi x2), some (vi x3), some (vi x4), some (vi x5), none, none, none, none, none, none, none, none] [] σ (k54 σ x1 x2 x3 x4 x5)) : ∀ (n : Nat) (σ : St) (x1 x2 x3 x4 x5 x6 : Int), WA 4 0 0 cX11_findPoints RX11 14 none LYM LYM K 66 [some (.ref 0), some (vi x1), some (vi x2), some (vi x3), some (vi x4), some (vi x5), some (vi x6), none, none, none, none, none, none, none] [] σ (l_M_findPoints_66 F k7 k21 k54 n σ x1 x2 x3 x4 x5 x6)
  | 0, _, _, _, _, _, _, _ => a_none
  | n + 1, σ, x1, x2, x3, x4, x5, x6 => cb_M_findPoints_66 F k7 k21 k54 h7 h21 h54 _ (cl_M_findPoints_66 F k7 k21 k54 h7 h21 h54 n) σ x1 x2 x3 x4 x5 x6
set_option maxRecDepth 100000 in
set_option maxHeartbeats 4000000 in
theorem cb_M_findPoints_54 {K : KX} (F : Nat) (k7 : St → Int → Option (Int × St)) (k21 : St → Int → Int → Option (Int × St)) (h7 : ∀ σ x1, WA 4 0 0 cX11_findPoints RX11 14 none LYM LYM K 7 [some (.ref 0), some (vi x1), none, none, none, none, none, none, none, none, none, none, none, none] [] σ (k7 σ x1)) (h21 : ∀ σ x1 x2, WA 4 0 0 cX11_findPoints RX11 14 none LYM LYM K 21 [some (.ref 0), some (vi x1), some (vi x2), none, none, none, none, none, none, none, none, none, none, none] [] σ (k21 σ x1 x2)) (self : St → Int → Int → Int → Int → Int → Option (Int × St)) (hself : ∀ σ x1 x2 x3 x4 x5, WA 4 0 0 cX11_findPoints RX11 14 none LYM LYM K 54 [some (.ref 0), some (vi x1), some (vi x2), some (vi x3), some (vi x4), some (vi x5), none, none, none, none, none, none, none, none] [] σ (self σ x1 x2 x3 x4 x5)) (σ : St) (x1 x2 x3 x4 x5 : Int) : WA 4 0 0 cX11_findPoints RX11 14 none LYM LYM K 54 [some (.ref 0), some (vi x1), some (vi x2), some (vi x3), some (vi x4), some (vi x5), none, none, none, none, none, none, none, none] [] σ (b_M_findPoints_54 F k7 k21 self σ x1 x2 x3 x4 x5) := by
  unfold b_M_findPoints_54
  refine a_iload dX11_findPoints_54 rfl ?_
  refine a_iload_n dX11_findPoints_56 rfl ?_
  refine a_icmp_gt dX11_findPoints_57 rfl (fun _ => ?_) (fun _ => ?_)
  · refine a_iload dX11_findPoints_227 rfl ?_
    refine a_if_ne dX11_findPoints_229 rfl (fun _ => ?_) (fun _ => ?_)
    · refine a_aload_n dX11_findPoints_235 rfl ?_
      refine a_getR (c0 := 18) fl_X11_92 lyM_0 rfl dX11_findPoints_236 (key := 51) rfl ?_
      refine a_aload_n dX11_findPoints_239 rfl ?_
      refine a_getI fl_X11_418 lyM_0 rfl dX11_findPoints_240 (key := 55) rfl ?_
      refine a_bipush dX11_findPoints_243 bi_10 ?_
      refine a_iload_n dX11_findPoints_245 rfl ?_
      refine a_imul dX11_findPoints_246 ?_
      refine a_iload_n dX11_findPoints_247 rfl ?_
      refine a_iadd dX11_findPoints_248 ?_
      refine a_iast lyM_18 rfl dX11_findPoints_249 fun σ8 => ?_
      refine a_aload_n dX11_findPoints_250 rfl ?_
      refine a_getR (c0 := 19) fl_X11_95 lyM_0 rfl dX11_findPoints_251 (key := 52) rfl ?_
      refine a_aload_n dX11_findPoints_254 rfl ?_
      refine a_getI fl_X11_418 lyM_0 rfl dX11_findPoints_255 (key := 55) rfl ?_
      refine a_iload_n dX11_findPoints_258 rfl ?_
      refine a_iast lyM_19 rfl dX11_findPoints_259 fun σ9 => ?_
      refine a_aload_n dX11_findPoints_260 rfl ?_
      refine a_dup dX11_findPoints_261 rfl ?_
      refine a_getI fl_X11_418 lyM_0 rfl dX11_findPoints_262 (key := 55) rfl ?_
      refine a_iconst dX11_findPoints_265 ?_
      refine a_iadd dX11_findPoints_266 ?_
      refine a_putI fl_X11_418 cf_X11 rfl rfl lyM_0 rfl dX11_findPoints_267 (key := 55) rfl fun σ10 => ?_
      refine a_bv fun x2_11 ex2_11 => ?_
      refine a_iinc (y := x2_11) (L' := [some (.ref 0), some (vi x1), some (vi x2_11), some (vi x3), some (vi x4), some (vi x5), none, none, none, none, none, none, none, none]) dX11_findPoints_270 rfl ex2_11 rfl rfl rfl ?_
      refine a_goto dX11_findPoints_273 rfl ?_
      exact a_L (lsub_get (A := [some (.ref 0), some (vi x1), some (vi x2_11), none, none, none, none, none, none, none, none, none, none, none]) ⟨rfl, ⟨rfl, ⟨rfl, trivial⟩⟩⟩) (h21 _ _ _)
    refine a_goto dX11_findPoints_232 rfl ?_
    refine a_bv fun x2_12 ex2_12 => ?_
    refine a_iinc (y := x2_12) (L' := [some (.ref 0), some (vi x1), some (vi x2_12), some (vi x3), some (vi x4), some (vi x5), none, none, none, none, none, none, none, none]) dX11_findPoints_270 rfl ex2_12 rfl rfl rfl ?_
    refine a_goto dX11_findPoints_273 rfl ?_
    exact a_L (lsub_get (A := [some (.ref 0), some (vi x1), some (vi x2_12), none, none, none, none, none, none, none, none, none, none, none]) ⟨rfl, ⟨rfl, ⟨rfl, trivial⟩⟩⟩) (h21 _ _ _)
  refine a_iload dX11_findPoints_60 rfl ?_
  refine a_iconst dX11_findPoints_62 ?_
  refine a_iadd dX11_findPoints_63 ?_
  refine a_bv fun x6_13 ex6_13 => ?_
  refine a_istore (y := x6_13) (L' := [some (.ref 0), some (vi x1), some (vi x2), some (vi x3), some (vi x4), some (vi x5), some (vi x6_13), none, none, none, none, none, none, none]) dX11_findPoints_64 ex6_13 rfl rfl rfl ?_
  exact cl_M_findPoints_66 F _ _ _ h7 h21 hself F _ _ _ _ _ _ _
set_option maxRecDepth 100000 in
set_option maxHeartbeats 4000000 in
theorem cl_M_findPoints_54 {K : KX} (F : Nat) (k7 : St → Int → Option (Int × St)) (k21 : St → Int → Int → Option (Int × St)) (h7 : ∀ σ x1, WA 4 0 0 cX11_findPoints RX11 14 none LYM LYM K 7 [some (.ref 0), some (vi x1), none, none, none, none, none, none, none, none, none, none, none, none] [] σ (k7 σ x1)) (h21 : ∀ σ x1 x2, WA 4 0 0 cX11_findPoints RX11 14 none LYM LYM K 21 [some (.ref 0), some (vi x1), some (vi x2), none, none, none, none, none, none, none, none, none, none, none] [] σ (k21 σ x1 x2)) : ∀ (n : Nat) (σ : St) (x1 x2 x3 x4 x5 : Int), WA 4 0 0 cX11_findPoints RX11 14 none LYM LYM K 54 [some (.ref 0), some (vi x1), some (vi x2), some (vi x3), some (vi x4), some (vi x5), none, none, none, none, none, none, none, none] [] σ (l_M_findPoints_54 F k7 k21 n σ x1 x2 x3 x4 x5)
  | 0, _, _, _, _, _, _ => a_none
  | n + 1, σ, x1, x2, x3, x4, x5 => cb_M_findPoints_54 F k7 k21 h7 h21 _ (cl_M_findPoints_54 F k7 k21 h7 h21 n) σ x1 x2 x3 x4 x5
set_option maxRecDepth 100000 in
set_option maxHeartbeats 4000000 in
theorem cb_M_findPoints_21 {K : KX} (F : Nat) (k7 : St → Int → Option (Int × St)) (h7 : ∀ σ x1, WA 4 0 0 cX11_findPoints RX11 14 none LYM LYM K 7 [some (.ref 0), some (vi x1), none, none, none, none, none, none, none, none, none, none, none, none] [] σ (k7 σ x1)) (self : St → Int → Int → Option (Int × St)) (hself : ∀ σ x1 x2, WA 4 0 0 cX11_findPoints RX11 14 none LYM LYM K 21 [some (.ref 0), some (vi x1), some (vi x2), none, none, none, none, none, none, none, none, none, none, none] [] σ (self σ x1 x2)) (σ : St) (x1 x2 : Int) : WA 4 0 0 cX11_findPoints RX11 14 none LYM LYM K 21 [some (.ref 0), some (vi x1), some (vi x2), none, none, none, none, none, none, none, none, none, none, none] [] σ (b_M_findPoints_21 F k7 self σ x1 x2) := by
  unfold b_M_findPoints_21
  refine a_iload_n dX11_findPoints_21 rfl ?_
  refine a_aload_n dX11_findPoints_22 rfl ?_
  refine a_getR (c0 := 2) fl_X11_33 lyM_0 rfl dX11_findPoints_23 (key := 6) rfl ?_
  refine a_iconst dX11_findPoints_26 ?_
  refine a_iald lyM_2 rfl dX11_findPoints_27 ?_
  refine a_icmp_ge dX11_findPoints_28 rfl (fun _ => ?_) (fun _ => ?_)
  · refine a_bv fun x1_3 ex1_3 => ?_
    refine a_iinc (y := x1_3) (L' := [some (.ref 0), some (vi x1_3), some (vi x2), none, none, none, none, none, none, none, none, none, none, none]) dX11_findPoints_276 rfl ex1_3 rfl rfl rfl ?_
    refine a_goto dX11_findPoints_279 rfl ?_
    exact a_L (lsub_get (A := [some (.ref 0), some (vi x1_3), none, none, none, none, none, none, none, none, none, none, none, none]) ⟨rfl, ⟨rfl, trivial⟩⟩) (h7 _ _)
  refine a_aload_n dX11_findPoints_31 rfl ?_
  refine a_iload_n dX11_findPoints_32 rfl ?_
  refine a_iload_n dX11_findPoints_33 rfl ?_
  refine a_callVi (as := [vi x1, vi x2]) mf_X11_408 lyM_0 rfl (c_M_crosses F _ _ _) LYsame.rf dX11_findPoints_34 rfl rfl rfl rfl rfl rfl (Or.inl rfl) fun r4 σ5 => ?_
  refine a_if_ne dX11_findPoints_37 rfl (fun _ => ?_) (fun _ => ?_)
  · refine a_aload_n dX11_findPoints_43 rfl ?_
    refine a_callVi (as := []) mf_X11_415 lyM_0 rfl (c_M_throughSet F _) LYsame.rf dX11_findPoints_44 rfl rfl rfl rfl rfl rfl (Or.inl rfl) fun r6 σ7 => ?_
    refine a_istore_n (L' := [some (.ref 0), some (vi x1), some (vi x2), some (vi r6), none, none, none, none, none, none, none, none, none, none]) dX11_findPoints_47 rfl rfl rfl rfl ?_
    refine a_iconst dX11_findPoints_48 ?_
    refine a_istore (L' := [some (.ref 0), some (vi x1), some (vi x2), some (vi r6), some (vi 1), none, none, none, none, none, none, none, none, none]) dX11_findPoints_49 rfl rfl rfl rfl ?_
    refine a_iconst dX11_findPoints_51 ?_
    refine a_istore (L' := [some (.ref 0), some (vi x1), some (vi x2), some (vi r6), some (vi 1), some (vi 0), none, none, none, none, none, none, none, none]) dX11_findPoints_52 rfl rfl rfl rfl ?_
    exact cl_M_findPoints_54 F _ _ h7 hself F _ _ _ _ _ _
  refine a_goto dX11_findPoints_40 rfl ?_
  refine a_bv fun x2_86 ex2_86 => ?_
  refine a_iinc (y := x2_86) (L' := [some (.ref 0), some (vi x1), some (vi x2_86), none, none, none, none, none, none, none, none, none, none, none]) dX11_findPoints_270 rfl ex2_86 rfl rfl rfl ?_
  refine a_goto dX11_findPoints_273 rfl ?_
  exact hself _ _ _
set_option maxRecDepth 100000 in
set_option maxHeartbeats 4000000 in
theorem cl_M_findPoints_21 {K : KX} (F : Nat) (k7 : St → Int → Option (Int × St)) (h7 : ∀ σ x1, WA 4 0 0 cX11_findPoints RX11 14 none LYM LYM K 7 [some (.ref 0), some (vi x1), none, none, none, none, none, none, none, none, none, none, none, none] [] σ (k7 σ x1)) : ∀ (n : Nat) (σ : St) (x1 x2 : Int), WA 4 0 0 cX11_findPoints RX11 14 none LYM LYM K 21 [some (.ref 0), some (vi x1), some (vi x2), none, none, none, none, none, none, none, none, none, none, none] [] σ (l_M_findPoints_21 F k7 n σ x1 x2)
  | 0, _, _, _ => a_none
  | n + 1, σ, x1, x2 => cb_M_findPoints_21 F k7 h7 _ (cl_M_findPoints_21 F k7 h7 n) σ x1 x2
set_option maxRecDepth 100000 in
set_option maxHeartbeats 4000000 in
theorem cb_M_findPoints_7 {K : KX} (F : Nat) (self : St → Int → Option (Int × St)) (hself : ∀ σ x1, WA 4 0 0 cX11_findPoints RX11 14 none LYM LYM K 7 [some (.ref 0), some (vi x1), none, none, none, none, none, none, none, none, none, none, none, none] [] σ (self σ x1)) (σ : St) (x1 : Int) : WA 4 0 0 cX11_findPoints RX11 14 none LYM LYM K 7 [some (.ref 0), some (vi x1), none, none, none, none, none, none, none, none, none, none, none, none] [] σ (b_M_findPoints_7 F self σ x1) := by
  unfold b_M_findPoints_7
  refine a_iload_n dX11_findPoints_7 rfl ?_
  refine a_aload_n dX11_findPoints_8 rfl ?_
  refine a_getR (c0 := 2) fl_X11_33 lyM_0 rfl dX11_findPoints_9 (key := 6) rfl ?_
  refine a_iconst dX11_findPoints_12 ?_
  refine a_iald lyM_2 rfl dX11_findPoints_13 ?_
  refine a_icmp_ge dX11_findPoints_14 rfl (fun _ => ?_) (fun _ => ?_)
  · exact a_vret dX11_findPoints_282
  refine a_iload_n dX11_findPoints_17 rfl ?_
  refine a_iconst dX11_findPoints_18 ?_
  refine a_iadd dX11_findPoints_19 ?_
  refine a_bv fun x2_2 ex2_2 => ?_
  refine a_istore_n (y := x2_2) (L' := [some (.ref 0), some (vi x1), some (vi x2_2), none, none, none, none, none, none, none, none, none, none, none]) dX11_findPoints_20 ex2_2 rfl rfl rfl ?_
  exact cl_M_findPoints_21 F _ hself F _ _ _
set_option maxRecDepth 100000 in
set_option maxHeartbeats 4000000 in
theorem cl_M_findPoints_7 {K : KX} (F : Nat) : ∀ (n : Nat) (σ : St) (x1 : Int), WA 4 0 0 cX11_findPoints RX11 14 none LYM LYM K 7 [some (.ref 0), some (vi x1), none, none, none, none, none, none, none, none, none, none, none, none] [] σ (l_M_findPoints_7 F n σ x1)
  | 0, _, _ => a_none
  | n + 1, σ, x1 => cb_M_findPoints_7 F _ (cl_M_findPoints_7 F n) σ x1
set_option maxRecDepth 100000 in
set_option maxHeartbeats 4000000 in
theorem c_M_findPoints (F : Nat) (σ : St) : Ct 4 0 0 yX11_findPoints cX11_findPoints 14 none LYM LYM [.ref 0] σ (f_M_findPoints F σ) := by
  unfold f_M_findPoints
  refine Ct_of (d := 4) (kp := 0) (kd := 0) (own := RX11) (nL := 14) (ret := none) (LY := LYM) (LYe := LYM) (L := [some (.ref 0), none, none, none, none, none, none, none, none, none, none, none, none, none]) rfl (by decide +kernel) rfl rfl mf_X11_421.2.2.2.1 rfl fun K => ?_
  refine a_aload_n dX11_findPoints_0 rfl ?_
  refine a_iconst dX11_findPoints_1 ?_
  refine a_putI fl_X11_418 cf_X11 rfl rfl lyM_0 rfl dX11_findPoints_2 (key := 55) rfl fun σ1 => ?_
  refine a_iconst dX11_findPoints_5 ?_
  refine a_istore_n (L' := [some (.ref 0), some (vi 0), none, none, none, none, none, none, none, none, none, none, none, none]) dX11_findPoints_6 rfl rfl rfl rfl ?_
  exact cl_M_findPoints_7 F F _ _
def b_M_fix_208 (F : Nat) (self : St → Int → Int → Int → Option (Int × St)) (σ : St) (x1 x3 x4 : Int) : Option (Int × St) := gd (rng x4 ∧ rng (gF σ 55)) (if (gF σ 55) ≤ x4 then some ((gF σ 56), σ) else gd (rng x3 ∧ rng x1) (if x3 = x1 then some ((gF σ 56), σ) else gd (inb x4 28) (bv (iorI x3 (gA σ 19 (Int.toNat x4))) fun t8 => gd (inb ((256 * (x4 + 1)) + t8) 7424) (bv (gA σ 20 (Int.toNat ((256 * (x4 + 1)) + t8))) fun t9 => gd (inb ((256 * x4) + x3) 7424) (bv (gA σ 20 (Int.toNat ((256 * x4) + x3))) fun t10 => gd (rng (t9 + 1) ∧ rng t10) (if (t9 + 1) ≤ t10 then gd (inb x4 28) (gd (inb (gF σ 56) 8) (bs (sA σ 21 (Int.toNat (gF σ 56)) (gA σ 18 (Int.toNat x4))) fun σ11 => bs (sF σ11 56 ((gF σ11 56) + 1)) fun σ12 => gd (inb x4 28) (bv (iorI x3 (gA σ12 19 (Int.toNat x4))) fun t13 => bv (x4 + 1) fun x4_14 => self σ12 x1 t13 x4_14))) else bv (x4 + 1) fun x4_15 => self σ x1 x3 x4_15))))))
def l_M_fix_208 (F : Nat) : Nat → St → Int → Int → Int → Option (Int × St)
  | 0 => fun _ _ _ _ => none
  | n + 1 => fun σ x1 x3 x4 => b_M_fix_208 F (l_M_fix_208 F n) σ x1 x3 x4
def b_M_fix_110 (F : Nat) (k103 : St → Int → Int → Option (Int × St)) (self : St → Int → Int → Int → Option (Int × St)) (σ : St) (x1 x3 x4 : Int) : Option (Int × St) := gd (rng x4 ∧ rng x1) (if x1 < x4 then bv (x3 + (-1)) fun x3_16 => k103 σ x1 x3_16 else gd (inb x3 28) (bv (iorI x4 (gA σ 19 (Int.toNat x3))) fun t17 => gd (inb ((256 * (x3 + 1)) + t17) 7424) (bv (gA σ 20 (Int.toNat ((256 * (x3 + 1)) + t17))) fun t18 => bv (t18 + 1) fun x5_19 => gd (inb ((256 * (x3 + 1)) + x4) 7424) (bv (gA σ 20 (Int.toNat ((256 * (x3 + 1)) + x4))) fun t20 => gd (rng x5_19 ∧ rng t20) (if t20 ≤ x5_19 then gd (inb ((256 * x3) + x4) 7424) (bs (sA σ 20 (Int.toNat ((256 * x3) + x4)) t20) fun σ21 => bv (x4 + 1) fun x4_22 => self σ21 x1 x3 x4_22) else gd (inb ((256 * x3) + x4) 7424) (bs (sA σ 20 (Int.toNat ((256 * x3) + x4)) x5_19) fun σ23 => bv (x4 + 1) fun x4_24 => self σ23 x1 x3 x4_24))))))
def l_M_fix_110 (F : Nat) (k103 : St → Int → Int → Option (Int × St)) : Nat → St → Int → Int → Int → Option (Int × St)
  | 0 => fun _ _ _ _ => none
  | n + 1 => fun σ x1 x3 x4 => b_M_fix_110 F k103 (l_M_fix_110 F k103 n) σ x1 x3 x4
def b_M_fix_103 (F : Nat) (self : St → Int → Int → Option (Int × St)) (σ : St) (x1 x3 : Int) : Option (Int × St) := gd (rng x3) (if x3 < 0 then bs (sF σ 56 0) fun σ7 => l_M_fix_208 F F σ7 x1 0 0 else l_M_fix_110 F self F σ x1 x3 0)
def l_M_fix_103 (F : Nat) : Nat → St → Int → Int → Option (Int × St)
  | 0 => fun _ _ _ => none
  | n + 1 => fun σ x1 x3 => b_M_fix_103 F (l_M_fix_103 F n) σ x1 x3
def b_M_fix_56 (F : Nat) (self : St → Int → Int → Option (Int × St)) (σ : St) (x1 x3 : Int) : Option (Int × St) := gd (rng x3 ∧ rng 256) (if (256 : Int) ≤ x3 then bv ((gF σ 55) - 1) fun x3_6 => l_M_fix_103 F F σ x1 x3_6 else gd (rng x3 ∧ rng x1) (if x3 = x1 then gd (inb ((256 * (gF σ 55)) + x3) 7424) (bs (sA σ 20 (Int.toNat ((256 * (gF σ 55)) + x3)) 0) fun σ27 => bv (x3 + 1) fun x3_28 => self σ27 x1 x3_28) else gd (inb ((256 * (gF σ 55)) + x3) 7424) (bs (sA σ 20 (Int.toNat ((256 * (gF σ 55)) + x3)) 1000000) fun σ25 => bv (x3 + 1) fun x3_26 => self σ25 x1 x3_26)))
def l_M_fix_56 (F : Nat) : Nat → St → Int → Int → Option (Int × St)
  | 0 => fun _ _ _ => none
  | n + 1 => fun σ x1 x3 => b_M_fix_56 F (l_M_fix_56 F n) σ x1 x3
def b_M_fix_24 (F : Nat) (self : St → Int → Int → Int → Option (Int × St)) (σ : St) (x1 x2 x3 : Int) : Option (Int × St) := gd (rng x3 ∧ rng (gF σ 55)) (if (gF σ 55) ≤ x3 then gd (rng x2 ∧ rng x1) (if x2 = x1 then l_M_fix_56 F F σ x1 0 else some ((-1), σ)) else gd (inb x3 28) (bv (iorI x2 (gA σ 19 (Int.toNat x3))) fun t29 => bv (x3 + 1) fun x3_30 => self σ x1 t29 x3_30))
def l_M_fix_24 (F : Nat) : Nat → St → Int → Int → Int → Option (Int × St)
  | 0 => fun _ _ _ _ => none
  | n + 1 => fun σ x1 x2 x3 => b_M_fix_24 F (l_M_fix_24 F n) σ x1 x2 x3
def f_M_fix (F : Nat) (σ : St) : Option (Int × St) := bs (sF σ 0 0) fun σ1 => bnd (f_M_findPoints F σ1) fun r2 σ3 => gd (inb 4 82) (gd (sh5 (gA σ3 2 (Int.toNat 4))) (bv (1 * 2 ^ (Int.toNat (gA σ3 2 (Int.toNat 4)))) fun t4 => bv (t4 - 1) fun x1_5 => l_M_fix_24 F F σ3 x1_5 0 0))
set_option maxRecDepth 100000 in
set_option maxHeartbeats 4000000 in
theorem cb_M_fix_208 {K : KX} (F : Nat) (self : St → Int → Int → Int → Option (Int × St)) (hself : ∀ σ x1 x3 x4, WA 5 0 1 cX11_fix RX11 7 (some .int) LYM LYM K 208 [some (.ref 0), some (vi x1), none, some (vi x3), some (vi x4), none, none] [] σ (self σ x1 x3 x4)) (σ : St) (x1 x3 x4 : Int) : WA 5 0 1 cX11_fix RX11 7 (some .int) LYM LYM K 208 [some (.ref 0), some (vi x1), none, some (vi x3), some (vi x4), none, none] [] σ (b_M_fix_208 F self σ x1 x3 x4) := by
  unfold b_M_fix_208
  refine a_iload dX11_fix_208 rfl ?_
  refine a_aload_n dX11_fix_210 rfl ?_
  refine a_getI fl_X11_418 lyM_0 rfl dX11_fix_211 (key := 55) rfl ?_
  refine a_icmp_ge dX11_fix_214 rfl (fun _ => ?_) (fun _ => ?_)
  · refine a_aload_n dX11_fix_308 rfl ?_
    refine a_getI fl_X11_104 lyM_0 rfl dX11_fix_309 (key := 56) rfl ?_
    exact a_iret dX11_fix_312
  refine a_iload_n dX11_fix_217 rfl ?_
  refine a_iload_n dX11_fix_218 rfl ?_
  refine a_icmp_eq dX11_fix_219 rfl (fun _ => ?_) (fun _ => ?_)
  · refine a_aload_n dX11_fix_308 rfl ?_
    refine a_getI fl_X11_104 lyM_0 rfl dX11_fix_309 (key := 56) rfl ?_
    exact a_iret dX11_fix_312
  refine a_aload_n dX11_fix_222 rfl ?_
  refine a_getR (c0 := 20) fl_X11_98 lyM_0 rfl dX11_fix_223 (key := 53) rfl ?_
  refine a_sipush dX11_fix_226 si_256 ?_
  refine a_iload dX11_fix_229 rfl ?_
  refine a_iconst dX11_fix_231 ?_
  refine a_iadd dX11_fix_232 ?_
  refine a_imul dX11_fix_233 ?_
  refine a_iload_n dX11_fix_234 rfl ?_
  refine a_aload_n dX11_fix_235 rfl ?_
  refine a_getR (c0 := 19) fl_X11_95 lyM_0 rfl dX11_fix_236 (key := 52) rfl ?_
  refine a_iload dX11_fix_239 rfl ?_
  refine a_iald lyM_19 rfl dX11_fix_241 ?_
  refine a_ior dX11_fix_242 ?_
  refine a_bvi fun t8 => ?_
  refine a_iadd dX11_fix_243 ?_
  refine a_iald lyM_20 rfl dX11_fix_244 ?_
  refine a_bvi fun t9 => ?_
  refine a_iconst dX11_fix_245 ?_
  refine a_iadd dX11_fix_246 ?_
  refine a_aload_n dX11_fix_247 rfl ?_
  refine a_getR (c0 := 20) fl_X11_98 lyM_0 rfl dX11_fix_248 (key := 53) rfl ?_
  refine a_sipush dX11_fix_251 si_256 ?_
  refine a_iload dX11_fix_254 rfl ?_
  refine a_imul dX11_fix_256 ?_
  refine a_iload_n dX11_fix_257 rfl ?_
  refine a_iadd dX11_fix_258 ?_
  refine a_iald lyM_20 rfl dX11_fix_259 ?_
  refine a_bvi fun t10 => ?_
  refine a_icmp_le dX11_fix_260 rfl (fun _ => ?_) (fun _ => ?_)
  · refine a_aload_n dX11_fix_266 rfl ?_
    refine a_getR (c0 := 21) fl_X11_101 lyM_0 rfl dX11_fix_267 (key := 54) rfl ?_
    refine a_aload_n dX11_fix_270 rfl ?_
    refine a_getI fl_X11_104 lyM_0 rfl dX11_fix_271 (key := 56) rfl ?_
    refine a_aload_n dX11_fix_274 rfl ?_
    refine a_getR (c0 := 18) fl_X11_92 lyM_0 rfl dX11_fix_275 (key := 51) rfl ?_
    refine a_iload dX11_fix_278 rfl ?_
    refine a_iald lyM_18 rfl dX11_fix_280 ?_
    refine a_iast lyM_21 rfl dX11_fix_281 fun σ11 => ?_
    refine a_aload_n dX11_fix_282 rfl ?_
    refine a_dup dX11_fix_283 rfl ?_
    refine a_getI fl_X11_104 lyM_0 rfl dX11_fix_284 (key := 56) rfl ?_
    refine a_iconst dX11_fix_287 ?_
    refine a_iadd dX11_fix_288 ?_
    refine a_putI fl_X11_104 cf_X11 rfl rfl lyM_0 rfl dX11_fix_289 (key := 56) rfl fun σ12 => ?_
    refine a_iload_n dX11_fix_292 rfl ?_
    refine a_aload_n dX11_fix_293 rfl ?_
    refine a_getR (c0 := 19) fl_X11_95 lyM_0 rfl dX11_fix_294 (key := 52) rfl ?_
    refine a_iload dX11_fix_297 rfl ?_
    refine a_iald lyM_19 rfl dX11_fix_299 ?_
    refine a_ior dX11_fix_300 ?_
    refine a_bvi fun t13 => ?_
    refine a_istore_n (L' := [some (.ref 0), some (vi x1), none, some (vi t13), some (vi x4), none, none]) dX11_fix_301 rfl rfl rfl rfl ?_
    refine a_bv fun x4_14 ex4_14 => ?_
    refine a_iinc (y := x4_14) (L' := [some (.ref 0), some (vi x1), none, some (vi t13), some (vi x4_14), none, none]) dX11_fix_302 rfl ex4_14 rfl rfl rfl ?_
    refine a_goto dX11_fix_305 rfl ?_
    exact hself _ _ _ _
  refine a_goto dX11_fix_263 rfl ?_
  refine a_bv fun x4_15 ex4_15 => ?_
  refine a_iinc (y := x4_15) (L' := [some (.ref 0), some (vi x1), none, some (vi x3), some (vi x4_15), none, none]) dX11_fix_302 rfl ex4_15 rfl rfl rfl ?_
  refine a_goto dX11_fix_305 rfl ?_
  exact hself _ _ _ _
set_option maxRecDepth 100000 in
set_option maxHeartbeats 4000000 in
theorem cl_M_fix_208 {K : KX} (F : Nat) : ∀ (n : Nat) (σ : St) (x1 x3 x4 : Int), WA 5 0 1 cX11_fix RX11 7 (some .int) LYM LYM K 208 [some (.ref 0), some (vi x1), none, some (vi x3), some (vi x4), none, none] [] σ (l_M_fix_208 F n σ x1 x3 x4)
  | 0, _, _, _, _ => a_none
  | n + 1, σ, x1, x3, x4 => cb_M_fix_208 F _ (cl_M_fix_208 F n) σ x1 x3 x4
set_option maxRecDepth 100000 in
set_option maxHeartbeats 4000000 in
theorem cb_M_fix_110 {K : KX} (F : Nat) (k103 : St → Int → Int → Option (Int × St)) (h103 : ∀ σ x1 x3, WA 5 0 1 cX11_fix RX11 7 (some .int) LYM LYM K 103 [some (.ref 0), some (vi x1), none, some (vi x3), none, none, none] [] σ (k103 σ x1 x3)) (self : St → Int → Int → Int → Option (Int × St)) (hself : ∀ σ x1 x3 x4, WA 5 0 1 cX11_fix RX11 7 (some .int) LYM LYM K 110 [some (.ref 0), some (vi x1), none, some (vi x3), some (vi x4), none, none] [] σ (self σ x1 x3 x4)) (σ : St) (x1 x3 x4 : Int) : WA 5 0 1 cX11_fix RX11 7 (some .int) LYM LYM K 110 [some (.ref 0), some (vi x1), none, some (vi x3), some (vi x4), none, none] [] σ (b_M_fix_110 F k103 self σ x1 x3 x4) := by
  unfold b_M_fix_110
  refine a_iload dX11_fix_110 rfl ?_
  refine a_iload_n dX11_fix_112 rfl ?_
  refine a_icmp_gt dX11_fix_113 rfl (fun _ => ?_) (fun _ => ?_)
  · refine a_bv fun x3_16 ex3_16 => ?_
    refine a_iinc (y := x3_16) (L' := [some (.ref 0), some (vi x1), none, some (vi x3_16), some (vi x4), none, none]) dX11_fix_192 rfl ex3_16 rfl rfl rfl ?_
    refine a_goto dX11_fix_195 rfl ?_
    exact a_L (lsub_get (A := [some (.ref 0), some (vi x1), none, some (vi x3_16), none, none, none]) ⟨rfl, ⟨rfl, ⟨rfl, trivial⟩⟩⟩) (h103 _ _ _)
  refine a_aload_n dX11_fix_116 rfl ?_
  refine a_getR (c0 := 20) fl_X11_98 lyM_0 rfl dX11_fix_117 (key := 53) rfl ?_
  refine a_sipush dX11_fix_120 si_256 ?_
  refine a_iload_n dX11_fix_123 rfl ?_
  refine a_iconst dX11_fix_124 ?_
  refine a_iadd dX11_fix_125 ?_
  refine a_imul dX11_fix_126 ?_
  refine a_iload dX11_fix_127 rfl ?_
  refine a_aload_n dX11_fix_129 rfl ?_
  refine a_getR (c0 := 19) fl_X11_95 lyM_0 rfl dX11_fix_130 (key := 52) rfl ?_
  refine a_iload_n dX11_fix_133 rfl ?_
  refine a_iald lyM_19 rfl dX11_fix_134 ?_
  refine a_ior dX11_fix_135 ?_
  refine a_bvi fun t17 => ?_
  refine a_iadd dX11_fix_136 ?_
  refine a_iald lyM_20 rfl dX11_fix_137 ?_
  refine a_bvi fun t18 => ?_
  refine a_iconst dX11_fix_138 ?_
  refine a_iadd dX11_fix_139 ?_
  refine a_bv fun x5_19 ex5_19 => ?_
  refine a_istore (y := x5_19) (L' := [some (.ref 0), some (vi x1), none, some (vi x3), some (vi x4), some (vi x5_19), none]) dX11_fix_140 ex5_19 rfl rfl rfl ?_
  refine a_aload_n dX11_fix_142 rfl ?_
  refine a_getR (c0 := 20) fl_X11_98 lyM_0 rfl dX11_fix_143 (key := 53) rfl ?_
  refine a_sipush dX11_fix_146 si_256 ?_
  refine a_iload_n dX11_fix_149 rfl ?_
  refine a_iconst dX11_fix_150 ?_
  refine a_iadd dX11_fix_151 ?_
  refine a_imul dX11_fix_152 ?_
  refine a_iload dX11_fix_153 rfl ?_
  refine a_iadd dX11_fix_155 ?_
  refine a_iald lyM_20 rfl dX11_fix_156 ?_
  refine a_bvi fun t20 => ?_
  refine a_istore (L' := [some (.ref 0), some (vi x1), none, some (vi x3), some (vi x4), some (vi x5_19), some (vi t20)]) dX11_fix_157 rfl rfl rfl rfl ?_
  refine a_aload_n dX11_fix_159 rfl ?_
  refine a_getR (c0 := 20) fl_X11_98 lyM_0 rfl dX11_fix_160 (key := 53) rfl ?_
  refine a_sipush dX11_fix_163 si_256 ?_
  refine a_iload_n dX11_fix_166 rfl ?_
  refine a_imul dX11_fix_167 ?_
  refine a_iload dX11_fix_168 rfl ?_
  refine a_iadd dX11_fix_170 ?_
  refine a_iload dX11_fix_171 rfl ?_
  refine a_iload dX11_fix_173 rfl ?_
  refine a_icmp_ge dX11_fix_175 rfl (fun _ => ?_) (fun _ => ?_)
  · refine a_iload dX11_fix_183 rfl ?_
    refine a_iast lyM_20 rfl dX11_fix_185 fun σ21 => ?_
    refine a_bv fun x4_22 ex4_22 => ?_
    refine a_iinc (y := x4_22) (L' := [some (.ref 0), some (vi x1), none, some (vi x3), some (vi x4_22), some (vi x5_19), some (vi t20)]) dX11_fix_186 rfl ex4_22 rfl rfl rfl ?_
    refine a_goto dX11_fix_189 rfl ?_
    exact a_L (lsub_get (A := [some (.ref 0), some (vi x1), none, some (vi x3), some (vi x4_22), none, none]) ⟨rfl, ⟨rfl, ⟨rfl, ⟨rfl, trivial⟩⟩⟩⟩) (hself _ _ _ _)
  refine a_iload dX11_fix_178 rfl ?_
  refine a_goto dX11_fix_180 rfl ?_
  refine a_iast lyM_20 rfl dX11_fix_185 fun σ23 => ?_
  refine a_bv fun x4_24 ex4_24 => ?_
  refine a_iinc (y := x4_24) (L' := [some (.ref 0), some (vi x1), none, some (vi x3), some (vi x4_24), some (vi x5_19), some (vi t20)]) dX11_fix_186 rfl ex4_24 rfl rfl rfl ?_
  refine a_goto dX11_fix_189 rfl ?_
  exact a_L (lsub_get (A := [some (.ref 0), some (vi x1), none, some (vi x3), some (vi x4_24), none, none]) ⟨rfl, ⟨rfl, ⟨rfl, ⟨rfl, trivial⟩⟩⟩⟩) (hself _ _ _ _)
set_option maxRecDepth 100000 in
set_option maxHeartbeats 4000000 in
theorem cl_M_fix_110 {K : KX} (F : Nat) (k103 : St → Int → Int → Option (Int × St)) (h103 : ∀ σ x1 x3, WA 5 0 1 cX11_fix RX11 7 (some .int) LYM LYM K 103 [some (.ref 0), some (vi x1), none, some (vi x3), none, none, none] [] σ (k103 σ x1 x3)) : ∀ (n : Nat) (σ : St) (x1 x3 x4 : Int), WA 5 0 1 cX11_fix RX11 7 (some .int) LYM LYM K 110 [some (.ref 0), some (vi x1), none, some (vi x3), some (vi x4), none, none] [] σ (l_M_fix_110 F k103 n σ x1 x3 x4)
  | 0, _, _, _, _ => a_none
  | n + 1, σ, x1, x3, x4 => cb_M_fix_110 F k103 h103 _ (cl_M_fix_110 F k103 h103 n) σ x1 x3 x4
set_option maxRecDepth 100000 in
set_option maxHeartbeats 4000000 in
theorem cb_M_fix_103 {K : KX} (F : Nat) (self : St → Int → Int → Option (Int × St)) (hself : ∀ σ x1 x3, WA 5 0 1 cX11_fix RX11 7 (some .int) LYM LYM K 103 [some (.ref 0), some (vi x1), none, some (vi x3), none, none, none] [] σ (self σ x1 x3)) (σ : St) (x1 x3 : Int) : WA 5 0 1 cX11_fix RX11 7 (some .int) LYM LYM K 103 [some (.ref 0), some (vi x1), none, some (vi x3), none, none, none] [] σ (b_M_fix_103 F self σ x1 x3) := by
  unfold b_M_fix_103
  refine a_iload_n dX11_fix_103 rfl ?_
  refine a_if_lt dX11_fix_104 rfl (fun _ => ?_) (fun _ => ?_)
  · refine a_aload_n dX11_fix_198 rfl ?_
    refine a_iconst dX11_fix_199 ?_
    refine a_putI fl_X11_104 cf_X11 rfl rfl lyM_0 rfl dX11_fix_200 (key := 56) rfl fun σ7 => ?_
    refine a_iconst dX11_fix_203 ?_
    refine a_istore_n (L' := [some (.ref 0), some (vi x1), none, some (vi 0), none, none, none]) dX11_fix_204 rfl rfl rfl rfl ?_
    refine a_iconst dX11_fix_205 ?_
    refine a_istore (L' := [some (.ref 0), some (vi x1), none, some (vi 0), some (vi 0), none, none]) dX11_fix_206 rfl rfl rfl rfl ?_
    exact cl_M_fix_208 F F _ _ _ _
  refine a_iconst dX11_fix_107 ?_
  refine a_istore (L' := [some (.ref 0), some (vi x1), none, some (vi x3), some (vi 0), none, none]) dX11_fix_108 rfl rfl rfl rfl ?_
  exact cl_M_fix_110 F _ hself F _ _ _ _
set_option maxRecDepth 100000 in
set_option maxHeartbeats 4000000 in
theorem cl_M_fix_103 {K : KX} (F : Nat) : ∀ (n : Nat) (σ : St) (x1 x3 : Int), WA 5 0 1 cX11_fix RX11 7 (some .int) LYM LYM K 103 [some (.ref 0), some (vi x1), none, some (vi x3), none, none, none] [] σ (l_M_fix_103 F n σ x1 x3)
  | 0, _, _, _ => a_none
  | n + 1, σ, x1, x3 => cb_M_fix_103 F _ (cl_M_fix_103 F n) σ x1 x3
set_option maxRecDepth 100000 in
set_option maxHeartbeats 4000000 in
theorem cb_M_fix_56 {K : KX} (F : Nat) (self : St → Int → Int → Option (Int × St)) (hself : ∀ σ x1 x3, WA 5 0 1 cX11_fix RX11 7 (some .int) LYM LYM K 56 [some (.ref 0), some (vi x1), none, some (vi x3), none, none, none] [] σ (self σ x1 x3)) (σ : St) (x1 x3 : Int) : WA 5 0 1 cX11_fix RX11 7 (some .int) LYM LYM K 56 [some (.ref 0), some (vi x1), none, some (vi x3), none, none, none] [] σ (b_M_fix_56 F self σ x1 x3) := by
  unfold b_M_fix_56
  refine a_iload_n dX11_fix_56 rfl ?_
  refine a_sipush dX11_fix_57 si_256 ?_
  refine a_icmp_ge dX11_fix_60 rfl (fun _ => ?_) (fun _ => ?_)
  · refine a_aload_n dX11_fix_96 rfl ?_
    refine a_getI fl_X11_418 lyM_0 rfl dX11_fix_97 (key := 55) rfl ?_
    refine a_iconst dX11_fix_100 ?_
    refine a_isub dX11_fix_101 ?_
    refine a_bv fun x3_6 ex3_6 => ?_
    refine a_istore_n (y := x3_6) (L' := [some (.ref 0), some (vi x1), none, some (vi x3_6), none, none, none]) dX11_fix_102 ex3_6 rfl rfl rfl ?_
    exact cl_M_fix_103 F F _ _ _
  refine a_aload_n dX11_fix_63 rfl ?_
  refine a_getR (c0 := 20) fl_X11_98 lyM_0 rfl dX11_fix_64 (key := 53) rfl ?_
  refine a_sipush dX11_fix_67 si_256 ?_
  refine a_aload_n dX11_fix_70 rfl ?_
  refine a_getI fl_X11_418 lyM_0 rfl dX11_fix_71 (key := 55) rfl ?_
  refine a_imul dX11_fix_74 ?_
  refine a_iload_n dX11_fix_75 rfl ?_
  refine a_iadd dX11_fix_76 ?_
  refine a_iload_n dX11_fix_77 rfl ?_
  refine a_iload_n dX11_fix_78 rfl ?_
  refine a_icmp_ne dX11_fix_79 rfl (fun _ => ?_) (fun _ => ?_)
  · refine a_ldc_w kc_X11_424 rfl dX11_fix_86 ?_
    refine a_iast lyM_20 rfl dX11_fix_89 fun σ25 => ?_
    refine a_bv fun x3_26 ex3_26 => ?_
    refine a_iinc (y := x3_26) (L' := [some (.ref 0), some (vi x1), none, some (vi x3_26), none, none, none]) dX11_fix_90 rfl ex3_26 rfl rfl rfl ?_
    refine a_goto dX11_fix_93 rfl ?_
    exact hself _ _ _
  refine a_iconst dX11_fix_82 ?_
  refine a_goto dX11_fix_83 rfl ?_
  refine a_iast lyM_20 rfl dX11_fix_89 fun σ27 => ?_
  refine a_bv fun x3_28 ex3_28 => ?_
  refine a_iinc (y := x3_28) (L' := [some (.ref 0), some (vi x1), none, some (vi x3_28), none, none, none]) dX11_fix_90 rfl ex3_28 rfl rfl rfl ?_
  refine a_goto dX11_fix_93 rfl ?_
  exact hself _ _ _
set_option maxRecDepth 100000 in
set_option maxHeartbeats 4000000 in
theorem cl_M_fix_56 {K : KX} (F : Nat) : ∀ (n : Nat) (σ : St) (x1 x3 : Int), WA 5 0 1 cX11_fix RX11 7 (some .int) LYM LYM K 56 [some (.ref 0), some (vi x1), none, some (vi x3), none, none, none] [] σ (l_M_fix_56 F n σ x1 x3)
  | 0, _, _, _ => a_none
  | n + 1, σ, x1, x3 => cb_M_fix_56 F _ (cl_M_fix_56 F n) σ x1 x3
set_option maxRecDepth 100000 in
set_option maxHeartbeats 4000000 in
theorem cb_M_fix_24 {K : KX} (F : Nat) (self : St → Int → Int → Int → Option (Int × St)) (hself : ∀ σ x1 x2 x3, WA 5 0 1 cX11_fix RX11 7 (some .int) LYM LYM K 24 [some (.ref 0), some (vi x1), some (vi x2), some (vi x3), none, none, none] [] σ (self σ x1 x2 x3)) (σ : St) (x1 x2 x3 : Int) : WA 5 0 1 cX11_fix RX11 7 (some .int) LYM LYM K 24 [some (.ref 0), some (vi x1), some (vi x2), some (vi x3), none, none, none] [] σ (b_M_fix_24 F self σ x1 x2 x3) := by
  unfold b_M_fix_24
  refine a_iload_n dX11_fix_24 rfl ?_
  refine a_aload_n dX11_fix_25 rfl ?_
  refine a_getI fl_X11_418 lyM_0 rfl dX11_fix_26 (key := 55) rfl ?_
  refine a_icmp_ge dX11_fix_29 rfl (fun _ => ?_) (fun _ => ?_)
  · refine a_iload_n dX11_fix_47 rfl ?_
    refine a_iload_n dX11_fix_48 rfl ?_
    refine a_icmp_eq dX11_fix_49 rfl (fun _ => ?_) (fun _ => ?_)
    · refine a_iconst dX11_fix_54 ?_
      refine a_istore_n (L' := [some (.ref 0), some (vi x1), some (vi x2), some (vi 0), none, none, none]) dX11_fix_55 rfl rfl rfl rfl ?_
      exact a_L (lsub_get (A := [some (.ref 0), some (vi x1), none, some (vi 0), none, none, none]) ⟨rfl, ⟨rfl, ⟨rfl, trivial⟩⟩⟩) (cl_M_fix_56 F F _ _ _)
    refine a_iconst dX11_fix_52 ?_
    exact a_iret dX11_fix_53
  refine a_iload_n dX11_fix_32 rfl ?_
  refine a_aload_n dX11_fix_33 rfl ?_
  refine a_getR (c0 := 19) fl_X11_95 lyM_0 rfl dX11_fix_34 (key := 52) rfl ?_
  refine a_iload_n dX11_fix_37 rfl ?_
  refine a_iald lyM_19 rfl dX11_fix_38 ?_
  refine a_ior dX11_fix_39 ?_
  refine a_bvi fun t29 => ?_
  refine a_istore_n (L' := [some (.ref 0), some (vi x1), some (vi t29), some (vi x3), none, none, none]) dX11_fix_40 rfl rfl rfl rfl ?_
  refine a_bv fun x3_30 ex3_30 => ?_
  refine a_iinc (y := x3_30) (L' := [some (.ref 0), some (vi x1), some (vi t29), some (vi x3_30), none, none, none]) dX11_fix_41 rfl ex3_30 rfl rfl rfl ?_
  refine a_goto dX11_fix_44 rfl ?_
  exact hself _ _ _ _
set_option maxRecDepth 100000 in
set_option maxHeartbeats 4000000 in
theorem cl_M_fix_24 {K : KX} (F : Nat) : ∀ (n : Nat) (σ : St) (x1 x2 x3 : Int), WA 5 0 1 cX11_fix RX11 7 (some .int) LYM LYM K 24 [some (.ref 0), some (vi x1), some (vi x2), some (vi x3), none, none, none] [] σ (l_M_fix_24 F n σ x1 x2 x3)
  | 0, _, _, _, _ => a_none
  | n + 1, σ, x1, x2, x3 => cb_M_fix_24 F _ (cl_M_fix_24 F n) σ x1 x2 x3
set_option maxRecDepth 100000 in
set_option maxHeartbeats 4000000 in
theorem c_M_fix (F : Nat) (σ : St) : Ct 5 0 1 yX11_fix cX11_fix 7 (some .int) LYM LYM [.ref 0] σ (f_M_fix F σ) := by
  unfold f_M_fix
  refine Ct_of (d := 5) (kp := 0) (kd := 1) (own := RX11) (nL := 7) (ret := (some .int)) (LY := LYM) (LYe := LYM) (L := [some (.ref 0), none, none, none, none, none, none]) rfl (by decide +kernel) rfl rfl mf_L_184.2.2.2.1 rfl fun K => ?_
  refine a_aload_n dX11_fix_0 rfl ?_
  refine a_iconst dX11_fix_1 ?_
  refine a_putI fl_X11_1 cf_X11 rfl rfl lyM_0 rfl dX11_fix_2 (key := 0) rfl fun σ1 => ?_
  refine a_aload_n dX11_fix_5 rfl ?_
  refine a_callVv (as := []) mf_X11_421 lyM_0 rfl (c_M_findPoints F _) LYsame.rf dX11_fix_6 rfl rfl rfl rfl rfl rfl (Or.inl rfl) fun r2 σ3 => ?_
  refine a_iconst dX11_fix_9 ?_
  refine a_aload_n dX11_fix_10 rfl ?_
  refine a_getR (c0 := 2) fl_X11_33 lyM_0 rfl dX11_fix_11 (key := 6) rfl ?_
  refine a_iconst dX11_fix_14 ?_
  refine a_iald lyM_2 rfl dX11_fix_15 ?_
  refine a_ishl dX11_fix_16 (fun _ => ?_)
  refine a_bvi fun t4 => ?_
  refine a_iconst dX11_fix_17 ?_
  refine a_isub dX11_fix_18 ?_
  refine a_bv fun x1_5 ex1_5 => ?_
  refine a_istore_n (y := x1_5) (L' := [some (.ref 0), some (vi x1_5), none, none, none, none, none]) dX11_fix_19 ex1_5 rfl rfl rfl ?_
  refine a_iconst dX11_fix_20 ?_
  refine a_istore_n (L' := [some (.ref 0), some (vi x1_5), some (vi 0), none, none, none, none]) dX11_fix_21 rfl rfl rfl rfl ?_
  refine a_iconst dX11_fix_22 ?_
  refine a_istore_n (L' := [some (.ref 0), some (vi x1_5), some (vi 0), some (vi 0), none, none, none]) dX11_fix_23 rfl rfl rfl rfl ?_
  exact cl_M_fix_24 F F _ _ _ _
def f_M_fixAt (F : Nat) (σ : St) (x1 : Int) : Option (Int × St) := bs (sF σ 0 0) fun σ1 => bnd (f_M_isIn F σ1 x1 0 ((gF σ1 56) - 1)) fun r2 σ3 => gd (rng r2) (if r2 = 0 then some ((-1), σ3) else gd (inb x1 8) (some ((gA σ3 21 (Int.toNat x1)), σ3)))
set_option maxRecDepth 100000 in
set_option maxHeartbeats 4000000 in
theorem c_M_fixAt (F : Nat) (σ : St) (x1 : Int) : Ct 2 0 1 yX11_fixAt cX11_fixAt 2 (some .int) LYM LYM [.ref 0, vi x1] σ (f_M_fixAt F σ x1) := by
  unfold f_M_fixAt
  refine Ct_of (d := 2) (kp := 0) (kd := 1) (own := RX11) (nL := 2) (ret := (some .int)) (LY := LYM) (LYe := LYM) (L := [some (.ref 0), some (vi x1)]) rfl (by decide +kernel) rfl rfl mf_L_188.2.2.2.1 rfl fun K => ?_
  refine a_aload_n dX11_fixAt_0 rfl ?_
  refine a_iconst dX11_fixAt_1 ?_
  refine a_putI fl_X11_1 cf_X11 rfl rfl lyM_0 rfl dX11_fixAt_2 (key := 0) rfl fun σ1 => ?_
  refine a_iload_n dX11_fixAt_5 rfl ?_
  refine a_iconst dX11_fixAt_6 ?_
  refine a_aload_n dX11_fixAt_7 rfl ?_
  refine a_getI fl_X11_104 lyM_0 rfl dX11_fixAt_8 (key := 56) rfl ?_
  refine a_iconst dX11_fixAt_11 ?_
  refine a_isub dX11_fixAt_12 ?_
  refine a_callSi (as := [vi x1, vi 0, vi ((gF σ1 56) - 1)]) mf_X11_175 (c_M_isIn F _ _ _ _) LYsame.rf dX11_fixAt_13 rfl rfl rfl rfl rfl rfl (Or.inl rfl) fun r2 σ3 => ?_
  refine a_if_eq dX11_fixAt_16 rfl (fun _ => ?_) (fun _ => ?_)
  · refine a_iconst dX11_fixAt_28 ?_
    exact a_iret dX11_fixAt_29
  refine a_aload_n dX11_fixAt_19 rfl ?_
  refine a_getR (c0 := 21) fl_X11_101 lyM_0 rfl dX11_fixAt_20 (key := 54) rfl ?_
  refine a_iload_n dX11_fixAt_23 rfl ?_
  refine a_iald lyM_21 rfl dX11_fixAt_24 ?_
  refine a_goto dX11_fixAt_25 rfl ?_
  exact a_iret dX11_fixAt_29
def b_M_image_18 (F : Nat) (self : St → Int → Int → Option (Int × St)) (σ : St) (x1 x2 : Int) : Option (Int × St) := gd (rng x2 ∧ rng 82) (if (82 : Int) ≤ x2 then gd (inb x1 2 ∧ isb 1) (bs (sA σ 23 (Int.toNat x1) 1) fun σ4 => some (1, σ4)) else gd (inb x2 82) (gd (inb ((82 * x1) + x2) 164) (bs (sA σ 22 (Int.toNat ((82 * x1) + x2)) (gA σ 2 (Int.toNat x2))) fun σ5 => bv (x2 + 1) fun x2_6 => self σ5 x1 x2_6)))
def l_M_image_18 (F : Nat) : Nat → St → Int → Int → Option (Int × St)
  | 0 => fun _ _ _ => none
  | n + 1 => fun σ x1 x2 => b_M_image_18 F (l_M_image_18 F n) σ x1 x2
def f_M_image (F : Nat) (σ : St) (x1 : Int) : Option (Int × St) := bs (sF σ 0 0) fun σ1 => bnd (f_M_isIn F σ1 x1 0 1) fun r2 σ3 => gd (rng r2) (if r2 = 0 then some (0, σ3) else l_M_image_18 F F σ3 x1 0)
set_option maxRecDepth 100000 in
set_option maxHeartbeats 4000000 in
theorem cb_M_image_18 {K : KX} (F : Nat) (self : St → Int → Int → Option (Int × St)) (hself : ∀ σ x1 x2, WA 2 0 1 cX11_image RX11 3 (some .boolean) LYM LYM K 18 [some (.ref 0), some (vi x1), some (vi x2)] [] σ (self σ x1 x2)) (σ : St) (x1 x2 : Int) : WA 2 0 1 cX11_image RX11 3 (some .boolean) LYM LYM K 18 [some (.ref 0), some (vi x1), some (vi x2)] [] σ (b_M_image_18 F self σ x1 x2) := by
  unfold b_M_image_18
  refine a_iload_n dX11_image_18 rfl ?_
  refine a_bipush dX11_image_19 bi_82 ?_
  refine a_icmp_ge dX11_image_21 rfl (fun _ => ?_) (fun _ => ?_)
  · refine a_aload_n dX11_image_47 rfl ?_
    refine a_getR (c0 := 23) fl_X11_110 lyM_0 rfl dX11_image_48 (key := 58) rfl ?_
    refine a_iload_n dX11_image_51 rfl ?_
    refine a_iconst dX11_image_52 ?_
    refine a_zast lyM_23 rfl dX11_image_53 fun σ4 => ?_
    refine a_iconst dX11_image_54 ?_
    exact a_zretc (by decide) dX11_image_55
  refine a_aload_n dX11_image_24 rfl ?_
  refine a_getR (c0 := 22) fl_X11_107 lyM_0 rfl dX11_image_25 (key := 57) rfl ?_
  refine a_bipush dX11_image_28 bi_82 ?_
  refine a_iload_n dX11_image_30 rfl ?_
  refine a_imul dX11_image_31 ?_
  refine a_iload_n dX11_image_32 rfl ?_
  refine a_iadd dX11_image_33 ?_
  refine a_aload_n dX11_image_34 rfl ?_
  refine a_getR (c0 := 2) fl_X11_33 lyM_0 rfl dX11_image_35 (key := 6) rfl ?_
  refine a_iload_n dX11_image_38 rfl ?_
  refine a_iald lyM_2 rfl dX11_image_39 ?_
  refine a_iast lyM_22 rfl dX11_image_40 fun σ5 => ?_
  refine a_bv fun x2_6 ex2_6 => ?_
  refine a_iinc (y := x2_6) (L' := [some (.ref 0), some (vi x1), some (vi x2_6)]) dX11_image_41 rfl ex2_6 rfl rfl rfl ?_
  refine a_goto dX11_image_44 rfl ?_
  exact hself _ _ _
set_option maxRecDepth 100000 in
set_option maxHeartbeats 4000000 in
theorem cl_M_image_18 {K : KX} (F : Nat) : ∀ (n : Nat) (σ : St) (x1 x2 : Int), WA 2 0 1 cX11_image RX11 3 (some .boolean) LYM LYM K 18 [some (.ref 0), some (vi x1), some (vi x2)] [] σ (l_M_image_18 F n σ x1 x2)
  | 0, _, _, _ => a_none
  | n + 1, σ, x1, x2 => cb_M_image_18 F _ (cl_M_image_18 F n) σ x1 x2
set_option maxRecDepth 100000 in
set_option maxHeartbeats 4000000 in
theorem c_M_image (F : Nat) (σ : St) (x1 : Int) : Ct 2 0 1 yX11_image cX11_image 3 (some .boolean) LYM LYM [.ref 0, vi x1] σ (f_M_image F σ x1) := by
  unfold f_M_image
  refine Ct_of (d := 2) (kp := 0) (kd := 1) (own := RX11) (nL := 3) (ret := (some .boolean)) (LY := LYM) (LYe := LYM) (L := [some (.ref 0), some (vi x1), none]) rfl (by decide +kernel) rfl rfl mf_L_196.2.2.2.1 rfl fun K => ?_
  refine a_aload_n dX11_image_0 rfl ?_
  refine a_iconst dX11_image_1 ?_
  refine a_putI fl_X11_1 cf_X11 rfl rfl lyM_0 rfl dX11_image_2 (key := 0) rfl fun σ1 => ?_
  refine a_iload_n dX11_image_5 rfl ?_
  refine a_iconst dX11_image_6 ?_
  refine a_iconst dX11_image_7 ?_
  refine a_callSi (as := [vi x1, vi 0, vi 1]) mf_X11_175 (c_M_isIn F _ _ _ _) LYsame.rf dX11_image_8 rfl rfl rfl rfl rfl rfl (Or.inl rfl) fun r2 σ3 => ?_
  refine a_if_ne dX11_image_11 rfl (fun _ => ?_) (fun _ => ?_)
  · refine a_iconst dX11_image_16 ?_
    refine a_istore_n (L' := [some (.ref 0), some (vi x1), some (vi 0)]) dX11_image_17 rfl rfl rfl rfl ?_
    exact cl_M_image_18 F F _ _ _
  refine a_iconst dX11_image_14 ?_
  exact a_zretc (by decide) dX11_image_15
def b_M_restore_27 (F : Nat) (self : St → Int → Int → Option (Int × St)) (σ : St) (x1 x2 : Int) : Option (Int × St) := gd (rng x2 ∧ rng 82) (if (82 : Int) ≤ x2 then bnd (f_M_settle F σ) fun r4 σ5 => some (1, σ5) else gd (inb ((82 * x1) + x2) 164) (bv (gA σ 22 (Int.toNat ((82 * x1) + x2))) fun t6 => gd (inb x2 82) (bs (sA σ 2 (Int.toNat x2) t6) fun σ7 => bv (x2 + 1) fun x2_8 => self σ7 x1 x2_8)))
def l_M_restore_27 (F : Nat) : Nat → St → Int → Int → Option (Int × St)
  | 0 => fun _ _ _ => none
  | n + 1 => fun σ x1 x2 => b_M_restore_27 F (l_M_restore_27 F n) σ x1 x2
def f_M_restore (F : Nat) (σ : St) (x1 : Int) : Option (Int × St) := bs (sF σ 0 0) fun σ1 => bnd (f_M_isIn F σ1 x1 0 1) fun r2 σ3 => gd (rng r2) (if r2 = 0 then some (0, σ3) else gd (inb x1 2) (gd (rng (gA σ3 23 (Int.toNat x1))) (if (gA σ3 23 (Int.toNat x1)) = 0 then some (0, σ3) else l_M_restore_27 F F σ3 x1 0)))
set_option maxRecDepth 100000 in
set_option maxHeartbeats 4000000 in
theorem cb_M_restore_27 {K : KX} (F : Nat) (self : St → Int → Int → Option (Int × St)) (hself : ∀ σ x1 x2, WA 3 0 1 cX11_restore RX11 3 (some .boolean) LYM LYM K 27 [some (.ref 0), some (vi x1), some (vi x2)] [] σ (self σ x1 x2)) (σ : St) (x1 x2 : Int) : WA 3 0 1 cX11_restore RX11 3 (some .boolean) LYM LYM K 27 [some (.ref 0), some (vi x1), some (vi x2)] [] σ (b_M_restore_27 F self σ x1 x2) := by
  unfold b_M_restore_27
  refine a_iload_n dX11_restore_27 rfl ?_
  refine a_bipush dX11_restore_28 bi_82 ?_
  refine a_icmp_ge dX11_restore_30 rfl (fun _ => ?_) (fun _ => ?_)
  · refine a_aload_n dX11_restore_56 rfl ?_
    refine a_callVv (as := []) mf_X11_130 lyM_0 rfl (c_M_settle F _) LYsame.rf dX11_restore_57 rfl rfl rfl rfl rfl rfl (Or.inl rfl) fun r4 σ5 => ?_
    refine a_iconst dX11_restore_60 ?_
    exact a_zretc (by decide) dX11_restore_61
  refine a_aload_n dX11_restore_33 rfl ?_
  refine a_getR (c0 := 2) fl_X11_33 lyM_0 rfl dX11_restore_34 (key := 6) rfl ?_
  refine a_iload_n dX11_restore_37 rfl ?_
  refine a_aload_n dX11_restore_38 rfl ?_
  refine a_getR (c0 := 22) fl_X11_107 lyM_0 rfl dX11_restore_39 (key := 57) rfl ?_
  refine a_bipush dX11_restore_42 bi_82 ?_
  refine a_iload_n dX11_restore_44 rfl ?_
  refine a_imul dX11_restore_45 ?_
  refine a_iload_n dX11_restore_46 rfl ?_
  refine a_iadd dX11_restore_47 ?_
  refine a_iald lyM_22 rfl dX11_restore_48 ?_
  refine a_bvi fun t6 => ?_
  refine a_iast lyM_2 rfl dX11_restore_49 fun σ7 => ?_
  refine a_bv fun x2_8 ex2_8 => ?_
  refine a_iinc (y := x2_8) (L' := [some (.ref 0), some (vi x1), some (vi x2_8)]) dX11_restore_50 rfl ex2_8 rfl rfl rfl ?_
  refine a_goto dX11_restore_53 rfl ?_
  exact hself _ _ _
set_option maxRecDepth 100000 in
set_option maxHeartbeats 4000000 in
theorem cl_M_restore_27 {K : KX} (F : Nat) : ∀ (n : Nat) (σ : St) (x1 x2 : Int), WA 3 0 1 cX11_restore RX11 3 (some .boolean) LYM LYM K 27 [some (.ref 0), some (vi x1), some (vi x2)] [] σ (l_M_restore_27 F n σ x1 x2)
  | 0, _, _, _ => a_none
  | n + 1, σ, x1, x2 => cb_M_restore_27 F _ (cl_M_restore_27 F n) σ x1 x2
set_option maxRecDepth 100000 in
set_option maxHeartbeats 4000000 in
theorem c_M_restore (F : Nat) (σ : St) (x1 : Int) : Ct 3 0 1 yX11_restore cX11_restore 3 (some .boolean) LYM LYM [.ref 0, vi x1] σ (f_M_restore F σ x1) := by
  unfold f_M_restore
  refine Ct_of (d := 3) (kp := 0) (kd := 1) (own := RX11) (nL := 3) (ret := (some .boolean)) (LY := LYM) (LYe := LYM) (L := [some (.ref 0), some (vi x1), none]) rfl (by decide +kernel) rfl rfl mf_L_200.2.2.2.1 rfl fun K => ?_
  refine a_aload_n dX11_restore_0 rfl ?_
  refine a_iconst dX11_restore_1 ?_
  refine a_putI fl_X11_1 cf_X11 rfl rfl lyM_0 rfl dX11_restore_2 (key := 0) rfl fun σ1 => ?_
  refine a_iload_n dX11_restore_5 rfl ?_
  refine a_iconst dX11_restore_6 ?_
  refine a_iconst dX11_restore_7 ?_
  refine a_callSi (as := [vi x1, vi 0, vi 1]) mf_X11_175 (c_M_isIn F _ _ _ _) LYsame.rf dX11_restore_8 rfl rfl rfl rfl rfl rfl (Or.inl rfl) fun r2 σ3 => ?_
  refine a_if_eq dX11_restore_11 rfl (fun _ => ?_) (fun _ => ?_)
  · refine a_iconst dX11_restore_23 ?_
    exact a_zretc (by decide) dX11_restore_24
  refine a_aload_n dX11_restore_14 rfl ?_
  refine a_getR (c0 := 23) fl_X11_110 lyM_0 rfl dX11_restore_15 (key := 58) rfl ?_
  refine a_iload_n dX11_restore_18 rfl ?_
  refine a_zald lyM_23 rfl dX11_restore_19 ?_
  refine a_if_ne dX11_restore_20 rfl (fun _ => ?_) (fun _ => ?_)
  · refine a_iconst dX11_restore_25 ?_
    refine a_istore_n (L' := [some (.ref 0), some (vi x1), some (vi 0)]) dX11_restore_26 rfl rfl rfl rfl ?_
    exact cl_M_restore_27 F F _ _ _
  refine a_iconst dX11_restore_23 ?_
  exact a_zretc (by decide) dX11_restore_24
def f_M_count (F : Nat) (σ : St) (x1 : Int) : Option (Int × St) := bs (sF σ 0 0) fun σ1 => gd (rng x1) (if x1 = 0 then gd (inb 0 82) (some ((gA σ1 2 (Int.toNat 0)), σ1)) else (if x1 = 1 then some ((gF σ1 20), σ1) else (if x1 = 2 then some ((gF σ1 21), σ1) else (if x1 = 3 then gd (inb 1 82) (some ((gA σ1 2 (Int.toNat 1)), σ1)) else (if x1 = 4 then gd (inb 2 82) (some ((gA σ1 2 (Int.toNat 2)), σ1)) else (if x1 = 5 then gd (inb 3 82) (some ((gA σ1 2 (Int.toNat 3)), σ1)) else (if x1 = 6 then gd (inb 4 82) (some ((gA σ1 2 (Int.toNat 4)), σ1)) else (if x1 = 7 then gd (inb 5 82) (some ((gA σ1 2 (Int.toNat 5)), σ1)) else (if x1 = 8 then some ((gF σ1 2), σ1) else (some ((-1), σ1)))))))))))
set_option maxRecDepth 100000 in
set_option maxHeartbeats 4000000 in
theorem c_M_count (F : Nat) (σ : St) (x1 : Int) : Ct 1 0 1 yX11_count cX11_count 2 (some .int) LYM LYM [.ref 0, vi x1] σ (f_M_count F σ x1) := by
  unfold f_M_count
  refine Ct_of (d := 1) (kp := 0) (kd := 1) (own := RX11) (nL := 2) (ret := (some .int)) (LY := LYM) (LYe := LYM) (L := [some (.ref 0), some (vi x1)]) rfl (by decide +kernel) rfl rfl mf_L_204.2.2.2.1 rfl fun K => ?_
  refine a_aload_n dX11_count_0 rfl ?_
  refine a_iconst dX11_count_1 ?_
  refine a_putI fl_X11_1 cf_X11 rfl rfl lyM_0 rfl dX11_count_2 (key := 0) rfl fun σ1 => ?_
  refine a_iload_n dX11_count_5 rfl ?_
  refine a_gd fun hsw => ?_
  refine a_tsw_in dX11_count_6 (by decide) (by decide) (by decide) rfl rfl ?_ fun hs0 => ?_
  · refine a_aload_n dX11_count_56 rfl ?_
    refine a_getR (c0 := 2) fl_X11_33 lyM_0 rfl dX11_count_57 (key := 6) rfl ?_
    refine a_iconst dX11_count_60 ?_
    refine a_iald lyM_2 rfl dX11_count_61 ?_
    exact a_iret dX11_count_62
  refine a_tsw_in dX11_count_6 (by decide) (by decide) (by decide) rfl rfl ?_ fun hs1 => ?_
  · refine a_aload_n dX11_count_63 rfl ?_
    refine a_getI fl_X11_230 lyM_0 rfl dX11_count_64 (key := 20) rfl ?_
    exact a_iret dX11_count_67
  refine a_tsw_in dX11_count_6 (by decide) (by decide) (by decide) rfl rfl ?_ fun hs2 => ?_
  · refine a_aload_n dX11_count_68 rfl ?_
    refine a_getI fl_X11_236 lyM_0 rfl dX11_count_69 (key := 21) rfl ?_
    exact a_iret dX11_count_72
  refine a_tsw_in dX11_count_6 (by decide) (by decide) (by decide) rfl rfl ?_ fun hs3 => ?_
  · refine a_aload_n dX11_count_73 rfl ?_
    refine a_getR (c0 := 2) fl_X11_33 lyM_0 rfl dX11_count_74 (key := 6) rfl ?_
    refine a_iconst dX11_count_77 ?_
    refine a_iald lyM_2 rfl dX11_count_78 ?_
    exact a_iret dX11_count_79
  refine a_tsw_in dX11_count_6 (by decide) (by decide) (by decide) rfl rfl ?_ fun hs4 => ?_
  · refine a_aload_n dX11_count_80 rfl ?_
    refine a_getR (c0 := 2) fl_X11_33 lyM_0 rfl dX11_count_81 (key := 6) rfl ?_
    refine a_iconst dX11_count_84 ?_
    refine a_iald lyM_2 rfl dX11_count_85 ?_
    exact a_iret dX11_count_86
  refine a_tsw_in dX11_count_6 (by decide) (by decide) (by decide) rfl rfl ?_ fun hs5 => ?_
  · refine a_aload_n dX11_count_87 rfl ?_
    refine a_getR (c0 := 2) fl_X11_33 lyM_0 rfl dX11_count_88 (key := 6) rfl ?_
    refine a_iconst dX11_count_91 ?_
    refine a_iald lyM_2 rfl dX11_count_92 ?_
    exact a_iret dX11_count_93
  refine a_tsw_in dX11_count_6 (by decide) (by decide) (by decide) rfl rfl ?_ fun hs6 => ?_
  · refine a_aload_n dX11_count_94 rfl ?_
    refine a_getR (c0 := 2) fl_X11_33 lyM_0 rfl dX11_count_95 (key := 6) rfl ?_
    refine a_iconst dX11_count_98 ?_
    refine a_iald lyM_2 rfl dX11_count_99 ?_
    exact a_iret dX11_count_100
  refine a_tsw_in dX11_count_6 (by decide) (by decide) (by decide) rfl rfl ?_ fun hs7 => ?_
  · refine a_aload_n dX11_count_101 rfl ?_
    refine a_getR (c0 := 2) fl_X11_33 lyM_0 rfl dX11_count_102 (key := 6) rfl ?_
    refine a_iconst dX11_count_105 ?_
    refine a_iald lyM_2 rfl dX11_count_106 ?_
    exact a_iret dX11_count_107
  refine a_tsw_in dX11_count_6 (by decide) (by decide) (by decide) rfl rfl ?_ fun hs8 => ?_
  · refine a_aload_n dX11_count_108 rfl ?_
    refine a_getI fl_X11_7 lyM_0 rfl dX11_count_109 (key := 2) rfl ?_
    exact a_iret dX11_count_112
  refine a_tsw_out dX11_count_6 hsw (by omega) rfl ?_
  refine a_iconst dX11_count_113 ?_
  exact a_iret dX11_count_114
