def b_M_tracks_119 (F : Nat) (k35 : St → Int → Int → Int → Int → Option (Int × St)) (k49 : St → Int → Int → Int → Int → Int → Option (Int × St)) (self : St → Int → Int → Int → Int → Int → Int → Int → Int → Option (Int × St)) (σ : St) (x1 x2 x3 x4 x5 x7 x8 x9 : Int) : Option (Int × St) := gd (rng x9 ∧ rng x2) (if x2 ≤ x9 then gd (rng x8) (if x8 = 0 then bv (x5 + 1) fun x5_27 => k49 σ x1 x2 x3 x4 x5_27 else bv (x3 + 1) fun x3_20 => gd (rng x3_20 ∧ rng 1) (if x3_20 ≤ 1 then gd (inb 0 3) (bs (sA σ 13 (Int.toNat 0) x4) fun σ21 => gd (inb 1 3) (bs (sA σ21 13 (Int.toNat 1) x5) fun σ22 => gd (inb 2 3) (bs (sA σ22 13 (Int.toNat 2) x7) fun σ23 => gd (isb 1) (bs (sF σ23 37 1) fun σ24 => bv (x5 + 1) fun x5_25 => k49 σ24 x1 x2 x3_20 x4 x5_25)))) else bv (x5 + 1) fun x5_26 => k49 σ x1 x2 x3_20 x4 x5_26)) else gd (rng x8) (if x8 = 0 then gd (rng x8) (if x8 = 0 then bv (x5 + 1) fun x5_35 => k49 σ x1 x2 x3 x4 x5_35 else bv (x3 + 1) fun x3_28 => gd (rng x3_28 ∧ rng 1) (if x3_28 ≤ 1 then gd (inb 0 3) (bs (sA σ 13 (Int.toNat 0) x4) fun σ29 => gd (inb 1 3) (bs (sA σ29 13 (Int.toNat 1) x5) fun σ30 => gd (inb 2 3) (bs (sA σ30 13 (Int.toNat 2) x7) fun σ31 => gd (isb 1) (bs (sF σ31 37 1) fun σ32 => bv (x5 + 1) fun x5_33 => k49 σ32 x1 x2 x3_28 x4 x5_33)))) else bv (x5 + 1) fun x5_34 => k49 σ x1 x2 x3_28 x4 x5_34)) else bnd (f_M_gain F σ x1) fun r36 σ37 => gd (rng (r36 * x7) ∧ rng (gF σ37 20) ∧ (gF σ37 20) ≠ (0 : Int)) (bv (Int.tmod (r36 * x7) (gF σ37 20)) fun t38 => gd (inb 0 82) (gd (rng (x4 + (x5 * x9)) ∧ rng (gA σ37 2 (Int.toNat 0)) ∧ (gA σ37 2 (Int.toNat 0)) ≠ (0 : Int)) (bv (Int.tmod (x4 + (x5 * x9)) (gA σ37 2 (Int.toNat 0))) fun t39 => bnd (f_M_place F σ37 x1) fun r40 σ41 => bnd (f_M_waveOf F σ41 t39 r40) fun r42 σ43 => gd (rng (t38 * r42) ∧ rng (gF σ43 20) ∧ (gF σ43 20) ≠ (0 : Int)) (bv (Int.tmod (t38 * r42) (gF σ43 20)) fun t44 => gd (inb x9 470) (gd (rng t44 ∧ rng (gA σ43 12 (Int.toNat x9))) (if t44 = (gA σ43 12 (Int.toNat x9)) then bv (x9 + 1) fun x9_46 => self σ43 x1 x2 x3 x4 x5 x7 1 x9_46 else bv (x9 + 1) fun x9_45 => self σ43 x1 x2 x3 x4 x5 x7 0 x9_45))))))))
def l_M_tracks_119 (F : Nat) (k35 : St → Int → Int → Int → Int → Option (Int × St)) (k49 : St → Int → Int → Int → Int → Int → Option (Int × St)) : Nat → St → Int → Int → Int → Int → Int → Int → Int → Int → Option (Int × St)
  | 0 => fun _ _ _ _ _ _ _ _ _ => none
  | n + 1 => fun σ x1 x2 x3 x4 x5 x7 x8 x9 => b_M_tracks_119 F k35 k49 (l_M_tracks_119 F k35 k49 n) σ x1 x2 x3 x4 x5 x7 x8 x9
def b_M_tracks_49 (F : Nat) (k35 : St → Int → Int → Int → Int → Option (Int × St)) (self : St → Int → Int → Int → Int → Int → Option (Int × St)) (σ : St) (x1 x2 x3 x4 x5 : Int) : Option (Int × St) := gd (inb 0 82) (gd (rng x5 ∧ rng (gA σ 2 (Int.toNat 0))) (if (gA σ 2 (Int.toNat 0)) ≤ x5 then bv (x4 + 1) fun x4_8 => k35 σ x1 x2 x3 x4_8 else bnd (f_M_gain F σ x1) fun r9 σ10 => bnd (f_M_place F σ10 x1) fun r11 σ12 => bnd (f_M_waveOf F σ12 x4 r11) fun r13 σ14 => gd (rng (r9 * r13) ∧ rng (gF σ14 20) ∧ (gF σ14 20) ≠ (0 : Int)) (bv (Int.tmod (r9 * r13) (gF σ14 20)) fun t15 => gd (rng t15) (if t15 = 0 then l_M_tracks_119 F k35 self F σ14 x1 x2 x3 x4 x5 0 1 0 else gd (inb 0 470) (bnd (f_M_inverse F σ14 t15) fun r16 σ17 => bv ((gA σ14 12 (Int.toNat 0)) * r16) fun t18 => gd (rng t18 ∧ rng (gF σ17 20) ∧ (gF σ17 20) ≠ (0 : Int)) (bv (Int.tmod t18 (gF σ17 20)) fun x7_19 => l_M_tracks_119 F k35 self F σ17 x1 x2 x3 x4 x5 x7_19 1 0))))))
def l_M_tracks_49 (F : Nat) (k35 : St → Int → Int → Int → Int → Option (Int × St)) : Nat → St → Int → Int → Int → Int → Int → Option (Int × St)
  | 0 => fun _ _ _ _ _ _ => none
  | n + 1 => fun σ x1 x2 x3 x4 x5 => b_M_tracks_49 F k35 (l_M_tracks_49 F k35 n) σ x1 x2 x3 x4 x5
def b_M_tracks_35 (F : Nat) (self : St → Int → Int → Int → Int → Option (Int × St)) (σ : St) (x1 x2 x3 x4 : Int) : Option (Int × St) := gd (inb 0 82) (gd (rng x4 ∧ rng (gA σ 2 (Int.toNat 0))) (if (gA σ 2 (Int.toNat 0)) ≤ x4 then some (x3, σ) else l_M_tracks_49 F self F σ x1 x2 x3 x4 0))
def l_M_tracks_35 (F : Nat) : Nat → St → Int → Int → Int → Int → Option (Int × St)
  | 0 => fun _ _ _ _ _ => none
  | n + 1 => fun σ x1 x2 x3 x4 => b_M_tracks_35 F (l_M_tracks_35 F n) σ x1 x2 x3 x4
def f_M_tracks (F : Nat) (σ : St) (x1 : Int) : Option (Int × St) := bs (sF σ 0 0) fun σ1 => bnd (f_M_takesReadings F σ1) fun r2 σ3 => bnd (f_M_isHearer F σ3 x1) fun r4 σ5 => gd (rng r4) (if r4 = 0 then some ((-1), σ5) else bnd (f_M_isIn F σ5 r2 1 8) fun r6 σ7 => gd (rng r6) (if r6 = 0 then some ((-1), σ7) else l_M_tracks_35 F F σ7 x1 r2 0 0))
set_option maxRecDepth 100000 in
set_option maxHeartbeats 4000000 in
theorem cb_M_tracks_119 {K : KX} (F : Nat) (k35 : St → Int → Int → Int → Int → Option (Int × St)) (k49 : St → Int → Int → Int → Int → Int → Option (Int × St)) (h35 : ∀ σ x1 x2 x3 x4, WA 3 0 1 cX11_tracks RX11 10 (some .int) LYM LYM K 35 [some (.ref 0), some (vi x1), some (vi x2), some (vi x3), some (vi x4), none, none, none, none, none] [] σ (k35 σ x1 x2 x3 x4)) (h49 : ∀ σ x1 x2 x3 x4 x5, WA 3 0 1 cX11_tracks RX11 10 (some .int) LYM LYM K 49 [some (.ref 0), some (vi x1), some (vi x2), some (vi x3), some (vi x4), some (vi x5), none, none, none, none] [] σ (k49 σ x1 x2 x3 x4 x5)) (self : St → Int → Int → Int → Int → Int → Int → Int → Int → Option (Int × St)) (hself : ∀ σ x1 x2 x3 x4 x5 x7 x8 x9, WA 3 0 1 cX11_tracks RX11 10 (some .int) LYM LYM K 119 [some (.ref 0), some (vi x1), some (vi x2), some (vi x3), some (vi x4), some (vi x5), none, some (vi x7), some (vi x8), some (vi x9)] [] σ (self σ x1 x2 x3 x4 x5 x7 x8 x9)) (σ : St) (x1 x2 x3 x4 x5 x7 x8 x9 : Int) : WA 3 0 1 cX11_tracks RX11 10 (some .int) LYM LYM K 119 [some (.ref 0), some (vi x1), some (vi x2), some (vi x3), some (vi x4), some (vi x5), none, some (vi x7), some (vi x8), some (vi x9)] [] σ (b_M_tracks_119 F k35 k49 self σ x1 x2 x3 x4 x5 x7 x8 x9) := by
  unfold b_M_tracks_119
  refine a_iload dX11_tracks_119 rfl ?_
  refine a_iload_n dX11_tracks_121 rfl ?_
  refine a_icmp_ge dX11_tracks_122 rfl (fun _ => ?_) (fun _ => ?_)
  · refine a_iload dX11_tracks_196 rfl ?_
    refine a_if_ne dX11_tracks_198 rfl (fun _ => ?_) (fun _ => ?_)
    · refine a_bv fun x3_20 ex3_20 => ?_
      refine a_iinc (y := x3_20) (L' := [some (.ref 0), some (vi x1), some (vi x2), some (vi x3_20), some (vi x4), some (vi x5), none, some (vi x7), some (vi x8), some (vi x9)]) dX11_tracks_204 rfl ex3_20 rfl rfl rfl ?_
      refine a_iload_n dX11_tracks_207 rfl ?_
      refine a_iconst dX11_tracks_208 ?_
      refine a_icmp_le dX11_tracks_209 rfl (fun _ => ?_) (fun _ => ?_)
      · refine a_aload_n dX11_tracks_215 rfl ?_
        refine a_getR (c0 := 13) fl_X11_68 lyM_0 rfl dX11_tracks_216 (key := 36) rfl ?_
        refine a_iconst dX11_tracks_219 ?_
        refine a_iload dX11_tracks_220 rfl ?_
        refine a_iast lyM_13 rfl dX11_tracks_222 fun σ21 => ?_
        refine a_aload_n dX11_tracks_223 rfl ?_
        refine a_getR (c0 := 13) fl_X11_68 lyM_0 rfl dX11_tracks_224 (key := 36) rfl ?_
        refine a_iconst dX11_tracks_227 ?_
        refine a_iload dX11_tracks_228 rfl ?_
        refine a_iast lyM_13 rfl dX11_tracks_230 fun σ22 => ?_
        refine a_aload_n dX11_tracks_231 rfl ?_
        refine a_getR (c0 := 13) fl_X11_68 lyM_0 rfl dX11_tracks_232 (key := 36) rfl ?_
        refine a_iconst dX11_tracks_235 ?_
        refine a_iload dX11_tracks_236 rfl ?_
        refine a_iast lyM_13 rfl dX11_tracks_238 fun σ23 => ?_
        refine a_aload_n dX11_tracks_239 rfl ?_
        refine a_iconst dX11_tracks_240 ?_
        refine a_putZ fl_X11_347 cf_X11 rfl rfl lyM_0 rfl dX11_tracks_241 (key := 37) rfl fun σ24 => ?_
        refine a_bv fun x5_25 ex5_25 => ?_
        refine a_iinc (y := x5_25) (L' := [some (.ref 0), some (vi x1), some (vi x2), some (vi x3_20), some (vi x4), some (vi x5_25), none, some (vi x7), some (vi x8), some (vi x9)]) dX11_tracks_244 rfl ex5_25 rfl rfl rfl ?_
        refine a_goto dX11_tracks_247 rfl ?_
        exact a_L (lsub_get (A := [some (.ref 0), some (vi x1), some (vi x2), some (vi x3_20), some (vi x4), some (vi x5_25), none, none, none, none]) ⟨rfl, ⟨rfl, ⟨rfl, ⟨rfl, ⟨rfl, ⟨rfl, trivial⟩⟩⟩⟩⟩⟩) (h49 _ _ _ _ _ _)
      refine a_goto dX11_tracks_212 rfl ?_
      refine a_bv fun x5_26 ex5_26 => ?_
      refine a_iinc (y := x5_26) (L' := [some (.ref 0), some (vi x1), some (vi x2), some (vi x3_20), some (vi x4), some (vi x5_26), none, some (vi x7), some (vi x8), some (vi x9)]) dX11_tracks_244 rfl ex5_26 rfl rfl rfl ?_
      refine a_goto dX11_tracks_247 rfl ?_
      exact a_L (lsub_get (A := [some (.ref 0), some (vi x1), some (vi x2), some (vi x3_20), some (vi x4), some (vi x5_26), none, none, none, none]) ⟨rfl, ⟨rfl, ⟨rfl, ⟨rfl, ⟨rfl, ⟨rfl, trivial⟩⟩⟩⟩⟩⟩) (h49 _ _ _ _ _ _)
    refine a_goto dX11_tracks_201 rfl ?_
    refine a_bv fun x5_27 ex5_27 => ?_
    refine a_iinc (y := x5_27) (L' := [some (.ref 0), some (vi x1), some (vi x2), some (vi x3), some (vi x4), some (vi x5_27), none, some (vi x7), some (vi x8), some (vi x9)]) dX11_tracks_244 rfl ex5_27 rfl rfl rfl ?_
    refine a_goto dX11_tracks_247 rfl ?_
    exact a_L (lsub_get (A := [some (.ref 0), some (vi x1), some (vi x2), some (vi x3), some (vi x4), some (vi x5_27), none, none, none, none]) ⟨rfl, ⟨rfl, ⟨rfl, ⟨rfl, ⟨rfl, ⟨rfl, trivial⟩⟩⟩⟩⟩⟩) (h49 _ _ _ _ _ _)
  refine a_iload dX11_tracks_125 rfl ?_
  refine a_if_eq dX11_tracks_127 rfl (fun _ => ?_) (fun _ => ?_)
  · refine a_iload dX11_tracks_196 rfl ?_
    refine a_if_ne dX11_tracks_198 rfl (fun _ => ?_) (fun _ => ?_)
    · refine a_bv fun x3_28 ex3_28 => ?_
      refine a_iinc (y := x3_28) (L' := [some (.ref 0), some (vi x1), some (vi x2), some (vi x3_28), some (vi x4), some (vi x5), none, some (vi x7), some (vi x8), some (vi x9)]) dX11_tracks_204 rfl ex3_28 rfl rfl rfl ?_
      refine a_iload_n dX11_tracks_207 rfl ?_
      refine a_iconst dX11_tracks_208 ?_
      refine a_icmp_le dX11_tracks_209 rfl (fun _ => ?_) (fun _ => ?_)
      · refine a_aload_n dX11_tracks_215 rfl ?_
        refine a_getR (c0 := 13) fl_X11_68 lyM_0 rfl dX11_tracks_216 (key := 36) rfl ?_
        refine a_iconst dX11_tracks_219 ?_
        refine a_iload dX11_tracks_220 rfl ?_
        refine a_iast lyM_13 rfl dX11_tracks_222 fun σ29 => ?_
        refine a_aload_n dX11_tracks_223 rfl ?_
        refine a_getR (c0 := 13) fl_X11_68 lyM_0 rfl dX11_tracks_224 (key := 36) rfl ?_
        refine a_iconst dX11_tracks_227 ?_
        refine a_iload dX11_tracks_228 rfl ?_
        refine a_iast lyM_13 rfl dX11_tracks_230 fun σ30 => ?_
        refine a_aload_n dX11_tracks_231 rfl ?_
        refine a_getR (c0 := 13) fl_X11_68 lyM_0 rfl dX11_tracks_232 (key := 36) rfl ?_
        refine a_iconst dX11_tracks_235 ?_
        refine a_iload dX11_tracks_236 rfl ?_
        refine a_iast lyM_13 rfl dX11_tracks_238 fun σ31 => ?_
        refine a_aload_n dX11_tracks_239 rfl ?_
        refine a_iconst dX11_tracks_240 ?_
        refine a_putZ fl_X11_347 cf_X11 rfl rfl lyM_0 rfl dX11_tracks_241 (key := 37) rfl fun σ32 => ?_
        refine a_bv fun x5_33 ex5_33 => ?_
        refine a_iinc (y := x5_33) (L' := [some (.ref 0), some (vi x1), some (vi x2), some (vi x3_28), some (vi x4), some (vi x5_33), none, some (vi x7), some (vi x8), some (vi x9)]) dX11_tracks_244 rfl ex5_33 rfl rfl rfl ?_
        refine a_goto dX11_tracks_247 rfl ?_
        exact a_L (lsub_get (A := [some (.ref 0), some (vi x1), some (vi x2), some (vi x3_28), some (vi x4), some (vi x5_33), none, none, none, none]) ⟨rfl, ⟨rfl, ⟨rfl, ⟨rfl, ⟨rfl, ⟨rfl, trivial⟩⟩⟩⟩⟩⟩) (h49 _ _ _ _ _ _)
      refine a_goto dX11_tracks_212 rfl ?_
      refine a_bv fun x5_34 ex5_34 => ?_
      refine a_iinc (y := x5_34) (L' := [some (.ref 0), some (vi x1), some (vi x2), some (vi x3_28), some (vi x4), some (vi x5_34), none, some (vi x7), some (vi x8), some (vi x9)]) dX11_tracks_244 rfl ex5_34 rfl rfl rfl ?_
      refine a_goto dX11_tracks_247 rfl ?_
      exact a_L (lsub_get (A := [some (.ref 0), some (vi x1), some (vi x2), some (vi x3_28), some (vi x4), some (vi x5_34), none, none, none, none]) ⟨rfl, ⟨rfl, ⟨rfl, ⟨rfl, ⟨rfl, ⟨rfl, trivial⟩⟩⟩⟩⟩⟩) (h49 _ _ _ _ _ _)
    refine a_goto dX11_tracks_201 rfl ?_
    refine a_bv fun x5_35 ex5_35 => ?_
    refine a_iinc (y := x5_35) (L' := [some (.ref 0), some (vi x1), some (vi x2), some (vi x3), some (vi x4), some (vi x5_35), none, some (vi x7), some (vi x8), some (vi x9)]) dX11_tracks_244 rfl ex5_35 rfl rfl rfl ?_
    refine a_goto dX11_tracks_247 rfl ?_
    exact a_L (lsub_get (A := [some (.ref 0), some (vi x1), some (vi x2), some (vi x3), some (vi x4), some (vi x5_35), none, none, none, none]) ⟨rfl, ⟨rfl, ⟨rfl, ⟨rfl, ⟨rfl, ⟨rfl, trivial⟩⟩⟩⟩⟩⟩) (h49 _ _ _ _ _ _)
  refine a_aload_n dX11_tracks_130 rfl ?_
  refine a_iload_n dX11_tracks_131 rfl ?_
  refine a_callVi (as := [vi x1]) mf_X11_279 lyM_0 rfl (c_M_gain F _ _) LYsame.rf dX11_tracks_132 rfl rfl rfl rfl rfl rfl (Or.inl rfl) fun r36 σ37 => ?_
  refine a_iload dX11_tracks_135 rfl ?_
  refine a_imul dX11_tracks_137 ?_
  refine a_aload_n dX11_tracks_138 rfl ?_
  refine a_getI fl_X11_230 lyM_0 rfl dX11_tracks_139 (key := 20) rfl ?_
  refine a_irem dX11_tracks_142 (fun _ => ?_)
  refine a_bvi fun t38 => ?_
  refine a_aload_n dX11_tracks_143 rfl ?_
  refine a_iload dX11_tracks_144 rfl ?_
  refine a_iload dX11_tracks_146 rfl ?_
  refine a_iload dX11_tracks_148 rfl ?_
  refine a_imul dX11_tracks_150 ?_
  refine a_iadd dX11_tracks_151 ?_
  refine a_aload_n dX11_tracks_152 rfl ?_
  refine a_getR (c0 := 2) fl_X11_33 lyM_0 rfl dX11_tracks_153 (key := 6) rfl ?_
  refine a_iconst dX11_tracks_156 ?_
  refine a_iald lyM_2 rfl dX11_tracks_157 ?_
  refine a_irem dX11_tracks_158 (fun _ => ?_)
  refine a_bvi fun t39 => ?_
  refine a_aload_n dX11_tracks_159 rfl ?_
  refine a_iload_n dX11_tracks_160 rfl ?_
  refine a_callVi (as := [vi x1]) mf_X11_276 lyM_0 rfl (c_M_place F _ _) LYsame.rf dX11_tracks_161 rfl rfl rfl rfl rfl rfl (Or.inl rfl) fun r40 σ41 => ?_
  refine a_callVi (as := [vi t39, vi r40]) mf_X11_273 lyM_0 rfl (c_M_waveOf F _ _ _) LYsame.rf dX11_tracks_164 rfl rfl rfl rfl rfl rfl (Or.inl rfl) fun r42 σ43 => ?_
  refine a_imul dX11_tracks_167 ?_
  refine a_aload_n dX11_tracks_168 rfl ?_
  refine a_getI fl_X11_230 lyM_0 rfl dX11_tracks_169 (key := 20) rfl ?_
  refine a_irem dX11_tracks_172 (fun _ => ?_)
  refine a_bvi fun t44 => ?_
  refine a_aload_n dX11_tracks_173 rfl ?_
  refine a_getR (c0 := 12) fl_X11_65 lyM_0 rfl dX11_tracks_174 (key := 35) rfl ?_
  refine a_iload dX11_tracks_177 rfl ?_
  refine a_iald lyM_12 rfl dX11_tracks_179 ?_
  refine a_icmp_ne dX11_tracks_180 rfl (fun _ => ?_) (fun _ => ?_)
  · refine a_iconst dX11_tracks_187 ?_
    refine a_istore (L' := [some (.ref 0), some (vi x1), some (vi x2), some (vi x3), some (vi x4), some (vi x5), none, some (vi x7), some (vi 0), some (vi x9)]) dX11_tracks_188 rfl rfl rfl rfl ?_
    refine a_bv fun x9_45 ex9_45 => ?_
    refine a_iinc (y := x9_45) (L' := [some (.ref 0), some (vi x1), some (vi x2), some (vi x3), some (vi x4), some (vi x5), none, some (vi x7), some (vi 0), some (vi x9_45)]) dX11_tracks_190 rfl ex9_45 rfl rfl rfl ?_
    refine a_goto dX11_tracks_193 rfl ?_
    exact hself _ _ _ _ _ _ _ _ _
  refine a_iconst dX11_tracks_183 ?_
  refine a_goto dX11_tracks_184 rfl ?_
  refine a_istore (L' := [some (.ref 0), some (vi x1), some (vi x2), some (vi x3), some (vi x4), some (vi x5), none, some (vi x7), some (vi 1), some (vi x9)]) dX11_tracks_188 rfl rfl rfl rfl ?_
  refine a_bv fun x9_46 ex9_46 => ?_
  refine a_iinc (y := x9_46) (L' := [some (.ref 0), some (vi x1), some (vi x2), some (vi x3), some (vi x4), some (vi x5), none, some (vi x7), some (vi 1), some (vi x9_46)]) dX11_tracks_190 rfl ex9_46 rfl rfl rfl ?_
  refine a_goto dX11_tracks_193 rfl ?_
  exact hself _ _ _ _ _ _ _ _ _
set_option maxRecDepth 100000 in
set_option maxHeartbeats 4000000 in
theorem cl_M_tracks_119 {K : KX} (F : Nat) (k35 : St → Int → Int → Int → Int → Option (Int × St)) (k49 : St → Int → Int → Int → Int → Int → Option (Int × St)) (h35 : ∀ σ x1 x2 x3 x4, WA 3 0 1 cX11_tracks RX11 10 (some .int) LYM LYM K 35 [some (.ref 0), some (vi x1), some (vi x2), some (vi x3), some (vi x4), none, none, none, none, none] [] σ (k35 σ x1 x2 x3 x4)) (h49 : ∀ σ x1 x2 x3 x4 x5, WA 3 0 1 cX11_tracks RX11 10 (some .int) LYM LYM K 49 [some (.ref 0), some (vi x1), some (vi x2), some (vi x3), some (vi x4), some (vi x5), none, none, none, none] [] σ (k49 σ x1 x2 x3 x4 x5)) : ∀ (n : Nat) (σ : St) (x1 x2 x3 x4 x5 x7 x8 x9 : Int), WA 3 0 1 cX11_tracks RX11 10 (some .int) LYM LYM K 119 [some (.ref 0), some (vi x1), some (vi x2), some (vi x3), some (vi x4), some (vi x5), none, some (vi x7), some (vi x8), some (vi x9)] [] σ (l_M_tracks_119 F k35 k49 n σ x1 x2 x3 x4 x5 x7 x8 x9)
  | 0, _, _, _, _, _, _, _, _, _ => a_none
  | n + 1, σ, x1, x2, x3, x4, x5, x7, x8, x9 => cb_M_tracks_119 F k35 k49 h35 h49 _ (cl_M_tracks_119 F k35 k49 h35 h49 n) σ x1 x2 x3 x4 x5 x7 x8 x9
set_option maxRecDepth 100000 in
set_option maxHeartbeats 4000000 in
theorem cb_M_tracks_49 {K : KX} (F : Nat) (k35 : St → Int → Int → Int → Int → Option (Int × St)) (h35 : ∀ σ x1 x2 x3 x4, WA 3 0 1 cX11_tracks RX11 10 (some .int) LYM LYM K 35 [some (.ref 0), some (vi x1), some (vi x2), some (vi x3), some (vi x4), none, none, none, none, none] [] σ (k35 σ x1 x2 x3 x4)) (self : St → Int → Int → Int → Int → Int → Option (Int × St)) (hself : ∀ σ x1 x2 x3 x4 x5, WA 3 0 1 cX11_tracks RX11 10 (some .int) LYM LYM K 49 [some (.ref 0), some (vi x1), some (vi x2), some (vi x3), some (vi x4), some (vi x5), none, none, none, none] [] σ (self σ x1 x2 x3 x4 x5)) (σ : St) (x1 x2 x3 x4 x5 : Int) : WA 3 0 1 cX11_tracks RX11 10 (some .int) LYM LYM K 49 [some (.ref 0), some (vi x1), some (vi x2), some (vi x3), some (vi x4), some (vi x5), none, none, none, none] [] σ (b_M_tracks_49 F k35 self σ x1 x2 x3 x4 x5) := by
  unfold b_M_tracks_49
  refine a_iload dX11_tracks_49 rfl ?_
  refine a_aload_n dX11_tracks_51 rfl ?_
  refine a_getR (c0 := 2) fl_X11_33 lyM_0 rfl dX11_tracks_52 (key := 6) rfl ?_
  refine a_iconst dX11_tracks_55 ?_
  refine a_iald lyM_2 rfl dX11_tracks_56 ?_
  refine a_icmp_ge dX11_tracks_57 rfl (fun _ => ?_) (fun _ => ?_)
  · refine a_bv fun x4_8 ex4_8 => ?_
    refine a_iinc (y := x4_8) (L' := [some (.ref 0), some (vi x1), some (vi x2), some (vi x3), some (vi x4_8), some (vi x5), none, none, none, none]) dX11_tracks_250 rfl ex4_8 rfl rfl rfl ?_
    refine a_goto dX11_tracks_253 rfl ?_
    exact a_L (lsub_get (A := [some (.ref 0), some (vi x1), some (vi x2), some (vi x3), some (vi x4_8), none, none, none, none, none]) ⟨rfl, ⟨rfl, ⟨rfl, ⟨rfl, ⟨rfl, trivial⟩⟩⟩⟩⟩) (h35 _ _ _ _ _)
  refine a_aload_n dX11_tracks_60 rfl ?_
  refine a_iload_n dX11_tracks_61 rfl ?_
  refine a_callVi (as := [vi x1]) mf_X11_279 lyM_0 rfl (c_M_gain F _ _) LYsame.rf dX11_tracks_62 rfl rfl rfl rfl rfl rfl (Or.inl rfl) fun r9 σ10 => ?_
  refine a_aload_n dX11_tracks_65 rfl ?_
  refine a_iload dX11_tracks_66 rfl ?_
  refine a_aload_n dX11_tracks_68 rfl ?_
  refine a_iload_n dX11_tracks_69 rfl ?_
  refine a_callVi (as := [vi x1]) mf_X11_276 lyM_0 rfl (c_M_place F _ _) LYsame.rf dX11_tracks_70 rfl rfl rfl rfl rfl rfl (Or.inl rfl) fun r11 σ12 => ?_
  refine a_callVi (as := [vi x4, vi r11]) mf_X11_273 lyM_0 rfl (c_M_waveOf F _ _ _) LYsame.rf dX11_tracks_73 rfl rfl rfl rfl rfl rfl (Or.inl rfl) fun r13 σ14 => ?_
  refine a_imul dX11_tracks_76 ?_
  refine a_aload_n dX11_tracks_77 rfl ?_
  refine a_getI fl_X11_230 lyM_0 rfl dX11_tracks_78 (key := 20) rfl ?_
  refine a_irem dX11_tracks_81 (fun _ => ?_)
  refine a_bvi fun t15 => ?_
  refine a_istore (L' := [some (.ref 0), some (vi x1), some (vi x2), some (vi x3), some (vi x4), some (vi x5), some (vi t15), none, none, none]) dX11_tracks_82 rfl rfl rfl rfl ?_
  refine a_iload dX11_tracks_84 rfl ?_
  refine a_if_ne dX11_tracks_86 rfl (fun _ => ?_) (fun _ => ?_)
  · refine a_aload_n dX11_tracks_93 rfl ?_
    refine a_getR (c0 := 12) fl_X11_65 lyM_0 rfl dX11_tracks_94 (key := 35) rfl ?_
    refine a_iconst dX11_tracks_97 ?_
    refine a_iald lyM_12 rfl dX11_tracks_98 ?_
    refine a_aload_n dX11_tracks_99 rfl ?_
    refine a_iload dX11_tracks_100 rfl ?_
    refine a_callVi (as := [vi t15]) mf_X11_254 lyM_0 rfl (c_M_inverse F _ _) LYsame.rf dX11_tracks_102 rfl rfl rfl rfl rfl rfl (Or.inl rfl) fun r16 σ17 => ?_
    refine a_imul dX11_tracks_105 ?_
    refine a_bvi fun t18 => ?_
    refine a_aload_n dX11_tracks_106 rfl ?_
    refine a_getI fl_X11_230 lyM_0 rfl dX11_tracks_107 (key := 20) rfl ?_
    refine a_irem dX11_tracks_110 (fun _ => ?_)
    refine a_bv fun x7_19 ex7_19 => ?_
    refine a_istore (y := x7_19) (L' := [some (.ref 0), some (vi x1), some (vi x2), some (vi x3), some (vi x4), some (vi x5), some (vi t15), some (vi x7_19), none, none]) dX11_tracks_111 ex7_19 rfl rfl rfl ?_
    refine a_iconst dX11_tracks_113 ?_
    refine a_istore (L' := [some (.ref 0), some (vi x1), some (vi x2), some (vi x3), some (vi x4), some (vi x5), some (vi t15), some (vi x7_19), some (vi 1), none]) dX11_tracks_114 rfl rfl rfl rfl ?_
    refine a_iconst dX11_tracks_116 ?_
    refine a_istore (L' := [some (.ref 0), some (vi x1), some (vi x2), some (vi x3), some (vi x4), some (vi x5), some (vi t15), some (vi x7_19), some (vi 1), some (vi 0)]) dX11_tracks_117 rfl rfl rfl rfl ?_
    exact a_L (lsub_get (A := [some (.ref 0), some (vi x1), some (vi x2), some (vi x3), some (vi x4), some (vi x5), none, some (vi x7_19), some (vi 1), some (vi 0)]) ⟨rfl, ⟨rfl, ⟨rfl, ⟨rfl, ⟨rfl, ⟨rfl, ⟨rfl, ⟨rfl, ⟨rfl, trivial⟩⟩⟩⟩⟩⟩⟩⟩⟩) (cl_M_tracks_119 F _ _ h35 hself F _ _ _ _ _ _ _ _ _)
  refine a_iconst dX11_tracks_89 ?_
  refine a_goto dX11_tracks_90 rfl ?_
  refine a_istore (L' := [some (.ref 0), some (vi x1), some (vi x2), some (vi x3), some (vi x4), some (vi x5), some (vi t15), some (vi 0), none, none]) dX11_tracks_111 rfl rfl rfl rfl ?_
  refine a_iconst dX11_tracks_113 ?_
  refine a_istore (L' := [some (.ref 0), some (vi x1), some (vi x2), some (vi x3), some (vi x4), some (vi x5), some (vi t15), some (vi 0), some (vi 1), none]) dX11_tracks_114 rfl rfl rfl rfl ?_
  refine a_iconst dX11_tracks_116 ?_
  refine a_istore (L' := [some (.ref 0), some (vi x1), some (vi x2), some (vi x3), some (vi x4), some (vi x5), some (vi t15), some (vi 0), some (vi 1), some (vi 0)]) dX11_tracks_117 rfl rfl rfl rfl ?_
  exact a_L (lsub_get (A := [some (.ref 0), some (vi x1), some (vi x2), some (vi x3), some (vi x4), some (vi x5), none, some (vi 0), some (vi 1), some (vi 0)]) ⟨rfl, ⟨rfl, ⟨rfl, ⟨rfl, ⟨rfl, ⟨rfl, ⟨rfl, ⟨rfl, ⟨rfl, trivial⟩⟩⟩⟩⟩⟩⟩⟩⟩) (cl_M_tracks_119 F _ _ h35 hself F _ _ _ _ _ _ _ _ _)
set_option maxRecDepth 100000 in
set_option maxHeartbeats 4000000 in
theorem cl_M_tracks_49 {K : KX} (F : Nat) (k35 : St → Int → Int → Int → Int → Option (Int × St)) (h35 : ∀ σ x1 x2 x3 x4, WA 3 0 1 cX11_tracks RX11 10 (some .int) LYM LYM K 35 [some (.ref 0), some (vi x1), some (vi x2), some (vi x3), some (vi x4), none, none, none, none, none] [] σ (k35 σ x1 x2 x3 x4)) : ∀ (n : Nat) (σ : St) (x1 x2 x3 x4 x5 : Int), WA 3 0 1 cX11_tracks RX11 10 (some .int) LYM LYM K 49 [some (.ref 0), some (vi x1), some (vi x2), some (vi x3), some (vi x4), some (vi x5), none, none, none, none] [] σ (l_M_tracks_49 F k35 n σ x1 x2 x3 x4 x5)
  | 0, _, _, _, _, _, _ => a_none
  | n + 1, σ, x1, x2, x3, x4, x5 => cb_M_tracks_49 F k35 h35 _ (cl_M_tracks_49 F k35 h35 n) σ x1 x2 x3 x4 x5
set_option maxRecDepth 100000 in
set_option maxHeartbeats 4000000 in
theorem cb_M_tracks_35 {K : KX} (F : Nat) (self : St → Int → Int → Int → Int → Option (Int × St)) (hself : ∀ σ x1 x2 x3 x4, WA 3 0 1 cX11_tracks RX11 10 (some .int) LYM LYM K 35 [some (.ref 0), some (vi x1), some (vi x2), some (vi x3), some (vi x4), none, none, none, none, none] [] σ (self σ x1 x2 x3 x4)) (σ : St) (x1 x2 x3 x4 : Int) : WA 3 0 1 cX11_tracks RX11 10 (some .int) LYM LYM K 35 [some (.ref 0), some (vi x1), some (vi x2), some (vi x3), some (vi x4), none, none, none, none, none] [] σ (b_M_tracks_35 F self σ x1 x2 x3 x4) := by
  unfold b_M_tracks_35
  refine a_iload dX11_tracks_35 rfl ?_
  refine a_aload_n dX11_tracks_37 rfl ?_
  refine a_getR (c0 := 2) fl_X11_33 lyM_0 rfl dX11_tracks_38 (key := 6) rfl ?_
  refine a_iconst dX11_tracks_41 ?_
  refine a_iald lyM_2 rfl dX11_tracks_42 ?_
  refine a_icmp_ge dX11_tracks_43 rfl (fun _ => ?_) (fun _ => ?_)
  · refine a_iload_n dX11_tracks_256 rfl ?_
    exact a_iret dX11_tracks_257
  refine a_iconst dX11_tracks_46 ?_
  refine a_istore (L' := [some (.ref 0), some (vi x1), some (vi x2), some (vi x3), some (vi x4), some (vi 0), none, none, none, none]) dX11_tracks_47 rfl rfl rfl rfl ?_
  exact cl_M_tracks_49 F _ hself F _ _ _ _ _ _
set_option maxRecDepth 100000 in
set_option maxHeartbeats 4000000 in
theorem cl_M_tracks_35 {K : KX} (F : Nat) : ∀ (n : Nat) (σ : St) (x1 x2 x3 x4 : Int), WA 3 0 1 cX11_tracks RX11 10 (some .int) LYM LYM K 35 [some (.ref 0), some (vi x1), some (vi x2), some (vi x3), some (vi x4), none, none, none, none, none] [] σ (l_M_tracks_35 F n σ x1 x2 x3 x4)
  | 0, _, _, _, _, _ => a_none
  | n + 1, σ, x1, x2, x3, x4 => cb_M_tracks_35 F _ (cl_M_tracks_35 F n) σ x1 x2 x3 x4
set_option maxRecDepth 100000 in
set_option maxHeartbeats 4000000 in
theorem c_M_tracks (F : Nat) (σ : St) (x1 : Int) : Ct 3 0 1 yX11_tracks cX11_tracks 10 (some .int) LYM LYM [.ref 0, vi x1] σ (f_M_tracks F σ x1) := by
  unfold f_M_tracks
  refine Ct_of (d := 3) (kp := 0) (kd := 1) (own := RX11) (nL := 10) (ret := (some .int)) (LY := LYM) (LYe := LYM) (L := [some (.ref 0), some (vi x1), none, none, none, none, none, none, none, none]) rfl (by decide +kernel) rfl rfl mf_L_127.2.2.2.1 rfl fun K => ?_
  refine a_aload_n dX11_tracks_0 rfl ?_
  refine a_iconst dX11_tracks_1 ?_
  refine a_putI fl_X11_1 cf_X11 rfl rfl lyM_0 rfl dX11_tracks_2 (key := 0) rfl fun σ1 => ?_
  refine a_aload_n dX11_tracks_5 rfl ?_
  refine a_callVi (as := []) mf_X11_344 lyM_0 rfl (c_M_takesReadings F _) LYsame.rf dX11_tracks_6 rfl rfl rfl rfl rfl rfl (Or.inl rfl) fun r2 σ3 => ?_
  refine a_istore_n (L' := [some (.ref 0), some (vi x1), some (vi r2), none, none, none, none, none, none, none]) dX11_tracks_9 rfl rfl rfl rfl ?_
  refine a_aload_n dX11_tracks_10 rfl ?_
  refine a_iload_n dX11_tracks_11 rfl ?_
  refine a_callVi (as := [vi x1]) mf_X11_261 lyM_0 rfl (c_M_isHearer F _ _) LYsame.rf dX11_tracks_12 rfl rfl rfl rfl rfl rfl (Or.inl rfl) fun r4 σ5 => ?_
  refine a_if_eq dX11_tracks_15 rfl (fun _ => ?_) (fun _ => ?_)
  · refine a_iconst dX11_tracks_28 ?_
    exact a_iret dX11_tracks_29
  refine a_iload_n dX11_tracks_18 rfl ?_
  refine a_iconst dX11_tracks_19 ?_
  refine a_bipush dX11_tracks_20 bi_8 ?_
  refine a_callSi (as := [vi r2, vi 1, vi 8]) mf_X11_175 (c_M_isIn F _ _ _ _) LYsame.rf dX11_tracks_22 rfl rfl rfl rfl rfl rfl (Or.inl rfl) fun r6 σ7 => ?_
  refine a_if_ne dX11_tracks_25 rfl (fun _ => ?_) (fun _ => ?_)
  · refine a_iconst dX11_tracks_30 ?_
    refine a_istore_n (L' := [some (.ref 0), some (vi x1), some (vi r2), some (vi 0), none, none, none, none, none, none]) dX11_tracks_31 rfl rfl rfl rfl ?_
    refine a_iconst dX11_tracks_32 ?_
    refine a_istore (L' := [some (.ref 0), some (vi x1), some (vi r2), some (vi 0), some (vi 0), none, none, none, none, none]) dX11_tracks_33 rfl rfl rfl rfl ?_
    exact cl_M_tracks_35 F F _ _ _ _ _
  refine a_iconst dX11_tracks_28 ?_
  exact a_iret dX11_tracks_29
def f_M_track (F : Nat) (σ : St) (x1 : Int) : Option (Int × St) := bs (sF σ 0 0) fun σ1 => gd (rng (gF σ1 37)) (if (gF σ1 37) = 0 then some ((-1), σ1) else bnd (f_M_isIn F σ1 x1 0 2) fun r2 σ3 => gd (rng r2) (if r2 = 0 then some ((-1), σ3) else gd (inb x1 3) (some ((gA σ3 13 (Int.toNat x1)), σ3))))
set_option maxRecDepth 100000 in
set_option maxHeartbeats 4000000 in
theorem c_M_track (F : Nat) (σ : St) (x1 : Int) : Ct 2 0 1 yX11_track cX11_track 2 (some .int) LYM LYM [.ref 0, vi x1] σ (f_M_track F σ x1) := by
  unfold f_M_track
  refine Ct_of (d := 2) (kp := 0) (kd := 1) (own := RX11) (nL := 2) (ret := (some .int)) (LY := LYM) (LYe := LYM) (L := [some (.ref 0), some (vi x1)]) rfl (by decide +kernel) rfl rfl mf_L_131.2.2.2.1 rfl fun K => ?_
  refine a_aload_n dX11_track_0 rfl ?_
  refine a_iconst dX11_track_1 ?_
  refine a_putI fl_X11_1 cf_X11 rfl rfl lyM_0 rfl dX11_track_2 (key := 0) rfl fun σ1 => ?_
  refine a_aload_n dX11_track_5 rfl ?_
  refine a_getI fl_X11_347 lyM_0 rfl dX11_track_6 (key := 37) rfl ?_
  refine a_if_eq dX11_track_9 rfl (fun _ => ?_) (fun _ => ?_)
  · refine a_iconst dX11_track_30 ?_
    exact a_iret dX11_track_31
  refine a_iload_n dX11_track_12 rfl ?_
  refine a_iconst dX11_track_13 ?_
  refine a_iconst dX11_track_14 ?_
  refine a_callSi (as := [vi x1, vi 0, vi 2]) mf_X11_175 (c_M_isIn F _ _ _ _) LYsame.rf dX11_track_15 rfl rfl rfl rfl rfl rfl (Or.inl rfl) fun r2 σ3 => ?_
  refine a_if_eq dX11_track_18 rfl (fun _ => ?_) (fun _ => ?_)
  · refine a_iconst dX11_track_30 ?_
    exact a_iret dX11_track_31
  refine a_aload_n dX11_track_21 rfl ?_
  refine a_getR (c0 := 13) fl_X11_68 lyM_0 rfl dX11_track_22 (key := 36) rfl ?_
  refine a_iload_n dX11_track_25 rfl ?_
  refine a_iald lyM_13 rfl dX11_track_26 ?_
  refine a_goto dX11_track_27 rfl ?_
  exact a_iret dX11_track_31
def b_M_isEnough_2 (F : Nat) (self : St → Int → Int → Option (Int × St)) (σ : St) (x1 x2 : Int) : Option (Int × St) := gd (inb 0 82) (gd (rng x2 ∧ rng (gA σ 2 (Int.toNat 0))) (if (gA σ 2 (Int.toNat 0)) ≤ x2 then some (1, σ) else bnd (f_M_areTwins F σ 0 x2 x1) fun r1 σ2 => gd (rng r1) (if r1 = 0 then bv (x2 + 1) fun x2_3 => self σ2 x1 x2_3 else some (0, σ2))))
def l_M_isEnough_2 (F : Nat) : Nat → St → Int → Int → Option (Int × St)
  | 0 => fun _ _ _ => none
  | n + 1 => fun σ x1 x2 => b_M_isEnough_2 F (l_M_isEnough_2 F n) σ x1 x2
def f_M_isEnough (F : Nat) (σ : St) (x1 : Int) : Option (Int × St) := l_M_isEnough_2 F F σ x1 1
set_option maxRecDepth 100000 in
set_option maxHeartbeats 4000000 in
theorem cb_M_isEnough_2 {K : KX} (F : Nat) (self : St → Int → Int → Option (Int × St)) (hself : ∀ σ x1 x2, WA 3 0 1 cX11_isEnough RX11 3 (some .boolean) LYM LYM K 2 [some (.ref 0), some (vi x1), some (vi x2)] [] σ (self σ x1 x2)) (σ : St) (x1 x2 : Int) : WA 3 0 1 cX11_isEnough RX11 3 (some .boolean) LYM LYM K 2 [some (.ref 0), some (vi x1), some (vi x2)] [] σ (b_M_isEnough_2 F self σ x1 x2) := by
  unfold b_M_isEnough_2
  refine a_iload_n dX11_isEnough_2 rfl ?_
  refine a_aload_n dX11_isEnough_3 rfl ?_
  refine a_getR (c0 := 2) fl_X11_33 lyM_0 rfl dX11_isEnough_4 (key := 6) rfl ?_
  refine a_iconst dX11_isEnough_7 ?_
  refine a_iald lyM_2 rfl dX11_isEnough_8 ?_
  refine a_icmp_ge dX11_isEnough_9 rfl (fun _ => ?_) (fun _ => ?_)
  · refine a_iconst dX11_isEnough_30 ?_
    exact a_zretc (by decide) dX11_isEnough_31
  refine a_aload_n dX11_isEnough_12 rfl ?_
  refine a_iconst dX11_isEnough_13 ?_
  refine a_iload_n dX11_isEnough_14 rfl ?_
  refine a_iload_n dX11_isEnough_15 rfl ?_
  refine a_callVi (as := [vi 0, vi x2, vi x1]) mf_X11_299 lyM_0 rfl (c_M_areTwins F _ _ _ _) LYsame.rf dX11_isEnough_16 rfl rfl rfl rfl rfl rfl (Or.inl rfl) fun r1 σ2 => ?_
  refine a_if_eq dX11_isEnough_19 rfl (fun _ => ?_) (fun _ => ?_)
  · refine a_bv fun x2_3 ex2_3 => ?_
    refine a_iinc (y := x2_3) (L' := [some (.ref 0), some (vi x1), some (vi x2_3)]) dX11_isEnough_24 rfl ex2_3 rfl rfl rfl ?_
    refine a_goto dX11_isEnough_27 rfl ?_
    exact hself _ _ _
  refine a_iconst dX11_isEnough_22 ?_
  exact a_zretc (by decide) dX11_isEnough_23
set_option maxRecDepth 100000 in
set_option maxHeartbeats 4000000 in
theorem cl_M_isEnough_2 {K : KX} (F : Nat) : ∀ (n : Nat) (σ : St) (x1 x2 : Int), WA 3 0 1 cX11_isEnough RX11 3 (some .boolean) LYM LYM K 2 [some (.ref 0), some (vi x1), some (vi x2)] [] σ (l_M_isEnough_2 F n σ x1 x2)
  | 0, _, _, _ => a_none
  | n + 1, σ, x1, x2 => cb_M_isEnough_2 F _ (cl_M_isEnough_2 F n) σ x1 x2
set_option maxRecDepth 100000 in
set_option maxHeartbeats 4000000 in
theorem c_M_isEnough (F : Nat) (σ : St) (x1 : Int) : Ct 3 0 1 yX11_isEnough cX11_isEnough 3 (some .boolean) LYM LYM [.ref 0, vi x1] σ (f_M_isEnough F σ x1) := by
  unfold f_M_isEnough
  refine Ct_of (d := 3) (kp := 0) (kd := 1) (own := RX11) (nL := 3) (ret := (some .boolean)) (LY := LYM) (LYe := LYM) (L := [some (.ref 0), some (vi x1), none]) rfl (by decide +kernel) rfl rfl mf_X11_353.2.2.2.1 rfl fun K => ?_
  refine a_iconst dX11_isEnough_0 ?_
  refine a_istore_n (L' := [some (.ref 0), some (vi x1), some (vi 1)]) dX11_isEnough_1 rfl rfl rfl rfl ?_
  exact cl_M_isEnough_2 F F _ _ _
def b_M_enough_9 (F : Nat) (self : St → Int → Int → Option (Int × St)) (σ : St) (x1 x2 : Int) : Option (Int × St) := gd (inb 1 82) (gd (sh5 (gA σ 2 (Int.toNat 1))) (bv (1 * 2 ^ (Int.toNat (gA σ 2 (Int.toNat 1)))) fun t2 => gd (rng x2 ∧ rng t2) (if t2 ≤ x2 then some (x1, σ) else gd (rng x1) (if x1 < 0 then bnd (f_M_isEnough F σ x2) fun r3 σ4 => gd (rng r3) (if r3 = 0 then bv (x2 + 1) fun x2_5 => self σ4 x1 x2_5 else bv (x2 + 1) fun x2_6 => self σ4 x2 x2_6) else bnd (f_M_bits F σ x2) fun r7 σ8 => bnd (f_M_bits F σ8 x1) fun r9 σ10 => gd (rng r7 ∧ rng r9) (if r9 ≤ r7 then bv (x2 + 1) fun x2_11 => self σ10 x1 x2_11 else bnd (f_M_isEnough F σ10 x2) fun r12 σ13 => gd (rng r12) (if r12 = 0 then bv (x2 + 1) fun x2_14 => self σ13 x1 x2_14 else bv (x2 + 1) fun x2_15 => self σ13 x2 x2_15))))))
def l_M_enough_9 (F : Nat) : Nat → St → Int → Int → Option (Int × St)
  | 0 => fun _ _ _ => none
  | n + 1 => fun σ x1 x2 => b_M_enough_9 F (l_M_enough_9 F n) σ x1 x2
def f_M_enough (F : Nat) (σ : St) : Option (Int × St) := bs (sF σ 0 0) fun σ1 => l_M_enough_9 F F σ1 (-1) 0
set_option maxRecDepth 100000 in
set_option maxHeartbeats 4000000 in
theorem cb_M_enough_9 {K : KX} (F : Nat) (self : St → Int → Int → Option (Int × St)) (hself : ∀ σ x1 x2, WA 4 0 1 cX11_enough RX11 3 (some .int) LYM LYM K 9 [some (.ref 0), some (vi x1), some (vi x2)] [] σ (self σ x1 x2)) (σ : St) (x1 x2 : Int) : WA 4 0 1 cX11_enough RX11 3 (some .int) LYM LYM K 9 [some (.ref 0), some (vi x1), some (vi x2)] [] σ (b_M_enough_9 F self σ x1 x2) := by
  unfold b_M_enough_9
  refine a_iload_n dX11_enough_9 rfl ?_
  refine a_iconst dX11_enough_10 ?_
  refine a_aload_n dX11_enough_11 rfl ?_
  refine a_getR (c0 := 2) fl_X11_33 lyM_0 rfl dX11_enough_12 (key := 6) rfl ?_
  refine a_iconst dX11_enough_15 ?_
  refine a_iald lyM_2 rfl dX11_enough_16 ?_
  refine a_ishl dX11_enough_17 (fun _ => ?_)
  refine a_bvi fun t2 => ?_
  refine a_icmp_ge dX11_enough_18 rfl (fun _ => ?_) (fun _ => ?_)
  · refine a_iload_n dX11_enough_52 rfl ?_
    exact a_iret dX11_enough_53
  refine a_iload_n dX11_enough_21 rfl ?_
  refine a_if_lt dX11_enough_22 rfl (fun _ => ?_) (fun _ => ?_)
  · refine a_aload_n dX11_enough_36 rfl ?_
    refine a_iload_n dX11_enough_37 rfl ?_
    refine a_callVi (as := [vi x2]) mf_X11_353 lyM_0 rfl (c_M_isEnough F _ _) LYsame.rf dX11_enough_38 rfl rfl rfl rfl rfl rfl (Or.inl rfl) fun r3 σ4 => ?_
    refine a_if_eq dX11_enough_41 rfl (fun _ => ?_) (fun _ => ?_)
    · refine a_bv fun x2_5 ex2_5 => ?_
      refine a_iinc (y := x2_5) (L' := [some (.ref 0), some (vi x1), some (vi x2_5)]) dX11_enough_46 rfl ex2_5 rfl rfl rfl ?_
      refine a_goto dX11_enough_49 rfl ?_
      exact hself _ _ _
    refine a_iload_n dX11_enough_44 rfl ?_
    refine a_istore_n (L' := [some (.ref 0), some (vi x2), some (vi x2)]) dX11_enough_45 rfl rfl rfl rfl ?_
    refine a_bv fun x2_6 ex2_6 => ?_
    refine a_iinc (y := x2_6) (L' := [some (.ref 0), some (vi x2), some (vi x2_6)]) dX11_enough_46 rfl ex2_6 rfl rfl rfl ?_
    refine a_goto dX11_enough_49 rfl ?_
    exact hself _ _ _
  refine a_iload_n dX11_enough_25 rfl ?_
  refine a_callSi (as := [vi x2]) mf_X11_350 (c_M_bits F _ _) LYsame.rf dX11_enough_26 rfl rfl rfl rfl rfl rfl (Or.inl rfl) fun r7 σ8 => ?_
  refine a_iload_n dX11_enough_29 rfl ?_
  refine a_callSi (as := [vi x1]) mf_X11_350 (c_M_bits F _ _) LYsame.rf dX11_enough_30 rfl rfl rfl rfl rfl rfl (Or.inl rfl) fun r9 σ10 => ?_
  refine a_icmp_ge dX11_enough_33 rfl (fun _ => ?_) (fun _ => ?_)
  · refine a_bv fun x2_11 ex2_11 => ?_
    refine a_iinc (y := x2_11) (L' := [some (.ref 0), some (vi x1), some (vi x2_11)]) dX11_enough_46 rfl ex2_11 rfl rfl rfl ?_
    refine a_goto dX11_enough_49 rfl ?_
    exact hself _ _ _
  refine a_aload_n dX11_enough_36 rfl ?_
  refine a_iload_n dX11_enough_37 rfl ?_
  refine a_callVi (as := [vi x2]) mf_X11_353 lyM_0 rfl (c_M_isEnough F _ _) LYsame.rf dX11_enough_38 rfl rfl rfl rfl rfl rfl (Or.inl rfl) fun r12 σ13 => ?_
  refine a_if_eq dX11_enough_41 rfl (fun _ => ?_) (fun _ => ?_)
  · refine a_bv fun x2_14 ex2_14 => ?_
    refine a_iinc (y := x2_14) (L' := [some (.ref 0), some (vi x1), some (vi x2_14)]) dX11_enough_46 rfl ex2_14 rfl rfl rfl ?_
    refine a_goto dX11_enough_49 rfl ?_
    exact hself _ _ _
  refine a_iload_n dX11_enough_44 rfl ?_
  refine a_istore_n (L' := [some (.ref 0), some (vi x2), some (vi x2)]) dX11_enough_45 rfl rfl rfl rfl ?_
  refine a_bv fun x2_15 ex2_15 => ?_
  refine a_iinc (y := x2_15) (L' := [some (.ref 0), some (vi x2), some (vi x2_15)]) dX11_enough_46 rfl ex2_15 rfl rfl rfl ?_
  refine a_goto dX11_enough_49 rfl ?_
  exact hself _ _ _
set_option maxRecDepth 100000 in
set_option maxHeartbeats 4000000 in
theorem cl_M_enough_9 {K : KX} (F : Nat) : ∀ (n : Nat) (σ : St) (x1 x2 : Int), WA 4 0 1 cX11_enough RX11 3 (some .int) LYM LYM K 9 [some (.ref 0), some (vi x1), some (vi x2)] [] σ (l_M_enough_9 F n σ x1 x2)
  | 0, _, _, _ => a_none
  | n + 1, σ, x1, x2 => cb_M_enough_9 F _ (cl_M_enough_9 F n) σ x1 x2
set_option maxRecDepth 100000 in
set_option maxHeartbeats 4000000 in
theorem c_M_enough (F : Nat) (σ : St) : Ct 4 0 1 yX11_enough cX11_enough 3 (some .int) LYM LYM [.ref 0] σ (f_M_enough F σ) := by
  unfold f_M_enough
  refine Ct_of (d := 4) (kp := 0) (kd := 1) (own := RX11) (nL := 3) (ret := (some .int)) (LY := LYM) (LYe := LYM) (L := [some (.ref 0), none, none]) rfl (by decide +kernel) rfl rfl mf_L_135.2.2.2.1 rfl fun K => ?_
  refine a_aload_n dX11_enough_0 rfl ?_
  refine a_iconst dX11_enough_1 ?_
  refine a_putI fl_X11_1 cf_X11 rfl rfl lyM_0 rfl dX11_enough_2 (key := 0) rfl fun σ1 => ?_
  refine a_iconst dX11_enough_5 ?_
  refine a_istore_n (L' := [some (.ref 0), some (vi (-1)), none]) dX11_enough_6 rfl rfl rfl rfl ?_
  refine a_iconst dX11_enough_7 ?_
  refine a_istore_n (L' := [some (.ref 0), some (vi (-1)), some (vi 0)]) dX11_enough_8 rfl rfl rfl rfl ?_
  exact cl_M_enough_9 F F _ _ _
def b_M_lose_29 (F : Nat) (self : St → Int → Option (Int × St)) (σ : St) (x2 : Int) : Option (Int × St) := gd (inb 1 82) (gd (rng x2 ∧ rng (2 * (gA σ 2 (Int.toNat 1)))) (if (2 * (gA σ 2 (Int.toNat 1))) ≤ x2 then gd (inb 1 82) (some ((gA σ 2 (Int.toNat 1)), σ)) else gd (inb ((6 + x2) + 2) 82) (bv (gA σ 2 (Int.toNat ((6 + x2) + 2))) fun t6 => gd (inb (6 + x2) 82) (bs (sA σ 2 (Int.toNat (6 + x2)) t6) fun σ7 => bv (x2 + 1) fun x2_8 => self σ7 x2_8))))
def l_M_lose_29 (F : Nat) : Nat → St → Int → Option (Int × St)
  | 0 => fun _ _ => none
  | n + 1 => fun σ x2 => b_M_lose_29 F (l_M_lose_29 F n) σ x2
def f_M_lose (F : Nat) (σ : St) (x1 : Int) : Option (Int × St) := bs (sF σ 0 0) fun σ1 => bnd (f_M_isHearer F σ1 x1) fun r2 σ3 => gd (rng r2) (if r2 = 0 then some ((-1), σ3) else gd (inb 1 82) (gd (inb 1 82) (bs (sA σ3 2 (Int.toNat 1) ((gA σ3 2 (Int.toNat 1)) - 1)) fun σ4 => bv (2 * x1) fun x2_5 => l_M_lose_29 F F σ4 x2_5)))
set_option maxRecDepth 100000 in
set_option maxHeartbeats 4000000 in
theorem cb_M_lose_29 {K : KX} (F : Nat) (self : St → Int → Option (Int × St)) (hself : ∀ σ x2, WA 3 0 1 cX11_lose RX11 3 (some .int) LYM LYM K 29 [some (.ref 0), none, some (vi x2)] [] σ (self σ x2)) (σ : St) (x2 : Int) : WA 3 0 1 cX11_lose RX11 3 (some .int) LYM LYM K 29 [some (.ref 0), none, some (vi x2)] [] σ (b_M_lose_29 F self σ x2) := by
  unfold b_M_lose_29
  refine a_iload_n dX11_lose_29 rfl ?_
  refine a_iconst dX11_lose_30 ?_
  refine a_aload_n dX11_lose_31 rfl ?_
  refine a_getR (c0 := 2) fl_X11_33 lyM_0 rfl dX11_lose_32 (key := 6) rfl ?_
  refine a_iconst dX11_lose_35 ?_
  refine a_iald lyM_2 rfl dX11_lose_36 ?_
  refine a_imul dX11_lose_37 ?_
  refine a_icmp_ge dX11_lose_38 rfl (fun _ => ?_) (fun _ => ?_)
  · refine a_aload_n dX11_lose_67 rfl ?_
    refine a_getR (c0 := 2) fl_X11_33 lyM_0 rfl dX11_lose_68 (key := 6) rfl ?_
    refine a_iconst dX11_lose_71 ?_
    refine a_iald lyM_2 rfl dX11_lose_72 ?_
    exact a_iret dX11_lose_73
  refine a_aload_n dX11_lose_41 rfl ?_
  refine a_getR (c0 := 2) fl_X11_33 lyM_0 rfl dX11_lose_42 (key := 6) rfl ?_
  refine a_bipush dX11_lose_45 bi_6 ?_
  refine a_iload_n dX11_lose_47 rfl ?_
  refine a_iadd dX11_lose_48 ?_
  refine a_aload_n dX11_lose_49 rfl ?_
  refine a_getR (c0 := 2) fl_X11_33 lyM_0 rfl dX11_lose_50 (key := 6) rfl ?_
  refine a_bipush dX11_lose_53 bi_6 ?_
  refine a_iload_n dX11_lose_55 rfl ?_
  refine a_iadd dX11_lose_56 ?_
  refine a_iconst dX11_lose_57 ?_
  refine a_iadd dX11_lose_58 ?_
  refine a_iald lyM_2 rfl dX11_lose_59 ?_
  refine a_bvi fun t6 => ?_
  refine a_iast lyM_2 rfl dX11_lose_60 fun σ7 => ?_
  refine a_bv fun x2_8 ex2_8 => ?_
  refine a_iinc (y := x2_8) (L' := [some (.ref 0), none, some (vi x2_8)]) dX11_lose_61 rfl ex2_8 rfl rfl rfl ?_
  refine a_goto dX11_lose_64 rfl ?_
  exact hself _ _
set_option maxRecDepth 100000 in
set_option maxHeartbeats 4000000 in
theorem cl_M_lose_29 {K : KX} (F : Nat) : ∀ (n : Nat) (σ : St) (x2 : Int), WA 3 0 1 cX11_lose RX11 3 (some .int) LYM LYM K 29 [some (.ref 0), none, some (vi x2)] [] σ (l_M_lose_29 F n σ x2)
  | 0, _, _ => a_none
  | n + 1, σ, x2 => cb_M_lose_29 F _ (cl_M_lose_29 F n) σ x2
set_option maxRecDepth 100000 in
set_option maxHeartbeats 4000000 in
theorem c_M_lose (F : Nat) (σ : St) (x1 : Int) : Ct 3 0 1 yX11_lose cX11_lose 3 (some .int) LYM LYM [.ref 0, vi x1] σ (f_M_lose F σ x1) := by
  unfold f_M_lose
  refine Ct_of (d := 3) (kp := 0) (kd := 1) (own := RX11) (nL := 3) (ret := (some .int)) (LY := LYM) (LYe := LYM) (L := [some (.ref 0), some (vi x1), none]) rfl (by decide +kernel) rfl rfl mf_L_139.2.2.2.1 rfl fun K => ?_
  refine a_aload_n dX11_lose_0 rfl ?_
  refine a_iconst dX11_lose_1 ?_
  refine a_putI fl_X11_1 cf_X11 rfl rfl lyM_0 rfl dX11_lose_2 (key := 0) rfl fun σ1 => ?_
  refine a_aload_n dX11_lose_5 rfl ?_
  refine a_iload_n dX11_lose_6 rfl ?_
  refine a_callVi (as := [vi x1]) mf_X11_261 lyM_0 rfl (c_M_isHearer F _ _) LYsame.rf dX11_lose_7 rfl rfl rfl rfl rfl rfl (Or.inl rfl) fun r2 σ3 => ?_
  refine a_if_ne dX11_lose_10 rfl (fun _ => ?_) (fun _ => ?_)
  · refine a_aload_n dX11_lose_15 rfl ?_
    refine a_getR (c0 := 2) fl_X11_33 lyM_0 rfl dX11_lose_16 (key := 6) rfl ?_
    refine a_iconst dX11_lose_19 ?_
    refine a_dup2 dX11_lose_20 rfl rfl ?_
    refine a_iald lyM_2 rfl dX11_lose_21 ?_
    refine a_iconst dX11_lose_22 ?_
    refine a_isub dX11_lose_23 ?_
    refine a_iast lyM_2 rfl dX11_lose_24 fun σ4 => ?_
    refine a_iconst dX11_lose_25 ?_
    refine a_iload_n dX11_lose_26 rfl ?_
    refine a_imul dX11_lose_27 ?_
    refine a_bv fun x2_5 ex2_5 => ?_
    refine a_istore_n (y := x2_5) (L' := [some (.ref 0), some (vi x1), some (vi x2_5)]) dX11_lose_28 ex2_5 rfl rfl rfl ?_
    exact a_L (lsub_get (A := [some (.ref 0), none, some (vi x2_5)]) ⟨rfl, ⟨rfl, trivial⟩⟩) (cl_M_lose_29 F F _ _)
  refine a_iconst dX11_lose_13 ?_
  exact a_iret dX11_lose_14
def b_M_makes_38 (F : Nat) (k14 : St → Int → Int → Int → Option (Int × St)) (self : St → Int → Int → Int → Int → Option (Int × St)) (σ : St) (x1 x2 x3 x4 : Int) : Option (Int × St) := gd (rng x4 ∧ rng x1) (if x1 ≤ x4 then gd (inb x3 470) (gd (inb (((gF σ 25) * (gF σ 26)) + x1) 2800) (bs (sA σ 7 (Int.toNat (((gF σ 25) * (gF σ 26)) + x1)) (gA σ 12 (Int.toNat x3))) fun σ7 => bs (sF σ7 26 ((gF σ7 26) + 1)) fun σ8 => bv (x3 + 1) fun x3_9 => k14 σ8 x1 x2 x3_9)) else bnd (f_M_gain F σ x3) fun r10 σ11 => gd (inb x4 3) (bnd (f_M_place F σ11 x3) fun r12 σ13 => bnd (f_M_waveOf F σ13 (gA σ11 14 (Int.toNat x4)) r12) fun r14 σ15 => gd (rng (r10 * r14) ∧ rng (gF σ15 20) ∧ (gF σ15 20) ≠ (0 : Int)) (bv (Int.tmod (r10 * r14) (gF σ15 20)) fun t16 => gd (inb (((gF σ 25) * (gF σ 26)) + x4) 2800) (bs (sA σ15 7 (Int.toNat (((gF σ 25) * (gF σ 26)) + x4)) t16) fun σ17 => bv (x4 + 1) fun x4_18 => self σ17 x1 x2 x3 x4_18))))
def l_M_makes_38 (F : Nat) (k14 : St → Int → Int → Int → Option (Int × St)) : Nat → St → Int → Int → Int → Int → Option (Int × St)
  | 0 => fun _ _ _ _ _ => none
  | n + 1 => fun σ x1 x2 x3 x4 => b_M_makes_38 F k14 (l_M_makes_38 F k14 n) σ x1 x2 x3 x4
def b_M_makes_14 (F : Nat) (self : St → Int → Int → Int → Option (Int × St)) (σ : St) (x1 x2 x3 : Int) : Option (Int × St) := gd (inb 1 82) (gd (rng x3 ∧ rng (gA σ 2 (Int.toNat 1))) (if (gA σ 2 (Int.toNat 1)) ≤ x3 then bnd (f_M_isMade F σ) fun r3 σ4 => gd (isb r3) (some (r3, σ4)) else bnd (f_M_has F σ x2 x3) fun r5 σ6 => gd (rng r5) (if r5 = 0 then l_M_makes_38 F self F σ6 x1 x2 x3 0 else bv (x3 + 1) fun x3_19 => self σ6 x1 x2 x3_19)))
def l_M_makes_14 (F : Nat) : Nat → St → Int → Int → Int → Option (Int × St)
  | 0 => fun _ _ _ _ => none
  | n + 1 => fun σ x1 x2 x3 => b_M_makes_14 F (l_M_makes_14 F n) σ x1 x2 x3
def f_M_makes (F : Nat) (σ : St) (x1 x2 : Int) : Option (Int × St) := bs (sF σ 25 (x1 + 1)) fun σ1 => bs (sF σ1 26 0) fun σ2 => l_M_makes_14 F F σ2 x1 x2 0
set_option maxRecDepth 100000 in
set_option maxHeartbeats 4000000 in
theorem cb_M_makes_38 {K : KX} (F : Nat) (k14 : St → Int → Int → Int → Option (Int × St)) (h14 : ∀ σ x1 x2 x3, WA 4 0 1 cX11_makes RX11 5 (some .boolean) LYM LYM K 14 [some (.ref 0), some (vi x1), some (vi x2), some (vi x3), none] [] σ (k14 σ x1 x2 x3)) (self : St → Int → Int → Int → Int → Option (Int × St)) (hself : ∀ σ x1 x2 x3 x4, WA 4 0 1 cX11_makes RX11 5 (some .boolean) LYM LYM K 38 [some (.ref 0), some (vi x1), some (vi x2), some (vi x3), some (vi x4)] [] σ (self σ x1 x2 x3 x4)) (σ : St) (x1 x2 x3 x4 : Int) : WA 4 0 1 cX11_makes RX11 5 (some .boolean) LYM LYM K 38 [some (.ref 0), some (vi x1), some (vi x2), some (vi x3), some (vi x4)] [] σ (b_M_makes_38 F k14 self σ x1 x2 x3 x4) := by
  unfold b_M_makes_38
  refine a_iload dX11_makes_38 rfl ?_
  refine a_iload_n dX11_makes_40 rfl ?_
  refine a_icmp_ge dX11_makes_41 rfl (fun _ => ?_) (fun _ => ?_)
  · refine a_aload_n dX11_makes_94 rfl ?_
    refine a_getR (c0 := 7) fl_X11_50 lyM_0 rfl dX11_makes_95 (key := 23) rfl ?_
    refine a_aload_n dX11_makes_98 rfl ?_
    refine a_getI fl_X11_251 lyM_0 rfl dX11_makes_99 (key := 25) rfl ?_
    refine a_aload_n dX11_makes_102 rfl ?_
    refine a_getI fl_X11_248 lyM_0 rfl dX11_makes_103 (key := 26) rfl ?_
    refine a_imul dX11_makes_106 ?_
    refine a_iload_n dX11_makes_107 rfl ?_
    refine a_iadd dX11_makes_108 ?_
    refine a_aload_n dX11_makes_109 rfl ?_
    refine a_getR (c0 := 12) fl_X11_65 lyM_0 rfl dX11_makes_110 (key := 35) rfl ?_
    refine a_iload_n dX11_makes_113 rfl ?_
    refine a_iald lyM_12 rfl dX11_makes_114 ?_
    refine a_iast lyM_7 rfl dX11_makes_115 fun σ7 => ?_
    refine a_aload_n dX11_makes_116 rfl ?_
    refine a_dup dX11_makes_117 rfl ?_
    refine a_getI fl_X11_248 lyM_0 rfl dX11_makes_118 (key := 26) rfl ?_
    refine a_iconst dX11_makes_121 ?_
    refine a_iadd dX11_makes_122 ?_
    refine a_putI fl_X11_248 cf_X11 rfl rfl lyM_0 rfl dX11_makes_123 (key := 26) rfl fun σ8 => ?_
    refine a_bv fun x3_9 ex3_9 => ?_
    refine a_iinc (y := x3_9) (L' := [some (.ref 0), some (vi x1), some (vi x2), some (vi x3_9), some (vi x4)]) dX11_makes_126 rfl ex3_9 rfl rfl rfl ?_
    refine a_goto dX11_makes_129 rfl ?_
    exact a_L (lsub_get (A := [some (.ref 0), some (vi x1), some (vi x2), some (vi x3_9), none]) ⟨rfl, ⟨rfl, ⟨rfl, ⟨rfl, trivial⟩⟩⟩⟩) (h14 _ _ _ _)
  refine a_aload_n dX11_makes_44 rfl ?_
  refine a_getR (c0 := 7) fl_X11_50 lyM_0 rfl dX11_makes_45 (key := 23) rfl ?_
  refine a_aload_n dX11_makes_48 rfl ?_
  refine a_getI fl_X11_251 lyM_0 rfl dX11_makes_49 (key := 25) rfl ?_
  refine a_aload_n dX11_makes_52 rfl ?_
  refine a_getI fl_X11_248 lyM_0 rfl dX11_makes_53 (key := 26) rfl ?_
  refine a_imul dX11_makes_56 ?_
  refine a_iload dX11_makes_57 rfl ?_
  refine a_iadd dX11_makes_59 ?_
  refine a_aload_n dX11_makes_60 rfl ?_
  refine a_iload_n dX11_makes_61 rfl ?_
  refine a_callVi (as := [vi x3]) mf_X11_279 lyM_0 rfl (c_M_gain F _ _) LYsame.rf dX11_makes_62 rfl rfl rfl rfl rfl rfl (Or.inl rfl) fun r10 σ11 => ?_
  refine a_aload_n dX11_makes_65 rfl ?_
  refine a_aload_n dX11_makes_66 rfl ?_
  refine a_getR (c0 := 14) fl_X11_71 lyM_0 rfl dX11_makes_67 (key := 38) rfl ?_
  refine a_iload dX11_makes_70 rfl ?_
  refine a_iald lyM_14 rfl dX11_makes_72 ?_
  refine a_aload_n dX11_makes_73 rfl ?_
  refine a_iload_n dX11_makes_74 rfl ?_
  refine a_callVi (as := [vi x3]) mf_X11_276 lyM_0 rfl (c_M_place F _ _) LYsame.rf dX11_makes_75 rfl rfl rfl rfl rfl rfl (Or.inl rfl) fun r12 σ13 => ?_
  refine a_callVi (as := [vi (gA σ11 14 (Int.toNat x4)), vi r12]) mf_X11_273 lyM_0 rfl (c_M_waveOf F _ _ _) LYsame.rf dX11_makes_78 rfl rfl rfl rfl rfl rfl (Or.inl rfl) fun r14 σ15 => ?_
  refine a_imul dX11_makes_81 ?_
  refine a_aload_n dX11_makes_82 rfl ?_
  refine a_getI fl_X11_230 lyM_0 rfl dX11_makes_83 (key := 20) rfl ?_
  refine a_irem dX11_makes_86 (fun _ => ?_)
  refine a_bvi fun t16 => ?_
  refine a_iast lyM_7 rfl dX11_makes_87 fun σ17 => ?_
  refine a_bv fun x4_18 ex4_18 => ?_
  refine a_iinc (y := x4_18) (L' := [some (.ref 0), some (vi x1), some (vi x2), some (vi x3), some (vi x4_18)]) dX11_makes_88 rfl ex4_18 rfl rfl rfl ?_
  refine a_goto dX11_makes_91 rfl ?_
  exact hself _ _ _ _ _
set_option maxRecDepth 100000 in
set_option maxHeartbeats 4000000 in
theorem cl_M_makes_38 {K : KX} (F : Nat) (k14 : St → Int → Int → Int → Option (Int × St)) (h14 : ∀ σ x1 x2 x3, WA 4 0 1 cX11_makes RX11 5 (some .boolean) LYM LYM K 14 [some (.ref 0), some (vi x1), some (vi x2), some (vi x3), none] [] σ (k14 σ x1 x2 x3)) : ∀ (n : Nat) (σ : St) (x1 x2 x3 x4 : Int), WA 4 0 1 cX11_makes RX11 5 (some .boolean) LYM LYM K 38 [some (.ref 0), some (vi x1), some (vi x2), some (vi x3), some (vi x4)] [] σ (l_M_makes_38 F k14 n σ x1 x2 x3 x4)
  | 0, _, _, _, _, _ => a_none
  | n + 1, σ, x1, x2, x3, x4 => cb_M_makes_38 F k14 h14 _ (cl_M_makes_38 F k14 h14 n) σ x1 x2 x3 x4
set_option maxRecDepth 100000 in
set_option maxHeartbeats 4000000 in
theorem cb_M_makes_14 {K : KX} (F : Nat) (self : St → Int → Int → Int → Option (Int × St)) (hself : ∀ σ x1 x2 x3, WA 4 0 1 cX11_makes RX11 5 (some .boolean) LYM LYM K 14 [some (.ref 0), some (vi x1), some (vi x2), some (vi x3), none] [] σ (self σ x1 x2 x3)) (σ : St) (x1 x2 x3 : Int) : WA 4 0 1 cX11_makes RX11 5 (some .boolean) LYM LYM K 14 [some (.ref 0), some (vi x1), some (vi x2), some (vi x3), none] [] σ (b_M_makes_14 F self σ x1 x2 x3) := by
  unfold b_M_makes_14
  refine a_iload_n dX11_makes_14 rfl ?_
  refine a_aload_n dX11_makes_15 rfl ?_
  refine a_getR (c0 := 2) fl_X11_33 lyM_0 rfl dX11_makes_16 (key := 6) rfl ?_
  refine a_iconst dX11_makes_19 ?_
  refine a_iald lyM_2 rfl dX11_makes_20 ?_
  refine a_icmp_ge dX11_makes_21 rfl (fun _ => ?_) (fun _ => ?_)
  · refine a_aload_n dX11_makes_132 rfl ?_
    refine a_callVi (as := []) mf_X11_291 lyM_0 rfl (c_M_isMade F _) LYsame.rf dX11_makes_133 rfl rfl rfl rfl rfl rfl (Or.inl rfl) fun r3 σ4 => ?_
    exact a_zret dX11_makes_136
  refine a_iload_n dX11_makes_24 rfl ?_
  refine a_iload_n dX11_makes_25 rfl ?_
  refine a_callSi (as := [vi x2, vi x3]) mf_X11_294 (c_M_has F _ _ _) LYsame.rf dX11_makes_26 rfl rfl rfl rfl rfl rfl (Or.inl rfl) fun r5 σ6 => ?_
  refine a_if_eq dX11_makes_29 rfl (fun _ => ?_) (fun _ => ?_)
  · refine a_iconst dX11_makes_35 ?_
    refine a_istore (L' := [some (.ref 0), some (vi x1), some (vi x2), some (vi x3), some (vi 0)]) dX11_makes_36 rfl rfl rfl rfl ?_
    exact cl_M_makes_38 F _ hself F _ _ _ _ _
  refine a_goto dX11_makes_32 rfl ?_
  refine a_bv fun x3_19 ex3_19 => ?_
  refine a_iinc (y := x3_19) (L' := [some (.ref 0), some (vi x1), some (vi x2), some (vi x3_19), none]) dX11_makes_126 rfl ex3_19 rfl rfl rfl ?_
  refine a_goto dX11_makes_129 rfl ?_
  exact hself _ _ _ _
set_option maxRecDepth 100000 in
set_option maxHeartbeats 4000000 in
theorem cl_M_makes_14 {K : KX} (F : Nat) : ∀ (n : Nat) (σ : St) (x1 x2 x3 : Int), WA 4 0 1 cX11_makes RX11 5 (some .boolean) LYM LYM K 14 [some (.ref 0), some (vi x1), some (vi x2), some (vi x3), none] [] σ (l_M_makes_14 F n σ x1 x2 x3)
  | 0, _, _, _, _ => a_none
  | n + 1, σ, x1, x2, x3 => cb_M_makes_14 F _ (cl_M_makes_14 F n) σ x1 x2 x3
set_option maxRecDepth 100000 in
set_option maxHeartbeats 4000000 in
theorem c_M_makes (F : Nat) (σ : St) (x1 x2 : Int) : Ct 4 0 1 yX11_makes cX11_makes 5 (some .boolean) LYM LYM [.ref 0, vi x1, vi x2] σ (f_M_makes F σ x1 x2) := by
  unfold f_M_makes
  refine Ct_of (d := 4) (kp := 0) (kd := 1) (own := RX11) (nL := 5) (ret := (some .boolean)) (LY := LYM) (LYe := LYM) (L := [some (.ref 0), some (vi x1), some (vi x2), none, none]) rfl (by decide +kernel) rfl rfl mf_X11_359.2.2.2.1 rfl fun K => ?_
  refine a_aload_n dX11_makes_0 rfl ?_
  refine a_iload_n dX11_makes_1 rfl ?_
  refine a_iconst dX11_makes_2 ?_
  refine a_iadd dX11_makes_3 ?_
  refine a_putI fl_X11_251 cf_X11 rfl rfl lyM_0 rfl dX11_makes_4 (key := 25) rfl fun σ1 => ?_
  refine a_aload_n dX11_makes_7 rfl ?_
  refine a_iconst dX11_makes_8 ?_
  refine a_putI fl_X11_248 cf_X11 rfl rfl lyM_0 rfl dX11_makes_9 (key := 26) rfl fun σ2 => ?_
  refine a_iconst dX11_makes_12 ?_
  refine a_istore_n (L' := [some (.ref 0), some (vi x1), some (vi x2), some (vi 0), none]) dX11_makes_13 rfl rfl rfl rfl ?_
  exact cl_M_makes_14 F F _ _ _ _
def b_M_firstPick_2 (F : Nat) (self : St → Int → Int → Option (Int × St)) (σ : St) (x1 x2 : Int) : Option (Int × St) := gd (rng x2 ∧ rng x1) (if x1 ≤ x2 then gd (inb 0 82) (gd (rng x1 ∧ rng (gA σ 2 (Int.toNat 0))) (if (gA σ 2 (Int.toNat 0)) < x1 then some (0, σ) else some (1, σ))) else gd (inb x2 3) (bs (sA σ 14 (Int.toNat x2) x2) fun σ1 => bv (x2 + 1) fun x2_2 => self σ1 x1 x2_2))
def l_M_firstPick_2 (F : Nat) : Nat → St → Int → Int → Option (Int × St)
  | 0 => fun _ _ _ => none
  | n + 1 => fun σ x1 x2 => b_M_firstPick_2 F (l_M_firstPick_2 F n) σ x1 x2
def f_M_firstPick (F : Nat) (σ : St) (x1 : Int) : Option (Int × St) := l_M_firstPick_2 F F σ x1 0
set_option maxRecDepth 100000 in
set_option maxHeartbeats 4000000 in
theorem cb_M_firstPick_2 {K : KX} (F : Nat) (self : St → Int → Int → Option (Int × St)) (hself : ∀ σ x1 x2, WA 1 0 1 cX11_firstPick RX11 3 (some .boolean) LYM LYM K 2 [some (.ref 0), some (vi x1), some (vi x2)] [] σ (self σ x1 x2)) (σ : St) (x1 x2 : Int) : WA 1 0 1 cX11_firstPick RX11 3 (some .boolean) LYM LYM K 2 [some (.ref 0), some (vi x1), some (vi x2)] [] σ (b_M_firstPick_2 F self σ x1 x2) := by
  unfold b_M_firstPick_2
  refine a_iload_n dX11_firstPick_2 rfl ?_
  refine a_iload_n dX11_firstPick_3 rfl ?_
  refine a_icmp_ge dX11_firstPick_4 rfl (fun _ => ?_) (fun _ => ?_)
  · refine a_iload_n dX11_firstPick_20 rfl ?_
    refine a_aload_n dX11_firstPick_21 rfl ?_
    refine a_getR (c0 := 2) fl_X11_33 lyM_0 rfl dX11_firstPick_22 (key := 6) rfl ?_
    refine a_iconst dX11_firstPick_25 ?_
    refine a_iald lyM_2 rfl dX11_firstPick_26 ?_
    refine a_icmp_gt dX11_firstPick_27 rfl (fun _ => ?_) (fun _ => ?_)
    · refine a_iconst dX11_firstPick_34 ?_
      exact a_zretc (by decide) dX11_firstPick_35
    refine a_iconst dX11_firstPick_30 ?_
    refine a_goto dX11_firstPick_31 rfl ?_
    exact a_zretc (by decide) dX11_firstPick_35
  refine a_aload_n dX11_firstPick_7 rfl ?_
  refine a_getR (c0 := 14) fl_X11_71 lyM_0 rfl dX11_firstPick_8 (key := 38) rfl ?_
  refine a_iload_n dX11_firstPick_11 rfl ?_
  refine a_iload_n dX11_firstPick_12 rfl ?_
  refine a_iast lyM_14 rfl dX11_firstPick_13 fun σ1 => ?_
  refine a_bv fun x2_2 ex2_2 => ?_
  refine a_iinc (y := x2_2) (L' := [some (.ref 0), some (vi x1), some (vi x2_2)]) dX11_firstPick_14 rfl ex2_2 rfl rfl rfl ?_
  refine a_goto dX11_firstPick_17 rfl ?_
  exact hself _ _ _
set_option maxRecDepth 100000 in
set_option maxHeartbeats 4000000 in
theorem cl_M_firstPick_2 {K : KX} (F : Nat) : ∀ (n : Nat) (σ : St) (x1 x2 : Int), WA 1 0 1 cX11_firstPick RX11 3 (some .boolean) LYM LYM K 2 [some (.ref 0), some (vi x1), some (vi x2)] [] σ (l_M_firstPick_2 F n σ x1 x2)
  | 0, _, _, _ => a_none
  | n + 1, σ, x1, x2 => cb_M_firstPick_2 F _ (cl_M_firstPick_2 F n) σ x1 x2
set_option maxRecDepth 100000 in
set_option maxHeartbeats 4000000 in
theorem c_M_firstPick (F : Nat) (σ : St) (x1 : Int) : Ct 1 0 1 yX11_firstPick cX11_firstPick 3 (some .boolean) LYM LYM [.ref 0, vi x1] σ (f_M_firstPick F σ x1) := by
  unfold f_M_firstPick
  refine Ct_of (d := 1) (kp := 0) (kd := 1) (own := RX11) (nL := 3) (ret := (some .boolean)) (LY := LYM) (LYe := LYM) (L := [some (.ref 0), some (vi x1), none]) rfl (by decide +kernel) rfl rfl mf_X11_356.2.2.2.1 rfl fun K => ?_
  refine a_iconst dX11_firstPick_0 ?_
  refine a_istore_n (L' := [some (.ref 0), some (vi x1), some (vi 0)]) dX11_firstPick_1 rfl rfl rfl rfl ?_
  exact cl_M_firstPick_2 F F _ _ _
def b_M_nextPick_53 (F : Nat) (self : St → Int → Int → Option (Int × St)) (σ : St) (x1 x3 : Int) : Option (Int × St) := gd (rng x3 ∧ rng x1) (if x1 ≤ x3 then some (1, σ) else gd (inb (x3 - 1) 3) (bv ((gA σ 14 (Int.toNat (x3 - 1))) + 1) fun t4 => gd (inb x3 3) (bs (sA σ 14 (Int.toNat x3) t4) fun σ5 => bv (x3 + 1) fun x3_6 => self σ5 x1 x3_6)))
def l_M_nextPick_53 (F : Nat) : Nat → St → Int → Int → Option (Int × St)
  | 0 => fun _ _ _ => none
  | n + 1 => fun σ x1 x3 => b_M_nextPick_53 F (l_M_nextPick_53 F n) σ x1 x3
def b_M_nextPick_4 (F : Nat) (self : St → Int → Int → Option (Int × St)) (σ : St) (x1 x2 : Int) : Option (Int × St) := gd (rng x2) (if x2 < 0 then gd (rng x2) (if (0 : Int) ≤ x2 then gd (inb x2 3) (gd (inb x2 3) (bs (sA σ 14 (Int.toNat x2) ((gA σ 14 (Int.toNat x2)) + 1)) fun σ2 => bv (x2 + 1) fun x3_3 => l_M_nextPick_53 F F σ2 x1 x3_3)) else some (0, σ)) else gd (inb x2 3) (gd (inb 0 82) (bv (((gA σ 2 (Int.toNat 0)) - x1) + x2) fun t7 => gd (rng (gA σ 14 (Int.toNat x2)) ∧ rng t7) (if (gA σ 14 (Int.toNat x2)) = t7 then bv (x2 + (-1)) fun x2_10 => self σ x1 x2_10 else gd (rng x2) (if (0 : Int) ≤ x2 then gd (inb x2 3) (gd (inb x2 3) (bs (sA σ 14 (Int.toNat x2) ((gA σ 14 (Int.toNat x2)) + 1)) fun σ8 => bv (x2 + 1) fun x3_9 => l_M_nextPick_53 F F σ8 x1 x3_9)) else some (0, σ))))))
def l_M_nextPick_4 (F : Nat) : Nat → St → Int → Int → Option (Int × St)
  | 0 => fun _ _ _ => none
  | n + 1 => fun σ x1 x2 => b_M_nextPick_4 F (l_M_nextPick_4 F n) σ x1 x2
def f_M_nextPick (F : Nat) (σ : St) (x1 : Int) : Option (Int × St) := bv (x1 - 1) fun x2_1 => l_M_nextPick_4 F F σ x1 x2_1
set_option maxRecDepth 100000 in
set_option maxHeartbeats 4000000 in
theorem cb_M_nextPick_53 {K : KX} (F : Nat) (self : St → Int → Int → Option (Int × St)) (hself : ∀ σ x1 x3, WA 1 0 1 cX11_nextPick RX11 4 (some .boolean) LYM LYM K 53 [some (.ref 0), some (vi x1), none, some (vi x3)] [] σ (self σ x1 x3)) (σ : St) (x1 x3 : Int) : WA 1 0 1 cX11_nextPick RX11 4 (some .boolean) LYM LYM K 53 [some (.ref 0), some (vi x1), none, some (vi x3)] [] σ (b_M_nextPick_53 F self σ x1 x3) := by
  unfold b_M_nextPick_53
  refine a_iload_n dX11_nextPick_53 rfl ?_
  refine a_iload_n dX11_nextPick_54 rfl ?_
  refine a_icmp_ge dX11_nextPick_55 rfl (fun _ => ?_) (fun _ => ?_)
  · refine a_iconst dX11_nextPick_80 ?_
    exact a_zretc (by decide) dX11_nextPick_81
  refine a_aload_n dX11_nextPick_58 rfl ?_
  refine a_getR (c0 := 14) fl_X11_71 lyM_0 rfl dX11_nextPick_59 (key := 38) rfl ?_
  refine a_iload_n dX11_nextPick_62 rfl ?_
  refine a_aload_n dX11_nextPick_63 rfl ?_
  refine a_getR (c0 := 14) fl_X11_71 lyM_0 rfl dX11_nextPick_64 (key := 38) rfl ?_
  refine a_iload_n dX11_nextPick_67 rfl ?_
  refine a_iconst dX11_nextPick_68 ?_
  refine a_isub dX11_nextPick_69 ?_
  refine a_iald lyM_14 rfl dX11_nextPick_70 ?_
  refine a_iconst dX11_nextPick_71 ?_
  refine a_iadd dX11_nextPick_72 ?_
  refine a_bvi fun t4 => ?_
  refine a_iast lyM_14 rfl dX11_nextPick_73 fun σ5 => ?_
  refine a_bv fun x3_6 ex3_6 => ?_
  refine a_iinc (y := x3_6) (L' := [some (.ref 0), some (vi x1), none, some (vi x3_6)]) dX11_nextPick_74 rfl ex3_6 rfl rfl rfl ?_
  refine a_goto dX11_nextPick_77 rfl ?_
  exact hself _ _ _
set_option maxRecDepth 100000 in
set_option maxHeartbeats 4000000 in
theorem cl_M_nextPick_53 {K : KX} (F : Nat) : ∀ (n : Nat) (σ : St) (x1 x3 : Int), WA 1 0 1 cX11_nextPick RX11 4 (some .boolean) LYM LYM K 53 [some (.ref 0), some (vi x1), none, some (vi x3)] [] σ (l_M_nextPick_53 F n σ x1 x3)
  | 0, _, _, _ => a_none
  | n + 1, σ, x1, x3 => cb_M_nextPick_53 F _ (cl_M_nextPick_53 F n) σ x1 x3
set_option maxRecDepth 100000 in
set_option maxHeartbeats 4000000 in
theorem cb_M_nextPick_4 {K : KX} (F : Nat) (self : St → Int → Int → Option (Int × St)) (hself : ∀ σ x1 x2, WA 1 0 1 cX11_nextPick RX11 4 (some .boolean) LYM LYM K 4 [some (.ref 0), some (vi x1), some (vi x2), none] [] σ (self σ x1 x2)) (σ : St) (x1 x2 : Int) : WA 1 0 1 cX11_nextPick RX11 4 (some .boolean) LYM LYM K 4 [some (.ref 0), some (vi x1), some (vi x2), none] [] σ (b_M_nextPick_4 F self σ x1 x2) := by
  unfold b_M_nextPick_4
  refine a_iload_n dX11_nextPick_4 rfl ?_
  refine a_if_lt dX11_nextPick_5 rfl (fun _ => ?_) (fun _ => ?_)
  · refine a_iload_n dX11_nextPick_33 rfl ?_
    refine a_if_ge dX11_nextPick_34 rfl (fun _ => ?_) (fun _ => ?_)
    · refine a_aload_n dX11_nextPick_39 rfl ?_
      refine a_getR (c0 := 14) fl_X11_71 lyM_0 rfl dX11_nextPick_40 (key := 38) rfl ?_
      refine a_iload_n dX11_nextPick_43 rfl ?_
      refine a_dup2 dX11_nextPick_44 rfl rfl ?_
      refine a_iald lyM_14 rfl dX11_nextPick_45 ?_
      refine a_iconst dX11_nextPick_46 ?_
      refine a_iadd dX11_nextPick_47 ?_
      refine a_iast lyM_14 rfl dX11_nextPick_48 fun σ2 => ?_
      refine a_iload_n dX11_nextPick_49 rfl ?_
      refine a_iconst dX11_nextPick_50 ?_
      refine a_iadd dX11_nextPick_51 ?_
      refine a_bv fun x3_3 ex3_3 => ?_
      refine a_istore_n (y := x3_3) (L' := [some (.ref 0), some (vi x1), some (vi x2), some (vi x3_3)]) dX11_nextPick_52 ex3_3 rfl rfl rfl ?_
      exact a_L (lsub_get (A := [some (.ref 0), some (vi x1), none, some (vi x3_3)]) ⟨rfl, ⟨rfl, ⟨rfl, trivial⟩⟩⟩) (cl_M_nextPick_53 F F _ _ _)
    refine a_iconst dX11_nextPick_37 ?_
    exact a_zretc (by decide) dX11_nextPick_38
  refine a_aload_n dX11_nextPick_8 rfl ?_
  refine a_getR (c0 := 14) fl_X11_71 lyM_0 rfl dX11_nextPick_9 (key := 38) rfl ?_
  refine a_iload_n dX11_nextPick_12 rfl ?_
  refine a_iald lyM_14 rfl dX11_nextPick_13 ?_
  refine a_aload_n dX11_nextPick_14 rfl ?_
  refine a_getR (c0 := 2) fl_X11_33 lyM_0 rfl dX11_nextPick_15 (key := 6) rfl ?_
  refine a_iconst dX11_nextPick_18 ?_
  refine a_iald lyM_2 rfl dX11_nextPick_19 ?_
  refine a_iload_n dX11_nextPick_20 rfl ?_
  refine a_isub dX11_nextPick_21 ?_
  refine a_iload_n dX11_nextPick_22 rfl ?_
  refine a_iadd dX11_nextPick_23 ?_
  refine a_bvi fun t7 => ?_
  refine a_icmp_ne dX11_nextPick_24 rfl (fun _ => ?_) (fun _ => ?_)
  · refine a_iload_n dX11_nextPick_33 rfl ?_
    refine a_if_ge dX11_nextPick_34 rfl (fun _ => ?_) (fun _ => ?_)
    · refine a_aload_n dX11_nextPick_39 rfl ?_
      refine a_getR (c0 := 14) fl_X11_71 lyM_0 rfl dX11_nextPick_40 (key := 38) rfl ?_
      refine a_iload_n dX11_nextPick_43 rfl ?_
      refine a_dup2 dX11_nextPick_44 rfl rfl ?_
      refine a_iald lyM_14 rfl dX11_nextPick_45 ?_
      refine a_iconst dX11_nextPick_46 ?_
      refine a_iadd dX11_nextPick_47 ?_
      refine a_iast lyM_14 rfl dX11_nextPick_48 fun σ8 => ?_
      refine a_iload_n dX11_nextPick_49 rfl ?_
      refine a_iconst dX11_nextPick_50 ?_
      refine a_iadd dX11_nextPick_51 ?_
      refine a_bv fun x3_9 ex3_9 => ?_
      refine a_istore_n (y := x3_9) (L' := [some (.ref 0), some (vi x1), some (vi x2), some (vi x3_9)]) dX11_nextPick_52 ex3_9 rfl rfl rfl ?_
      exact a_L (lsub_get (A := [some (.ref 0), some (vi x1), none, some (vi x3_9)]) ⟨rfl, ⟨rfl, ⟨rfl, trivial⟩⟩⟩) (cl_M_nextPick_53 F F _ _ _)
    refine a_iconst dX11_nextPick_37 ?_
    exact a_zretc (by decide) dX11_nextPick_38
  refine a_bv fun x2_10 ex2_10 => ?_
  refine a_iinc (y := x2_10) (L' := [some (.ref 0), some (vi x1), some (vi x2_10), none]) dX11_nextPick_27 rfl ex2_10 rfl rfl rfl ?_
  refine a_goto dX11_nextPick_30 rfl ?_
  exact hself _ _ _
set_option maxRecDepth 100000 in
set_option maxHeartbeats 4000000 in
theorem cl_M_nextPick_4 {K : KX} (F : Nat) : ∀ (n : Nat) (σ : St) (x1 x2 : Int), WA 1 0 1 cX11_nextPick RX11 4 (some .boolean) LYM LYM K 4 [some (.ref 0), some (vi x1), some (vi x2), none] [] σ (l_M_nextPick_4 F n σ x1 x2)
  | 0, _, _, _ => a_none
  | n + 1, σ, x1, x2 => cb_M_nextPick_4 F _ (cl_M_nextPick_4 F n) σ x1 x2
set_option maxRecDepth 100000 in
set_option maxHeartbeats 4000000 in
theorem c_M_nextPick (F : Nat) (σ : St) (x1 : Int) : Ct 1 0 1 yX11_nextPick cX11_nextPick 4 (some .boolean) LYM LYM [.ref 0, vi x1] σ (f_M_nextPick F σ x1) := by
  unfold f_M_nextPick
  refine Ct_of (d := 1) (kp := 0) (kd := 1) (own := RX11) (nL := 4) (ret := (some .boolean)) (LY := LYM) (LYe := LYM) (L := [some (.ref 0), some (vi x1), none, none]) rfl (by decide +kernel) rfl rfl mf_X11_362.2.2.2.1 rfl fun K => ?_
  refine a_iload_n dX11_nextPick_0 rfl ?_
  refine a_iconst dX11_nextPick_1 ?_
  refine a_isub dX11_nextPick_2 ?_
  refine a_bv fun x2_1 ex2_1 => ?_
  refine a_istore_n (y := x2_1) (L' := [some (.ref 0), some (vi x1), some (vi x2_1), none]) dX11_nextPick_3 ex2_1 rfl rfl rfl ?_
  exact cl_M_nextPick_4 F F _ _ _
def b_M_fewest_66 (F : Nat) (k23 : St → Int → Option (Int × St)) (k36 : St → Int → Int → Int → Option (Int × St)) (self : St → Int → Int → Int → Option (Int × St)) (σ : St) (x1 x2 x4 : Int) : Option (Int × St) := gd (rng x4 ∧ rng x1) (if x1 ≤ x4 then bnd (f_M_nextPick F σ x1) fun r12 σ13 => k36 σ13 x1 x2 r12 else gd (inb x4 3) (gd (inb x4 3) (bs (sA σ 15 (Int.toNat x4) (gA σ 14 (Int.toNat x4))) fun σ14 => bnd (f_M_share F σ14 x4) fun r15 σ16 => gd (inb x4 3) (bs (sA σ16 16 (Int.toNat x4) r15) fun σ17 => bv (x4 + 1) fun x4_18 => self σ17 x1 x2 x4_18))))
def l_M_fewest_66 (F : Nat) (k23 : St → Int → Option (Int × St)) (k36 : St → Int → Int → Int → Option (Int × St)) : Nat → St → Int → Int → Int → Option (Int × St)
  | 0 => fun _ _ _ _ => none
  | n + 1 => fun σ x1 x2 x4 => b_M_fewest_66 F k23 k36 (l_M_fewest_66 F k23 k36 n) σ x1 x2 x4
def b_M_fewest_36 (F : Nat) (k23 : St → Int → Option (Int × St)) (self : St → Int → Int → Int → Option (Int × St)) (σ : St) (x1 x2 x3 : Int) : Option (Int × St) := gd (rng x3) (if x3 = 0 then gd (rng x2) (if x2 = 0 then bv (x1 + 1) fun x1_8 => k23 σ x1_8 else bs (sF σ 41 x1) fun σ6 => bs (sF σ6 42 x2) fun σ7 => some (x1, σ7)) else bnd (f_M_makes F σ x1 0) fun r9 σ10 => gd (rng r9) (if r9 = 0 then bnd (f_M_nextPick F σ10 x1) fun r21 σ22 => self σ22 x1 x2 r21 else bv (x2 + 1) fun x2_11 => gd (rng x2_11 ∧ rng 1) (if x2_11 ≤ 1 then l_M_fewest_66 F k23 self F σ10 x1 x2_11 0 else bnd (f_M_nextPick F σ10 x1) fun r19 σ20 => self σ20 x1 x2_11 r19)))
def l_M_fewest_36 (F : Nat) (k23 : St → Int → Option (Int × St)) : Nat → St → Int → Int → Int → Option (Int × St)
  | 0 => fun _ _ _ _ => none
  | n + 1 => fun σ x1 x2 x3 => b_M_fewest_36 F k23 (l_M_fewest_36 F k23 n) σ x1 x2 x3
def b_M_fewest_23 (F : Nat) (self : St → Int → Option (Int × St)) (σ : St) (x1 : Int) : Option (Int × St) := gd (rng x1 ∧ rng 3) (if (3 : Int) < x1 then some ((-1), σ) else bnd (f_M_firstPick F σ x1) fun r4 σ5 => l_M_fewest_36 F self F σ5 x1 0 r4)
def l_M_fewest_23 (F : Nat) : Nat → St → Int → Option (Int × St)
  | 0 => fun _ _ => none
  | n + 1 => fun σ x1 => b_M_fewest_23 F (l_M_fewest_23 F n) σ x1
def f_M_fewest (F : Nat) (σ : St) : Option (Int × St) := bs (sF σ 0 0) fun σ1 => bnd (f_M_takesReadings F σ1) fun r2 σ3 => gd (inb 1 82) (gd (rng r2 ∧ rng (gA σ3 2 (Int.toNat 1))) (if r2 = (gA σ3 2 (Int.toNat 1)) then l_M_fewest_23 F F σ3 0 else some ((-2), σ3)))
set_option maxRecDepth 100000 in
set_option maxHeartbeats 4000000 in
theorem cb_M_fewest_66 {K : KX} (F : Nat) (k23 : St → Int → Option (Int × St)) (k36 : St → Int → Int → Int → Option (Int × St)) (h23 : ∀ σ x1, WA 5 0 1 cX11_fewest RX11 5 (some .int) LYM LYM K 23 [some (.ref 0), some (vi x1), none, none, none] [] σ (k23 σ x1)) (h36 : ∀ σ x1 x2 x3, WA 5 0 1 cX11_fewest RX11 5 (some .int) LYM LYM K 36 [some (.ref 0), some (vi x1), some (vi x2), some (vi x3), none] [] σ (k36 σ x1 x2 x3)) (self : St → Int → Int → Int → Option (Int × St)) (hself : ∀ σ x1 x2 x4, WA 5 0 1 cX11_fewest RX11 5 (some .int) LYM LYM K 66 [some (.ref 0), some (vi x1), some (vi x2), none, some (vi x4)] [] σ (self σ x1 x2 x4)) (σ : St) (x1 x2 x4 : Int) : WA 5 0 1 cX11_fewest RX11 5 (some .int) LYM LYM K 66 [some (.ref 0), some (vi x1), some (vi x2), none, some (vi x4)] [] σ (b_M_fewest_66 F k23 k36 self σ x1 x2 x4) := by
  unfold b_M_fewest_66
  refine a_iload dX11_fewest_66 rfl ?_
  refine a_iload_n dX11_fewest_68 rfl ?_
  refine a_icmp_ge dX11_fewest_69 rfl (fun _ => ?_) (fun _ => ?_)
  · refine a_aload_n dX11_fewest_105 rfl ?_
    refine a_iload_n dX11_fewest_106 rfl ?_
    refine a_callVi (as := [vi x1]) mf_X11_362 lyM_0 rfl (c_M_nextPick F _ _) LYsame.rf dX11_fewest_107 rfl rfl rfl rfl rfl rfl (Or.inl rfl) fun r12 σ13 => ?_
    refine a_istore_n (L' := [some (.ref 0), some (vi x1), some (vi x2), some (vi r12), some (vi x4)]) dX11_fewest_110 rfl rfl rfl rfl ?_
    refine a_goto dX11_fewest_111 rfl ?_
    exact a_L (lsub_get (A := [some (.ref 0), some (vi x1), some (vi x2), some (vi r12), none]) ⟨rfl, ⟨rfl, ⟨rfl, ⟨rfl, trivial⟩⟩⟩⟩) (h36 _ _ _ _)
  refine a_aload_n dX11_fewest_72 rfl ?_
  refine a_getR (c0 := 15) fl_X11_74 lyM_0 rfl dX11_fewest_73 (key := 39) rfl ?_
  refine a_iload dX11_fewest_76 rfl ?_
  refine a_aload_n dX11_fewest_78 rfl ?_
  refine a_getR (c0 := 14) fl_X11_71 lyM_0 rfl dX11_fewest_79 (key := 38) rfl ?_
  refine a_iload dX11_fewest_82 rfl ?_
  refine a_iald lyM_14 rfl dX11_fewest_84 ?_
  refine a_iast lyM_15 rfl dX11_fewest_85 fun σ14 => ?_
  refine a_aload_n dX11_fewest_86 rfl ?_
  refine a_getR (c0 := 16) fl_X11_77 lyM_0 rfl dX11_fewest_87 (key := 40) rfl ?_
  refine a_iload dX11_fewest_90 rfl ?_
  refine a_aload_n dX11_fewest_92 rfl ?_
  refine a_iload dX11_fewest_93 rfl ?_
  refine a_callVi (as := [vi x4]) mf_X11_320 lyM_0 rfl (c_M_share F _ _) LYsame.rf dX11_fewest_95 rfl rfl rfl rfl rfl rfl (Or.inl rfl) fun r15 σ16 => ?_
  refine a_iast lyM_16 rfl dX11_fewest_98 fun σ17 => ?_
  refine a_bv fun x4_18 ex4_18 => ?_
  refine a_iinc (y := x4_18) (L' := [some (.ref 0), some (vi x1), some (vi x2), none, some (vi x4_18)]) dX11_fewest_99 rfl ex4_18 rfl rfl rfl ?_
  refine a_goto dX11_fewest_102 rfl ?_
  exact hself _ _ _ _
set_option maxRecDepth 100000 in
set_option maxHeartbeats 4000000 in
theorem cl_M_fewest_66 {K : KX} (F : Nat) (k23 : St → Int → Option (Int × St)) (k36 : St → Int → Int → Int → Option (Int × St)) (h23 : ∀ σ x1, WA 5 0 1 cX11_fewest RX11 5 (some .int) LYM LYM K 23 [some (.ref 0), some (vi x1), none, none, none] [] σ (k23 σ x1)) (h36 : ∀ σ x1 x2 x3, WA 5 0 1 cX11_fewest RX11 5 (some .int) LYM LYM K 36 [some (.ref 0), some (vi x1), some (vi x2), some (vi x3), none] [] σ (k36 σ x1 x2 x3)) : ∀ (n : Nat) (σ : St) (x1 x2 x4 : Int), WA 5 0 1 cX11_fewest RX11 5 (some .int) LYM LYM K 66 [some (.ref 0), some (vi x1), some (vi x2), none, some (vi x4)] [] σ (l_M_fewest_66 F k23 k36 n σ x1 x2 x4)
  | 0, _, _, _, _ => a_none
  | n + 1, σ, x1, x2, x4 => cb_M_fewest_66 F k23 k36 h23 h36 _ (cl_M_fewest_66 F k23 k36 h23 h36 n) σ x1 x2 x4
set_option maxRecDepth 100000 in
set_option maxHeartbeats 4000000 in
theorem cb_M_fewest_36 {K : KX} (F : Nat) (k23 : St → Int → Option (Int × St)) (h23 : ∀ σ x1, WA 5 0 1 cX11_fewest RX11 5 (some .int) LYM LYM K 23 [some (.ref 0), some (vi x1), none, none, none] [] σ (k23 σ x1)) (self : St → Int → Int → Int → Option (Int × St)) (hself : ∀ σ x1 x2 x3, WA 5 0 1 cX11_fewest RX11 5 (some .int) LYM LYM K 36 [some (.ref 0), some (vi x1), some (vi x2), some (vi x3), none] [] σ (self σ x1 x2 x3)) (σ : St) (x1 x2 x3 : Int) : WA 5 0 1 cX11_fewest RX11 5 (some .int) LYM LYM K 36 [some (.ref 0), some (vi x1), some (vi x2), some (vi x3), none] [] σ (b_M_fewest_36 F k23 self σ x1 x2 x3) := by
  unfold b_M_fewest_36
  refine a_iload_n dX11_fewest_36 rfl ?_
  refine a_if_eq dX11_fewest_37 rfl (fun _ => ?_) (fun _ => ?_)
  · refine a_iload_n dX11_fewest_114 rfl ?_
    refine a_if_ne dX11_fewest_115 rfl (fun _ => ?_) (fun _ => ?_)
    · refine a_aload_n dX11_fewest_121 rfl ?_
      refine a_iload_n dX11_fewest_122 rfl ?_
      refine a_putI fl_X11_80 cf_X11 rfl rfl lyM_0 rfl dX11_fewest_123 (key := 41) rfl fun σ6 => ?_
      refine a_aload_n dX11_fewest_126 rfl ?_
      refine a_iload_n dX11_fewest_127 rfl ?_
      refine a_putI fl_X11_365 cf_X11 rfl rfl lyM_0 rfl dX11_fewest_128 (key := 42) rfl fun σ7 => ?_
      refine a_iload_n dX11_fewest_131 rfl ?_
      exact a_iret dX11_fewest_132
    refine a_goto dX11_fewest_118 rfl ?_
    refine a_bv fun x1_8 ex1_8 => ?_
    refine a_iinc (y := x1_8) (L' := [some (.ref 0), some (vi x1_8), some (vi x2), some (vi x3), none]) dX11_fewest_133 rfl ex1_8 rfl rfl rfl ?_
    refine a_goto dX11_fewest_136 rfl ?_
    exact a_L (lsub_get (A := [some (.ref 0), some (vi x1_8), none, none, none]) ⟨rfl, ⟨rfl, trivial⟩⟩) (h23 _ _)
  refine a_aload_n dX11_fewest_40 rfl ?_
  refine a_iload_n dX11_fewest_41 rfl ?_
  refine a_iconst dX11_fewest_42 ?_
  refine a_callVi (as := [vi x1, vi 0]) mf_X11_359 lyM_0 rfl (c_M_makes F _ _ _) LYsame.rf dX11_fewest_43 rfl rfl rfl rfl rfl rfl (Or.inl rfl) fun r9 σ10 => ?_
  refine a_if_ne dX11_fewest_46 rfl (fun _ => ?_) (fun _ => ?_)
  · refine a_bv fun x2_11 ex2_11 => ?_
    refine a_iinc (y := x2_11) (L' := [some (.ref 0), some (vi x1), some (vi x2_11), some (vi x3), none]) dX11_fewest_52 rfl ex2_11 rfl rfl rfl ?_
    refine a_iload_n dX11_fewest_55 rfl ?_
    refine a_iconst dX11_fewest_56 ?_
    refine a_icmp_le dX11_fewest_57 rfl (fun _ => ?_) (fun _ => ?_)
    · refine a_iconst dX11_fewest_63 ?_
      refine a_istore (L' := [some (.ref 0), some (vi x1), some (vi x2_11), some (vi x3), some (vi 0)]) dX11_fewest_64 rfl rfl rfl rfl ?_
      exact a_L (lsub_get (A := [some (.ref 0), some (vi x1), some (vi x2_11), none, some (vi 0)]) ⟨rfl, ⟨rfl, ⟨rfl, ⟨rfl, trivial⟩⟩⟩⟩) (cl_M_fewest_66 F _ _ h23 hself F _ _ _ _)
    refine a_goto dX11_fewest_60 rfl ?_
    refine a_aload_n dX11_fewest_105 rfl ?_
    refine a_iload_n dX11_fewest_106 rfl ?_
    refine a_callVi (as := [vi x1]) mf_X11_362 lyM_0 rfl (c_M_nextPick F _ _) LYsame.rf dX11_fewest_107 rfl rfl rfl rfl rfl rfl (Or.inl rfl) fun r19 σ20 => ?_
    refine a_istore_n (L' := [some (.ref 0), some (vi x1), some (vi x2_11), some (vi r19), none]) dX11_fewest_110 rfl rfl rfl rfl ?_
    refine a_goto dX11_fewest_111 rfl ?_
    exact hself _ _ _ _
  refine a_goto dX11_fewest_49 rfl ?_
  refine a_aload_n dX11_fewest_105 rfl ?_
  refine a_iload_n dX11_fewest_106 rfl ?_
  refine a_callVi (as := [vi x1]) mf_X11_362 lyM_0 rfl (c_M_nextPick F _ _) LYsame.rf dX11_fewest_107 rfl rfl rfl rfl rfl rfl (Or.inl rfl) fun r21 σ22 => ?_
  refine a_istore_n (L' := [some (.ref 0), some (vi x1), some (vi x2), some (vi r21), none]) dX11_fewest_110 rfl rfl rfl rfl ?_
  refine a_goto dX11_fewest_111 rfl ?_
  exact hself _ _ _ _
set_option maxRecDepth 100000 in
set_option maxHeartbeats 4000000 in
theorem cl_M_fewest_36 {K : KX} (F : Nat) (k23 : St → Int → Option (Int × St)) (h23 : ∀ σ x1, WA 5 0 1 cX11_fewest RX11 5 (some .int) LYM LYM K 23 [some (.ref 0), some (vi x1), none, none, none] [] σ (k23 σ x1)) : ∀ (n : Nat) (σ : St) (x1 x2 x3 : Int), WA 5 0 1 cX11_fewest RX11 5 (some .int) LYM LYM K 36 [some (.ref 0), some (vi x1), some (vi x2), some (vi x3), none] [] σ (l_M_fewest_36 F k23 n σ x1 x2 x3)
  | 0, _, _, _, _ => a_none
  | n + 1, σ, x1, x2, x3 => cb_M_fewest_36 F k23 h23 _ (cl_M_fewest_36 F k23 h23 n) σ x1 x2 x3
set_option maxRecDepth 100000 in
set_option maxHeartbeats 4000000 in
theorem cb_M_fewest_23 {K : KX} (F : Nat) (self : St → Int → Option (Int × St)) (hself : ∀ σ x1, WA 5 0 1 cX11_fewest RX11 5 (some .int) LYM LYM K 23 [some (.ref 0), some (vi x1), none, none, none] [] σ (self σ x1)) (σ : St) (x1 : Int) : WA 5 0 1 cX11_fewest RX11 5 (some .int) LYM LYM K 23 [some (.ref 0), some (vi x1), none, none, none] [] σ (b_M_fewest_23 F self σ x1) := by
  unfold b_M_fewest_23
  refine a_iload_n dX11_fewest_23 rfl ?_
  refine a_iconst dX11_fewest_24 ?_
  refine a_icmp_gt dX11_fewest_25 rfl (fun _ => ?_) (fun _ => ?_)
  · refine a_iconst dX11_fewest_139 ?_
    exact a_iret dX11_fewest_140
  refine a_iconst dX11_fewest_28 ?_
  refine a_istore_n (L' := [some (.ref 0), some (vi x1), some (vi 0), none, none]) dX11_fewest_29 rfl rfl rfl rfl ?_
  refine a_aload_n dX11_fewest_30 rfl ?_
  refine a_iload_n dX11_fewest_31 rfl ?_
  refine a_callVi (as := [vi x1]) mf_X11_356 lyM_0 rfl (c_M_firstPick F _ _) LYsame.rf dX11_fewest_32 rfl rfl rfl rfl rfl rfl (Or.inl rfl) fun r4 σ5 => ?_
  refine a_istore_n (L' := [some (.ref 0), some (vi x1), some (vi 0), some (vi r4), none]) dX11_fewest_35 rfl rfl rfl rfl ?_
  exact cl_M_fewest_36 F _ hself F _ _ _ _
set_option maxRecDepth 100000 in
set_option maxHeartbeats 4000000 in
theorem cl_M_fewest_23 {K : KX} (F : Nat) : ∀ (n : Nat) (σ : St) (x1 : Int), WA 5 0 1 cX11_fewest RX11 5 (some .int) LYM LYM K 23 [some (.ref 0), some (vi x1), none, none, none] [] σ (l_M_fewest_23 F n σ x1)
  | 0, _, _ => a_none
  | n + 1, σ, x1 => cb_M_fewest_23 F _ (cl_M_fewest_23 F n) σ x1
set_option maxRecDepth 100000 in
set_option maxHeartbeats 4000000 in
theorem c_M_fewest (F : Nat) (σ : St) : Ct 5 0 1 yX11_fewest cX11_fewest 5 (some .int) LYM LYM [.ref 0] σ (f_M_fewest F σ) := by
  unfold f_M_fewest
  refine Ct_of (d := 5) (kp := 0) (kd := 1) (own := RX11) (nL := 5) (ret := (some .int)) (LY := LYM) (LYe := LYM) (L := [some (.ref 0), none, none, none, none]) rfl (by decide +kernel) rfl rfl mf_L_143.2.2.2.1 rfl fun K => ?_
  refine a_aload_n dX11_fewest_0 rfl ?_
  refine a_iconst dX11_fewest_1 ?_
  refine a_putI fl_X11_1 cf_X11 rfl rfl lyM_0 rfl dX11_fewest_2 (key := 0) rfl fun σ1 => ?_
  refine a_aload_n dX11_fewest_5 rfl ?_
  refine a_callVi (as := []) mf_X11_344 lyM_0 rfl (c_M_takesReadings F _) LYsame.rf dX11_fewest_6 rfl rfl rfl rfl rfl rfl (Or.inl rfl) fun r2 σ3 => ?_
  refine a_aload_n dX11_fewest_9 rfl ?_
  refine a_getR (c0 := 2) fl_X11_33 lyM_0 rfl dX11_fewest_10 (key := 6) rfl ?_
  refine a_iconst dX11_fewest_13 ?_
  refine a_iald lyM_2 rfl dX11_fewest_14 ?_
  refine a_icmp_eq dX11_fewest_15 rfl (fun _ => ?_) (fun _ => ?_)
  · refine a_iconst dX11_fewest_21 ?_
    refine a_istore_n (L' := [some (.ref 0), some (vi 0), none, none, none]) dX11_fewest_22 rfl rfl rfl rfl ?_
    exact cl_M_fewest_23 F F _ _
  refine a_bipush dX11_fewest_18 bi_m2 ?_
  exact a_iret dX11_fewest_20
def f_M_made (F : Nat) (σ : St) (x1 : Int) : Option (Int × St) := bs (sF σ 0 0) fun σ1 => gd (rng (gF σ1 41)) (if (gF σ1 41) < 0 then some ((-1), σ1) else gd (rng x1 ∧ rng (-1)) (if ((-1) : Int) ≤ x1 then gd (rng x1 ∧ rng (-1)) (if x1 = (-1) then some ((gF σ1 42), σ1) else gd (rng x1 ∧ rng (gF σ1 41)) (if (gF σ1 41) ≤ x1 then some ((-1), σ1) else gd (inb x1 3) (some ((gA σ1 15 (Int.toNat x1)), σ1)))) else some ((-1), σ1)))
set_option maxRecDepth 100000 in
set_option maxHeartbeats 4000000 in
theorem c_M_made (F : Nat) (σ : St) (x1 : Int) : Ct 1 0 1 yX11_made cX11_made 2 (some .int) LYM LYM [.ref 0, vi x1] σ (f_M_made F σ x1) := by
  unfold f_M_made
  refine Ct_of (d := 1) (kp := 0) (kd := 1) (own := RX11) (nL := 2) (ret := (some .int)) (LY := LYM) (LYe := LYM) (L := [some (.ref 0), some (vi x1)]) rfl (by decide +kernel) rfl rfl mf_L_147.2.2.2.1 rfl fun K => ?_
  refine a_aload_n dX11_made_0 rfl ?_
  refine a_iconst dX11_made_1 ?_
  refine a_putI fl_X11_1 cf_X11 rfl rfl lyM_0 rfl dX11_made_2 (key := 0) rfl fun σ1 => ?_
  refine a_aload_n dX11_made_5 rfl ?_
  refine a_getI fl_X11_80 lyM_0 rfl dX11_made_6 (key := 41) rfl ?_
  refine a_if_lt dX11_made_9 rfl (fun _ => ?_) (fun _ => ?_)
  · refine a_iconst dX11_made_17 ?_
    refine a_goto dX11_made_18 rfl ?_
    exact a_iret dX11_made_51
  refine a_iload_n dX11_made_12 rfl ?_
  refine a_iconst dX11_made_13 ?_
  refine a_icmp_ge dX11_made_14 rfl (fun _ => ?_) (fun _ => ?_)
  · refine a_iload_n dX11_made_21 rfl ?_
    refine a_iconst dX11_made_22 ?_
    refine a_icmp_ne dX11_made_23 rfl (fun _ => ?_) (fun _ => ?_)
    · refine a_iload_n dX11_made_33 rfl ?_
      refine a_aload_n dX11_made_34 rfl ?_
      refine a_getI fl_X11_80 lyM_0 rfl dX11_made_35 (key := 41) rfl ?_
      refine a_icmp_ge dX11_made_38 rfl (fun _ => ?_) (fun _ => ?_)
      · refine a_iconst dX11_made_50 ?_
        exact a_iret dX11_made_51
      refine a_aload_n dX11_made_41 rfl ?_
      refine a_getR (c0 := 15) fl_X11_74 lyM_0 rfl dX11_made_42 (key := 39) rfl ?_
      refine a_iload_n dX11_made_45 rfl ?_
      refine a_iald lyM_15 rfl dX11_made_46 ?_
      refine a_goto dX11_made_47 rfl ?_
      exact a_iret dX11_made_51
    refine a_aload_n dX11_made_26 rfl ?_
    refine a_getI fl_X11_365 lyM_0 rfl dX11_made_27 (key := 42) rfl ?_
    refine a_goto dX11_made_30 rfl ?_
    exact a_iret dX11_made_51
  refine a_iconst dX11_made_17 ?_
  refine a_goto dX11_made_18 rfl ?_
  exact a_iret dX11_made_51
def f_M_madeBy (F : Nat) (σ : St) (x1 : Int) : Option (Int × St) := bs (sF σ 0 0) fun σ1 => bnd (f_M_isIn F σ1 x1 0 ((gF σ1 41) - 1)) fun r2 σ3 => gd (rng r2) (if r2 = 0 then some ((-1), σ3) else gd (inb x1 3) (some ((gA σ3 16 (Int.toNat x1)), σ3)))
set_option maxRecDepth 100000 in
set_option maxHeartbeats 4000000 in
theorem c_M_madeBy (F : Nat) (σ : St) (x1 : Int) : Ct 2 0 1 yX11_madeBy cX11_madeBy 2 (some .int) LYM LYM [.ref 0, vi x1] σ (f_M_madeBy F σ x1) := by
  unfold f_M_madeBy
  refine Ct_of (d := 2) (kp := 0) (kd := 1) (own := RX11) (nL := 2) (ret := (some .int)) (LY := LYM) (LYe := LYM) (L := [some (.ref 0), some (vi x1)]) rfl (by decide +kernel) rfl rfl mf_L_151.2.2.2.1 rfl fun K => ?_
  refine a_aload_n dX11_madeBy_0 rfl ?_
  refine a_iconst dX11_madeBy_1 ?_
  refine a_putI fl_X11_1 cf_X11 rfl rfl lyM_0 rfl dX11_madeBy_2 (key := 0) rfl fun σ1 => ?_
  refine a_iload_n dX11_madeBy_5 rfl ?_
  refine a_iconst dX11_madeBy_6 ?_
  refine a_aload_n dX11_madeBy_7 rfl ?_
  refine a_getI fl_X11_80 lyM_0 rfl dX11_madeBy_8 (key := 41) rfl ?_
  refine a_iconst dX11_madeBy_11 ?_
  refine a_isub dX11_madeBy_12 ?_
  refine a_callSi (as := [vi x1, vi 0, vi ((gF σ1 41) - 1)]) mf_X11_175 (c_M_isIn F _ _ _ _) LYsame.rf dX11_madeBy_13 rfl rfl rfl rfl rfl rfl (Or.inl rfl) fun r2 σ3 => ?_
  refine a_if_eq dX11_madeBy_16 rfl (fun _ => ?_) (fun _ => ?_)
  · refine a_iconst dX11_madeBy_28 ?_
    exact a_iret dX11_madeBy_29
  refine a_aload_n dX11_madeBy_19 rfl ?_
  refine a_getR (c0 := 16) fl_X11_77 lyM_0 rfl dX11_madeBy_20 (key := 40) rfl ?_
  refine a_iload_n dX11_madeBy_23 rfl ?_
  refine a_iald lyM_16 rfl dX11_madeBy_24 ?_
  refine a_goto dX11_madeBy_25 rfl ?_
  exact a_iret dX11_madeBy_29
def b_M_isHonest_14 (F : Nat) (k2 : St → Int → Int → Int → Option (Int × St)) (self : St → Int → Int → Int → Int → Option (Int × St)) (σ : St) (x1 x2 x3 x4 : Int) : Option (Int × St) := gd (rng x4) (if x4 = 0 then bv (x3 + 1) fun x3_3 => k2 σ x1 x2 x3_3 else bnd (f_M_makes F σ x3 x2) fun r4 σ5 => gd (rng r4) (if r4 = 0 then bnd (f_M_nextPick F σ5 x3) fun r6 σ7 => self σ7 x1 x2 x3 r6 else some (1, σ5)))
def l_M_isHonest_14 (F : Nat) (k2 : St → Int → Int → Int → Option (Int × St)) : Nat → St → Int → Int → Int → Int → Option (Int × St)
  | 0 => fun _ _ _ _ _ => none
  | n + 1 => fun σ x1 x2 x3 x4 => b_M_isHonest_14 F k2 (l_M_isHonest_14 F k2 n) σ x1 x2 x3 x4
def b_M_isHonest_2 (F : Nat) (self : St → Int → Int → Int → Option (Int × St)) (σ : St) (x1 x2 x3 : Int) : Option (Int × St) := gd (rng x3 ∧ rng x1) (if x1 < x3 then some (0, σ) else bnd (f_M_firstPick F σ x3) fun r1 σ2 => l_M_isHonest_14 F self F σ2 x1 x2 x3 r1)
def l_M_isHonest_2 (F : Nat) : Nat → St → Int → Int → Int → Option (Int × St)
  | 0 => fun _ _ _ _ => none
  | n + 1 => fun σ x1 x2 x3 => b_M_isHonest_2 F (l_M_isHonest_2 F n) σ x1 x2 x3
def f_M_isHonest (F : Nat) (σ : St) (x1 x2 : Int) : Option (Int × St) := l_M_isHonest_2 F F σ x1 x2 0
set_option maxRecDepth 100000 in
set_option maxHeartbeats 4000000 in
theorem cb_M_isHonest_14 {K : KX} (F : Nat) (k2 : St → Int → Int → Int → Option (Int × St)) (h2 : ∀ σ x1 x2 x3, WA 5 0 1 cX11_isHonest RX11 5 (some .boolean) LYM LYM K 2 [some (.ref 0), some (vi x1), some (vi x2), some (vi x3), none] [] σ (k2 σ x1 x2 x3)) (self : St → Int → Int → Int → Int → Option (Int × St)) (hself : ∀ σ x1 x2 x3 x4, WA 5 0 1 cX11_isHonest RX11 5 (some .boolean) LYM LYM K 14 [some (.ref 0), some (vi x1), some (vi x2), some (vi x3), some (vi x4)] [] σ (self σ x1 x2 x3 x4)) (σ : St) (x1 x2 x3 x4 : Int) : WA 5 0 1 cX11_isHonest RX11 5 (some .boolean) LYM LYM K 14 [some (.ref 0), some (vi x1), some (vi x2), some (vi x3), some (vi x4)] [] σ (b_M_isHonest_14 F k2 self σ x1 x2 x3 x4) := by
  unfold b_M_isHonest_14
  refine a_iload dX11_isHonest_14 rfl ?_
  refine a_if_eq dX11_isHonest_16 rfl (fun _ => ?_) (fun _ => ?_)
  · refine a_bv fun x3_3 ex3_3 => ?_
    refine a_iinc (y := x3_3) (L' := [some (.ref 0), some (vi x1), some (vi x2), some (vi x3_3), some (vi x4)]) dX11_isHonest_40 rfl ex3_3 rfl rfl rfl ?_
    refine a_goto dX11_isHonest_43 rfl ?_
    exact a_L (lsub_get (A := [some (.ref 0), some (vi x1), some (vi x2), some (vi x3_3), none]) ⟨rfl, ⟨rfl, ⟨rfl, ⟨rfl, trivial⟩⟩⟩⟩) (h2 _ _ _ _)
  refine a_aload_n dX11_isHonest_19 rfl ?_
  refine a_iload_n dX11_isHonest_20 rfl ?_
  refine a_iload_n dX11_isHonest_21 rfl ?_
  refine a_callVi (as := [vi x3, vi x2]) mf_X11_359 lyM_0 rfl (c_M_makes F _ _ _) LYsame.rf dX11_isHonest_22 rfl rfl rfl rfl rfl rfl (Or.inl rfl) fun r4 σ5 => ?_
  refine a_if_eq dX11_isHonest_25 rfl (fun _ => ?_) (fun _ => ?_)
  · refine a_aload_n dX11_isHonest_30 rfl ?_
    refine a_iload_n dX11_isHonest_31 rfl ?_
    refine a_callVi (as := [vi x3]) mf_X11_362 lyM_0 rfl (c_M_nextPick F _ _) LYsame.rf dX11_isHonest_32 rfl rfl rfl rfl rfl rfl (Or.inl rfl) fun r6 σ7 => ?_
    refine a_istore (L' := [some (.ref 0), some (vi x1), some (vi x2), some (vi x3), some (vi r6)]) dX11_isHonest_35 rfl rfl rfl rfl ?_
    refine a_goto dX11_isHonest_37 rfl ?_
    exact hself _ _ _ _ _
  refine a_iconst dX11_isHonest_28 ?_
  exact a_zretc (by decide) dX11_isHonest_29
set_option maxRecDepth 100000 in
set_option maxHeartbeats 4000000 in
theorem cl_M_isHonest_14 {K : KX} (F : Nat) (k2 : St → Int → Int → Int → Option (Int × St)) (h2 : ∀ σ x1 x2 x3, WA 5 0 1 cX11_isHonest RX11 5 (some .boolean) LYM LYM K 2 [some (.ref 0), some (vi x1), some (vi x2), some (vi x3), none] [] σ (k2 σ x1 x2 x3)) : ∀ (n : Nat) (σ : St) (x1 x2 x3 x4 : Int), WA 5 0 1 cX11_isHonest RX11 5 (some .boolean) LYM LYM K 14 [some (.ref 0), some (vi x1), some (vi x2), some (vi x3), some (vi x4)] [] σ (l_M_isHonest_14 F k2 n σ x1 x2 x3 x4)
  | 0, _, _, _, _, _ => a_none
  | n + 1, σ, x1, x2, x3, x4 => cb_M_isHonest_14 F k2 h2 _ (cl_M_isHonest_14 F k2 h2 n) σ x1 x2 x3 x4
set_option maxRecDepth 100000 in
set_option maxHeartbeats 4000000 in
theorem cb_M_isHonest_2 {K : KX} (F : Nat) (self : St → Int → Int → Int → Option (Int × St)) (hself : ∀ σ x1 x2 x3, WA 5 0 1 cX11_isHonest RX11 5 (some .boolean) LYM LYM K 2 [some (.ref 0), some (vi x1), some (vi x2), some (vi x3), none] [] σ (self σ x1 x2 x3)) (σ : St) (x1 x2 x3 : Int) : WA 5 0 1 cX11_isHonest RX11 5 (some .boolean) LYM LYM K 2 [some (.ref 0), some (vi x1), some (vi x2), some (vi x3), none] [] σ (b_M_isHonest_2 F self σ x1 x2 x3) := by
  unfold b_M_isHonest_2
  refine a_iload_n dX11_isHonest_2 rfl ?_
  refine a_iload_n dX11_isHonest_3 rfl ?_
  refine a_icmp_gt dX11_isHonest_4 rfl (fun _ => ?_) (fun _ => ?_)
  · refine a_iconst dX11_isHonest_46 ?_
    exact a_zretc (by decide) dX11_isHonest_47
  refine a_aload_n dX11_isHonest_7 rfl ?_
  refine a_iload_n dX11_isHonest_8 rfl ?_
  refine a_callVi (as := [vi x3]) mf_X11_356 lyM_0 rfl (c_M_firstPick F _ _) LYsame.rf dX11_isHonest_9 rfl rfl rfl rfl rfl rfl (Or.inl rfl) fun r1 σ2 => ?_
  refine a_istore (L' := [some (.ref 0), some (vi x1), some (vi x2), some (vi x3), some (vi r1)]) dX11_isHonest_12 rfl rfl rfl rfl ?_
  exact cl_M_isHonest_14 F _ hself F _ _ _ _ _
set_option maxRecDepth 100000 in
set_option maxHeartbeats 4000000 in
theorem cl_M_isHonest_2 {K : KX} (F : Nat) : ∀ (n : Nat) (σ : St) (x1 x2 x3 : Int), WA 5 0 1 cX11_isHonest RX11 5 (some .boolean) LYM LYM K 2 [some (.ref 0), some (vi x1), some (vi x2), some (vi x3), none] [] σ (l_M_isHonest_2 F n σ x1 x2 x3)
  | 0, _, _, _, _ => a_none
  | n + 1, σ, x1, x2, x3 => cb_M_isHonest_2 F _ (cl_M_isHonest_2 F n) σ x1 x2 x3
set_option maxRecDepth 100000 in
set_option maxHeartbeats 4000000 in
theorem c_M_isHonest (F : Nat) (σ : St) (x1 x2 : Int) : Ct 5 0 1 yX11_isHonest cX11_isHonest 5 (some .boolean) LYM LYM [.ref 0, vi x1, vi x2] σ (f_M_isHonest F σ x1 x2) := by
  unfold f_M_isHonest
  refine Ct_of (d := 5) (kp := 0) (kd := 1) (own := RX11) (nL := 5) (ret := (some .boolean)) (LY := LYM) (LYe := LYM) (L := [some (.ref 0), some (vi x1), some (vi x2), none, none]) rfl (by decide +kernel) rfl rfl mf_X11_368.2.2.2.1 rfl fun K => ?_
  refine a_iconst dX11_isHonest_0 ?_
  refine a_istore_n (L' := [some (.ref 0), some (vi x1), some (vi x2), some (vi 0), none]) dX11_isHonest_1 rfl rfl rfl rfl ?_
  exact cl_M_isHonest_2 F F _ _ _ _
def b_M_liars_94 (F : Nat) (k32 : St → Int → Int → Option (Int × St)) (k63 : St → Int → Int → Int → Int → Int → Int → Option (Int × St)) (self : St → Int → Int → Int → Int → Int → Int → Int → Option (Int × St)) (σ : St) (x1 x2 x3 x4 x5 x6 x7 : Int) : Option (Int × St) := gd (rng x2) (if x2 = 0 then gd (rng x7 ∧ rng 1) (if (1 : Int) ≤ x7 then bv (x6 + 1) fun x6_48 => k63 σ x1 x2 x3 x4 x5 x6_48 else gd (rng x2) (if x2 = 0 then bnd (f_M_isHonest F σ x1 0) fun r58 σ59 => gd (rng r58) (if r58 = 0 then bv (x7 + 1) fun x7_65 => self σ59 x1 x2 x3 x4 x5 x6 x7_65 else gd (rng x3) (if x3 = 0 then bv ((10 * x6) + x7) fun x4_62 => bv (x3 + 1) fun x3_63 => bv (x7 + 1) fun x7_64 => self σ59 x1 x2 x3_63 x4_62 x5 x6 x7_64 else bv (x3 + 1) fun x3_60 => bv (x7 + 1) fun x7_61 => self σ59 x1 x2 x3_60 x4 x5 x6 x7_61)) else gd (sh5 x6) (gd (sh5 x7) (bv (iorI (1 * 2 ^ (Int.toNat x6)) (1 * 2 ^ (Int.toNat x7))) fun t49 => bnd (f_M_isHonest F σ x1 t49) fun r50 σ51 => gd (rng r50) (if r50 = 0 then bv (x7 + 1) fun x7_57 => self σ51 x1 x2 x3 x4 x5 x6 x7_57 else gd (rng x3) (if x3 = 0 then bv ((10 * x6) + x7) fun x4_54 => bv (x3 + 1) fun x3_55 => bv (x7 + 1) fun x7_56 => self σ51 x1 x2 x3_55 x4_54 x5 x6 x7_56 else bv (x3 + 1) fun x3_52 => bv (x7 + 1) fun x7_53 => self σ51 x1 x2 x3_52 x4 x5 x6 x7_53)))))) else gd (rng x2 ∧ rng 1) (if x2 = 1 then gd (rng x7 ∧ rng (x6 + 1)) (if (x6 + 1) ≤ x7 then bv (x6 + 1) fun x6_30 => k63 σ x1 x2 x3 x4 x5 x6_30 else gd (rng x2) (if x2 = 0 then bnd (f_M_isHonest F σ x1 0) fun r40 σ41 => gd (rng r40) (if r40 = 0 then bv (x7 + 1) fun x7_47 => self σ41 x1 x2 x3 x4 x5 x6 x7_47 else gd (rng x3) (if x3 = 0 then bv ((10 * x6) + x7) fun x4_44 => bv (x3 + 1) fun x3_45 => bv (x7 + 1) fun x7_46 => self σ41 x1 x2 x3_45 x4_44 x5 x6 x7_46 else bv (x3 + 1) fun x3_42 => bv (x7 + 1) fun x7_43 => self σ41 x1 x2 x3_42 x4 x5 x6 x7_43)) else gd (sh5 x6) (gd (sh5 x7) (bv (iorI (1 * 2 ^ (Int.toNat x6)) (1 * 2 ^ (Int.toNat x7))) fun t31 => bnd (f_M_isHonest F σ x1 t31) fun r32 σ33 => gd (rng r32) (if r32 = 0 then bv (x7 + 1) fun x7_39 => self σ33 x1 x2 x3 x4 x5 x6 x7_39 else gd (rng x3) (if x3 = 0 then bv ((10 * x6) + x7) fun x4_36 => bv (x3 + 1) fun x3_37 => bv (x7 + 1) fun x7_38 => self σ33 x1 x2 x3_37 x4_36 x5 x6 x7_38 else bv (x3 + 1) fun x3_34 => bv (x7 + 1) fun x7_35 => self σ33 x1 x2 x3_34 x4 x5 x6 x7_35)))))) else gd (rng x7 ∧ rng x5) (if x5 ≤ x7 then bv (x6 + 1) fun x6_12 => k63 σ x1 x2 x3 x4 x5 x6_12 else gd (rng x2) (if x2 = 0 then bnd (f_M_isHonest F σ x1 0) fun r22 σ23 => gd (rng r22) (if r22 = 0 then bv (x7 + 1) fun x7_29 => self σ23 x1 x2 x3 x4 x5 x6 x7_29 else gd (rng x3) (if x3 = 0 then bv ((10 * x6) + x7) fun x4_26 => bv (x3 + 1) fun x3_27 => bv (x7 + 1) fun x7_28 => self σ23 x1 x2 x3_27 x4_26 x5 x6 x7_28 else bv (x3 + 1) fun x3_24 => bv (x7 + 1) fun x7_25 => self σ23 x1 x2 x3_24 x4 x5 x6 x7_25)) else gd (sh5 x6) (gd (sh5 x7) (bv (iorI (1 * 2 ^ (Int.toNat x6)) (1 * 2 ^ (Int.toNat x7))) fun t13 => bnd (f_M_isHonest F σ x1 t13) fun r14 σ15 => gd (rng r14) (if r14 = 0 then bv (x7 + 1) fun x7_21 => self σ15 x1 x2 x3 x4 x5 x6 x7_21 else gd (rng x3) (if x3 = 0 then bv ((10 * x6) + x7) fun x4_18 => bv (x3 + 1) fun x3_19 => bv (x7 + 1) fun x7_20 => self σ15 x1 x2 x3_19 x4_18 x5 x6 x7_20 else bv (x3 + 1) fun x3_16 => bv (x7 + 1) fun x7_17 => self σ15 x1 x2 x3_16 x4 x5 x6 x7_17))))))))
def l_M_liars_94 (F : Nat) (k32 : St → Int → Int → Option (Int × St)) (k63 : St → Int → Int → Int → Int → Int → Int → Option (Int × St)) : Nat → St → Int → Int → Int → Int → Int → Int → Int → Option (Int × St)
  | 0 => fun _ _ _ _ _ _ _ _ => none
  | n + 1 => fun σ x1 x2 x3 x4 x5 x6 x7 => b_M_liars_94 F k32 k63 (l_M_liars_94 F k32 k63 n) σ x1 x2 x3 x4 x5 x6 x7
def b_M_liars_63 (F : Nat) (k32 : St → Int → Int → Option (Int × St)) (self : St → Int → Int → Int → Int → Int → Int → Option (Int × St)) (σ : St) (x1 x2 x3 x4 x5 x6 : Int) : Option (Int × St) := gd (rng x2) (if x2 = 0 then gd (rng x6 ∧ rng 1) (if (1 : Int) ≤ x6 then gd (rng x3) (if x3 = 0 then bv (x2 + 1) fun x2_69 => k32 σ x1 x2_69 else bs (sF σ 43 x2) fun σ66 => bs (sF σ66 44 x3) fun σ67 => bs (sF σ67 45 x4) fun σ68 => some (x2, σ68)) else gd (rng x2 ∧ rng 2) (if (2 : Int) ≤ x2 then bv (x6 + 1) fun x7_70 => l_M_liars_94 F k32 self F σ x1 x2 x3 x4 x5 x6 x7_70 else l_M_liars_94 F k32 self F σ x1 x2 x3 x4 x5 x6 x6)) else gd (rng x6 ∧ rng x5) (if x5 ≤ x6 then gd (rng x3) (if x3 = 0 then bv (x2 + 1) fun x2_10 => k32 σ x1 x2_10 else bs (sF σ 43 x2) fun σ7 => bs (sF σ7 44 x3) fun σ8 => bs (sF σ8 45 x4) fun σ9 => some (x2, σ9)) else gd (rng x2 ∧ rng 2) (if (2 : Int) ≤ x2 then bv (x6 + 1) fun x7_11 => l_M_liars_94 F k32 self F σ x1 x2 x3 x4 x5 x6 x7_11 else l_M_liars_94 F k32 self F σ x1 x2 x3 x4 x5 x6 x6)))
def l_M_liars_63 (F : Nat) (k32 : St → Int → Int → Option (Int × St)) : Nat → St → Int → Int → Int → Int → Int → Int → Option (Int × St)
  | 0 => fun _ _ _ _ _ _ _ => none
  | n + 1 => fun σ x1 x2 x3 x4 x5 x6 => b_M_liars_63 F k32 (l_M_liars_63 F k32 n) σ x1 x2 x3 x4 x5 x6
def b_M_liars_32 (F : Nat) (self : St → Int → Int → Option (Int × St)) (σ : St) (x1 x2 : Int) : Option (Int × St) := gd (rng x2 ∧ rng 2) (if (2 : Int) < x2 then some ((-1), σ) else gd (inb 1 82) (gd (rng x2 ∧ rng (gA σ 2 (Int.toNat 1))) (if (gA σ 2 (Int.toNat 1)) < x2 then some ((-1), σ) else gd (inb 1 82) (bv (gA σ 2 (Int.toNat 1)) fun x5_6 => l_M_liars_63 F self F σ x1 x2 0 0 x5_6 0))))
def l_M_liars_32 (F : Nat) : Nat → St → Int → Int → Option (Int × St)
  | 0 => fun _ _ _ => none
  | n + 1 => fun σ x1 x2 => b_M_liars_32 F (l_M_liars_32 F n) σ x1 x2
def f_M_liars (F : Nat) (σ : St) (x1 : Int) : Option (Int × St) := bs (sF σ 0 0) fun σ1 => bnd (f_M_takesReadings F σ1) fun r2 σ3 => gd (inb 1 82) (gd (rng r2 ∧ rng (gA σ3 2 (Int.toNat 1))) (if r2 = (gA σ3 2 (Int.toNat 1)) then bnd (f_M_isIn F σ3 x1 0 2) fun r4 σ5 => gd (rng r4) (if r4 = 0 then some ((-2), σ5) else l_M_liars_32 F F σ5 x1 0) else some ((-2), σ3)))
set_option maxRecDepth 100000 in
set_option maxHeartbeats 4000000 in
theorem cb_M_liars_94 {K : KX} (F : Nat) (k32 : St → Int → Int → Option (Int × St)) (k63 : St → Int → Int → Int → Int → Int → Int → Option (Int × St)) (h32 : ∀ σ x1 x2, WA 6 0 1 cX11_liars RX11 9 (some .int) LYM LYM K 32 [some (.ref 0), some (vi x1), some (vi x2), none, none, none, none, none, none] [] σ (k32 σ x1 x2)) (h63 : ∀ σ x1 x2 x3 x4 x5 x6, WA 6 0 1 cX11_liars RX11 9 (some .int) LYM LYM K 63 [some (.ref 0), some (vi x1), some (vi x2), some (vi x3), some (vi x4), some (vi x5), some (vi x6), none, none] [] σ (k63 σ x1 x2 x3 x4 x5 x6)) (self : St → Int → Int → Int → Int → Int → Int → Int → Option (Int × St)) (hself : ∀ σ x1 x2 x3 x4 x5 x6 x7, WA 6 0 1 cX11_liars RX11 9 (some .int) LYM LYM K 94 [some (.ref 0), some (vi x1), some (vi x2), some (vi x3), some (vi x4), some (vi x5), some (vi x6), some (vi x7), none] [] σ (self σ x1 x2 x3 x4 x5 x6 x7)) (σ : St) (x1 x2 x3 x4 x5 x6 x7 : Int) : WA 6 0 1 cX11_liars RX11 9 (some .int) LYM LYM K 94 [some (.ref 0), some (vi x1), some (vi x2), some (vi x3), some (vi x4), some (vi x5), some (vi x6), some (vi x7), none] [] σ (b_M_liars_94 F k32 k63 self σ x1 x2 x3 x4 x5 x6 x7) := by
  unfold b_M_liars_94
  refine a_iload dX11_liars_94 rfl ?_
  refine a_iload_n dX11_liars_96 rfl ?_
  refine a_if_ne dX11_liars_97 rfl (fun _ => ?_) (fun _ => ?_)
  · refine a_iload_n dX11_liars_104 rfl ?_
    refine a_iconst dX11_liars_105 ?_
    refine a_icmp_ne dX11_liars_106 rfl (fun _ => ?_) (fun _ => ?_)
    · refine a_iload dX11_liars_116 rfl ?_
      refine a_icmp_ge dX11_liars_118 rfl (fun _ => ?_) (fun _ => ?_)
      · refine a_bv fun x6_12 ex6_12 => ?_
        refine a_iinc (y := x6_12) (L' := [some (.ref 0), some (vi x1), some (vi x2), some (vi x3), some (vi x4), some (vi x5), some (vi x6_12), some (vi x7), none]) dX11_liars_181 rfl ex6_12 rfl rfl rfl ?_
        refine a_goto dX11_liars_184 rfl ?_
        exact a_L (lsub_get (A := [some (.ref 0), some (vi x1), some (vi x2), some (vi x3), some (vi x4), some (vi x5), some (vi x6_12), none, none]) ⟨rfl, ⟨rfl, ⟨rfl, ⟨rfl, ⟨rfl, ⟨rfl, ⟨rfl, trivial⟩⟩⟩⟩⟩⟩⟩) (h63 _ _ _ _ _ _ _)
      refine a_iload_n dX11_liars_121 rfl ?_
      refine a_if_ne dX11_liars_122 rfl (fun _ => ?_) (fun _ => ?_)
      · refine a_iconst dX11_liars_129 ?_
        refine a_iload dX11_liars_130 rfl ?_
        refine a_ishl dX11_liars_132 (fun _ => ?_)
        refine a_iconst dX11_liars_133 ?_
        refine a_iload dX11_liars_134 rfl ?_
        refine a_ishl dX11_liars_136 (fun _ => ?_)
        refine a_ior dX11_liars_137 ?_
        refine a_bvi fun t13 => ?_
        refine a_istore (L' := [some (.ref 0), some (vi x1), some (vi x2), some (vi x3), some (vi x4), some (vi x5), some (vi x6), some (vi x7), some (vi t13)]) dX11_liars_138 rfl rfl rfl rfl ?_
        refine a_aload_n dX11_liars_140 rfl ?_
        refine a_iload_n dX11_liars_141 rfl ?_
        refine a_iload dX11_liars_142 rfl ?_
        refine a_callVi (as := [vi x1, vi t13]) mf_X11_368 lyM_0 rfl (c_M_isHonest F _ _ _) LYsame.rf dX11_liars_144 rfl rfl rfl rfl rfl rfl (Or.inl rfl) fun r14 σ15 => ?_
        refine a_if_ne dX11_liars_147 rfl (fun _ => ?_) (fun _ => ?_)
        · refine a_iload_n dX11_liars_153 rfl ?_
          refine a_if_ne dX11_liars_154 rfl (fun _ => ?_) (fun _ => ?_)
          · refine a_iload dX11_liars_168 rfl ?_
            refine a_istore (L' := [some (.ref 0), some (vi x1), some (vi x2), some (vi x3), some (vi x4), some (vi x5), some (vi x6), some (vi x7), some (vi t13)]) dX11_liars_170 rfl rfl rfl rfl ?_
            refine a_bv fun x3_16 ex3_16 => ?_
            refine a_iinc (y := x3_16) (L' := [some (.ref 0), some (vi x1), some (vi x2), some (vi x3_16), some (vi x4), some (vi x5), some (vi x6), some (vi x7), some (vi t13)]) dX11_liars_172 rfl ex3_16 rfl rfl rfl ?_
            refine a_bv fun x7_17 ex7_17 => ?_
            refine a_iinc (y := x7_17) (L' := [some (.ref 0), some (vi x1), some (vi x2), some (vi x3_16), some (vi x4), some (vi x5), some (vi x6), some (vi x7_17), some (vi t13)]) dX11_liars_175 rfl ex7_17 rfl rfl rfl ?_
            refine a_goto dX11_liars_178 rfl ?_
            exact a_L (lsub_get (A := [some (.ref 0), some (vi x1), some (vi x2), some (vi x3_16), some (vi x4), some (vi x5), some (vi x6), some (vi x7_17), none]) ⟨rfl, ⟨rfl, ⟨rfl, ⟨rfl, ⟨rfl, ⟨rfl, ⟨rfl, ⟨rfl, trivial⟩⟩⟩⟩⟩⟩⟩⟩) (hself _ _ _ _ _ _ _ _)
          refine a_bipush dX11_liars_157 bi_10 ?_
          refine a_iload dX11_liars_159 rfl ?_
          refine a_imul dX11_liars_161 ?_
          refine a_iload dX11_liars_162 rfl ?_
          refine a_iadd dX11_liars_164 ?_
          refine a_goto dX11_liars_165 rfl ?_
          refine a_bv fun x4_18 ex4_18 => ?_
          refine a_istore (y := x4_18) (L' := [some (.ref 0), some (vi x1), some (vi x2), some (vi x3), some (vi x4_18), some (vi x5), some (vi x6), some (vi x7), some (vi t13)]) dX11_liars_170 ex4_18 rfl rfl rfl ?_
          refine a_bv fun x3_19 ex3_19 => ?_
          refine a_iinc (y := x3_19) (L' := [some (.ref 0), some (vi x1), some (vi x2), some (vi x3_19), some (vi x4_18), some (vi x5), some (vi x6), some (vi x7), some (vi t13)]) dX11_liars_172 rfl ex3_19 rfl rfl rfl ?_
          refine a_bv fun x7_20 ex7_20 => ?_
          refine a_iinc (y := x7_20) (L' := [some (.ref 0), some (vi x1), some (vi x2), some (vi x3_19), some (vi x4_18), some (vi x5), some (vi x6), some (vi x7_20), some (vi t13)]) dX11_liars_175 rfl ex7_20 rfl rfl rfl ?_
          refine a_goto dX11_liars_178 rfl ?_
          exact a_L (lsub_get (A := [some (.ref 0), some (vi x1), some (vi x2), some (vi x3_19), some (vi x4_18), some (vi x5), some (vi x6), some (vi x7_20), none]) ⟨rfl, ⟨rfl, ⟨rfl, ⟨rfl, ⟨rfl, ⟨rfl, ⟨rfl, ⟨rfl, trivial⟩⟩⟩⟩⟩⟩⟩⟩) (hself _ _ _ _ _ _ _ _)
        refine a_goto dX11_liars_150 rfl ?_
        refine a_bv fun x7_21 ex7_21 => ?_
        refine a_iinc (y := x7_21) (L' := [some (.ref 0), some (vi x1), some (vi x2), some (vi x3), some (vi x4), some (vi x5), some (vi x6), some (vi x7_21), some (vi t13)]) dX11_liars_175 rfl ex7_21 rfl rfl rfl ?_
        refine a_goto dX11_liars_178 rfl ?_
        exact a_L (lsub_get (A := [some (.ref 0), some (vi x1), some (vi x2), some (vi x3), some (vi x4), some (vi x5), some (vi x6), some (vi x7_21), none]) ⟨rfl, ⟨rfl, ⟨rfl, ⟨rfl, ⟨rfl, ⟨rfl, ⟨rfl, ⟨rfl, trivial⟩⟩⟩⟩⟩⟩⟩⟩) (hself _ _ _ _ _ _ _ _)
      refine a_iconst dX11_liars_125 ?_
      refine a_goto dX11_liars_126 rfl ?_
      refine a_istore (L' := [some (.ref 0), some (vi x1), some (vi x2), some (vi x3), some (vi x4), some (vi x5), some (vi x6), some (vi x7), some (vi 0)]) dX11_liars_138 rfl rfl rfl rfl ?_
      refine a_aload_n dX11_liars_140 rfl ?_
      refine a_iload_n dX11_liars_141 rfl ?_
      refine a_iload dX11_liars_142 rfl ?_
      refine a_callVi (as := [vi x1, vi 0]) mf_X11_368 lyM_0 rfl (c_M_isHonest F _ _ _) LYsame.rf dX11_liars_144 rfl rfl rfl rfl rfl rfl (Or.inl rfl) fun r22 σ23 => ?_
      refine a_if_ne dX11_liars_147 rfl (fun _ => ?_) (fun _ => ?_)
      · refine a_iload_n dX11_liars_153 rfl ?_
        refine a_if_ne dX11_liars_154 rfl (fun _ => ?_) (fun _ => ?_)
        · refine a_iload dX11_liars_168 rfl ?_
          refine a_istore (L' := [some (.ref 0), some (vi x1), some (vi x2), some (vi x3), some (vi x4), some (vi x5), some (vi x6), some (vi x7), some (vi 0)]) dX11_liars_170 rfl rfl rfl rfl ?_
          refine a_bv fun x3_24 ex3_24 => ?_
          refine a_iinc (y := x3_24) (L' := [some (.ref 0), some (vi x1), some (vi x2), some (vi x3_24), some (vi x4), some (vi x5), some (vi x6), some (vi x7), some (vi 0)]) dX11_liars_172 rfl ex3_24 rfl rfl rfl ?_
          refine a_bv fun x7_25 ex7_25 => ?_
          refine a_iinc (y := x7_25) (L' := [some (.ref 0), some (vi x1), some (vi x2), some (vi x3_24), some (vi x4), some (vi x5), some (vi x6), some (vi x7_25), some (vi 0)]) dX11_liars_175 rfl ex7_25 rfl rfl rfl ?_
          refine a_goto dX11_liars_178 rfl ?_
          exact a_L (lsub_get (A := [some (.ref 0), some (vi x1), some (vi x2), some (vi x3_24), some (vi x4), some (vi x5), some (vi x6), some (vi x7_25), none]) ⟨rfl, ⟨rfl, ⟨rfl, ⟨rfl, ⟨rfl, ⟨rfl, ⟨rfl, ⟨rfl, trivial⟩⟩⟩⟩⟩⟩⟩⟩) (hself _ _ _ _ _ _ _ _)
        refine a_bipush dX11_liars_157 bi_10 ?_
        refine a_iload dX11_liars_159 rfl ?_
        refine a_imul dX11_liars_161 ?_
        refine a_iload dX11_liars_162 rfl ?_
        refine a_iadd dX11_liars_164 ?_
        refine a_goto dX11_liars_165 rfl ?_
        refine a_bv fun x4_26 ex4_26 => ?_
        refine a_istore (y := x4_26) (L' := [some (.ref 0), some (vi x1), some (vi x2), some (vi x3), some (vi x4_26), some (vi x5), some (vi x6), some (vi x7), some (vi 0)]) dX11_liars_170 ex4_26 rfl rfl rfl ?_
        refine a_bv fun x3_27 ex3_27 => ?_
        refine a_iinc (y := x3_27) (L' := [some (.ref 0), some (vi x1), some (vi x2), some (vi x3_27), some (vi x4_26), some (vi x5), some (vi x6), some (vi x7), some (vi 0)]) dX11_liars_172 rfl ex3_27 rfl rfl rfl ?_
        refine a_bv fun x7_28 ex7_28 => ?_
        refine a_iinc (y := x7_28) (L' := [some (.ref 0), some (vi x1), some (vi x2), some (vi x3_27), some (vi x4_26), some (vi x5), some (vi x6), some (vi x7_28), some (vi 0)]) dX11_liars_175 rfl ex7_28 rfl rfl rfl ?_
        refine a_goto dX11_liars_178 rfl ?_
        exact a_L (lsub_get (A := [some (.ref 0), some (vi x1), some (vi x2), some (vi x3_27), some (vi x4_26), some (vi x5), some (vi x6), some (vi x7_28), none]) ⟨rfl, ⟨rfl, ⟨rfl, ⟨rfl, ⟨rfl, ⟨rfl, ⟨rfl, ⟨rfl, trivial⟩⟩⟩⟩⟩⟩⟩⟩) (hself _ _ _ _ _ _ _ _)
      refine a_goto dX11_liars_150 rfl ?_
      refine a_bv fun x7_29 ex7_29 => ?_
      refine a_iinc (y := x7_29) (L' := [some (.ref 0), some (vi x1), some (vi x2), some (vi x3), some (vi x4), some (vi x5), some (vi x6), some (vi x7_29), some (vi 0)]) dX11_liars_175 rfl ex7_29 rfl rfl rfl ?_
      refine a_goto dX11_liars_178 rfl ?_
      exact a_L (lsub_get (A := [some (.ref 0), some (vi x1), some (vi x2), some (vi x3), some (vi x4), some (vi x5), some (vi x6), some (vi x7_29), none]) ⟨rfl, ⟨rfl, ⟨rfl, ⟨rfl, ⟨rfl, ⟨rfl, ⟨rfl, ⟨rfl, trivial⟩⟩⟩⟩⟩⟩⟩⟩) (hself _ _ _ _ _ _ _ _)
    refine a_iload dX11_liars_109 rfl ?_
    refine a_iconst dX11_liars_111 ?_
    refine a_iadd dX11_liars_112 ?_
    refine a_goto dX11_liars_113 rfl ?_
    refine a_icmp_ge dX11_liars_118 rfl (fun _ => ?_) (fun _ => ?_)
    · refine a_bv fun x6_30 ex6_30 => ?_
      refine a_iinc (y := x6_30) (L' := [some (.ref 0), some (vi x1), some (vi x2), some (vi x3), some (vi x4), some (vi x5), some (vi x6_30), some (vi x7), none]) dX11_liars_181 rfl ex6_30 rfl rfl rfl ?_
      refine a_goto dX11_liars_184 rfl ?_
      exact a_L (lsub_get (A := [some (.ref 0), some (vi x1), some (vi x2), some (vi x3), some (vi x4), some (vi x5), some (vi x6_30), none, none]) ⟨rfl, ⟨rfl, ⟨rfl, ⟨rfl, ⟨rfl, ⟨rfl, ⟨rfl, trivial⟩⟩⟩⟩⟩⟩⟩) (h63 _ _ _ _ _ _ _)
    refine a_iload_n dX11_liars_121 rfl ?_
    refine a_if_ne dX11_liars_122 rfl (fun _ => ?_) (fun _ => ?_)
    · refine a_iconst dX11_liars_129 ?_
      refine a_iload dX11_liars_130 rfl ?_
      refine a_ishl dX11_liars_132 (fun _ => ?_)
      refine a_iconst dX11_liars_133 ?_
      refine a_iload dX11_liars_134 rfl ?_
      refine a_ishl dX11_liars_136 (fun _ => ?_)
      refine a_ior dX11_liars_137 ?_
      refine a_bvi fun t31 => ?_
      refine a_istore (L' := [some (.ref 0), some (vi x1), some (vi x2), some (vi x3), some (vi x4), some (vi x5), some (vi x6), some (vi x7), some (vi t31)]) dX11_liars_138 rfl rfl rfl rfl ?_
      refine a_aload_n dX11_liars_140 rfl ?_
      refine a_iload_n dX11_liars_141 rfl ?_
      refine a_iload dX11_liars_142 rfl ?_
      refine a_callVi (as := [vi x1, vi t31]) mf_X11_368 lyM_0 rfl (c_M_isHonest F _ _ _) LYsame.rf dX11_liars_144 rfl rfl rfl rfl rfl rfl (Or.inl rfl) fun r32 σ33 => ?_
      refine a_if_ne dX11_liars_147 rfl (fun _ => ?_) (fun _ => ?_)
      · refine a_iload_n dX11_liars_153 rfl ?_
        refine a_if_ne dX11_liars_154 rfl (fun _ => ?_) (fun _ => ?_)
        · refine a_iload dX11_liars_168 rfl ?_
          refine a_istore (L' := [some (.ref 0), some (vi x1), some (vi x2), some (vi x3), some (vi x4), some (vi x5), some (vi x6), some (vi x7), some (vi t31)]) dX11_liars_170 rfl rfl rfl rfl ?_
          refine a_bv fun x3_34 ex3_34 => ?_
          refine a_iinc (y := x3_34) (L' := [some (.ref 0), some (vi x1), some (vi x2), some (vi x3_34), some (vi x4), some (vi x5), some (vi x6), some (vi x7), some (vi t31)]) dX11_liars_172 rfl ex3_34 rfl rfl rfl ?_
          refine a_bv fun x7_35 ex7_35 => ?_
          refine a_iinc (y := x7_35) (L' := [some (.ref 0), some (vi x1), some (vi x2), some (vi x3_34), some (vi x4), some (vi x5), some (vi x6), some (vi x7_35), some (vi t31)]) dX11_liars_175 rfl ex7_35 rfl rfl rfl ?_
          refine a_goto dX11_liars_178 rfl ?_
          exact a_L (lsub_get (A := [some (.ref 0), some (vi x1), some (vi x2), some (vi x3_34), some (vi x4), some (vi x5), some (vi x6), some (vi x7_35), none]) ⟨rfl, ⟨rfl, ⟨rfl, ⟨rfl, ⟨rfl, ⟨rfl, ⟨rfl, ⟨rfl, trivial⟩⟩⟩⟩⟩⟩⟩⟩) (hself _ _ _ _ _ _ _ _)
        refine a_bipush dX11_liars_157 bi_10 ?_
        refine a_iload dX11_liars_159 rfl ?_
        refine a_imul dX11_liars_161 ?_
        refine a_iload dX11_liars_162 rfl ?_
        refine a_iadd dX11_liars_164 ?_
        refine a_goto dX11_liars_165 rfl ?_
        refine a_bv fun x4_36 ex4_36 => ?_
        refine a_istore (y := x4_36) (L' := [some (.ref 0), some (vi x1), some (vi x2), some (vi x3), some (vi x4_36), some (vi x5), some (vi x6), some (vi x7), some (vi t31)]) dX11_liars_170 ex4_36 rfl rfl rfl ?_
        refine a_bv fun x3_37 ex3_37 => ?_
        refine a_iinc (y := x3_37) (L' := [some (.ref 0), some (vi x1), some (vi x2), some (vi x3_37), some (vi x4_36), some (vi x5), some (vi x6), some (vi x7), some (vi t31)]) dX11_liars_172 rfl ex3_37 rfl rfl rfl ?_
        refine a_bv fun x7_38 ex7_38 => ?_
        refine a_iinc (y := x7_38) (L' := [some (.ref 0), some (vi x1), some (vi x2), some (vi x3_37), some (vi x4_36), some (vi x5), some (vi x6), some (vi x7_38), some (vi t31)]) dX11_liars_175 rfl ex7_38 rfl rfl rfl ?_
        refine a_goto dX11_liars_178 rfl ?_
        exact a_L (lsub_get (A := [some (.ref 0), some (vi x1), some (vi x2), some (vi x3_37), some (vi x4_36), some (vi x5), some (vi x6), some (vi x7_38), none]) ⟨rfl, ⟨rfl, ⟨rfl, ⟨rfl, ⟨rfl, ⟨rfl, ⟨rfl, ⟨rfl, trivial⟩⟩⟩⟩⟩⟩⟩⟩) (hself _ _ _ _ _ _ _ _)
      refine a_goto dX11_liars_150 rfl ?_
      refine a_bv fun x7_39 ex7_39 => ?_
      refine a_iinc (y := x7_39) (L' := [some (.ref 0), some (vi x1), some (vi x2), some (vi x3), some (vi x4), some (vi x5), some (vi x6), some (vi x7_39), some (vi t31)]) dX11_liars_175 rfl ex7_39 rfl rfl rfl ?_
      refine a_goto dX11_liars_178 rfl ?_
      exact a_L (lsub_get (A := [some (.ref 0), some (vi x1), some (vi x2), some (vi x3), some (vi x4), some (vi x5), some (vi x6), some (vi x7_39), none]) ⟨rfl, ⟨rfl, ⟨rfl, ⟨rfl, ⟨rfl, ⟨rfl, ⟨rfl, ⟨rfl, trivial⟩⟩⟩⟩⟩⟩⟩⟩) (hself _ _ _ _ _ _ _ _)
    refine a_iconst dX11_liars_125 ?_
    refine a_goto dX11_liars_126 rfl ?_
    refine a_istore (L' := [some (.ref 0), some (vi x1), some (vi x2), some (vi x3), some (vi x4), some (vi x5), some (vi x6), some (vi x7), some (vi 0)]) dX11_liars_138 rfl rfl rfl rfl ?_
    refine a_aload_n dX11_liars_140 rfl ?_
    refine a_iload_n dX11_liars_141 rfl ?_
    refine a_iload dX11_liars_142 rfl ?_
    refine a_callVi (as := [vi x1, vi 0]) mf_X11_368 lyM_0 rfl (c_M_isHonest F _ _ _) LYsame.rf dX11_liars_144 rfl rfl rfl rfl rfl rfl (Or.inl rfl) fun r40 σ41 => ?_
    refine a_if_ne dX11_liars_147 rfl (fun _ => ?_) (fun _ => ?_)
    · refine a_iload_n dX11_liars_153 rfl ?_
      refine a_if_ne dX11_liars_154 rfl (fun _ => ?_) (fun _ => ?_)
      · refine a_iload dX11_liars_168 rfl ?_
        refine a_istore (L' := [some (.ref 0), some (vi x1), some (vi x2), some (vi x3), some (vi x4), some (vi x5), some (vi x6), some (vi x7), some (vi 0)]) dX11_liars_170 rfl rfl rfl rfl ?_
        refine a_bv fun x3_42 ex3_42 => ?_
        refine a_iinc (y := x3_42) (L' := [some (.ref 0), some (vi x1), some (vi x2), some (vi x3_42), some (vi x4), some (vi x5), some (vi x6), some (vi x7), some (vi 0)]) dX11_liars_172 rfl ex3_42 rfl rfl rfl ?_
        refine a_bv fun x7_43 ex7_43 => ?_
        refine a_iinc (y := x7_43) (L' := [some (.ref 0), some (vi x1), some (vi x2), some (vi x3_42), some (vi x4), some (vi x5), some (vi x6), some (vi x7_43), some (vi 0)]) dX11_liars_175 rfl ex7_43 rfl rfl rfl ?_
        refine a_goto dX11_liars_178 rfl ?_
        exact a_L (lsub_get (A := [some (.ref 0), some (vi x1), some (vi x2), some (vi x3_42), some (vi x4), some (vi x5), some (vi x6), some (vi x7_43), none]) ⟨rfl, ⟨rfl, ⟨rfl, ⟨rfl, ⟨rfl, ⟨rfl, ⟨rfl, ⟨rfl, trivial⟩⟩⟩⟩⟩⟩⟩⟩) (hself _ _ _ _ _ _ _ _)
      refine a_bipush dX11_liars_157 bi_10 ?_
      refine a_iload dX11_liars_159 rfl ?_
      refine a_imul dX11_liars_161 ?_
      refine a_iload dX11_liars_162 rfl ?_
      refine a_iadd dX11_liars_164 ?_
      refine a_goto dX11_liars_165 rfl ?_
      refine a_bv fun x4_44 ex4_44 => ?_
      refine a_istore (y := x4_44) (L' := [some (.ref 0), some (vi x1), some (vi x2), some (vi x3), some (vi x4_44), some (vi x5), some (vi x6), some (vi x7), some (vi 0)]) dX11_liars_170 ex4_44 rfl rfl rfl ?_
      refine a_bv fun x3_45 ex3_45 => ?_
      refine a_iinc (y := x3_45) (L' := [some (.ref 0), some (vi x1), some (vi x2), some (vi x3_45), some (vi x4_44), some (vi x5), some (vi x6), some (vi x7), some (vi 0)]) dX11_liars_172 rfl ex3_45 rfl rfl rfl ?_
      refine a_bv fun x7_46 ex7_46 => ?_
      refine a_iinc (y := x7_46) (L' := [some (.ref 0), some (vi x1), some (vi x2), some (vi x3_45), some (vi x4_44), some (vi x5), some (vi x6), some (vi x7_46), some (vi 0)]) dX11_liars_175 rfl ex7_46 rfl rfl rfl ?_
      refine a_goto dX11_liars_178 rfl ?_
      exact a_L (lsub_get (A := [some (.ref 0), some (vi x1), some (vi x2), some (vi x3_45), some (vi x4_44), some (vi x5), some (vi x6), some (vi x7_46), none]) ⟨rfl, ⟨rfl, ⟨rfl, ⟨rfl, ⟨rfl, ⟨rfl, ⟨rfl, ⟨rfl, trivial⟩⟩⟩⟩⟩⟩⟩⟩) (hself _ _ _ _ _ _ _ _)
    refine a_goto dX11_liars_150 rfl ?_
    refine a_bv fun x7_47 ex7_47 => ?_
    refine a_iinc (y := x7_47) (L' := [some (.ref 0), some (vi x1), some (vi x2), some (vi x3), some (vi x4), some (vi x5), some (vi x6), some (vi x7_47), some (vi 0)]) dX11_liars_175 rfl ex7_47 rfl rfl rfl ?_
    refine a_goto dX11_liars_178 rfl ?_
    exact a_L (lsub_get (A := [some (.ref 0), some (vi x1), some (vi x2), some (vi x3), some (vi x4), some (vi x5), some (vi x6), some (vi x7_47), none]) ⟨rfl, ⟨rfl, ⟨rfl, ⟨rfl, ⟨rfl, ⟨rfl, ⟨rfl, ⟨rfl, trivial⟩⟩⟩⟩⟩⟩⟩⟩) (hself _ _ _ _ _ _ _ _)
  refine a_iconst dX11_liars_100 ?_
  refine a_goto dX11_liars_101 rfl ?_
  refine a_icmp_ge dX11_liars_118 rfl (fun _ => ?_) (fun _ => ?_)
  · refine a_bv fun x6_48 ex6_48 => ?_
    refine a_iinc (y := x6_48) (L' := [some (.ref 0), some (vi x1), some (vi x2), some (vi x3), some (vi x4), some (vi x5), some (vi x6_48), some (vi x7), none]) dX11_liars_181 rfl ex6_48 rfl rfl rfl ?_
    refine a_goto dX11_liars_184 rfl ?_
    exact a_L (lsub_get (A := [some (.ref 0), some (vi x1), some (vi x2), some (vi x3), some (vi x4), some (vi x5), some (vi x6_48), none, none]) ⟨rfl, ⟨rfl, ⟨rfl, ⟨rfl, ⟨rfl, ⟨rfl, ⟨rfl, trivial⟩⟩⟩⟩⟩⟩⟩) (h63 _ _ _ _ _ _ _)
  refine a_iload_n dX11_liars_121 rfl ?_
  refine a_if_ne dX11_liars_122 rfl (fun _ => ?_) (fun _ => ?_)
  · refine a_iconst dX11_liars_129 ?_
    refine a_iload dX11_liars_130 rfl ?_
    refine a_ishl dX11_liars_132 (fun _ => ?_)
    refine a_iconst dX11_liars_133 ?_
    refine a_iload dX11_liars_134 rfl ?_
    refine a_ishl dX11_liars_136 (fun _ => ?_)
    refine a_ior dX11_liars_137 ?_
    refine a_bvi fun t49 => ?_
    refine a_istore (L' := [some (.ref 0), some (vi x1), some (vi x2), some (vi x3), some (vi x4), some (vi x5), some (vi x6), some (vi x7), some (vi t49)]) dX11_liars_138 rfl rfl rfl rfl ?_
    refine a_aload_n dX11_liars_140 rfl ?_
    refine a_iload_n dX11_liars_141 rfl ?_
    refine a_iload dX11_liars_142 rfl ?_
    refine a_callVi (as := [vi x1, vi t49]) mf_X11_368 lyM_0 rfl (c_M_isHonest F _ _ _) LYsame.rf dX11_liars_144 rfl rfl rfl rfl rfl rfl (Or.inl rfl) fun r50 σ51 => ?_
    refine a_if_ne dX11_liars_147 rfl (fun _ => ?_) (fun _ => ?_)
    · refine a_iload_n dX11_liars_153 rfl ?_
      refine a_if_ne dX11_liars_154 rfl (fun _ => ?_) (fun _ => ?_)
      · refine a_iload dX11_liars_168 rfl ?_
        refine a_istore (L' := [some (.ref 0), some (vi x1), some (vi x2), some (vi x3), some (vi x4), some (vi x5), some (vi x6), some (vi x7), some (vi t49)]) dX11_liars_170 rfl rfl rfl rfl ?_
        refine a_bv fun x3_52 ex3_52 => ?_
        refine a_iinc (y := x3_52) (L' := [some (.ref 0), some (vi x1), some (vi x2), some (vi x3_52), some (vi x4), some (vi x5), some (vi x6), some (vi x7), some (vi t49)]) dX11_liars_172 rfl ex3_52 rfl rfl rfl ?_
        refine a_bv fun x7_53 ex7_53 => ?_
        refine a_iinc (y := x7_53) (L' := [some (.ref 0), some (vi x1), some (vi x2), some (vi x3_52), some (vi x4), some (vi x5), some (vi x6), some (vi x7_53), some (vi t49)]) dX11_liars_175 rfl ex7_53 rfl rfl rfl ?_
        refine a_goto dX11_liars_178 rfl ?_
        exact a_L (lsub_get (A := [some (.ref 0), some (vi x1), some (vi x2), some (vi x3_52), some (vi x4), some (vi x5), some (vi x6), some (vi x7_53), none]) ⟨rfl, ⟨rfl, ⟨rfl, ⟨rfl, ⟨rfl, ⟨rfl, ⟨rfl, ⟨rfl, trivial⟩⟩⟩⟩⟩⟩⟩⟩) (hself _ _ _ _ _ _ _ _)
      refine a_bipush dX11_liars_157 bi_10 ?_
      refine a_iload dX11_liars_159 rfl ?_
      refine a_imul dX11_liars_161 ?_
      refine a_iload dX11_liars_162 rfl ?_
      refine a_iadd dX11_liars_164 ?_
      refine a_goto dX11_liars_165 rfl ?_
      refine a_bv fun x4_54 ex4_54 => ?_
      refine a_istore (y := x4_54) (L' := [some (.ref 0), some (vi x1), some (vi x2), some (vi x3), some (vi x4_54), some (vi x5), some (vi x6), some (vi x7), some (vi t49)]) dX11_liars_170 ex4_54 rfl rfl rfl ?_
      refine a_bv fun x3_55 ex3_55 => ?_
      refine a_iinc (y := x3_55) (L' := [some (.ref 0), some (vi x1), some (vi x2), some (vi x3_55), some (vi x4_54), some (vi x5), some (vi x6), some (vi x7), some (vi t49)]) dX11_liars_172 rfl ex3_55 rfl rfl rfl ?_
      refine a_bv fun x7_56 ex7_56 => ?_
      refine a_iinc (y := x7_56) (L' := [some (.ref 0), some (vi x1), some (vi x2), some (vi x3_55), some (vi x4_54), some (vi x5), some (vi x6), some (vi x7_56), some (vi t49)]) dX11_liars_175 rfl ex7_56 rfl rfl rfl ?_
      refine a_goto dX11_liars_178 rfl ?_
      exact a_L (lsub_get (A := [some (.ref 0), some (vi x1), some (vi x2), some (vi x3_55), some (vi x4_54), some (vi x5), some (vi x6), some (vi x7_56), none]) ⟨rfl, ⟨rfl, ⟨rfl, ⟨rfl, ⟨rfl, ⟨rfl, ⟨rfl, ⟨rfl, trivial⟩⟩⟩⟩⟩⟩⟩⟩) (hself _ _ _ _ _ _ _ _)
    refine a_goto dX11_liars_150 rfl ?_
    refine a_bv fun x7_57 ex7_57 => ?_
    refine a_iinc (y := x7_57) (L' := [some (.ref 0), some (vi x1), some (vi x2), some (vi x3), some (vi x4), some (vi x5), some (vi x6), some (vi x7_57), some (vi t49)]) dX11_liars_175 rfl ex7_57 rfl rfl rfl ?_
    refine a_goto dX11_liars_178 rfl ?_
    exact a_L (lsub_get (A := [some (.ref 0), some (vi x1), some (vi x2), some (vi x3), some (vi x4), some (vi x5), some (vi x6), some (vi x7_57), none]) ⟨rfl, ⟨rfl, ⟨rfl, ⟨rfl, ⟨rfl, ⟨rfl, ⟨rfl, ⟨rfl, trivial⟩⟩⟩⟩⟩⟩⟩⟩) (hself _ _ _ _ _ _ _ _)
  refine a_iconst dX11_liars_125 ?_
  refine a_goto dX11_liars_126 rfl ?_
  refine a_istore (L' := [some (.ref 0), some (vi x1), some (vi x2), some (vi x3), some (vi x4), some (vi x5), some (vi x6), some (vi x7), some (vi 0)]) dX11_liars_138 rfl rfl rfl rfl ?_
  refine a_aload_n dX11_liars_140 rfl ?_
  refine a_iload_n dX11_liars_141 rfl ?_
  refine a_iload dX11_liars_142 rfl ?_
  refine a_callVi (as := [vi x1, vi 0]) mf_X11_368 lyM_0 rfl (c_M_isHonest F _ _ _) LYsame.rf dX11_liars_144 rfl rfl rfl rfl rfl rfl (Or.inl rfl) fun r58 σ59 => ?_
  refine a_if_ne dX11_liars_147 rfl (fun _ => ?_) (fun _ => ?_)
  · refine a_iload_n dX11_liars_153 rfl ?_
    refine a_if_ne dX11_liars_154 rfl (fun _ => ?_) (fun _ => ?_)
    · refine a_iload dX11_liars_168 rfl ?_
      refine a_istore (L' := [some (.ref 0), some (vi x1), some (vi x2), some (vi x3), some (vi x4), some (vi x5), some (vi x6), some (vi x7), some (vi 0)]) dX11_liars_170 rfl rfl rfl rfl ?_
      refine a_bv fun x3_60 ex3_60 => ?_
      refine a_iinc (y := x3_60) (L' := [some (.ref 0), some (vi x1), some (vi x2), some (vi x3_60), some (vi x4), some (vi x5), some (vi x6), some (vi x7), some (vi 0)]) dX11_liars_172 rfl ex3_60 rfl rfl rfl ?_
      refine a_bv fun x7_61 ex7_61 => ?_
      refine a_iinc (y := x7_61) (L' := [some (.ref 0), some (vi x1), some (vi x2), some (vi x3_60), some (vi x4), some (vi x5), some (vi x6), some (vi x7_61), some (vi 0)]) dX11_liars_175 rfl ex7_61 rfl rfl rfl ?_
      refine a_goto dX11_liars_178 rfl ?_
      exact a_L (lsub_get (A := [some (.ref 0), some (vi x1), some (vi x2), some (vi x3_60), some (vi x4), some (vi x5), some (vi x6), some (vi x7_61), none]) ⟨rfl, ⟨rfl, ⟨rfl, ⟨rfl, ⟨rfl, ⟨rfl, ⟨rfl, ⟨rfl, trivial⟩⟩⟩⟩⟩⟩⟩⟩) (hself _ _ _ _ _ _ _ _)
    refine a_bipush dX11_liars_157 bi_10 ?_
    refine a_iload dX11_liars_159 rfl ?_
    refine a_imul dX11_liars_161 ?_
    refine a_iload dX11_liars_162 rfl ?_
    refine a_iadd dX11_liars_164 ?_
    refine a_goto dX11_liars_165 rfl ?_
    refine a_bv fun x4_62 ex4_62 => ?_
    refine a_istore (y := x4_62) (L' := [some (.ref 0), some (vi x1), some (vi x2), some (vi x3), some (vi x4_62), some (vi x5), some (vi x6), some (vi x7), some (vi 0)]) dX11_liars_170 ex4_62 rfl rfl rfl ?_
    refine a_bv fun x3_63 ex3_63 => ?_
    refine a_iinc (y := x3_63) (L' := [some (.ref 0), some (vi x1), some (vi x2), some (vi x3_63), some (vi x4_62), some (vi x5), some (vi x6), some (vi x7), some (vi 0)]) dX11_liars_172 rfl ex3_63 rfl rfl rfl ?_
    refine a_bv fun x7_64 ex7_64 => ?_
    refine a_iinc (y := x7_64) (L' := [some (.ref 0), some (vi x1), some (vi x2), some (vi x3_63), some (vi x4_62), some (vi x5), some (vi x6), some (vi x7_64), some (vi 0)]) dX11_liars_175 rfl ex7_64 rfl rfl rfl ?_
    refine a_goto dX11_liars_178 rfl ?_
    exact a_L (lsub_get (A := [some (.ref 0), some (vi x1), some (vi x2), some (vi x3_63), some (vi x4_62), some (vi x5), some (vi x6), some (vi x7_64), none]) ⟨rfl, ⟨rfl, ⟨rfl, ⟨rfl, ⟨rfl, ⟨rfl, ⟨rfl, ⟨rfl, trivial⟩⟩⟩⟩⟩⟩⟩⟩) (hself _ _ _ _ _ _ _ _)
  refine a_goto dX11_liars_150 rfl ?_
  refine a_bv fun x7_65 ex7_65 => ?_
  refine a_iinc (y := x7_65) (L' := [some (.ref 0), some (vi x1), some (vi x2), some (vi x3), some (vi x4), some (vi x5), some (vi x6), some (vi x7_65), some (vi 0)]) dX11_liars_175 rfl ex7_65 rfl rfl rfl ?_
  refine a_goto dX11_liars_178 rfl ?_
  exact a_L (lsub_get (A := [some (.ref 0), some (vi x1), some (vi x2), some (vi x3), some (vi x4), some (vi x5), some (vi x6), some (vi x7_65), none]) ⟨rfl, ⟨rfl, ⟨rfl, ⟨rfl, ⟨rfl, ⟨rfl, ⟨rfl, ⟨rfl, trivial⟩⟩⟩⟩⟩⟩⟩⟩) (hself _ _ _ _ _ _ _ _)
set_option maxRecDepth 100000 in
set_option maxHeartbeats 4000000 in
theorem cl_M_liars_94 {K : KX} (F : Nat) (k32 : St → Int → Int → Option (Int × St)) (k63 : St → Int → Int → Int → Int → Int → Int → Option (Int × St)) (h32 : ∀ σ x1 x2, WA 6 0 1 cX11_liars RX11 9 (some .int) LYM LYM K 32 [some (.ref 0), some (vi x1), some (vi x2), none, none, none, none, none, none] [] σ (k32 σ x1 x2)) (h63 : ∀ σ x1 x2 x3 x4 x5 x6, WA 6 0 1 cX11_liars RX11 9 (some .int) LYM LYM K 63 [some (.ref 0), some (vi x1), some (vi x2), some (vi x3), some (vi x4), some (vi x5), some (vi x6), none, none] [] σ (k63 σ x1 x2 x3 x4 x5 x6)) : ∀ (n : Nat) (σ : St) (x1 x2 x3 x4 x5 x6 x7 : Int), WA 6 0 1 cX11_liars RX11 9 (some .int) LYM LYM K 94 [some (.ref 0), some (vi x1), some (vi x2), some (vi x3), some (vi x4), some (vi x5), some (vi x6), some (vi x7), none] [] σ (l_M_liars_94 F k32 k63 n σ x1 x2 x3 x4 x5 x6 x7)
  | 0, _, _, _, _, _, _, _, _ => a_none
  | n + 1, σ, x1, x2, x3, x4, x5, x6, x7 => cb_M_liars_94 F k32 k63 h32 h63 _ (cl_M_liars_94 F k32 k63 h32 h63 n) σ x1 x2 x3 x4 x5 x6 x7
set_option maxRecDepth 100000 in
set_option maxHeartbeats 4000000 in
theorem cb_M_liars_63 {K : KX} (F : Nat) (k32 : St → Int → Int → Option (Int × St)) (h32 : ∀ σ x1 x2, WA 6 0 1 cX11_liars RX11 9 (some .int) LYM LYM K 32 [some (.ref 0), some (vi x1), some (vi x2), none, none, none, none, none, none] [] σ (k32 σ x1 x2)) (self : St → Int → Int → Int → Int → Int → Int → Option (Int × St)) (hself : ∀ σ x1 x2 x3 x4 x5 x6, WA 6 0 1 cX11_liars RX11 9 (some .int) LYM LYM K 63 [some (.ref 0), some (vi x1), some (vi x2), some (vi x3), some (vi x4), some (vi x5), some (vi x6), none, none] [] σ (self σ x1 x2 x3 x4 x5 x6)) (σ : St) (x1 x2 x3 x4 x5 x6 : Int) : WA 6 0 1 cX11_liars RX11 9 (some .int) LYM LYM K 63 [some (.ref 0), some (vi x1), some (vi x2), some (vi x3), some (vi x4), some (vi x5), some (vi x6), none, none] [] σ (b_M_liars_63 F k32 self σ x1 x2 x3 x4 x5 x6) := by
  unfold b_M_liars_63
  refine a_iload dX11_liars_63 rfl ?_
  refine a_iload_n dX11_liars_65 rfl ?_
  refine a_if_ne dX11_liars_66 rfl (fun _ => ?_) (fun _ => ?_)
  · refine a_iload dX11_liars_73 rfl ?_
    refine a_icmp_ge dX11_liars_75 rfl (fun _ => ?_) (fun _ => ?_)
    · refine a_iload_n dX11_liars_187 rfl ?_
      refine a_if_ne dX11_liars_188 rfl (fun _ => ?_) (fun _ => ?_)
      · refine a_aload_n dX11_liars_194 rfl ?_
        refine a_iload_n dX11_liars_195 rfl ?_
        refine a_putI fl_X11_83 cf_X11 rfl rfl lyM_0 rfl dX11_liars_196 (key := 43) rfl fun σ7 => ?_
        refine a_aload_n dX11_liars_199 rfl ?_
        refine a_iload_n dX11_liars_200 rfl ?_
        refine a_putI fl_X11_371 cf_X11 rfl rfl lyM_0 rfl dX11_liars_201 (key := 44) rfl fun σ8 => ?_
        refine a_aload_n dX11_liars_204 rfl ?_
        refine a_iload dX11_liars_205 rfl ?_
        refine a_putI fl_X11_374 cf_X11 rfl rfl lyM_0 rfl dX11_liars_207 (key := 45) rfl fun σ9 => ?_
        refine a_iload_n dX11_liars_210 rfl ?_
        exact a_iret dX11_liars_211
      refine a_goto dX11_liars_191 rfl ?_
      refine a_bv fun x2_10 ex2_10 => ?_
      refine a_iinc (y := x2_10) (L' := [some (.ref 0), some (vi x1), some (vi x2_10), some (vi x3), some (vi x4), some (vi x5), some (vi x6), none, none]) dX11_liars_212 rfl ex2_10 rfl rfl rfl ?_
      refine a_goto dX11_liars_215 rfl ?_
      exact a_L (lsub_get (A := [some (.ref 0), some (vi x1), some (vi x2_10), none, none, none, none, none, none]) ⟨rfl, ⟨rfl, ⟨rfl, trivial⟩⟩⟩) (h32 _ _ _)
    refine a_iload_n dX11_liars_78 rfl ?_
    refine a_iconst dX11_liars_79 ?_
    refine a_icmp_ge dX11_liars_80 rfl (fun _ => ?_) (fun _ => ?_)
    · refine a_iload dX11_liars_88 rfl ?_
      refine a_iconst dX11_liars_90 ?_
      refine a_iadd dX11_liars_91 ?_
      refine a_bv fun x7_11 ex7_11 => ?_
      refine a_istore (y := x7_11) (L' := [some (.ref 0), some (vi x1), some (vi x2), some (vi x3), some (vi x4), some (vi x5), some (vi x6), some (vi x7_11), none]) dX11_liars_92 ex7_11 rfl rfl rfl ?_
      exact cl_M_liars_94 F _ _ h32 hself F _ _ _ _ _ _ _ _
    refine a_iload dX11_liars_83 rfl ?_
    refine a_goto dX11_liars_85 rfl ?_
    refine a_istore (L' := [some (.ref 0), some (vi x1), some (vi x2), some (vi x3), some (vi x4), some (vi x5), some (vi x6), some (vi x6), none]) dX11_liars_92 rfl rfl rfl rfl ?_
    exact cl_M_liars_94 F _ _ h32 hself F _ _ _ _ _ _ _ _
  refine a_iconst dX11_liars_69 ?_
  refine a_goto dX11_liars_70 rfl ?_
  refine a_icmp_ge dX11_liars_75 rfl (fun _ => ?_) (fun _ => ?_)
  · refine a_iload_n dX11_liars_187 rfl ?_
    refine a_if_ne dX11_liars_188 rfl (fun _ => ?_) (fun _ => ?_)
    · refine a_aload_n dX11_liars_194 rfl ?_
      refine a_iload_n dX11_liars_195 rfl ?_
      refine a_putI fl_X11_83 cf_X11 rfl rfl lyM_0 rfl dX11_liars_196 (key := 43) rfl fun σ66 => ?_
      refine a_aload_n dX11_liars_199 rfl ?_
      refine a_iload_n dX11_liars_200 rfl ?_
      refine a_putI fl_X11_371 cf_X11 rfl rfl lyM_0 rfl dX11_liars_201 (key := 44) rfl fun σ67 => ?_
      refine a_aload_n dX11_liars_204 rfl ?_
      refine a_iload dX11_liars_205 rfl ?_
      refine a_putI fl_X11_374 cf_X11 rfl rfl lyM_0 rfl dX11_liars_207 (key := 45) rfl fun σ68 => ?_
      refine a_iload_n dX11_liars_210 rfl ?_
      exact a_iret dX11_liars_211
    refine a_goto dX11_liars_191 rfl ?_
    refine a_bv fun x2_69 ex2_69 => ?_
    refine a_iinc (y := x2_69) (L' := [some (.ref 0), some (vi x1), some (vi x2_69), some (vi x3), some (vi x4), some (vi x5), some (vi x6), none, none]) dX11_liars_212 rfl ex2_69 rfl rfl rfl ?_
    refine a_goto dX11_liars_215 rfl ?_
    exact a_L (lsub_get (A := [some (.ref 0), some (vi x1), some (vi x2_69), none, none, none, none, none, none]) ⟨rfl, ⟨rfl, ⟨rfl, trivial⟩⟩⟩) (h32 _ _ _)
  refine a_iload_n dX11_liars_78 rfl ?_
  refine a_iconst dX11_liars_79 ?_
  refine a_icmp_ge dX11_liars_80 rfl (fun _ => ?_) (fun _ => ?_)
  · refine a_iload dX11_liars_88 rfl ?_
    refine a_iconst dX11_liars_90 ?_
    refine a_iadd dX11_liars_91 ?_
    refine a_bv fun x7_70 ex7_70 => ?_
    refine a_istore (y := x7_70) (L' := [some (.ref 0), some (vi x1), some (vi x2), some (vi x3), some (vi x4), some (vi x5), some (vi x6), some (vi x7_70), none]) dX11_liars_92 ex7_70 rfl rfl rfl ?_
    exact cl_M_liars_94 F _ _ h32 hself F _ _ _ _ _ _ _ _
  refine a_iload dX11_liars_83 rfl ?_
  refine a_goto dX11_liars_85 rfl ?_
  refine a_istore (L' := [some (.ref 0), some (vi x1), some (vi x2), some (vi x3), some (vi x4), some (vi x5), some (vi x6), some (vi x6), none]) dX11_liars_92 rfl rfl rfl rfl ?_
  exact cl_M_liars_94 F _ _ h32 hself F _ _ _ _ _ _ _ _
set_option maxRecDepth 100000 in
set_option maxHeartbeats 4000000 in
theorem cl_M_liars_63 {K : KX} (F : Nat) (k32 : St → Int → Int → Option (Int × St)) (h32 : ∀ σ x1 x2, WA 6 0 1 cX11_liars RX11 9 (some .int) LYM LYM K 32 [some (.ref 0), some (vi x1), some (vi x2), none, none, none, none, none, none] [] σ (k32 σ x1 x2)) : ∀ (n : Nat) (σ : St) (x1 x2 x3 x4 x5 x6 : Int), WA 6 0 1 cX11_liars RX11 9 (some .int) LYM LYM K 63 [some (.ref 0), some (vi x1), some (vi x2), some (vi x3), some (vi x4), some (vi x5), some (vi x6), none, none] [] σ (l_M_liars_63 F k32 n σ x1 x2 x3 x4 x5 x6)
  | 0, _, _, _, _, _, _, _ => a_none
  | n + 1, σ, x1, x2, x3, x4, x5, x6 => cb_M_liars_63 F k32 h32 _ (cl_M_liars_63 F k32 h32 n) σ x1 x2 x3 x4 x5 x6
set_option maxRecDepth 100000 in
set_option maxHeartbeats 4000000 in
theorem cb_M_liars_32 {K : KX} (F : Nat) (self : St → Int → Int → Option (Int × St)) (hself : ∀ σ x1 x2, WA 6 0 1 cX11_liars RX11 9 (some .int) LYM LYM K 32 [some (.ref 0), some (vi x1), some (vi x2), none, none, none, none, none, none] [] σ (self σ x1 x2)) (σ : St) (x1 x2 : Int) : WA 6 0 1 cX11_liars RX11 9 (some .int) LYM LYM K 32 [some (.ref 0), some (vi x1), some (vi x2), none, none, none, none, none, none] [] σ (b_M_liars_32 F self σ x1 x2) := by
  unfold b_M_liars_32
  refine a_iload_n dX11_liars_32 rfl ?_
  refine a_iconst dX11_liars_33 ?_
  refine a_icmp_gt dX11_liars_34 rfl (fun _ => ?_) (fun _ => ?_)
  · refine a_iconst dX11_liars_218 ?_
    exact a_iret dX11_liars_219
  refine a_iload_n dX11_liars_37 rfl ?_
  refine a_aload_n dX11_liars_38 rfl ?_
  refine a_getR (c0 := 2) fl_X11_33 lyM_0 rfl dX11_liars_39 (key := 6) rfl ?_
  refine a_iconst dX11_liars_42 ?_
  refine a_iald lyM_2 rfl dX11_liars_43 ?_
  refine a_icmp_gt dX11_liars_44 rfl (fun _ => ?_) (fun _ => ?_)
  · refine a_iconst dX11_liars_218 ?_
    exact a_iret dX11_liars_219
  refine a_iconst dX11_liars_47 ?_
  refine a_istore_n (L' := [some (.ref 0), some (vi x1), some (vi x2), some (vi 0), none, none, none, none, none]) dX11_liars_48 rfl rfl rfl rfl ?_
  refine a_iconst dX11_liars_49 ?_
  refine a_istore (L' := [some (.ref 0), some (vi x1), some (vi x2), some (vi 0), some (vi 0), none, none, none, none]) dX11_liars_50 rfl rfl rfl rfl ?_
  refine a_aload_n dX11_liars_52 rfl ?_
  refine a_getR (c0 := 2) fl_X11_33 lyM_0 rfl dX11_liars_53 (key := 6) rfl ?_
  refine a_iconst dX11_liars_56 ?_
  refine a_iald lyM_2 rfl dX11_liars_57 ?_
  refine a_bv fun x5_6 ex5_6 => ?_
  refine a_istore (y := x5_6) (L' := [some (.ref 0), some (vi x1), some (vi x2), some (vi 0), some (vi 0), some (vi x5_6), none, none, none]) dX11_liars_58 ex5_6 rfl rfl rfl ?_
  refine a_iconst dX11_liars_60 ?_
  refine a_istore (L' := [some (.ref 0), some (vi x1), some (vi x2), some (vi 0), some (vi 0), some (vi x5_6), some (vi 0), none, none]) dX11_liars_61 rfl rfl rfl rfl ?_
  exact cl_M_liars_63 F _ hself F _ _ _ _ _ _ _
set_option maxRecDepth 100000 in
set_option maxHeartbeats 4000000 in
theorem cl_M_liars_32 {K : KX} (F : Nat) : ∀ (n : Nat) (σ : St) (x1 x2 : Int), WA 6 0 1 cX11_liars RX11 9 (some .int) LYM LYM K 32 [some (.ref 0), some (vi x1), some (vi x2), none, none, none, none, none, none] [] σ (l_M_liars_32 F n σ x1 x2)
  | 0, _, _, _ => a_none
  | n + 1, σ, x1, x2 => cb_M_liars_32 F _ (cl_M_liars_32 F n) σ x1 x2
set_option maxRecDepth 100000 in
set_option maxHeartbeats 4000000 in
theorem c_M_liars (F : Nat) (σ : St) (x1 : Int) : Ct 6 0 1 yX11_liars cX11_liars 9 (some .int) LYM LYM [.ref 0, vi x1] σ (f_M_liars F σ x1) := by
  unfold f_M_liars
  refine Ct_of (d := 6) (kp := 0) (kd := 1) (own := RX11) (nL := 9) (ret := (some .int)) (LY := LYM) (LYe := LYM) (L := [some (.ref 0), some (vi x1), none, none, none, none, none, none, none]) rfl (by decide +kernel) rfl rfl mf_L_155.2.2.2.1 rfl fun K => ?_
  refine a_aload_n dX11_liars_0 rfl ?_
  refine a_iconst dX11_liars_1 ?_
  refine a_putI fl_X11_1 cf_X11 rfl rfl lyM_0 rfl dX11_liars_2 (key := 0) rfl fun σ1 => ?_
  refine a_aload_n dX11_liars_5 rfl ?_
  refine a_callVi (as := []) mf_X11_344 lyM_0 rfl (c_M_takesReadings F _) LYsame.rf dX11_liars_6 rfl rfl rfl rfl rfl rfl (Or.inl rfl) fun r2 σ3 => ?_
  refine a_aload_n dX11_liars_9 rfl ?_
  refine a_getR (c0 := 2) fl_X11_33 lyM_0 rfl dX11_liars_10 (key := 6) rfl ?_
  refine a_iconst dX11_liars_13 ?_
  refine a_iald lyM_2 rfl dX11_liars_14 ?_
  refine a_icmp_ne dX11_liars_15 rfl (fun _ => ?_) (fun _ => ?_)
  · refine a_bipush dX11_liars_27 bi_m2 ?_
    exact a_iret dX11_liars_29
  refine a_iload_n dX11_liars_18 rfl ?_
  refine a_iconst dX11_liars_19 ?_
  refine a_iconst dX11_liars_20 ?_
  refine a_callSi (as := [vi x1, vi 0, vi 2]) mf_X11_175 (c_M_isIn F _ _ _ _) LYsame.rf dX11_liars_21 rfl rfl rfl rfl rfl rfl (Or.inl rfl) fun r4 σ5 => ?_
  refine a_if_ne dX11_liars_24 rfl (fun _ => ?_) (fun _ => ?_)
  · refine a_iconst dX11_liars_30 ?_
    refine a_istore_n (L' := [some (.ref 0), some (vi x1), some (vi 0), none, none, none, none, none, none]) dX11_liars_31 rfl rfl rfl rfl ?_
    exact cl_M_liars_32 F F _ _ _
  refine a_bipush dX11_liars_27 bi_m2 ?_
  exact a_iret dX11_liars_29
def f_M_liar (F : Nat) (σ : St) (x1 : Int) : Option (Int × St) := bs (sF σ 0 0) fun σ1 => gd (rng (gF σ1 43)) (if (gF σ1 43) < 0 then some ((-1), σ1) else gd (rng x1 ∧ rng (-1)) (if x1 < (-1) then some ((-1), σ1) else gd (rng x1 ∧ rng (gF σ1 43)) (if x1 < (gF σ1 43) then gd (rng x1 ∧ rng (-1)) (if x1 = (-1) then some ((gF σ1 44), σ1) else gd (rng x1) (if x1 = 0 then gd (rng (gF σ1 45) ∧ rng 10 ∧ 10 ≠ (0 : Int)) (some ((Int.tdiv (gF σ1 45) 10), σ1)) else gd (rng (gF σ1 45) ∧ rng 10 ∧ 10 ≠ (0 : Int)) (some ((Int.tmod (gF σ1 45) 10), σ1)))) else some ((-1), σ1))))
set_option maxRecDepth 100000 in
set_option maxHeartbeats 4000000 in
theorem c_M_liar (F : Nat) (σ : St) (x1 : Int) : Ct 1 0 1 yX11_liar cX11_liar 2 (some .int) LYM LYM [.ref 0, vi x1] σ (f_M_liar F σ x1) := by
  unfold f_M_liar
  refine Ct_of (d := 1) (kp := 0) (kd := 1) (own := RX11) (nL := 2) (ret := (some .int)) (LY := LYM) (LYe := LYM) (L := [some (.ref 0), some (vi x1)]) rfl (by decide +kernel) rfl rfl mf_L_159.2.2.2.1 rfl fun K => ?_
  refine a_aload_n dX11_liar_0 rfl ?_
  refine a_iconst dX11_liar_1 ?_
  refine a_putI fl_X11_1 cf_X11 rfl rfl lyM_0 rfl dX11_liar_2 (key := 0) rfl fun σ1 => ?_
  refine a_aload_n dX11_liar_5 rfl ?_
  refine a_getI fl_X11_83 lyM_0 rfl dX11_liar_6 (key := 43) rfl ?_
  refine a_if_lt dX11_liar_9 rfl (fun _ => ?_) (fun _ => ?_)
  · refine a_iconst dX11_liar_25 ?_
    exact a_iret dX11_liar_26
  refine a_iload_n dX11_liar_12 rfl ?_
  refine a_iconst dX11_liar_13 ?_
  refine a_icmp_lt dX11_liar_14 rfl (fun _ => ?_) (fun _ => ?_)
  · refine a_iconst dX11_liar_25 ?_
    exact a_iret dX11_liar_26
  refine a_iload_n dX11_liar_17 rfl ?_
  refine a_aload_n dX11_liar_18 rfl ?_
  refine a_getI fl_X11_83 lyM_0 rfl dX11_liar_19 (key := 43) rfl ?_
  refine a_icmp_lt dX11_liar_22 rfl (fun _ => ?_) (fun _ => ?_)
  · refine a_iload_n dX11_liar_27 rfl ?_
    refine a_iconst dX11_liar_28 ?_
    refine a_icmp_ne dX11_liar_29 rfl (fun _ => ?_) (fun _ => ?_)
    · refine a_iload_n dX11_liar_39 rfl ?_
      refine a_if_ne dX11_liar_40 rfl (fun _ => ?_) (fun _ => ?_)
      · refine a_aload_n dX11_liar_53 rfl ?_
        refine a_getI fl_X11_374 lyM_0 rfl dX11_liar_54 (key := 45) rfl ?_
        refine a_bipush dX11_liar_57 bi_10 ?_
        refine a_irem dX11_liar_59 (fun _ => ?_)
        exact a_iret dX11_liar_60
      refine a_aload_n dX11_liar_43 rfl ?_
      refine a_getI fl_X11_374 lyM_0 rfl dX11_liar_44 (key := 45) rfl ?_
      refine a_bipush dX11_liar_47 bi_10 ?_
      refine a_idiv dX11_liar_49 (fun _ => ?_)
      refine a_goto dX11_liar_50 rfl ?_
      exact a_iret dX11_liar_60
    refine a_aload_n dX11_liar_32 rfl ?_
    refine a_getI fl_X11_371 lyM_0 rfl dX11_liar_33 (key := 44) rfl ?_
    refine a_goto dX11_liar_36 rfl ?_
    exact a_iret dX11_liar_60
  refine a_iconst dX11_liar_25 ?_
  exact a_iret dX11_liar_26
def b_M_nulled_225 (F : Nat) (self : St → Int → Option (Int × St)) (σ : St) (x1 : Int) : Option (Int × St) := gd (rng x1 ∧ rng (gF σ 47)) (if (gF σ 47) ≤ x1 then some (1, σ) else bnd (f_M_share F σ x1) fun r11 σ12 => gd (inb x1 10) (bs (sA σ12 17 (Int.toNat x1) r11) fun σ13 => bv (x1 + 1) fun x1_14 => self σ13 x1_14))
def l_M_nulled_225 (F : Nat) : Nat → St → Int → Option (Int × St)
  | 0 => fun _ _ => none
  | n + 1 => fun σ x1 => b_M_nulled_225 F (l_M_nulled_225 F n) σ x1
def b_M_nulled_117 (F : Nat) (k107 : St → Int → Option (Int × St)) (self : St → Int → Int → Option (Int × St)) (σ : St) (x1 x2 : Int) : Option (Int × St) := gd (inb 1 82) (gd (rng x2 ∧ rng (gA σ 2 (Int.toNat 1))) (if (gA σ 2 (Int.toNat 1)) ≤ x2 then bv ((((gF σ 25) * x1) + (gF σ 25)) - 1) fun t15 => gd (rng x1) (if x1 = 0 then gd (inb t15 2800) (bs (sA σ 7 (Int.toNat t15) 1) fun σ18 => bv (x1 + 1) fun x1_19 => k107 σ18 x1_19) else gd (inb t15 2800) (bs (sA σ 7 (Int.toNat t15) 0) fun σ16 => bv (x1 + 1) fun x1_17 => k107 σ16 x1_17)) else bnd (f_M_gain F σ x2) fun r20 σ21 => bnd (f_M_octet F σ21 x1) fun r22 σ23 => bnd (f_M_place F σ23 x2) fun r24 σ25 => bnd (f_M_waveOf F σ25 r22 r24) fun r26 σ27 => gd (rng (r20 * r26) ∧ rng (gF σ27 20) ∧ (gF σ27 20) ≠ (0 : Int)) (bv (Int.tmod (r20 * r26) (gF σ27 20)) fun t28 => gd (inb (((gF σ 25) * x1) + x2) 2800) (bs (sA σ27 7 (Int.toNat (((gF σ 25) * x1) + x2)) t28) fun σ29 => bv (x2 + 1) fun x2_30 => self σ29 x1 x2_30))))
def l_M_nulled_117 (F : Nat) (k107 : St → Int → Option (Int × St)) : Nat → St → Int → Int → Option (Int × St)
  | 0 => fun _ _ _ => none
  | n + 1 => fun σ x1 x2 => b_M_nulled_117 F k107 (l_M_nulled_117 F k107 n) σ x1 x2
def b_M_nulled_107 (F : Nat) (self : St → Int → Option (Int × St)) (σ : St) (x1 : Int) : Option (Int × St) := gd (rng x1 ∧ rng (gF σ 3)) (if (gF σ 3) ≤ x1 then bnd (f_M_isMade F σ) fun r8 σ9 => gd (rng r8) (if r8 = 0 then some (0, σ9) else gd (inb 1 82) (bs (sF σ9 47 (gA σ9 2 (Int.toNat 1))) fun σ10 => l_M_nulled_225 F F σ10 0)) else l_M_nulled_117 F self F σ x1 0)
def l_M_nulled_107 (F : Nat) : Nat → St → Int → Option (Int × St)
  | 0 => fun _ _ => none
  | n + 1 => fun σ x1 => b_M_nulled_107 F (l_M_nulled_107 F n) σ x1
def b_M_nulled_53 (F : Nat) (k29 : St → Int → Option (Int × St)) (self : St → Int → Int → Option (Int × St)) (σ : St) (x1 x2 : Int) : Option (Int × St) := gd (rng x2 ∧ rng x1) (if x1 ≤ x2 then bv (x1 + 1) fun x1_35 => k29 σ x1_35 else bnd (f_M_octet F σ x2) fun r36 σ37 => bnd (f_M_octet F σ37 x1) fun r38 σ39 => gd (rng r36 ∧ rng r38) (if r36 = r38 then some (0, σ39) else bv (x2 + 1) fun x2_40 => self σ39 x1 x2_40))
def l_M_nulled_53 (F : Nat) (k29 : St → Int → Option (Int × St)) : Nat → St → Int → Int → Option (Int × St)
  | 0 => fun _ _ _ => none
  | n + 1 => fun σ x1 x2 => b_M_nulled_53 F k29 (l_M_nulled_53 F k29 n) σ x1 x2
def b_M_nulled_29 (F : Nat) (self : St → Int → Option (Int × St)) (σ : St) (x1 : Int) : Option (Int × St) := gd (rng x1 ∧ rng (gF σ 3)) (if (gF σ 3) ≤ x1 then gd (inb 1 82) (bs (sF σ 25 ((gA σ 2 (Int.toNat 1)) + 1)) fun σ6 => bs (sF σ6 26 (gF σ6 3)) fun σ7 => l_M_nulled_107 F F σ7 0) else bnd (f_M_octet F σ x1) fun r31 σ32 => bnd (f_M_isWay F σ32 r31) fun r33 σ34 => gd (rng r33) (if r33 = 0 then some (0, σ34) else l_M_nulled_53 F self F σ34 x1 0))
def l_M_nulled_29 (F : Nat) : Nat → St → Int → Option (Int × St)
  | 0 => fun _ _ => none
  | n + 1 => fun σ x1 => b_M_nulled_29 F (l_M_nulled_29 F n) σ x1
def f_M_nulled (F : Nat) (σ : St) : Option (Int × St) := bs (sF σ 0 0) fun σ1 => bnd (f_M_taken F σ1 940) fun r2 σ3 => bnd (f_M_isIn F σ3 (gF σ3 3) 1 7) fun r4 σ5 => gd (rng r4) (if r4 = 0 then some (0, σ5) else l_M_nulled_29 F F σ5 0)
set_option maxRecDepth 100000 in
set_option maxHeartbeats 4000000 in
theorem cb_M_nulled_225 {K : KX} (F : Nat) (self : St → Int → Option (Int × St)) (hself : ∀ σ x1, WA 4 0 1 cX11_nulled RX11 3 (some .boolean) LYM LYM K 225 [some (.ref 0), some (vi x1), none] [] σ (self σ x1)) (σ : St) (x1 : Int) : WA 4 0 1 cX11_nulled RX11 3 (some .boolean) LYM LYM K 225 [some (.ref 0), some (vi x1), none] [] σ (b_M_nulled_225 F self σ x1) := by
  unfold b_M_nulled_225
  refine a_iload_n dX11_nulled_225 rfl ?_
  refine a_aload_n dX11_nulled_226 rfl ?_
  refine a_getI fl_X11_89 lyM_0 rfl dX11_nulled_227 (key := 47) rfl ?_
  refine a_icmp_ge dX11_nulled_230 rfl (fun _ => ?_) (fun _ => ?_)
  · refine a_iconst dX11_nulled_250 ?_
    exact a_zretc (by decide) dX11_nulled_251
  refine a_aload_n dX11_nulled_233 rfl ?_
  refine a_getR (c0 := 17) fl_X11_86 lyM_0 rfl dX11_nulled_234 (key := 46) rfl ?_
  refine a_iload_n dX11_nulled_237 rfl ?_
  refine a_aload_n dX11_nulled_238 rfl ?_
  refine a_iload_n dX11_nulled_239 rfl ?_
  refine a_callVi (as := [vi x1]) mf_X11_320 lyM_0 rfl (c_M_share F _ _) LYsame.rf dX11_nulled_240 rfl rfl rfl rfl rfl rfl (Or.inl rfl) fun r11 σ12 => ?_
  refine a_iast lyM_17 rfl dX11_nulled_243 fun σ13 => ?_
  refine a_bv fun x1_14 ex1_14 => ?_
  refine a_iinc (y := x1_14) (L' := [some (.ref 0), some (vi x1_14), none]) dX11_nulled_244 rfl ex1_14 rfl rfl rfl ?_
  refine a_goto dX11_nulled_247 rfl ?_
  exact hself _ _
set_option maxRecDepth 100000 in
set_option maxHeartbeats 4000000 in
theorem cl_M_nulled_225 {K : KX} (F : Nat) : ∀ (n : Nat) (σ : St) (x1 : Int), WA 4 0 1 cX11_nulled RX11 3 (some .boolean) LYM LYM K 225 [some (.ref 0), some (vi x1), none] [] σ (l_M_nulled_225 F n σ x1)
  | 0, _, _ => a_none
  | n + 1, σ, x1 => cb_M_nulled_225 F _ (cl_M_nulled_225 F n) σ x1
set_option maxRecDepth 100000 in
set_option maxHeartbeats 4000000 in
theorem cb_M_nulled_117 {K : KX} (F : Nat) (k107 : St → Int → Option (Int × St)) (h107 : ∀ σ x1, WA 4 0 1 cX11_nulled RX11 3 (some .boolean) LYM LYM K 107 [some (.ref 0), some (vi x1), none] [] σ (k107 σ x1)) (self : St → Int → Int → Option (Int × St)) (hself : ∀ σ x1 x2, WA 4 0 1 cX11_nulled RX11 3 (some .boolean) LYM LYM K 117 [some (.ref 0), some (vi x1), some (vi x2)] [] σ (self σ x1 x2)) (σ : St) (x1 x2 : Int) : WA 4 0 1 cX11_nulled RX11 3 (some .boolean) LYM LYM K 117 [some (.ref 0), some (vi x1), some (vi x2)] [] σ (b_M_nulled_117 F k107 self σ x1 x2) := by
  unfold b_M_nulled_117
  refine a_iload_n dX11_nulled_117 rfl ?_
  refine a_aload_n dX11_nulled_118 rfl ?_
  refine a_getR (c0 := 2) fl_X11_33 lyM_0 rfl dX11_nulled_119 (key := 6) rfl ?_
  refine a_iconst dX11_nulled_122 ?_
  refine a_iald lyM_2 rfl dX11_nulled_123 ?_
  refine a_icmp_ge dX11_nulled_124 rfl (fun _ => ?_) (fun _ => ?_)
  · refine a_aload_n dX11_nulled_171 rfl ?_
    refine a_getR (c0 := 7) fl_X11_50 lyM_0 rfl dX11_nulled_172 (key := 23) rfl ?_
    refine a_aload_n dX11_nulled_175 rfl ?_
    refine a_getI fl_X11_251 lyM_0 rfl dX11_nulled_176 (key := 25) rfl ?_
    refine a_iload_n dX11_nulled_179 rfl ?_
    refine a_imul dX11_nulled_180 ?_
    refine a_aload_n dX11_nulled_181 rfl ?_
    refine a_getI fl_X11_251 lyM_0 rfl dX11_nulled_182 (key := 25) rfl ?_
    refine a_iadd dX11_nulled_185 ?_
    refine a_iconst dX11_nulled_186 ?_
    refine a_isub dX11_nulled_187 ?_
    refine a_bvi fun t15 => ?_
    refine a_iload_n dX11_nulled_188 rfl ?_
    refine a_if_ne dX11_nulled_189 rfl (fun _ => ?_) (fun _ => ?_)
    · refine a_iconst dX11_nulled_196 ?_
      refine a_iast lyM_7 rfl dX11_nulled_197 fun σ16 => ?_
      refine a_bv fun x1_17 ex1_17 => ?_
      refine a_iinc (y := x1_17) (L' := [some (.ref 0), some (vi x1_17), some (vi x2)]) dX11_nulled_198 rfl ex1_17 rfl rfl rfl ?_
      refine a_goto dX11_nulled_201 rfl ?_
      exact a_L (lsub_get (A := [some (.ref 0), some (vi x1_17), none]) ⟨rfl, ⟨rfl, trivial⟩⟩) (h107 _ _)
    refine a_iconst dX11_nulled_192 ?_
    refine a_goto dX11_nulled_193 rfl ?_
    refine a_iast lyM_7 rfl dX11_nulled_197 fun σ18 => ?_
    refine a_bv fun x1_19 ex1_19 => ?_
    refine a_iinc (y := x1_19) (L' := [some (.ref 0), some (vi x1_19), some (vi x2)]) dX11_nulled_198 rfl ex1_19 rfl rfl rfl ?_
    refine a_goto dX11_nulled_201 rfl ?_
    exact a_L (lsub_get (A := [some (.ref 0), some (vi x1_19), none]) ⟨rfl, ⟨rfl, trivial⟩⟩) (h107 _ _)
  refine a_aload_n dX11_nulled_127 rfl ?_
  refine a_getR (c0 := 7) fl_X11_50 lyM_0 rfl dX11_nulled_128 (key := 23) rfl ?_
  refine a_aload_n dX11_nulled_131 rfl ?_
  refine a_getI fl_X11_251 lyM_0 rfl dX11_nulled_132 (key := 25) rfl ?_
  refine a_iload_n dX11_nulled_135 rfl ?_
  refine a_imul dX11_nulled_136 ?_
  refine a_iload_n dX11_nulled_137 rfl ?_
  refine a_iadd dX11_nulled_138 ?_
  refine a_aload_n dX11_nulled_139 rfl ?_
  refine a_iload_n dX11_nulled_140 rfl ?_
  refine a_callVi (as := [vi x2]) mf_X11_279 lyM_0 rfl (c_M_gain F _ _) LYsame.rf dX11_nulled_141 rfl rfl rfl rfl rfl rfl (Or.inl rfl) fun r20 σ21 => ?_
  refine a_aload_n dX11_nulled_144 rfl ?_
  refine a_aload_n dX11_nulled_145 rfl ?_
  refine a_iload_n dX11_nulled_146 rfl ?_
  refine a_callVi (as := [vi x1]) mf_X11_341 lyM_0 rfl (c_M_octet F _ _) LYsame.rf dX11_nulled_147 rfl rfl rfl rfl rfl rfl (Or.inl rfl) fun r22 σ23 => ?_
  refine a_aload_n dX11_nulled_150 rfl ?_
  refine a_iload_n dX11_nulled_151 rfl ?_
  refine a_callVi (as := [vi x2]) mf_X11_276 lyM_0 rfl (c_M_place F _ _) LYsame.rf dX11_nulled_152 rfl rfl rfl rfl rfl rfl (Or.inl rfl) fun r24 σ25 => ?_
  refine a_callVi (as := [vi r22, vi r24]) mf_X11_273 lyM_0 rfl (c_M_waveOf F _ _ _) LYsame.rf dX11_nulled_155 rfl rfl rfl rfl rfl rfl (Or.inl rfl) fun r26 σ27 => ?_
  refine a_imul dX11_nulled_158 ?_
  refine a_aload_n dX11_nulled_159 rfl ?_
  refine a_getI fl_X11_230 lyM_0 rfl dX11_nulled_160 (key := 20) rfl ?_
  refine a_irem dX11_nulled_163 (fun _ => ?_)
  refine a_bvi fun t28 => ?_
  refine a_iast lyM_7 rfl dX11_nulled_164 fun σ29 => ?_
  refine a_bv fun x2_30 ex2_30 => ?_
  refine a_iinc (y := x2_30) (L' := [some (.ref 0), some (vi x1), some (vi x2_30)]) dX11_nulled_165 rfl ex2_30 rfl rfl rfl ?_
  refine a_goto dX11_nulled_168 rfl ?_
  exact hself _ _ _
set_option maxRecDepth 100000 in
set_option maxHeartbeats 4000000 in
theorem cl_M_nulled_117 {K : KX} (F : Nat) (k107 : St → Int → Option (Int × St)) (h107 : ∀ σ x1, WA 4 0 1 cX11_nulled RX11 3 (some .boolean) LYM LYM K 107 [some (.ref 0), some (vi x1), none] [] σ (k107 σ x1)) : ∀ (n : Nat) (σ : St) (x1 x2 : Int), WA 4 0 1 cX11_nulled RX11 3 (some .boolean) LYM LYM K 117 [some (.ref 0), some (vi x1), some (vi x2)] [] σ (l_M_nulled_117 F k107 n σ x1 x2)
  | 0, _, _, _ => a_none
  | n + 1, σ, x1, x2 => cb_M_nulled_117 F k107 h107 _ (cl_M_nulled_117 F k107 h107 n) σ x1 x2
set_option maxRecDepth 100000 in
set_option maxHeartbeats 4000000 in
theorem cb_M_nulled_107 {K : KX} (F : Nat) (self : St → Int → Option (Int × St)) (hself : ∀ σ x1, WA 4 0 1 cX11_nulled RX11 3 (some .boolean) LYM LYM K 107 [some (.ref 0), some (vi x1), none] [] σ (self σ x1)) (σ : St) (x1 : Int) : WA 4 0 1 cX11_nulled RX11 3 (some .boolean) LYM LYM K 107 [some (.ref 0), some (vi x1), none] [] σ (b_M_nulled_107 F self σ x1) := by
  unfold b_M_nulled_107
  refine a_iload_n dX11_nulled_107 rfl ?_
  refine a_aload_n dX11_nulled_108 rfl ?_
  refine a_getI fl_X11_18 lyM_0 rfl dX11_nulled_109 (key := 3) rfl ?_
  refine a_icmp_ge dX11_nulled_112 rfl (fun _ => ?_) (fun _ => ?_)
  · refine a_aload_n dX11_nulled_204 rfl ?_
    refine a_callVi (as := []) mf_X11_291 lyM_0 rfl (c_M_isMade F _) LYsame.rf dX11_nulled_205 rfl rfl rfl rfl rfl rfl (Or.inl rfl) fun r8 σ9 => ?_
    refine a_if_ne dX11_nulled_208 rfl (fun _ => ?_) (fun _ => ?_)
    · refine a_aload_n dX11_nulled_213 rfl ?_
      refine a_aload_n dX11_nulled_214 rfl ?_
      refine a_getR (c0 := 2) fl_X11_33 lyM_0 rfl dX11_nulled_215 (key := 6) rfl ?_
      refine a_iconst dX11_nulled_218 ?_
      refine a_iald lyM_2 rfl dX11_nulled_219 ?_
      refine a_putI fl_X11_89 cf_X11 rfl rfl lyM_0 rfl dX11_nulled_220 (key := 47) rfl fun σ10 => ?_
      refine a_iconst dX11_nulled_223 ?_
      refine a_istore_n (L' := [some (.ref 0), some (vi 0), none]) dX11_nulled_224 rfl rfl rfl rfl ?_
      exact cl_M_nulled_225 F F _ _
    refine a_iconst dX11_nulled_211 ?_
    exact a_zretc (by decide) dX11_nulled_212
  refine a_iconst dX11_nulled_115 ?_
  refine a_istore_n (L' := [some (.ref 0), some (vi x1), some (vi 0)]) dX11_nulled_116 rfl rfl rfl rfl ?_
  exact cl_M_nulled_117 F _ hself F _ _ _
set_option maxRecDepth 100000 in
set_option maxHeartbeats 4000000 in
theorem cl_M_nulled_107 {K : KX} (F : Nat) : ∀ (n : Nat) (σ : St) (x1 : Int), WA 4 0 1 cX11_nulled RX11 3 (some .boolean) LYM LYM K 107 [some (.ref 0), some (vi x1), none] [] σ (l_M_nulled_107 F n σ x1)
  | 0, _, _ => a_none
  | n + 1, σ, x1 => cb_M_nulled_107 F _ (cl_M_nulled_107 F n) σ x1
set_option maxRecDepth 100000 in
set_option maxHeartbeats 4000000 in
theorem cb_M_nulled_53 {K : KX} (F : Nat) (k29 : St → Int → Option (Int × St)) (h29 : ∀ σ x1, WA 4 0 1 cX11_nulled RX11 3 (some .boolean) LYM LYM K 29 [some (.ref 0), some (vi x1), none] [] σ (k29 σ x1)) (self : St → Int → Int → Option (Int × St)) (hself : ∀ σ x1 x2, WA 4 0 1 cX11_nulled RX11 3 (some .boolean) LYM LYM K 53 [some (.ref 0), some (vi x1), some (vi x2)] [] σ (self σ x1 x2)) (σ : St) (x1 x2 : Int) : WA 4 0 1 cX11_nulled RX11 3 (some .boolean) LYM LYM K 53 [some (.ref 0), some (vi x1), some (vi x2)] [] σ (b_M_nulled_53 F k29 self σ x1 x2) := by
  unfold b_M_nulled_53
  refine a_iload_n dX11_nulled_53 rfl ?_
  refine a_iload_n dX11_nulled_54 rfl ?_
  refine a_icmp_ge dX11_nulled_55 rfl (fun _ => ?_) (fun _ => ?_)
  · refine a_bv fun x1_35 ex1_35 => ?_
    refine a_iinc (y := x1_35) (L' := [some (.ref 0), some (vi x1_35), some (vi x2)]) dX11_nulled_79 rfl ex1_35 rfl rfl rfl ?_
    refine a_goto dX11_nulled_82 rfl ?_
    exact a_L (lsub_get (A := [some (.ref 0), some (vi x1_35), none]) ⟨rfl, ⟨rfl, trivial⟩⟩) (h29 _ _)
  refine a_aload_n dX11_nulled_58 rfl ?_
  refine a_iload_n dX11_nulled_59 rfl ?_
  refine a_callVi (as := [vi x2]) mf_X11_341 lyM_0 rfl (c_M_octet F _ _) LYsame.rf dX11_nulled_60 rfl rfl rfl rfl rfl rfl (Or.inl rfl) fun r36 σ37 => ?_
  refine a_aload_n dX11_nulled_63 rfl ?_
  refine a_iload_n dX11_nulled_64 rfl ?_
  refine a_callVi (as := [vi x1]) mf_X11_341 lyM_0 rfl (c_M_octet F _ _) LYsame.rf dX11_nulled_65 rfl rfl rfl rfl rfl rfl (Or.inl rfl) fun r38 σ39 => ?_
  refine a_icmp_ne dX11_nulled_68 rfl (fun _ => ?_) (fun _ => ?_)
  · refine a_bv fun x2_40 ex2_40 => ?_
    refine a_iinc (y := x2_40) (L' := [some (.ref 0), some (vi x1), some (vi x2_40)]) dX11_nulled_73 rfl ex2_40 rfl rfl rfl ?_
    refine a_goto dX11_nulled_76 rfl ?_
    exact hself _ _ _
  refine a_iconst dX11_nulled_71 ?_
  exact a_zretc (by decide) dX11_nulled_72
set_option maxRecDepth 100000 in
set_option maxHeartbeats 4000000 in
theorem cl_M_nulled_53 {K : KX} (F : Nat) (k29 : St → Int → Option (Int × St)) (h29 : ∀ σ x1, WA 4 0 1 cX11_nulled RX11 3 (some .boolean) LYM LYM K 29 [some (.ref 0), some (vi x1), none] [] σ (k29 σ x1)) : ∀ (n : Nat) (σ : St) (x1 x2 : Int), WA 4 0 1 cX11_nulled RX11 3 (some .boolean) LYM LYM K 53 [some (.ref 0), some (vi x1), some (vi x2)] [] σ (l_M_nulled_53 F k29 n σ x1 x2)
  | 0, _, _, _ => a_none
  | n + 1, σ, x1, x2 => cb_M_nulled_53 F k29 h29 _ (cl_M_nulled_53 F k29 h29 n) σ x1 x2
set_option maxRecDepth 100000 in
set_option maxHeartbeats 4000000 in
theorem cb_M_nulled_29 {K : KX} (F : Nat) (self : St → Int → Option (Int × St)) (hself : ∀ σ x1, WA 4 0 1 cX11_nulled RX11 3 (some .boolean) LYM LYM K 29 [some (.ref 0), some (vi x1), none] [] σ (self σ x1)) (σ : St) (x1 : Int) : WA 4 0 1 cX11_nulled RX11 3 (some .boolean) LYM LYM K 29 [some (.ref 0), some (vi x1), none] [] σ (b_M_nulled_29 F self σ x1) := by
  unfold b_M_nulled_29
  refine a_iload_n dX11_nulled_29 rfl ?_
  refine a_aload_n dX11_nulled_30 rfl ?_
  refine a_getI fl_X11_18 lyM_0 rfl dX11_nulled_31 (key := 3) rfl ?_
  refine a_icmp_ge dX11_nulled_34 rfl (fun _ => ?_) (fun _ => ?_)
  · refine a_aload_n dX11_nulled_85 rfl ?_
    refine a_aload_n dX11_nulled_86 rfl ?_
    refine a_getR (c0 := 2) fl_X11_33 lyM_0 rfl dX11_nulled_87 (key := 6) rfl ?_
    refine a_iconst dX11_nulled_90 ?_
    refine a_iald lyM_2 rfl dX11_nulled_91 ?_
    refine a_iconst dX11_nulled_92 ?_
    refine a_iadd dX11_nulled_93 ?_
    refine a_putI fl_X11_251 cf_X11 rfl rfl lyM_0 rfl dX11_nulled_94 (key := 25) rfl fun σ6 => ?_
    refine a_aload_n dX11_nulled_97 rfl ?_
    refine a_aload_n dX11_nulled_98 rfl ?_
    refine a_getI fl_X11_18 lyM_0 rfl dX11_nulled_99 (key := 3) rfl ?_
    refine a_putI fl_X11_248 cf_X11 rfl rfl lyM_0 rfl dX11_nulled_102 (key := 26) rfl fun σ7 => ?_
    refine a_iconst dX11_nulled_105 ?_
    refine a_istore_n (L' := [some (.ref 0), some (vi 0), none]) dX11_nulled_106 rfl rfl rfl rfl ?_
    exact cl_M_nulled_107 F F _ _
  refine a_aload_n dX11_nulled_37 rfl ?_
  refine a_aload_n dX11_nulled_38 rfl ?_
  refine a_iload_n dX11_nulled_39 rfl ?_
  refine a_callVi (as := [vi x1]) mf_X11_341 lyM_0 rfl (c_M_octet F _ _) LYsame.rf dX11_nulled_40 rfl rfl rfl rfl rfl rfl (Or.inl rfl) fun r31 σ32 => ?_
  refine a_callVi (as := [vi r31]) mf_X11_270 lyM_0 rfl (c_M_isWay F _ _) LYsame.rf dX11_nulled_43 rfl rfl rfl rfl rfl rfl (Or.inl rfl) fun r33 σ34 => ?_
  refine a_if_ne dX11_nulled_46 rfl (fun _ => ?_) (fun _ => ?_)
  · refine a_iconst dX11_nulled_51 ?_
    refine a_istore_n (L' := [some (.ref 0), some (vi x1), some (vi 0)]) dX11_nulled_52 rfl rfl rfl rfl ?_
    exact cl_M_nulled_53 F _ hself F _ _ _
  refine a_iconst dX11_nulled_49 ?_
  exact a_zretc (by decide) dX11_nulled_50
set_option maxRecDepth 100000 in
set_option maxHeartbeats 4000000 in
theorem cl_M_nulled_29 {K : KX} (F : Nat) : ∀ (n : Nat) (σ : St) (x1 : Int), WA 4 0 1 cX11_nulled RX11 3 (some .boolean) LYM LYM K 29 [some (.ref 0), some (vi x1), none] [] σ (l_M_nulled_29 F n σ x1)
  | 0, _, _ => a_none
  | n + 1, σ, x1 => cb_M_nulled_29 F _ (cl_M_nulled_29 F n) σ x1
set_option maxRecDepth 100000 in
set_option maxHeartbeats 4000000 in
theorem c_M_nulled (F : Nat) (σ : St) : Ct 4 0 1 yX11_nulled cX11_nulled 3 (some .boolean) LYM LYM [.ref 0] σ (f_M_nulled F σ) := by
  unfold f_M_nulled
  refine Ct_of (d := 4) (kp := 0) (kd := 1) (own := RX11) (nL := 3) (ret := (some .boolean)) (LY := LYM) (LYe := LYM) (L := [some (.ref 0), none, none]) rfl (by decide +kernel) rfl rfl mf_L_164.2.2.2.1 rfl fun K => ?_
  refine a_aload_n dX11_nulled_0 rfl ?_
  refine a_iconst dX11_nulled_1 ?_
  refine a_putI fl_X11_1 cf_X11 rfl rfl lyM_0 rfl dX11_nulled_2 (key := 0) rfl fun σ1 => ?_
  refine a_aload_n dX11_nulled_5 rfl ?_
  refine a_sipush dX11_nulled_6 si_940 ?_
  refine a_callVv (as := [vi 940]) mf_X11_218 lyM_0 rfl (c_M_taken F _ _) LYsame.rf dX11_nulled_9 rfl rfl rfl rfl rfl rfl (Or.inl rfl) fun r2 σ3 => ?_
  refine a_aload_n dX11_nulled_12 rfl ?_
  refine a_getI fl_X11_18 lyM_0 rfl dX11_nulled_13 (key := 3) rfl ?_
  refine a_iconst dX11_nulled_16 ?_
  refine a_bipush dX11_nulled_17 bi_7 ?_
  refine a_callSi (as := [vi (gF σ3 3), vi 1, vi 7]) mf_X11_175 (c_M_isIn F _ _ _ _) LYsame.rf dX11_nulled_19 rfl rfl rfl rfl rfl rfl (Or.inl rfl) fun r4 σ5 => ?_
  refine a_if_ne dX11_nulled_22 rfl (fun _ => ?_) (fun _ => ?_)
  · refine a_iconst dX11_nulled_27 ?_
    refine a_istore_n (L' := [some (.ref 0), some (vi 0), none]) dX11_nulled_28 rfl rfl rfl rfl ?_
    exact cl_M_nulled_29 F F _ _
  refine a_iconst dX11_nulled_25 ?_
  exact a_zretc (by decide) dX11_nulled_26
def f_M_number (F : Nat) (σ : St) (x1 : Int) : Option (Int × St) := bs (sF σ 0 0) fun σ1 => bnd (f_M_isIn F σ1 x1 0 ((gF σ1 47) - 1)) fun r2 σ3 => gd (rng r2) (if r2 = 0 then some ((-1), σ3) else gd (inb x1 10) (some ((gA σ3 17 (Int.toNat x1)), σ3)))
set_option maxRecDepth 100000 in
set_option maxHeartbeats 4000000 in
theorem c_M_number (F : Nat) (σ : St) (x1 : Int) : Ct 2 0 1 yX11_number cX11_number 2 (some .int) LYM LYM [.ref 0, vi x1] σ (f_M_number F σ x1) := by
  unfold f_M_number
  refine Ct_of (d := 2) (kp := 0) (kd := 1) (own := RX11) (nL := 2) (ret := (some .int)) (LY := LYM) (LYe := LYM) (L := [some (.ref 0), some (vi x1)]) rfl (by decide +kernel) rfl rfl mf_L_168.2.2.2.1 rfl fun K => ?_
  refine a_aload_n dX11_number_0 rfl ?_
  refine a_iconst dX11_number_1 ?_
  refine a_putI fl_X11_1 cf_X11 rfl rfl lyM_0 rfl dX11_number_2 (key := 0) rfl fun σ1 => ?_
  refine a_iload_n dX11_number_5 rfl ?_
  refine a_iconst dX11_number_6 ?_
  refine a_aload_n dX11_number_7 rfl ?_
  refine a_getI fl_X11_89 lyM_0 rfl dX11_number_8 (key := 47) rfl ?_
  refine a_iconst dX11_number_11 ?_
  refine a_isub dX11_number_12 ?_
  refine a_callSi (as := [vi x1, vi 0, vi ((gF σ1 47) - 1)]) mf_X11_175 (c_M_isIn F _ _ _ _) LYsame.rf dX11_number_13 rfl rfl rfl rfl rfl rfl (Or.inl rfl) fun r2 σ3 => ?_
  refine a_if_eq dX11_number_16 rfl (fun _ => ?_) (fun _ => ?_)
  · refine a_iconst dX11_number_28 ?_
    exact a_iret dX11_number_29
  refine a_aload_n dX11_number_19 rfl ?_
  refine a_getR (c0 := 17) fl_X11_86 lyM_0 rfl dX11_number_20 (key := 46) rfl ?_
  refine a_iload_n dX11_number_23 rfl ?_
  refine a_iald lyM_17 rfl dX11_number_24 ?_
  refine a_goto dX11_number_25 rfl ?_
  exact a_iret dX11_number_29
def b_M_comes_39 (F : Nat) (self : St → Int → Int → Int → Option (Int × St)) (σ : St) (x1 x2 x3 : Int) : Option (Int × St) := gd (rng x3 ∧ rng (gF σ 47)) (if (gF σ 47) ≤ x3 then some (x2, σ) else gd (inb x3 10) (gd (rng (gA σ 17 (Int.toNat x3)) ∧ rng (gF σ 20) ∧ (gF σ 20) ≠ (0 : Int)) (bv (Int.tmod (gA σ 17 (Int.toNat x3)) (gF σ 20)) fun t4 => bnd (f_M_gain F σ x3) fun r5 σ6 => gd (rng (t4 * r5) ∧ rng (gF σ6 20) ∧ (gF σ6 20) ≠ (0 : Int)) (bv (Int.tmod (t4 * r5) (gF σ6 20)) fun t7 => bnd (f_M_place F σ6 x3) fun r8 σ9 => bnd (f_M_waveOf F σ9 x1 r8) fun r10 σ11 => gd (rng (x2 + (t7 * r10)) ∧ rng (gF σ11 20) ∧ (gF σ11 20) ≠ (0 : Int)) (bv (Int.tmod (x2 + (t7 * r10)) (gF σ11 20)) fun t12 => bv (x3 + 1) fun x3_13 => self σ11 x1 t12 x3_13)))))
def l_M_comes_39 (F : Nat) : Nat → St → Int → Int → Int → Option (Int × St)
  | 0 => fun _ _ _ _ => none
  | n + 1 => fun σ x1 x2 x3 => b_M_comes_39 F (l_M_comes_39 F n) σ x1 x2 x3
def f_M_comes (F : Nat) (σ : St) (x1 : Int) : Option (Int × St) := bs (sF σ 0 0) fun σ1 => bnd (f_M_isWay F σ1 x1) fun r2 σ3 => gd (rng r2) (if r2 = 0 then some ((-1), σ3) else gd (rng (gF σ3 47)) (if (gF σ3 47) < 0 then some ((-1), σ3) else gd (inb 1 82) (gd (rng (gF σ3 47) ∧ rng (gA σ3 2 (Int.toNat 1))) (if (gF σ3 47) = (gA σ3 2 (Int.toNat 1)) then l_M_comes_39 F F σ3 x1 0 0 else some ((-1), σ3)))))
set_option maxRecDepth 100000 in
set_option maxHeartbeats 4000000 in
theorem cb_M_comes_39 {K : KX} (F : Nat) (self : St → Int → Int → Int → Option (Int × St)) (hself : ∀ σ x1 x2 x3, WA 3 0 1 cX11_comes RX11 4 (some .int) LYM LYM K 39 [some (.ref 0), some (vi x1), some (vi x2), some (vi x3)] [] σ (self σ x1 x2 x3)) (σ : St) (x1 x2 x3 : Int) : WA 3 0 1 cX11_comes RX11 4 (some .int) LYM LYM K 39 [some (.ref 0), some (vi x1), some (vi x2), some (vi x3)] [] σ (b_M_comes_39 F self σ x1 x2 x3) := by
  unfold b_M_comes_39
  refine a_iload_n dX11_comes_39 rfl ?_
  refine a_aload_n dX11_comes_40 rfl ?_
  refine a_getI fl_X11_89 lyM_0 rfl dX11_comes_41 (key := 47) rfl ?_
  refine a_icmp_ge dX11_comes_44 rfl (fun _ => ?_) (fun _ => ?_)
  · refine a_iload_n dX11_comes_94 rfl ?_
    exact a_iret dX11_comes_95
  refine a_iload_n dX11_comes_47 rfl ?_
  refine a_aload_n dX11_comes_48 rfl ?_
  refine a_getR (c0 := 17) fl_X11_86 lyM_0 rfl dX11_comes_49 (key := 46) rfl ?_
  refine a_iload_n dX11_comes_52 rfl ?_
  refine a_iald lyM_17 rfl dX11_comes_53 ?_
  refine a_aload_n dX11_comes_54 rfl ?_
  refine a_getI fl_X11_230 lyM_0 rfl dX11_comes_55 (key := 20) rfl ?_
  refine a_irem dX11_comes_58 (fun _ => ?_)
  refine a_bvi fun t4 => ?_
  refine a_aload_n dX11_comes_59 rfl ?_
  refine a_iload_n dX11_comes_60 rfl ?_
  refine a_callVi (as := [vi x3]) mf_X11_279 lyM_0 rfl (c_M_gain F _ _) LYsame.rf dX11_comes_61 rfl rfl rfl rfl rfl rfl (Or.inl rfl) fun r5 σ6 => ?_
  refine a_imul dX11_comes_64 ?_
  refine a_aload_n dX11_comes_65 rfl ?_
  refine a_getI fl_X11_230 lyM_0 rfl dX11_comes_66 (key := 20) rfl ?_
  refine a_irem dX11_comes_69 (fun _ => ?_)
  refine a_bvi fun t7 => ?_
  refine a_aload_n dX11_comes_70 rfl ?_
  refine a_iload_n dX11_comes_71 rfl ?_
  refine a_aload_n dX11_comes_72 rfl ?_
  refine a_iload_n dX11_comes_73 rfl ?_
  refine a_callVi (as := [vi x3]) mf_X11_276 lyM_0 rfl (c_M_place F _ _) LYsame.rf dX11_comes_74 rfl rfl rfl rfl rfl rfl (Or.inl rfl) fun r8 σ9 => ?_
  refine a_callVi (as := [vi x1, vi r8]) mf_X11_273 lyM_0 rfl (c_M_waveOf F _ _ _) LYsame.rf dX11_comes_77 rfl rfl rfl rfl rfl rfl (Or.inl rfl) fun r10 σ11 => ?_
  refine a_imul dX11_comes_80 ?_
  refine a_iadd dX11_comes_81 ?_
  refine a_aload_n dX11_comes_82 rfl ?_
  refine a_getI fl_X11_230 lyM_0 rfl dX11_comes_83 (key := 20) rfl ?_
  refine a_irem dX11_comes_86 (fun _ => ?_)
  refine a_bvi fun t12 => ?_
  refine a_istore_n (L' := [some (.ref 0), some (vi x1), some (vi t12), some (vi x3)]) dX11_comes_87 rfl rfl rfl rfl ?_
  refine a_bv fun x3_13 ex3_13 => ?_
  refine a_iinc (y := x3_13) (L' := [some (.ref 0), some (vi x1), some (vi t12), some (vi x3_13)]) dX11_comes_88 rfl ex3_13 rfl rfl rfl ?_
  refine a_goto dX11_comes_91 rfl ?_
  exact hself _ _ _ _
set_option maxRecDepth 100000 in
set_option maxHeartbeats 4000000 in
theorem cl_M_comes_39 {K : KX} (F : Nat) : ∀ (n : Nat) (σ : St) (x1 x2 x3 : Int), WA 3 0 1 cX11_comes RX11 4 (some .int) LYM LYM K 39 [some (.ref 0), some (vi x1), some (vi x2), some (vi x3)] [] σ (l_M_comes_39 F n σ x1 x2 x3)
  | 0, _, _, _, _ => a_none
  | n + 1, σ, x1, x2, x3 => cb_M_comes_39 F _ (cl_M_comes_39 F n) σ x1 x2 x3
set_option maxRecDepth 100000 in
set_option maxHeartbeats 4000000 in
theorem c_M_comes (F : Nat) (σ : St) (x1 : Int) : Ct 3 0 1 yX11_comes cX11_comes 4 (some .int) LYM LYM [.ref 0, vi x1] σ (f_M_comes F σ x1) := by
  unfold f_M_comes
  refine Ct_of (d := 3) (kp := 0) (kd := 1) (own := RX11) (nL := 4) (ret := (some .int)) (LY := LYM) (LYe := LYM) (L := [some (.ref 0), some (vi x1), none, none]) rfl (by decide +kernel) rfl rfl mf_L_172.2.2.2.1 rfl fun K => ?_
  refine a_aload_n dX11_comes_0 rfl ?_
  refine a_iconst dX11_comes_1 ?_
  refine a_putI fl_X11_1 cf_X11 rfl rfl lyM_0 rfl dX11_comes_2 (key := 0) rfl fun σ1 => ?_
  refine a_aload_n dX11_comes_5 rfl ?_
  refine a_iload_n dX11_comes_6 rfl ?_
  refine a_callVi (as := [vi x1]) mf_X11_270 lyM_0 rfl (c_M_isWay F _ _) LYsame.rf dX11_comes_7 rfl rfl rfl rfl rfl rfl (Or.inl rfl) fun r2 σ3 => ?_
  refine a_if_eq dX11_comes_10 rfl (fun _ => ?_) (fun _ => ?_)
  · refine a_iconst dX11_comes_33 ?_
    exact a_iret dX11_comes_34
  refine a_aload_n dX11_comes_13 rfl ?_
  refine a_getI fl_X11_89 lyM_0 rfl dX11_comes_14 (key := 47) rfl ?_
  refine a_if_lt dX11_comes_17 rfl (fun _ => ?_) (fun _ => ?_)
  · refine a_iconst dX11_comes_33 ?_
    exact a_iret dX11_comes_34
  refine a_aload_n dX11_comes_20 rfl ?_
  refine a_getI fl_X11_89 lyM_0 rfl dX11_comes_21 (key := 47) rfl ?_
  refine a_aload_n dX11_comes_24 rfl ?_
  refine a_getR (c0 := 2) fl_X11_33 lyM_0 rfl dX11_comes_25 (key := 6) rfl ?_
  refine a_iconst dX11_comes_28 ?_
  refine a_iald lyM_2 rfl dX11_comes_29 ?_
  refine a_icmp_eq dX11_comes_30 rfl (fun _ => ?_) (fun _ => ?_)
  · refine a_iconst dX11_comes_35 ?_
    refine a_istore_n (L' := [some (.ref 0), some (vi x1), some (vi 0), none]) dX11_comes_36 rfl rfl rfl rfl ?_
    refine a_iconst dX11_comes_37 ?_
    refine a_istore_n (L' := [some (.ref 0), some (vi x1), some (vi 0), some (vi 0)]) dX11_comes_38 rfl rfl rfl rfl ?_
    exact cl_M_comes_39 F F _ _ _ _
  refine a_iconst dX11_comes_33 ?_
  exact a_iret dX11_comes_34
def b_M_mend_91 (F : Nat) (self : St → Int → Int → Int → Int → Option (Int × St)) (σ : St) (x1 x2 x4 x5 : Int) : Option (Int × St) := gd (rng x5 ∧ rng x2) (if x2 ≤ x5 then some (1, σ) else gd (inb x5 470) (bnd (f_M_place F σ x5) fun r19 σ20 => bnd (f_M_waveOf F σ20 x1 r19) fun r21 σ22 => bnd (f_M_inverse F σ22 r21) fun r23 σ24 => bv ((gA σ 12 (Int.toNat x5)) * r23) fun t25 => gd (rng t25 ∧ rng (gF σ24 20) ∧ (gF σ24 20) ≠ (0 : Int)) (bv ((Int.tmod t25 (gF σ24 20)) * x4) fun t26 => gd (rng t26 ∧ rng (gF σ24 20) ∧ (gF σ24 20) ≠ (0 : Int)) (gd (inb ((6 + (2 * x5)) + 1) 82) (bs (sA σ24 2 (Int.toNat ((6 + (2 * x5)) + 1)) (Int.tmod t26 (gF σ24 20))) fun σ27 => bv (x5 + 1) fun x5_28 => self σ27 x1 x2 x4 x5_28)))))
def l_M_mend_91 (F : Nat) : Nat → St → Int → Int → Int → Int → Option (Int × St)
  | 0 => fun _ _ _ _ _ => none
  | n + 1 => fun σ x1 x2 x4 x5 => b_M_mend_91 F (l_M_mend_91 F n) σ x1 x2 x4 x5
def f_M_mend (F : Nat) (σ : St) (x1 : Int) : Option (Int × St) := bs (sF σ 0 0) fun σ1 => bnd (f_M_takesReadings F σ1) fun r2 σ3 => gd (inb 1 82) (gd (rng r2 ∧ rng (gA σ3 2 (Int.toNat 1))) (if r2 = (gA σ3 2 (Int.toNat 1)) then gd (rng r2) (if r2 = 0 then some (0, σ3) else bnd (f_M_isWay F σ3 x1) fun r4 σ5 => gd (rng r4) (if r4 = 0 then some (0, σ5) else gd (inb 0 470) (gd (rng (gA σ5 12 (Int.toNat 0))) (if (gA σ5 12 (Int.toNat 0)) = 0 then some (0, σ5) else gd (inb 0 470) (bnd (f_M_place F σ5 0) fun r6 σ7 => bnd (f_M_waveOf F σ7 x1 r6) fun r8 σ9 => bnd (f_M_inverse F σ9 r8) fun r10 σ11 => bv ((gA σ5 12 (Int.toNat 0)) * r10) fun t12 => gd (rng t12 ∧ rng (gF σ11 20) ∧ (gF σ11 20) ≠ (0 : Int)) (bv (Int.tmod t12 (gF σ11 20)) fun x3_13 => bnd (f_M_inverse F σ11 x3_13) fun r14 σ15 => bnd (f_M_gain F σ15 0) fun r16 σ17 => gd (rng (r14 * r16) ∧ rng (gF σ17 20) ∧ (gF σ17 20) ≠ (0 : Int)) (bv (Int.tmod (r14 * r16) (gF σ17 20)) fun t18 => l_M_mend_91 F F σ17 x1 r2 t18 0))))))) else some (0, σ3)))
set_option maxRecDepth 100000 in
set_option maxHeartbeats 4000000 in
theorem cb_M_mend_91 {K : KX} (F : Nat) (self : St → Int → Int → Int → Int → Option (Int × St)) (hself : ∀ σ x1 x2 x4 x5, WA 3 0 1 cX11_mend RX11 6 (some .boolean) LYM LYM K 91 [some (.ref 0), some (vi x1), some (vi x2), none, some (vi x4), some (vi x5)] [] σ (self σ x1 x2 x4 x5)) (σ : St) (x1 x2 x4 x5 : Int) : WA 3 0 1 cX11_mend RX11 6 (some .boolean) LYM LYM K 91 [some (.ref 0), some (vi x1), some (vi x2), none, some (vi x4), some (vi x5)] [] σ (b_M_mend_91 F self σ x1 x2 x4 x5) := by
  unfold b_M_mend_91
  refine a_iload dX11_mend_91 rfl ?_
  refine a_iload_n dX11_mend_93 rfl ?_
  refine a_icmp_ge dX11_mend_94 rfl (fun _ => ?_) (fun _ => ?_)
  · refine a_iconst dX11_mend_153 ?_
    exact a_zretc (by decide) dX11_mend_154
  refine a_aload_n dX11_mend_97 rfl ?_
  refine a_getR (c0 := 2) fl_X11_33 lyM_0 rfl dX11_mend_98 (key := 6) rfl ?_
  refine a_bipush dX11_mend_101 bi_6 ?_
  refine a_iconst dX11_mend_103 ?_
  refine a_iload dX11_mend_104 rfl ?_
  refine a_imul dX11_mend_106 ?_
  refine a_iadd dX11_mend_107 ?_
  refine a_iconst dX11_mend_108 ?_
  refine a_iadd dX11_mend_109 ?_
  refine a_aload_n dX11_mend_110 rfl ?_
  refine a_getR (c0 := 12) fl_X11_65 lyM_0 rfl dX11_mend_111 (key := 35) rfl ?_
  refine a_iload dX11_mend_114 rfl ?_
  refine a_iald lyM_12 rfl dX11_mend_116 ?_
  refine a_aload_n dX11_mend_117 rfl ?_
  refine a_aload_n dX11_mend_118 rfl ?_
  refine a_iload_n dX11_mend_119 rfl ?_
  refine a_aload_n dX11_mend_120 rfl ?_
  refine a_iload dX11_mend_121 rfl ?_
  refine a_callVi (as := [vi x5]) mf_X11_276 lyM_0 rfl (c_M_place F _ _) LYsame.rf dX11_mend_123 rfl rfl rfl rfl rfl rfl (Or.inl rfl) fun r19 σ20 => ?_
  refine a_callVi (as := [vi x1, vi r19]) mf_X11_273 lyM_0 rfl (c_M_waveOf F _ _ _) LYsame.rf dX11_mend_126 rfl rfl rfl rfl rfl rfl (Or.inl rfl) fun r21 σ22 => ?_
  refine a_callVi (as := [vi r21]) mf_X11_254 lyM_0 rfl (c_M_inverse F _ _) LYsame.rf dX11_mend_129 rfl rfl rfl rfl rfl rfl (Or.inl rfl) fun r23 σ24 => ?_
  refine a_imul dX11_mend_132 ?_
  refine a_bvi fun t25 => ?_
  refine a_aload_n dX11_mend_133 rfl ?_
  refine a_getI fl_X11_230 lyM_0 rfl dX11_mend_134 (key := 20) rfl ?_
  refine a_irem dX11_mend_137 (fun _ => ?_)
  refine a_iload dX11_mend_138 rfl ?_
  refine a_imul dX11_mend_140 ?_
  refine a_bvi fun t26 => ?_
  refine a_aload_n dX11_mend_141 rfl ?_
  refine a_getI fl_X11_230 lyM_0 rfl dX11_mend_142 (key := 20) rfl ?_
  refine a_irem dX11_mend_145 (fun _ => ?_)
  refine a_iast lyM_2 rfl dX11_mend_146 fun σ27 => ?_
  refine a_bv fun x5_28 ex5_28 => ?_
  refine a_iinc (y := x5_28) (L' := [some (.ref 0), some (vi x1), some (vi x2), none, some (vi x4), some (vi x5_28)]) dX11_mend_147 rfl ex5_28 rfl rfl rfl ?_
  refine a_goto dX11_mend_150 rfl ?_
  exact hself _ _ _ _ _
set_option maxRecDepth 100000 in
set_option maxHeartbeats 4000000 in
theorem cl_M_mend_91 {K : KX} (F : Nat) : ∀ (n : Nat) (σ : St) (x1 x2 x4 x5 : Int), WA 3 0 1 cX11_mend RX11 6 (some .boolean) LYM LYM K 91 [some (.ref 0), some (vi x1), some (vi x2), none, some (vi x4), some (vi x5)] [] σ (l_M_mend_91 F n σ x1 x2 x4 x5)
  | 0, _, _, _, _, _ => a_none
  | n + 1, σ, x1, x2, x4, x5 => cb_M_mend_91 F _ (cl_M_mend_91 F n) σ x1 x2 x4 x5
set_option maxRecDepth 100000 in
set_option maxHeartbeats 4000000 in
theorem c_M_mend (F : Nat) (σ : St) (x1 : Int) : Ct 3 0 1 yX11_mend cX11_mend 6 (some .boolean) LYM LYM [.ref 0, vi x1] σ (f_M_mend F σ x1) := by
  unfold f_M_mend
  refine Ct_of (d := 3) (kp := 0) (kd := 1) (own := RX11) (nL := 6) (ret := (some .boolean)) (LY := LYM) (LYe := LYM) (L := [some (.ref 0), some (vi x1), none, none, none, none]) rfl (by decide +kernel) rfl rfl mf_L_176.2.2.2.1 rfl fun K => ?_
  refine a_aload_n dX11_mend_0 rfl ?_
  refine a_iconst dX11_mend_1 ?_
  refine a_putI fl_X11_1 cf_X11 rfl rfl lyM_0 rfl dX11_mend_2 (key := 0) rfl fun σ1 => ?_
  refine a_aload_n dX11_mend_5 rfl ?_
  refine a_callVi (as := []) mf_X11_344 lyM_0 rfl (c_M_takesReadings F _) LYsame.rf dX11_mend_6 rfl rfl rfl rfl rfl rfl (Or.inl rfl) fun r2 σ3 => ?_
  refine a_istore_n (L' := [some (.ref 0), some (vi x1), some (vi r2), none, none, none]) dX11_mend_9 rfl rfl rfl rfl ?_
  refine a_iload_n dX11_mend_10 rfl ?_
  refine a_aload_n dX11_mend_11 rfl ?_
  refine a_getR (c0 := 2) fl_X11_33 lyM_0 rfl dX11_mend_12 (key := 6) rfl ?_
  refine a_iconst dX11_mend_15 ?_
  refine a_iald lyM_2 rfl dX11_mend_16 ?_
  refine a_icmp_ne dX11_mend_17 rfl (fun _ => ?_) (fun _ => ?_)
  · refine a_iconst dX11_mend_41 ?_
    exact a_zretc (by decide) dX11_mend_42
  refine a_iload_n dX11_mend_20 rfl ?_
  refine a_if_eq dX11_mend_21 rfl (fun _ => ?_) (fun _ => ?_)
  · refine a_iconst dX11_mend_41 ?_
    exact a_zretc (by decide) dX11_mend_42
  refine a_aload_n dX11_mend_24 rfl ?_
  refine a_iload_n dX11_mend_25 rfl ?_
  refine a_callVi (as := [vi x1]) mf_X11_270 lyM_0 rfl (c_M_isWay F _ _) LYsame.rf dX11_mend_26 rfl rfl rfl rfl rfl rfl (Or.inl rfl) fun r4 σ5 => ?_
  refine a_if_eq dX11_mend_29 rfl (fun _ => ?_) (fun _ => ?_)
  · refine a_iconst dX11_mend_41 ?_
    exact a_zretc (by decide) dX11_mend_42
  refine a_aload_n dX11_mend_32 rfl ?_
  refine a_getR (c0 := 12) fl_X11_65 lyM_0 rfl dX11_mend_33 (key := 35) rfl ?_
  refine a_iconst dX11_mend_36 ?_
  refine a_iald lyM_12 rfl dX11_mend_37 ?_
  refine a_if_ne dX11_mend_38 rfl (fun _ => ?_) (fun _ => ?_)
  · refine a_aload_n dX11_mend_43 rfl ?_
    refine a_getR (c0 := 12) fl_X11_65 lyM_0 rfl dX11_mend_44 (key := 35) rfl ?_
    refine a_iconst dX11_mend_47 ?_
    refine a_iald lyM_12 rfl dX11_mend_48 ?_
    refine a_aload_n dX11_mend_49 rfl ?_
    refine a_aload_n dX11_mend_50 rfl ?_
    refine a_iload_n dX11_mend_51 rfl ?_
    refine a_aload_n dX11_mend_52 rfl ?_
    refine a_iconst dX11_mend_53 ?_
    refine a_callVi (as := [vi 0]) mf_X11_276 lyM_0 rfl (c_M_place F _ _) LYsame.rf dX11_mend_54 rfl rfl rfl rfl rfl rfl (Or.inl rfl) fun r6 σ7 => ?_
    refine a_callVi (as := [vi x1, vi r6]) mf_X11_273 lyM_0 rfl (c_M_waveOf F _ _ _) LYsame.rf dX11_mend_57 rfl rfl rfl rfl rfl rfl (Or.inl rfl) fun r8 σ9 => ?_
    refine a_callVi (as := [vi r8]) mf_X11_254 lyM_0 rfl (c_M_inverse F _ _) LYsame.rf dX11_mend_60 rfl rfl rfl rfl rfl rfl (Or.inl rfl) fun r10 σ11 => ?_
    refine a_imul dX11_mend_63 ?_
    refine a_bvi fun t12 => ?_
    refine a_aload_n dX11_mend_64 rfl ?_
    refine a_getI fl_X11_230 lyM_0 rfl dX11_mend_65 (key := 20) rfl ?_
    refine a_irem dX11_mend_68 (fun _ => ?_)
    refine a_bv fun x3_13 ex3_13 => ?_
    refine a_istore_n (y := x3_13) (L' := [some (.ref 0), some (vi x1), some (vi r2), some (vi x3_13), none, none]) dX11_mend_69 ex3_13 rfl rfl rfl ?_
    refine a_aload_n dX11_mend_70 rfl ?_
    refine a_iload_n dX11_mend_71 rfl ?_
    refine a_callVi (as := [vi x3_13]) mf_X11_254 lyM_0 rfl (c_M_inverse F _ _) LYsame.rf dX11_mend_72 rfl rfl rfl rfl rfl rfl (Or.inl rfl) fun r14 σ15 => ?_
    refine a_aload_n dX11_mend_75 rfl ?_
    refine a_iconst dX11_mend_76 ?_
    refine a_callVi (as := [vi 0]) mf_X11_279 lyM_0 rfl (c_M_gain F _ _) LYsame.rf dX11_mend_77 rfl rfl rfl rfl rfl rfl (Or.inl rfl) fun r16 σ17 => ?_
    refine a_imul dX11_mend_80 ?_
    refine a_aload_n dX11_mend_81 rfl ?_
    refine a_getI fl_X11_230 lyM_0 rfl dX11_mend_82 (key := 20) rfl ?_
    refine a_irem dX11_mend_85 (fun _ => ?_)
    refine a_bvi fun t18 => ?_
    refine a_istore (L' := [some (.ref 0), some (vi x1), some (vi r2), some (vi x3_13), some (vi t18), none]) dX11_mend_86 rfl rfl rfl rfl ?_
    refine a_iconst dX11_mend_88 ?_
    refine a_istore (L' := [some (.ref 0), some (vi x1), some (vi r2), some (vi x3_13), some (vi t18), some (vi 0)]) dX11_mend_89 rfl rfl rfl rfl ?_
    exact a_L (lsub_get (A := [some (.ref 0), some (vi x1), some (vi r2), none, some (vi t18), some (vi 0)]) ⟨rfl, ⟨rfl, ⟨rfl, ⟨rfl, ⟨rfl, trivial⟩⟩⟩⟩⟩) (cl_M_mend_91 F F _ _ _ _ _)
  refine a_iconst dX11_mend_41 ?_
  exact a_zretc (by decide) dX11_mend_42
def f_M_size0 (F : Nat) (σ : St) (x0 : Int) : Option (Int × St) := gd (rng64 x0 ∧ rng64 0) (if (0 : Int) ≤ x0 then some (x0, σ) else some ((-x0), σ))
set_option maxRecDepth 100000 in
set_option maxHeartbeats 4000000 in
theorem c_M_size0 (F : Nat) (σ : St) (x0 : Int) : Ct 1 0 2 yX11_size0 cX11_size0 2 (some .long) LYM LYM [vl x0] σ (f_M_size0 F σ x0) := by
  unfold f_M_size0
  refine Ct_of (d := 1) (kp := 0) (kd := 2) (own := RX11) (nL := 2) (ret := (some .long)) (LY := LYM) (LYe := LYM) (L := [some (vl x0), none]) rfl (by decide +kernel) rfl rfl mf_X11_377.2.2.2.1 rfl fun K => ?_
  refine a_lload_n dX11_size0_0 rfl ?_
  refine a_lconst (v := 0) dX11_size0_1 rfl ?_
  refine a_lcmp_ge dX11_size0_2 dX11_size0_3 rfl (fun _ => ?_) (fun _ => ?_)
  · refine a_lload_n dX11_size0_11 rfl ?_
    exact a_lret dX11_size0_12
  refine a_lload_n dX11_size0_6 rfl ?_
  refine a_lneg dX11_size0_7 ?_
  refine a_goto dX11_size0_8 rfl ?_
  exact a_lret dX11_size0_12
def b_M_common_12 (F : Nat) (self : St → Int → Int → Option (Int × St)) (σ : St) (x4 x6 : Int) : Option (Int × St) := gd (rng64 x6 ∧ rng64 0) (if x6 = 0 then some (x4, σ) else gd (rng64 x4 ∧ rng64 x6 ∧ x6 ≠ (0 : Int)) (bv (Int.tmod x4 x6) fun x8_5 => self σ x6 x8_5))
def l_M_common_12 (F : Nat) : Nat → St → Int → Int → Option (Int × St)
  | 0 => fun _ _ _ => none
  | n + 1 => fun σ x4 x6 => b_M_common_12 F (l_M_common_12 F n) σ x4 x6
def f_M_common (F : Nat) (σ : St) (x0 x2 : Int) : Option (Int × St) := bnd (f_M_size0 F σ x0) fun r1 σ2 => bnd (f_M_size0 F σ2 x2) fun r3 σ4 => l_M_common_12 F F σ4 r1 r3
set_option maxRecDepth 100000 in
set_option maxHeartbeats 4000000 in
theorem cb_M_common_12 {K : KX} (F : Nat) (self : St → Int → Int → Option (Int × St)) (hself : ∀ σ x4 x6, WA 2 0 2 cX11_common RX11 10 (some .long) LYM LYM K 12 [none, none, none, none, some (vl x4), none, some (vl x6), none, none, none] [] σ (self σ x4 x6)) (σ : St) (x4 x6 : Int) : WA 2 0 2 cX11_common RX11 10 (some .long) LYM LYM K 12 [none, none, none, none, some (vl x4), none, some (vl x6), none, none, none] [] σ (b_M_common_12 F self σ x4 x6) := by
  unfold b_M_common_12
  refine a_lload dX11_common_12 rfl ?_
  refine a_lconst (v := 0) dX11_common_14 rfl ?_
  refine a_lcmp_eq dX11_common_15 dX11_common_16 rfl (fun _ => ?_) (fun _ => ?_)
  · refine a_lload dX11_common_37 rfl ?_
    exact a_lret dX11_common_39
  refine a_lload dX11_common_19 rfl ?_
  refine a_lload dX11_common_21 rfl ?_
  refine a_lrem dX11_common_23 (fun _ => ?_)
  refine a_bv fun x8_5 ex8_5 => ?_
  refine a_lstore (y := x8_5) (L' := [none, none, none, none, some (vl x4), none, some (vl x6), none, some (vl x8_5), none]) dX11_common_24 ex8_5 rfl rfl rfl ?_
  refine a_lload dX11_common_26 rfl ?_
  refine a_lstore (L' := [none, none, none, none, some (vl x6), none, some (vl x6), none, some (vl x8_5), none]) dX11_common_28 rfl rfl rfl rfl ?_
  refine a_lload dX11_common_30 rfl ?_
  refine a_lstore (L' := [none, none, none, none, some (vl x6), none, some (vl x8_5), none, some (vl x8_5), none]) dX11_common_32 rfl rfl rfl rfl ?_
  refine a_goto dX11_common_34 rfl ?_
  exact a_L (lsub_get (A := [none, none, none, none, some (vl x6), none, some (vl x8_5), none, none, none]) ⟨rfl, ⟨rfl, trivial⟩⟩) (hself _ _ _)
set_option maxRecDepth 100000 in
set_option maxHeartbeats 4000000 in
theorem cl_M_common_12 {K : KX} (F : Nat) : ∀ (n : Nat) (σ : St) (x4 x6 : Int), WA 2 0 2 cX11_common RX11 10 (some .long) LYM LYM K 12 [none, none, none, none, some (vl x4), none, some (vl x6), none, none, none] [] σ (l_M_common_12 F n σ x4 x6)
  | 0, _, _, _ => a_none
  | n + 1, σ, x4, x6 => cb_M_common_12 F _ (cl_M_common_12 F n) σ x4 x6
set_option maxRecDepth 100000 in
set_option maxHeartbeats 4000000 in
theorem c_M_common (F : Nat) (σ : St) (x0 x2 : Int) : Ct 2 0 2 yX11_common cX11_common 10 (some .long) LYM LYM [vl x0, vl x2] σ (f_M_common F σ x0 x2) := by
  unfold f_M_common
  refine Ct_of (d := 2) (kp := 0) (kd := 2) (own := RX11) (nL := 10) (ret := (some .long)) (LY := LYM) (LYe := LYM) (L := [some (vl x0), none, some (vl x2), none, none, none, none, none, none, none]) rfl (by decide +kernel) rfl rfl mf_X11_411.2.2.2.1 rfl fun K => ?_
  refine a_lload_n dX11_common_0 rfl ?_
  refine a_callSl (as := [vl x0]) mf_X11_377 (c_M_size0 F _ _) LYsame.rf dX11_common_1 rfl rfl rfl rfl rfl rfl (Or.inl rfl) fun r1 σ2 => ?_
  refine a_lstore (L' := [some (vl x0), none, some (vl x2), none, some (vl r1), none, none, none, none, none]) dX11_common_4 rfl rfl rfl rfl ?_
  refine a_lload_n dX11_common_6 rfl ?_
  refine a_callSl (as := [vl x2]) mf_X11_377 (c_M_size0 F _ _) LYsame.rf dX11_common_7 rfl rfl rfl rfl rfl rfl (Or.inl rfl) fun r3 σ4 => ?_
  refine a_lstore (L' := [some (vl x0), none, some (vl x2), none, some (vl r1), none, some (vl r3), none, none, none]) dX11_common_10 rfl rfl rfl rfl ?_
  exact a_L (lsub_get (A := [none, none, none, none, some (vl r1), none, some (vl r3), none, none, none]) ⟨rfl, ⟨rfl, trivial⟩⟩) (cl_M_common_12 F F _ _ _)
def f_M_startX (F : Nat) (σ : St) (x1 : Int) : Option (Int × St) := gd (inb (58 + (3 * x1)) 82) (bv (gA σ 2 (Int.toNat (58 + (3 * x1)))) fun t1 => gd (inb (50 + (2 * t1)) 82) (bv (gA σ 2 (Int.toNat (50 + (2 * t1)))) fun t2 => some (t2, σ)))
set_option maxRecDepth 100000 in
set_option maxHeartbeats 4000000 in
theorem c_M_startX (F : Nat) (σ : St) (x1 : Int) : Ct 1 0 1 yX11_startX cX11_startX 2 (some .int) LYM LYM [.ref 0, vi x1] σ (f_M_startX F σ x1) := by
  unfold f_M_startX
  refine Ct_of (d := 1) (kp := 0) (kd := 1) (own := RX11) (nL := 2) (ret := (some .int)) (LY := LYM) (LYe := LYM) (L := [some (.ref 0), some (vi x1)]) rfl (by decide +kernel) rfl rfl mf_X11_387.2.2.2.1 rfl fun K => ?_
  refine a_aload_n dX11_startX_0 rfl ?_
  refine a_getR (c0 := 2) fl_X11_33 lyM_0 rfl dX11_startX_1 (key := 6) rfl ?_
  refine a_bipush dX11_startX_4 bi_50 ?_
  refine a_iconst dX11_startX_6 ?_
  refine a_aload_n dX11_startX_7 rfl ?_
  refine a_getR (c0 := 2) fl_X11_33 lyM_0 rfl dX11_startX_8 (key := 6) rfl ?_
  refine a_bipush dX11_startX_11 bi_58 ?_
  refine a_iconst dX11_startX_13 ?_
  refine a_iload_n dX11_startX_14 rfl ?_
  refine a_imul dX11_startX_15 ?_
  refine a_iadd dX11_startX_16 ?_
  refine a_iald lyM_2 rfl dX11_startX_17 ?_
  refine a_bvi fun t1 => ?_
  refine a_imul dX11_startX_18 ?_
  refine a_iadd dX11_startX_19 ?_
  refine a_iald lyM_2 rfl dX11_startX_20 ?_
  refine a_bvi fun t2 => ?_
  exact a_iret dX11_startX_21
def f_M_startY (F : Nat) (σ : St) (x1 : Int) : Option (Int × St) := gd (inb (58 + (3 * x1)) 82) (bv (gA σ 2 (Int.toNat (58 + (3 * x1)))) fun t1 => gd (inb ((50 + (2 * t1)) + 1) 82) (bv (gA σ 2 (Int.toNat ((50 + (2 * t1)) + 1))) fun t2 => some (t2, σ)))
set_option maxRecDepth 100000 in
set_option maxHeartbeats 4000000 in
theorem c_M_startY (F : Nat) (σ : St) (x1 : Int) : Ct 1 0 1 yX11_startY cX11_startY 2 (some .int) LYM LYM [.ref 0, vi x1] σ (f_M_startY F σ x1) := by
  unfold f_M_startY
  refine Ct_of (d := 1) (kp := 0) (kd := 1) (own := RX11) (nL := 2) (ret := (some .int)) (LY := LYM) (LYe := LYM) (L := [some (.ref 0), some (vi x1)]) rfl (by decide +kernel) rfl rfl mf_X11_390.2.2.2.1 rfl fun K => ?_
  refine a_aload_n dX11_startY_0 rfl ?_
  refine a_getR (c0 := 2) fl_X11_33 lyM_0 rfl dX11_startY_1 (key := 6) rfl ?_
  refine a_bipush dX11_startY_4 bi_50 ?_
  refine a_iconst dX11_startY_6 ?_
  refine a_aload_n dX11_startY_7 rfl ?_
  refine a_getR (c0 := 2) fl_X11_33 lyM_0 rfl dX11_startY_8 (key := 6) rfl ?_
  refine a_bipush dX11_startY_11 bi_58 ?_
  refine a_iconst dX11_startY_13 ?_
  refine a_iload_n dX11_startY_14 rfl ?_
  refine a_imul dX11_startY_15 ?_
  refine a_iadd dX11_startY_16 ?_
  refine a_iald lyM_2 rfl dX11_startY_17 ?_
  refine a_bvi fun t1 => ?_
  refine a_imul dX11_startY_18 ?_
  refine a_iadd dX11_startY_19 ?_
  refine a_iconst dX11_startY_20 ?_
  refine a_iadd dX11_startY_21 ?_
  refine a_iald lyM_2 rfl dX11_startY_22 ?_
  refine a_bvi fun t2 => ?_
  exact a_iret dX11_startY_23
def f_M_stepX (F : Nat) (σ : St) (x1 : Int) : Option (Int × St) := gd (inb ((58 + (3 * x1)) + 1) 82) (bv (gA σ 2 (Int.toNat ((58 + (3 * x1)) + 1))) fun t1 => some (t1, σ))
set_option maxRecDepth 100000 in
set_option maxHeartbeats 4000000 in
theorem c_M_stepX (F : Nat) (σ : St) (x1 : Int) : Ct 1 0 1 yX11_stepX cX11_stepX 2 (some .int) LYM LYM [.ref 0, vi x1] σ (f_M_stepX F σ x1) := by
  unfold f_M_stepX
  refine Ct_of (d := 1) (kp := 0) (kd := 1) (own := RX11) (nL := 2) (ret := (some .int)) (LY := LYM) (LYe := LYM) (L := [some (.ref 0), some (vi x1)]) rfl (by decide +kernel) rfl rfl mf_X11_381.2.2.2.1 rfl fun K => ?_
  refine a_aload_n dX11_stepX_0 rfl ?_
  refine a_getR (c0 := 2) fl_X11_33 lyM_0 rfl dX11_stepX_1 (key := 6) rfl ?_
  refine a_bipush dX11_stepX_4 bi_58 ?_
  refine a_iconst dX11_stepX_6 ?_
  refine a_iload_n dX11_stepX_7 rfl ?_
  refine a_imul dX11_stepX_8 ?_
  refine a_iadd dX11_stepX_9 ?_
  refine a_iconst dX11_stepX_10 ?_
  refine a_iadd dX11_stepX_11 ?_
  refine a_iald lyM_2 rfl dX11_stepX_12 ?_
  refine a_bvi fun t1 => ?_
  exact a_iret dX11_stepX_13
def f_M_stepY (F : Nat) (σ : St) (x1 : Int) : Option (Int × St) := gd (inb ((58 + (3 * x1)) + 2) 82) (bv (gA σ 2 (Int.toNat ((58 + (3 * x1)) + 2))) fun t1 => some (t1, σ))
set_option maxRecDepth 100000 in
set_option maxHeartbeats 4000000 in
theorem c_M_stepY (F : Nat) (σ : St) (x1 : Int) : Ct 1 0 1 yX11_stepY cX11_stepY 2 (some .int) LYM LYM [.ref 0, vi x1] σ (f_M_stepY F σ x1) := by
  unfold f_M_stepY
  refine Ct_of (d := 1) (kp := 0) (kd := 1) (own := RX11) (nL := 2) (ret := (some .int)) (LY := LYM) (LYe := LYM) (L := [some (.ref 0), some (vi x1)]) rfl (by decide +kernel) rfl rfl mf_X11_384.2.2.2.1 rfl fun K => ?_
  refine a_aload_n dX11_stepY_0 rfl ?_
  refine a_getR (c0 := 2) fl_X11_33 lyM_0 rfl dX11_stepY_1 (key := 6) rfl ?_
  refine a_bipush dX11_stepY_4 bi_58 ?_
  refine a_iconst dX11_stepY_6 ?_
  refine a_iload_n dX11_stepY_7 rfl ?_
  refine a_imul dX11_stepY_8 ?_
  refine a_iadd dX11_stepY_9 ?_
  refine a_iconst dX11_stepY_10 ?_
  refine a_iadd dX11_stepY_11 ?_
  refine a_iald lyM_2 rfl dX11_stepY_12 ?_
  refine a_bvi fun t1 => ?_
  exact a_iret dX11_stepY_13
def f_M_isBearing (F : Nat) (σ : St) (x1 : Int) : Option (Int × St) := gd (inb 4 82) (bnd (f_M_isIn F σ x1 0 ((gA σ 2 (Int.toNat 4)) - 1)) fun r1 σ2 => gd (isb r1) (some (r1, σ2)))
set_option maxRecDepth 100000 in
set_option maxHeartbeats 4000000 in
theorem c_M_isBearing (F : Nat) (σ : St) (x1 : Int) : Ct 2 0 1 yX11_isBearing cX11_isBearing 2 (some .boolean) LYM LYM [.ref 0, vi x1] σ (f_M_isBearing F σ x1) := by
  unfold f_M_isBearing
  refine Ct_of (d := 2) (kp := 0) (kd := 1) (own := RX11) (nL := 2) (ret := (some .boolean)) (LY := LYM) (LYe := LYM) (L := [some (.ref 0), some (vi x1)]) rfl (by decide +kernel) rfl rfl mf_X11_405.2.2.2.1 rfl fun K => ?_
  refine a_iload_n dX11_isBearing_0 rfl ?_
  refine a_iconst dX11_isBearing_1 ?_
  refine a_aload_n dX11_isBearing_2 rfl ?_
  refine a_getR (c0 := 2) fl_X11_33 lyM_0 rfl dX11_isBearing_3 (key := 6) rfl ?_
  refine a_iconst dX11_isBearing_6 ?_
  refine a_iald lyM_2 rfl dX11_isBearing_7 ?_
  refine a_iconst dX11_isBearing_8 ?_
  refine a_isub dX11_isBearing_9 ?_
  refine a_callSi (as := [vi x1, vi 0, vi ((gA σ 2 (Int.toNat 4)) - 1)]) mf_X11_175 (c_M_isIn F _ _ _ _) LYsame.rf dX11_isBearing_10 rfl rfl rfl rfl rfl rfl (Or.inl rfl) fun r1 σ2 => ?_
  exact a_zret dX11_isBearing_13
def f_M_crosses (F : Nat) (σ : St) (x1 x2 : Int) : Option (Int × St) := gd (inb (58 + (3 * x1)) 82) (bv (gA σ 2 (Int.toNat (58 + (3 * x1)))) fun t1 => gd (inb (58 + (3 * x2)) 82) (bv (gA σ 2 (Int.toNat (58 + (3 * x2)))) fun t2 => gd (rng t1 ∧ rng t2) (if t1 = t2 then some (0, σ) else bnd (f_M_stepX F σ x1) fun r3 σ4 => bnd (f_M_stepY F σ4 x2) fun r5 σ6 => bnd (f_M_stepY F σ6 x1) fun r7 σ8 => bnd (f_M_stepX F σ8 x2) fun r9 σ10 => gd (rng ((r3 * r5) - (r7 * r9))) (bv ((r3 * r5) - (r7 * r9)) fun x3_11 => gd (rng64 x3_11 ∧ rng64 0) (if x3_11 = 0 then some (0, σ10) else bnd (f_M_startX F σ10 x2) fun r12 σ13 => bnd (f_M_startX F σ13 x1) fun r14 σ15 => gd (rng (r12 - r14)) (bv (r12 - r14) fun x5_16 => bnd (f_M_startY F σ15 x2) fun r17 σ18 => bnd (f_M_startY F σ18 x1) fun r19 σ20 => gd (rng (r17 - r19)) (bv (r17 - r19) fun x7_21 => bnd (f_M_stepY F σ20 x2) fun r22 σ23 => gd (rng r22) (bnd (f_M_stepX F σ23 x2) fun r24 σ25 => gd (rng r24) (bv ((x5_16 * r22) - (x7_21 * r24)) fun t26 => bnd (f_M_stepY F σ25 x1) fun r27 σ28 => gd (rng r27) (bnd (f_M_stepX F σ28 x1) fun r29 σ30 => gd (rng r29) (bv ((x5_16 * r27) - (x7_21 * r29)) fun t31 => gd (rng64 x3_11 ∧ rng64 0) (if (0 : Int) ≤ x3_11 then gd (rng64 t26 ∧ rng64 0) (if t26 ≤ 0 then some (0, σ30) else gd (rng64 t31 ∧ rng64 0) (if (0 : Int) < t31 then bs (sF σ30 50 x3_11) fun σ32 => bnd (f_M_startX F σ32 x1) fun r33 σ34 => gd (rng r33) (bnd (f_M_stepX F σ34 x1) fun r35 σ36 => gd (rng r35) (bs (sF σ36 48 ((r33 * x3_11) + (t26 * r35))) fun σ37 => bnd (f_M_startY F σ37 x1) fun r38 σ39 => gd (rng r38) (bnd (f_M_stepY F σ39 x1) fun r40 σ41 => gd (rng r40) (bs (sF σ41 49 ((r38 * x3_11) + (t26 * r40))) fun σ42 => some (1, σ42))))) else some (0, σ30))) else bv (-x3_11) fun x3_43 => bv (-t26) fun x9_44 => bv (-t31) fun x11_45 => gd (rng64 x9_44 ∧ rng64 0) (if x9_44 ≤ 0 then some (0, σ30) else gd (rng64 x11_45 ∧ rng64 0) (if (0 : Int) < x11_45 then bs (sF σ30 50 x3_43) fun σ46 => bnd (f_M_startX F σ46 x1) fun r47 σ48 => gd (rng r47) (bnd (f_M_stepX F σ48 x1) fun r49 σ50 => gd (rng r49) (bv ((r47 * x3_43) + (x9_44 * r49)) fun t51 => bs (sF σ50 48 t51) fun σ52 => bnd (f_M_startY F σ52 x1) fun r53 σ54 => gd (rng r53) (bnd (f_M_stepY F σ54 x1) fun r55 σ56 => gd (rng r55) (bv ((r53 * x3_43) + (x9_44 * r55)) fun t57 => bs (sF σ56 49 t57) fun σ58 => some (1, σ58))))) else some (0, σ30)))))))))))))))
set_option maxRecDepth 100000 in
set_option maxHeartbeats 4000000 in
theorem c_M_crosses (F : Nat) (σ : St) (x1 x2 : Int) : Ct 2 0 1 yX11_crosses cX11_crosses 13 (some .boolean) LYM LYM [.ref 0, vi x1, vi x2] σ (f_M_crosses F σ x1 x2) := by
  unfold f_M_crosses
  refine Ct_of (d := 2) (kp := 0) (kd := 1) (own := RX11) (nL := 13) (ret := (some .boolean)) (LY := LYM) (LYe := LYM) (L := [some (.ref 0), some (vi x1), some (vi x2), none, none, none, none, none, none, none, none, none, none]) rfl (by decide +kernel) rfl rfl mf_X11_408.2.2.2.1 rfl fun K => ?_
  refine a_aload_n dX11_crosses_0 rfl ?_
  refine a_getR (c0 := 2) fl_X11_33 lyM_0 rfl dX11_crosses_1 (key := 6) rfl ?_
  refine a_bipush dX11_crosses_4 bi_58 ?_
  refine a_iconst dX11_crosses_6 ?_
  refine a_iload_n dX11_crosses_7 rfl ?_
  refine a_imul dX11_crosses_8 ?_
  refine a_iadd dX11_crosses_9 ?_
  refine a_iald lyM_2 rfl dX11_crosses_10 ?_
  refine a_bvi fun t1 => ?_
  refine a_aload_n dX11_crosses_11 rfl ?_
  refine a_getR (c0 := 2) fl_X11_33 lyM_0 rfl dX11_crosses_12 (key := 6) rfl ?_
  refine a_bipush dX11_crosses_15 bi_58 ?_
  refine a_iconst dX11_crosses_17 ?_
  refine a_iload_n dX11_crosses_18 rfl ?_
  refine a_imul dX11_crosses_19 ?_
  refine a_iadd dX11_crosses_20 ?_
  refine a_iald lyM_2 rfl dX11_crosses_21 ?_
  refine a_bvi fun t2 => ?_
  refine a_icmp_ne dX11_crosses_22 rfl (fun _ => ?_) (fun _ => ?_)
  · refine a_aload_n dX11_crosses_27 rfl ?_
    refine a_iload_n dX11_crosses_28 rfl ?_
    refine a_callVi (as := [vi x1]) mf_X11_381 lyM_0 rfl (c_M_stepX F _ _) LYsame.rf dX11_crosses_29 rfl rfl rfl rfl rfl rfl (Or.inl rfl) fun r3 σ4 => ?_
    refine a_aload_n dX11_crosses_32 rfl ?_
    refine a_iload_n dX11_crosses_33 rfl ?_
    refine a_callVi (as := [vi x2]) mf_X11_384 lyM_0 rfl (c_M_stepY F _ _) LYsame.rf dX11_crosses_34 rfl rfl rfl rfl rfl rfl (Or.inl rfl) fun r5 σ6 => ?_
    refine a_imul dX11_crosses_37 ?_
    refine a_aload_n dX11_crosses_38 rfl ?_
    refine a_iload_n dX11_crosses_39 rfl ?_
    refine a_callVi (as := [vi x1]) mf_X11_384 lyM_0 rfl (c_M_stepY F _ _) LYsame.rf dX11_crosses_40 rfl rfl rfl rfl rfl rfl (Or.inl rfl) fun r7 σ8 => ?_
    refine a_aload_n dX11_crosses_43 rfl ?_
    refine a_iload_n dX11_crosses_44 rfl ?_
    refine a_callVi (as := [vi x2]) mf_X11_381 lyM_0 rfl (c_M_stepX F _ _) LYsame.rf dX11_crosses_45 rfl rfl rfl rfl rfl rfl (Or.inl rfl) fun r9 σ10 => ?_
    refine a_imul dX11_crosses_48 ?_
    refine a_isub dX11_crosses_49 ?_
    refine a_i2l dX11_crosses_50 (fun _ => ?_)
    refine a_bv fun x3_11 ex3_11 => ?_
    refine a_lstore_n (y := x3_11) (L' := [some (.ref 0), some (vi x1), some (vi x2), some (vl x3_11), none, none, none, none, none, none, none, none, none]) dX11_crosses_51 ex3_11 rfl rfl rfl ?_
    refine a_lload_n dX11_crosses_52 rfl ?_
    refine a_lconst (v := 0) dX11_crosses_53 rfl ?_
    refine a_lcmp_ne dX11_crosses_54 dX11_crosses_55 rfl (fun _ => ?_) (fun _ => ?_)
    · refine a_aload_n dX11_crosses_60 rfl ?_
      refine a_iload_n dX11_crosses_61 rfl ?_
      refine a_callVi (as := [vi x2]) mf_X11_387 lyM_0 rfl (c_M_startX F _ _) LYsame.rf dX11_crosses_62 rfl rfl rfl rfl rfl rfl (Or.inl rfl) fun r12 σ13 => ?_
      refine a_aload_n dX11_crosses_65 rfl ?_
      refine a_iload_n dX11_crosses_66 rfl ?_
      refine a_callVi (as := [vi x1]) mf_X11_387 lyM_0 rfl (c_M_startX F _ _) LYsame.rf dX11_crosses_67 rfl rfl rfl rfl rfl rfl (Or.inl rfl) fun r14 σ15 => ?_
      refine a_isub dX11_crosses_70 ?_
      refine a_i2l dX11_crosses_71 (fun _ => ?_)
      refine a_bv fun x5_16 ex5_16 => ?_
      refine a_lstore (y := x5_16) (L' := [some (.ref 0), some (vi x1), some (vi x2), some (vl x3_11), none, some (vl x5_16), none, none, none, none, none, none, none]) dX11_crosses_72 ex5_16 rfl rfl rfl ?_
      refine a_aload_n dX11_crosses_74 rfl ?_
      refine a_iload_n dX11_crosses_75 rfl ?_
      refine a_callVi (as := [vi x2]) mf_X11_390 lyM_0 rfl (c_M_startY F _ _) LYsame.rf dX11_crosses_76 rfl rfl rfl rfl rfl rfl (Or.inl rfl) fun r17 σ18 => ?_
      refine a_aload_n dX11_crosses_79 rfl ?_
      refine a_iload_n dX11_crosses_80 rfl ?_
      refine a_callVi (as := [vi x1]) mf_X11_390 lyM_0 rfl (c_M_startY F _ _) LYsame.rf dX11_crosses_81 rfl rfl rfl rfl rfl rfl (Or.inl rfl) fun r19 σ20 => ?_
      refine a_isub dX11_crosses_84 ?_
      refine a_i2l dX11_crosses_85 (fun _ => ?_)
      refine a_bv fun x7_21 ex7_21 => ?_
      refine a_lstore (y := x7_21) (L' := [some (.ref 0), some (vi x1), some (vi x2), some (vl x3_11), none, some (vl x5_16), none, some (vl x7_21), none, none, none, none, none]) dX11_crosses_86 ex7_21 rfl rfl rfl ?_
      refine a_lload dX11_crosses_88 rfl ?_
      refine a_aload_n dX11_crosses_90 rfl ?_
      refine a_iload_n dX11_crosses_91 rfl ?_
      refine a_callVi (as := [vi x2]) mf_X11_384 lyM_0 rfl (c_M_stepY F _ _) LYsame.rf dX11_crosses_92 rfl rfl rfl rfl rfl rfl (Or.inl rfl) fun r22 σ23 => ?_
      refine a_i2l dX11_crosses_95 (fun _ => ?_)
      refine a_lmul dX11_crosses_96 ?_
      refine a_lload dX11_crosses_97 rfl ?_
      refine a_aload_n dX11_crosses_99 rfl ?_
      refine a_iload_n dX11_crosses_100 rfl ?_
      refine a_callVi (as := [vi x2]) mf_X11_381 lyM_0 rfl (c_M_stepX F _ _) LYsame.rf dX11_crosses_101 rfl rfl rfl rfl rfl rfl (Or.inl rfl) fun r24 σ25 => ?_
      refine a_i2l dX11_crosses_104 (fun _ => ?_)
      refine a_lmul dX11_crosses_105 ?_
      refine a_lsub dX11_crosses_106 ?_
      refine a_bvl fun t26 => ?_
      refine a_lstore (L' := [some (.ref 0), some (vi x1), some (vi x2), some (vl x3_11), none, some (vl x5_16), none, some (vl x7_21), none, some (vl t26), none, none, none]) dX11_crosses_107 rfl rfl rfl rfl ?_
      refine a_lload dX11_crosses_109 rfl ?_
      refine a_aload_n dX11_crosses_111 rfl ?_
      refine a_iload_n dX11_crosses_112 rfl ?_
      refine a_callVi (as := [vi x1]) mf_X11_384 lyM_0 rfl (c_M_stepY F _ _) LYsame.rf dX11_crosses_113 rfl rfl rfl rfl rfl rfl (Or.inl rfl) fun r27 σ28 => ?_
      refine a_i2l dX11_crosses_116 (fun _ => ?_)
      refine a_lmul dX11_crosses_117 ?_
      refine a_lload dX11_crosses_118 rfl ?_
      refine a_aload_n dX11_crosses_120 rfl ?_
      refine a_iload_n dX11_crosses_121 rfl ?_
      refine a_callVi (as := [vi x1]) mf_X11_381 lyM_0 rfl (c_M_stepX F _ _) LYsame.rf dX11_crosses_122 rfl rfl rfl rfl rfl rfl (Or.inl rfl) fun r29 σ30 => ?_
      refine a_i2l dX11_crosses_125 (fun _ => ?_)
      refine a_lmul dX11_crosses_126 ?_
      refine a_lsub dX11_crosses_127 ?_
      refine a_bvl fun t31 => ?_
      refine a_lstore (L' := [some (.ref 0), some (vi x1), some (vi x2), some (vl x3_11), none, some (vl x5_16), none, some (vl x7_21), none, some (vl t26), none, some (vl t31), none]) dX11_crosses_128 rfl rfl rfl rfl ?_
      refine a_lload_n dX11_crosses_130 rfl ?_
      refine a_lconst (v := 0) dX11_crosses_131 rfl ?_
      refine a_lcmp_ge dX11_crosses_132 dX11_crosses_133 rfl (fun _ => ?_) (fun _ => ?_)
      · refine a_lload dX11_crosses_149 rfl ?_
        refine a_lconst (v := 0) dX11_crosses_151 rfl ?_
        refine a_lcmp_le dX11_crosses_152 dX11_crosses_153 rfl (fun _ => ?_) (fun _ => ?_)
        · refine a_iconst dX11_crosses_163 ?_
          exact a_zretc (by decide) dX11_crosses_164
        refine a_lload dX11_crosses_156 rfl ?_
        refine a_lconst (v := 0) dX11_crosses_158 rfl ?_
        refine a_lcmp_gt dX11_crosses_159 dX11_crosses_160 rfl (fun _ => ?_) (fun _ => ?_)
        · refine a_aload_n dX11_crosses_165 rfl ?_
          refine a_lload_n dX11_crosses_166 rfl ?_
          refine a_putL fl_X11_393 cf_X11 rfl rfl lyM_0 rfl dX11_crosses_167 (key := 50) rfl fun σ32 => ?_
          refine a_aload_n dX11_crosses_170 rfl ?_
          refine a_aload_n dX11_crosses_171 rfl ?_
          refine a_iload_n dX11_crosses_172 rfl ?_
          refine a_callVi (as := [vi x1]) mf_X11_387 lyM_0 rfl (c_M_startX F _ _) LYsame.rf dX11_crosses_173 rfl rfl rfl rfl rfl rfl (Or.inl rfl) fun r33 σ34 => ?_
          refine a_i2l dX11_crosses_176 (fun _ => ?_)
          refine a_lload_n dX11_crosses_177 rfl ?_
          refine a_lmul dX11_crosses_178 ?_
          refine a_lload dX11_crosses_179 rfl ?_
          refine a_aload_n dX11_crosses_181 rfl ?_
          refine a_iload_n dX11_crosses_182 rfl ?_
          refine a_callVi (as := [vi x1]) mf_X11_381 lyM_0 rfl (c_M_stepX F _ _) LYsame.rf dX11_crosses_183 rfl rfl rfl rfl rfl rfl (Or.inl rfl) fun r35 σ36 => ?_
          refine a_i2l dX11_crosses_186 (fun _ => ?_)
          refine a_lmul dX11_crosses_187 ?_
          refine a_ladd dX11_crosses_188 ?_
          refine a_putL fl_X11_396 cf_X11 rfl rfl lyM_0 rfl dX11_crosses_189 (key := 48) rfl fun σ37 => ?_
          refine a_aload_n dX11_crosses_192 rfl ?_
          refine a_aload_n dX11_crosses_193 rfl ?_
          refine a_iload_n dX11_crosses_194 rfl ?_
          refine a_callVi (as := [vi x1]) mf_X11_390 lyM_0 rfl (c_M_startY F _ _) LYsame.rf dX11_crosses_195 rfl rfl rfl rfl rfl rfl (Or.inl rfl) fun r38 σ39 => ?_
          refine a_i2l dX11_crosses_198 (fun _ => ?_)
          refine a_lload_n dX11_crosses_199 rfl ?_
          refine a_lmul dX11_crosses_200 ?_
          refine a_lload dX11_crosses_201 rfl ?_
          refine a_aload_n dX11_crosses_203 rfl ?_
          refine a_iload_n dX11_crosses_204 rfl ?_
          refine a_callVi (as := [vi x1]) mf_X11_384 lyM_0 rfl (c_M_stepY F _ _) LYsame.rf dX11_crosses_205 rfl rfl rfl rfl rfl rfl (Or.inl rfl) fun r40 σ41 => ?_
          refine a_i2l dX11_crosses_208 (fun _ => ?_)
          refine a_lmul dX11_crosses_209 ?_
          refine a_ladd dX11_crosses_210 ?_
          refine a_putL fl_X11_399 cf_X11 rfl rfl lyM_0 rfl dX11_crosses_211 (key := 49) rfl fun σ42 => ?_
          refine a_iconst dX11_crosses_214 ?_
          exact a_zretc (by decide) dX11_crosses_215
        refine a_iconst dX11_crosses_163 ?_
        exact a_zretc (by decide) dX11_crosses_164
      refine a_lload_n dX11_crosses_136 rfl ?_
      refine a_lneg dX11_crosses_137 ?_
      refine a_bv fun x3_43 ex3_43 => ?_
      refine a_lstore_n (y := x3_43) (L' := [some (.ref 0), some (vi x1), some (vi x2), some (vl x3_43), none, some (vl x5_16), none, some (vl x7_21), none, some (vl t26), none, some (vl t31), none]) dX11_crosses_138 ex3_43 rfl rfl rfl ?_
      refine a_lload dX11_crosses_139 rfl ?_
      refine a_lneg dX11_crosses_141 ?_
      refine a_bv fun x9_44 ex9_44 => ?_
      refine a_lstore (y := x9_44) (L' := [some (.ref 0), some (vi x1), some (vi x2), some (vl x3_43), none, some (vl x5_16), none, some (vl x7_21), none, some (vl x9_44), none, some (vl t31), none]) dX11_crosses_142 ex9_44 rfl rfl rfl ?_
      refine a_lload dX11_crosses_144 rfl ?_
      refine a_lneg dX11_crosses_146 ?_
      refine a_bv fun x11_45 ex11_45 => ?_
      refine a_lstore (y := x11_45) (L' := [some (.ref 0), some (vi x1), some (vi x2), some (vl x3_43), none, some (vl x5_16), none, some (vl x7_21), none, some (vl x9_44), none, some (vl x11_45), none]) dX11_crosses_147 ex11_45 rfl rfl rfl ?_
      refine a_lload dX11_crosses_149 rfl ?_
      refine a_lconst (v := 0) dX11_crosses_151 rfl ?_
      refine a_lcmp_le dX11_crosses_152 dX11_crosses_153 rfl (fun _ => ?_) (fun _ => ?_)
      · refine a_iconst dX11_crosses_163 ?_
        exact a_zretc (by decide) dX11_crosses_164
      refine a_lload dX11_crosses_156 rfl ?_
      refine a_lconst (v := 0) dX11_crosses_158 rfl ?_
      refine a_lcmp_gt dX11_crosses_159 dX11_crosses_160 rfl (fun _ => ?_) (fun _ => ?_)
      · refine a_aload_n dX11_crosses_165 rfl ?_
        refine a_lload_n dX11_crosses_166 rfl ?_
        refine a_putL fl_X11_393 cf_X11 rfl rfl lyM_0 rfl dX11_crosses_167 (key := 50) rfl fun σ46 => ?_
        refine a_aload_n dX11_crosses_170 rfl ?_
        refine a_aload_n dX11_crosses_171 rfl ?_
        refine a_iload_n dX11_crosses_172 rfl ?_
        refine a_callVi (as := [vi x1]) mf_X11_387 lyM_0 rfl (c_M_startX F _ _) LYsame.rf dX11_crosses_173 rfl rfl rfl rfl rfl rfl (Or.inl rfl) fun r47 σ48 => ?_
        refine a_i2l dX11_crosses_176 (fun _ => ?_)
        refine a_lload_n dX11_crosses_177 rfl ?_
        refine a_lmul dX11_crosses_178 ?_
        refine a_lload dX11_crosses_179 rfl ?_
        refine a_aload_n dX11_crosses_181 rfl ?_
        refine a_iload_n dX11_crosses_182 rfl ?_
        refine a_callVi (as := [vi x1]) mf_X11_381 lyM_0 rfl (c_M_stepX F _ _) LYsame.rf dX11_crosses_183 rfl rfl rfl rfl rfl rfl (Or.inl rfl) fun r49 σ50 => ?_
        refine a_i2l dX11_crosses_186 (fun _ => ?_)
        refine a_lmul dX11_crosses_187 ?_
        refine a_ladd dX11_crosses_188 ?_
        refine a_bvl fun t51 => ?_
        refine a_putL fl_X11_396 cf_X11 rfl rfl lyM_0 rfl dX11_crosses_189 (key := 48) rfl fun σ52 => ?_
        refine a_aload_n dX11_crosses_192 rfl ?_
        refine a_aload_n dX11_crosses_193 rfl ?_
        refine a_iload_n dX11_crosses_194 rfl ?_
        refine a_callVi (as := [vi x1]) mf_X11_390 lyM_0 rfl (c_M_startY F _ _) LYsame.rf dX11_crosses_195 rfl rfl rfl rfl rfl rfl (Or.inl rfl) fun r53 σ54 => ?_
        refine a_i2l dX11_crosses_198 (fun _ => ?_)
        refine a_lload_n dX11_crosses_199 rfl ?_
        refine a_lmul dX11_crosses_200 ?_
        refine a_lload dX11_crosses_201 rfl ?_
        refine a_aload_n dX11_crosses_203 rfl ?_
        refine a_iload_n dX11_crosses_204 rfl ?_
        refine a_callVi (as := [vi x1]) mf_X11_384 lyM_0 rfl (c_M_stepY F _ _) LYsame.rf dX11_crosses_205 rfl rfl rfl rfl rfl rfl (Or.inl rfl) fun r55 σ56 => ?_
        refine a_i2l dX11_crosses_208 (fun _ => ?_)
        refine a_lmul dX11_crosses_209 ?_
        refine a_ladd dX11_crosses_210 ?_
        refine a_bvl fun t57 => ?_
        refine a_putL fl_X11_399 cf_X11 rfl rfl lyM_0 rfl dX11_crosses_211 (key := 49) rfl fun σ58 => ?_
        refine a_iconst dX11_crosses_214 ?_
        exact a_zretc (by decide) dX11_crosses_215
      refine a_iconst dX11_crosses_163 ?_
      exact a_zretc (by decide) dX11_crosses_164
    refine a_iconst dX11_crosses_58 ?_
    exact a_zretc (by decide) dX11_crosses_59
  refine a_iconst dX11_crosses_25 ?_
  exact a_zretc (by decide) dX11_crosses_26
def f_M_goesThrough (F : Nat) (σ : St) (x1 : Int) : Option (Int × St) := bnd (f_M_startX F σ x1) fun r1 σ2 => gd (rng r1) (bv ((gF σ 48) - (r1 * (gF σ2 50))) fun t3 => bnd (f_M_startY F σ2 x1) fun r4 σ5 => gd (rng r4) (bv ((gF σ2 49) - (r4 * (gF σ5 50))) fun t6 => bnd (f_M_stepY F σ5 x1) fun r7 σ8 => gd (rng r7) (bnd (f_M_stepX F σ8 x1) fun r9 σ10 => gd (rng r9) (gd (rng64 (t3 * r7) ∧ rng64 (t6 * r9)) (if (t3 * r7) = (t6 * r9) then bnd (f_M_stepX F σ10 x1) fun r11 σ12 => gd (rng r11) (bnd (f_M_stepY F σ12 x1) fun r13 σ14 => gd (rng r13) (gd (rng64 ((t3 * r11) + (t6 * r13)) ∧ rng64 0) (if ((t3 * r11) + (t6 * r13)) ≤ 0 then some (0, σ14) else some (1, σ14)))) else some (0, σ10))))))
set_option maxRecDepth 100000 in
set_option maxHeartbeats 4000000 in
theorem c_M_goesThrough (F : Nat) (σ : St) (x1 : Int) : Ct 2 0 1 yX11_goesThrough cX11_goesThrough 6 (some .boolean) LYM LYM [.ref 0, vi x1] σ (f_M_goesThrough F σ x1) := by
  unfold f_M_goesThrough
  refine Ct_of (d := 2) (kp := 0) (kd := 1) (own := RX11) (nL := 6) (ret := (some .boolean)) (LY := LYM) (LYe := LYM) (L := [some (.ref 0), some (vi x1), none, none, none, none]) rfl (by decide +kernel) rfl rfl mf_X11_402.2.2.2.1 rfl fun K => ?_
  refine a_aload_n dX11_goesThrough_0 rfl ?_
  refine a_getL fl_X11_396 lyM_0 rfl dX11_goesThrough_1 (key := 48) rfl ?_
  refine a_aload_n dX11_goesThrough_4 rfl ?_
  refine a_iload_n dX11_goesThrough_5 rfl ?_
  refine a_callVi (as := [vi x1]) mf_X11_387 lyM_0 rfl (c_M_startX F _ _) LYsame.rf dX11_goesThrough_6 rfl rfl rfl rfl rfl rfl (Or.inl rfl) fun r1 σ2 => ?_
  refine a_i2l dX11_goesThrough_9 (fun _ => ?_)
  refine a_aload_n dX11_goesThrough_10 rfl ?_
  refine a_getL fl_X11_393 lyM_0 rfl dX11_goesThrough_11 (key := 50) rfl ?_
  refine a_lmul dX11_goesThrough_14 ?_
  refine a_lsub dX11_goesThrough_15 ?_
  refine a_bvl fun t3 => ?_
  refine a_lstore_n (L' := [some (.ref 0), some (vi x1), some (vl t3), none, none, none]) dX11_goesThrough_16 rfl rfl rfl rfl ?_
  refine a_aload_n dX11_goesThrough_17 rfl ?_
  refine a_getL fl_X11_399 lyM_0 rfl dX11_goesThrough_18 (key := 49) rfl ?_
  refine a_aload_n dX11_goesThrough_21 rfl ?_
  refine a_iload_n dX11_goesThrough_22 rfl ?_
  refine a_callVi (as := [vi x1]) mf_X11_390 lyM_0 rfl (c_M_startY F _ _) LYsame.rf dX11_goesThrough_23 rfl rfl rfl rfl rfl rfl (Or.inl rfl) fun r4 σ5 => ?_
  refine a_i2l dX11_goesThrough_26 (fun _ => ?_)
  refine a_aload_n dX11_goesThrough_27 rfl ?_
  refine a_getL fl_X11_393 lyM_0 rfl dX11_goesThrough_28 (key := 50) rfl ?_
  refine a_lmul dX11_goesThrough_31 ?_
  refine a_lsub dX11_goesThrough_32 ?_
  refine a_bvl fun t6 => ?_
  refine a_lstore (L' := [some (.ref 0), some (vi x1), some (vl t3), none, some (vl t6), none]) dX11_goesThrough_33 rfl rfl rfl rfl ?_
  refine a_lload_n dX11_goesThrough_35 rfl ?_
  refine a_aload_n dX11_goesThrough_36 rfl ?_
  refine a_iload_n dX11_goesThrough_37 rfl ?_
  refine a_callVi (as := [vi x1]) mf_X11_384 lyM_0 rfl (c_M_stepY F _ _) LYsame.rf dX11_goesThrough_38 rfl rfl rfl rfl rfl rfl (Or.inl rfl) fun r7 σ8 => ?_
  refine a_i2l dX11_goesThrough_41 (fun _ => ?_)
  refine a_lmul dX11_goesThrough_42 ?_
  refine a_lload dX11_goesThrough_43 rfl ?_
  refine a_aload_n dX11_goesThrough_45 rfl ?_
  refine a_iload_n dX11_goesThrough_46 rfl ?_
  refine a_callVi (as := [vi x1]) mf_X11_381 lyM_0 rfl (c_M_stepX F _ _) LYsame.rf dX11_goesThrough_47 rfl rfl rfl rfl rfl rfl (Or.inl rfl) fun r9 σ10 => ?_
  refine a_i2l dX11_goesThrough_50 (fun _ => ?_)
  refine a_lmul dX11_goesThrough_51 ?_
  refine a_lcmp_ne dX11_goesThrough_52 dX11_goesThrough_53 rfl (fun _ => ?_) (fun _ => ?_)
  · refine a_iconst dX11_goesThrough_83 ?_
    exact a_zretc (by decide) dX11_goesThrough_84
  refine a_lload_n dX11_goesThrough_56 rfl ?_
  refine a_aload_n dX11_goesThrough_57 rfl ?_
  refine a_iload_n dX11_goesThrough_58 rfl ?_
  refine a_callVi (as := [vi x1]) mf_X11_381 lyM_0 rfl (c_M_stepX F _ _) LYsame.rf dX11_goesThrough_59 rfl rfl rfl rfl rfl rfl (Or.inl rfl) fun r11 σ12 => ?_
  refine a_i2l dX11_goesThrough_62 (fun _ => ?_)
  refine a_lmul dX11_goesThrough_63 ?_
  refine a_lload dX11_goesThrough_64 rfl ?_
  refine a_aload_n dX11_goesThrough_66 rfl ?_
  refine a_iload_n dX11_goesThrough_67 rfl ?_
  refine a_callVi (as := [vi x1]) mf_X11_384 lyM_0 rfl (c_M_stepY F _ _) LYsame.rf dX11_goesThrough_68 rfl rfl rfl rfl rfl rfl (Or.inl rfl) fun r13 σ14 => ?_
  refine a_i2l dX11_goesThrough_71 (fun _ => ?_)
  refine a_lmul dX11_goesThrough_72 ?_
  refine a_ladd dX11_goesThrough_73 ?_
  refine a_lconst (v := 0) dX11_goesThrough_74 rfl ?_
  refine a_lcmp_le dX11_goesThrough_75 dX11_goesThrough_76 rfl (fun _ => ?_) (fun _ => ?_)
  · refine a_iconst dX11_goesThrough_83 ?_
    exact a_zretc (by decide) dX11_goesThrough_84
  refine a_iconst dX11_goesThrough_79 ?_
  refine a_goto dX11_goesThrough_80 rfl ?_
  exact a_zretc (by decide) dX11_goesThrough_84
def b_M_throughSet_4 (F : Nat) (self : St → Int → Int → Option (Int × St)) (σ : St) (x1 x2 : Int) : Option (Int × St) := gd (inb 4 82) (gd (rng x2 ∧ rng (gA σ 2 (Int.toNat 4))) (if (gA σ 2 (Int.toNat 4)) ≤ x2 then some (x1, σ) else bnd (f_M_goesThrough F σ x2) fun r1 σ2 => gd (rng r1) (if r1 = 0 then bv (iorI x1 0) fun x1_3 => bv (x2 + 1) fun x2_4 => self σ2 x1_3 x2_4 else gd (sh5 x2) (bv (iorI x1 (1 * 2 ^ (Int.toNat x2))) fun t5 => bv (x2 + 1) fun x2_6 => self σ2 t5 x2_6))))
def l_M_throughSet_4 (F : Nat) : Nat → St → Int → Int → Option (Int × St)
  | 0 => fun _ _ _ => none
  | n + 1 => fun σ x1 x2 => b_M_throughSet_4 F (l_M_throughSet_4 F n) σ x1 x2
def f_M_throughSet (F : Nat) (σ : St) : Option (Int × St) := l_M_throughSet_4 F F σ 0 0
set_option maxRecDepth 100000 in
set_option maxHeartbeats 4000000 in
theorem cb_M_throughSet_4 {K : KX} (F : Nat) (self : St → Int → Int → Option (Int × St)) (hself : ∀ σ x1 x2, WA 3 0 1 cX11_throughSet RX11 3 (some .int) LYM LYM K 4 [some (.ref 0), some (vi x1), some (vi x2)] [] σ (self σ x1 x2)) (σ : St) (x1 x2 : Int) : WA 3 0 1 cX11_throughSet RX11 3 (some .int) LYM LYM K 4 [some (.ref 0), some (vi x1), some (vi x2)] [] σ (b_M_throughSet_4 F self σ x1 x2) := by
  unfold b_M_throughSet_4
  refine a_iload_n dX11_throughSet_4 rfl ?_
  refine a_aload_n dX11_throughSet_5 rfl ?_
  refine a_getR (c0 := 2) fl_X11_33 lyM_0 rfl dX11_throughSet_6 (key := 6) rfl ?_
  refine a_iconst dX11_throughSet_9 ?_
  refine a_iald lyM_2 rfl dX11_throughSet_10 ?_
  refine a_icmp_ge dX11_throughSet_11 rfl (fun _ => ?_) (fun _ => ?_)
  · refine a_iload_n dX11_throughSet_38 rfl ?_
    exact a_iret dX11_throughSet_39
  refine a_iload_n dX11_throughSet_14 rfl ?_
  refine a_aload_n dX11_throughSet_15 rfl ?_
  refine a_iload_n dX11_throughSet_16 rfl ?_
  refine a_callVi (as := [vi x2]) mf_X11_402 lyM_0 rfl (c_M_goesThrough F _ _) LYsame.rf dX11_throughSet_17 rfl rfl rfl rfl rfl rfl (Or.inl rfl) fun r1 σ2 => ?_
  refine a_if_eq dX11_throughSet_20 rfl (fun _ => ?_) (fun _ => ?_)
  · refine a_iconst dX11_throughSet_29 ?_
    refine a_ior dX11_throughSet_30 ?_
    refine a_bv fun x1_3 ex1_3 => ?_
    refine a_istore_n (y := x1_3) (L' := [some (.ref 0), some (vi x1_3), some (vi x2)]) dX11_throughSet_31 ex1_3 rfl rfl rfl ?_
    refine a_bv fun x2_4 ex2_4 => ?_
    refine a_iinc (y := x2_4) (L' := [some (.ref 0), some (vi x1_3), some (vi x2_4)]) dX11_throughSet_32 rfl ex2_4 rfl rfl rfl ?_
    refine a_goto dX11_throughSet_35 rfl ?_
    exact hself _ _ _
  refine a_iconst dX11_throughSet_23 ?_
  refine a_iload_n dX11_throughSet_24 rfl ?_
  refine a_ishl dX11_throughSet_25 (fun _ => ?_)
  refine a_goto dX11_throughSet_26 rfl ?_
  refine a_ior dX11_throughSet_30 ?_
  refine a_bvi fun t5 => ?_
  refine a_istore_n (L' := [some (.ref 0), some (vi t5), some (vi x2)]) dX11_throughSet_31 rfl rfl rfl rfl ?_
  refine a_bv fun x2_6 ex2_6 => ?_
  refine a_iinc (y := x2_6) (L' := [some (.ref 0), some (vi t5), some (vi x2_6)]) dX11_throughSet_32 rfl ex2_6 rfl rfl rfl ?_
  refine a_goto dX11_throughSet_35 rfl ?_
  exact hself _ _ _
set_option maxRecDepth 100000 in
set_option maxHeartbeats 4000000 in
theorem cl_M_throughSet_4 {K : KX} (F : Nat) : ∀ (n : Nat) (σ : St) (x1 x2 : Int), WA 3 0 1 cX11_throughSet RX11 3 (some .int) LYM LYM K 4 [some (.ref 0), some (vi x1), some (vi x2)] [] σ (l_M_throughSet_4 F n σ x1 x2)
  | 0, _, _, _ => a_none
  | n + 1, σ, x1, x2 => cb_M_throughSet_4 F _ (cl_M_throughSet_4 F n) σ x1 x2
set_option maxRecDepth 100000 in
set_option maxHeartbeats 4000000 in
theorem c_M_throughSet (F : Nat) (σ : St) : Ct 3 0 1 yX11_throughSet cX11_throughSet 3 (some .int) LYM LYM [.ref 0] σ (f_M_throughSet F σ) := by
  unfold f_M_throughSet
  refine Ct_of (d := 3) (kp := 0) (kd := 1) (own := RX11) (nL := 3) (ret := (some .int)) (LY := LYM) (LYe := LYM) (L := [some (.ref 0), none, none]) rfl (by decide +kernel) rfl rfl mf_X11_415.2.2.2.1 rfl fun K => ?_
  refine a_iconst dX11_throughSet_0 ?_
  refine a_istore_n (L' := [some (.ref 0), some (vi 0), none]) dX11_throughSet_1 rfl rfl rfl rfl ?_
  refine a_iconst dX11_throughSet_2 ?_
  refine a_istore_n (L' := [some (.ref 0), some (vi 0), some (vi 0)]) dX11_throughSet_3 rfl rfl rfl rfl ?_
  exact cl_M_throughSet_4 F F _ _ _
