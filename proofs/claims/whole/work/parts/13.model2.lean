def b_M_steps_230 (F : Nat) (k7 : St → Int → Int → Option (Int × St)) (k185 : St → Int → Int → Int → Option (Int × St)) (self : St → Int → Int → Int → Int → Int → Option (Int × St)) (σ : St) (x1 x2 x5 x6 x7 : Int) : Option (Int × St) := gd (rng x7 ∧ rng (gF σ 25)) (if (gF σ 25) ≤ x7 then bv (x5 + 1) fun x5_12 => k185 σ x1 x2 x5_12 else gd (inb (((gF σ 25) * x5) + x7) 2800) (bv (gA σ 7 (Int.toNat (((gF σ 25) * x5) + x7))) fun t13 => gd (inb (((gF σ 25) * (gF σ 27)) + x7) 2800) (bv (gA σ 7 (Int.toNat (((gF σ 25) * (gF σ 27)) + x7))) fun t14 => bv (t13 + (((gF σ 20) - x6) * t14)) fun t15 => gd (rng t15 ∧ rng (gF σ 20) ∧ (gF σ 20) ≠ (0 : Int)) (gd (inb (((gF σ 25) * x5) + x7) 2800) (bs (sA σ 7 (Int.toNat (((gF σ 25) * x5) + x7)) (Int.tmod t15 (gF σ 20))) fun σ16 => bv (x7 + 1) fun x7_17 => self σ16 x1 x2 x5 x6 x7_17)))))
def l_M_steps_230 (F : Nat) (k7 : St → Int → Int → Option (Int × St)) (k185 : St → Int → Int → Int → Option (Int × St)) : Nat → St → Int → Int → Int → Int → Int → Option (Int × St)
  | 0 => fun _ _ _ _ _ _ => none
  | n + 1 => fun σ x1 x2 x5 x6 x7 => b_M_steps_230 F k7 k185 (l_M_steps_230 F k7 k185 n) σ x1 x2 x5 x6 x7
def b_M_steps_185 (F : Nat) (k7 : St → Int → Int → Option (Int × St)) (self : St → Int → Int → Int → Option (Int × St)) (σ : St) (x1 x2 x5 : Int) : Option (Int × St) := gd (rng x5 ∧ rng (gF σ 26)) (if (gF σ 26) ≤ x5 then gd (inb x2 110) (bs (sA σ 8 (Int.toNat x2) (gF σ 27)) fun σ7 => bs (sF σ7 27 ((gF σ7 27) + 1)) fun σ8 => bv (x2 + 1) fun x2_9 => k7 σ8 x1 x2_9) else gd (inb (((gF σ 25) * x5) + x2) 2800) (bv (gA σ 7 (Int.toNat (((gF σ 25) * x5) + x2))) fun t10 => gd (rng x5 ∧ rng (gF σ 27)) (if x5 = (gF σ 27) then bv (x5 + 1) fun x5_11 => self σ x1 x2 x5_11 else gd (rng t10) (if t10 = 0 then bv (x5 + 1) fun x5_18 => self σ x1 x2 x5_18 else l_M_steps_230 F k7 self F σ x1 x2 x5 t10 0))))
def l_M_steps_185 (F : Nat) (k7 : St → Int → Int → Option (Int × St)) : Nat → St → Int → Int → Int → Option (Int × St)
  | 0 => fun _ _ _ _ => none
  | n + 1 => fun σ x1 x2 x5 => b_M_steps_185 F k7 (l_M_steps_185 F k7 n) σ x1 x2 x5
def b_M_steps_93 (F : Nat) (k7 : St → Int → Int → Option (Int × St)) (self : St → Int → Int → Int → Int → Int → Option (Int × St)) (σ : St) (x1 x2 x3 x4 x5 : Int) : Option (Int × St) := gd (rng x5 ∧ rng (gF σ 25)) (if (gF σ 25) ≤ x5 then l_M_steps_185 F k7 F σ x1 x2 0 else gd (inb (((gF σ 25) * x3) + x5) 2800) (bv (gA σ 7 (Int.toNat (((gF σ 25) * x3) + x5))) fun t19 => gd (inb (((gF σ 25) * (gF σ 27)) + x5) 2800) (bv (gA σ 7 (Int.toNat (((gF σ 25) * (gF σ 27)) + x5))) fun t20 => gd (inb (((gF σ 25) * x3) + x5) 2800) (bs (sA σ 7 (Int.toNat (((gF σ 25) * x3) + x5)) t20) fun σ21 => bv (((gF σ21 25) * (gF σ21 27)) + x5) fun t22 => gd (rng (t19 * x4) ∧ rng (gF σ21 20) ∧ (gF σ21 20) ≠ (0 : Int)) (bv (Int.tmod (t19 * x4) (gF σ21 20)) fun t23 => gd (inb t22 2800) (bs (sA σ21 7 (Int.toNat t22) t23) fun σ24 => bv (x5 + 1) fun x5_25 => self σ24 x1 x2 x3 x4 x5_25))))))
def l_M_steps_93 (F : Nat) (k7 : St → Int → Int → Option (Int × St)) : Nat → St → Int → Int → Int → Int → Int → Option (Int × St)
  | 0 => fun _ _ _ _ _ _ => none
  | n + 1 => fun σ x1 x2 x3 x4 x5 => b_M_steps_93 F k7 (l_M_steps_93 F k7 n) σ x1 x2 x3 x4 x5
def b_M_steps_29 (F : Nat) (k7 : St → Int → Int → Option (Int × St)) (self : St → Int → Int → Int → Int → Option (Int × St)) (σ : St) (x1 x2 x3 x4 : Int) : Option (Int × St) := gd (rng x4 ∧ rng (gF σ 27)) (if x4 < (gF σ 27) then gd (rng x3) (if (0 : Int) ≤ x3 then gd (inb (((gF σ 25) * x3) + x2) 2800) (bv (gA σ 7 (Int.toNat (((gF σ 25) * x3) + x2))) fun t4 => bnd (f_M_inverse F σ t4) fun r5 σ6 => l_M_steps_93 F k7 F σ6 x1 x2 x3 r5 0) else bv (x2 + 1) fun x2_26 => k7 σ x1 x2_26) else gd (inb (((gF σ 25) * x4) + x2) 2800) (bv (gA σ 7 (Int.toNat (((gF σ 25) * x4) + x2))) fun t27 => gd (rng t27) (if t27 = 0 then bv (x4 + (-1)) fun x4_28 => self σ x1 x2 x3 x4_28 else bv (x4 + (-1)) fun x4_29 => self σ x1 x2 x4 x4_29)))
def l_M_steps_29 (F : Nat) (k7 : St → Int → Int → Option (Int × St)) : Nat → St → Int → Int → Int → Int → Option (Int × St)
  | 0 => fun _ _ _ _ _ => none
  | n + 1 => fun σ x1 x2 x3 x4 => b_M_steps_29 F k7 (l_M_steps_29 F k7 n) σ x1 x2 x3 x4
def b_M_steps_7 (F : Nat) (self : St → Int → Int → Option (Int × St)) (σ : St) (x1 x2 : Int) : Option (Int × St) := gd (rng x2 ∧ rng x1) (if x1 ≤ x2 then some (0, σ) else gd (inb x2 110) (bs (sA σ 8 (Int.toNat x2) (-1)) fun σ2 => bv ((gF σ2 26) - 1) fun x4_3 => l_M_steps_29 F self F σ2 x1 x2 (-1) x4_3))
def l_M_steps_7 (F : Nat) : Nat → St → Int → Int → Option (Int × St)
  | 0 => fun _ _ _ => none
  | n + 1 => fun σ x1 x2 => b_M_steps_7 F (l_M_steps_7 F n) σ x1 x2
def f_M_steps (F : Nat) (σ : St) (x1 : Int) : Option (Int × St) := bs (sF σ 27 0) fun σ1 => l_M_steps_7 F F σ1 x1 0
set_option maxRecDepth 100000 in
set_option maxHeartbeats 4000000 in
theorem cb_M_steps_230 {K : KX} (F : Nat) (k7 : St → Int → Int → Option (Int × St)) (k185 : St → Int → Int → Int → Option (Int × St)) (h7 : ∀ σ x1 x2, WA 2 0 0 cX11_steps RX11 8 none LYM LYM K 7 [some (.ref 0), some (vi x1), some (vi x2), none, none, none, none, none] [] σ (k7 σ x1 x2)) (h185 : ∀ σ x1 x2 x5, WA 2 0 0 cX11_steps RX11 8 none LYM LYM K 185 [some (.ref 0), some (vi x1), some (vi x2), none, none, some (vi x5), none, none] [] σ (k185 σ x1 x2 x5)) (self : St → Int → Int → Int → Int → Int → Option (Int × St)) (hself : ∀ σ x1 x2 x5 x6 x7, WA 2 0 0 cX11_steps RX11 8 none LYM LYM K 230 [some (.ref 0), some (vi x1), some (vi x2), none, none, some (vi x5), some (vi x6), some (vi x7)] [] σ (self σ x1 x2 x5 x6 x7)) (σ : St) (x1 x2 x5 x6 x7 : Int) : WA 2 0 0 cX11_steps RX11 8 none LYM LYM K 230 [some (.ref 0), some (vi x1), some (vi x2), none, none, some (vi x5), some (vi x6), some (vi x7)] [] σ (b_M_steps_230 F k7 k185 self σ x1 x2 x5 x6 x7) := by
  unfold b_M_steps_230
  refine a_iload dX11_steps_230 rfl ?_
  refine a_aload_n dX11_steps_232 rfl ?_
  refine a_getI fl_X11_251 lyM_0 rfl dX11_steps_233 (key := 25) rfl ?_
  refine a_icmp_ge dX11_steps_236 rfl (fun _ => ?_) (fun _ => ?_)
  · refine a_bv fun x5_12 ex5_12 => ?_
    refine a_iinc (y := x5_12) (L' := [some (.ref 0), some (vi x1), some (vi x2), none, none, some (vi x5_12), some (vi x6), some (vi x7)]) dX11_steps_306 rfl ex5_12 rfl rfl rfl ?_
    refine a_goto dX11_steps_309 rfl ?_
    exact a_L (lsub_get (A := [some (.ref 0), some (vi x1), some (vi x2), none, none, some (vi x5_12), none, none]) ⟨rfl, ⟨rfl, ⟨rfl, ⟨rfl, trivial⟩⟩⟩⟩) (h185 _ _ _ _)
  refine a_aload_n dX11_steps_239 rfl ?_
  refine a_getR (c0 := 7) fl_X11_50 lyM_0 rfl dX11_steps_240 (key := 23) rfl ?_
  refine a_aload_n dX11_steps_243 rfl ?_
  refine a_getI fl_X11_251 lyM_0 rfl dX11_steps_244 (key := 25) rfl ?_
  refine a_iload dX11_steps_247 rfl ?_
  refine a_imul dX11_steps_249 ?_
  refine a_iload dX11_steps_250 rfl ?_
  refine a_iadd dX11_steps_252 ?_
  refine a_aload_n dX11_steps_253 rfl ?_
  refine a_getR (c0 := 7) fl_X11_50 lyM_0 rfl dX11_steps_254 (key := 23) rfl ?_
  refine a_aload_n dX11_steps_257 rfl ?_
  refine a_getI fl_X11_251 lyM_0 rfl dX11_steps_258 (key := 25) rfl ?_
  refine a_iload dX11_steps_261 rfl ?_
  refine a_imul dX11_steps_263 ?_
  refine a_iload dX11_steps_264 rfl ?_
  refine a_iadd dX11_steps_266 ?_
  refine a_iald lyM_7 rfl dX11_steps_267 ?_
  refine a_bvi fun t13 => ?_
  refine a_aload_n dX11_steps_268 rfl ?_
  refine a_getI fl_X11_230 lyM_0 rfl dX11_steps_269 (key := 20) rfl ?_
  refine a_iload dX11_steps_272 rfl ?_
  refine a_isub dX11_steps_274 ?_
  refine a_aload_n dX11_steps_275 rfl ?_
  refine a_getR (c0 := 7) fl_X11_50 lyM_0 rfl dX11_steps_276 (key := 23) rfl ?_
  refine a_aload_n dX11_steps_279 rfl ?_
  refine a_getI fl_X11_251 lyM_0 rfl dX11_steps_280 (key := 25) rfl ?_
  refine a_aload_n dX11_steps_283 rfl ?_
  refine a_getI fl_X11_245 lyM_0 rfl dX11_steps_284 (key := 27) rfl ?_
  refine a_imul dX11_steps_287 ?_
  refine a_iload dX11_steps_288 rfl ?_
  refine a_iadd dX11_steps_290 ?_
  refine a_iald lyM_7 rfl dX11_steps_291 ?_
  refine a_bvi fun t14 => ?_
  refine a_imul dX11_steps_292 ?_
  refine a_iadd dX11_steps_293 ?_
  refine a_bvi fun t15 => ?_
  refine a_aload_n dX11_steps_294 rfl ?_
  refine a_getI fl_X11_230 lyM_0 rfl dX11_steps_295 (key := 20) rfl ?_
  refine a_irem dX11_steps_298 (fun _ => ?_)
  refine a_iast lyM_7 rfl dX11_steps_299 fun σ16 => ?_
  refine a_bv fun x7_17 ex7_17 => ?_
  refine a_iinc (y := x7_17) (L' := [some (.ref 0), some (vi x1), some (vi x2), none, none, some (vi x5), some (vi x6), some (vi x7_17)]) dX11_steps_300 rfl ex7_17 rfl rfl rfl ?_
  refine a_goto dX11_steps_303 rfl ?_
  exact hself _ _ _ _ _ _
set_option maxRecDepth 100000 in
set_option maxHeartbeats 4000000 in
theorem cl_M_steps_230 {K : KX} (F : Nat) (k7 : St → Int → Int → Option (Int × St)) (k185 : St → Int → Int → Int → Option (Int × St)) (h7 : ∀ σ x1 x2, WA 2 0 0 cX11_steps RX11 8 none LYM LYM K 7 [some (.ref 0), some (vi x1), some (vi x2), none, none, none, none, none] [] σ (k7 σ x1 x2)) (h185 : ∀ σ x1 x2 x5, WA 2 0 0 cX11_steps RX11 8 none LYM LYM K 185 [some (.ref 0), some (vi x1), some (vi x2), none, none, some (vi x5), none, none] [] σ (k185 σ x1 x2 x5)) : ∀ (n : Nat) (σ : St) (x1 x2 x5 x6 x7 : Int), WA 2 0 0 cX11_steps RX11 8 none LYM LYM K 230 [some (.ref 0), some (vi x1), some (vi x2), none, none, some (vi x5), some (vi x6), some (vi x7)] [] σ (l_M_steps_230 F k7 k185 n σ x1 x2 x5 x6 x7)
  | 0, _, _, _, _, _, _ => a_none
  | n + 1, σ, x1, x2, x5, x6, x7 => cb_M_steps_230 F k7 k185 h7 h185 _ (cl_M_steps_230 F k7 k185 h7 h185 n) σ x1 x2 x5 x6 x7
set_option maxRecDepth 100000 in
set_option maxHeartbeats 4000000 in
theorem cb_M_steps_185 {K : KX} (F : Nat) (k7 : St → Int → Int → Option (Int × St)) (h7 : ∀ σ x1 x2, WA 2 0 0 cX11_steps RX11 8 none LYM LYM K 7 [some (.ref 0), some (vi x1), some (vi x2), none, none, none, none, none] [] σ (k7 σ x1 x2)) (self : St → Int → Int → Int → Option (Int × St)) (hself : ∀ σ x1 x2 x5, WA 2 0 0 cX11_steps RX11 8 none LYM LYM K 185 [some (.ref 0), some (vi x1), some (vi x2), none, none, some (vi x5), none, none] [] σ (self σ x1 x2 x5)) (σ : St) (x1 x2 x5 : Int) : WA 2 0 0 cX11_steps RX11 8 none LYM LYM K 185 [some (.ref 0), some (vi x1), some (vi x2), none, none, some (vi x5), none, none] [] σ (b_M_steps_185 F k7 self σ x1 x2 x5) := by
  unfold b_M_steps_185
  refine a_iload dX11_steps_185 rfl ?_
  refine a_aload_n dX11_steps_187 rfl ?_
  refine a_getI fl_X11_248 lyM_0 rfl dX11_steps_188 (key := 26) rfl ?_
  refine a_icmp_ge dX11_steps_191 rfl (fun _ => ?_) (fun _ => ?_)
  · refine a_aload_n dX11_steps_312 rfl ?_
    refine a_getR (c0 := 8) fl_X11_53 lyM_0 rfl dX11_steps_313 (key := 24) rfl ?_
    refine a_iload_n dX11_steps_316 rfl ?_
    refine a_aload_n dX11_steps_317 rfl ?_
    refine a_getI fl_X11_245 lyM_0 rfl dX11_steps_318 (key := 27) rfl ?_
    refine a_iast lyM_8 rfl dX11_steps_321 fun σ7 => ?_
    refine a_aload_n dX11_steps_322 rfl ?_
    refine a_dup dX11_steps_323 rfl ?_
    refine a_getI fl_X11_245 lyM_0 rfl dX11_steps_324 (key := 27) rfl ?_
    refine a_iconst dX11_steps_327 ?_
    refine a_iadd dX11_steps_328 ?_
    refine a_putI fl_X11_245 cf_X11 rfl rfl lyM_0 rfl dX11_steps_329 (key := 27) rfl fun σ8 => ?_
    refine a_bv fun x2_9 ex2_9 => ?_
    refine a_iinc (y := x2_9) (L' := [some (.ref 0), some (vi x1), some (vi x2_9), none, none, some (vi x5), none, none]) dX11_steps_332 rfl ex2_9 rfl rfl rfl ?_
    refine a_goto dX11_steps_335 rfl ?_
    exact a_L (lsub_get (A := [some (.ref 0), some (vi x1), some (vi x2_9), none, none, none, none, none]) ⟨rfl, ⟨rfl, ⟨rfl, trivial⟩⟩⟩) (h7 _ _ _)
  refine a_aload_n dX11_steps_194 rfl ?_
  refine a_getR (c0 := 7) fl_X11_50 lyM_0 rfl dX11_steps_195 (key := 23) rfl ?_
  refine a_aload_n dX11_steps_198 rfl ?_
  refine a_getI fl_X11_251 lyM_0 rfl dX11_steps_199 (key := 25) rfl ?_
  refine a_iload dX11_steps_202 rfl ?_
  refine a_imul dX11_steps_204 ?_
  refine a_iload_n dX11_steps_205 rfl ?_
  refine a_iadd dX11_steps_206 ?_
  refine a_iald lyM_7 rfl dX11_steps_207 ?_
  refine a_bvi fun t10 => ?_
  refine a_istore (L' := [some (.ref 0), some (vi x1), some (vi x2), none, none, some (vi x5), some (vi t10), none]) dX11_steps_208 rfl rfl rfl rfl ?_
  refine a_iload dX11_steps_210 rfl ?_
  refine a_aload_n dX11_steps_212 rfl ?_
  refine a_getI fl_X11_245 lyM_0 rfl dX11_steps_213 (key := 27) rfl ?_
  refine a_icmp_eq dX11_steps_216 rfl (fun _ => ?_) (fun _ => ?_)
  · refine a_bv fun x5_11 ex5_11 => ?_
    refine a_iinc (y := x5_11) (L' := [some (.ref 0), some (vi x1), some (vi x2), none, none, some (vi x5_11), some (vi t10), none]) dX11_steps_306 rfl ex5_11 rfl rfl rfl ?_
    refine a_goto dX11_steps_309 rfl ?_
    exact a_L (lsub_get (A := [some (.ref 0), some (vi x1), some (vi x2), none, none, some (vi x5_11), none, none]) ⟨rfl, ⟨rfl, ⟨rfl, ⟨rfl, trivial⟩⟩⟩⟩) (hself _ _ _ _)
  refine a_iload dX11_steps_219 rfl ?_
  refine a_if_ne dX11_steps_221 rfl (fun _ => ?_) (fun _ => ?_)
  · refine a_iconst dX11_steps_227 ?_
    refine a_istore (L' := [some (.ref 0), some (vi x1), some (vi x2), none, none, some (vi x5), some (vi t10), some (vi 0)]) dX11_steps_228 rfl rfl rfl rfl ?_
    exact cl_M_steps_230 F _ _ h7 hself F _ _ _ _ _ _
  refine a_goto dX11_steps_224 rfl ?_
  refine a_bv fun x5_18 ex5_18 => ?_
  refine a_iinc (y := x5_18) (L' := [some (.ref 0), some (vi x1), some (vi x2), none, none, some (vi x5_18), some (vi t10), none]) dX11_steps_306 rfl ex5_18 rfl rfl rfl ?_
  refine a_goto dX11_steps_309 rfl ?_
  exact a_L (lsub_get (A := [some (.ref 0), some (vi x1), some (vi x2), none, none, some (vi x5_18), none, none]) ⟨rfl, ⟨rfl, ⟨rfl, ⟨rfl, trivial⟩⟩⟩⟩) (hself _ _ _ _)
set_option maxRecDepth 100000 in
set_option maxHeartbeats 4000000 in
theorem cl_M_steps_185 {K : KX} (F : Nat) (k7 : St → Int → Int → Option (Int × St)) (h7 : ∀ σ x1 x2, WA 2 0 0 cX11_steps RX11 8 none LYM LYM K 7 [some (.ref 0), some (vi x1), some (vi x2), none, none, none, none, none] [] σ (k7 σ x1 x2)) : ∀ (n : Nat) (σ : St) (x1 x2 x5 : Int), WA 2 0 0 cX11_steps RX11 8 none LYM LYM K 185 [some (.ref 0), some (vi x1), some (vi x2), none, none, some (vi x5), none, none] [] σ (l_M_steps_185 F k7 n σ x1 x2 x5)
  | 0, _, _, _, _ => a_none
  | n + 1, σ, x1, x2, x5 => cb_M_steps_185 F k7 h7 _ (cl_M_steps_185 F k7 h7 n) σ x1 x2 x5
set_option maxRecDepth 100000 in
set_option maxHeartbeats 4000000 in
theorem cb_M_steps_93 {K : KX} (F : Nat) (k7 : St → Int → Int → Option (Int × St)) (h7 : ∀ σ x1 x2, WA 2 0 0 cX11_steps RX11 8 none LYM LYM K 7 [some (.ref 0), some (vi x1), some (vi x2), none, none, none, none, none] [] σ (k7 σ x1 x2)) (self : St → Int → Int → Int → Int → Int → Option (Int × St)) (hself : ∀ σ x1 x2 x3 x4 x5, WA 2 0 0 cX11_steps RX11 8 none LYM LYM K 93 [some (.ref 0), some (vi x1), some (vi x2), some (vi x3), some (vi x4), some (vi x5), none, none] [] σ (self σ x1 x2 x3 x4 x5)) (σ : St) (x1 x2 x3 x4 x5 : Int) : WA 2 0 0 cX11_steps RX11 8 none LYM LYM K 93 [some (.ref 0), some (vi x1), some (vi x2), some (vi x3), some (vi x4), some (vi x5), none, none] [] σ (b_M_steps_93 F k7 self σ x1 x2 x3 x4 x5) := by
  unfold b_M_steps_93
  refine a_iload dX11_steps_93 rfl ?_
  refine a_aload_n dX11_steps_95 rfl ?_
  refine a_getI fl_X11_251 lyM_0 rfl dX11_steps_96 (key := 25) rfl ?_
  refine a_icmp_ge dX11_steps_99 rfl (fun _ => ?_) (fun _ => ?_)
  · refine a_iconst dX11_steps_182 ?_
    refine a_istore (L' := [some (.ref 0), some (vi x1), some (vi x2), some (vi x3), some (vi x4), some (vi 0), none, none]) dX11_steps_183 rfl rfl rfl rfl ?_
    exact a_L (lsub_get (A := [some (.ref 0), some (vi x1), some (vi x2), none, none, some (vi 0), none, none]) ⟨rfl, ⟨rfl, ⟨rfl, ⟨rfl, trivial⟩⟩⟩⟩) (cl_M_steps_185 F _ h7 F _ _ _ _)
  refine a_aload_n dX11_steps_102 rfl ?_
  refine a_getR (c0 := 7) fl_X11_50 lyM_0 rfl dX11_steps_103 (key := 23) rfl ?_
  refine a_aload_n dX11_steps_106 rfl ?_
  refine a_getI fl_X11_251 lyM_0 rfl dX11_steps_107 (key := 25) rfl ?_
  refine a_iload_n dX11_steps_110 rfl ?_
  refine a_imul dX11_steps_111 ?_
  refine a_iload dX11_steps_112 rfl ?_
  refine a_iadd dX11_steps_114 ?_
  refine a_iald lyM_7 rfl dX11_steps_115 ?_
  refine a_bvi fun t19 => ?_
  refine a_istore (L' := [some (.ref 0), some (vi x1), some (vi x2), some (vi x3), some (vi x4), some (vi x5), some (vi t19), none]) dX11_steps_116 rfl rfl rfl rfl ?_
  refine a_aload_n dX11_steps_118 rfl ?_
  refine a_getR (c0 := 7) fl_X11_50 lyM_0 rfl dX11_steps_119 (key := 23) rfl ?_
  refine a_aload_n dX11_steps_122 rfl ?_
  refine a_getI fl_X11_251 lyM_0 rfl dX11_steps_123 (key := 25) rfl ?_
  refine a_iload_n dX11_steps_126 rfl ?_
  refine a_imul dX11_steps_127 ?_
  refine a_iload dX11_steps_128 rfl ?_
  refine a_iadd dX11_steps_130 ?_
  refine a_aload_n dX11_steps_131 rfl ?_
  refine a_getR (c0 := 7) fl_X11_50 lyM_0 rfl dX11_steps_132 (key := 23) rfl ?_
  refine a_aload_n dX11_steps_135 rfl ?_
  refine a_getI fl_X11_251 lyM_0 rfl dX11_steps_136 (key := 25) rfl ?_
  refine a_aload_n dX11_steps_139 rfl ?_
  refine a_getI fl_X11_245 lyM_0 rfl dX11_steps_140 (key := 27) rfl ?_
  refine a_imul dX11_steps_143 ?_
  refine a_iload dX11_steps_144 rfl ?_
  refine a_iadd dX11_steps_146 ?_
  refine a_iald lyM_7 rfl dX11_steps_147 ?_
  refine a_bvi fun t20 => ?_
  refine a_iast lyM_7 rfl dX11_steps_148 fun σ21 => ?_
  refine a_aload_n dX11_steps_149 rfl ?_
  refine a_getR (c0 := 7) fl_X11_50 lyM_0 rfl dX11_steps_150 (key := 23) rfl ?_
  refine a_aload_n dX11_steps_153 rfl ?_
  refine a_getI fl_X11_251 lyM_0 rfl dX11_steps_154 (key := 25) rfl ?_
  refine a_aload_n dX11_steps_157 rfl ?_
  refine a_getI fl_X11_245 lyM_0 rfl dX11_steps_158 (key := 27) rfl ?_
  refine a_imul dX11_steps_161 ?_
  refine a_iload dX11_steps_162 rfl ?_
  refine a_iadd dX11_steps_164 ?_
  refine a_bvi fun t22 => ?_
  refine a_iload dX11_steps_165 rfl ?_
  refine a_iload dX11_steps_167 rfl ?_
  refine a_imul dX11_steps_169 ?_
  refine a_aload_n dX11_steps_170 rfl ?_
  refine a_getI fl_X11_230 lyM_0 rfl dX11_steps_171 (key := 20) rfl ?_
  refine a_irem dX11_steps_174 (fun _ => ?_)
  refine a_bvi fun t23 => ?_
  refine a_iast lyM_7 rfl dX11_steps_175 fun σ24 => ?_
  refine a_bv fun x5_25 ex5_25 => ?_
  refine a_iinc (y := x5_25) (L' := [some (.ref 0), some (vi x1), some (vi x2), some (vi x3), some (vi x4), some (vi x5_25), some (vi t19), none]) dX11_steps_176 rfl ex5_25 rfl rfl rfl ?_
  refine a_goto dX11_steps_179 rfl ?_
  exact a_L (lsub_get (A := [some (.ref 0), some (vi x1), some (vi x2), some (vi x3), some (vi x4), some (vi x5_25), none, none]) ⟨rfl, ⟨rfl, ⟨rfl, ⟨rfl, ⟨rfl, ⟨rfl, trivial⟩⟩⟩⟩⟩⟩) (hself _ _ _ _ _ _)
set_option maxRecDepth 100000 in
set_option maxHeartbeats 4000000 in
theorem cl_M_steps_93 {K : KX} (F : Nat) (k7 : St → Int → Int → Option (Int × St)) (h7 : ∀ σ x1 x2, WA 2 0 0 cX11_steps RX11 8 none LYM LYM K 7 [some (.ref 0), some (vi x1), some (vi x2), none, none, none, none, none] [] σ (k7 σ x1 x2)) : ∀ (n : Nat) (σ : St) (x1 x2 x3 x4 x5 : Int), WA 2 0 0 cX11_steps RX11 8 none LYM LYM K 93 [some (.ref 0), some (vi x1), some (vi x2), some (vi x3), some (vi x4), some (vi x5), none, none] [] σ (l_M_steps_93 F k7 n σ x1 x2 x3 x4 x5)
  | 0, _, _, _, _, _, _ => a_none
  | n + 1, σ, x1, x2, x3, x4, x5 => cb_M_steps_93 F k7 h7 _ (cl_M_steps_93 F k7 h7 n) σ x1 x2 x3 x4 x5
set_option maxRecDepth 100000 in
set_option maxHeartbeats 4000000 in
theorem cb_M_steps_29 {K : KX} (F : Nat) (k7 : St → Int → Int → Option (Int × St)) (h7 : ∀ σ x1 x2, WA 2 0 0 cX11_steps RX11 8 none LYM LYM K 7 [some (.ref 0), some (vi x1), some (vi x2), none, none, none, none, none] [] σ (k7 σ x1 x2)) (self : St → Int → Int → Int → Int → Option (Int × St)) (hself : ∀ σ x1 x2 x3 x4, WA 2 0 0 cX11_steps RX11 8 none LYM LYM K 29 [some (.ref 0), some (vi x1), some (vi x2), some (vi x3), some (vi x4), none, none, none] [] σ (self σ x1 x2 x3 x4)) (σ : St) (x1 x2 x3 x4 : Int) : WA 2 0 0 cX11_steps RX11 8 none LYM LYM K 29 [some (.ref 0), some (vi x1), some (vi x2), some (vi x3), some (vi x4), none, none, none] [] σ (b_M_steps_29 F k7 self σ x1 x2 x3 x4) := by
  unfold b_M_steps_29
  refine a_iload dX11_steps_29 rfl ?_
  refine a_aload_n dX11_steps_31 rfl ?_
  refine a_getI fl_X11_245 lyM_0 rfl dX11_steps_32 (key := 27) rfl ?_
  refine a_icmp_lt dX11_steps_35 rfl (fun _ => ?_) (fun _ => ?_)
  · refine a_iload_n dX11_steps_64 rfl ?_
    refine a_if_ge dX11_steps_65 rfl (fun _ => ?_) (fun _ => ?_)
    · refine a_aload_n dX11_steps_71 rfl ?_
      refine a_aload_n dX11_steps_72 rfl ?_
      refine a_getR (c0 := 7) fl_X11_50 lyM_0 rfl dX11_steps_73 (key := 23) rfl ?_
      refine a_aload_n dX11_steps_76 rfl ?_
      refine a_getI fl_X11_251 lyM_0 rfl dX11_steps_77 (key := 25) rfl ?_
      refine a_iload_n dX11_steps_80 rfl ?_
      refine a_imul dX11_steps_81 ?_
      refine a_iload_n dX11_steps_82 rfl ?_
      refine a_iadd dX11_steps_83 ?_
      refine a_iald lyM_7 rfl dX11_steps_84 ?_
      refine a_bvi fun t4 => ?_
      refine a_callVi (as := [vi t4]) mf_X11_254 lyM_0 rfl (c_M_inverse F _ _) LYsame.rf dX11_steps_85 rfl rfl rfl rfl rfl rfl (Or.inl rfl) fun r5 σ6 => ?_
      refine a_istore (L' := [some (.ref 0), some (vi x1), some (vi x2), some (vi x3), some (vi r5), none, none, none]) dX11_steps_88 rfl rfl rfl rfl ?_
      refine a_iconst dX11_steps_90 ?_
      refine a_istore (L' := [some (.ref 0), some (vi x1), some (vi x2), some (vi x3), some (vi r5), some (vi 0), none, none]) dX11_steps_91 rfl rfl rfl rfl ?_
      exact cl_M_steps_93 F _ h7 F _ _ _ _ _ _
    refine a_goto dX11_steps_68 rfl ?_
    refine a_bv fun x2_26 ex2_26 => ?_
    refine a_iinc (y := x2_26) (L' := [some (.ref 0), some (vi x1), some (vi x2_26), some (vi x3), some (vi x4), none, none, none]) dX11_steps_332 rfl ex2_26 rfl rfl rfl ?_
    refine a_goto dX11_steps_335 rfl ?_
    exact a_L (lsub_get (A := [some (.ref 0), some (vi x1), some (vi x2_26), none, none, none, none, none]) ⟨rfl, ⟨rfl, ⟨rfl, trivial⟩⟩⟩) (h7 _ _ _)
  refine a_aload_n dX11_steps_38 rfl ?_
  refine a_getR (c0 := 7) fl_X11_50 lyM_0 rfl dX11_steps_39 (key := 23) rfl ?_
  refine a_aload_n dX11_steps_42 rfl ?_
  refine a_getI fl_X11_251 lyM_0 rfl dX11_steps_43 (key := 25) rfl ?_
  refine a_iload dX11_steps_46 rfl ?_
  refine a_imul dX11_steps_48 ?_
  refine a_iload_n dX11_steps_49 rfl ?_
  refine a_iadd dX11_steps_50 ?_
  refine a_iald lyM_7 rfl dX11_steps_51 ?_
  refine a_bvi fun t27 => ?_
  refine a_if_eq dX11_steps_52 rfl (fun _ => ?_) (fun _ => ?_)
  · refine a_bv fun x4_28 ex4_28 => ?_
    refine a_iinc (y := x4_28) (L' := [some (.ref 0), some (vi x1), some (vi x2), some (vi x3), some (vi x4_28), none, none, none]) dX11_steps_58 rfl ex4_28 rfl rfl rfl ?_
    refine a_goto dX11_steps_61 rfl ?_
    exact hself _ _ _ _ _
  refine a_iload dX11_steps_55 rfl ?_
  refine a_istore_n (L' := [some (.ref 0), some (vi x1), some (vi x2), some (vi x4), some (vi x4), none, none, none]) dX11_steps_57 rfl rfl rfl rfl ?_
  refine a_bv fun x4_29 ex4_29 => ?_
  refine a_iinc (y := x4_29) (L' := [some (.ref 0), some (vi x1), some (vi x2), some (vi x4), some (vi x4_29), none, none, none]) dX11_steps_58 rfl ex4_29 rfl rfl rfl ?_
  refine a_goto dX11_steps_61 rfl ?_
  exact hself _ _ _ _ _
set_option maxRecDepth 100000 in
set_option maxHeartbeats 4000000 in
theorem cl_M_steps_29 {K : KX} (F : Nat) (k7 : St → Int → Int → Option (Int × St)) (h7 : ∀ σ x1 x2, WA 2 0 0 cX11_steps RX11 8 none LYM LYM K 7 [some (.ref 0), some (vi x1), some (vi x2), none, none, none, none, none] [] σ (k7 σ x1 x2)) : ∀ (n : Nat) (σ : St) (x1 x2 x3 x4 : Int), WA 2 0 0 cX11_steps RX11 8 none LYM LYM K 29 [some (.ref 0), some (vi x1), some (vi x2), some (vi x3), some (vi x4), none, none, none] [] σ (l_M_steps_29 F k7 n σ x1 x2 x3 x4)
  | 0, _, _, _, _, _ => a_none
  | n + 1, σ, x1, x2, x3, x4 => cb_M_steps_29 F k7 h7 _ (cl_M_steps_29 F k7 h7 n) σ x1 x2 x3 x4
set_option maxRecDepth 100000 in
set_option maxHeartbeats 4000000 in
theorem cb_M_steps_7 {K : KX} (F : Nat) (self : St → Int → Int → Option (Int × St)) (hself : ∀ σ x1 x2, WA 2 0 0 cX11_steps RX11 8 none LYM LYM K 7 [some (.ref 0), some (vi x1), some (vi x2), none, none, none, none, none] [] σ (self σ x1 x2)) (σ : St) (x1 x2 : Int) : WA 2 0 0 cX11_steps RX11 8 none LYM LYM K 7 [some (.ref 0), some (vi x1), some (vi x2), none, none, none, none, none] [] σ (b_M_steps_7 F self σ x1 x2) := by
  unfold b_M_steps_7
  refine a_iload_n dX11_steps_7 rfl ?_
  refine a_iload_n dX11_steps_8 rfl ?_
  refine a_icmp_ge dX11_steps_9 rfl (fun _ => ?_) (fun _ => ?_)
  · exact a_vret dX11_steps_338
  refine a_aload_n dX11_steps_12 rfl ?_
  refine a_getR (c0 := 8) fl_X11_53 lyM_0 rfl dX11_steps_13 (key := 24) rfl ?_
  refine a_iload_n dX11_steps_16 rfl ?_
  refine a_iconst dX11_steps_17 ?_
  refine a_iast lyM_8 rfl dX11_steps_18 fun σ2 => ?_
  refine a_iconst dX11_steps_19 ?_
  refine a_istore_n (L' := [some (.ref 0), some (vi x1), some (vi x2), some (vi (-1)), none, none, none, none]) dX11_steps_20 rfl rfl rfl rfl ?_
  refine a_aload_n dX11_steps_21 rfl ?_
  refine a_getI fl_X11_248 lyM_0 rfl dX11_steps_22 (key := 26) rfl ?_
  refine a_iconst dX11_steps_25 ?_
  refine a_isub dX11_steps_26 ?_
  refine a_bv fun x4_3 ex4_3 => ?_
  refine a_istore (y := x4_3) (L' := [some (.ref 0), some (vi x1), some (vi x2), some (vi (-1)), some (vi x4_3), none, none, none]) dX11_steps_27 ex4_3 rfl rfl rfl ?_
  exact cl_M_steps_29 F _ hself F _ _ _ _ _
set_option maxRecDepth 100000 in
set_option maxHeartbeats 4000000 in
theorem cl_M_steps_7 {K : KX} (F : Nat) : ∀ (n : Nat) (σ : St) (x1 x2 : Int), WA 2 0 0 cX11_steps RX11 8 none LYM LYM K 7 [some (.ref 0), some (vi x1), some (vi x2), none, none, none, none, none] [] σ (l_M_steps_7 F n σ x1 x2)
  | 0, _, _, _ => a_none
  | n + 1, σ, x1, x2 => cb_M_steps_7 F _ (cl_M_steps_7 F n) σ x1 x2
set_option maxRecDepth 100000 in
set_option maxHeartbeats 4000000 in
theorem c_M_steps (F : Nat) (σ : St) (x1 : Int) : Ct 2 0 0 yX11_steps cX11_steps 8 none LYM LYM [.ref 0, vi x1] σ (f_M_steps F σ x1) := by
  unfold f_M_steps
  refine Ct_of (d := 2) (kp := 0) (kd := 0) (own := RX11) (nL := 8) (ret := none) (LY := LYM) (LYe := LYM) (L := [some (.ref 0), some (vi x1), none, none, none, none, none, none]) rfl (by decide +kernel) rfl rfl mf_X11_258.2.2.2.1 rfl fun K => ?_
  refine a_aload_n dX11_steps_0 rfl ?_
  refine a_iconst dX11_steps_1 ?_
  refine a_putI fl_X11_245 cf_X11 rfl rfl lyM_0 rfl dX11_steps_2 (key := 27) rfl fun σ1 => ?_
  refine a_iconst dX11_steps_5 ?_
  refine a_istore_n (L' := [some (.ref 0), some (vi x1), some (vi 0), none, none, none, none, none]) dX11_steps_6 rfl rfl rfl rfl ?_
  exact cl_M_steps_7 F F _ _ _
def b_M_isMade_15 (F : Nat) (self : St → Int → Option (Int × St)) (σ : St) (x1 : Int) : Option (Int × St) := gd (rng x1 ∧ rng (gF σ 26)) (if (gF σ 26) ≤ x1 then some (1, σ) else bv ((((gF σ 25) * x1) + (gF σ 25)) - 1) fun t4 => gd (inb t4 2800) (gd (rng (gA σ 7 (Int.toNat t4))) (if (gA σ 7 (Int.toNat t4)) = 0 then bv (x1 + 1) fun x1_5 => self σ x1_5 else some (0, σ))))
def l_M_isMade_15 (F : Nat) : Nat → St → Int → Option (Int × St)
  | 0 => fun _ _ => none
  | n + 1 => fun σ x1 => b_M_isMade_15 F (l_M_isMade_15 F n) σ x1
def f_M_isMade (F : Nat) (σ : St) : Option (Int × St) := bnd (f_M_steps F σ ((gF σ 25) - 1)) fun r1 σ2 => bv (gF σ2 27) fun x1_3 => l_M_isMade_15 F F σ2 x1_3
set_option maxRecDepth 100000 in
set_option maxHeartbeats 4000000 in
theorem cb_M_isMade_15 {K : KX} (F : Nat) (self : St → Int → Option (Int × St)) (hself : ∀ σ x1, WA 3 0 1 cX11_isMade RX11 2 (some .boolean) LYM LYM K 15 [some (.ref 0), some (vi x1)] [] σ (self σ x1)) (σ : St) (x1 : Int) : WA 3 0 1 cX11_isMade RX11 2 (some .boolean) LYM LYM K 15 [some (.ref 0), some (vi x1)] [] σ (b_M_isMade_15 F self σ x1) := by
  unfold b_M_isMade_15
  refine a_iload_n dX11_isMade_15 rfl ?_
  refine a_aload_n dX11_isMade_16 rfl ?_
  refine a_getI fl_X11_248 lyM_0 rfl dX11_isMade_17 (key := 26) rfl ?_
  refine a_icmp_ge dX11_isMade_20 rfl (fun _ => ?_) (fun _ => ?_)
  · refine a_iconst dX11_isMade_52 ?_
    exact a_zretc (by decide) dX11_isMade_53
  refine a_aload_n dX11_isMade_23 rfl ?_
  refine a_getR (c0 := 7) fl_X11_50 lyM_0 rfl dX11_isMade_24 (key := 23) rfl ?_
  refine a_aload_n dX11_isMade_27 rfl ?_
  refine a_getI fl_X11_251 lyM_0 rfl dX11_isMade_28 (key := 25) rfl ?_
  refine a_iload_n dX11_isMade_31 rfl ?_
  refine a_imul dX11_isMade_32 ?_
  refine a_aload_n dX11_isMade_33 rfl ?_
  refine a_getI fl_X11_251 lyM_0 rfl dX11_isMade_34 (key := 25) rfl ?_
  refine a_iadd dX11_isMade_37 ?_
  refine a_iconst dX11_isMade_38 ?_
  refine a_isub dX11_isMade_39 ?_
  refine a_bvi fun t4 => ?_
  refine a_iald lyM_7 rfl dX11_isMade_40 ?_
  refine a_if_eq dX11_isMade_41 rfl (fun _ => ?_) (fun _ => ?_)
  · refine a_bv fun x1_5 ex1_5 => ?_
    refine a_iinc (y := x1_5) (L' := [some (.ref 0), some (vi x1_5)]) dX11_isMade_46 rfl ex1_5 rfl rfl rfl ?_
    refine a_goto dX11_isMade_49 rfl ?_
    exact hself _ _
  refine a_iconst dX11_isMade_44 ?_
  exact a_zretc (by decide) dX11_isMade_45
set_option maxRecDepth 100000 in
set_option maxHeartbeats 4000000 in
theorem cl_M_isMade_15 {K : KX} (F : Nat) : ∀ (n : Nat) (σ : St) (x1 : Int), WA 3 0 1 cX11_isMade RX11 2 (some .boolean) LYM LYM K 15 [some (.ref 0), some (vi x1)] [] σ (l_M_isMade_15 F n σ x1)
  | 0, _, _ => a_none
  | n + 1, σ, x1 => cb_M_isMade_15 F _ (cl_M_isMade_15 F n) σ x1
set_option maxRecDepth 100000 in
set_option maxHeartbeats 4000000 in
theorem c_M_isMade (F : Nat) (σ : St) : Ct 3 0 1 yX11_isMade cX11_isMade 2 (some .boolean) LYM LYM [.ref 0] σ (f_M_isMade F σ) := by
  unfold f_M_isMade
  refine Ct_of (d := 3) (kp := 0) (kd := 1) (own := RX11) (nL := 2) (ret := (some .boolean)) (LY := LYM) (LYe := LYM) (L := [some (.ref 0), none]) rfl (by decide +kernel) rfl rfl mf_X11_291.2.2.2.1 rfl fun K => ?_
  refine a_aload_n dX11_isMade_0 rfl ?_
  refine a_aload_n dX11_isMade_1 rfl ?_
  refine a_getI fl_X11_251 lyM_0 rfl dX11_isMade_2 (key := 25) rfl ?_
  refine a_iconst dX11_isMade_5 ?_
  refine a_isub dX11_isMade_6 ?_
  refine a_callVv (as := [vi ((gF σ 25) - 1)]) mf_X11_258 lyM_0 rfl (c_M_steps F _ _) LYsame.rf dX11_isMade_7 rfl rfl rfl rfl rfl rfl (Or.inl rfl) fun r1 σ2 => ?_
  refine a_aload_n dX11_isMade_10 rfl ?_
  refine a_getI fl_X11_245 lyM_0 rfl dX11_isMade_11 (key := 27) rfl ?_
  refine a_bv fun x1_3 ex1_3 => ?_
  refine a_istore_n (y := x1_3) (L' := [some (.ref 0), some (vi x1_3)]) dX11_isMade_14 ex1_3 rfl rfl rfl ?_
  exact cl_M_isMade_15 F F _ _
def f_M_share (F : Nat) (σ : St) (x1 : Int) : Option (Int × St) := gd (inb x1 110) (gd (rng (gA σ 8 (Int.toNat x1))) (if (0 : Int) ≤ (gA σ 8 (Int.toNat x1)) then gd (inb x1 110) (bv ((gF σ 25) * (gA σ 8 (Int.toNat x1))) fun t1 => gd (inb ((t1 + (gF σ 25)) - 1) 2800) (bv (gA σ 7 (Int.toNat ((t1 + (gF σ 25)) - 1))) fun t2 => some (t2, σ))) else some (0, σ)))
set_option maxRecDepth 100000 in
set_option maxHeartbeats 4000000 in
theorem c_M_share (F : Nat) (σ : St) (x1 : Int) : Ct 1 0 1 yX11_share cX11_share 2 (some .int) LYM LYM [.ref 0, vi x1] σ (f_M_share F σ x1) := by
  unfold f_M_share
  refine Ct_of (d := 1) (kp := 0) (kd := 1) (own := RX11) (nL := 2) (ret := (some .int)) (LY := LYM) (LYe := LYM) (L := [some (.ref 0), some (vi x1)]) rfl (by decide +kernel) rfl rfl mf_X11_320.2.2.2.1 rfl fun K => ?_
  refine a_aload_n dX11_share_0 rfl ?_
  refine a_getR (c0 := 8) fl_X11_53 lyM_0 rfl dX11_share_1 (key := 24) rfl ?_
  refine a_iload_n dX11_share_4 rfl ?_
  refine a_iald lyM_8 rfl dX11_share_5 ?_
  refine a_if_ge dX11_share_6 rfl (fun _ => ?_) (fun _ => ?_)
  · refine a_aload_n dX11_share_13 rfl ?_
    refine a_getR (c0 := 7) fl_X11_50 lyM_0 rfl dX11_share_14 (key := 23) rfl ?_
    refine a_aload_n dX11_share_17 rfl ?_
    refine a_getI fl_X11_251 lyM_0 rfl dX11_share_18 (key := 25) rfl ?_
    refine a_aload_n dX11_share_21 rfl ?_
    refine a_getR (c0 := 8) fl_X11_53 lyM_0 rfl dX11_share_22 (key := 24) rfl ?_
    refine a_iload_n dX11_share_25 rfl ?_
    refine a_iald lyM_8 rfl dX11_share_26 ?_
    refine a_imul dX11_share_27 ?_
    refine a_bvi fun t1 => ?_
    refine a_aload_n dX11_share_28 rfl ?_
    refine a_getI fl_X11_251 lyM_0 rfl dX11_share_29 (key := 25) rfl ?_
    refine a_iadd dX11_share_32 ?_
    refine a_iconst dX11_share_33 ?_
    refine a_isub dX11_share_34 ?_
    refine a_iald lyM_7 rfl dX11_share_35 ?_
    refine a_bvi fun t2 => ?_
    exact a_iret dX11_share_36
  refine a_iconst dX11_share_9 ?_
  refine a_goto dX11_share_10 rfl ?_
  exact a_iret dX11_share_36
def f_M_isHearer (F : Nat) (σ : St) (x1 : Int) : Option (Int × St) := gd (inb 1 82) (bnd (f_M_isIn F σ x1 0 ((gA σ 2 (Int.toNat 1)) - 1)) fun r1 σ2 => gd (isb r1) (some (r1, σ2)))
set_option maxRecDepth 100000 in
set_option maxHeartbeats 4000000 in
theorem c_M_isHearer (F : Nat) (σ : St) (x1 : Int) : Ct 2 0 1 yX11_isHearer cX11_isHearer 2 (some .boolean) LYM LYM [.ref 0, vi x1] σ (f_M_isHearer F σ x1) := by
  unfold f_M_isHearer
  refine Ct_of (d := 2) (kp := 0) (kd := 1) (own := RX11) (nL := 2) (ret := (some .boolean)) (LY := LYM) (LYe := LYM) (L := [some (.ref 0), some (vi x1)]) rfl (by decide +kernel) rfl rfl mf_X11_261.2.2.2.1 rfl fun K => ?_
  refine a_iload_n dX11_isHearer_0 rfl ?_
  refine a_iconst dX11_isHearer_1 ?_
  refine a_aload_n dX11_isHearer_2 rfl ?_
  refine a_getR (c0 := 2) fl_X11_33 lyM_0 rfl dX11_isHearer_3 (key := 6) rfl ?_
  refine a_iconst dX11_isHearer_6 ?_
  refine a_iald lyM_2 rfl dX11_isHearer_7 ?_
  refine a_iconst dX11_isHearer_8 ?_
  refine a_isub dX11_isHearer_9 ?_
  refine a_callSi (as := [vi x1, vi 0, vi ((gA σ 2 (Int.toNat 1)) - 1)]) mf_X11_175 (c_M_isIn F _ _ _ _) LYsame.rf dX11_isHearer_10 rfl rfl rfl rfl rfl rfl (Or.inl rfl) fun r1 σ2 => ?_
  exact a_zret dX11_isHearer_13
def f_M_isWay (F : Nat) (σ : St) (x1 : Int) : Option (Int × St) := gd (inb 0 82) (bnd (f_M_isIn F σ x1 0 ((gA σ 2 (Int.toNat 0)) - 1)) fun r1 σ2 => gd (isb r1) (some (r1, σ2)))
set_option maxRecDepth 100000 in
set_option maxHeartbeats 4000000 in
theorem c_M_isWay (F : Nat) (σ : St) (x1 : Int) : Ct 2 0 1 yX11_isWay cX11_isWay 2 (some .boolean) LYM LYM [.ref 0, vi x1] σ (f_M_isWay F σ x1) := by
  unfold f_M_isWay
  refine Ct_of (d := 2) (kp := 0) (kd := 1) (own := RX11) (nL := 2) (ret := (some .boolean)) (LY := LYM) (LYe := LYM) (L := [some (.ref 0), some (vi x1)]) rfl (by decide +kernel) rfl rfl mf_X11_270.2.2.2.1 rfl fun K => ?_
  refine a_iload_n dX11_isWay_0 rfl ?_
  refine a_iconst dX11_isWay_1 ?_
  refine a_aload_n dX11_isWay_2 rfl ?_
  refine a_getR (c0 := 2) fl_X11_33 lyM_0 rfl dX11_isWay_3 (key := 6) rfl ?_
  refine a_iconst dX11_isWay_6 ?_
  refine a_iald lyM_2 rfl dX11_isWay_7 ?_
  refine a_iconst dX11_isWay_8 ?_
  refine a_isub dX11_isWay_9 ?_
  refine a_callSi (as := [vi x1, vi 0, vi ((gA σ 2 (Int.toNat 0)) - 1)]) mf_X11_175 (c_M_isIn F _ _ _ _) LYsame.rf dX11_isWay_10 rfl rfl rfl rfl rfl rfl (Or.inl rfl) fun r1 σ2 => ?_
  exact a_zret dX11_isWay_13
def f_M_place (F : Nat) (σ : St) (x1 : Int) : Option (Int × St) := gd (inb (6 + (2 * x1)) 82) (bv (gA σ 2 (Int.toNat (6 + (2 * x1)))) fun t1 => some (t1, σ))
set_option maxRecDepth 100000 in
set_option maxHeartbeats 4000000 in
theorem c_M_place (F : Nat) (σ : St) (x1 : Int) : Ct 1 0 1 yX11_place cX11_place 2 (some .int) LYM LYM [.ref 0, vi x1] σ (f_M_place F σ x1) := by
  unfold f_M_place
  refine Ct_of (d := 1) (kp := 0) (kd := 1) (own := RX11) (nL := 2) (ret := (some .int)) (LY := LYM) (LYe := LYM) (L := [some (.ref 0), some (vi x1)]) rfl (by decide +kernel) rfl rfl mf_X11_276.2.2.2.1 rfl fun K => ?_
  refine a_aload_n dX11_place_0 rfl ?_
  refine a_getR (c0 := 2) fl_X11_33 lyM_0 rfl dX11_place_1 (key := 6) rfl ?_
  refine a_bipush dX11_place_4 bi_6 ?_
  refine a_iconst dX11_place_6 ?_
  refine a_iload_n dX11_place_7 rfl ?_
  refine a_imul dX11_place_8 ?_
  refine a_iadd dX11_place_9 ?_
  refine a_iald lyM_2 rfl dX11_place_10 ?_
  refine a_bvi fun t1 => ?_
  exact a_iret dX11_place_11
def f_M_gain (F : Nat) (σ : St) (x1 : Int) : Option (Int × St) := gd (inb ((6 + (2 * x1)) + 1) 82) (bv (gA σ 2 (Int.toNat ((6 + (2 * x1)) + 1))) fun t1 => some (t1, σ))
set_option maxRecDepth 100000 in
set_option maxHeartbeats 4000000 in
theorem c_M_gain (F : Nat) (σ : St) (x1 : Int) : Ct 1 0 1 yX11_gain cX11_gain 2 (some .int) LYM LYM [.ref 0, vi x1] σ (f_M_gain F σ x1) := by
  unfold f_M_gain
  refine Ct_of (d := 1) (kp := 0) (kd := 1) (own := RX11) (nL := 2) (ret := (some .int)) (LY := LYM) (LYe := LYM) (L := [some (.ref 0), some (vi x1)]) rfl (by decide +kernel) rfl rfl mf_X11_279.2.2.2.1 rfl fun K => ?_
  refine a_aload_n dX11_gain_0 rfl ?_
  refine a_getR (c0 := 2) fl_X11_33 lyM_0 rfl dX11_gain_1 (key := 6) rfl ?_
  refine a_bipush dX11_gain_4 bi_6 ?_
  refine a_iconst dX11_gain_6 ?_
  refine a_iload_n dX11_gain_7 rfl ?_
  refine a_imul dX11_gain_8 ?_
  refine a_iadd dX11_gain_9 ?_
  refine a_iconst dX11_gain_10 ?_
  refine a_iadd dX11_gain_11 ?_
  refine a_iald lyM_2 rfl dX11_gain_12 ?_
  refine a_bvi fun t1 => ?_
  exact a_iret dX11_gain_13
def f_M_wayOf (F : Nat) (σ : St) (x1 : Int) : Option (Int × St) := gd (inb (26 + (4 * x1)) 82) (bv (gA σ 2 (Int.toNat (26 + (4 * x1)))) fun t1 => gd (inb ((26 + (4 * x1)) + 2) 82) (bv (gA σ 2 (Int.toNat ((26 + (4 * x1)) + 2))) fun t2 => gd (inb 5 82) (bv (t1 + (t2 * (gA σ 2 (Int.toNat 5)))) fun t3 => gd (inb 0 82) (gd (rng t3 ∧ rng (gA σ 2 (Int.toNat 0)) ∧ (gA σ 2 (Int.toNat 0)) ≠ (0 : Int)) (bv (Int.tmod t3 (gA σ 2 (Int.toNat 0))) fun t4 => some (t4, σ))))))
set_option maxRecDepth 100000 in
set_option maxHeartbeats 4000000 in
theorem c_M_wayOf (F : Nat) (σ : St) (x1 : Int) : Ct 1 0 1 yX11_wayOf cX11_wayOf 2 (some .int) LYM LYM [.ref 0, vi x1] σ (f_M_wayOf F σ x1) := by
  unfold f_M_wayOf
  refine Ct_of (d := 1) (kp := 0) (kd := 1) (own := RX11) (nL := 2) (ret := (some .int)) (LY := LYM) (LYe := LYM) (L := [some (.ref 0), some (vi x1)]) rfl (by decide +kernel) rfl rfl mf_X11_267.2.2.2.1 rfl fun K => ?_
  refine a_aload_n dX11_wayOf_0 rfl ?_
  refine a_getR (c0 := 2) fl_X11_33 lyM_0 rfl dX11_wayOf_1 (key := 6) rfl ?_
  refine a_bipush dX11_wayOf_4 bi_26 ?_
  refine a_iconst dX11_wayOf_6 ?_
  refine a_iload_n dX11_wayOf_7 rfl ?_
  refine a_imul dX11_wayOf_8 ?_
  refine a_iadd dX11_wayOf_9 ?_
  refine a_iald lyM_2 rfl dX11_wayOf_10 ?_
  refine a_bvi fun t1 => ?_
  refine a_aload_n dX11_wayOf_11 rfl ?_
  refine a_getR (c0 := 2) fl_X11_33 lyM_0 rfl dX11_wayOf_12 (key := 6) rfl ?_
  refine a_bipush dX11_wayOf_15 bi_26 ?_
  refine a_iconst dX11_wayOf_17 ?_
  refine a_iload_n dX11_wayOf_18 rfl ?_
  refine a_imul dX11_wayOf_19 ?_
  refine a_iadd dX11_wayOf_20 ?_
  refine a_iconst dX11_wayOf_21 ?_
  refine a_iadd dX11_wayOf_22 ?_
  refine a_iald lyM_2 rfl dX11_wayOf_23 ?_
  refine a_bvi fun t2 => ?_
  refine a_aload_n dX11_wayOf_24 rfl ?_
  refine a_getR (c0 := 2) fl_X11_33 lyM_0 rfl dX11_wayOf_25 (key := 6) rfl ?_
  refine a_iconst dX11_wayOf_28 ?_
  refine a_iald lyM_2 rfl dX11_wayOf_29 ?_
  refine a_imul dX11_wayOf_30 ?_
  refine a_iadd dX11_wayOf_31 ?_
  refine a_bvi fun t3 => ?_
  refine a_aload_n dX11_wayOf_32 rfl ?_
  refine a_getR (c0 := 2) fl_X11_33 lyM_0 rfl dX11_wayOf_33 (key := 6) rfl ?_
  refine a_iconst dX11_wayOf_36 ?_
  refine a_iald lyM_2 rfl dX11_wayOf_37 ?_
  refine a_irem dX11_wayOf_38 (fun _ => ?_)
  refine a_bvi fun t4 => ?_
  exact a_iret dX11_wayOf_39
def f_M_hearer (F : Nat) (σ : St) (x1 x2 : Int) : Option (Int × St) := bnd (f_M_isHearer F σ x1) fun r1 σ2 => gd (rng r1) (if r1 = 0 then bnd (f_M_throwsIf F σ2 1) fun r3 σ4 => gd (rng r3) (if r3 = 0 then gd (inb ((6 + (2 * x1)) + x2) 82) (bv (gA σ4 2 (Int.toNat ((6 + (2 * x1)) + x2))) fun t5 => some (t5, σ4)) else some (0, σ4)) else bnd (f_M_isIn F σ2 x2 0 1) fun r6 σ7 => gd (rng r6) (if r6 = 0 then bnd (f_M_throwsIf F σ7 1) fun r11 σ12 => gd (rng r11) (if r11 = 0 then gd (inb ((6 + (2 * x1)) + x2) 82) (bv (gA σ12 2 (Int.toNat ((6 + (2 * x1)) + x2))) fun t13 => some (t13, σ12)) else some (0, σ12)) else bnd (f_M_throwsIf F σ7 0) fun r8 σ9 => gd (rng r8) (if r8 = 0 then gd (inb ((6 + (2 * x1)) + x2) 82) (bv (gA σ9 2 (Int.toNat ((6 + (2 * x1)) + x2))) fun t10 => some (t10, σ9)) else some (0, σ9))))
set_option maxRecDepth 100000 in
set_option maxHeartbeats 4000000 in
theorem c_M_hearer (F : Nat) (σ : St) (x1 x2 : Int) : Ct 3 0 1 yX11_hearer cX11_hearer 3 (some .int) LYM LYM [.ref 0, vi x1, vi x2] σ (f_M_hearer F σ x1 x2) := by
  unfold f_M_hearer
  refine Ct_of (d := 3) (kp := 0) (kd := 1) (own := RX11) (nL := 3) (ret := (some .int)) (LY := LYM) (LYe := LYM) (L := [some (.ref 0), some (vi x1), some (vi x2)]) rfl (by decide +kernel) rfl rfl mf_L_50.2.2.2.1 rfl fun K => ?_
  refine a_aload_n dX11_hearer_0 rfl ?_
  refine a_aload_n dX11_hearer_1 rfl ?_
  refine a_iload_n dX11_hearer_2 rfl ?_
  refine a_callVi (as := [vi x1]) mf_X11_261 lyM_0 rfl (c_M_isHearer F _ _) LYsame.rf dX11_hearer_3 rfl rfl rfl rfl rfl rfl (Or.inl rfl) fun r1 σ2 => ?_
  refine a_if_eq dX11_hearer_6 rfl (fun _ => ?_) (fun _ => ?_)
  · refine a_iconst dX11_hearer_18 ?_
    refine a_goto dX11_hearer_19 rfl ?_
    refine a_callVi (as := [vi 1]) mf_X11_264 lyM_0 rfl (c_M_throwsIf F _ _) LYsame.rf dX11_hearer_23 rfl rfl rfl rfl rfl rfl (Or.inl rfl) fun r3 σ4 => ?_
    refine a_if_eq dX11_hearer_26 rfl (fun _ => ?_) (fun _ => ?_)
    · refine a_aload_n dX11_hearer_33 rfl ?_
      refine a_getR (c0 := 2) fl_X11_33 lyM_0 rfl dX11_hearer_34 (key := 6) rfl ?_
      refine a_bipush dX11_hearer_37 bi_6 ?_
      refine a_iconst dX11_hearer_39 ?_
      refine a_iload_n dX11_hearer_40 rfl ?_
      refine a_imul dX11_hearer_41 ?_
      refine a_iadd dX11_hearer_42 ?_
      refine a_iload_n dX11_hearer_43 rfl ?_
      refine a_iadd dX11_hearer_44 ?_
      refine a_iald lyM_2 rfl dX11_hearer_45 ?_
      refine a_bvi fun t5 => ?_
      exact a_iret dX11_hearer_46
    refine a_iconst dX11_hearer_29 ?_
    refine a_goto dX11_hearer_30 rfl ?_
    exact a_iret dX11_hearer_46
  refine a_iload_n dX11_hearer_9 rfl ?_
  refine a_iconst dX11_hearer_10 ?_
  refine a_iconst dX11_hearer_11 ?_
  refine a_callSi (as := [vi x2, vi 0, vi 1]) mf_X11_175 (c_M_isIn F _ _ _ _) LYsame.rf dX11_hearer_12 rfl rfl rfl rfl rfl rfl (Or.inl rfl) fun r6 σ7 => ?_
  refine a_if_ne dX11_hearer_15 rfl (fun _ => ?_) (fun _ => ?_)
  · refine a_iconst dX11_hearer_22 ?_
    refine a_callVi (as := [vi 0]) mf_X11_264 lyM_0 rfl (c_M_throwsIf F _ _) LYsame.rf dX11_hearer_23 rfl rfl rfl rfl rfl rfl (Or.inl rfl) fun r8 σ9 => ?_
    refine a_if_eq dX11_hearer_26 rfl (fun _ => ?_) (fun _ => ?_)
    · refine a_aload_n dX11_hearer_33 rfl ?_
      refine a_getR (c0 := 2) fl_X11_33 lyM_0 rfl dX11_hearer_34 (key := 6) rfl ?_
      refine a_bipush dX11_hearer_37 bi_6 ?_
      refine a_iconst dX11_hearer_39 ?_
      refine a_iload_n dX11_hearer_40 rfl ?_
      refine a_imul dX11_hearer_41 ?_
      refine a_iadd dX11_hearer_42 ?_
      refine a_iload_n dX11_hearer_43 rfl ?_
      refine a_iadd dX11_hearer_44 ?_
      refine a_iald lyM_2 rfl dX11_hearer_45 ?_
      refine a_bvi fun t10 => ?_
      exact a_iret dX11_hearer_46
    refine a_iconst dX11_hearer_29 ?_
    refine a_goto dX11_hearer_30 rfl ?_
    exact a_iret dX11_hearer_46
  refine a_iconst dX11_hearer_18 ?_
  refine a_goto dX11_hearer_19 rfl ?_
  refine a_callVi (as := [vi 1]) mf_X11_264 lyM_0 rfl (c_M_throwsIf F _ _) LYsame.rf dX11_hearer_23 rfl rfl rfl rfl rfl rfl (Or.inl rfl) fun r11 σ12 => ?_
  refine a_if_eq dX11_hearer_26 rfl (fun _ => ?_) (fun _ => ?_)
  · refine a_aload_n dX11_hearer_33 rfl ?_
    refine a_getR (c0 := 2) fl_X11_33 lyM_0 rfl dX11_hearer_34 (key := 6) rfl ?_
    refine a_bipush dX11_hearer_37 bi_6 ?_
    refine a_iconst dX11_hearer_39 ?_
    refine a_iload_n dX11_hearer_40 rfl ?_
    refine a_imul dX11_hearer_41 ?_
    refine a_iadd dX11_hearer_42 ?_
    refine a_iload_n dX11_hearer_43 rfl ?_
    refine a_iadd dX11_hearer_44 ?_
    refine a_iald lyM_2 rfl dX11_hearer_45 ?_
    refine a_bvi fun t13 => ?_
    exact a_iret dX11_hearer_46
  refine a_iconst dX11_hearer_29 ?_
  refine a_goto dX11_hearer_30 rfl ?_
  exact a_iret dX11_hearer_46
def f_M_sender (F : Nat) (σ : St) (x1 x2 : Int) : Option (Int × St) := gd (inb 2 82) (bnd (f_M_isIn F σ x1 0 ((gA σ 2 (Int.toNat 2)) - 1)) fun r1 σ2 => gd (rng r1) (if r1 = 0 then bnd (f_M_throwsIf F σ2 1) fun r3 σ4 => gd (rng r3) (if r3 = 0 then gd (rng x2) (if x2 = 0 then bnd (f_M_wayOf F σ4 x1) fun r6 σ7 => some (r6, σ7) else gd (inb ((26 + (4 * x1)) + x2) 82) (bv (gA σ4 2 (Int.toNat ((26 + (4 * x1)) + x2))) fun t5 => some (t5, σ4))) else some (0, σ4)) else bnd (f_M_isIn F σ2 x2 0 3) fun r8 σ9 => gd (rng r8) (if r8 = 0 then bnd (f_M_throwsIf F σ9 1) fun r15 σ16 => gd (rng r15) (if r15 = 0 then gd (rng x2) (if x2 = 0 then bnd (f_M_wayOf F σ16 x1) fun r18 σ19 => some (r18, σ19) else gd (inb ((26 + (4 * x1)) + x2) 82) (bv (gA σ16 2 (Int.toNat ((26 + (4 * x1)) + x2))) fun t17 => some (t17, σ16))) else some (0, σ16)) else bnd (f_M_throwsIf F σ9 0) fun r10 σ11 => gd (rng r10) (if r10 = 0 then gd (rng x2) (if x2 = 0 then bnd (f_M_wayOf F σ11 x1) fun r13 σ14 => some (r13, σ14) else gd (inb ((26 + (4 * x1)) + x2) 82) (bv (gA σ11 2 (Int.toNat ((26 + (4 * x1)) + x2))) fun t12 => some (t12, σ11))) else some (0, σ11)))))
set_option maxRecDepth 100000 in
set_option maxHeartbeats 4000000 in
theorem c_M_sender (F : Nat) (σ : St) (x1 x2 : Int) : Ct 2 0 1 yX11_sender cX11_sender 3 (some .int) LYM LYM [.ref 0, vi x1, vi x2] σ (f_M_sender F σ x1 x2) := by
  unfold f_M_sender
  refine Ct_of (d := 2) (kp := 0) (kd := 1) (own := RX11) (nL := 3) (ret := (some .int)) (LY := LYM) (LYe := LYM) (L := [some (.ref 0), some (vi x1), some (vi x2)]) rfl (by decide +kernel) rfl rfl mf_L_56.2.2.2.1 rfl fun K => ?_
  refine a_aload_n dX11_sender_0 rfl ?_
  refine a_iload_n dX11_sender_1 rfl ?_
  refine a_iconst dX11_sender_2 ?_
  refine a_aload_n dX11_sender_3 rfl ?_
  refine a_getR (c0 := 2) fl_X11_33 lyM_0 rfl dX11_sender_4 (key := 6) rfl ?_
  refine a_iconst dX11_sender_7 ?_
  refine a_iald lyM_2 rfl dX11_sender_8 ?_
  refine a_iconst dX11_sender_9 ?_
  refine a_isub dX11_sender_10 ?_
  refine a_callSi (as := [vi x1, vi 0, vi ((gA σ 2 (Int.toNat 2)) - 1)]) mf_X11_175 (c_M_isIn F _ _ _ _) LYsame.rf dX11_sender_11 rfl rfl rfl rfl rfl rfl (Or.inl rfl) fun r1 σ2 => ?_
  refine a_if_eq dX11_sender_14 rfl (fun _ => ?_) (fun _ => ?_)
  · refine a_iconst dX11_sender_26 ?_
    refine a_goto dX11_sender_27 rfl ?_
    refine a_callVi (as := [vi 1]) mf_X11_264 lyM_0 rfl (c_M_throwsIf F _ _) LYsame.rf dX11_sender_31 rfl rfl rfl rfl rfl rfl (Or.inl rfl) fun r3 σ4 => ?_
    refine a_if_eq dX11_sender_34 rfl (fun _ => ?_) (fun _ => ?_)
    · refine a_iload_n dX11_sender_39 rfl ?_
      refine a_if_ne dX11_sender_40 rfl (fun _ => ?_) (fun _ => ?_)
      · refine a_aload_n dX11_sender_51 rfl ?_
        refine a_getR (c0 := 2) fl_X11_33 lyM_0 rfl dX11_sender_52 (key := 6) rfl ?_
        refine a_bipush dX11_sender_55 bi_26 ?_
        refine a_iconst dX11_sender_57 ?_
        refine a_iload_n dX11_sender_58 rfl ?_
        refine a_imul dX11_sender_59 ?_
        refine a_iadd dX11_sender_60 ?_
        refine a_iload_n dX11_sender_61 rfl ?_
        refine a_iadd dX11_sender_62 ?_
        refine a_iald lyM_2 rfl dX11_sender_63 ?_
        refine a_bvi fun t5 => ?_
        exact a_iret dX11_sender_64
      refine a_aload_n dX11_sender_43 rfl ?_
      refine a_iload_n dX11_sender_44 rfl ?_
      refine a_callVi (as := [vi x1]) mf_X11_267 lyM_0 rfl (c_M_wayOf F _ _) LYsame.rf dX11_sender_45 rfl rfl rfl rfl rfl rfl (Or.inl rfl) fun r6 σ7 => ?_
      refine a_goto dX11_sender_48 rfl ?_
      exact a_iret dX11_sender_64
    refine a_iconst dX11_sender_37 ?_
    exact a_iret dX11_sender_38
  refine a_iload_n dX11_sender_17 rfl ?_
  refine a_iconst dX11_sender_18 ?_
  refine a_iconst dX11_sender_19 ?_
  refine a_callSi (as := [vi x2, vi 0, vi 3]) mf_X11_175 (c_M_isIn F _ _ _ _) LYsame.rf dX11_sender_20 rfl rfl rfl rfl rfl rfl (Or.inl rfl) fun r8 σ9 => ?_
  refine a_if_ne dX11_sender_23 rfl (fun _ => ?_) (fun _ => ?_)
  · refine a_iconst dX11_sender_30 ?_
    refine a_callVi (as := [vi 0]) mf_X11_264 lyM_0 rfl (c_M_throwsIf F _ _) LYsame.rf dX11_sender_31 rfl rfl rfl rfl rfl rfl (Or.inl rfl) fun r10 σ11 => ?_
    refine a_if_eq dX11_sender_34 rfl (fun _ => ?_) (fun _ => ?_)
    · refine a_iload_n dX11_sender_39 rfl ?_
      refine a_if_ne dX11_sender_40 rfl (fun _ => ?_) (fun _ => ?_)
      · refine a_aload_n dX11_sender_51 rfl ?_
        refine a_getR (c0 := 2) fl_X11_33 lyM_0 rfl dX11_sender_52 (key := 6) rfl ?_
        refine a_bipush dX11_sender_55 bi_26 ?_
        refine a_iconst dX11_sender_57 ?_
        refine a_iload_n dX11_sender_58 rfl ?_
        refine a_imul dX11_sender_59 ?_
        refine a_iadd dX11_sender_60 ?_
        refine a_iload_n dX11_sender_61 rfl ?_
        refine a_iadd dX11_sender_62 ?_
        refine a_iald lyM_2 rfl dX11_sender_63 ?_
        refine a_bvi fun t12 => ?_
        exact a_iret dX11_sender_64
      refine a_aload_n dX11_sender_43 rfl ?_
      refine a_iload_n dX11_sender_44 rfl ?_
      refine a_callVi (as := [vi x1]) mf_X11_267 lyM_0 rfl (c_M_wayOf F _ _) LYsame.rf dX11_sender_45 rfl rfl rfl rfl rfl rfl (Or.inl rfl) fun r13 σ14 => ?_
      refine a_goto dX11_sender_48 rfl ?_
      exact a_iret dX11_sender_64
    refine a_iconst dX11_sender_37 ?_
    exact a_iret dX11_sender_38
  refine a_iconst dX11_sender_26 ?_
  refine a_goto dX11_sender_27 rfl ?_
  refine a_callVi (as := [vi 1]) mf_X11_264 lyM_0 rfl (c_M_throwsIf F _ _) LYsame.rf dX11_sender_31 rfl rfl rfl rfl rfl rfl (Or.inl rfl) fun r15 σ16 => ?_
  refine a_if_eq dX11_sender_34 rfl (fun _ => ?_) (fun _ => ?_)
  · refine a_iload_n dX11_sender_39 rfl ?_
    refine a_if_ne dX11_sender_40 rfl (fun _ => ?_) (fun _ => ?_)
    · refine a_aload_n dX11_sender_51 rfl ?_
      refine a_getR (c0 := 2) fl_X11_33 lyM_0 rfl dX11_sender_52 (key := 6) rfl ?_
      refine a_bipush dX11_sender_55 bi_26 ?_
      refine a_iconst dX11_sender_57 ?_
      refine a_iload_n dX11_sender_58 rfl ?_
      refine a_imul dX11_sender_59 ?_
      refine a_iadd dX11_sender_60 ?_
      refine a_iload_n dX11_sender_61 rfl ?_
      refine a_iadd dX11_sender_62 ?_
      refine a_iald lyM_2 rfl dX11_sender_63 ?_
      refine a_bvi fun t17 => ?_
      exact a_iret dX11_sender_64
    refine a_aload_n dX11_sender_43 rfl ?_
    refine a_iload_n dX11_sender_44 rfl ?_
    refine a_callVi (as := [vi x1]) mf_X11_267 lyM_0 rfl (c_M_wayOf F _ _) LYsame.rf dX11_sender_45 rfl rfl rfl rfl rfl rfl (Or.inl rfl) fun r18 σ19 => ?_
    refine a_goto dX11_sender_48 rfl ?_
    exact a_iret dX11_sender_64
  refine a_iconst dX11_sender_37 ?_
  exact a_iret dX11_sender_38
def f_M_moment (F : Nat) (σ : St) (x1 : Int) : Option (Int × St) := bs (sF σ 0 0) fun σ1 => bnd (f_M_isIn F σ1 x1 0 999) fun r2 σ3 => gd (rng r2) (if r2 = 0 then some (0, σ3) else gd (inb 5 82) (bs (sA σ3 2 (Int.toNat 5) x1) fun σ4 => some (1, σ4)))
set_option maxRecDepth 100000 in
set_option maxHeartbeats 4000000 in
theorem c_M_moment (F : Nat) (σ : St) (x1 : Int) : Ct 2 0 1 yX11_moment cX11_moment 2 (some .boolean) LYM LYM [.ref 0, vi x1] σ (f_M_moment F σ x1) := by
  unfold f_M_moment
  refine Ct_of (d := 2) (kp := 0) (kd := 1) (own := RX11) (nL := 2) (ret := (some .boolean)) (LY := LYM) (LYe := LYM) (L := [some (.ref 0), some (vi x1)]) rfl (by decide +kernel) rfl rfl mf_L_60.2.2.2.1 rfl fun K => ?_
  refine a_aload_n dX11_moment_0 rfl ?_
  refine a_iconst dX11_moment_1 ?_
  refine a_putI fl_X11_1 cf_X11 rfl rfl lyM_0 rfl dX11_moment_2 (key := 0) rfl fun σ1 => ?_
  refine a_iload_n dX11_moment_5 rfl ?_
  refine a_iconst dX11_moment_6 ?_
  refine a_sipush dX11_moment_7 si_999 ?_
  refine a_callSi (as := [vi x1, vi 0, vi 999]) mf_X11_175 (c_M_isIn F _ _ _ _) LYsame.rf dX11_moment_10 rfl rfl rfl rfl rfl rfl (Or.inl rfl) fun r2 σ3 => ?_
  refine a_if_ne dX11_moment_13 rfl (fun _ => ?_) (fun _ => ?_)
  · refine a_aload_n dX11_moment_18 rfl ?_
    refine a_getR (c0 := 2) fl_X11_33 lyM_0 rfl dX11_moment_19 (key := 6) rfl ?_
    refine a_iconst dX11_moment_22 ?_
    refine a_iload_n dX11_moment_23 rfl ?_
    refine a_iast lyM_2 rfl dX11_moment_24 fun σ4 => ?_
    refine a_iconst dX11_moment_25 ?_
    exact a_zretc (by decide) dX11_moment_26
  refine a_iconst dX11_moment_16 ?_
  exact a_zretc (by decide) dX11_moment_17
def f_M_wave (F : Nat) (σ : St) (x1 x2 : Int) : Option (Int × St) := bs (sF σ 0 0) fun σ1 => bnd (f_M_isWay F σ1 x1) fun r2 σ3 => gd (rng r2) (if r2 = 0 then some ((-1), σ3) else bnd (f_M_isIn F σ3 x2 0 99) fun r4 σ5 => gd (rng r4) (if r4 = 0 then some ((-1), σ5) else bnd (f_M_waveOf F σ5 x1 x2) fun r6 σ7 => some (r6, σ7)))
set_option maxRecDepth 100000 in
set_option maxHeartbeats 4000000 in
theorem c_M_wave (F : Nat) (σ : St) (x1 x2 : Int) : Ct 3 0 1 yX11_wave cX11_wave 3 (some .int) LYM LYM [.ref 0, vi x1, vi x2] σ (f_M_wave F σ x1 x2) := by
  unfold f_M_wave
  refine Ct_of (d := 3) (kp := 0) (kd := 1) (own := RX11) (nL := 3) (ret := (some .int)) (LY := LYM) (LYe := LYM) (L := [some (.ref 0), some (vi x1), some (vi x2)]) rfl (by decide +kernel) rfl rfl mf_L_64.2.2.2.1 rfl fun K => ?_
  refine a_aload_n dX11_wave_0 rfl ?_
  refine a_iconst dX11_wave_1 ?_
  refine a_putI fl_X11_1 cf_X11 rfl rfl lyM_0 rfl dX11_wave_2 (key := 0) rfl fun σ1 => ?_
  refine a_aload_n dX11_wave_5 rfl ?_
  refine a_iload_n dX11_wave_6 rfl ?_
  refine a_callVi (as := [vi x1]) mf_X11_270 lyM_0 rfl (c_M_isWay F _ _) LYsame.rf dX11_wave_7 rfl rfl rfl rfl rfl rfl (Or.inl rfl) fun r2 σ3 => ?_
  refine a_if_eq dX11_wave_10 rfl (fun _ => ?_) (fun _ => ?_)
  · refine a_iconst dX11_wave_32 ?_
    exact a_iret dX11_wave_33
  refine a_iload_n dX11_wave_13 rfl ?_
  refine a_iconst dX11_wave_14 ?_
  refine a_bipush dX11_wave_15 bi_99 ?_
  refine a_callSi (as := [vi x2, vi 0, vi 99]) mf_X11_175 (c_M_isIn F _ _ _ _) LYsame.rf dX11_wave_17 rfl rfl rfl rfl rfl rfl (Or.inl rfl) fun r4 σ5 => ?_
  refine a_if_eq dX11_wave_20 rfl (fun _ => ?_) (fun _ => ?_)
  · refine a_iconst dX11_wave_32 ?_
    exact a_iret dX11_wave_33
  refine a_aload_n dX11_wave_23 rfl ?_
  refine a_iload_n dX11_wave_24 rfl ?_
  refine a_iload_n dX11_wave_25 rfl ?_
  refine a_callVi (as := [vi x1, vi x2]) mf_X11_273 lyM_0 rfl (c_M_waveOf F _ _ _) LYsame.rf dX11_wave_26 rfl rfl rfl rfl rfl rfl (Or.inl rfl) fun r6 σ7 => ?_
  refine a_goto dX11_wave_29 rfl ?_
  exact a_iret dX11_wave_33
def b_M_readingOf_4 (F : Nat) (self : St → Int → Int → Int → Option (Int × St)) (σ : St) (x1 x2 x3 : Int) : Option (Int × St) := gd (inb 2 82) (gd (rng x3 ∧ rng (gA σ 2 (Int.toNat 2))) (if (gA σ 2 (Int.toNat 2)) ≤ x3 then bnd (f_M_gain F σ x1) fun r1 σ2 => gd (rng (x2 * r1) ∧ rng (gF σ2 20) ∧ (gF σ2 20) ≠ (0 : Int)) (bv (Int.tmod (x2 * r1) (gF σ2 20)) fun t3 => some (t3, σ2)) else gd (inb ((26 + (4 * x3)) + 1) 82) (bv (gA σ 2 (Int.toNat ((26 + (4 * x3)) + 1))) fun t4 => bnd (f_M_wayOf F σ x3) fun r5 σ6 => bnd (f_M_place F σ6 x1) fun r7 σ8 => bnd (f_M_waveOf F σ8 r5 r7) fun r9 σ10 => gd (rng (x2 + (t4 * r9)) ∧ rng (gF σ10 20) ∧ (gF σ10 20) ≠ (0 : Int)) (bv (Int.tmod (x2 + (t4 * r9)) (gF σ10 20)) fun t11 => bv (x3 + 1) fun x3_12 => self σ10 x1 t11 x3_12))))
def l_M_readingOf_4 (F : Nat) : Nat → St → Int → Int → Int → Option (Int × St)
  | 0 => fun _ _ _ _ => none
  | n + 1 => fun σ x1 x2 x3 => b_M_readingOf_4 F (l_M_readingOf_4 F n) σ x1 x2 x3
def f_M_readingOf (F : Nat) (σ : St) (x1 : Int) : Option (Int × St) := l_M_readingOf_4 F F σ x1 0 0
set_option maxRecDepth 100000 in
set_option maxHeartbeats 4000000 in
theorem cb_M_readingOf_4 {K : KX} (F : Nat) (self : St → Int → Int → Int → Option (Int × St)) (hself : ∀ σ x1 x2 x3, WA 2 0 1 cX11_readingOf RX11 4 (some .int) LYM LYM K 4 [some (.ref 0), some (vi x1), some (vi x2), some (vi x3)] [] σ (self σ x1 x2 x3)) (σ : St) (x1 x2 x3 : Int) : WA 2 0 1 cX11_readingOf RX11 4 (some .int) LYM LYM K 4 [some (.ref 0), some (vi x1), some (vi x2), some (vi x3)] [] σ (b_M_readingOf_4 F self σ x1 x2 x3) := by
  unfold b_M_readingOf_4
  refine a_iload_n dX11_readingOf_4 rfl ?_
  refine a_aload_n dX11_readingOf_5 rfl ?_
  refine a_getR (c0 := 2) fl_X11_33 lyM_0 rfl dX11_readingOf_6 (key := 6) rfl ?_
  refine a_iconst dX11_readingOf_9 ?_
  refine a_iald lyM_2 rfl dX11_readingOf_10 ?_
  refine a_icmp_ge dX11_readingOf_11 rfl (fun _ => ?_) (fun _ => ?_)
  · refine a_iload_n dX11_readingOf_56 rfl ?_
    refine a_aload_n dX11_readingOf_57 rfl ?_
    refine a_iload_n dX11_readingOf_58 rfl ?_
    refine a_callVi (as := [vi x1]) mf_X11_279 lyM_0 rfl (c_M_gain F _ _) LYsame.rf dX11_readingOf_59 rfl rfl rfl rfl rfl rfl (Or.inl rfl) fun r1 σ2 => ?_
    refine a_imul dX11_readingOf_62 ?_
    refine a_aload_n dX11_readingOf_63 rfl ?_
    refine a_getI fl_X11_230 lyM_0 rfl dX11_readingOf_64 (key := 20) rfl ?_
    refine a_irem dX11_readingOf_67 (fun _ => ?_)
    refine a_bvi fun t3 => ?_
    exact a_iret dX11_readingOf_68
  refine a_iload_n dX11_readingOf_14 rfl ?_
  refine a_aload_n dX11_readingOf_15 rfl ?_
  refine a_getR (c0 := 2) fl_X11_33 lyM_0 rfl dX11_readingOf_16 (key := 6) rfl ?_
  refine a_bipush dX11_readingOf_19 bi_26 ?_
  refine a_iconst dX11_readingOf_21 ?_
  refine a_iload_n dX11_readingOf_22 rfl ?_
  refine a_imul dX11_readingOf_23 ?_
  refine a_iadd dX11_readingOf_24 ?_
  refine a_iconst dX11_readingOf_25 ?_
  refine a_iadd dX11_readingOf_26 ?_
  refine a_iald lyM_2 rfl dX11_readingOf_27 ?_
  refine a_bvi fun t4 => ?_
  refine a_aload_n dX11_readingOf_28 rfl ?_
  refine a_aload_n dX11_readingOf_29 rfl ?_
  refine a_iload_n dX11_readingOf_30 rfl ?_
  refine a_callVi (as := [vi x3]) mf_X11_267 lyM_0 rfl (c_M_wayOf F _ _) LYsame.rf dX11_readingOf_31 rfl rfl rfl rfl rfl rfl (Or.inl rfl) fun r5 σ6 => ?_
  refine a_aload_n dX11_readingOf_34 rfl ?_
  refine a_iload_n dX11_readingOf_35 rfl ?_
  refine a_callVi (as := [vi x1]) mf_X11_276 lyM_0 rfl (c_M_place F _ _) LYsame.rf dX11_readingOf_36 rfl rfl rfl rfl rfl rfl (Or.inl rfl) fun r7 σ8 => ?_
  refine a_callVi (as := [vi r5, vi r7]) mf_X11_273 lyM_0 rfl (c_M_waveOf F _ _ _) LYsame.rf dX11_readingOf_39 rfl rfl rfl rfl rfl rfl (Or.inl rfl) fun r9 σ10 => ?_
  refine a_imul dX11_readingOf_42 ?_
  refine a_iadd dX11_readingOf_43 ?_
  refine a_aload_n dX11_readingOf_44 rfl ?_
  refine a_getI fl_X11_230 lyM_0 rfl dX11_readingOf_45 (key := 20) rfl ?_
  refine a_irem dX11_readingOf_48 (fun _ => ?_)
  refine a_bvi fun t11 => ?_
  refine a_istore_n (L' := [some (.ref 0), some (vi x1), some (vi t11), some (vi x3)]) dX11_readingOf_49 rfl rfl rfl rfl ?_
  refine a_bv fun x3_12 ex3_12 => ?_
  refine a_iinc (y := x3_12) (L' := [some (.ref 0), some (vi x1), some (vi t11), some (vi x3_12)]) dX11_readingOf_50 rfl ex3_12 rfl rfl rfl ?_
  refine a_goto dX11_readingOf_53 rfl ?_
  exact hself _ _ _ _
set_option maxRecDepth 100000 in
set_option maxHeartbeats 4000000 in
theorem cl_M_readingOf_4 {K : KX} (F : Nat) : ∀ (n : Nat) (σ : St) (x1 x2 x3 : Int), WA 2 0 1 cX11_readingOf RX11 4 (some .int) LYM LYM K 4 [some (.ref 0), some (vi x1), some (vi x2), some (vi x3)] [] σ (l_M_readingOf_4 F n σ x1 x2 x3)
  | 0, _, _, _, _ => a_none
  | n + 1, σ, x1, x2, x3 => cb_M_readingOf_4 F _ (cl_M_readingOf_4 F n) σ x1 x2 x3
set_option maxRecDepth 100000 in
set_option maxHeartbeats 4000000 in
theorem c_M_readingOf (F : Nat) (σ : St) (x1 : Int) : Ct 2 0 1 yX11_readingOf cX11_readingOf 4 (some .int) LYM LYM [.ref 0, vi x1] σ (f_M_readingOf F σ x1) := by
  unfold f_M_readingOf
  refine Ct_of (d := 2) (kp := 0) (kd := 1) (own := RX11) (nL := 4) (ret := (some .int)) (LY := LYM) (LYe := LYM) (L := [some (.ref 0), some (vi x1), none, none]) rfl (by decide +kernel) rfl rfl mf_X11_282.2.2.2.1 rfl fun K => ?_
  refine a_iconst dX11_readingOf_0 ?_
  refine a_istore_n (L' := [some (.ref 0), some (vi x1), some (vi 0), none]) dX11_readingOf_1 rfl rfl rfl rfl ?_
  refine a_iconst dX11_readingOf_2 ?_
  refine a_istore_n (L' := [some (.ref 0), some (vi x1), some (vi 0), some (vi 0)]) dX11_readingOf_3 rfl rfl rfl rfl ?_
  exact cl_M_readingOf_4 F F _ _ _ _
def f_M_reading (F : Nat) (σ : St) (x1 : Int) : Option (Int × St) := bs (sF σ 0 0) fun σ1 => bnd (f_M_isHearer F σ1 x1) fun r2 σ3 => gd (rng r2) (if r2 = 0 then some ((-1), σ3) else bnd (f_M_readingOf F σ3 x1) fun r4 σ5 => some (r4, σ5))
set_option maxRecDepth 100000 in
set_option maxHeartbeats 4000000 in
theorem c_M_reading (F : Nat) (σ : St) (x1 : Int) : Ct 3 0 1 yX11_reading cX11_reading 2 (some .int) LYM LYM [.ref 0, vi x1] σ (f_M_reading F σ x1) := by
  unfold f_M_reading
  refine Ct_of (d := 3) (kp := 0) (kd := 1) (own := RX11) (nL := 2) (ret := (some .int)) (LY := LYM) (LYe := LYM) (L := [some (.ref 0), some (vi x1)]) rfl (by decide +kernel) rfl rfl mf_L_69.2.2.2.1 rfl fun K => ?_
  refine a_aload_n dX11_reading_0 rfl ?_
  refine a_iconst dX11_reading_1 ?_
  refine a_putI fl_X11_1 cf_X11 rfl rfl lyM_0 rfl dX11_reading_2 (key := 0) rfl fun σ1 => ?_
  refine a_aload_n dX11_reading_5 rfl ?_
  refine a_iload_n dX11_reading_6 rfl ?_
  refine a_callVi (as := [vi x1]) mf_X11_261 lyM_0 rfl (c_M_isHearer F _ _) LYsame.rf dX11_reading_7 rfl rfl rfl rfl rfl rfl (Or.inl rfl) fun r2 σ3 => ?_
  refine a_if_eq dX11_reading_10 rfl (fun _ => ?_) (fun _ => ?_)
  · refine a_iconst dX11_reading_21 ?_
    exact a_iret dX11_reading_22
  refine a_aload_n dX11_reading_13 rfl ?_
  refine a_iload_n dX11_reading_14 rfl ?_
  refine a_callVi (as := [vi x1]) mf_X11_282 lyM_0 rfl (c_M_readingOf F _ _) LYsame.rf dX11_reading_15 rfl rfl rfl rfl rfl rfl (Or.inl rfl) fun r4 σ5 => ?_
  refine a_goto dX11_reading_18 rfl ?_
  exact a_iret dX11_reading_22
def b_M_coverOf_48 (F : Nat) (k5 : St → Int → Int → Int → Int → Option (Int × St)) (self : St → Int → Int → Int → Int → Int → Int → Int → Option (Int × St)) (σ : St) (x1 x2 x3 x4 x5 x6 x7 : Int) : Option (Int × St) := gd (inb 2 82) (gd (rng x7 ∧ rng (gA σ 2 (Int.toNat 2))) (if (gA σ 2 (Int.toNat 2)) ≤ x7 then gd (rng (x3 + (x5 * x6)) ∧ rng (gF σ 20) ∧ (gF σ 20) ≠ (0 : Int)) (bv (Int.tmod (x3 + (x5 * x6)) (gF σ 20)) fun t8 => bv (x4 + 1) fun x4_9 => k5 σ x1 x2 t8 x4_9) else gd (inb ((26 + (4 * x7)) + 3) 82) (bv (gA σ 2 (Int.toNat ((26 + (4 * x7)) + 3))) fun t10 => gd (rng t10 ∧ rng x4) (if t10 = x4 then bnd (f_M_wayOf F σ x7) fun r11 σ12 => gd (inb ((26 + (4 * x7)) + 1) 82) (bv (gA σ12 2 (Int.toNat ((26 + (4 * x7)) + 1))) fun t13 => bnd (f_M_place F σ12 x1) fun r14 σ15 => bnd (f_M_waveOf F σ15 r11 r14) fun r16 σ17 => gd (rng (x5 + (t13 * r16)) ∧ rng (gF σ17 20) ∧ (gF σ17 20) ≠ (0 : Int)) (bv (Int.tmod (x5 + (t13 * r16)) (gF σ17 20)) fun t18 => gd (inb ((26 + (4 * x7)) + 1) 82) (bv (gA σ17 2 (Int.toNat ((26 + (4 * x7)) + 1))) fun t19 => gd (inb 0 82) (bv ((gA σ17 2 (Int.toNat 0)) - r11) fun t20 => bnd (f_M_place F σ17 x2) fun r21 σ22 => bnd (f_M_waveOf F σ22 t20 r21) fun r23 σ24 => gd (rng (x6 + (t19 * r23)) ∧ rng (gF σ24 20) ∧ (gF σ24 20) ≠ (0 : Int)) (bv (Int.tmod (x6 + (t19 * r23)) (gF σ24 20)) fun t25 => bv (x7 + 1) fun x7_26 => self σ24 x1 x2 x3 x4 t18 t25 x7_26))))) else bv (x7 + 1) fun x7_27 => self σ x1 x2 x3 x4 x5 x6 x7_27))))
def l_M_coverOf_48 (F : Nat) (k5 : St → Int → Int → Int → Int → Option (Int × St)) : Nat → St → Int → Int → Int → Int → Int → Int → Int → Option (Int × St)
  | 0 => fun _ _ _ _ _ _ _ _ => none
  | n + 1 => fun σ x1 x2 x3 x4 x5 x6 x7 => b_M_coverOf_48 F k5 (l_M_coverOf_48 F k5 n) σ x1 x2 x3 x4 x5 x6 x7
def b_M_coverOf_5 (F : Nat) (self : St → Int → Int → Int → Int → Option (Int × St)) (σ : St) (x1 x2 x3 x4 : Int) : Option (Int × St) := gd (inb 2 82) (gd (rng x4 ∧ rng (gA σ 2 (Int.toNat 2))) (if (gA σ 2 (Int.toNat 2)) ≤ x4 then bnd (f_M_gain F σ x1) fun r1 σ2 => gd (rng (x3 * r1) ∧ rng (gF σ2 20) ∧ (gF σ2 20) ≠ (0 : Int)) (bv (Int.tmod (x3 * r1) (gF σ2 20)) fun t3 => bnd (f_M_gain F σ2 x2) fun r4 σ5 => gd (rng (t3 * r4) ∧ rng (gF σ5 20) ∧ (gF σ5 20) ≠ (0 : Int)) (bv (Int.tmod (t3 * r4) (gF σ5 20)) fun t6 => some (t6, σ5))) else gd (inb ((26 + (4 * x4)) + 3) 82) (bv (gA σ 2 (Int.toNat ((26 + (4 * x4)) + 3))) fun t7 => gd (rng t7 ∧ rng x4) (if t7 = x4 then l_M_coverOf_48 F self F σ x1 x2 x3 x4 0 0 x4 else bv (x4 + 1) fun x4_28 => self σ x1 x2 x3 x4_28))))
def l_M_coverOf_5 (F : Nat) : Nat → St → Int → Int → Int → Int → Option (Int × St)
  | 0 => fun _ _ _ _ _ => none
  | n + 1 => fun σ x1 x2 x3 x4 => b_M_coverOf_5 F (l_M_coverOf_5 F n) σ x1 x2 x3 x4
def f_M_coverOf (F : Nat) (σ : St) (x1 x2 : Int) : Option (Int × St) := l_M_coverOf_5 F F σ x1 x2 0 0
set_option maxRecDepth 100000 in
set_option maxHeartbeats 4000000 in
theorem cb_M_coverOf_48 {K : KX} (F : Nat) (k5 : St → Int → Int → Int → Int → Option (Int × St)) (h5 : ∀ σ x1 x2 x3 x4, WA 2 0 1 cX11_coverOf RX11 9 (some .int) LYM LYM K 5 [some (.ref 0), some (vi x1), some (vi x2), some (vi x3), some (vi x4), none, none, none, none] [] σ (k5 σ x1 x2 x3 x4)) (self : St → Int → Int → Int → Int → Int → Int → Int → Option (Int × St)) (hself : ∀ σ x1 x2 x3 x4 x5 x6 x7, WA 2 0 1 cX11_coverOf RX11 9 (some .int) LYM LYM K 48 [some (.ref 0), some (vi x1), some (vi x2), some (vi x3), some (vi x4), some (vi x5), some (vi x6), some (vi x7), none] [] σ (self σ x1 x2 x3 x4 x5 x6 x7)) (σ : St) (x1 x2 x3 x4 x5 x6 x7 : Int) : WA 2 0 1 cX11_coverOf RX11 9 (some .int) LYM LYM K 48 [some (.ref 0), some (vi x1), some (vi x2), some (vi x3), some (vi x4), some (vi x5), some (vi x6), some (vi x7), none] [] σ (b_M_coverOf_48 F k5 self σ x1 x2 x3 x4 x5 x6 x7) := by
  unfold b_M_coverOf_48
  refine a_iload dX11_coverOf_48 rfl ?_
  refine a_aload_n dX11_coverOf_50 rfl ?_
  refine a_getR (c0 := 2) fl_X11_33 lyM_0 rfl dX11_coverOf_51 (key := 6) rfl ?_
  refine a_iconst dX11_coverOf_54 ?_
  refine a_iald lyM_2 rfl dX11_coverOf_55 ?_
  refine a_icmp_ge dX11_coverOf_56 rfl (fun _ => ?_) (fun _ => ?_)
  · refine a_iload_n dX11_coverOf_174 rfl ?_
    refine a_iload dX11_coverOf_175 rfl ?_
    refine a_iload dX11_coverOf_177 rfl ?_
    refine a_imul dX11_coverOf_179 ?_
    refine a_iadd dX11_coverOf_180 ?_
    refine a_aload_n dX11_coverOf_181 rfl ?_
    refine a_getI fl_X11_230 lyM_0 rfl dX11_coverOf_182 (key := 20) rfl ?_
    refine a_irem dX11_coverOf_185 (fun _ => ?_)
    refine a_bvi fun t8 => ?_
    refine a_istore_n (L' := [some (.ref 0), some (vi x1), some (vi x2), some (vi t8), some (vi x4), some (vi x5), some (vi x6), some (vi x7), none]) dX11_coverOf_186 rfl rfl rfl rfl ?_
    refine a_bv fun x4_9 ex4_9 => ?_
    refine a_iinc (y := x4_9) (L' := [some (.ref 0), some (vi x1), some (vi x2), some (vi t8), some (vi x4_9), some (vi x5), some (vi x6), some (vi x7), none]) dX11_coverOf_187 rfl ex4_9 rfl rfl rfl ?_
    refine a_goto dX11_coverOf_190 rfl ?_
    exact a_L (lsub_get (A := [some (.ref 0), some (vi x1), some (vi x2), some (vi t8), some (vi x4_9), none, none, none, none]) ⟨rfl, ⟨rfl, ⟨rfl, ⟨rfl, ⟨rfl, trivial⟩⟩⟩⟩⟩) (h5 _ _ _ _ _)
  refine a_aload_n dX11_coverOf_59 rfl ?_
  refine a_getR (c0 := 2) fl_X11_33 lyM_0 rfl dX11_coverOf_60 (key := 6) rfl ?_
  refine a_bipush dX11_coverOf_63 bi_26 ?_
  refine a_iconst dX11_coverOf_65 ?_
  refine a_iload dX11_coverOf_66 rfl ?_
  refine a_imul dX11_coverOf_68 ?_
  refine a_iadd dX11_coverOf_69 ?_
  refine a_iconst dX11_coverOf_70 ?_
  refine a_iadd dX11_coverOf_71 ?_
  refine a_iald lyM_2 rfl dX11_coverOf_72 ?_
  refine a_bvi fun t10 => ?_
  refine a_iload dX11_coverOf_73 rfl ?_
  refine a_icmp_eq dX11_coverOf_75 rfl (fun _ => ?_) (fun _ => ?_)
  · refine a_aload_n dX11_coverOf_81 rfl ?_
    refine a_iload dX11_coverOf_82 rfl ?_
    refine a_callVi (as := [vi x7]) mf_X11_267 lyM_0 rfl (c_M_wayOf F _ _) LYsame.rf dX11_coverOf_84 rfl rfl rfl rfl rfl rfl (Or.inl rfl) fun r11 σ12 => ?_
    refine a_istore (L' := [some (.ref 0), some (vi x1), some (vi x2), some (vi x3), some (vi x4), some (vi x5), some (vi x6), some (vi x7), some (vi r11)]) dX11_coverOf_87 rfl rfl rfl rfl ?_
    refine a_iload dX11_coverOf_89 rfl ?_
    refine a_aload_n dX11_coverOf_91 rfl ?_
    refine a_getR (c0 := 2) fl_X11_33 lyM_0 rfl dX11_coverOf_92 (key := 6) rfl ?_
    refine a_bipush dX11_coverOf_95 bi_26 ?_
    refine a_iconst dX11_coverOf_97 ?_
    refine a_iload dX11_coverOf_98 rfl ?_
    refine a_imul dX11_coverOf_100 ?_
    refine a_iadd dX11_coverOf_101 ?_
    refine a_iconst dX11_coverOf_102 ?_
    refine a_iadd dX11_coverOf_103 ?_
    refine a_iald lyM_2 rfl dX11_coverOf_104 ?_
    refine a_bvi fun t13 => ?_
    refine a_aload_n dX11_coverOf_105 rfl ?_
    refine a_iload dX11_coverOf_106 rfl ?_
    refine a_aload_n dX11_coverOf_108 rfl ?_
    refine a_iload_n dX11_coverOf_109 rfl ?_
    refine a_callVi (as := [vi x1]) mf_X11_276 lyM_0 rfl (c_M_place F _ _) LYsame.rf dX11_coverOf_110 rfl rfl rfl rfl rfl rfl (Or.inl rfl) fun r14 σ15 => ?_
    refine a_callVi (as := [vi r11, vi r14]) mf_X11_273 lyM_0 rfl (c_M_waveOf F _ _ _) LYsame.rf dX11_coverOf_113 rfl rfl rfl rfl rfl rfl (Or.inl rfl) fun r16 σ17 => ?_
    refine a_imul dX11_coverOf_116 ?_
    refine a_iadd dX11_coverOf_117 ?_
    refine a_aload_n dX11_coverOf_118 rfl ?_
    refine a_getI fl_X11_230 lyM_0 rfl dX11_coverOf_119 (key := 20) rfl ?_
    refine a_irem dX11_coverOf_122 (fun _ => ?_)
    refine a_bvi fun t18 => ?_
    refine a_istore (L' := [some (.ref 0), some (vi x1), some (vi x2), some (vi x3), some (vi x4), some (vi t18), some (vi x6), some (vi x7), some (vi r11)]) dX11_coverOf_123 rfl rfl rfl rfl ?_
    refine a_iload dX11_coverOf_125 rfl ?_
    refine a_aload_n dX11_coverOf_127 rfl ?_
    refine a_getR (c0 := 2) fl_X11_33 lyM_0 rfl dX11_coverOf_128 (key := 6) rfl ?_
    refine a_bipush dX11_coverOf_131 bi_26 ?_
    refine a_iconst dX11_coverOf_133 ?_
    refine a_iload dX11_coverOf_134 rfl ?_
    refine a_imul dX11_coverOf_136 ?_
    refine a_iadd dX11_coverOf_137 ?_
    refine a_iconst dX11_coverOf_138 ?_
    refine a_iadd dX11_coverOf_139 ?_
    refine a_iald lyM_2 rfl dX11_coverOf_140 ?_
    refine a_bvi fun t19 => ?_
    refine a_aload_n dX11_coverOf_141 rfl ?_
    refine a_aload_n dX11_coverOf_142 rfl ?_
    refine a_getR (c0 := 2) fl_X11_33 lyM_0 rfl dX11_coverOf_143 (key := 6) rfl ?_
    refine a_iconst dX11_coverOf_146 ?_
    refine a_iald lyM_2 rfl dX11_coverOf_147 ?_
    refine a_iload dX11_coverOf_148 rfl ?_
    refine a_isub dX11_coverOf_150 ?_
    refine a_bvi fun t20 => ?_
    refine a_aload_n dX11_coverOf_151 rfl ?_
    refine a_iload_n dX11_coverOf_152 rfl ?_
    refine a_callVi (as := [vi x2]) mf_X11_276 lyM_0 rfl (c_M_place F _ _) LYsame.rf dX11_coverOf_153 rfl rfl rfl rfl rfl rfl (Or.inl rfl) fun r21 σ22 => ?_
    refine a_callVi (as := [vi t20, vi r21]) mf_X11_273 lyM_0 rfl (c_M_waveOf F _ _ _) LYsame.rf dX11_coverOf_156 rfl rfl rfl rfl rfl rfl (Or.inl rfl) fun r23 σ24 => ?_
    refine a_imul dX11_coverOf_159 ?_
    refine a_iadd dX11_coverOf_160 ?_
    refine a_aload_n dX11_coverOf_161 rfl ?_
    refine a_getI fl_X11_230 lyM_0 rfl dX11_coverOf_162 (key := 20) rfl ?_
    refine a_irem dX11_coverOf_165 (fun _ => ?_)
    refine a_bvi fun t25 => ?_
    refine a_istore (L' := [some (.ref 0), some (vi x1), some (vi x2), some (vi x3), some (vi x4), some (vi t18), some (vi t25), some (vi x7), some (vi r11)]) dX11_coverOf_166 rfl rfl rfl rfl ?_
    refine a_bv fun x7_26 ex7_26 => ?_
    refine a_iinc (y := x7_26) (L' := [some (.ref 0), some (vi x1), some (vi x2), some (vi x3), some (vi x4), some (vi t18), some (vi t25), some (vi x7_26), some (vi r11)]) dX11_coverOf_168 rfl ex7_26 rfl rfl rfl ?_
    refine a_goto dX11_coverOf_171 rfl ?_
    exact a_L (lsub_get (A := [some (.ref 0), some (vi x1), some (vi x2), some (vi x3), some (vi x4), some (vi t18), some (vi t25), some (vi x7_26), none]) ⟨rfl, ⟨rfl, ⟨rfl, ⟨rfl, ⟨rfl, ⟨rfl, ⟨rfl, ⟨rfl, trivial⟩⟩⟩⟩⟩⟩⟩⟩) (hself _ _ _ _ _ _ _ _)
  refine a_goto dX11_coverOf_78 rfl ?_
  refine a_bv fun x7_27 ex7_27 => ?_
  refine a_iinc (y := x7_27) (L' := [some (.ref 0), some (vi x1), some (vi x2), some (vi x3), some (vi x4), some (vi x5), some (vi x6), some (vi x7_27), none]) dX11_coverOf_168 rfl ex7_27 rfl rfl rfl ?_
  refine a_goto dX11_coverOf_171 rfl ?_
  exact hself _ _ _ _ _ _ _ _
set_option maxRecDepth 100000 in
set_option maxHeartbeats 4000000 in
theorem cl_M_coverOf_48 {K : KX} (F : Nat) (k5 : St → Int → Int → Int → Int → Option (Int × St)) (h5 : ∀ σ x1 x2 x3 x4, WA 2 0 1 cX11_coverOf RX11 9 (some .int) LYM LYM K 5 [some (.ref 0), some (vi x1), some (vi x2), some (vi x3), some (vi x4), none, none, none, none] [] σ (k5 σ x1 x2 x3 x4)) : ∀ (n : Nat) (σ : St) (x1 x2 x3 x4 x5 x6 x7 : Int), WA 2 0 1 cX11_coverOf RX11 9 (some .int) LYM LYM K 48 [some (.ref 0), some (vi x1), some (vi x2), some (vi x3), some (vi x4), some (vi x5), some (vi x6), some (vi x7), none] [] σ (l_M_coverOf_48 F k5 n σ x1 x2 x3 x4 x5 x6 x7)
  | 0, _, _, _, _, _, _, _, _ => a_none
  | n + 1, σ, x1, x2, x3, x4, x5, x6, x7 => cb_M_coverOf_48 F k5 h5 _ (cl_M_coverOf_48 F k5 h5 n) σ x1 x2 x3 x4 x5 x6 x7
set_option maxRecDepth 100000 in
set_option maxHeartbeats 4000000 in
theorem cb_M_coverOf_5 {K : KX} (F : Nat) (self : St → Int → Int → Int → Int → Option (Int × St)) (hself : ∀ σ x1 x2 x3 x4, WA 2 0 1 cX11_coverOf RX11 9 (some .int) LYM LYM K 5 [some (.ref 0), some (vi x1), some (vi x2), some (vi x3), some (vi x4), none, none, none, none] [] σ (self σ x1 x2 x3 x4)) (σ : St) (x1 x2 x3 x4 : Int) : WA 2 0 1 cX11_coverOf RX11 9 (some .int) LYM LYM K 5 [some (.ref 0), some (vi x1), some (vi x2), some (vi x3), some (vi x4), none, none, none, none] [] σ (b_M_coverOf_5 F self σ x1 x2 x3 x4) := by
  unfold b_M_coverOf_5
  refine a_iload dX11_coverOf_5 rfl ?_
  refine a_aload_n dX11_coverOf_7 rfl ?_
  refine a_getR (c0 := 2) fl_X11_33 lyM_0 rfl dX11_coverOf_8 (key := 6) rfl ?_
  refine a_iconst dX11_coverOf_11 ?_
  refine a_iald lyM_2 rfl dX11_coverOf_12 ?_
  refine a_icmp_ge dX11_coverOf_13 rfl (fun _ => ?_) (fun _ => ?_)
  · refine a_iload_n dX11_coverOf_193 rfl ?_
    refine a_aload_n dX11_coverOf_194 rfl ?_
    refine a_iload_n dX11_coverOf_195 rfl ?_
    refine a_callVi (as := [vi x1]) mf_X11_279 lyM_0 rfl (c_M_gain F _ _) LYsame.rf dX11_coverOf_196 rfl rfl rfl rfl rfl rfl (Or.inl rfl) fun r1 σ2 => ?_
    refine a_imul dX11_coverOf_199 ?_
    refine a_aload_n dX11_coverOf_200 rfl ?_
    refine a_getI fl_X11_230 lyM_0 rfl dX11_coverOf_201 (key := 20) rfl ?_
    refine a_irem dX11_coverOf_204 (fun _ => ?_)
    refine a_bvi fun t3 => ?_
    refine a_aload_n dX11_coverOf_205 rfl ?_
    refine a_iload_n dX11_coverOf_206 rfl ?_
    refine a_callVi (as := [vi x2]) mf_X11_279 lyM_0 rfl (c_M_gain F _ _) LYsame.rf dX11_coverOf_207 rfl rfl rfl rfl rfl rfl (Or.inl rfl) fun r4 σ5 => ?_
    refine a_imul dX11_coverOf_210 ?_
    refine a_aload_n dX11_coverOf_211 rfl ?_
    refine a_getI fl_X11_230 lyM_0 rfl dX11_coverOf_212 (key := 20) rfl ?_
    refine a_irem dX11_coverOf_215 (fun _ => ?_)
    refine a_bvi fun t6 => ?_
    exact a_iret dX11_coverOf_216
  refine a_aload_n dX11_coverOf_16 rfl ?_
  refine a_getR (c0 := 2) fl_X11_33 lyM_0 rfl dX11_coverOf_17 (key := 6) rfl ?_
  refine a_bipush dX11_coverOf_20 bi_26 ?_
  refine a_iconst dX11_coverOf_22 ?_
  refine a_iload dX11_coverOf_23 rfl ?_
  refine a_imul dX11_coverOf_25 ?_
  refine a_iadd dX11_coverOf_26 ?_
  refine a_iconst dX11_coverOf_27 ?_
  refine a_iadd dX11_coverOf_28 ?_
  refine a_iald lyM_2 rfl dX11_coverOf_29 ?_
  refine a_bvi fun t7 => ?_
  refine a_iload dX11_coverOf_30 rfl ?_
  refine a_icmp_eq dX11_coverOf_32 rfl (fun _ => ?_) (fun _ => ?_)
  · refine a_iconst dX11_coverOf_38 ?_
    refine a_istore (L' := [some (.ref 0), some (vi x1), some (vi x2), some (vi x3), some (vi x4), some (vi 0), none, none, none]) dX11_coverOf_39 rfl rfl rfl rfl ?_
    refine a_iconst dX11_coverOf_41 ?_
    refine a_istore (L' := [some (.ref 0), some (vi x1), some (vi x2), some (vi x3), some (vi x4), some (vi 0), some (vi 0), none, none]) dX11_coverOf_42 rfl rfl rfl rfl ?_
    refine a_iload dX11_coverOf_44 rfl ?_
    refine a_istore (L' := [some (.ref 0), some (vi x1), some (vi x2), some (vi x3), some (vi x4), some (vi 0), some (vi 0), some (vi x4), none]) dX11_coverOf_46 rfl rfl rfl rfl ?_
    exact cl_M_coverOf_48 F _ hself F _ _ _ _ _ _ _ _
  refine a_goto dX11_coverOf_35 rfl ?_
  refine a_bv fun x4_28 ex4_28 => ?_
  refine a_iinc (y := x4_28) (L' := [some (.ref 0), some (vi x1), some (vi x2), some (vi x3), some (vi x4_28), none, none, none, none]) dX11_coverOf_187 rfl ex4_28 rfl rfl rfl ?_
  refine a_goto dX11_coverOf_190 rfl ?_
  exact hself _ _ _ _ _
set_option maxRecDepth 100000 in
set_option maxHeartbeats 4000000 in
theorem cl_M_coverOf_5 {K : KX} (F : Nat) : ∀ (n : Nat) (σ : St) (x1 x2 x3 x4 : Int), WA 2 0 1 cX11_coverOf RX11 9 (some .int) LYM LYM K 5 [some (.ref 0), some (vi x1), some (vi x2), some (vi x3), some (vi x4), none, none, none, none] [] σ (l_M_coverOf_5 F n σ x1 x2 x3 x4)
  | 0, _, _, _, _, _ => a_none
  | n + 1, σ, x1, x2, x3, x4 => cb_M_coverOf_5 F _ (cl_M_coverOf_5 F n) σ x1 x2 x3 x4
set_option maxRecDepth 100000 in
set_option maxHeartbeats 4000000 in
theorem c_M_coverOf (F : Nat) (σ : St) (x1 x2 : Int) : Ct 2 0 1 yX11_coverOf cX11_coverOf 9 (some .int) LYM LYM [.ref 0, vi x1, vi x2] σ (f_M_coverOf F σ x1 x2) := by
  unfold f_M_coverOf
  refine Ct_of (d := 2) (kp := 0) (kd := 1) (own := RX11) (nL := 9) (ret := (some .int)) (LY := LYM) (LYe := LYM) (L := [some (.ref 0), some (vi x1), some (vi x2), none, none, none, none, none, none]) rfl (by decide +kernel) rfl rfl mf_X11_285.2.2.2.1 rfl fun K => ?_
  refine a_iconst dX11_coverOf_0 ?_
  refine a_istore_n (L' := [some (.ref 0), some (vi x1), some (vi x2), some (vi 0), none, none, none, none, none]) dX11_coverOf_1 rfl rfl rfl rfl ?_
  refine a_iconst dX11_coverOf_2 ?_
  refine a_istore (L' := [some (.ref 0), some (vi x1), some (vi x2), some (vi 0), some (vi 0), none, none, none, none]) dX11_coverOf_3 rfl rfl rfl rfl ?_
  exact cl_M_coverOf_5 F F _ _ _ _ _
def f_M_cover (F : Nat) (σ : St) (x1 x2 : Int) : Option (Int × St) := bs (sF σ 0 0) fun σ1 => bnd (f_M_isHearer F σ1 x1) fun r2 σ3 => gd (rng r2) (if r2 = 0 then some ((-1), σ3) else bnd (f_M_isHearer F σ3 x2) fun r4 σ5 => gd (rng r4) (if r4 = 0 then some ((-1), σ5) else bnd (f_M_coverOf F σ5 x1 x2) fun r6 σ7 => some (r6, σ7)))
set_option maxRecDepth 100000 in
set_option maxHeartbeats 4000000 in
theorem c_M_cover (F : Nat) (σ : St) (x1 x2 : Int) : Ct 3 0 1 yX11_cover cX11_cover 3 (some .int) LYM LYM [.ref 0, vi x1, vi x2] σ (f_M_cover F σ x1 x2) := by
  unfold f_M_cover
  refine Ct_of (d := 3) (kp := 0) (kd := 1) (own := RX11) (nL := 3) (ret := (some .int)) (LY := LYM) (LYe := LYM) (L := [some (.ref 0), some (vi x1), some (vi x2)]) rfl (by decide +kernel) rfl rfl mf_L_73.2.2.2.1 rfl fun K => ?_
  refine a_aload_n dX11_cover_0 rfl ?_
  refine a_iconst dX11_cover_1 ?_
  refine a_putI fl_X11_1 cf_X11 rfl rfl lyM_0 rfl dX11_cover_2 (key := 0) rfl fun σ1 => ?_
  refine a_aload_n dX11_cover_5 rfl ?_
  refine a_iload_n dX11_cover_6 rfl ?_
  refine a_callVi (as := [vi x1]) mf_X11_261 lyM_0 rfl (c_M_isHearer F _ _) LYsame.rf dX11_cover_7 rfl rfl rfl rfl rfl rfl (Or.inl rfl) fun r2 σ3 => ?_
  refine a_if_eq dX11_cover_10 rfl (fun _ => ?_) (fun _ => ?_)
  · refine a_iconst dX11_cover_30 ?_
    exact a_iret dX11_cover_31
  refine a_aload_n dX11_cover_13 rfl ?_
  refine a_iload_n dX11_cover_14 rfl ?_
  refine a_callVi (as := [vi x2]) mf_X11_261 lyM_0 rfl (c_M_isHearer F _ _) LYsame.rf dX11_cover_15 rfl rfl rfl rfl rfl rfl (Or.inl rfl) fun r4 σ5 => ?_
  refine a_if_eq dX11_cover_18 rfl (fun _ => ?_) (fun _ => ?_)
  · refine a_iconst dX11_cover_30 ?_
    exact a_iret dX11_cover_31
  refine a_aload_n dX11_cover_21 rfl ?_
  refine a_iload_n dX11_cover_22 rfl ?_
  refine a_iload_n dX11_cover_23 rfl ?_
  refine a_callVi (as := [vi x1, vi x2]) mf_X11_285 lyM_0 rfl (c_M_coverOf F _ _ _) LYsame.rf dX11_cover_24 rfl rfl rfl rfl rfl rfl (Or.inl rfl) fun r6 σ7 => ?_
  refine a_goto dX11_cover_27 rfl ?_
  exact a_iret dX11_cover_31
def b_M_covers_32 (F : Nat) (k22 : St → Int → Option (Int × St)) (self : St → Int → Int → Option (Int × St)) (σ : St) (x1 x2 : Int) : Option (Int × St) := gd (rng x2 ∧ rng (gF σ 26)) (if (gF σ 26) ≤ x2 then gd (inb (((gF σ 25) * x1) + (gF σ 26)) 2800) (bs (sA σ 7 (Int.toNat (((gF σ 25) * x1) + (gF σ 26))) 0) fun σ3 => bv (x1 + 1) fun x1_4 => k22 σ3 x1_4) else bnd (f_M_coverOf F σ x1 x2) fun r5 σ6 => gd (inb (((gF σ 25) * x1) + x2) 2800) (bs (sA σ6 7 (Int.toNat (((gF σ 25) * x1) + x2)) r5) fun σ7 => bv (x2 + 1) fun x2_8 => self σ7 x1 x2_8))
def l_M_covers_32 (F : Nat) (k22 : St → Int → Option (Int × St)) : Nat → St → Int → Int → Option (Int × St)
  | 0 => fun _ _ _ => none
  | n + 1 => fun σ x1 x2 => b_M_covers_32 F k22 (l_M_covers_32 F k22 n) σ x1 x2
def b_M_covers_22 (F : Nat) (self : St → Int → Option (Int × St)) (σ : St) (x1 : Int) : Option (Int × St) := gd (rng x1 ∧ rng (gF σ 26)) (if (gF σ 26) ≤ x1 then some (0, σ) else l_M_covers_32 F self F σ x1 0)
def l_M_covers_22 (F : Nat) : Nat → St → Int → Option (Int × St)
  | 0 => fun _ _ => none
  | n + 1 => fun σ x1 => b_M_covers_22 F (l_M_covers_22 F n) σ x1
def f_M_covers (F : Nat) (σ : St) : Option (Int × St) := gd (inb 1 82) (bs (sF σ 26 (gA σ 2 (Int.toNat 1))) fun σ1 => bs (sF σ1 25 ((gF σ1 26) + 1)) fun σ2 => l_M_covers_22 F F σ2 0)
set_option maxRecDepth 100000 in
set_option maxHeartbeats 4000000 in
theorem cb_M_covers_32 {K : KX} (F : Nat) (k22 : St → Int → Option (Int × St)) (h22 : ∀ σ x1, WA 3 0 0 cX11_covers RX11 3 none LYM LYM K 22 [some (.ref 0), some (vi x1), none] [] σ (k22 σ x1)) (self : St → Int → Int → Option (Int × St)) (hself : ∀ σ x1 x2, WA 3 0 0 cX11_covers RX11 3 none LYM LYM K 32 [some (.ref 0), some (vi x1), some (vi x2)] [] σ (self σ x1 x2)) (σ : St) (x1 x2 : Int) : WA 3 0 0 cX11_covers RX11 3 none LYM LYM K 32 [some (.ref 0), some (vi x1), some (vi x2)] [] σ (b_M_covers_32 F k22 self σ x1 x2) := by
  unfold b_M_covers_32
  refine a_iload_n dX11_covers_32 rfl ?_
  refine a_aload_n dX11_covers_33 rfl ?_
  refine a_getI fl_X11_248 lyM_0 rfl dX11_covers_34 (key := 26) rfl ?_
  refine a_icmp_ge dX11_covers_37 rfl (fun _ => ?_) (fun _ => ?_)
  · refine a_aload_n dX11_covers_65 rfl ?_
    refine a_getR (c0 := 7) fl_X11_50 lyM_0 rfl dX11_covers_66 (key := 23) rfl ?_
    refine a_aload_n dX11_covers_69 rfl ?_
    refine a_getI fl_X11_251 lyM_0 rfl dX11_covers_70 (key := 25) rfl ?_
    refine a_iload_n dX11_covers_73 rfl ?_
    refine a_imul dX11_covers_74 ?_
    refine a_aload_n dX11_covers_75 rfl ?_
    refine a_getI fl_X11_248 lyM_0 rfl dX11_covers_76 (key := 26) rfl ?_
    refine a_iadd dX11_covers_79 ?_
    refine a_iconst dX11_covers_80 ?_
    refine a_iast lyM_7 rfl dX11_covers_81 fun σ3 => ?_
    refine a_bv fun x1_4 ex1_4 => ?_
    refine a_iinc (y := x1_4) (L' := [some (.ref 0), some (vi x1_4), some (vi x2)]) dX11_covers_82 rfl ex1_4 rfl rfl rfl ?_
    refine a_goto dX11_covers_85 rfl ?_
    exact a_L (lsub_get (A := [some (.ref 0), some (vi x1_4), none]) ⟨rfl, ⟨rfl, trivial⟩⟩) (h22 _ _)
  refine a_aload_n dX11_covers_40 rfl ?_
  refine a_getR (c0 := 7) fl_X11_50 lyM_0 rfl dX11_covers_41 (key := 23) rfl ?_
  refine a_aload_n dX11_covers_44 rfl ?_
  refine a_getI fl_X11_251 lyM_0 rfl dX11_covers_45 (key := 25) rfl ?_
  refine a_iload_n dX11_covers_48 rfl ?_
  refine a_imul dX11_covers_49 ?_
  refine a_iload_n dX11_covers_50 rfl ?_
  refine a_iadd dX11_covers_51 ?_
  refine a_aload_n dX11_covers_52 rfl ?_
  refine a_iload_n dX11_covers_53 rfl ?_
  refine a_iload_n dX11_covers_54 rfl ?_
  refine a_callVi (as := [vi x1, vi x2]) mf_X11_285 lyM_0 rfl (c_M_coverOf F _ _ _) LYsame.rf dX11_covers_55 rfl rfl rfl rfl rfl rfl (Or.inl rfl) fun r5 σ6 => ?_
  refine a_iast lyM_7 rfl dX11_covers_58 fun σ7 => ?_
  refine a_bv fun x2_8 ex2_8 => ?_
  refine a_iinc (y := x2_8) (L' := [some (.ref 0), some (vi x1), some (vi x2_8)]) dX11_covers_59 rfl ex2_8 rfl rfl rfl ?_
  refine a_goto dX11_covers_62 rfl ?_
  exact hself _ _ _
set_option maxRecDepth 100000 in
set_option maxHeartbeats 4000000 in
theorem cl_M_covers_32 {K : KX} (F : Nat) (k22 : St → Int → Option (Int × St)) (h22 : ∀ σ x1, WA 3 0 0 cX11_covers RX11 3 none LYM LYM K 22 [some (.ref 0), some (vi x1), none] [] σ (k22 σ x1)) : ∀ (n : Nat) (σ : St) (x1 x2 : Int), WA 3 0 0 cX11_covers RX11 3 none LYM LYM K 32 [some (.ref 0), some (vi x1), some (vi x2)] [] σ (l_M_covers_32 F k22 n σ x1 x2)
  | 0, _, _, _ => a_none
  | n + 1, σ, x1, x2 => cb_M_covers_32 F k22 h22 _ (cl_M_covers_32 F k22 h22 n) σ x1 x2
set_option maxRecDepth 100000 in
set_option maxHeartbeats 4000000 in
theorem cb_M_covers_22 {K : KX} (F : Nat) (self : St → Int → Option (Int × St)) (hself : ∀ σ x1, WA 3 0 0 cX11_covers RX11 3 none LYM LYM K 22 [some (.ref 0), some (vi x1), none] [] σ (self σ x1)) (σ : St) (x1 : Int) : WA 3 0 0 cX11_covers RX11 3 none LYM LYM K 22 [some (.ref 0), some (vi x1), none] [] σ (b_M_covers_22 F self σ x1) := by
  unfold b_M_covers_22
  refine a_iload_n dX11_covers_22 rfl ?_
  refine a_aload_n dX11_covers_23 rfl ?_
  refine a_getI fl_X11_248 lyM_0 rfl dX11_covers_24 (key := 26) rfl ?_
  refine a_icmp_ge dX11_covers_27 rfl (fun _ => ?_) (fun _ => ?_)
  · exact a_vret dX11_covers_88
  refine a_iconst dX11_covers_30 ?_
  refine a_istore_n (L' := [some (.ref 0), some (vi x1), some (vi 0)]) dX11_covers_31 rfl rfl rfl rfl ?_
  exact cl_M_covers_32 F _ hself F _ _ _
set_option maxRecDepth 100000 in
set_option maxHeartbeats 4000000 in
theorem cl_M_covers_22 {K : KX} (F : Nat) : ∀ (n : Nat) (σ : St) (x1 : Int), WA 3 0 0 cX11_covers RX11 3 none LYM LYM K 22 [some (.ref 0), some (vi x1), none] [] σ (l_M_covers_22 F n σ x1)
  | 0, _, _ => a_none
  | n + 1, σ, x1 => cb_M_covers_22 F _ (cl_M_covers_22 F n) σ x1
set_option maxRecDepth 100000 in
set_option maxHeartbeats 4000000 in
theorem c_M_covers (F : Nat) (σ : St) : Ct 3 0 0 yX11_covers cX11_covers 3 none LYM LYM [.ref 0] σ (f_M_covers F σ) := by
  unfold f_M_covers
  refine Ct_of (d := 3) (kp := 0) (kd := 0) (own := RX11) (nL := 3) (ret := none) (LY := LYM) (LYe := LYM) (L := [some (.ref 0), none, none]) rfl (by decide +kernel) rfl rfl mf_X11_288.2.2.2.1 rfl fun K => ?_
  refine a_aload_n dX11_covers_0 rfl ?_
  refine a_aload_n dX11_covers_1 rfl ?_
  refine a_getR (c0 := 2) fl_X11_33 lyM_0 rfl dX11_covers_2 (key := 6) rfl ?_
  refine a_iconst dX11_covers_5 ?_
  refine a_iald lyM_2 rfl dX11_covers_6 ?_
  refine a_putI fl_X11_248 cf_X11 rfl rfl lyM_0 rfl dX11_covers_7 (key := 26) rfl fun σ1 => ?_
  refine a_aload_n dX11_covers_10 rfl ?_
  refine a_aload_n dX11_covers_11 rfl ?_
  refine a_getI fl_X11_248 lyM_0 rfl dX11_covers_12 (key := 26) rfl ?_
  refine a_iconst dX11_covers_15 ?_
  refine a_iadd dX11_covers_16 ?_
  refine a_putI fl_X11_251 cf_X11 rfl rfl lyM_0 rfl dX11_covers_17 (key := 25) rfl fun σ2 => ?_
  refine a_iconst dX11_covers_20 ?_
  refine a_istore_n (L' := [some (.ref 0), some (vi 0), none]) dX11_covers_21 rfl rfl rfl rfl ?_
  exact cl_M_covers_22 F F _ _
def b_M_smooth_32 (F : Nat) (k14 : St → Int → Int → Option (Int × St)) (k21 : St → Int → Int → Int → Option (Int × St)) (self : St → Int → Int → Int → Int → Int → Option (Int × St)) (σ : St) (x1 x2 x3 x4 x5 : Int) : Option (Int × St) := gd (inb 1 82) (gd (rng (x5 + x1) ∧ rng (gA σ 2 (Int.toNat 1))) (if (gA σ 2 (Int.toNat 1)) < (x5 + x1) then gd (rng x4 ∧ rng (gF σ 20) ∧ (gF σ 20) ≠ (0 : Int)) (gd (inb (((gF σ 25) * x2) + x3) 2800) (bs (sA σ 7 (Int.toNat (((gF σ 25) * x2) + x3)) (Int.tmod x4 (gF σ 20))) fun σ5 => bv (x3 + 1) fun x3_6 => k21 σ5 x1 x2 x3_6)) else bnd (f_M_coverOf F σ (x2 + x5) (x3 + x5)) fun r7 σ8 => bv (x4 + r7) fun x4_9 => bv (x5 + 1) fun x5_10 => self σ8 x1 x2 x3 x4_9 x5_10))
def l_M_smooth_32 (F : Nat) (k14 : St → Int → Int → Option (Int × St)) (k21 : St → Int → Int → Int → Option (Int × St)) : Nat → St → Int → Int → Int → Int → Int → Option (Int × St)
  | 0 => fun _ _ _ _ _ _ => none
  | n + 1 => fun σ x1 x2 x3 x4 x5 => b_M_smooth_32 F k14 k21 (l_M_smooth_32 F k14 k21 n) σ x1 x2 x3 x4 x5
def b_M_smooth_21 (F : Nat) (k14 : St → Int → Int → Option (Int × St)) (self : St → Int → Int → Int → Option (Int × St)) (σ : St) (x1 x2 x3 : Int) : Option (Int × St) := gd (rng x3 ∧ rng x1) (if x1 ≤ x3 then gd (inb (((gF σ 25) * x2) + x1) 2800) (bs (sA σ 7 (Int.toNat (((gF σ 25) * x2) + x1)) 0) fun σ3 => bv (x2 + 1) fun x2_4 => k14 σ3 x1 x2_4) else l_M_smooth_32 F k14 self F σ x1 x2 x3 0 0)
def l_M_smooth_21 (F : Nat) (k14 : St → Int → Int → Option (Int × St)) : Nat → St → Int → Int → Int → Option (Int × St)
  | 0 => fun _ _ _ _ => none
  | n + 1 => fun σ x1 x2 x3 => b_M_smooth_21 F k14 (l_M_smooth_21 F k14 n) σ x1 x2 x3
def b_M_smooth_14 (F : Nat) (self : St → Int → Int → Option (Int × St)) (σ : St) (x1 x2 : Int) : Option (Int × St) := gd (rng x2 ∧ rng x1) (if x1 ≤ x2 then some (0, σ) else l_M_smooth_21 F self F σ x1 x2 0)
def l_M_smooth_14 (F : Nat) : Nat → St → Int → Int → Option (Int × St)
  | 0 => fun _ _ _ => none
  | n + 1 => fun σ x1 x2 => b_M_smooth_14 F (l_M_smooth_14 F n) σ x1 x2
def f_M_smooth (F : Nat) (σ : St) (x1 : Int) : Option (Int × St) := bs (sF σ 26 x1) fun σ1 => bs (sF σ1 25 (x1 + 1)) fun σ2 => l_M_smooth_14 F F σ2 x1 0
set_option maxRecDepth 100000 in
set_option maxHeartbeats 4000000 in
theorem cb_M_smooth_32 {K : KX} (F : Nat) (k14 : St → Int → Int → Option (Int × St)) (k21 : St → Int → Int → Int → Option (Int × St)) (h14 : ∀ σ x1 x2, WA 3 0 0 cX11_smooth RX11 6 none LYM LYM K 14 [some (.ref 0), some (vi x1), some (vi x2), none, none, none] [] σ (k14 σ x1 x2)) (h21 : ∀ σ x1 x2 x3, WA 3 0 0 cX11_smooth RX11 6 none LYM LYM K 21 [some (.ref 0), some (vi x1), some (vi x2), some (vi x3), none, none] [] σ (k21 σ x1 x2 x3)) (self : St → Int → Int → Int → Int → Int → Option (Int × St)) (hself : ∀ σ x1 x2 x3 x4 x5, WA 3 0 0 cX11_smooth RX11 6 none LYM LYM K 32 [some (.ref 0), some (vi x1), some (vi x2), some (vi x3), some (vi x4), some (vi x5)] [] σ (self σ x1 x2 x3 x4 x5)) (σ : St) (x1 x2 x3 x4 x5 : Int) : WA 3 0 0 cX11_smooth RX11 6 none LYM LYM K 32 [some (.ref 0), some (vi x1), some (vi x2), some (vi x3), some (vi x4), some (vi x5)] [] σ (b_M_smooth_32 F k14 k21 self σ x1 x2 x3 x4 x5) := by
  unfold b_M_smooth_32
  refine a_iload dX11_smooth_32 rfl ?_
  refine a_iload_n dX11_smooth_34 rfl ?_
  refine a_iadd dX11_smooth_35 ?_
  refine a_aload_n dX11_smooth_36 rfl ?_
  refine a_getR (c0 := 2) fl_X11_33 lyM_0 rfl dX11_smooth_37 (key := 6) rfl ?_
  refine a_iconst dX11_smooth_40 ?_
  refine a_iald lyM_2 rfl dX11_smooth_41 ?_
  refine a_icmp_gt dX11_smooth_42 rfl (fun _ => ?_) (fun _ => ?_)
  · refine a_aload_n dX11_smooth_68 rfl ?_
    refine a_getR (c0 := 7) fl_X11_50 lyM_0 rfl dX11_smooth_69 (key := 23) rfl ?_
    refine a_aload_n dX11_smooth_72 rfl ?_
    refine a_getI fl_X11_251 lyM_0 rfl dX11_smooth_73 (key := 25) rfl ?_
    refine a_iload_n dX11_smooth_76 rfl ?_
    refine a_imul dX11_smooth_77 ?_
    refine a_iload_n dX11_smooth_78 rfl ?_
    refine a_iadd dX11_smooth_79 ?_
    refine a_iload dX11_smooth_80 rfl ?_
    refine a_aload_n dX11_smooth_82 rfl ?_
    refine a_getI fl_X11_230 lyM_0 rfl dX11_smooth_83 (key := 20) rfl ?_
    refine a_irem dX11_smooth_86 (fun _ => ?_)
    refine a_iast lyM_7 rfl dX11_smooth_87 fun σ5 => ?_
    refine a_bv fun x3_6 ex3_6 => ?_
    refine a_iinc (y := x3_6) (L' := [some (.ref 0), some (vi x1), some (vi x2), some (vi x3_6), some (vi x4), some (vi x5)]) dX11_smooth_88 rfl ex3_6 rfl rfl rfl ?_
    refine a_goto dX11_smooth_91 rfl ?_
    exact a_L (lsub_get (A := [some (.ref 0), some (vi x1), some (vi x2), some (vi x3_6), none, none]) ⟨rfl, ⟨rfl, ⟨rfl, ⟨rfl, trivial⟩⟩⟩⟩) (h21 _ _ _ _)
  refine a_iload dX11_smooth_45 rfl ?_
  refine a_aload_n dX11_smooth_47 rfl ?_
  refine a_iload_n dX11_smooth_48 rfl ?_
  refine a_iload dX11_smooth_49 rfl ?_
  refine a_iadd dX11_smooth_51 ?_
  refine a_iload_n dX11_smooth_52 rfl ?_
  refine a_iload dX11_smooth_53 rfl ?_
  refine a_iadd dX11_smooth_55 ?_
  refine a_callVi (as := [vi (x2 + x5), vi (x3 + x5)]) mf_X11_285 lyM_0 rfl (c_M_coverOf F _ _ _) LYsame.rf dX11_smooth_56 rfl rfl rfl rfl rfl rfl (Or.inl rfl) fun r7 σ8 => ?_
  refine a_iadd dX11_smooth_59 ?_
  refine a_bv fun x4_9 ex4_9 => ?_
  refine a_istore (y := x4_9) (L' := [some (.ref 0), some (vi x1), some (vi x2), some (vi x3), some (vi x4_9), some (vi x5)]) dX11_smooth_60 ex4_9 rfl rfl rfl ?_
  refine a_bv fun x5_10 ex5_10 => ?_
  refine a_iinc (y := x5_10) (L' := [some (.ref 0), some (vi x1), some (vi x2), some (vi x3), some (vi x4_9), some (vi x5_10)]) dX11_smooth_62 rfl ex5_10 rfl rfl rfl ?_
  refine a_goto dX11_smooth_65 rfl ?_
  exact hself _ _ _ _ _ _
set_option maxRecDepth 100000 in
set_option maxHeartbeats 4000000 in
theorem cl_M_smooth_32 {K : KX} (F : Nat) (k14 : St → Int → Int → Option (Int × St)) (k21 : St → Int → Int → Int → Option (Int × St)) (h14 : ∀ σ x1 x2, WA 3 0 0 cX11_smooth RX11 6 none LYM LYM K 14 [some (.ref 0), some (vi x1), some (vi x2), none, none, none] [] σ (k14 σ x1 x2)) (h21 : ∀ σ x1 x2 x3, WA 3 0 0 cX11_smooth RX11 6 none LYM LYM K 21 [some (.ref 0), some (vi x1), some (vi x2), some (vi x3), none, none] [] σ (k21 σ x1 x2 x3)) : ∀ (n : Nat) (σ : St) (x1 x2 x3 x4 x5 : Int), WA 3 0 0 cX11_smooth RX11 6 none LYM LYM K 32 [some (.ref 0), some (vi x1), some (vi x2), some (vi x3), some (vi x4), some (vi x5)] [] σ (l_M_smooth_32 F k14 k21 n σ x1 x2 x3 x4 x5)
  | 0, _, _, _, _, _, _ => a_none
  | n + 1, σ, x1, x2, x3, x4, x5 => cb_M_smooth_32 F k14 k21 h14 h21 _ (cl_M_smooth_32 F k14 k21 h14 h21 n) σ x1 x2 x3 x4 x5
set_option maxRecDepth 100000 in
set_option maxHeartbeats 4000000 in
theorem cb_M_smooth_21 {K : KX} (F : Nat) (k14 : St → Int → Int → Option (Int × St)) (h14 : ∀ σ x1 x2, WA 3 0 0 cX11_smooth RX11 6 none LYM LYM K 14 [some (.ref 0), some (vi x1), some (vi x2), none, none, none] [] σ (k14 σ x1 x2)) (self : St → Int → Int → Int → Option (Int × St)) (hself : ∀ σ x1 x2 x3, WA 3 0 0 cX11_smooth RX11 6 none LYM LYM K 21 [some (.ref 0), some (vi x1), some (vi x2), some (vi x3), none, none] [] σ (self σ x1 x2 x3)) (σ : St) (x1 x2 x3 : Int) : WA 3 0 0 cX11_smooth RX11 6 none LYM LYM K 21 [some (.ref 0), some (vi x1), some (vi x2), some (vi x3), none, none] [] σ (b_M_smooth_21 F k14 self σ x1 x2 x3) := by
  unfold b_M_smooth_21
  refine a_iload_n dX11_smooth_21 rfl ?_
  refine a_iload_n dX11_smooth_22 rfl ?_
  refine a_icmp_ge dX11_smooth_23 rfl (fun _ => ?_) (fun _ => ?_)
  · refine a_aload_n dX11_smooth_94 rfl ?_
    refine a_getR (c0 := 7) fl_X11_50 lyM_0 rfl dX11_smooth_95 (key := 23) rfl ?_
    refine a_aload_n dX11_smooth_98 rfl ?_
    refine a_getI fl_X11_251 lyM_0 rfl dX11_smooth_99 (key := 25) rfl ?_
    refine a_iload_n dX11_smooth_102 rfl ?_
    refine a_imul dX11_smooth_103 ?_
    refine a_iload_n dX11_smooth_104 rfl ?_
    refine a_iadd dX11_smooth_105 ?_
    refine a_iconst dX11_smooth_106 ?_
    refine a_iast lyM_7 rfl dX11_smooth_107 fun σ3 => ?_
    refine a_bv fun x2_4 ex2_4 => ?_
    refine a_iinc (y := x2_4) (L' := [some (.ref 0), some (vi x1), some (vi x2_4), some (vi x3), none, none]) dX11_smooth_108 rfl ex2_4 rfl rfl rfl ?_
    refine a_goto dX11_smooth_111 rfl ?_
    exact a_L (lsub_get (A := [some (.ref 0), some (vi x1), some (vi x2_4), none, none, none]) ⟨rfl, ⟨rfl, ⟨rfl, trivial⟩⟩⟩) (h14 _ _ _)
  refine a_iconst dX11_smooth_26 ?_
  refine a_istore (L' := [some (.ref 0), some (vi x1), some (vi x2), some (vi x3), some (vi 0), none]) dX11_smooth_27 rfl rfl rfl rfl ?_
  refine a_iconst dX11_smooth_29 ?_
  refine a_istore (L' := [some (.ref 0), some (vi x1), some (vi x2), some (vi x3), some (vi 0), some (vi 0)]) dX11_smooth_30 rfl rfl rfl rfl ?_
  exact cl_M_smooth_32 F _ _ h14 hself F _ _ _ _ _ _
set_option maxRecDepth 100000 in
set_option maxHeartbeats 4000000 in
theorem cl_M_smooth_21 {K : KX} (F : Nat) (k14 : St → Int → Int → Option (Int × St)) (h14 : ∀ σ x1 x2, WA 3 0 0 cX11_smooth RX11 6 none LYM LYM K 14 [some (.ref 0), some (vi x1), some (vi x2), none, none, none] [] σ (k14 σ x1 x2)) : ∀ (n : Nat) (σ : St) (x1 x2 x3 : Int), WA 3 0 0 cX11_smooth RX11 6 none LYM LYM K 21 [some (.ref 0), some (vi x1), some (vi x2), some (vi x3), none, none] [] σ (l_M_smooth_21 F k14 n σ x1 x2 x3)
  | 0, _, _, _, _ => a_none
  | n + 1, σ, x1, x2, x3 => cb_M_smooth_21 F k14 h14 _ (cl_M_smooth_21 F k14 h14 n) σ x1 x2 x3
set_option maxRecDepth 100000 in
set_option maxHeartbeats 4000000 in
theorem cb_M_smooth_14 {K : KX} (F : Nat) (self : St → Int → Int → Option (Int × St)) (hself : ∀ σ x1 x2, WA 3 0 0 cX11_smooth RX11 6 none LYM LYM K 14 [some (.ref 0), some (vi x1), some (vi x2), none, none, none] [] σ (self σ x1 x2)) (σ : St) (x1 x2 : Int) : WA 3 0 0 cX11_smooth RX11 6 none LYM LYM K 14 [some (.ref 0), some (vi x1), some (vi x2), none, none, none] [] σ (b_M_smooth_14 F self σ x1 x2) := by
  unfold b_M_smooth_14
  refine a_iload_n dX11_smooth_14 rfl ?_
  refine a_iload_n dX11_smooth_15 rfl ?_
  refine a_icmp_ge dX11_smooth_16 rfl (fun _ => ?_) (fun _ => ?_)
  · exact a_vret dX11_smooth_114
  refine a_iconst dX11_smooth_19 ?_
  refine a_istore_n (L' := [some (.ref 0), some (vi x1), some (vi x2), some (vi 0), none, none]) dX11_smooth_20 rfl rfl rfl rfl ?_
  exact cl_M_smooth_21 F _ hself F _ _ _ _
set_option maxRecDepth 100000 in
set_option maxHeartbeats 4000000 in
theorem cl_M_smooth_14 {K : KX} (F : Nat) : ∀ (n : Nat) (σ : St) (x1 x2 : Int), WA 3 0 0 cX11_smooth RX11 6 none LYM LYM K 14 [some (.ref 0), some (vi x1), some (vi x2), none, none, none] [] σ (l_M_smooth_14 F n σ x1 x2)
  | 0, _, _, _ => a_none
  | n + 1, σ, x1, x2 => cb_M_smooth_14 F _ (cl_M_smooth_14 F n) σ x1 x2
set_option maxRecDepth 100000 in
set_option maxHeartbeats 4000000 in
theorem c_M_smooth (F : Nat) (σ : St) (x1 : Int) : Ct 3 0 0 yX11_smooth cX11_smooth 6 none LYM LYM [.ref 0, vi x1] σ (f_M_smooth F σ x1) := by
  unfold f_M_smooth
  refine Ct_of (d := 3) (kp := 0) (kd := 0) (own := RX11) (nL := 6) (ret := none) (LY := LYM) (LYe := LYM) (L := [some (.ref 0), some (vi x1), none, none, none, none]) rfl (by decide +kernel) rfl rfl mf_X11_308.2.2.2.1 rfl fun K => ?_
  refine a_aload_n dX11_smooth_0 rfl ?_
  refine a_iload_n dX11_smooth_1 rfl ?_
  refine a_putI fl_X11_248 cf_X11 rfl rfl lyM_0 rfl dX11_smooth_2 (key := 26) rfl fun σ1 => ?_
  refine a_aload_n dX11_smooth_5 rfl ?_
  refine a_iload_n dX11_smooth_6 rfl ?_
  refine a_iconst dX11_smooth_7 ?_
  refine a_iadd dX11_smooth_8 ?_
  refine a_putI fl_X11_251 cf_X11 rfl rfl lyM_0 rfl dX11_smooth_9 (key := 25) rfl fun σ2 => ?_
  refine a_iconst dX11_smooth_12 ?_
  refine a_istore_n (L' := [some (.ref 0), some (vi x1), some (vi 0), none, none, none]) dX11_smooth_13 rfl rfl rfl rfl ?_
  exact cl_M_smooth_14 F F _ _ _
def f_M_order (F : Nat) (σ : St) : Option (Int × St) := bs (sF σ 0 0) fun σ1 => bnd (f_M_covers F σ1) fun r2 σ3 => bnd (f_M_steps F σ3 (gF σ3 26)) fun r4 σ5 => some ((gF σ5 27), σ5)
set_option maxRecDepth 100000 in
set_option maxHeartbeats 4000000 in
theorem c_M_order (F : Nat) (σ : St) : Ct 4 0 1 yX11_order cX11_order 1 (some .int) LYM LYM [.ref 0] σ (f_M_order F σ) := by
  unfold f_M_order
  refine Ct_of (d := 4) (kp := 0) (kd := 1) (own := RX11) (nL := 1) (ret := (some .int)) (LY := LYM) (LYe := LYM) (L := [some (.ref 0)]) rfl (by decide +kernel) rfl rfl mf_L_77.2.2.2.1 rfl fun K => ?_
  refine a_aload_n dX11_order_0 rfl ?_
  refine a_iconst dX11_order_1 ?_
  refine a_putI fl_X11_1 cf_X11 rfl rfl lyM_0 rfl dX11_order_2 (key := 0) rfl fun σ1 => ?_
  refine a_aload_n dX11_order_5 rfl ?_
  refine a_callVv (as := []) mf_X11_288 lyM_0 rfl (c_M_covers F _) LYsame.rf dX11_order_6 rfl rfl rfl rfl rfl rfl (Or.inl rfl) fun r2 σ3 => ?_
  refine a_aload_n dX11_order_9 rfl ?_
  refine a_aload_n dX11_order_10 rfl ?_
  refine a_getI fl_X11_248 lyM_0 rfl dX11_order_11 (key := 26) rfl ?_
  refine a_callVv (as := [vi (gF σ3 26)]) mf_X11_258 lyM_0 rfl (c_M_steps F _ _) LYsame.rf dX11_order_14 rfl rfl rfl rfl rfl rfl (Or.inl rfl) fun r4 σ5 => ?_
  refine a_aload_n dX11_order_17 rfl ?_
  refine a_getI fl_X11_245 lyM_0 rfl dX11_order_18 (key := 27) rfl ?_
  exact a_iret dX11_order_21
def b_M_seen_26 (F : Nat) (k9 : St → Int → Int → Option (Int × St)) (self : St → Int → Int → Int → Option (Int × St)) (σ : St) (x1 x3 x4 : Int) : Option (Int × St) := gd (rng x4 ∧ rng (gF σ 26)) (if (gF σ 26) ≤ x4 then bnd (f_M_isMade F σ) fun r4 σ5 => gd (rng r4) (if r4 = 0 then bv (lorI x1 0) fun x1_6 => bv (x3 + 1) fun x3_7 => k9 σ5 x1_6 x3_7 else gd (sh6 x3) (bv (lorI x1 (1 * 2 ^ (Int.toNat x3))) fun t8 => bv (x3 + 1) fun x3_9 => k9 σ5 t8 x3_9)) else bnd (f_M_gain F σ x4) fun r10 σ11 => bnd (f_M_place F σ11 x4) fun r12 σ13 => bnd (f_M_waveOf F σ13 x3 r12) fun r14 σ15 => gd (rng (r10 * r14) ∧ rng (gF σ15 20) ∧ (gF σ15 20) ≠ (0 : Int)) (bv (Int.tmod (r10 * r14) (gF σ15 20)) fun t16 => gd (inb (((gF σ 25) * x4) + (gF σ 26)) 2800) (bs (sA σ15 7 (Int.toNat (((gF σ 25) * x4) + (gF σ 26))) t16) fun σ17 => bv (x4 + 1) fun x4_18 => self σ17 x1 x3 x4_18)))
def l_M_seen_26 (F : Nat) (k9 : St → Int → Int → Option (Int × St)) : Nat → St → Int → Int → Int → Option (Int × St)
  | 0 => fun _ _ _ _ => none
  | n + 1 => fun σ x1 x3 x4 => b_M_seen_26 F k9 (l_M_seen_26 F k9 n) σ x1 x3 x4
def b_M_seen_9 (F : Nat) (self : St → Int → Int → Option (Int × St)) (σ : St) (x1 x3 : Int) : Option (Int × St) := gd (inb 0 82) (gd (rng x3 ∧ rng (gA σ 2 (Int.toNat 0))) (if (gA σ 2 (Int.toNat 0)) ≤ x3 then some (x1, σ) else bnd (f_M_covers F σ) fun r2 σ3 => l_M_seen_26 F self F σ3 x1 x3 0))
def l_M_seen_9 (F : Nat) : Nat → St → Int → Int → Option (Int × St)
  | 0 => fun _ _ _ => none
  | n + 1 => fun σ x1 x3 => b_M_seen_9 F (l_M_seen_9 F n) σ x1 x3
def f_M_seen (F : Nat) (σ : St) : Option (Int × St) := bs (sF σ 0 0) fun σ1 => l_M_seen_9 F F σ1 0 0
set_option maxRecDepth 100000 in
set_option maxHeartbeats 4000000 in
theorem cb_M_seen_26 {K : KX} (F : Nat) (k9 : St → Int → Int → Option (Int × St)) (h9 : ∀ σ x1 x3, WA 4 0 2 cX11_seen RX11 5 (some .long) LYM LYM K 9 [some (.ref 0), some (vl x1), none, some (vi x3), none] [] σ (k9 σ x1 x3)) (self : St → Int → Int → Int → Option (Int × St)) (hself : ∀ σ x1 x3 x4, WA 4 0 2 cX11_seen RX11 5 (some .long) LYM LYM K 26 [some (.ref 0), some (vl x1), none, some (vi x3), some (vi x4)] [] σ (self σ x1 x3 x4)) (σ : St) (x1 x3 x4 : Int) : WA 4 0 2 cX11_seen RX11 5 (some .long) LYM LYM K 26 [some (.ref 0), some (vl x1), none, some (vi x3), some (vi x4)] [] σ (b_M_seen_26 F k9 self σ x1 x3 x4) := by
  unfold b_M_seen_26
  refine a_iload dX11_seen_26 rfl ?_
  refine a_aload_n dX11_seen_28 rfl ?_
  refine a_getI fl_X11_248 lyM_0 rfl dX11_seen_29 (key := 26) rfl ?_
  refine a_icmp_ge dX11_seen_32 rfl (fun _ => ?_) (fun _ => ?_)
  · refine a_lload_n dX11_seen_81 rfl ?_
    refine a_aload_n dX11_seen_82 rfl ?_
    refine a_callVi (as := []) mf_X11_291 lyM_0 rfl (c_M_isMade F _) LYsame.rf dX11_seen_83 rfl rfl rfl rfl rfl rfl (Or.inl rfl) fun r4 σ5 => ?_
    refine a_if_eq dX11_seen_86 rfl (fun _ => ?_) (fun _ => ?_)
    · refine a_lconst (v := 0) dX11_seen_95 rfl ?_
      refine a_lor dX11_seen_96 ?_
      refine a_bv fun x1_6 ex1_6 => ?_
      refine a_lstore_n (y := x1_6) (L' := [some (.ref 0), some (vl x1_6), none, some (vi x3), some (vi x4)]) dX11_seen_97 ex1_6 rfl rfl rfl ?_
      refine a_bv fun x3_7 ex3_7 => ?_
      refine a_iinc (y := x3_7) (L' := [some (.ref 0), some (vl x1_6), none, some (vi x3_7), some (vi x4)]) dX11_seen_98 rfl ex3_7 rfl rfl rfl ?_
      refine a_goto dX11_seen_101 rfl ?_
      exact a_L (lsub_get (A := [some (.ref 0), some (vl x1_6), none, some (vi x3_7), none]) ⟨rfl, ⟨rfl, ⟨rfl, trivial⟩⟩⟩) (h9 _ _ _)
    refine a_lconst (v := 1) dX11_seen_89 rfl ?_
    refine a_iload_n dX11_seen_90 rfl ?_
    refine a_lshl dX11_seen_91 (fun _ => ?_)
    refine a_goto dX11_seen_92 rfl ?_
    refine a_lor dX11_seen_96 ?_
    refine a_bvl fun t8 => ?_
    refine a_lstore_n (L' := [some (.ref 0), some (vl t8), none, some (vi x3), some (vi x4)]) dX11_seen_97 rfl rfl rfl rfl ?_
    refine a_bv fun x3_9 ex3_9 => ?_
    refine a_iinc (y := x3_9) (L' := [some (.ref 0), some (vl t8), none, some (vi x3_9), some (vi x4)]) dX11_seen_98 rfl ex3_9 rfl rfl rfl ?_
    refine a_goto dX11_seen_101 rfl ?_
    exact a_L (lsub_get (A := [some (.ref 0), some (vl t8), none, some (vi x3_9), none]) ⟨rfl, ⟨rfl, ⟨rfl, trivial⟩⟩⟩) (h9 _ _ _)
  refine a_aload_n dX11_seen_35 rfl ?_
  refine a_getR (c0 := 7) fl_X11_50 lyM_0 rfl dX11_seen_36 (key := 23) rfl ?_
  refine a_aload_n dX11_seen_39 rfl ?_
  refine a_getI fl_X11_251 lyM_0 rfl dX11_seen_40 (key := 25) rfl ?_
  refine a_iload dX11_seen_43 rfl ?_
  refine a_imul dX11_seen_45 ?_
  refine a_aload_n dX11_seen_46 rfl ?_
  refine a_getI fl_X11_248 lyM_0 rfl dX11_seen_47 (key := 26) rfl ?_
  refine a_iadd dX11_seen_50 ?_
  refine a_aload_n dX11_seen_51 rfl ?_
  refine a_iload dX11_seen_52 rfl ?_
  refine a_callVi (as := [vi x4]) mf_X11_279 lyM_0 rfl (c_M_gain F _ _) LYsame.rf dX11_seen_54 rfl rfl rfl rfl rfl rfl (Or.inl rfl) fun r10 σ11 => ?_
  refine a_aload_n dX11_seen_57 rfl ?_
  refine a_iload_n dX11_seen_58 rfl ?_
  refine a_aload_n dX11_seen_59 rfl ?_
  refine a_iload dX11_seen_60 rfl ?_
  refine a_callVi (as := [vi x4]) mf_X11_276 lyM_0 rfl (c_M_place F _ _) LYsame.rf dX11_seen_62 rfl rfl rfl rfl rfl rfl (Or.inl rfl) fun r12 σ13 => ?_
  refine a_callVi (as := [vi x3, vi r12]) mf_X11_273 lyM_0 rfl (c_M_waveOf F _ _ _) LYsame.rf dX11_seen_65 rfl rfl rfl rfl rfl rfl (Or.inl rfl) fun r14 σ15 => ?_
  refine a_imul dX11_seen_68 ?_
  refine a_aload_n dX11_seen_69 rfl ?_
  refine a_getI fl_X11_230 lyM_0 rfl dX11_seen_70 (key := 20) rfl ?_
  refine a_irem dX11_seen_73 (fun _ => ?_)
  refine a_bvi fun t16 => ?_
  refine a_iast lyM_7 rfl dX11_seen_74 fun σ17 => ?_
  refine a_bv fun x4_18 ex4_18 => ?_
  refine a_iinc (y := x4_18) (L' := [some (.ref 0), some (vl x1), none, some (vi x3), some (vi x4_18)]) dX11_seen_75 rfl ex4_18 rfl rfl rfl ?_
  refine a_goto dX11_seen_78 rfl ?_
  exact hself _ _ _ _
set_option maxRecDepth 100000 in
set_option maxHeartbeats 4000000 in
theorem cl_M_seen_26 {K : KX} (F : Nat) (k9 : St → Int → Int → Option (Int × St)) (h9 : ∀ σ x1 x3, WA 4 0 2 cX11_seen RX11 5 (some .long) LYM LYM K 9 [some (.ref 0), some (vl x1), none, some (vi x3), none] [] σ (k9 σ x1 x3)) : ∀ (n : Nat) (σ : St) (x1 x3 x4 : Int), WA 4 0 2 cX11_seen RX11 5 (some .long) LYM LYM K 26 [some (.ref 0), some (vl x1), none, some (vi x3), some (vi x4)] [] σ (l_M_seen_26 F k9 n σ x1 x3 x4)
  | 0, _, _, _, _ => a_none
  | n + 1, σ, x1, x3, x4 => cb_M_seen_26 F k9 h9 _ (cl_M_seen_26 F k9 h9 n) σ x1 x3 x4
set_option maxRecDepth 100000 in
set_option maxHeartbeats 4000000 in
theorem cb_M_seen_9 {K : KX} (F : Nat) (self : St → Int → Int → Option (Int × St)) (hself : ∀ σ x1 x3, WA 4 0 2 cX11_seen RX11 5 (some .long) LYM LYM K 9 [some (.ref 0), some (vl x1), none, some (vi x3), none] [] σ (self σ x1 x3)) (σ : St) (x1 x3 : Int) : WA 4 0 2 cX11_seen RX11 5 (some .long) LYM LYM K 9 [some (.ref 0), some (vl x1), none, some (vi x3), none] [] σ (b_M_seen_9 F self σ x1 x3) := by
  unfold b_M_seen_9
  refine a_iload_n dX11_seen_9 rfl ?_
  refine a_aload_n dX11_seen_10 rfl ?_
  refine a_getR (c0 := 2) fl_X11_33 lyM_0 rfl dX11_seen_11 (key := 6) rfl ?_
  refine a_iconst dX11_seen_14 ?_
  refine a_iald lyM_2 rfl dX11_seen_15 ?_
  refine a_icmp_ge dX11_seen_16 rfl (fun _ => ?_) (fun _ => ?_)
  · refine a_lload_n dX11_seen_104 rfl ?_
    exact a_lret dX11_seen_105
  refine a_aload_n dX11_seen_19 rfl ?_
  refine a_callVv (as := []) mf_X11_288 lyM_0 rfl (c_M_covers F _) LYsame.rf dX11_seen_20 rfl rfl rfl rfl rfl rfl (Or.inl rfl) fun r2 σ3 => ?_
  refine a_iconst dX11_seen_23 ?_
  refine a_istore (L' := [some (.ref 0), some (vl x1), none, some (vi x3), some (vi 0)]) dX11_seen_24 rfl rfl rfl rfl ?_
  exact cl_M_seen_26 F _ hself F _ _ _ _
set_option maxRecDepth 100000 in
set_option maxHeartbeats 4000000 in
theorem cl_M_seen_9 {K : KX} (F : Nat) : ∀ (n : Nat) (σ : St) (x1 x3 : Int), WA 4 0 2 cX11_seen RX11 5 (some .long) LYM LYM K 9 [some (.ref 0), some (vl x1), none, some (vi x3), none] [] σ (l_M_seen_9 F n σ x1 x3)
  | 0, _, _, _ => a_none
  | n + 1, σ, x1, x3 => cb_M_seen_9 F _ (cl_M_seen_9 F n) σ x1 x3
set_option maxRecDepth 100000 in
set_option maxHeartbeats 4000000 in
theorem c_M_seen (F : Nat) (σ : St) : Ct 4 0 2 yX11_seen cX11_seen 5 (some .long) LYM LYM [.ref 0] σ (f_M_seen F σ) := by
  unfold f_M_seen
  refine Ct_of (d := 4) (kp := 0) (kd := 2) (own := RX11) (nL := 5) (ret := (some .long)) (LY := LYM) (LYe := LYM) (L := [some (.ref 0), none, none, none, none]) rfl (by decide +kernel) rfl rfl mf_L_82.2.2.2.1 rfl fun K => ?_
  refine a_aload_n dX11_seen_0 rfl ?_
  refine a_iconst dX11_seen_1 ?_
  refine a_putI fl_X11_1 cf_X11 rfl rfl lyM_0 rfl dX11_seen_2 (key := 0) rfl fun σ1 => ?_
  refine a_lconst (v := 0) dX11_seen_5 rfl ?_
  refine a_lstore_n (L' := [some (.ref 0), some (vl 0), none, none, none]) dX11_seen_6 rfl rfl rfl rfl ?_
  refine a_iconst dX11_seen_7 ?_
  refine a_istore_n (L' := [some (.ref 0), some (vl 0), none, some (vi 0), none]) dX11_seen_8 rfl rfl rfl rfl ?_
  exact cl_M_seen_9 F F _ _ _
def b_M_areTwins_25 (F : Nat) (self : St → Int → Int → Int → Int → Option (Int × St)) (σ : St) (x3 x4 x5 x6 : Int) : Option (Int × St) := gd (inb 1 82) (gd (rng x6 ∧ rng (gA σ 2 (Int.toNat 1))) (if (gA σ 2 (Int.toNat 1)) ≤ x6 then some (1, σ) else bnd (f_M_has F σ x3 x6) fun r3 σ4 => gd (rng r3) (if r3 = 0 then bv (x6 + 1) fun x6_11 => self σ4 x3 x4 x5 x6_11 else bnd (f_M_place F σ4 x6) fun r5 σ6 => bnd (f_M_waveOf F σ6 x5 r5) fun r7 σ8 => gd (rng x4) (if x4 < 0 then bv (x6 + 1) fun x6_9 => self σ8 x3 r7 x5 x6_9 else gd (rng r7 ∧ rng x4) (if r7 = x4 then bv (x6 + 1) fun x6_10 => self σ8 x3 r7 x5 x6_10 else some (0, σ8))))))
def l_M_areTwins_25 (F : Nat) : Nat → St → Int → Int → Int → Int → Option (Int × St)
  | 0 => fun _ _ _ _ _ => none
  | n + 1 => fun σ x3 x4 x5 x6 => b_M_areTwins_25 F (l_M_areTwins_25 F n) σ x3 x4 x5 x6
def f_M_areTwins (F : Nat) (σ : St) (x1 x2 x3 : Int) : Option (Int × St) := gd (inb 0 82) (bv ((x2 + (gA σ 2 (Int.toNat 0))) - x1) fun t1 => gd (inb 0 82) (gd (rng t1 ∧ rng (gA σ 2 (Int.toNat 0)) ∧ (gA σ 2 (Int.toNat 0)) ≠ (0 : Int)) (bv (Int.tmod t1 (gA σ 2 (Int.toNat 0))) fun t2 => l_M_areTwins_25 F F σ x3 (-1) t2 0)))
set_option maxRecDepth 100000 in
set_option maxHeartbeats 4000000 in
theorem cb_M_areTwins_25 {K : KX} (F : Nat) (self : St → Int → Int → Int → Int → Option (Int × St)) (hself : ∀ σ x3 x4 x5 x6, WA 2 0 1 cX11_areTwins RX11 8 (some .boolean) LYM LYM K 25 [some (.ref 0), none, none, some (vi x3), some (vi x4), some (vi x5), some (vi x6), none] [] σ (self σ x3 x4 x5 x6)) (σ : St) (x3 x4 x5 x6 : Int) : WA 2 0 1 cX11_areTwins RX11 8 (some .boolean) LYM LYM K 25 [some (.ref 0), none, none, some (vi x3), some (vi x4), some (vi x5), some (vi x6), none] [] σ (b_M_areTwins_25 F self σ x3 x4 x5 x6) := by
  unfold b_M_areTwins_25
  refine a_iload dX11_areTwins_25 rfl ?_
  refine a_aload_n dX11_areTwins_27 rfl ?_
  refine a_getR (c0 := 2) fl_X11_33 lyM_0 rfl dX11_areTwins_28 (key := 6) rfl ?_
  refine a_iconst dX11_areTwins_31 ?_
  refine a_iald lyM_2 rfl dX11_areTwins_32 ?_
  refine a_icmp_ge dX11_areTwins_33 rfl (fun _ => ?_) (fun _ => ?_)
  · refine a_iconst dX11_areTwins_86 ?_
    exact a_zretc (by decide) dX11_areTwins_87
  refine a_iload_n dX11_areTwins_36 rfl ?_
  refine a_iload dX11_areTwins_37 rfl ?_
  refine a_callSi (as := [vi x3, vi x6]) mf_X11_294 (c_M_has F _ _ _) LYsame.rf dX11_areTwins_39 rfl rfl rfl rfl rfl rfl (Or.inl rfl) fun r3 σ4 => ?_
  refine a_if_ne dX11_areTwins_42 rfl (fun _ => ?_) (fun _ => ?_)
  · refine a_aload_n dX11_areTwins_48 rfl ?_
    refine a_iload dX11_areTwins_49 rfl ?_
    refine a_aload_n dX11_areTwins_51 rfl ?_
    refine a_iload dX11_areTwins_52 rfl ?_
    refine a_callVi (as := [vi x6]) mf_X11_276 lyM_0 rfl (c_M_place F _ _) LYsame.rf dX11_areTwins_54 rfl rfl rfl rfl rfl rfl (Or.inl rfl) fun r5 σ6 => ?_
    refine a_callVi (as := [vi x5, vi r5]) mf_X11_273 lyM_0 rfl (c_M_waveOf F _ _ _) LYsame.rf dX11_areTwins_57 rfl rfl rfl rfl rfl rfl (Or.inl rfl) fun r7 σ8 => ?_
    refine a_istore (L' := [some (.ref 0), none, none, some (vi x3), some (vi x4), some (vi x5), some (vi x6), some (vi r7)]) dX11_areTwins_60 rfl rfl rfl rfl ?_
    refine a_iload dX11_areTwins_62 rfl ?_
    refine a_if_lt dX11_areTwins_64 rfl (fun _ => ?_) (fun _ => ?_)
    · refine a_iload dX11_areTwins_76 rfl ?_
      refine a_istore (L' := [some (.ref 0), none, none, some (vi x3), some (vi r7), some (vi x5), some (vi x6), some (vi r7)]) dX11_areTwins_78 rfl rfl rfl rfl ?_
      refine a_bv fun x6_9 ex6_9 => ?_
      refine a_iinc (y := x6_9) (L' := [some (.ref 0), none, none, some (vi x3), some (vi r7), some (vi x5), some (vi x6_9), some (vi r7)]) dX11_areTwins_80 rfl ex6_9 rfl rfl rfl ?_
      refine a_goto dX11_areTwins_83 rfl ?_
      exact a_L (lsub_get (A := [some (.ref 0), none, none, some (vi x3), some (vi r7), some (vi x5), some (vi x6_9), none]) ⟨rfl, ⟨rfl, ⟨rfl, ⟨rfl, ⟨rfl, trivial⟩⟩⟩⟩⟩) (hself _ _ _ _ _)
    refine a_iload dX11_areTwins_67 rfl ?_
    refine a_iload dX11_areTwins_69 rfl ?_
    refine a_icmp_eq dX11_areTwins_71 rfl (fun _ => ?_) (fun _ => ?_)
    · refine a_iload dX11_areTwins_76 rfl ?_
      refine a_istore (L' := [some (.ref 0), none, none, some (vi x3), some (vi r7), some (vi x5), some (vi x6), some (vi r7)]) dX11_areTwins_78 rfl rfl rfl rfl ?_
      refine a_bv fun x6_10 ex6_10 => ?_
      refine a_iinc (y := x6_10) (L' := [some (.ref 0), none, none, some (vi x3), some (vi r7), some (vi x5), some (vi x6_10), some (vi r7)]) dX11_areTwins_80 rfl ex6_10 rfl rfl rfl ?_
      refine a_goto dX11_areTwins_83 rfl ?_
      exact a_L (lsub_get (A := [some (.ref 0), none, none, some (vi x3), some (vi r7), some (vi x5), some (vi x6_10), none]) ⟨rfl, ⟨rfl, ⟨rfl, ⟨rfl, ⟨rfl, trivial⟩⟩⟩⟩⟩) (hself _ _ _ _ _)
    refine a_iconst dX11_areTwins_74 ?_
    exact a_zretc (by decide) dX11_areTwins_75
  refine a_goto dX11_areTwins_45 rfl ?_
  refine a_bv fun x6_11 ex6_11 => ?_
  refine a_iinc (y := x6_11) (L' := [some (.ref 0), none, none, some (vi x3), some (vi x4), some (vi x5), some (vi x6_11), none]) dX11_areTwins_80 rfl ex6_11 rfl rfl rfl ?_
  refine a_goto dX11_areTwins_83 rfl ?_
  exact hself _ _ _ _ _
set_option maxRecDepth 100000 in
set_option maxHeartbeats 4000000 in
theorem cl_M_areTwins_25 {K : KX} (F : Nat) : ∀ (n : Nat) (σ : St) (x3 x4 x5 x6 : Int), WA 2 0 1 cX11_areTwins RX11 8 (some .boolean) LYM LYM K 25 [some (.ref 0), none, none, some (vi x3), some (vi x4), some (vi x5), some (vi x6), none] [] σ (l_M_areTwins_25 F n σ x3 x4 x5 x6)
  | 0, _, _, _, _, _ => a_none
  | n + 1, σ, x3, x4, x5, x6 => cb_M_areTwins_25 F _ (cl_M_areTwins_25 F n) σ x3 x4 x5 x6
set_option maxRecDepth 100000 in
set_option maxHeartbeats 4000000 in
theorem c_M_areTwins (F : Nat) (σ : St) (x1 x2 x3 : Int) : Ct 2 0 1 yX11_areTwins cX11_areTwins 8 (some .boolean) LYM LYM [.ref 0, vi x1, vi x2, vi x3] σ (f_M_areTwins F σ x1 x2 x3) := by
  unfold f_M_areTwins
  refine Ct_of (d := 2) (kp := 0) (kd := 1) (own := RX11) (nL := 8) (ret := (some .boolean)) (LY := LYM) (LYe := LYM) (L := [some (.ref 0), some (vi x1), some (vi x2), some (vi x3), none, none, none, none]) rfl (by decide +kernel) rfl rfl mf_X11_299.2.2.2.1 rfl fun K => ?_
  refine a_iconst dX11_areTwins_0 ?_
  refine a_istore (L' := [some (.ref 0), some (vi x1), some (vi x2), some (vi x3), some (vi (-1)), none, none, none]) dX11_areTwins_1 rfl rfl rfl rfl ?_
  refine a_iload_n dX11_areTwins_3 rfl ?_
  refine a_aload_n dX11_areTwins_4 rfl ?_
  refine a_getR (c0 := 2) fl_X11_33 lyM_0 rfl dX11_areTwins_5 (key := 6) rfl ?_
  refine a_iconst dX11_areTwins_8 ?_
  refine a_iald lyM_2 rfl dX11_areTwins_9 ?_
  refine a_iadd dX11_areTwins_10 ?_
  refine a_iload_n dX11_areTwins_11 rfl ?_
  refine a_isub dX11_areTwins_12 ?_
  refine a_bvi fun t1 => ?_
  refine a_aload_n dX11_areTwins_13 rfl ?_
  refine a_getR (c0 := 2) fl_X11_33 lyM_0 rfl dX11_areTwins_14 (key := 6) rfl ?_
  refine a_iconst dX11_areTwins_17 ?_
  refine a_iald lyM_2 rfl dX11_areTwins_18 ?_
  refine a_irem dX11_areTwins_19 (fun _ => ?_)
  refine a_bvi fun t2 => ?_
  refine a_istore (L' := [some (.ref 0), some (vi x1), some (vi x2), some (vi x3), some (vi (-1)), some (vi t2), none, none]) dX11_areTwins_20 rfl rfl rfl rfl ?_
  refine a_iconst dX11_areTwins_22 ?_
  refine a_istore (L' := [some (.ref 0), some (vi x1), some (vi x2), some (vi x3), some (vi (-1)), some (vi t2), some (vi 0), none]) dX11_areTwins_23 rfl rfl rfl rfl ?_
  exact a_L (lsub_get (A := [some (.ref 0), none, none, some (vi x3), some (vi (-1)), some (vi t2), some (vi 0), none]) ⟨rfl, ⟨rfl, ⟨rfl, ⟨rfl, ⟨rfl, trivial⟩⟩⟩⟩⟩) (cl_M_areTwins_25 F F _ _ _ _ _)
def b_M_twins_22 (F : Nat) (self : St → Int → Int → Int → Option (Int × St)) (σ : St) (x1 x2 x4 : Int) : Option (Int × St) := gd (inb 0 82) (gd (rng x4 ∧ rng (gA σ 2 (Int.toNat 0))) (if (gA σ 2 (Int.toNat 0)) ≤ x4 then some (x2, σ) else gd (rng x4 ∧ rng x1) (if x4 = x1 then bv (lorI x2 0) fun x2_4 => bv (x4 + 1) fun x4_5 => self σ x1 x2_4 x4_5 else bnd (f_M_areTwins F σ x1 x4 1023) fun r6 σ7 => gd (rng r6) (if r6 = 0 then bv (lorI x2 0) fun x2_8 => bv (x4 + 1) fun x4_9 => self σ7 x1 x2_8 x4_9 else gd (sh6 x4) (bv (lorI x2 (1 * 2 ^ (Int.toNat x4))) fun t10 => bv (x4 + 1) fun x4_11 => self σ7 x1 t10 x4_11)))))
def l_M_twins_22 (F : Nat) : Nat → St → Int → Int → Int → Option (Int × St)
  | 0 => fun _ _ _ _ => none
  | n + 1 => fun σ x1 x2 x4 => b_M_twins_22 F (l_M_twins_22 F n) σ x1 x2 x4
def f_M_twins (F : Nat) (σ : St) (x1 : Int) : Option (Int × St) := bs (sF σ 0 0) fun σ1 => bnd (f_M_isWay F σ1 x1) fun r2 σ3 => gd (rng r2) (if r2 = 0 then some ((-1), σ3) else l_M_twins_22 F F σ3 x1 0 0)
set_option maxRecDepth 100000 in
set_option maxHeartbeats 4000000 in
theorem cb_M_twins_22 {K : KX} (F : Nat) (self : St → Int → Int → Int → Option (Int × St)) (hself : ∀ σ x1 x2 x4, WA 3 0 2 cX11_twins RX11 5 (some .long) LYM LYM K 22 [some (.ref 0), some (vi x1), some (vl x2), none, some (vi x4)] [] σ (self σ x1 x2 x4)) (σ : St) (x1 x2 x4 : Int) : WA 3 0 2 cX11_twins RX11 5 (some .long) LYM LYM K 22 [some (.ref 0), some (vi x1), some (vl x2), none, some (vi x4)] [] σ (b_M_twins_22 F self σ x1 x2 x4) := by
  unfold b_M_twins_22
  refine a_iload dX11_twins_22 rfl ?_
  refine a_aload_n dX11_twins_24 rfl ?_
  refine a_getR (c0 := 2) fl_X11_33 lyM_0 rfl dX11_twins_25 (key := 6) rfl ?_
  refine a_iconst dX11_twins_28 ?_
  refine a_iald lyM_2 rfl dX11_twins_29 ?_
  refine a_icmp_ge dX11_twins_30 rfl (fun _ => ?_) (fun _ => ?_)
  · refine a_lload_n dX11_twins_69 rfl ?_
    exact a_lret dX11_twins_70
  refine a_lload_n dX11_twins_33 rfl ?_
  refine a_iload dX11_twins_34 rfl ?_
  refine a_iload_n dX11_twins_36 rfl ?_
  refine a_icmp_eq dX11_twins_37 rfl (fun _ => ?_) (fun _ => ?_)
  · refine a_lconst (v := 0) dX11_twins_60 rfl ?_
    refine a_lor dX11_twins_61 ?_
    refine a_bv fun x2_4 ex2_4 => ?_
    refine a_lstore_n (y := x2_4) (L' := [some (.ref 0), some (vi x1), some (vl x2_4), none, some (vi x4)]) dX11_twins_62 ex2_4 rfl rfl rfl ?_
    refine a_bv fun x4_5 ex4_5 => ?_
    refine a_iinc (y := x4_5) (L' := [some (.ref 0), some (vi x1), some (vl x2_4), none, some (vi x4_5)]) dX11_twins_63 rfl ex4_5 rfl rfl rfl ?_
    refine a_goto dX11_twins_66 rfl ?_
    exact hself _ _ _ _
  refine a_aload_n dX11_twins_40 rfl ?_
  refine a_iload_n dX11_twins_41 rfl ?_
  refine a_iload dX11_twins_42 rfl ?_
  refine a_sipush dX11_twins_44 si_1023 ?_
  refine a_callVi (as := [vi x1, vi x4, vi 1023]) mf_X11_299 lyM_0 rfl (c_M_areTwins F _ _ _ _) LYsame.rf dX11_twins_47 rfl rfl rfl rfl rfl rfl (Or.inl rfl) fun r6 σ7 => ?_
  refine a_if_eq dX11_twins_50 rfl (fun _ => ?_) (fun _ => ?_)
  · refine a_lconst (v := 0) dX11_twins_60 rfl ?_
    refine a_lor dX11_twins_61 ?_
    refine a_bv fun x2_8 ex2_8 => ?_
    refine a_lstore_n (y := x2_8) (L' := [some (.ref 0), some (vi x1), some (vl x2_8), none, some (vi x4)]) dX11_twins_62 ex2_8 rfl rfl rfl ?_
    refine a_bv fun x4_9 ex4_9 => ?_
    refine a_iinc (y := x4_9) (L' := [some (.ref 0), some (vi x1), some (vl x2_8), none, some (vi x4_9)]) dX11_twins_63 rfl ex4_9 rfl rfl rfl ?_
    refine a_goto dX11_twins_66 rfl ?_
    exact hself _ _ _ _
  refine a_lconst (v := 1) dX11_twins_53 rfl ?_
  refine a_iload dX11_twins_54 rfl ?_
  refine a_lshl dX11_twins_56 (fun _ => ?_)
  refine a_goto dX11_twins_57 rfl ?_
  refine a_lor dX11_twins_61 ?_
  refine a_bvl fun t10 => ?_
  refine a_lstore_n (L' := [some (.ref 0), some (vi x1), some (vl t10), none, some (vi x4)]) dX11_twins_62 rfl rfl rfl rfl ?_
  refine a_bv fun x4_11 ex4_11 => ?_
  refine a_iinc (y := x4_11) (L' := [some (.ref 0), some (vi x1), some (vl t10), none, some (vi x4_11)]) dX11_twins_63 rfl ex4_11 rfl rfl rfl ?_
  refine a_goto dX11_twins_66 rfl ?_
  exact hself _ _ _ _
set_option maxRecDepth 100000 in
set_option maxHeartbeats 4000000 in
theorem cl_M_twins_22 {K : KX} (F : Nat) : ∀ (n : Nat) (σ : St) (x1 x2 x4 : Int), WA 3 0 2 cX11_twins RX11 5 (some .long) LYM LYM K 22 [some (.ref 0), some (vi x1), some (vl x2), none, some (vi x4)] [] σ (l_M_twins_22 F n σ x1 x2 x4)
  | 0, _, _, _, _ => a_none
  | n + 1, σ, x1, x2, x4 => cb_M_twins_22 F _ (cl_M_twins_22 F n) σ x1 x2 x4
set_option maxRecDepth 100000 in
set_option maxHeartbeats 4000000 in
theorem c_M_twins (F : Nat) (σ : St) (x1 : Int) : Ct 3 0 2 yX11_twins cX11_twins 5 (some .long) LYM LYM [.ref 0, vi x1] σ (f_M_twins F σ x1) := by
  unfold f_M_twins
  refine Ct_of (d := 3) (kp := 0) (kd := 2) (own := RX11) (nL := 5) (ret := (some .long)) (LY := LYM) (LYe := LYM) (L := [some (.ref 0), some (vi x1), none, none, none]) rfl (by decide +kernel) rfl rfl mf_L_87.2.2.2.1 rfl fun K => ?_
  refine a_aload_n dX11_twins_0 rfl ?_
  refine a_iconst dX11_twins_1 ?_
  refine a_putI fl_X11_1 cf_X11 rfl rfl lyM_0 rfl dX11_twins_2 (key := 0) rfl fun σ1 => ?_
  refine a_aload_n dX11_twins_5 rfl ?_
  refine a_iload_n dX11_twins_6 rfl ?_
  refine a_callVi (as := [vi x1]) mf_X11_270 lyM_0 rfl (c_M_isWay F _ _) LYsame.rf dX11_twins_7 rfl rfl rfl rfl rfl rfl (Or.inl rfl) fun r2 σ3 => ?_
  refine a_if_ne dX11_twins_10 rfl (fun _ => ?_) (fun _ => ?_)
  · refine a_lconst (v := 0) dX11_twins_17 rfl ?_
    refine a_lstore_n (L' := [some (.ref 0), some (vi x1), some (vl 0), none, none]) dX11_twins_18 rfl rfl rfl rfl ?_
    refine a_iconst dX11_twins_19 ?_
    refine a_istore (L' := [some (.ref 0), some (vi x1), some (vl 0), none, some (vi 0)]) dX11_twins_20 rfl rfl rfl rfl ?_
    exact cl_M_twins_22 F F _ _ _ _
  refine a_ldc2 kc_X11_297 rfl dX11_twins_13 ?_
  exact a_lret dX11_twins_16
def b_M_isEven_2 (F : Nat) (self : St → Int → Option (Int × St)) (σ : St) (x1 : Int) : Option (Int × St) := gd (inb 1 82) (gd (rng x1 ∧ rng (gA σ 2 (Int.toNat 1))) (if (gA σ 2 (Int.toNat 1)) ≤ x1 then some (1, σ) else bnd (f_M_place F σ x1) fun r1 σ2 => bnd (f_M_place F σ2 (x1 - 1)) fun r3 σ4 => gd (rng r1 ∧ rng (r3 + 1)) (if r1 = (r3 + 1) then bv (x1 + 1) fun x1_5 => self σ4 x1_5 else some (0, σ4))))
def l_M_isEven_2 (F : Nat) : Nat → St → Int → Option (Int × St)
  | 0 => fun _ _ => none
  | n + 1 => fun σ x1 => b_M_isEven_2 F (l_M_isEven_2 F n) σ x1
def f_M_isEven (F : Nat) (σ : St) : Option (Int × St) := l_M_isEven_2 F F σ 1
set_option maxRecDepth 100000 in
set_option maxHeartbeats 4000000 in
theorem cb_M_isEven_2 {K : KX} (F : Nat) (self : St → Int → Option (Int × St)) (hself : ∀ σ x1, WA 2 0 1 cX11_isEven RX11 2 (some .boolean) LYM LYM K 2 [some (.ref 0), some (vi x1)] [] σ (self σ x1)) (σ : St) (x1 : Int) : WA 2 0 1 cX11_isEven RX11 2 (some .boolean) LYM LYM K 2 [some (.ref 0), some (vi x1)] [] σ (b_M_isEven_2 F self σ x1) := by
  unfold b_M_isEven_2
  refine a_iload_n dX11_isEven_2 rfl ?_
  refine a_aload_n dX11_isEven_3 rfl ?_
  refine a_getR (c0 := 2) fl_X11_33 lyM_0 rfl dX11_isEven_4 (key := 6) rfl ?_
  refine a_iconst dX11_isEven_7 ?_
  refine a_iald lyM_2 rfl dX11_isEven_8 ?_
  refine a_icmp_ge dX11_isEven_9 rfl (fun _ => ?_) (fun _ => ?_)
  · refine a_iconst dX11_isEven_37 ?_
    exact a_zretc (by decide) dX11_isEven_38
  refine a_aload_n dX11_isEven_12 rfl ?_
  refine a_iload_n dX11_isEven_13 rfl ?_
  refine a_callVi (as := [vi x1]) mf_X11_276 lyM_0 rfl (c_M_place F _ _) LYsame.rf dX11_isEven_14 rfl rfl rfl rfl rfl rfl (Or.inl rfl) fun r1 σ2 => ?_
  refine a_aload_n dX11_isEven_17 rfl ?_
  refine a_iload_n dX11_isEven_18 rfl ?_
  refine a_iconst dX11_isEven_19 ?_
  refine a_isub dX11_isEven_20 ?_
  refine a_callVi (as := [vi (x1 - 1)]) mf_X11_276 lyM_0 rfl (c_M_place F _ _) LYsame.rf dX11_isEven_21 rfl rfl rfl rfl rfl rfl (Or.inl rfl) fun r3 σ4 => ?_
  refine a_iconst dX11_isEven_24 ?_
  refine a_iadd dX11_isEven_25 ?_
  refine a_icmp_eq dX11_isEven_26 rfl (fun _ => ?_) (fun _ => ?_)
  · refine a_bv fun x1_5 ex1_5 => ?_
    refine a_iinc (y := x1_5) (L' := [some (.ref 0), some (vi x1_5)]) dX11_isEven_31 rfl ex1_5 rfl rfl rfl ?_
    refine a_goto dX11_isEven_34 rfl ?_
    exact hself _ _
  refine a_iconst dX11_isEven_29 ?_
  exact a_zretc (by decide) dX11_isEven_30
set_option maxRecDepth 100000 in
set_option maxHeartbeats 4000000 in
theorem cl_M_isEven_2 {K : KX} (F : Nat) : ∀ (n : Nat) (σ : St) (x1 : Int), WA 2 0 1 cX11_isEven RX11 2 (some .boolean) LYM LYM K 2 [some (.ref 0), some (vi x1)] [] σ (l_M_isEven_2 F n σ x1)
  | 0, _, _ => a_none
  | n + 1, σ, x1 => cb_M_isEven_2 F _ (cl_M_isEven_2 F n) σ x1
set_option maxRecDepth 100000 in
set_option maxHeartbeats 4000000 in
theorem c_M_isEven (F : Nat) (σ : St) : Ct 2 0 1 yX11_isEven cX11_isEven 2 (some .boolean) LYM LYM [.ref 0] σ (f_M_isEven F σ) := by
  unfold f_M_isEven
  refine Ct_of (d := 2) (kp := 0) (kd := 1) (own := RX11) (nL := 2) (ret := (some .boolean)) (LY := LYM) (LYe := LYM) (L := [some (.ref 0), none]) rfl (by decide +kernel) rfl rfl mf_X11_302.2.2.2.1 rfl fun K => ?_
  refine a_iconst dX11_isEven_0 ?_
  refine a_istore_n (L' := [some (.ref 0), some (vi 1)]) dX11_isEven_1 rfl rfl rfl rfl ?_
  exact cl_M_isEven_2 F F _ _
def f_M_isSmooth (F : Nat) (σ : St) (x1 : Int) : Option (Int × St) := gd (inb 1 82) (bnd (f_M_isIn F σ x1 1 (gA σ 2 (Int.toNat 1))) fun r1 σ2 => gd (rng r1) (if r1 = 0 then some (0, σ2) else bnd (f_M_isEven F σ2) fun r3 σ4 => gd (rng r3) (if r3 = 0 then some (0, σ4) else some (1, σ4))))
set_option maxRecDepth 100000 in
set_option maxHeartbeats 4000000 in
theorem c_M_isSmooth (F : Nat) (σ : St) (x1 : Int) : Ct 3 0 1 yX11_isSmooth cX11_isSmooth 2 (some .boolean) LYM LYM [.ref 0, vi x1] σ (f_M_isSmooth F σ x1) := by
  unfold f_M_isSmooth
  refine Ct_of (d := 3) (kp := 0) (kd := 1) (own := RX11) (nL := 2) (ret := (some .boolean)) (LY := LYM) (LYe := LYM) (L := [some (.ref 0), some (vi x1)]) rfl (by decide +kernel) rfl rfl mf_X11_305.2.2.2.1 rfl fun K => ?_
  refine a_iload_n dX11_isSmooth_0 rfl ?_
  refine a_iconst dX11_isSmooth_1 ?_
  refine a_aload_n dX11_isSmooth_2 rfl ?_
  refine a_getR (c0 := 2) fl_X11_33 lyM_0 rfl dX11_isSmooth_3 (key := 6) rfl ?_
  refine a_iconst dX11_isSmooth_6 ?_
  refine a_iald lyM_2 rfl dX11_isSmooth_7 ?_
  refine a_callSi (as := [vi x1, vi 1, vi (gA σ 2 (Int.toNat 1))]) mf_X11_175 (c_M_isIn F _ _ _ _) LYsame.rf dX11_isSmooth_8 rfl rfl rfl rfl rfl rfl (Or.inl rfl) fun r1 σ2 => ?_
  refine a_if_eq dX11_isSmooth_11 rfl (fun _ => ?_) (fun _ => ?_)
  · refine a_iconst dX11_isSmooth_25 ?_
    exact a_zretc (by decide) dX11_isSmooth_26
  refine a_aload_n dX11_isSmooth_14 rfl ?_
  refine a_callVi (as := []) mf_X11_302 lyM_0 rfl (c_M_isEven F _) LYsame.rf dX11_isSmooth_15 rfl rfl rfl rfl rfl rfl (Or.inl rfl) fun r3 σ4 => ?_
  refine a_if_eq dX11_isSmooth_18 rfl (fun _ => ?_) (fun _ => ?_)
  · refine a_iconst dX11_isSmooth_25 ?_
    exact a_zretc (by decide) dX11_isSmooth_26
  refine a_iconst dX11_isSmooth_21 ?_
  refine a_goto dX11_isSmooth_22 rfl ?_
  exact a_zretc (by decide) dX11_isSmooth_26
def f_M_smoothed (F : Nat) (σ : St) (x1 : Int) : Option (Int × St) := bs (sF σ 0 0) fun σ1 => bnd (f_M_isSmooth F σ1 x1) fun r2 σ3 => gd (rng r2) (if r2 = 0 then some ((-1), σ3) else bnd (f_M_smooth F σ3 x1) fun r4 σ5 => bnd (f_M_steps F σ5 (gF σ5 26)) fun r6 σ7 => some ((gF σ7 27), σ7))
set_option maxRecDepth 100000 in
set_option maxHeartbeats 4000000 in
theorem c_M_smoothed (F : Nat) (σ : St) (x1 : Int) : Ct 4 0 1 yX11_smoothed cX11_smoothed 2 (some .int) LYM LYM [.ref 0, vi x1] σ (f_M_smoothed F σ x1) := by
  unfold f_M_smoothed
  refine Ct_of (d := 4) (kp := 0) (kd := 1) (own := RX11) (nL := 2) (ret := (some .int)) (LY := LYM) (LYe := LYM) (L := [some (.ref 0), some (vi x1)]) rfl (by decide +kernel) rfl rfl mf_L_91.2.2.2.1 rfl fun K => ?_
  refine a_aload_n dX11_smoothed_0 rfl ?_
  refine a_iconst dX11_smoothed_1 ?_
  refine a_putI fl_X11_1 cf_X11 rfl rfl lyM_0 rfl dX11_smoothed_2 (key := 0) rfl fun σ1 => ?_
  refine a_aload_n dX11_smoothed_5 rfl ?_
  refine a_iload_n dX11_smoothed_6 rfl ?_
  refine a_callVi (as := [vi x1]) mf_X11_305 lyM_0 rfl (c_M_isSmooth F _ _) LYsame.rf dX11_smoothed_7 rfl rfl rfl rfl rfl rfl (Or.inl rfl) fun r2 σ3 => ?_
  refine a_if_ne dX11_smoothed_10 rfl (fun _ => ?_) (fun _ => ?_)
  · refine a_aload_n dX11_smoothed_15 rfl ?_
    refine a_iload_n dX11_smoothed_16 rfl ?_
    refine a_callVv (as := [vi x1]) mf_X11_308 lyM_0 rfl (c_M_smooth F _ _) LYsame.rf dX11_smoothed_17 rfl rfl rfl rfl rfl rfl (Or.inl rfl) fun r4 σ5 => ?_
    refine a_aload_n dX11_smoothed_20 rfl ?_
    refine a_aload_n dX11_smoothed_21 rfl ?_
    refine a_getI fl_X11_248 lyM_0 rfl dX11_smoothed_22 (key := 26) rfl ?_
    refine a_callVv (as := [vi (gF σ5 26)]) mf_X11_258 lyM_0 rfl (c_M_steps F _ _) LYsame.rf dX11_smoothed_25 rfl rfl rfl rfl rfl rfl (Or.inl rfl) fun r6 σ7 => ?_
    refine a_aload_n dX11_smoothed_28 rfl ?_
    refine a_getI fl_X11_245 lyM_0 rfl dX11_smoothed_29 (key := 27) rfl ?_
    exact a_iret dX11_smoothed_32
  refine a_iconst dX11_smoothed_13 ?_
  exact a_iret dX11_smoothed_14
def b_M_smoothSeen_41 (F : Nat) (k22 : St → Int → Int → Int → Option (Int × St)) (self : St → Int → Int → Int → Int → Option (Int × St)) (σ : St) (x1 x2 x4 x5 : Int) : Option (Int × St) := gd (rng x5 ∧ rng x1) (if x1 ≤ x5 then bnd (f_M_isMade F σ) fun r6 σ7 => gd (rng r6) (if r6 = 0 then bv (lorI x2 0) fun x2_8 => bv (x4 + 1) fun x4_9 => k22 σ7 x1 x2_8 x4_9 else gd (sh6 x4) (bv (lorI x2 (1 * 2 ^ (Int.toNat x4))) fun t10 => bv (x4 + 1) fun x4_11 => k22 σ7 x1 t10 x4_11)) else bnd (f_M_waveOf F σ x4 x5) fun r12 σ13 => gd (inb (((gF σ 25) * x5) + x1) 2800) (bs (sA σ13 7 (Int.toNat (((gF σ 25) * x5) + x1)) r12) fun σ14 => bv (x5 + 1) fun x5_15 => self σ14 x1 x2 x4 x5_15))
def l_M_smoothSeen_41 (F : Nat) (k22 : St → Int → Int → Int → Option (Int × St)) : Nat → St → Int → Int → Int → Int → Option (Int × St)
  | 0 => fun _ _ _ _ _ => none
  | n + 1 => fun σ x1 x2 x4 x5 => b_M_smoothSeen_41 F k22 (l_M_smoothSeen_41 F k22 n) σ x1 x2 x4 x5
def b_M_smoothSeen_22 (F : Nat) (self : St → Int → Int → Int → Option (Int × St)) (σ : St) (x1 x2 x4 : Int) : Option (Int × St) := gd (inb 0 82) (gd (rng x4 ∧ rng (gA σ 2 (Int.toNat 0))) (if (gA σ 2 (Int.toNat 0)) ≤ x4 then some (x2, σ) else bnd (f_M_smooth F σ x1) fun r4 σ5 => l_M_smoothSeen_41 F self F σ5 x1 x2 x4 0))
def l_M_smoothSeen_22 (F : Nat) : Nat → St → Int → Int → Int → Option (Int × St)
  | 0 => fun _ _ _ _ => none
  | n + 1 => fun σ x1 x2 x4 => b_M_smoothSeen_22 F (l_M_smoothSeen_22 F n) σ x1 x2 x4
def f_M_smoothSeen (F : Nat) (σ : St) (x1 : Int) : Option (Int × St) := bs (sF σ 0 0) fun σ1 => bnd (f_M_isSmooth F σ1 x1) fun r2 σ3 => gd (rng r2) (if r2 = 0 then some ((-1), σ3) else l_M_smoothSeen_22 F F σ3 x1 0 0)
set_option maxRecDepth 100000 in
set_option maxHeartbeats 4000000 in
theorem cb_M_smoothSeen_41 {K : KX} (F : Nat) (k22 : St → Int → Int → Int → Option (Int × St)) (h22 : ∀ σ x1 x2 x4, WA 4 0 2 cX11_smoothSeen RX11 6 (some .long) LYM LYM K 22 [some (.ref 0), some (vi x1), some (vl x2), none, some (vi x4), none] [] σ (k22 σ x1 x2 x4)) (self : St → Int → Int → Int → Int → Option (Int × St)) (hself : ∀ σ x1 x2 x4 x5, WA 4 0 2 cX11_smoothSeen RX11 6 (some .long) LYM LYM K 41 [some (.ref 0), some (vi x1), some (vl x2), none, some (vi x4), some (vi x5)] [] σ (self σ x1 x2 x4 x5)) (σ : St) (x1 x2 x4 x5 : Int) : WA 4 0 2 cX11_smoothSeen RX11 6 (some .long) LYM LYM K 41 [some (.ref 0), some (vi x1), some (vl x2), none, some (vi x4), some (vi x5)] [] σ (b_M_smoothSeen_41 F k22 self σ x1 x2 x4 x5) := by
  unfold b_M_smoothSeen_41
  refine a_iload dX11_smoothSeen_41 rfl ?_
  refine a_iload_n dX11_smoothSeen_43 rfl ?_
  refine a_icmp_ge dX11_smoothSeen_44 rfl (fun _ => ?_) (fun _ => ?_)
  · refine a_lload_n dX11_smoothSeen_75 rfl ?_
    refine a_aload_n dX11_smoothSeen_76 rfl ?_
    refine a_callVi (as := []) mf_X11_291 lyM_0 rfl (c_M_isMade F _) LYsame.rf dX11_smoothSeen_77 rfl rfl rfl rfl rfl rfl (Or.inl rfl) fun r6 σ7 => ?_
    refine a_if_eq dX11_smoothSeen_80 rfl (fun _ => ?_) (fun _ => ?_)
    · refine a_lconst (v := 0) dX11_smoothSeen_90 rfl ?_
      refine a_lor dX11_smoothSeen_91 ?_
      refine a_bv fun x2_8 ex2_8 => ?_
      refine a_lstore_n (y := x2_8) (L' := [some (.ref 0), some (vi x1), some (vl x2_8), none, some (vi x4), some (vi x5)]) dX11_smoothSeen_92 ex2_8 rfl rfl rfl ?_
      refine a_bv fun x4_9 ex4_9 => ?_
      refine a_iinc (y := x4_9) (L' := [some (.ref 0), some (vi x1), some (vl x2_8), none, some (vi x4_9), some (vi x5)]) dX11_smoothSeen_93 rfl ex4_9 rfl rfl rfl ?_
      refine a_goto dX11_smoothSeen_96 rfl ?_
      exact a_L (lsub_get (A := [some (.ref 0), some (vi x1), some (vl x2_8), none, some (vi x4_9), none]) ⟨rfl, ⟨rfl, ⟨rfl, ⟨rfl, trivial⟩⟩⟩⟩) (h22 _ _ _ _)
    refine a_lconst (v := 1) dX11_smoothSeen_83 rfl ?_
    refine a_iload dX11_smoothSeen_84 rfl ?_
    refine a_lshl dX11_smoothSeen_86 (fun _ => ?_)
    refine a_goto dX11_smoothSeen_87 rfl ?_
    refine a_lor dX11_smoothSeen_91 ?_
    refine a_bvl fun t10 => ?_
    refine a_lstore_n (L' := [some (.ref 0), some (vi x1), some (vl t10), none, some (vi x4), some (vi x5)]) dX11_smoothSeen_92 rfl rfl rfl rfl ?_
    refine a_bv fun x4_11 ex4_11 => ?_
    refine a_iinc (y := x4_11) (L' := [some (.ref 0), some (vi x1), some (vl t10), none, some (vi x4_11), some (vi x5)]) dX11_smoothSeen_93 rfl ex4_11 rfl rfl rfl ?_
    refine a_goto dX11_smoothSeen_96 rfl ?_
    exact a_L (lsub_get (A := [some (.ref 0), some (vi x1), some (vl t10), none, some (vi x4_11), none]) ⟨rfl, ⟨rfl, ⟨rfl, ⟨rfl, trivial⟩⟩⟩⟩) (h22 _ _ _ _)
  refine a_aload_n dX11_smoothSeen_47 rfl ?_
  refine a_getR (c0 := 7) fl_X11_50 lyM_0 rfl dX11_smoothSeen_48 (key := 23) rfl ?_
  refine a_aload_n dX11_smoothSeen_51 rfl ?_
  refine a_getI fl_X11_251 lyM_0 rfl dX11_smoothSeen_52 (key := 25) rfl ?_
  refine a_iload dX11_smoothSeen_55 rfl ?_
  refine a_imul dX11_smoothSeen_57 ?_
  refine a_iload_n dX11_smoothSeen_58 rfl ?_
  refine a_iadd dX11_smoothSeen_59 ?_
  refine a_aload_n dX11_smoothSeen_60 rfl ?_
  refine a_iload dX11_smoothSeen_61 rfl ?_
  refine a_iload dX11_smoothSeen_63 rfl ?_
  refine a_callVi (as := [vi x4, vi x5]) mf_X11_273 lyM_0 rfl (c_M_waveOf F _ _ _) LYsame.rf dX11_smoothSeen_65 rfl rfl rfl rfl rfl rfl (Or.inl rfl) fun r12 σ13 => ?_
  refine a_iast lyM_7 rfl dX11_smoothSeen_68 fun σ14 => ?_
  refine a_bv fun x5_15 ex5_15 => ?_
  refine a_iinc (y := x5_15) (L' := [some (.ref 0), some (vi x1), some (vl x2), none, some (vi x4), some (vi x5_15)]) dX11_smoothSeen_69 rfl ex5_15 rfl rfl rfl ?_
  refine a_goto dX11_smoothSeen_72 rfl ?_
  exact hself _ _ _ _ _
set_option maxRecDepth 100000 in
set_option maxHeartbeats 4000000 in
theorem cl_M_smoothSeen_41 {K : KX} (F : Nat) (k22 : St → Int → Int → Int → Option (Int × St)) (h22 : ∀ σ x1 x2 x4, WA 4 0 2 cX11_smoothSeen RX11 6 (some .long) LYM LYM K 22 [some (.ref 0), some (vi x1), some (vl x2), none, some (vi x4), none] [] σ (k22 σ x1 x2 x4)) : ∀ (n : Nat) (σ : St) (x1 x2 x4 x5 : Int), WA 4 0 2 cX11_smoothSeen RX11 6 (some .long) LYM LYM K 41 [some (.ref 0), some (vi x1), some (vl x2), none, some (vi x4), some (vi x5)] [] σ (l_M_smoothSeen_41 F k22 n σ x1 x2 x4 x5)
  | 0, _, _, _, _, _ => a_none
  | n + 1, σ, x1, x2, x4, x5 => cb_M_smoothSeen_41 F k22 h22 _ (cl_M_smoothSeen_41 F k22 h22 n) σ x1 x2 x4 x5
set_option maxRecDepth 100000 in
set_option maxHeartbeats 4000000 in
theorem cb_M_smoothSeen_22 {K : KX} (F : Nat) (self : St → Int → Int → Int → Option (Int × St)) (hself : ∀ σ x1 x2 x4, WA 4 0 2 cX11_smoothSeen RX11 6 (some .long) LYM LYM K 22 [some (.ref 0), some (vi x1), some (vl x2), none, some (vi x4), none] [] σ (self σ x1 x2 x4)) (σ : St) (x1 x2 x4 : Int) : WA 4 0 2 cX11_smoothSeen RX11 6 (some .long) LYM LYM K 22 [some (.ref 0), some (vi x1), some (vl x2), none, some (vi x4), none] [] σ (b_M_smoothSeen_22 F self σ x1 x2 x4) := by
  unfold b_M_smoothSeen_22
  refine a_iload dX11_smoothSeen_22 rfl ?_
  refine a_aload_n dX11_smoothSeen_24 rfl ?_
  refine a_getR (c0 := 2) fl_X11_33 lyM_0 rfl dX11_smoothSeen_25 (key := 6) rfl ?_
  refine a_iconst dX11_smoothSeen_28 ?_
  refine a_iald lyM_2 rfl dX11_smoothSeen_29 ?_
  refine a_icmp_ge dX11_smoothSeen_30 rfl (fun _ => ?_) (fun _ => ?_)
  · refine a_lload_n dX11_smoothSeen_99 rfl ?_
    exact a_lret dX11_smoothSeen_100
  refine a_aload_n dX11_smoothSeen_33 rfl ?_
  refine a_iload_n dX11_smoothSeen_34 rfl ?_
  refine a_callVv (as := [vi x1]) mf_X11_308 lyM_0 rfl (c_M_smooth F _ _) LYsame.rf dX11_smoothSeen_35 rfl rfl rfl rfl rfl rfl (Or.inl rfl) fun r4 σ5 => ?_
  refine a_iconst dX11_smoothSeen_38 ?_
  refine a_istore (L' := [some (.ref 0), some (vi x1), some (vl x2), none, some (vi x4), some (vi 0)]) dX11_smoothSeen_39 rfl rfl rfl rfl ?_
  exact cl_M_smoothSeen_41 F _ hself F _ _ _ _ _
set_option maxRecDepth 100000 in
set_option maxHeartbeats 4000000 in
theorem cl_M_smoothSeen_22 {K : KX} (F : Nat) : ∀ (n : Nat) (σ : St) (x1 x2 x4 : Int), WA 4 0 2 cX11_smoothSeen RX11 6 (some .long) LYM LYM K 22 [some (.ref 0), some (vi x1), some (vl x2), none, some (vi x4), none] [] σ (l_M_smoothSeen_22 F n σ x1 x2 x4)
  | 0, _, _, _, _ => a_none
  | n + 1, σ, x1, x2, x4 => cb_M_smoothSeen_22 F _ (cl_M_smoothSeen_22 F n) σ x1 x2 x4
set_option maxRecDepth 100000 in
set_option maxHeartbeats 4000000 in
theorem c_M_smoothSeen (F : Nat) (σ : St) (x1 : Int) : Ct 4 0 2 yX11_smoothSeen cX11_smoothSeen 6 (some .long) LYM LYM [.ref 0, vi x1] σ (f_M_smoothSeen F σ x1) := by
  unfold f_M_smoothSeen
  refine Ct_of (d := 4) (kp := 0) (kd := 2) (own := RX11) (nL := 6) (ret := (some .long)) (LY := LYM) (LYe := LYM) (L := [some (.ref 0), some (vi x1), none, none, none, none]) rfl (by decide +kernel) rfl rfl mf_L_95.2.2.2.1 rfl fun K => ?_
  refine a_aload_n dX11_smoothSeen_0 rfl ?_
  refine a_iconst dX11_smoothSeen_1 ?_
  refine a_putI fl_X11_1 cf_X11 rfl rfl lyM_0 rfl dX11_smoothSeen_2 (key := 0) rfl fun σ1 => ?_
  refine a_aload_n dX11_smoothSeen_5 rfl ?_
  refine a_iload_n dX11_smoothSeen_6 rfl ?_
  refine a_callVi (as := [vi x1]) mf_X11_305 lyM_0 rfl (c_M_isSmooth F _ _) LYsame.rf dX11_smoothSeen_7 rfl rfl rfl rfl rfl rfl (Or.inl rfl) fun r2 σ3 => ?_
  refine a_if_ne dX11_smoothSeen_10 rfl (fun _ => ?_) (fun _ => ?_)
  · refine a_lconst (v := 0) dX11_smoothSeen_17 rfl ?_
    refine a_lstore_n (L' := [some (.ref 0), some (vi x1), some (vl 0), none, none, none]) dX11_smoothSeen_18 rfl rfl rfl rfl ?_
    refine a_iconst dX11_smoothSeen_19 ?_
    refine a_istore (L' := [some (.ref 0), some (vi x1), some (vl 0), none, some (vi 0), none]) dX11_smoothSeen_20 rfl rfl rfl rfl ?_
    exact cl_M_smoothSeen_22 F F _ _ _ _
  refine a_ldc2 kc_X11_297 rfl dX11_smoothSeen_13 ?_
  exact a_lret dX11_smoothSeen_16
def b_M_apartOf_17 (F : Nat) (k4 : St → Int → Int → Int → Option (Int × St)) (self : St → Int → Int → Int → Int → Option (Int × St)) (σ : St) (x1 x2 x3 x4 : Int) : Option (Int × St) := gd (inb 1 82) (gd (rng x4 ∧ rng (gA σ 2 (Int.toNat 1))) (if (gA σ 2 (Int.toNat 1)) ≤ x4 then bv (x3 + 1) fun x3_1 => k4 σ x1 x2 x3_1 else bnd (f_M_place F σ x3) fun r2 σ3 => bnd (f_M_place F σ3 x4) fun r4 σ5 => gd (rng (r2 - r4) ∧ rng x1) (if (r2 - r4) = x1 then bv (x2 + 1) fun x2_8 => bv (x4 + 1) fun x4_9 => self σ5 x1 x2_8 x3 x4_9 else bv (x2 + 0) fun x2_6 => bv (x4 + 1) fun x4_7 => self σ5 x1 x2_6 x3 x4_7)))
def l_M_apartOf_17 (F : Nat) (k4 : St → Int → Int → Int → Option (Int × St)) : Nat → St → Int → Int → Int → Int → Option (Int × St)
  | 0 => fun _ _ _ _ _ => none
  | n + 1 => fun σ x1 x2 x3 x4 => b_M_apartOf_17 F k4 (l_M_apartOf_17 F k4 n) σ x1 x2 x3 x4
def b_M_apartOf_4 (F : Nat) (self : St → Int → Int → Int → Option (Int × St)) (σ : St) (x1 x2 x3 : Int) : Option (Int × St) := gd (inb 1 82) (gd (rng x3 ∧ rng (gA σ 2 (Int.toNat 1))) (if (gA σ 2 (Int.toNat 1)) ≤ x3 then some (x2, σ) else l_M_apartOf_17 F self F σ x1 x2 x3 0))
def l_M_apartOf_4 (F : Nat) : Nat → St → Int → Int → Int → Option (Int × St)
  | 0 => fun _ _ _ _ => none
  | n + 1 => fun σ x1 x2 x3 => b_M_apartOf_4 F (l_M_apartOf_4 F n) σ x1 x2 x3
def f_M_apartOf (F : Nat) (σ : St) (x1 : Int) : Option (Int × St) := l_M_apartOf_4 F F σ x1 0 0
set_option maxRecDepth 100000 in
set_option maxHeartbeats 4000000 in
theorem cb_M_apartOf_17 {K : KX} (F : Nat) (k4 : St → Int → Int → Int → Option (Int × St)) (h4 : ∀ σ x1 x2 x3, WA 2 0 1 cX11_apartOf RX11 5 (some .int) LYM LYM K 4 [some (.ref 0), some (vi x1), some (vi x2), some (vi x3), none] [] σ (k4 σ x1 x2 x3)) (self : St → Int → Int → Int → Int → Option (Int × St)) (hself : ∀ σ x1 x2 x3 x4, WA 2 0 1 cX11_apartOf RX11 5 (some .int) LYM LYM K 17 [some (.ref 0), some (vi x1), some (vi x2), some (vi x3), some (vi x4)] [] σ (self σ x1 x2 x3 x4)) (σ : St) (x1 x2 x3 x4 : Int) : WA 2 0 1 cX11_apartOf RX11 5 (some .int) LYM LYM K 17 [some (.ref 0), some (vi x1), some (vi x2), some (vi x3), some (vi x4)] [] σ (b_M_apartOf_17 F k4 self σ x1 x2 x3 x4) := by
  unfold b_M_apartOf_17
  refine a_iload dX11_apartOf_17 rfl ?_
  refine a_aload_n dX11_apartOf_19 rfl ?_
  refine a_getR (c0 := 2) fl_X11_33 lyM_0 rfl dX11_apartOf_20 (key := 6) rfl ?_
  refine a_iconst dX11_apartOf_23 ?_
  refine a_iald lyM_2 rfl dX11_apartOf_24 ?_
  refine a_icmp_ge dX11_apartOf_25 rfl (fun _ => ?_) (fun _ => ?_)
  · refine a_bv fun x3_1 ex3_1 => ?_
    refine a_iinc (y := x3_1) (L' := [some (.ref 0), some (vi x1), some (vi x2), some (vi x3_1), some (vi x4)]) dX11_apartOf_58 rfl ex3_1 rfl rfl rfl ?_
    refine a_goto dX11_apartOf_61 rfl ?_
    exact a_L (lsub_get (A := [some (.ref 0), some (vi x1), some (vi x2), some (vi x3_1), none]) ⟨rfl, ⟨rfl, ⟨rfl, ⟨rfl, trivial⟩⟩⟩⟩) (h4 _ _ _ _)
  refine a_iload_n dX11_apartOf_28 rfl ?_
  refine a_aload_n dX11_apartOf_29 rfl ?_
  refine a_iload_n dX11_apartOf_30 rfl ?_
  refine a_callVi (as := [vi x3]) mf_X11_276 lyM_0 rfl (c_M_place F _ _) LYsame.rf dX11_apartOf_31 rfl rfl rfl rfl rfl rfl (Or.inl rfl) fun r2 σ3 => ?_
  refine a_aload_n dX11_apartOf_34 rfl ?_
  refine a_iload dX11_apartOf_35 rfl ?_
  refine a_callVi (as := [vi x4]) mf_X11_276 lyM_0 rfl (c_M_place F _ _) LYsame.rf dX11_apartOf_37 rfl rfl rfl rfl rfl rfl (Or.inl rfl) fun r4 σ5 => ?_
  refine a_isub dX11_apartOf_40 ?_
  refine a_iload_n dX11_apartOf_41 rfl ?_
  refine a_icmp_ne dX11_apartOf_42 rfl (fun _ => ?_) (fun _ => ?_)
  · refine a_iconst dX11_apartOf_49 ?_
    refine a_iadd dX11_apartOf_50 ?_
    refine a_bv fun x2_6 ex2_6 => ?_
    refine a_istore_n (y := x2_6) (L' := [some (.ref 0), some (vi x1), some (vi x2_6), some (vi x3), some (vi x4)]) dX11_apartOf_51 ex2_6 rfl rfl rfl ?_
    refine a_bv fun x4_7 ex4_7 => ?_
    refine a_iinc (y := x4_7) (L' := [some (.ref 0), some (vi x1), some (vi x2_6), some (vi x3), some (vi x4_7)]) dX11_apartOf_52 rfl ex4_7 rfl rfl rfl ?_
    refine a_goto dX11_apartOf_55 rfl ?_
    exact hself _ _ _ _ _
  refine a_iconst dX11_apartOf_45 ?_
  refine a_goto dX11_apartOf_46 rfl ?_
  refine a_iadd dX11_apartOf_50 ?_
  refine a_bv fun x2_8 ex2_8 => ?_
  refine a_istore_n (y := x2_8) (L' := [some (.ref 0), some (vi x1), some (vi x2_8), some (vi x3), some (vi x4)]) dX11_apartOf_51 ex2_8 rfl rfl rfl ?_
  refine a_bv fun x4_9 ex4_9 => ?_
  refine a_iinc (y := x4_9) (L' := [some (.ref 0), some (vi x1), some (vi x2_8), some (vi x3), some (vi x4_9)]) dX11_apartOf_52 rfl ex4_9 rfl rfl rfl ?_
  refine a_goto dX11_apartOf_55 rfl ?_
  exact hself _ _ _ _ _
set_option maxRecDepth 100000 in
set_option maxHeartbeats 4000000 in
theorem cl_M_apartOf_17 {K : KX} (F : Nat) (k4 : St → Int → Int → Int → Option (Int × St)) (h4 : ∀ σ x1 x2 x3, WA 2 0 1 cX11_apartOf RX11 5 (some .int) LYM LYM K 4 [some (.ref 0), some (vi x1), some (vi x2), some (vi x3), none] [] σ (k4 σ x1 x2 x3)) : ∀ (n : Nat) (σ : St) (x1 x2 x3 x4 : Int), WA 2 0 1 cX11_apartOf RX11 5 (some .int) LYM LYM K 17 [some (.ref 0), some (vi x1), some (vi x2), some (vi x3), some (vi x4)] [] σ (l_M_apartOf_17 F k4 n σ x1 x2 x3 x4)
  | 0, _, _, _, _, _ => a_none
  | n + 1, σ, x1, x2, x3, x4 => cb_M_apartOf_17 F k4 h4 _ (cl_M_apartOf_17 F k4 h4 n) σ x1 x2 x3 x4
set_option maxRecDepth 100000 in
set_option maxHeartbeats 4000000 in
theorem cb_M_apartOf_4 {K : KX} (F : Nat) (self : St → Int → Int → Int → Option (Int × St)) (hself : ∀ σ x1 x2 x3, WA 2 0 1 cX11_apartOf RX11 5 (some .int) LYM LYM K 4 [some (.ref 0), some (vi x1), some (vi x2), some (vi x3), none] [] σ (self σ x1 x2 x3)) (σ : St) (x1 x2 x3 : Int) : WA 2 0 1 cX11_apartOf RX11 5 (some .int) LYM LYM K 4 [some (.ref 0), some (vi x1), some (vi x2), some (vi x3), none] [] σ (b_M_apartOf_4 F self σ x1 x2 x3) := by
  unfold b_M_apartOf_4
  refine a_iload_n dX11_apartOf_4 rfl ?_
  refine a_aload_n dX11_apartOf_5 rfl ?_
  refine a_getR (c0 := 2) fl_X11_33 lyM_0 rfl dX11_apartOf_6 (key := 6) rfl ?_
  refine a_iconst dX11_apartOf_9 ?_
  refine a_iald lyM_2 rfl dX11_apartOf_10 ?_
  refine a_icmp_ge dX11_apartOf_11 rfl (fun _ => ?_) (fun _ => ?_)
  · refine a_iload_n dX11_apartOf_64 rfl ?_
    exact a_iret dX11_apartOf_65
  refine a_iconst dX11_apartOf_14 ?_
  refine a_istore (L' := [some (.ref 0), some (vi x1), some (vi x2), some (vi x3), some (vi 0)]) dX11_apartOf_15 rfl rfl rfl rfl ?_
  exact cl_M_apartOf_17 F _ hself F _ _ _ _ _
set_option maxRecDepth 100000 in
set_option maxHeartbeats 4000000 in
theorem cl_M_apartOf_4 {K : KX} (F : Nat) : ∀ (n : Nat) (σ : St) (x1 x2 x3 : Int), WA 2 0 1 cX11_apartOf RX11 5 (some .int) LYM LYM K 4 [some (.ref 0), some (vi x1), some (vi x2), some (vi x3), none] [] σ (l_M_apartOf_4 F n σ x1 x2 x3)
  | 0, _, _, _, _ => a_none
  | n + 1, σ, x1, x2, x3 => cb_M_apartOf_4 F _ (cl_M_apartOf_4 F n) σ x1 x2 x3
set_option maxRecDepth 100000 in
set_option maxHeartbeats 4000000 in
theorem c_M_apartOf (F : Nat) (σ : St) (x1 : Int) : Ct 2 0 1 yX11_apartOf cX11_apartOf 5 (some .int) LYM LYM [.ref 0, vi x1] σ (f_M_apartOf F σ x1) := by
  unfold f_M_apartOf
  refine Ct_of (d := 2) (kp := 0) (kd := 1) (own := RX11) (nL := 5) (ret := (some .int)) (LY := LYM) (LYe := LYM) (L := [some (.ref 0), some (vi x1), none, none, none]) rfl (by decide +kernel) rfl rfl mf_X11_311.2.2.2.1 rfl fun K => ?_
  refine a_iconst dX11_apartOf_0 ?_
  refine a_istore_n (L' := [some (.ref 0), some (vi x1), some (vi 0), none, none]) dX11_apartOf_1 rfl rfl rfl rfl ?_
  refine a_iconst dX11_apartOf_2 ?_
  refine a_istore_n (L' := [some (.ref 0), some (vi x1), some (vi 0), some (vi 0), none]) dX11_apartOf_3 rfl rfl rfl rfl ?_
  exact cl_M_apartOf_4 F F _ _ _ _
def f_M_apart (F : Nat) (σ : St) (x1 : Int) : Option (Int × St) := bs (sF σ 0 0) fun σ1 => bnd (f_M_isIn F σ1 x1 0 99) fun r2 σ3 => gd (rng r2) (if r2 = 0 then some ((-1), σ3) else bnd (f_M_apartOf F σ3 x1) fun r4 σ5 => some (r4, σ5))
set_option maxRecDepth 100000 in
set_option maxHeartbeats 4000000 in
theorem c_M_apart (F : Nat) (σ : St) (x1 : Int) : Ct 3 0 1 yX11_apart cX11_apart 2 (some .int) LYM LYM [.ref 0, vi x1] σ (f_M_apart F σ x1) := by
  unfold f_M_apart
  refine Ct_of (d := 3) (kp := 0) (kd := 1) (own := RX11) (nL := 2) (ret := (some .int)) (LY := LYM) (LYe := LYM) (L := [some (.ref 0), some (vi x1)]) rfl (by decide +kernel) rfl rfl mf_L_99.2.2.2.1 rfl fun K => ?_
  refine a_aload_n dX11_apart_0 rfl ?_
  refine a_iconst dX11_apart_1 ?_
  refine a_putI fl_X11_1 cf_X11 rfl rfl lyM_0 rfl dX11_apart_2 (key := 0) rfl fun σ1 => ?_
  refine a_iload_n dX11_apart_5 rfl ?_
  refine a_iconst dX11_apart_6 ?_
  refine a_bipush dX11_apart_7 bi_99 ?_
  refine a_callSi (as := [vi x1, vi 0, vi 99]) mf_X11_175 (c_M_isIn F _ _ _ _) LYsame.rf dX11_apart_9 rfl rfl rfl rfl rfl rfl (Or.inl rfl) fun r2 σ3 => ?_
  refine a_if_eq dX11_apart_12 rfl (fun _ => ?_) (fun _ => ?_)
  · refine a_iconst dX11_apart_23 ?_
    exact a_iret dX11_apart_24
  refine a_aload_n dX11_apart_15 rfl ?_
  refine a_iload_n dX11_apart_16 rfl ?_
  refine a_callVi (as := [vi x1]) mf_X11_311 lyM_0 rfl (c_M_apartOf F _ _) LYsame.rf dX11_apart_17 rfl rfl rfl rfl rfl rfl (Or.inl rfl) fun r4 σ5 => ?_
  refine a_goto dX11_apart_20 rfl ?_
  exact a_iret dX11_apart_24
def b_M_runOf_2 (F : Nat) (self : St → Int → Option (Int × St)) (σ : St) (x1 : Int) : Option (Int × St) := gd (rng x1 ∧ rng 99) (if (99 : Int) ≤ x1 then some (x1, σ) else bnd (f_M_apartOf F σ (x1 + 1)) fun r1 σ2 => gd (rng r1) (if r1 ≤ 0 then some (x1, σ2) else bv (x1 + 1) fun x1_3 => self σ2 x1_3))
def l_M_runOf_2 (F : Nat) : Nat → St → Int → Option (Int × St)
  | 0 => fun _ _ => none
  | n + 1 => fun σ x1 => b_M_runOf_2 F (l_M_runOf_2 F n) σ x1
def f_M_runOf (F : Nat) (σ : St) : Option (Int × St) := l_M_runOf_2 F F σ (-1)
set_option maxRecDepth 100000 in
set_option maxHeartbeats 4000000 in
theorem cb_M_runOf_2 {K : KX} (F : Nat) (self : St → Int → Option (Int × St)) (hself : ∀ σ x1, WA 3 0 1 cX11_runOf RX11 2 (some .int) LYM LYM K 2 [some (.ref 0), some (vi x1)] [] σ (self σ x1)) (σ : St) (x1 : Int) : WA 3 0 1 cX11_runOf RX11 2 (some .int) LYM LYM K 2 [some (.ref 0), some (vi x1)] [] σ (b_M_runOf_2 F self σ x1) := by
  unfold b_M_runOf_2
  refine a_iload_n dX11_runOf_2 rfl ?_
  refine a_bipush dX11_runOf_3 bi_99 ?_
  refine a_icmp_ge dX11_runOf_5 rfl (fun _ => ?_) (fun _ => ?_)
  · refine a_iload_n dX11_runOf_24 rfl ?_
    exact a_iret dX11_runOf_25
  refine a_aload_n dX11_runOf_8 rfl ?_
  refine a_iload_n dX11_runOf_9 rfl ?_
  refine a_iconst dX11_runOf_10 ?_
  refine a_iadd dX11_runOf_11 ?_
  refine a_callVi (as := [vi (x1 + 1)]) mf_X11_311 lyM_0 rfl (c_M_apartOf F _ _) LYsame.rf dX11_runOf_12 rfl rfl rfl rfl rfl rfl (Or.inl rfl) fun r1 σ2 => ?_
  refine a_if_le dX11_runOf_15 rfl (fun _ => ?_) (fun _ => ?_)
  · refine a_iload_n dX11_runOf_24 rfl ?_
    exact a_iret dX11_runOf_25
  refine a_bv fun x1_3 ex1_3 => ?_
  refine a_iinc (y := x1_3) (L' := [some (.ref 0), some (vi x1_3)]) dX11_runOf_18 rfl ex1_3 rfl rfl rfl ?_
  refine a_goto dX11_runOf_21 rfl ?_
  exact hself _ _
set_option maxRecDepth 100000 in
set_option maxHeartbeats 4000000 in
theorem cl_M_runOf_2 {K : KX} (F : Nat) : ∀ (n : Nat) (σ : St) (x1 : Int), WA 3 0 1 cX11_runOf RX11 2 (some .int) LYM LYM K 2 [some (.ref 0), some (vi x1)] [] σ (l_M_runOf_2 F n σ x1)
  | 0, _, _ => a_none
  | n + 1, σ, x1 => cb_M_runOf_2 F _ (cl_M_runOf_2 F n) σ x1
set_option maxRecDepth 100000 in
set_option maxHeartbeats 4000000 in
theorem c_M_runOf (F : Nat) (σ : St) : Ct 3 0 1 yX11_runOf cX11_runOf 2 (some .int) LYM LYM [.ref 0] σ (f_M_runOf F σ) := by
  unfold f_M_runOf
  refine Ct_of (d := 3) (kp := 0) (kd := 1) (own := RX11) (nL := 2) (ret := (some .int)) (LY := LYM) (LYe := LYM) (L := [some (.ref 0), none]) rfl (by decide +kernel) rfl rfl mf_X11_314.2.2.2.1 rfl fun K => ?_
  refine a_iconst dX11_runOf_0 ?_
  refine a_istore_n (L' := [some (.ref 0), some (vi (-1))]) dX11_runOf_1 rfl rfl rfl rfl ?_
  exact cl_M_runOf_2 F F _ _
def f_M_run (F : Nat) (σ : St) : Option (Int × St) := bs (sF σ 0 0) fun σ1 => bnd (f_M_runOf F σ1) fun r2 σ3 => some (r2, σ3)
set_option maxRecDepth 100000 in
set_option maxHeartbeats 4000000 in
theorem c_M_run (F : Nat) (σ : St) : Ct 4 0 1 yX11_run cX11_run 1 (some .int) LYM LYM [.ref 0] σ (f_M_run F σ) := by
  unfold f_M_run
  refine Ct_of (d := 4) (kp := 0) (kd := 1) (own := RX11) (nL := 1) (ret := (some .int)) (LY := LYM) (LYe := LYM) (L := [some (.ref 0)]) rfl (by decide +kernel) rfl rfl mf_L_103.2.2.2.1 rfl fun K => ?_
  refine a_aload_n dX11_run_0 rfl ?_
  refine a_iconst dX11_run_1 ?_
  refine a_putI fl_X11_1 cf_X11 rfl rfl lyM_0 rfl dX11_run_2 (key := 0) rfl fun σ1 => ?_
  refine a_aload_n dX11_run_5 rfl ?_
  refine a_callVi (as := []) mf_X11_314 lyM_0 rfl (c_M_runOf F _) LYsame.rf dX11_run_6 rfl rfl rfl rfl rfl rfl (Or.inl rfl) fun r2 σ3 => ?_
  exact a_iret dX11_run_9
def b_M_lagOf_14 (F : Nat) (k2 : St → Int → Int → Option (Int × St)) (self : St → Int → Int → Int → Option (Int × St)) (σ : St) (x1 x2 x3 : Int) : Option (Int × St) := gd (inb 1 82) (gd (rng x3 ∧ rng (gA σ 2 (Int.toNat 1))) (if (gA σ 2 (Int.toNat 1)) ≤ x3 then bv (x2 + 1) fun x2_1 => k2 σ x1 x2_1 else bnd (f_M_place F σ x2) fun r2 σ3 => bnd (f_M_place F σ3 x3) fun r4 σ5 => gd (rng (r2 - r4) ∧ rng x1) (if (r2 - r4) = x1 then bnd (f_M_gain F σ5 x2) fun r6 σ7 => bnd (f_M_gain F σ7 x3) fun r8 σ9 => gd (rng (r6 * r8) ∧ rng (gF σ9 20) ∧ (gF σ9 20) ≠ (0 : Int)) (bv (Int.tmod (r6 * r8) (gF σ9 20)) fun t10 => gd (rng t10) (if t10 = 0 then some (0, σ9) else bnd (f_M_coverOf F σ9 x2 x3) fun r11 σ12 => bnd (f_M_inverse F σ12 t10) fun r13 σ14 => gd (rng (r11 * r13) ∧ rng (gF σ14 20) ∧ (gF σ14 20) ≠ (0 : Int)) (bv (Int.tmod (r11 * r13) (gF σ14 20)) fun t15 => some (t15, σ14)))) else bv (x3 + 1) fun x3_16 => self σ5 x1 x2 x3_16)))
def l_M_lagOf_14 (F : Nat) (k2 : St → Int → Int → Option (Int × St)) : Nat → St → Int → Int → Int → Option (Int × St)
  | 0 => fun _ _ _ _ => none
  | n + 1 => fun σ x1 x2 x3 => b_M_lagOf_14 F k2 (l_M_lagOf_14 F k2 n) σ x1 x2 x3
def b_M_lagOf_2 (F : Nat) (self : St → Int → Int → Option (Int × St)) (σ : St) (x1 x2 : Int) : Option (Int × St) := gd (inb 1 82) (gd (rng x2 ∧ rng (gA σ 2 (Int.toNat 1))) (if (gA σ 2 (Int.toNat 1)) ≤ x2 then some ((-1), σ) else l_M_lagOf_14 F self F σ x1 x2 0))
def l_M_lagOf_2 (F : Nat) : Nat → St → Int → Int → Option (Int × St)
  | 0 => fun _ _ _ => none
  | n + 1 => fun σ x1 x2 => b_M_lagOf_2 F (l_M_lagOf_2 F n) σ x1 x2
def f_M_lagOf (F : Nat) (σ : St) (x1 : Int) : Option (Int × St) := l_M_lagOf_2 F F σ x1 0
set_option maxRecDepth 100000 in
set_option maxHeartbeats 4000000 in
theorem cb_M_lagOf_14 {K : KX} (F : Nat) (k2 : St → Int → Int → Option (Int × St)) (h2 : ∀ σ x1 x2, WA 3 0 1 cX11_lagOf RX11 5 (some .int) LYM LYM K 2 [some (.ref 0), some (vi x1), some (vi x2), none, none] [] σ (k2 σ x1 x2)) (self : St → Int → Int → Int → Option (Int × St)) (hself : ∀ σ x1 x2 x3, WA 3 0 1 cX11_lagOf RX11 5 (some .int) LYM LYM K 14 [some (.ref 0), some (vi x1), some (vi x2), some (vi x3), none] [] σ (self σ x1 x2 x3)) (σ : St) (x1 x2 x3 : Int) : WA 3 0 1 cX11_lagOf RX11 5 (some .int) LYM LYM K 14 [some (.ref 0), some (vi x1), some (vi x2), some (vi x3), none] [] σ (b_M_lagOf_14 F k2 self σ x1 x2 x3) := by
  unfold b_M_lagOf_14
  refine a_iload_n dX11_lagOf_14 rfl ?_
  refine a_aload_n dX11_lagOf_15 rfl ?_
  refine a_getR (c0 := 2) fl_X11_33 lyM_0 rfl dX11_lagOf_16 (key := 6) rfl ?_
  refine a_iconst dX11_lagOf_19 ?_
  refine a_iald lyM_2 rfl dX11_lagOf_20 ?_
  refine a_icmp_ge dX11_lagOf_21 rfl (fun _ => ?_) (fun _ => ?_)
  · refine a_bv fun x2_1 ex2_1 => ?_
    refine a_iinc (y := x2_1) (L' := [some (.ref 0), some (vi x1), some (vi x2_1), some (vi x3), none]) dX11_lagOf_94 rfl ex2_1 rfl rfl rfl ?_
    refine a_goto dX11_lagOf_97 rfl ?_
    exact a_L (lsub_get (A := [some (.ref 0), some (vi x1), some (vi x2_1), none, none]) ⟨rfl, ⟨rfl, ⟨rfl, trivial⟩⟩⟩) (h2 _ _ _)
  refine a_aload_n dX11_lagOf_24 rfl ?_
  refine a_iload_n dX11_lagOf_25 rfl ?_
  refine a_callVi (as := [vi x2]) mf_X11_276 lyM_0 rfl (c_M_place F _ _) LYsame.rf dX11_lagOf_26 rfl rfl rfl rfl rfl rfl (Or.inl rfl) fun r2 σ3 => ?_
  refine a_aload_n dX11_lagOf_29 rfl ?_
  refine a_iload_n dX11_lagOf_30 rfl ?_
  refine a_callVi (as := [vi x3]) mf_X11_276 lyM_0 rfl (c_M_place F _ _) LYsame.rf dX11_lagOf_31 rfl rfl rfl rfl rfl rfl (Or.inl rfl) fun r4 σ5 => ?_
  refine a_isub dX11_lagOf_34 ?_
  refine a_iload_n dX11_lagOf_35 rfl ?_
  refine a_icmp_eq dX11_lagOf_36 rfl (fun _ => ?_) (fun _ => ?_)
  · refine a_aload_n dX11_lagOf_42 rfl ?_
    refine a_iload_n dX11_lagOf_43 rfl ?_
    refine a_callVi (as := [vi x2]) mf_X11_279 lyM_0 rfl (c_M_gain F _ _) LYsame.rf dX11_lagOf_44 rfl rfl rfl rfl rfl rfl (Or.inl rfl) fun r6 σ7 => ?_
    refine a_aload_n dX11_lagOf_47 rfl ?_
    refine a_iload_n dX11_lagOf_48 rfl ?_
    refine a_callVi (as := [vi x3]) mf_X11_279 lyM_0 rfl (c_M_gain F _ _) LYsame.rf dX11_lagOf_49 rfl rfl rfl rfl rfl rfl (Or.inl rfl) fun r8 σ9 => ?_
    refine a_imul dX11_lagOf_52 ?_
    refine a_aload_n dX11_lagOf_53 rfl ?_
    refine a_getI fl_X11_230 lyM_0 rfl dX11_lagOf_54 (key := 20) rfl ?_
    refine a_irem dX11_lagOf_57 (fun _ => ?_)
    refine a_bvi fun t10 => ?_
    refine a_istore (L' := [some (.ref 0), some (vi x1), some (vi x2), some (vi x3), some (vi t10)]) dX11_lagOf_58 rfl rfl rfl rfl ?_
    refine a_iload dX11_lagOf_60 rfl ?_
    refine a_if_ne dX11_lagOf_62 rfl (fun _ => ?_) (fun _ => ?_)
    · refine a_aload_n dX11_lagOf_69 rfl ?_
      refine a_iload_n dX11_lagOf_70 rfl ?_
      refine a_iload_n dX11_lagOf_71 rfl ?_
      refine a_callVi (as := [vi x2, vi x3]) mf_X11_285 lyM_0 rfl (c_M_coverOf F _ _ _) LYsame.rf dX11_lagOf_72 rfl rfl rfl rfl rfl rfl (Or.inl rfl) fun r11 σ12 => ?_
      refine a_aload_n dX11_lagOf_75 rfl ?_
      refine a_iload dX11_lagOf_76 rfl ?_
      refine a_callVi (as := [vi t10]) mf_X11_254 lyM_0 rfl (c_M_inverse F _ _) LYsame.rf dX11_lagOf_78 rfl rfl rfl rfl rfl rfl (Or.inl rfl) fun r13 σ14 => ?_
      refine a_imul dX11_lagOf_81 ?_
      refine a_aload_n dX11_lagOf_82 rfl ?_
      refine a_getI fl_X11_230 lyM_0 rfl dX11_lagOf_83 (key := 20) rfl ?_
      refine a_irem dX11_lagOf_86 (fun _ => ?_)
      refine a_bvi fun t15 => ?_
      exact a_iret dX11_lagOf_87
    refine a_iconst dX11_lagOf_65 ?_
    refine a_goto dX11_lagOf_66 rfl ?_
    exact a_iret dX11_lagOf_87
  refine a_goto dX11_lagOf_39 rfl ?_
  refine a_bv fun x3_16 ex3_16 => ?_
  refine a_iinc (y := x3_16) (L' := [some (.ref 0), some (vi x1), some (vi x2), some (vi x3_16), none]) dX11_lagOf_88 rfl ex3_16 rfl rfl rfl ?_
  refine a_goto dX11_lagOf_91 rfl ?_
  exact hself _ _ _ _
set_option maxRecDepth 100000 in
set_option maxHeartbeats 4000000 in
theorem cl_M_lagOf_14 {K : KX} (F : Nat) (k2 : St → Int → Int → Option (Int × St)) (h2 : ∀ σ x1 x2, WA 3 0 1 cX11_lagOf RX11 5 (some .int) LYM LYM K 2 [some (.ref 0), some (vi x1), some (vi x2), none, none] [] σ (k2 σ x1 x2)) : ∀ (n : Nat) (σ : St) (x1 x2 x3 : Int), WA 3 0 1 cX11_lagOf RX11 5 (some .int) LYM LYM K 14 [some (.ref 0), some (vi x1), some (vi x2), some (vi x3), none] [] σ (l_M_lagOf_14 F k2 n σ x1 x2 x3)
  | 0, _, _, _, _ => a_none
  | n + 1, σ, x1, x2, x3 => cb_M_lagOf_14 F k2 h2 _ (cl_M_lagOf_14 F k2 h2 n) σ x1 x2 x3
set_option maxRecDepth 100000 in
set_option maxHeartbeats 4000000 in
theorem cb_M_lagOf_2 {K : KX} (F : Nat) (self : St → Int → Int → Option (Int × St)) (hself : ∀ σ x1 x2, WA 3 0 1 cX11_lagOf RX11 5 (some .int) LYM LYM K 2 [some (.ref 0), some (vi x1), some (vi x2), none, none] [] σ (self σ x1 x2)) (σ : St) (x1 x2 : Int) : WA 3 0 1 cX11_lagOf RX11 5 (some .int) LYM LYM K 2 [some (.ref 0), some (vi x1), some (vi x2), none, none] [] σ (b_M_lagOf_2 F self σ x1 x2) := by
  unfold b_M_lagOf_2
  refine a_iload_n dX11_lagOf_2 rfl ?_
  refine a_aload_n dX11_lagOf_3 rfl ?_
  refine a_getR (c0 := 2) fl_X11_33 lyM_0 rfl dX11_lagOf_4 (key := 6) rfl ?_
  refine a_iconst dX11_lagOf_7 ?_
  refine a_iald lyM_2 rfl dX11_lagOf_8 ?_
  refine a_icmp_ge dX11_lagOf_9 rfl (fun _ => ?_) (fun _ => ?_)
  · refine a_iconst dX11_lagOf_100 ?_
    exact a_iret dX11_lagOf_101
  refine a_iconst dX11_lagOf_12 ?_
  refine a_istore_n (L' := [some (.ref 0), some (vi x1), some (vi x2), some (vi 0), none]) dX11_lagOf_13 rfl rfl rfl rfl ?_
  exact cl_M_lagOf_14 F _ hself F _ _ _ _
set_option maxRecDepth 100000 in
set_option maxHeartbeats 4000000 in
theorem cl_M_lagOf_2 {K : KX} (F : Nat) : ∀ (n : Nat) (σ : St) (x1 x2 : Int), WA 3 0 1 cX11_lagOf RX11 5 (some .int) LYM LYM K 2 [some (.ref 0), some (vi x1), some (vi x2), none, none] [] σ (l_M_lagOf_2 F n σ x1 x2)
  | 0, _, _, _ => a_none
  | n + 1, σ, x1, x2 => cb_M_lagOf_2 F _ (cl_M_lagOf_2 F n) σ x1 x2
set_option maxRecDepth 100000 in
set_option maxHeartbeats 4000000 in
theorem c_M_lagOf (F : Nat) (σ : St) (x1 : Int) : Ct 3 0 1 yX11_lagOf cX11_lagOf 5 (some .int) LYM LYM [.ref 0, vi x1] σ (f_M_lagOf F σ x1) := by
  unfold f_M_lagOf
  refine Ct_of (d := 3) (kp := 0) (kd := 1) (own := RX11) (nL := 5) (ret := (some .int)) (LY := LYM) (LYe := LYM) (L := [some (.ref 0), some (vi x1), none, none, none]) rfl (by decide +kernel) rfl rfl mf_X11_317.2.2.2.1 rfl fun K => ?_
  refine a_iconst dX11_lagOf_0 ?_
  refine a_istore_n (L' := [some (.ref 0), some (vi x1), some (vi 0), none, none]) dX11_lagOf_1 rfl rfl rfl rfl ?_
  exact cl_M_lagOf_2 F F _ _ _
def f_M_lag (F : Nat) (σ : St) (x1 : Int) : Option (Int × St) := bs (sF σ 0 0) fun σ1 => bnd (f_M_isIn F σ1 x1 0 99) fun r2 σ3 => gd (rng r2) (if r2 = 0 then some ((-1), σ3) else bnd (f_M_lagOf F σ3 x1) fun r4 σ5 => some (r4, σ5))
set_option maxRecDepth 100000 in
set_option maxHeartbeats 4000000 in
theorem c_M_lag (F : Nat) (σ : St) (x1 : Int) : Ct 4 0 1 yX11_lag cX11_lag 2 (some .int) LYM LYM [.ref 0, vi x1] σ (f_M_lag F σ x1) := by
  unfold f_M_lag
  refine Ct_of (d := 4) (kp := 0) (kd := 1) (own := RX11) (nL := 2) (ret := (some .int)) (LY := LYM) (LYe := LYM) (L := [some (.ref 0), some (vi x1)]) rfl (by decide +kernel) rfl rfl mf_L_107.2.2.2.1 rfl fun K => ?_
  refine a_aload_n dX11_lag_0 rfl ?_
  refine a_iconst dX11_lag_1 ?_
  refine a_putI fl_X11_1 cf_X11 rfl rfl lyM_0 rfl dX11_lag_2 (key := 0) rfl fun σ1 => ?_
  refine a_iload_n dX11_lag_5 rfl ?_
  refine a_iconst dX11_lag_6 ?_
  refine a_bipush dX11_lag_7 bi_99 ?_
  refine a_callSi (as := [vi x1, vi 0, vi 99]) mf_X11_175 (c_M_isIn F _ _ _ _) LYsame.rf dX11_lag_9 rfl rfl rfl rfl rfl rfl (Or.inl rfl) fun r2 σ3 => ?_
  refine a_if_eq dX11_lag_12 rfl (fun _ => ?_) (fun _ => ?_)
  · refine a_iconst dX11_lag_23 ?_
    exact a_iret dX11_lag_24
  refine a_aload_n dX11_lag_15 rfl ?_
  refine a_iload_n dX11_lag_16 rfl ?_
  refine a_callVi (as := [vi x1]) mf_X11_317 lyM_0 rfl (c_M_lagOf F _ _) LYsame.rf dX11_lag_17 rfl rfl rfl rfl rfl rfl (Or.inl rfl) fun r4 σ5 => ?_
  refine a_goto dX11_lag_20 rfl ?_
  exact a_iret dX11_lag_24
def b_M_hasRule_124 (F : Nat) (self : St → Int → Int → Option (Int × St)) (σ : St) (x2 x3 : Int) : Option (Int × St) := gd (rng x3 ∧ rng x2) (if x2 < x3 then some (1, σ) else gd (rng (gF σ 26)) (if (gF σ 26) = 0 then gd (inb x3 101) (bs (sA σ 10 (Int.toNat x3) 0) fun σ9 => bv (x3 + 1) fun x3_10 => self σ9 x2 x3_10) else bnd (f_M_share F σ (x3 - 1)) fun r5 σ6 => gd (inb x3 101) (bs (sA σ6 10 (Int.toNat x3) r5) fun σ7 => bv (x3 + 1) fun x3_8 => self σ7 x2 x3_8)))
def l_M_hasRule_124 (F : Nat) : Nat → St → Int → Int → Option (Int × St)
  | 0 => fun _ _ _ => none
  | n + 1 => fun σ x2 x3 => b_M_hasRule_124 F (l_M_hasRule_124 F n) σ x2 x3
def b_M_hasRule_22 (F : Nat) (k14 : St → Int → Int → Int → Option (Int × St)) (self : St → Int → Int → Int → Int → Option (Int × St)) (σ : St) (x1 x2 x3 x4 : Int) : Option (Int × St) := gd (rng x4 ∧ rng x2) (if x2 < x4 then gd (inb x3 100) (gd (inb (((gF σ 25) * (gF σ 26)) + x2) 2800) (bs (sA σ 7 (Int.toNat (((gF σ 25) * (gF σ 26)) + x2)) (gA σ 9 (Int.toNat x3))) fun σ11 => bs (sF σ11 26 ((gF σ11 26) + 1)) fun σ12 => bnd (f_M_isMade F σ12) fun r13 σ14 => gd (rng r13) (if r13 = 0 then some (0, σ14) else bs (sF σ14 26 (gF σ14 27)) fun σ15 => bv (x3 + 1) fun x3_16 => k14 σ15 x1 x2 x3_16))) else bv ((((gF σ 25) * (gF σ 26)) + x4) - 1) fun t17 => gd (inb (x3 - x4) 100) (gd (inb t17 2800) (bs (sA σ 7 (Int.toNat t17) (gA σ 9 (Int.toNat (x3 - x4)))) fun σ18 => bv (x4 + 1) fun x4_19 => self σ18 x1 x2 x3 x4_19)))
def l_M_hasRule_22 (F : Nat) (k14 : St → Int → Int → Int → Option (Int × St)) : Nat → St → Int → Int → Int → Int → Option (Int × St)
  | 0 => fun _ _ _ _ _ => none
  | n + 1 => fun σ x1 x2 x3 x4 => b_M_hasRule_22 F k14 (l_M_hasRule_22 F k14 n) σ x1 x2 x3 x4
def b_M_hasRule_14 (F : Nat) (self : St → Int → Int → Int → Option (Int × St)) (σ : St) (x1 x2 x3 : Int) : Option (Int × St) := gd (rng x3 ∧ rng x1) (if x1 ≤ x3 then bnd (f_M_steps F σ x2) fun r3 σ4 => l_M_hasRule_124 F F σ4 x2 1 else l_M_hasRule_22 F self F σ x1 x2 x3 1)
def l_M_hasRule_14 (F : Nat) : Nat → St → Int → Int → Int → Option (Int × St)
  | 0 => fun _ _ _ _ => none
  | n + 1 => fun σ x1 x2 x3 => b_M_hasRule_14 F (l_M_hasRule_14 F n) σ x1 x2 x3
def f_M_hasRule (F : Nat) (σ : St) (x1 x2 : Int) : Option (Int × St) := bs (sF σ 25 (x2 + 1)) fun σ1 => bs (sF σ1 26 0) fun σ2 => l_M_hasRule_14 F F σ2 x1 x2 x2
set_option maxRecDepth 100000 in
set_option maxHeartbeats 4000000 in
theorem cb_M_hasRule_124 {K : KX} (F : Nat) (self : St → Int → Int → Option (Int × St)) (hself : ∀ σ x2 x3, WA 4 0 1 cX11_hasRule RX11 5 (some .boolean) LYM LYM K 124 [some (.ref 0), none, some (vi x2), some (vi x3), none] [] σ (self σ x2 x3)) (σ : St) (x2 x3 : Int) : WA 4 0 1 cX11_hasRule RX11 5 (some .boolean) LYM LYM K 124 [some (.ref 0), none, some (vi x2), some (vi x3), none] [] σ (b_M_hasRule_124 F self σ x2 x3) := by
  unfold b_M_hasRule_124
  refine a_iload_n dX11_hasRule_124 rfl ?_
  refine a_iload_n dX11_hasRule_125 rfl ?_
  refine a_icmp_gt dX11_hasRule_126 rfl (fun _ => ?_) (fun _ => ?_)
  · refine a_iconst dX11_hasRule_159 ?_
    exact a_zretc (by decide) dX11_hasRule_160
  refine a_aload_n dX11_hasRule_129 rfl ?_
  refine a_getR (c0 := 10) fl_X11_59 lyM_0 rfl dX11_hasRule_130 (key := 29) rfl ?_
  refine a_iload_n dX11_hasRule_133 rfl ?_
  refine a_aload_n dX11_hasRule_134 rfl ?_
  refine a_getI fl_X11_248 lyM_0 rfl dX11_hasRule_135 (key := 26) rfl ?_
  refine a_if_ne dX11_hasRule_138 rfl (fun _ => ?_) (fun _ => ?_)
  · refine a_aload_n dX11_hasRule_145 rfl ?_
    refine a_iload_n dX11_hasRule_146 rfl ?_
    refine a_iconst dX11_hasRule_147 ?_
    refine a_isub dX11_hasRule_148 ?_
    refine a_callVi (as := [vi (x3 - 1)]) mf_X11_320 lyM_0 rfl (c_M_share F _ _) LYsame.rf dX11_hasRule_149 rfl rfl rfl rfl rfl rfl (Or.inl rfl) fun r5 σ6 => ?_
    refine a_iast lyM_10 rfl dX11_hasRule_152 fun σ7 => ?_
    refine a_bv fun x3_8 ex3_8 => ?_
    refine a_iinc (y := x3_8) (L' := [some (.ref 0), none, some (vi x2), some (vi x3_8), none]) dX11_hasRule_153 rfl ex3_8 rfl rfl rfl ?_
    refine a_goto dX11_hasRule_156 rfl ?_
    exact hself _ _ _
  refine a_iconst dX11_hasRule_141 ?_
  refine a_goto dX11_hasRule_142 rfl ?_
  refine a_iast lyM_10 rfl dX11_hasRule_152 fun σ9 => ?_
  refine a_bv fun x3_10 ex3_10 => ?_
  refine a_iinc (y := x3_10) (L' := [some (.ref 0), none, some (vi x2), some (vi x3_10), none]) dX11_hasRule_153 rfl ex3_10 rfl rfl rfl ?_
  refine a_goto dX11_hasRule_156 rfl ?_
  exact hself _ _ _
set_option maxRecDepth 100000 in
set_option maxHeartbeats 4000000 in
theorem cl_M_hasRule_124 {K : KX} (F : Nat) : ∀ (n : Nat) (σ : St) (x2 x3 : Int), WA 4 0 1 cX11_hasRule RX11 5 (some .boolean) LYM LYM K 124 [some (.ref 0), none, some (vi x2), some (vi x3), none] [] σ (l_M_hasRule_124 F n σ x2 x3)
  | 0, _, _, _ => a_none
  | n + 1, σ, x2, x3 => cb_M_hasRule_124 F _ (cl_M_hasRule_124 F n) σ x2 x3
set_option maxRecDepth 100000 in
set_option maxHeartbeats 4000000 in
theorem cb_M_hasRule_22 {K : KX} (F : Nat) (k14 : St → Int → Int → Int → Option (Int × St)) (h14 : ∀ σ x1 x2 x3, WA 4 0 1 cX11_hasRule RX11 5 (some .boolean) LYM LYM K 14 [some (.ref 0), some (vi x1), some (vi x2), some (vi x3), none] [] σ (k14 σ x1 x2 x3)) (self : St → Int → Int → Int → Int → Option (Int × St)) (hself : ∀ σ x1 x2 x3 x4, WA 4 0 1 cX11_hasRule RX11 5 (some .boolean) LYM LYM K 22 [some (.ref 0), some (vi x1), some (vi x2), some (vi x3), some (vi x4)] [] σ (self σ x1 x2 x3 x4)) (σ : St) (x1 x2 x3 x4 : Int) : WA 4 0 1 cX11_hasRule RX11 5 (some .boolean) LYM LYM K 22 [some (.ref 0), some (vi x1), some (vi x2), some (vi x3), some (vi x4)] [] σ (b_M_hasRule_22 F k14 self σ x1 x2 x3 x4) := by
  unfold b_M_hasRule_22
  refine a_iload dX11_hasRule_22 rfl ?_
  refine a_iload_n dX11_hasRule_24 rfl ?_
  refine a_icmp_gt dX11_hasRule_25 rfl (fun _ => ?_) (fun _ => ?_)
  · refine a_aload_n dX11_hasRule_62 rfl ?_
    refine a_getR (c0 := 7) fl_X11_50 lyM_0 rfl dX11_hasRule_63 (key := 23) rfl ?_
    refine a_aload_n dX11_hasRule_66 rfl ?_
    refine a_getI fl_X11_251 lyM_0 rfl dX11_hasRule_67 (key := 25) rfl ?_
    refine a_aload_n dX11_hasRule_70 rfl ?_
    refine a_getI fl_X11_248 lyM_0 rfl dX11_hasRule_71 (key := 26) rfl ?_
    refine a_imul dX11_hasRule_74 ?_
    refine a_iload_n dX11_hasRule_75 rfl ?_
    refine a_iadd dX11_hasRule_76 ?_
    refine a_aload_n dX11_hasRule_77 rfl ?_
    refine a_getR (c0 := 9) fl_X11_56 lyM_0 rfl dX11_hasRule_78 (key := 28) rfl ?_
    refine a_iload_n dX11_hasRule_81 rfl ?_
    refine a_iald lyM_9 rfl dX11_hasRule_82 ?_
    refine a_iast lyM_7 rfl dX11_hasRule_83 fun σ11 => ?_
    refine a_aload_n dX11_hasRule_84 rfl ?_
    refine a_dup dX11_hasRule_85 rfl ?_
    refine a_getI fl_X11_248 lyM_0 rfl dX11_hasRule_86 (key := 26) rfl ?_
    refine a_iconst dX11_hasRule_89 ?_
    refine a_iadd dX11_hasRule_90 ?_
    refine a_putI fl_X11_248 cf_X11 rfl rfl lyM_0 rfl dX11_hasRule_91 (key := 26) rfl fun σ12 => ?_
    refine a_aload_n dX11_hasRule_94 rfl ?_
    refine a_callVi (as := []) mf_X11_291 lyM_0 rfl (c_M_isMade F _) LYsame.rf dX11_hasRule_95 rfl rfl rfl rfl rfl rfl (Or.inl rfl) fun r13 σ14 => ?_
    refine a_if_ne dX11_hasRule_98 rfl (fun _ => ?_) (fun _ => ?_)
    · refine a_aload_n dX11_hasRule_103 rfl ?_
      refine a_aload_n dX11_hasRule_104 rfl ?_
      refine a_getI fl_X11_245 lyM_0 rfl dX11_hasRule_105 (key := 27) rfl ?_
      refine a_putI fl_X11_248 cf_X11 rfl rfl lyM_0 rfl dX11_hasRule_108 (key := 26) rfl fun σ15 => ?_
      refine a_bv fun x3_16 ex3_16 => ?_
      refine a_iinc (y := x3_16) (L' := [some (.ref 0), some (vi x1), some (vi x2), some (vi x3_16), some (vi x4)]) dX11_hasRule_111 rfl ex3_16 rfl rfl rfl ?_
      refine a_goto dX11_hasRule_114 rfl ?_
      exact a_L (lsub_get (A := [some (.ref 0), some (vi x1), some (vi x2), some (vi x3_16), none]) ⟨rfl, ⟨rfl, ⟨rfl, ⟨rfl, trivial⟩⟩⟩⟩) (h14 _ _ _ _)
    refine a_iconst dX11_hasRule_101 ?_
    exact a_zretc (by decide) dX11_hasRule_102
  refine a_aload_n dX11_hasRule_28 rfl ?_
  refine a_getR (c0 := 7) fl_X11_50 lyM_0 rfl dX11_hasRule_29 (key := 23) rfl ?_
  refine a_aload_n dX11_hasRule_32 rfl ?_
  refine a_getI fl_X11_251 lyM_0 rfl dX11_hasRule_33 (key := 25) rfl ?_
  refine a_aload_n dX11_hasRule_36 rfl ?_
  refine a_getI fl_X11_248 lyM_0 rfl dX11_hasRule_37 (key := 26) rfl ?_
  refine a_imul dX11_hasRule_40 ?_
  refine a_iload dX11_hasRule_41 rfl ?_
  refine a_iadd dX11_hasRule_43 ?_
  refine a_iconst dX11_hasRule_44 ?_
  refine a_isub dX11_hasRule_45 ?_
  refine a_bvi fun t17 => ?_
  refine a_aload_n dX11_hasRule_46 rfl ?_
  refine a_getR (c0 := 9) fl_X11_56 lyM_0 rfl dX11_hasRule_47 (key := 28) rfl ?_
  refine a_iload_n dX11_hasRule_50 rfl ?_
  refine a_iload dX11_hasRule_51 rfl ?_
  refine a_isub dX11_hasRule_53 ?_
  refine a_iald lyM_9 rfl dX11_hasRule_54 ?_
  refine a_iast lyM_7 rfl dX11_hasRule_55 fun σ18 => ?_
  refine a_bv fun x4_19 ex4_19 => ?_
  refine a_iinc (y := x4_19) (L' := [some (.ref 0), some (vi x1), some (vi x2), some (vi x3), some (vi x4_19)]) dX11_hasRule_56 rfl ex4_19 rfl rfl rfl ?_
  refine a_goto dX11_hasRule_59 rfl ?_
  exact hself _ _ _ _ _
set_option maxRecDepth 100000 in
set_option maxHeartbeats 4000000 in
theorem cl_M_hasRule_22 {K : KX} (F : Nat) (k14 : St → Int → Int → Int → Option (Int × St)) (h14 : ∀ σ x1 x2 x3, WA 4 0 1 cX11_hasRule RX11 5 (some .boolean) LYM LYM K 14 [some (.ref 0), some (vi x1), some (vi x2), some (vi x3), none] [] σ (k14 σ x1 x2 x3)) : ∀ (n : Nat) (σ : St) (x1 x2 x3 x4 : Int), WA 4 0 1 cX11_hasRule RX11 5 (some .boolean) LYM LYM K 22 [some (.ref 0), some (vi x1), some (vi x2), some (vi x3), some (vi x4)] [] σ (l_M_hasRule_22 F k14 n σ x1 x2 x3 x4)
  | 0, _, _, _, _, _ => a_none
  | n + 1, σ, x1, x2, x3, x4 => cb_M_hasRule_22 F k14 h14 _ (cl_M_hasRule_22 F k14 h14 n) σ x1 x2 x3 x4
set_option maxRecDepth 100000 in
set_option maxHeartbeats 4000000 in
theorem cb_M_hasRule_14 {K : KX} (F : Nat) (self : St → Int → Int → Int → Option (Int × St)) (hself : ∀ σ x1 x2 x3, WA 4 0 1 cX11_hasRule RX11 5 (some .boolean) LYM LYM K 14 [some (.ref 0), some (vi x1), some (vi x2), some (vi x3), none] [] σ (self σ x1 x2 x3)) (σ : St) (x1 x2 x3 : Int) : WA 4 0 1 cX11_hasRule RX11 5 (some .boolean) LYM LYM K 14 [some (.ref 0), some (vi x1), some (vi x2), some (vi x3), none] [] σ (b_M_hasRule_14 F self σ x1 x2 x3) := by
  unfold b_M_hasRule_14
  refine a_iload_n dX11_hasRule_14 rfl ?_
  refine a_iload_n dX11_hasRule_15 rfl ?_
  refine a_icmp_ge dX11_hasRule_16 rfl (fun _ => ?_) (fun _ => ?_)
  · refine a_aload_n dX11_hasRule_117 rfl ?_
    refine a_iload_n dX11_hasRule_118 rfl ?_
    refine a_callVv (as := [vi x2]) mf_X11_258 lyM_0 rfl (c_M_steps F _ _) LYsame.rf dX11_hasRule_119 rfl rfl rfl rfl rfl rfl (Or.inl rfl) fun r3 σ4 => ?_
    refine a_iconst dX11_hasRule_122 ?_
    refine a_istore_n (L' := [some (.ref 0), some (vi x1), some (vi x2), some (vi 1), none]) dX11_hasRule_123 rfl rfl rfl rfl ?_
    exact a_L (lsub_get (A := [some (.ref 0), none, some (vi x2), some (vi 1), none]) ⟨rfl, ⟨rfl, ⟨rfl, trivial⟩⟩⟩) (cl_M_hasRule_124 F F _ _ _)
  refine a_iconst dX11_hasRule_19 ?_
  refine a_istore (L' := [some (.ref 0), some (vi x1), some (vi x2), some (vi x3), some (vi 1)]) dX11_hasRule_20 rfl rfl rfl rfl ?_
  exact cl_M_hasRule_22 F _ hself F _ _ _ _ _
set_option maxRecDepth 100000 in
set_option maxHeartbeats 4000000 in
theorem cl_M_hasRule_14 {K : KX} (F : Nat) : ∀ (n : Nat) (σ : St) (x1 x2 x3 : Int), WA 4 0 1 cX11_hasRule RX11 5 (some .boolean) LYM LYM K 14 [some (.ref 0), some (vi x1), some (vi x2), some (vi x3), none] [] σ (l_M_hasRule_14 F n σ x1 x2 x3)
  | 0, _, _, _, _ => a_none
  | n + 1, σ, x1, x2, x3 => cb_M_hasRule_14 F _ (cl_M_hasRule_14 F n) σ x1 x2 x3
set_option maxRecDepth 100000 in
set_option maxHeartbeats 4000000 in
theorem c_M_hasRule (F : Nat) (σ : St) (x1 x2 : Int) : Ct 4 0 1 yX11_hasRule cX11_hasRule 5 (some .boolean) LYM LYM [.ref 0, vi x1, vi x2] σ (f_M_hasRule F σ x1 x2) := by
  unfold f_M_hasRule
  refine Ct_of (d := 4) (kp := 0) (kd := 1) (own := RX11) (nL := 5) (ret := (some .boolean)) (LY := LYM) (LYe := LYM) (L := [some (.ref 0), some (vi x1), some (vi x2), none, none]) rfl (by decide +kernel) rfl rfl mf_X11_323.2.2.2.1 rfl fun K => ?_
  refine a_aload_n dX11_hasRule_0 rfl ?_
  refine a_iload_n dX11_hasRule_1 rfl ?_
  refine a_iconst dX11_hasRule_2 ?_
  refine a_iadd dX11_hasRule_3 ?_
  refine a_putI fl_X11_251 cf_X11 rfl rfl lyM_0 rfl dX11_hasRule_4 (key := 25) rfl fun σ1 => ?_
  refine a_aload_n dX11_hasRule_7 rfl ?_
  refine a_iconst dX11_hasRule_8 ?_
  refine a_putI fl_X11_248 cf_X11 rfl rfl lyM_0 rfl dX11_hasRule_9 (key := 26) rfl fun σ2 => ?_
  refine a_iload_n dX11_hasRule_12 rfl ?_
  refine a_istore_n (L' := [some (.ref 0), some (vi x1), some (vi x2), some (vi x2), none]) dX11_hasRule_13 rfl rfl rfl rfl ?_
  exact cl_M_hasRule_14 F F _ _ _ _
def b_M_keepRule_273 (F : Nat) (self : St → Int → Int → Option (Int × St)) (σ : St) (x2 x4 : Int) : Option (Int × St) := gd (rng x4 ∧ rng x2) (if x2 ≤ x4 then some (0, σ) else bnd (f_M_share F σ x4) fun r10 σ11 => gd (inb x4 60) (bs (sA σ11 11 (Int.toNat x4) r10) fun σ12 => bv (x4 + 1) fun x4_13 => self σ12 x2 x4_13))
def l_M_keepRule_273 (F : Nat) : Nat → St → Int → Int → Option (Int × St)
  | 0 => fun _ _ _ => none
  | n + 1 => fun σ x2 x4 => b_M_keepRule_273 F (l_M_keepRule_273 F n) σ x2 x4
def b_M_keepRule_178 (F : Nat) (k166 : St → Int → Int → Option (Int × St)) (self : St → Int → Int → Int → Int → Option (Int × St)) (σ : St) (x2 x4 x5 x6 : Int) : Option (Int × St) := gd (inb 0 82) (gd (rng x6 ∧ rng (gA σ 2 (Int.toNat 0))) (if (gA σ 2 (Int.toNat 0)) ≤ x6 then gd (inb x4 100) (gd (inb (((gF σ 25) * x4) + x2) 2800) (bs (sA σ 7 (Int.toNat (((gF σ 25) * x4) + x2)) (gA σ 9 (Int.toNat x4))) fun σ14 => bv (x4 + 1) fun x4_15 => k166 σ14 x2 x4_15)) else gd (rng64 (gF σ 33) ∧ sh6 x6) (bv ((gF σ 33) / 2 ^ (Int.toNat x6)) fun t16 => gd (rng64 (landI t16 1) ∧ rng64 0) (if (landI t16 1) = 0 then bv (x6 + 1) fun x6_22 => self σ x2 x4 x5 x6_22 else bnd (f_M_waveOf F σ x6 x4) fun r17 σ18 => gd (inb (((gF σ 25) * x4) + x5) 2800) (bs (sA σ18 7 (Int.toNat (((gF σ 25) * x4) + x5)) r17) fun σ19 => bv (x5 + 1) fun x5_20 => bv (x6 + 1) fun x6_21 => self σ19 x2 x4 x5_20 x6_21)))))
def l_M_keepRule_178 (F : Nat) (k166 : St → Int → Int → Option (Int × St)) : Nat → St → Int → Int → Int → Int → Option (Int × St)
  | 0 => fun _ _ _ _ _ => none
  | n + 1 => fun σ x2 x4 x5 x6 => b_M_keepRule_178 F k166 (l_M_keepRule_178 F k166 n) σ x2 x4 x5 x6
def b_M_keepRule_166 (F : Nat) (self : St → Int → Int → Option (Int × St)) (σ : St) (x2 x4 : Int) : Option (Int × St) := gd (rng x4 ∧ rng x2) (if x2 ≤ x4 then bnd (f_M_steps F σ x2) fun r8 σ9 => l_M_keepRule_273 F F σ9 x2 0 else l_M_keepRule_178 F self F σ x2 x4 0 0)
def l_M_keepRule_166 (F : Nat) : Nat → St → Int → Int → Option (Int × St)
  | 0 => fun _ _ _ => none
  | n + 1 => fun σ x2 x4 => b_M_keepRule_166 F (l_M_keepRule_166 F n) σ x2 x4
def b_M_keepRule_58 (F : Nat) (k32 : St → Int → Int → Int → Option (Int × St)) (self : St → Int → Int → Int → Int → Int → Int → Option (Int × St)) (σ : St) (x2 x3 x4 x5 x6 x7 : Int) : Option (Int × St) := gd (rng x7 ∧ rng x2) (if x2 < x7 then gd (rng x6) (if x6 = 0 then gd (sh6 x4) (bv (lorI (gF σ 33) (1 * 2 ^ (Int.toNat x4))) fun t30 => bs (sF σ 33 t30) fun σ31 => bv (x3 + 1) fun x3_32 => bv (x4 + 1) fun x4_33 => k32 σ31 x2 x3_32 x4_33) else bv (x4 + 1) fun x4_34 => k32 σ x2 x3 x4_34) else gd (inb x7 101) (bv ((gF σ 20) - (gA σ 10 (Int.toNat x7))) fun t35 => gd (rng ((x6 * x5) + t35) ∧ rng (gF σ 20) ∧ (gF σ 20) ≠ (0 : Int)) (bv (Int.tmod ((x6 * x5) + t35) (gF σ 20)) fun t36 => bv (x7 + 1) fun x7_37 => self σ x2 x3 x4 x5 t36 x7_37)))
def l_M_keepRule_58 (F : Nat) (k32 : St → Int → Int → Int → Option (Int × St)) : Nat → St → Int → Int → Int → Int → Int → Int → Option (Int × St)
  | 0 => fun _ _ _ _ _ _ _ => none
  | n + 1 => fun σ x2 x3 x4 x5 x6 x7 => b_M_keepRule_58 F k32 (l_M_keepRule_58 F k32 n) σ x2 x3 x4 x5 x6 x7
def b_M_keepRule_32 (F : Nat) (self : St → Int → Int → Int → Option (Int × St)) (σ : St) (x2 x3 x4 : Int) : Option (Int × St) := gd (inb 0 82) (gd (rng x4 ∧ rng (gA σ 2 (Int.toNat 0))) (if (gA σ 2 (Int.toNat 0)) ≤ x4 then gd (rng x2) (if x2 ≤ 0 then bs (sF σ 32 0) fun σ5 => gd (rng (gF σ5 32)) (if (gF σ5 32) = 0 then some (0, σ5) else bs (sF σ5 25 (x2 + 1)) fun σ6 => bs (sF σ6 26 x2) fun σ7 => l_M_keepRule_166 F F σ7 x2 0) else gd (rng x3 ∧ rng x2) (if x3 = x2 then bs (sF σ 32 x2) fun σ26 => gd (rng (gF σ26 32)) (if (gF σ26 32) = 0 then some (0, σ26) else bs (sF σ26 25 (x2 + 1)) fun σ27 => bs (sF σ27 26 x2) fun σ28 => l_M_keepRule_166 F F σ28 x2 0) else bs (sF σ 32 0) fun σ23 => gd (rng (gF σ23 32)) (if (gF σ23 32) = 0 then some (0, σ23) else bs (sF σ23 25 (x2 + 1)) fun σ24 => bs (sF σ24 26 x2) fun σ25 => l_M_keepRule_166 F F σ25 x2 0))) else gd (inb x4 60) (bv (gA σ 6 (Int.toNat x4)) fun x5_29 => l_M_keepRule_58 F self F σ x2 x3 x4 x5_29 1 1)))
def l_M_keepRule_32 (F : Nat) : Nat → St → Int → Int → Int → Option (Int × St)
  | 0 => fun _ _ _ _ => none
  | n + 1 => fun σ x2 x3 x4 => b_M_keepRule_32 F (l_M_keepRule_32 F n) σ x2 x3 x4
def b_M_keepRule_2 (F : Nat) (self : St → Int → Int → Option (Int × St)) (σ : St) (x1 x2 : Int) : Option (Int × St) := bnd (f_M_hasRule F σ x1 x2) fun r1 σ2 => gd (rng r1) (if r1 = 0 then bv (x2 + 1) fun x2_38 => self σ2 x1 x2_38 else bs (sF σ2 31 x2) fun σ3 => bs (sF σ3 33 0) fun σ4 => l_M_keepRule_32 F F σ4 x2 0 0)
def l_M_keepRule_2 (F : Nat) : Nat → St → Int → Int → Option (Int × St)
  | 0 => fun _ _ _ => none
  | n + 1 => fun σ x1 x2 => b_M_keepRule_2 F (l_M_keepRule_2 F n) σ x1 x2
def f_M_keepRule (F : Nat) (σ : St) (x1 : Int) : Option (Int × St) := l_M_keepRule_2 F F σ x1 0
set_option maxRecDepth 100000 in
set_option maxHeartbeats 4000000 in
theorem cb_M_keepRule_273 {K : KX} (F : Nat) (self : St → Int → Int → Option (Int × St)) (hself : ∀ σ x2 x4, WA 5 0 0 cX11_keepRule RX11 8 none LYM LYM K 273 [some (.ref 0), none, some (vi x2), none, some (vi x4), none, none, none] [] σ (self σ x2 x4)) (σ : St) (x2 x4 : Int) : WA 5 0 0 cX11_keepRule RX11 8 none LYM LYM K 273 [some (.ref 0), none, some (vi x2), none, some (vi x4), none, none, none] [] σ (b_M_keepRule_273 F self σ x2 x4) := by
  unfold b_M_keepRule_273
  refine a_iload dX11_keepRule_273 rfl ?_
  refine a_iload_n dX11_keepRule_275 rfl ?_
  refine a_icmp_ge dX11_keepRule_276 rfl (fun _ => ?_) (fun _ => ?_)
  · exact a_vret dX11_keepRule_298
  refine a_aload_n dX11_keepRule_279 rfl ?_
  refine a_getR (c0 := 11) fl_X11_62 lyM_0 rfl dX11_keepRule_280 (key := 30) rfl ?_
  refine a_iload dX11_keepRule_283 rfl ?_
  refine a_aload_n dX11_keepRule_285 rfl ?_
  refine a_iload dX11_keepRule_286 rfl ?_
  refine a_callVi (as := [vi x4]) mf_X11_320 lyM_0 rfl (c_M_share F _ _) LYsame.rf dX11_keepRule_288 rfl rfl rfl rfl rfl rfl (Or.inl rfl) fun r10 σ11 => ?_
  refine a_iast lyM_11 rfl dX11_keepRule_291 fun σ12 => ?_
  refine a_bv fun x4_13 ex4_13 => ?_
  refine a_iinc (y := x4_13) (L' := [some (.ref 0), none, some (vi x2), none, some (vi x4_13), none, none, none]) dX11_keepRule_292 rfl ex4_13 rfl rfl rfl ?_
  refine a_goto dX11_keepRule_295 rfl ?_
  exact hself _ _ _
set_option maxRecDepth 100000 in
set_option maxHeartbeats 4000000 in
theorem cl_M_keepRule_273 {K : KX} (F : Nat) : ∀ (n : Nat) (σ : St) (x2 x4 : Int), WA 5 0 0 cX11_keepRule RX11 8 none LYM LYM K 273 [some (.ref 0), none, some (vi x2), none, some (vi x4), none, none, none] [] σ (l_M_keepRule_273 F n σ x2 x4)
  | 0, _, _, _ => a_none
  | n + 1, σ, x2, x4 => cb_M_keepRule_273 F _ (cl_M_keepRule_273 F n) σ x2 x4
set_option maxRecDepth 100000 in
set_option maxHeartbeats 4000000 in
theorem cb_M_keepRule_178 {K : KX} (F : Nat) (k166 : St → Int → Int → Option (Int × St)) (h166 : ∀ σ x2 x4, WA 5 0 0 cX11_keepRule RX11 8 none LYM LYM K 166 [some (.ref 0), none, some (vi x2), none, some (vi x4), none, none, none] [] σ (k166 σ x2 x4)) (self : St → Int → Int → Int → Int → Option (Int × St)) (hself : ∀ σ x2 x4 x5 x6, WA 5 0 0 cX11_keepRule RX11 8 none LYM LYM K 178 [some (.ref 0), none, some (vi x2), none, some (vi x4), some (vi x5), some (vi x6), none] [] σ (self σ x2 x4 x5 x6)) (σ : St) (x2 x4 x5 x6 : Int) : WA 5 0 0 cX11_keepRule RX11 8 none LYM LYM K 178 [some (.ref 0), none, some (vi x2), none, some (vi x4), some (vi x5), some (vi x6), none] [] σ (b_M_keepRule_178 F k166 self σ x2 x4 x5 x6) := by
  unfold b_M_keepRule_178
  refine a_iload dX11_keepRule_178 rfl ?_
  refine a_aload_n dX11_keepRule_180 rfl ?_
  refine a_getR (c0 := 2) fl_X11_33 lyM_0 rfl dX11_keepRule_181 (key := 6) rfl ?_
  refine a_iconst dX11_keepRule_184 ?_
  refine a_iald lyM_2 rfl dX11_keepRule_185 ?_
  refine a_icmp_ge dX11_keepRule_186 rfl (fun _ => ?_) (fun _ => ?_)
  · refine a_aload_n dX11_keepRule_238 rfl ?_
    refine a_getR (c0 := 7) fl_X11_50 lyM_0 rfl dX11_keepRule_239 (key := 23) rfl ?_
    refine a_aload_n dX11_keepRule_242 rfl ?_
    refine a_getI fl_X11_251 lyM_0 rfl dX11_keepRule_243 (key := 25) rfl ?_
    refine a_iload dX11_keepRule_246 rfl ?_
    refine a_imul dX11_keepRule_248 ?_
    refine a_iload_n dX11_keepRule_249 rfl ?_
    refine a_iadd dX11_keepRule_250 ?_
    refine a_aload_n dX11_keepRule_251 rfl ?_
    refine a_getR (c0 := 9) fl_X11_56 lyM_0 rfl dX11_keepRule_252 (key := 28) rfl ?_
    refine a_iload dX11_keepRule_255 rfl ?_
    refine a_iald lyM_9 rfl dX11_keepRule_257 ?_
    refine a_iast lyM_7 rfl dX11_keepRule_258 fun σ14 => ?_
    refine a_bv fun x4_15 ex4_15 => ?_
    refine a_iinc (y := x4_15) (L' := [some (.ref 0), none, some (vi x2), none, some (vi x4_15), some (vi x5), some (vi x6), none]) dX11_keepRule_259 rfl ex4_15 rfl rfl rfl ?_
    refine a_goto dX11_keepRule_262 rfl ?_
    exact a_L (lsub_get (A := [some (.ref 0), none, some (vi x2), none, some (vi x4_15), none, none, none]) ⟨rfl, ⟨rfl, ⟨rfl, trivial⟩⟩⟩) (h166 _ _ _)
  refine a_aload_n dX11_keepRule_189 rfl ?_
  refine a_getL fl_X11_329 lyM_0 rfl dX11_keepRule_190 (key := 33) rfl ?_
  refine a_iload dX11_keepRule_193 rfl ?_
  refine a_lshr dX11_keepRule_195 (fun _ => ?_)
  refine a_bvl fun t16 => ?_
  refine a_lconst (v := 1) dX11_keepRule_196 rfl ?_
  refine a_land dX11_keepRule_197 ?_
  refine a_lconst (v := 0) dX11_keepRule_198 rfl ?_
  refine a_lcmp_ne dX11_keepRule_199 dX11_keepRule_200 rfl (fun _ => ?_) (fun _ => ?_)
  · refine a_aload_n dX11_keepRule_206 rfl ?_
    refine a_getR (c0 := 7) fl_X11_50 lyM_0 rfl dX11_keepRule_207 (key := 23) rfl ?_
    refine a_aload_n dX11_keepRule_210 rfl ?_
    refine a_getI fl_X11_251 lyM_0 rfl dX11_keepRule_211 (key := 25) rfl ?_
    refine a_iload dX11_keepRule_214 rfl ?_
    refine a_imul dX11_keepRule_216 ?_
    refine a_iload dX11_keepRule_217 rfl ?_
    refine a_iadd dX11_keepRule_219 ?_
    refine a_aload_n dX11_keepRule_220 rfl ?_
    refine a_iload dX11_keepRule_221 rfl ?_
    refine a_iload dX11_keepRule_223 rfl ?_
    refine a_callVi (as := [vi x6, vi x4]) mf_X11_273 lyM_0 rfl (c_M_waveOf F _ _ _) LYsame.rf dX11_keepRule_225 rfl rfl rfl rfl rfl rfl (Or.inl rfl) fun r17 σ18 => ?_
    refine a_iast lyM_7 rfl dX11_keepRule_228 fun σ19 => ?_
    refine a_bv fun x5_20 ex5_20 => ?_
    refine a_iinc (y := x5_20) (L' := [some (.ref 0), none, some (vi x2), none, some (vi x4), some (vi x5_20), some (vi x6), none]) dX11_keepRule_229 rfl ex5_20 rfl rfl rfl ?_
    refine a_bv fun x6_21 ex6_21 => ?_
    refine a_iinc (y := x6_21) (L' := [some (.ref 0), none, some (vi x2), none, some (vi x4), some (vi x5_20), some (vi x6_21), none]) dX11_keepRule_232 rfl ex6_21 rfl rfl rfl ?_
    refine a_goto dX11_keepRule_235 rfl ?_
    exact hself _ _ _ _ _
  refine a_goto dX11_keepRule_203 rfl ?_
  refine a_bv fun x6_22 ex6_22 => ?_
  refine a_iinc (y := x6_22) (L' := [some (.ref 0), none, some (vi x2), none, some (vi x4), some (vi x5), some (vi x6_22), none]) dX11_keepRule_232 rfl ex6_22 rfl rfl rfl ?_
  refine a_goto dX11_keepRule_235 rfl ?_
  exact hself _ _ _ _ _
set_option maxRecDepth 100000 in
set_option maxHeartbeats 4000000 in
theorem cl_M_keepRule_178 {K : KX} (F : Nat) (k166 : St → Int → Int → Option (Int × St)) (h166 : ∀ σ x2 x4, WA 5 0 0 cX11_keepRule RX11 8 none LYM LYM K 166 [some (.ref 0), none, some (vi x2), none, some (vi x4), none, none, none] [] σ (k166 σ x2 x4)) : ∀ (n : Nat) (σ : St) (x2 x4 x5 x6 : Int), WA 5 0 0 cX11_keepRule RX11 8 none LYM LYM K 178 [some (.ref 0), none, some (vi x2), none, some (vi x4), some (vi x5), some (vi x6), none] [] σ (l_M_keepRule_178 F k166 n σ x2 x4 x5 x6)
  | 0, _, _, _, _, _ => a_none
  | n + 1, σ, x2, x4, x5, x6 => cb_M_keepRule_178 F k166 h166 _ (cl_M_keepRule_178 F k166 h166 n) σ x2 x4 x5 x6
set_option maxRecDepth 100000 in
set_option maxHeartbeats 4000000 in
theorem cb_M_keepRule_166 {K : KX} (F : Nat) (self : St → Int → Int → Option (Int × St)) (hself : ∀ σ x2 x4, WA 5 0 0 cX11_keepRule RX11 8 none LYM LYM K 166 [some (.ref 0), none, some (vi x2), none, some (vi x4), none, none, none] [] σ (self σ x2 x4)) (σ : St) (x2 x4 : Int) : WA 5 0 0 cX11_keepRule RX11 8 none LYM LYM K 166 [some (.ref 0), none, some (vi x2), none, some (vi x4), none, none, none] [] σ (b_M_keepRule_166 F self σ x2 x4) := by
  unfold b_M_keepRule_166
  refine a_iload dX11_keepRule_166 rfl ?_
  refine a_iload_n dX11_keepRule_168 rfl ?_
  refine a_icmp_ge dX11_keepRule_169 rfl (fun _ => ?_) (fun _ => ?_)
  · refine a_aload_n dX11_keepRule_265 rfl ?_
    refine a_iload_n dX11_keepRule_266 rfl ?_
    refine a_callVv (as := [vi x2]) mf_X11_258 lyM_0 rfl (c_M_steps F _ _) LYsame.rf dX11_keepRule_267 rfl rfl rfl rfl rfl rfl (Or.inl rfl) fun r8 σ9 => ?_
    refine a_iconst dX11_keepRule_270 ?_
    refine a_istore (L' := [some (.ref 0), none, some (vi x2), none, some (vi 0), none, none, none]) dX11_keepRule_271 rfl rfl rfl rfl ?_
    exact cl_M_keepRule_273 F F _ _ _
  refine a_iconst dX11_keepRule_172 ?_
  refine a_istore (L' := [some (.ref 0), none, some (vi x2), none, some (vi x4), some (vi 0), none, none]) dX11_keepRule_173 rfl rfl rfl rfl ?_
  refine a_iconst dX11_keepRule_175 ?_
  refine a_istore (L' := [some (.ref 0), none, some (vi x2), none, some (vi x4), some (vi 0), some (vi 0), none]) dX11_keepRule_176 rfl rfl rfl rfl ?_
  exact cl_M_keepRule_178 F _ hself F _ _ _ _ _
set_option maxRecDepth 100000 in
set_option maxHeartbeats 4000000 in
theorem cl_M_keepRule_166 {K : KX} (F : Nat) : ∀ (n : Nat) (σ : St) (x2 x4 : Int), WA 5 0 0 cX11_keepRule RX11 8 none LYM LYM K 166 [some (.ref 0), none, some (vi x2), none, some (vi x4), none, none, none] [] σ (l_M_keepRule_166 F n σ x2 x4)
  | 0, _, _, _ => a_none
  | n + 1, σ, x2, x4 => cb_M_keepRule_166 F _ (cl_M_keepRule_166 F n) σ x2 x4
set_option maxRecDepth 100000 in
set_option maxHeartbeats 4000000 in
theorem cb_M_keepRule_58 {K : KX} (F : Nat) (k32 : St → Int → Int → Int → Option (Int × St)) (h32 : ∀ σ x2 x3 x4, WA 5 0 0 cX11_keepRule RX11 8 none LYM LYM K 32 [some (.ref 0), none, some (vi x2), some (vi x3), some (vi x4), none, none, none] [] σ (k32 σ x2 x3 x4)) (self : St → Int → Int → Int → Int → Int → Int → Option (Int × St)) (hself : ∀ σ x2 x3 x4 x5 x6 x7, WA 5 0 0 cX11_keepRule RX11 8 none LYM LYM K 58 [some (.ref 0), none, some (vi x2), some (vi x3), some (vi x4), some (vi x5), some (vi x6), some (vi x7)] [] σ (self σ x2 x3 x4 x5 x6 x7)) (σ : St) (x2 x3 x4 x5 x6 x7 : Int) : WA 5 0 0 cX11_keepRule RX11 8 none LYM LYM K 58 [some (.ref 0), none, some (vi x2), some (vi x3), some (vi x4), some (vi x5), some (vi x6), some (vi x7)] [] σ (b_M_keepRule_58 F k32 self σ x2 x3 x4 x5 x6 x7) := by
  unfold b_M_keepRule_58
  refine a_iload dX11_keepRule_58 rfl ?_
  refine a_iload_n dX11_keepRule_60 rfl ?_
  refine a_icmp_gt dX11_keepRule_61 rfl (fun _ => ?_) (fun _ => ?_)
  · refine a_iload dX11_keepRule_95 rfl ?_
    refine a_if_eq dX11_keepRule_97 rfl (fun _ => ?_) (fun _ => ?_)
    · refine a_aload_n dX11_keepRule_103 rfl ?_
      refine a_dup dX11_keepRule_104 rfl ?_
      refine a_getL fl_X11_329 lyM_0 rfl dX11_keepRule_105 (key := 33) rfl ?_
      refine a_lconst (v := 1) dX11_keepRule_108 rfl ?_
      refine a_iload dX11_keepRule_109 rfl ?_
      refine a_lshl dX11_keepRule_111 (fun _ => ?_)
      refine a_lor dX11_keepRule_112 ?_
      refine a_bvl fun t30 => ?_
      refine a_putL fl_X11_329 cf_X11 rfl rfl lyM_0 rfl dX11_keepRule_113 (key := 33) rfl fun σ31 => ?_
      refine a_bv fun x3_32 ex3_32 => ?_
      refine a_iinc (y := x3_32) (L' := [some (.ref 0), none, some (vi x2), some (vi x3_32), some (vi x4), some (vi x5), some (vi x6), some (vi x7)]) dX11_keepRule_116 rfl ex3_32 rfl rfl rfl ?_
      refine a_bv fun x4_33 ex4_33 => ?_
      refine a_iinc (y := x4_33) (L' := [some (.ref 0), none, some (vi x2), some (vi x3_32), some (vi x4_33), some (vi x5), some (vi x6), some (vi x7)]) dX11_keepRule_119 rfl ex4_33 rfl rfl rfl ?_
      refine a_goto dX11_keepRule_122 rfl ?_
      exact a_L (lsub_get (A := [some (.ref 0), none, some (vi x2), some (vi x3_32), some (vi x4_33), none, none, none]) ⟨rfl, ⟨rfl, ⟨rfl, ⟨rfl, trivial⟩⟩⟩⟩) (h32 _ _ _ _)
    refine a_goto dX11_keepRule_100 rfl ?_
    refine a_bv fun x4_34 ex4_34 => ?_
    refine a_iinc (y := x4_34) (L' := [some (.ref 0), none, some (vi x2), some (vi x3), some (vi x4_34), some (vi x5), some (vi x6), some (vi x7)]) dX11_keepRule_119 rfl ex4_34 rfl rfl rfl ?_
    refine a_goto dX11_keepRule_122 rfl ?_
    exact a_L (lsub_get (A := [some (.ref 0), none, some (vi x2), some (vi x3), some (vi x4_34), none, none, none]) ⟨rfl, ⟨rfl, ⟨rfl, ⟨rfl, trivial⟩⟩⟩⟩) (h32 _ _ _ _)
  refine a_iload dX11_keepRule_64 rfl ?_
  refine a_iload dX11_keepRule_66 rfl ?_
  refine a_imul dX11_keepRule_68 ?_
  refine a_aload_n dX11_keepRule_69 rfl ?_
  refine a_getI fl_X11_230 lyM_0 rfl dX11_keepRule_70 (key := 20) rfl ?_
  refine a_aload_n dX11_keepRule_73 rfl ?_
  refine a_getR (c0 := 10) fl_X11_59 lyM_0 rfl dX11_keepRule_74 (key := 29) rfl ?_
  refine a_iload dX11_keepRule_77 rfl ?_
  refine a_iald lyM_10 rfl dX11_keepRule_79 ?_
  refine a_isub dX11_keepRule_80 ?_
  refine a_bvi fun t35 => ?_
  refine a_iadd dX11_keepRule_81 ?_
  refine a_aload_n dX11_keepRule_82 rfl ?_
  refine a_getI fl_X11_230 lyM_0 rfl dX11_keepRule_83 (key := 20) rfl ?_
  refine a_irem dX11_keepRule_86 (fun _ => ?_)
  refine a_bvi fun t36 => ?_
  refine a_istore (L' := [some (.ref 0), none, some (vi x2), some (vi x3), some (vi x4), some (vi x5), some (vi t36), some (vi x7)]) dX11_keepRule_87 rfl rfl rfl rfl ?_
  refine a_bv fun x7_37 ex7_37 => ?_
  refine a_iinc (y := x7_37) (L' := [some (.ref 0), none, some (vi x2), some (vi x3), some (vi x4), some (vi x5), some (vi t36), some (vi x7_37)]) dX11_keepRule_89 rfl ex7_37 rfl rfl rfl ?_
  refine a_goto dX11_keepRule_92 rfl ?_
  exact hself _ _ _ _ _ _ _
set_option maxRecDepth 100000 in
set_option maxHeartbeats 4000000 in
theorem cl_M_keepRule_58 {K : KX} (F : Nat) (k32 : St → Int → Int → Int → Option (Int × St)) (h32 : ∀ σ x2 x3 x4, WA 5 0 0 cX11_keepRule RX11 8 none LYM LYM K 32 [some (.ref 0), none, some (vi x2), some (vi x3), some (vi x4), none, none, none] [] σ (k32 σ x2 x3 x4)) : ∀ (n : Nat) (σ : St) (x2 x3 x4 x5 x6 x7 : Int), WA 5 0 0 cX11_keepRule RX11 8 none LYM LYM K 58 [some (.ref 0), none, some (vi x2), some (vi x3), some (vi x4), some (vi x5), some (vi x6), some (vi x7)] [] σ (l_M_keepRule_58 F k32 n σ x2 x3 x4 x5 x6 x7)
  | 0, _, _, _, _, _, _, _ => a_none
  | n + 1, σ, x2, x3, x4, x5, x6, x7 => cb_M_keepRule_58 F k32 h32 _ (cl_M_keepRule_58 F k32 h32 n) σ x2 x3 x4 x5 x6 x7
set_option maxRecDepth 100000 in
set_option maxHeartbeats 4000000 in
theorem cb_M_keepRule_32 {K : KX} (F : Nat) (self : St → Int → Int → Int → Option (Int × St)) (hself : ∀ σ x2 x3 x4, WA 5 0 0 cX11_keepRule RX11 8 none LYM LYM K 32 [some (.ref 0), none, some (vi x2), some (vi x3), some (vi x4), none, none, none] [] σ (self σ x2 x3 x4)) (σ : St) (x2 x3 x4 : Int) : WA 5 0 0 cX11_keepRule RX11 8 none LYM LYM K 32 [some (.ref 0), none, some (vi x2), some (vi x3), some (vi x4), none, none, none] [] σ (b_M_keepRule_32 F self σ x2 x3 x4) := by
  unfold b_M_keepRule_32
  refine a_iload dX11_keepRule_32 rfl ?_
  refine a_aload_n dX11_keepRule_34 rfl ?_
  refine a_getR (c0 := 2) fl_X11_33 lyM_0 rfl dX11_keepRule_35 (key := 6) rfl ?_
  refine a_iconst dX11_keepRule_38 ?_
  refine a_iald lyM_2 rfl dX11_keepRule_39 ?_
  refine a_icmp_ge dX11_keepRule_40 rfl (fun _ => ?_) (fun _ => ?_)
  · refine a_aload_n dX11_keepRule_125 rfl ?_
    refine a_iload_n dX11_keepRule_126 rfl ?_
    refine a_if_le dX11_keepRule_127 rfl (fun _ => ?_) (fun _ => ?_)
    · refine a_iconst dX11_keepRule_139 ?_
      refine a_putI fl_X11_332 cf_X11 rfl rfl lyM_0 rfl dX11_keepRule_140 (key := 32) rfl fun σ5 => ?_
      refine a_aload_n dX11_keepRule_143 rfl ?_
      refine a_getI fl_X11_332 lyM_0 rfl dX11_keepRule_144 (key := 32) rfl ?_
      refine a_if_ne dX11_keepRule_147 rfl (fun _ => ?_) (fun _ => ?_)
      · refine a_aload_n dX11_keepRule_151 rfl ?_
        refine a_iload_n dX11_keepRule_152 rfl ?_
        refine a_iconst dX11_keepRule_153 ?_
        refine a_iadd dX11_keepRule_154 ?_
        refine a_putI fl_X11_251 cf_X11 rfl rfl lyM_0 rfl dX11_keepRule_155 (key := 25) rfl fun σ6 => ?_
        refine a_aload_n dX11_keepRule_158 rfl ?_
        refine a_iload_n dX11_keepRule_159 rfl ?_
        refine a_putI fl_X11_248 cf_X11 rfl rfl lyM_0 rfl dX11_keepRule_160 (key := 26) rfl fun σ7 => ?_
        refine a_iconst dX11_keepRule_163 ?_
        refine a_istore (L' := [some (.ref 0), none, some (vi x2), some (vi x3), some (vi 0), none, none, none]) dX11_keepRule_164 rfl rfl rfl rfl ?_
        exact a_L (lsub_get (A := [some (.ref 0), none, some (vi x2), none, some (vi 0), none, none, none]) ⟨rfl, ⟨rfl, ⟨rfl, trivial⟩⟩⟩) (cl_M_keepRule_166 F F _ _ _)
      exact a_vret dX11_keepRule_150
    refine a_iload_n dX11_keepRule_130 rfl ?_
    refine a_iload_n dX11_keepRule_131 rfl ?_
    refine a_icmp_ne dX11_keepRule_132 rfl (fun _ => ?_) (fun _ => ?_)
    · refine a_iconst dX11_keepRule_139 ?_
      refine a_putI fl_X11_332 cf_X11 rfl rfl lyM_0 rfl dX11_keepRule_140 (key := 32) rfl fun σ23 => ?_
      refine a_aload_n dX11_keepRule_143 rfl ?_
      refine a_getI fl_X11_332 lyM_0 rfl dX11_keepRule_144 (key := 32) rfl ?_
      refine a_if_ne dX11_keepRule_147 rfl (fun _ => ?_) (fun _ => ?_)
      · refine a_aload_n dX11_keepRule_151 rfl ?_
        refine a_iload_n dX11_keepRule_152 rfl ?_
        refine a_iconst dX11_keepRule_153 ?_
        refine a_iadd dX11_keepRule_154 ?_
        refine a_putI fl_X11_251 cf_X11 rfl rfl lyM_0 rfl dX11_keepRule_155 (key := 25) rfl fun σ24 => ?_
        refine a_aload_n dX11_keepRule_158 rfl ?_
        refine a_iload_n dX11_keepRule_159 rfl ?_
        refine a_putI fl_X11_248 cf_X11 rfl rfl lyM_0 rfl dX11_keepRule_160 (key := 26) rfl fun σ25 => ?_
        refine a_iconst dX11_keepRule_163 ?_
        refine a_istore (L' := [some (.ref 0), none, some (vi x2), some (vi x3), some (vi 0), none, none, none]) dX11_keepRule_164 rfl rfl rfl rfl ?_
        exact a_L (lsub_get (A := [some (.ref 0), none, some (vi x2), none, some (vi 0), none, none, none]) ⟨rfl, ⟨rfl, ⟨rfl, trivial⟩⟩⟩) (cl_M_keepRule_166 F F _ _ _)
      exact a_vret dX11_keepRule_150
    refine a_iload_n dX11_keepRule_135 rfl ?_
    refine a_goto dX11_keepRule_136 rfl ?_
    refine a_putI fl_X11_332 cf_X11 rfl rfl lyM_0 rfl dX11_keepRule_140 (key := 32) rfl fun σ26 => ?_
    refine a_aload_n dX11_keepRule_143 rfl ?_
    refine a_getI fl_X11_332 lyM_0 rfl dX11_keepRule_144 (key := 32) rfl ?_
    refine a_if_ne dX11_keepRule_147 rfl (fun _ => ?_) (fun _ => ?_)
    · refine a_aload_n dX11_keepRule_151 rfl ?_
      refine a_iload_n dX11_keepRule_152 rfl ?_
      refine a_iconst dX11_keepRule_153 ?_
      refine a_iadd dX11_keepRule_154 ?_
      refine a_putI fl_X11_251 cf_X11 rfl rfl lyM_0 rfl dX11_keepRule_155 (key := 25) rfl fun σ27 => ?_
      refine a_aload_n dX11_keepRule_158 rfl ?_
      refine a_iload_n dX11_keepRule_159 rfl ?_
      refine a_putI fl_X11_248 cf_X11 rfl rfl lyM_0 rfl dX11_keepRule_160 (key := 26) rfl fun σ28 => ?_
      refine a_iconst dX11_keepRule_163 ?_
      refine a_istore (L' := [some (.ref 0), none, some (vi x2), some (vi x3), some (vi 0), none, none, none]) dX11_keepRule_164 rfl rfl rfl rfl ?_
      exact a_L (lsub_get (A := [some (.ref 0), none, some (vi x2), none, some (vi 0), none, none, none]) ⟨rfl, ⟨rfl, ⟨rfl, trivial⟩⟩⟩) (cl_M_keepRule_166 F F _ _ _)
    exact a_vret dX11_keepRule_150
  refine a_aload_n dX11_keepRule_43 rfl ?_
  refine a_getR (c0 := 6) fl_X11_47 lyM_0 rfl dX11_keepRule_44 (key := 22) rfl ?_
  refine a_iload dX11_keepRule_47 rfl ?_
  refine a_iald lyM_6 rfl dX11_keepRule_49 ?_
  refine a_bv fun x5_29 ex5_29 => ?_
  refine a_istore (y := x5_29) (L' := [some (.ref 0), none, some (vi x2), some (vi x3), some (vi x4), some (vi x5_29), none, none]) dX11_keepRule_50 ex5_29 rfl rfl rfl ?_
  refine a_iconst dX11_keepRule_52 ?_
  refine a_istore (L' := [some (.ref 0), none, some (vi x2), some (vi x3), some (vi x4), some (vi x5_29), some (vi 1), none]) dX11_keepRule_53 rfl rfl rfl rfl ?_
  refine a_iconst dX11_keepRule_55 ?_
  refine a_istore (L' := [some (.ref 0), none, some (vi x2), some (vi x3), some (vi x4), some (vi x5_29), some (vi 1), some (vi 1)]) dX11_keepRule_56 rfl rfl rfl rfl ?_
  exact cl_M_keepRule_58 F _ hself F _ _ _ _ _ _ _
set_option maxRecDepth 100000 in
set_option maxHeartbeats 4000000 in
theorem cl_M_keepRule_32 {K : KX} (F : Nat) : ∀ (n : Nat) (σ : St) (x2 x3 x4 : Int), WA 5 0 0 cX11_keepRule RX11 8 none LYM LYM K 32 [some (.ref 0), none, some (vi x2), some (vi x3), some (vi x4), none, none, none] [] σ (l_M_keepRule_32 F n σ x2 x3 x4)
  | 0, _, _, _, _ => a_none
  | n + 1, σ, x2, x3, x4 => cb_M_keepRule_32 F _ (cl_M_keepRule_32 F n) σ x2 x3 x4
set_option maxRecDepth 100000 in
set_option maxHeartbeats 4000000 in
theorem cb_M_keepRule_2 {K : KX} (F : Nat) (self : St → Int → Int → Option (Int × St)) (hself : ∀ σ x1 x2, WA 5 0 0 cX11_keepRule RX11 8 none LYM LYM K 2 [some (.ref 0), some (vi x1), some (vi x2), none, none, none, none, none] [] σ (self σ x1 x2)) (σ : St) (x1 x2 : Int) : WA 5 0 0 cX11_keepRule RX11 8 none LYM LYM K 2 [some (.ref 0), some (vi x1), some (vi x2), none, none, none, none, none] [] σ (b_M_keepRule_2 F self σ x1 x2) := by
  unfold b_M_keepRule_2
  refine a_aload_n dX11_keepRule_2 rfl ?_
  refine a_iload_n dX11_keepRule_3 rfl ?_
  refine a_iload_n dX11_keepRule_4 rfl ?_
  refine a_callVi (as := [vi x1, vi x2]) mf_X11_323 lyM_0 rfl (c_M_hasRule F _ _ _) LYsame.rf dX11_keepRule_5 rfl rfl rfl rfl rfl rfl (Or.inl rfl) fun r1 σ2 => ?_
  refine a_if_ne dX11_keepRule_8 rfl (fun _ => ?_) (fun _ => ?_)
  · refine a_aload_n dX11_keepRule_17 rfl ?_
    refine a_iload_n dX11_keepRule_18 rfl ?_
    refine a_putI fl_X11_326 cf_X11 rfl rfl lyM_0 rfl dX11_keepRule_19 (key := 31) rfl fun σ3 => ?_
    refine a_aload_n dX11_keepRule_22 rfl ?_
    refine a_lconst (v := 0) dX11_keepRule_23 rfl ?_
    refine a_putL fl_X11_329 cf_X11 rfl rfl lyM_0 rfl dX11_keepRule_24 (key := 33) rfl fun σ4 => ?_
    refine a_iconst dX11_keepRule_27 ?_
    refine a_istore_n (L' := [some (.ref 0), some (vi x1), some (vi x2), some (vi 0), none, none, none, none]) dX11_keepRule_28 rfl rfl rfl rfl ?_
    refine a_iconst dX11_keepRule_29 ?_
    refine a_istore (L' := [some (.ref 0), some (vi x1), some (vi x2), some (vi 0), some (vi 0), none, none, none]) dX11_keepRule_30 rfl rfl rfl rfl ?_
    exact a_L (lsub_get (A := [some (.ref 0), none, some (vi x2), some (vi 0), some (vi 0), none, none, none]) ⟨rfl, ⟨rfl, ⟨rfl, ⟨rfl, trivial⟩⟩⟩⟩) (cl_M_keepRule_32 F F _ _ _ _)
  refine a_bv fun x2_38 ex2_38 => ?_
  refine a_iinc (y := x2_38) (L' := [some (.ref 0), some (vi x1), some (vi x2_38), none, none, none, none, none]) dX11_keepRule_11 rfl ex2_38 rfl rfl rfl ?_
  refine a_goto dX11_keepRule_14 rfl ?_
  exact hself _ _ _
set_option maxRecDepth 100000 in
set_option maxHeartbeats 4000000 in
theorem cl_M_keepRule_2 {K : KX} (F : Nat) : ∀ (n : Nat) (σ : St) (x1 x2 : Int), WA 5 0 0 cX11_keepRule RX11 8 none LYM LYM K 2 [some (.ref 0), some (vi x1), some (vi x2), none, none, none, none, none] [] σ (l_M_keepRule_2 F n σ x1 x2)
  | 0, _, _, _ => a_none
  | n + 1, σ, x1, x2 => cb_M_keepRule_2 F _ (cl_M_keepRule_2 F n) σ x1 x2
set_option maxRecDepth 100000 in
set_option maxHeartbeats 4000000 in
theorem c_M_keepRule (F : Nat) (σ : St) (x1 : Int) : Ct 5 0 0 yX11_keepRule cX11_keepRule 8 none LYM LYM [.ref 0, vi x1] σ (f_M_keepRule F σ x1) := by
  unfold f_M_keepRule
  refine Ct_of (d := 5) (kp := 0) (kd := 0) (own := RX11) (nL := 8) (ret := none) (LY := LYM) (LYe := LYM) (L := [some (.ref 0), some (vi x1), none, none, none, none, none, none]) rfl (by decide +kernel) rfl rfl mf_X11_335.2.2.2.1 rfl fun K => ?_
  refine a_iconst dX11_keepRule_0 ?_
  refine a_istore_n (L' := [some (.ref 0), some (vi x1), some (vi 0), none, none, none, none, none]) dX11_keepRule_1 rfl rfl rfl rfl ?_
  exact cl_M_keepRule_2 F F _ _ _
def b_M_rule_58 (F : Nat) (self : St → Int → Int → Int → Option (Int × St)) (σ : St) (x1 x2 x3 : Int) : Option (Int × St) := gd (rng x3 ∧ rng x2) (if x2 ≤ x3 then bnd (f_M_keepRule F σ x2) fun r7 σ8 => gd (isb 1) (bs (sF σ8 34 1) fun σ9 => some ((gF σ9 31), σ9)) else gd (rng x1) (if x1 = 0 then bnd (f_M_readingOf F σ x3) fun r14 σ15 => gd (inb x3 100) (bs (sA σ15 9 (Int.toNat x3) r14) fun σ16 => bv (x3 + 1) fun x3_17 => self σ16 x1 x2 x3_17) else bnd (f_M_lagOf F σ x3) fun r10 σ11 => gd (inb x3 100) (bs (sA σ11 9 (Int.toNat x3) r10) fun σ12 => bv (x3 + 1) fun x3_13 => self σ12 x1 x2 x3_13)))
def l_M_rule_58 (F : Nat) : Nat → St → Int → Int → Int → Option (Int × St)
  | 0 => fun _ _ _ _ => none
  | n + 1 => fun σ x1 x2 x3 => b_M_rule_58 F (l_M_rule_58 F n) σ x1 x2 x3
def f_M_rule (F : Nat) (σ : St) (x1 : Int) : Option (Int × St) := bs (sF σ 0 0) fun σ1 => bnd (f_M_isIn F σ1 x1 0 1) fun r2 σ3 => gd (rng r2) (if r2 = 0 then some ((-1), σ3) else gd (inb 1 82) (gd (rng (gA σ3 2 (Int.toNat 1))) (if (gA σ3 2 (Int.toNat 1)) = 0 then some ((-1), σ3) else gd (rng x1) (if x1 = 0 then bnd (f_M_isEven F σ3) fun r19 σ20 => gd (rng r19) (if r19 = 0 then some ((-1), σ20) else gd (rng x1) (if x1 = 0 then gd (inb 1 82) (bv (gA σ20 2 (Int.toNat 1)) fun x2_24 => l_M_rule_58 F F σ20 x1 x2_24 0) else bnd (f_M_runOf F σ20) fun r21 σ22 => bv (r21 + 1) fun x2_23 => l_M_rule_58 F F σ22 x1 x2_23 0)) else gd (rng x1) (if x1 = 0 then gd (inb 1 82) (bv (gA σ3 2 (Int.toNat 1)) fun x2_18 => l_M_rule_58 F F σ3 x1 x2_18 0) else bnd (f_M_runOf F σ3) fun r4 σ5 => bv (r4 + 1) fun x2_6 => l_M_rule_58 F F σ5 x1 x2_6 0)))))
set_option maxRecDepth 100000 in
set_option maxHeartbeats 4000000 in
theorem cb_M_rule_58 {K : KX} (F : Nat) (self : St → Int → Int → Int → Option (Int × St)) (hself : ∀ σ x1 x2 x3, WA 6 0 1 cX11_rule RX11 4 (some .int) LYM LYM K 58 [some (.ref 0), some (vi x1), some (vi x2), some (vi x3)] [] σ (self σ x1 x2 x3)) (σ : St) (x1 x2 x3 : Int) : WA 6 0 1 cX11_rule RX11 4 (some .int) LYM LYM K 58 [some (.ref 0), some (vi x1), some (vi x2), some (vi x3)] [] σ (b_M_rule_58 F self σ x1 x2 x3) := by
  unfold b_M_rule_58
  refine a_iload_n dX11_rule_58 rfl ?_
  refine a_iload_n dX11_rule_59 rfl ?_
  refine a_icmp_ge dX11_rule_60 rfl (fun _ => ?_) (fun _ => ?_)
  · refine a_aload_n dX11_rule_92 rfl ?_
    refine a_iload_n dX11_rule_93 rfl ?_
    refine a_callVv (as := [vi x2]) mf_X11_335 lyM_0 rfl (c_M_keepRule F _ _) LYsame.rf dX11_rule_94 rfl rfl rfl rfl rfl rfl (Or.inl rfl) fun r7 σ8 => ?_
    refine a_aload_n dX11_rule_97 rfl ?_
    refine a_iconst dX11_rule_98 ?_
    refine a_putZ fl_X11_338 cf_X11 rfl rfl lyM_0 rfl dX11_rule_99 (key := 34) rfl fun σ9 => ?_
    refine a_aload_n dX11_rule_102 rfl ?_
    refine a_getI fl_X11_326 lyM_0 rfl dX11_rule_103 (key := 31) rfl ?_
    exact a_iret dX11_rule_106
  refine a_aload_n dX11_rule_63 rfl ?_
  refine a_getR (c0 := 9) fl_X11_56 lyM_0 rfl dX11_rule_64 (key := 28) rfl ?_
  refine a_iload_n dX11_rule_67 rfl ?_
  refine a_iload_n dX11_rule_68 rfl ?_
  refine a_if_ne dX11_rule_69 rfl (fun _ => ?_) (fun _ => ?_)
  · refine a_aload_n dX11_rule_80 rfl ?_
    refine a_iload_n dX11_rule_81 rfl ?_
    refine a_callVi (as := [vi x3]) mf_X11_317 lyM_0 rfl (c_M_lagOf F _ _) LYsame.rf dX11_rule_82 rfl rfl rfl rfl rfl rfl (Or.inl rfl) fun r10 σ11 => ?_
    refine a_iast lyM_9 rfl dX11_rule_85 fun σ12 => ?_
    refine a_bv fun x3_13 ex3_13 => ?_
    refine a_iinc (y := x3_13) (L' := [some (.ref 0), some (vi x1), some (vi x2), some (vi x3_13)]) dX11_rule_86 rfl ex3_13 rfl rfl rfl ?_
    refine a_goto dX11_rule_89 rfl ?_
    exact hself _ _ _ _
  refine a_aload_n dX11_rule_72 rfl ?_
  refine a_iload_n dX11_rule_73 rfl ?_
  refine a_callVi (as := [vi x3]) mf_X11_282 lyM_0 rfl (c_M_readingOf F _ _) LYsame.rf dX11_rule_74 rfl rfl rfl rfl rfl rfl (Or.inl rfl) fun r14 σ15 => ?_
  refine a_goto dX11_rule_77 rfl ?_
  refine a_iast lyM_9 rfl dX11_rule_85 fun σ16 => ?_
  refine a_bv fun x3_17 ex3_17 => ?_
  refine a_iinc (y := x3_17) (L' := [some (.ref 0), some (vi x1), some (vi x2), some (vi x3_17)]) dX11_rule_86 rfl ex3_17 rfl rfl rfl ?_
  refine a_goto dX11_rule_89 rfl ?_
  exact hself _ _ _ _
set_option maxRecDepth 100000 in
set_option maxHeartbeats 4000000 in
theorem cl_M_rule_58 {K : KX} (F : Nat) : ∀ (n : Nat) (σ : St) (x1 x2 x3 : Int), WA 6 0 1 cX11_rule RX11 4 (some .int) LYM LYM K 58 [some (.ref 0), some (vi x1), some (vi x2), some (vi x3)] [] σ (l_M_rule_58 F n σ x1 x2 x3)
  | 0, _, _, _, _ => a_none
  | n + 1, σ, x1, x2, x3 => cb_M_rule_58 F _ (cl_M_rule_58 F n) σ x1 x2 x3
set_option maxRecDepth 100000 in
set_option maxHeartbeats 4000000 in
theorem c_M_rule (F : Nat) (σ : St) (x1 : Int) : Ct 6 0 1 yX11_rule cX11_rule 4 (some .int) LYM LYM [.ref 0, vi x1] σ (f_M_rule F σ x1) := by
  unfold f_M_rule
  refine Ct_of (d := 6) (kp := 0) (kd := 1) (own := RX11) (nL := 4) (ret := (some .int)) (LY := LYM) (LYe := LYM) (L := [some (.ref 0), some (vi x1), none, none]) rfl (by decide +kernel) rfl rfl mf_L_111.2.2.2.1 rfl fun K => ?_
  refine a_aload_n dX11_rule_0 rfl ?_
  refine a_iconst dX11_rule_1 ?_
  refine a_putI fl_X11_1 cf_X11 rfl rfl lyM_0 rfl dX11_rule_2 (key := 0) rfl fun σ1 => ?_
  refine a_iload_n dX11_rule_5 rfl ?_
  refine a_iconst dX11_rule_6 ?_
  refine a_iconst dX11_rule_7 ?_
  refine a_callSi (as := [vi x1, vi 0, vi 1]) mf_X11_175 (c_M_isIn F _ _ _ _) LYsame.rf dX11_rule_8 rfl rfl rfl rfl rfl rfl (Or.inl rfl) fun r2 σ3 => ?_
  refine a_if_eq dX11_rule_11 rfl (fun _ => ?_) (fun _ => ?_)
  · refine a_iconst dX11_rule_34 ?_
    exact a_iret dX11_rule_35
  refine a_aload_n dX11_rule_14 rfl ?_
  refine a_getR (c0 := 2) fl_X11_33 lyM_0 rfl dX11_rule_15 (key := 6) rfl ?_
  refine a_iconst dX11_rule_18 ?_
  refine a_iald lyM_2 rfl dX11_rule_19 ?_
  refine a_if_eq dX11_rule_20 rfl (fun _ => ?_) (fun _ => ?_)
  · refine a_iconst dX11_rule_34 ?_
    exact a_iret dX11_rule_35
  refine a_iload_n dX11_rule_23 rfl ?_
  refine a_if_ne dX11_rule_24 rfl (fun _ => ?_) (fun _ => ?_)
  · refine a_iload_n dX11_rule_36 rfl ?_
    refine a_if_ne dX11_rule_37 rfl (fun _ => ?_) (fun _ => ?_)
    · refine a_aload_n dX11_rule_49 rfl ?_
      refine a_callVi (as := []) mf_X11_314 lyM_0 rfl (c_M_runOf F _) LYsame.rf dX11_rule_50 rfl rfl rfl rfl rfl rfl (Or.inl rfl) fun r4 σ5 => ?_
      refine a_iconst dX11_rule_53 ?_
      refine a_iadd dX11_rule_54 ?_
      refine a_bv fun x2_6 ex2_6 => ?_
      refine a_istore_n (y := x2_6) (L' := [some (.ref 0), some (vi x1), some (vi x2_6), none]) dX11_rule_55 ex2_6 rfl rfl rfl ?_
      refine a_iconst dX11_rule_56 ?_
      refine a_istore_n (L' := [some (.ref 0), some (vi x1), some (vi x2_6), some (vi 0)]) dX11_rule_57 rfl rfl rfl rfl ?_
      exact cl_M_rule_58 F F _ _ _ _
    refine a_aload_n dX11_rule_40 rfl ?_
    refine a_getR (c0 := 2) fl_X11_33 lyM_0 rfl dX11_rule_41 (key := 6) rfl ?_
    refine a_iconst dX11_rule_44 ?_
    refine a_iald lyM_2 rfl dX11_rule_45 ?_
    refine a_goto dX11_rule_46 rfl ?_
    refine a_bv fun x2_18 ex2_18 => ?_
    refine a_istore_n (y := x2_18) (L' := [some (.ref 0), some (vi x1), some (vi x2_18), none]) dX11_rule_55 ex2_18 rfl rfl rfl ?_
    refine a_iconst dX11_rule_56 ?_
    refine a_istore_n (L' := [some (.ref 0), some (vi x1), some (vi x2_18), some (vi 0)]) dX11_rule_57 rfl rfl rfl rfl ?_
    exact cl_M_rule_58 F F _ _ _ _
  refine a_aload_n dX11_rule_27 rfl ?_
  refine a_callVi (as := []) mf_X11_302 lyM_0 rfl (c_M_isEven F _) LYsame.rf dX11_rule_28 rfl rfl rfl rfl rfl rfl (Or.inl rfl) fun r19 σ20 => ?_
  refine a_if_ne dX11_rule_31 rfl (fun _ => ?_) (fun _ => ?_)
  · refine a_iload_n dX11_rule_36 rfl ?_
    refine a_if_ne dX11_rule_37 rfl (fun _ => ?_) (fun _ => ?_)
    · refine a_aload_n dX11_rule_49 rfl ?_
      refine a_callVi (as := []) mf_X11_314 lyM_0 rfl (c_M_runOf F _) LYsame.rf dX11_rule_50 rfl rfl rfl rfl rfl rfl (Or.inl rfl) fun r21 σ22 => ?_
      refine a_iconst dX11_rule_53 ?_
      refine a_iadd dX11_rule_54 ?_
      refine a_bv fun x2_23 ex2_23 => ?_
      refine a_istore_n (y := x2_23) (L' := [some (.ref 0), some (vi x1), some (vi x2_23), none]) dX11_rule_55 ex2_23 rfl rfl rfl ?_
      refine a_iconst dX11_rule_56 ?_
      refine a_istore_n (L' := [some (.ref 0), some (vi x1), some (vi x2_23), some (vi 0)]) dX11_rule_57 rfl rfl rfl rfl ?_
      exact cl_M_rule_58 F F _ _ _ _
    refine a_aload_n dX11_rule_40 rfl ?_
    refine a_getR (c0 := 2) fl_X11_33 lyM_0 rfl dX11_rule_41 (key := 6) rfl ?_
    refine a_iconst dX11_rule_44 ?_
    refine a_iald lyM_2 rfl dX11_rule_45 ?_
    refine a_goto dX11_rule_46 rfl ?_
    refine a_bv fun x2_24 ex2_24 => ?_
    refine a_istore_n (y := x2_24) (L' := [some (.ref 0), some (vi x1), some (vi x2_24), none]) dX11_rule_55 ex2_24 rfl rfl rfl ?_
    refine a_iconst dX11_rule_56 ?_
    refine a_istore_n (L' := [some (.ref 0), some (vi x1), some (vi x2_24), some (vi 0)]) dX11_rule_57 rfl rfl rfl rfl ?_
    exact cl_M_rule_58 F F _ _ _ _
  refine a_iconst dX11_rule_34 ?_
  exact a_iret dX11_rule_35
def f_M_ruleAt (F : Nat) (σ : St) (x1 : Int) : Option (Int × St) := bs (sF σ 0 0) fun σ1 => gd (rng (gF σ1 34)) (if (gF σ1 34) = 0 then some ((-1), σ1) else bnd (f_M_isIn F σ1 x1 1 (gF σ1 31)) fun r2 σ3 => gd (rng r2) (if r2 = 0 then some ((-1), σ3) else gd (inb x1 101) (some ((gA σ3 10 (Int.toNat x1)), σ3))))
set_option maxRecDepth 100000 in
set_option maxHeartbeats 4000000 in
theorem c_M_ruleAt (F : Nat) (σ : St) (x1 : Int) : Ct 2 0 1 yX11_ruleAt cX11_ruleAt 2 (some .int) LYM LYM [.ref 0, vi x1] σ (f_M_ruleAt F σ x1) := by
  unfold f_M_ruleAt
  refine Ct_of (d := 2) (kp := 0) (kd := 1) (own := RX11) (nL := 2) (ret := (some .int)) (LY := LYM) (LYe := LYM) (L := [some (.ref 0), some (vi x1)]) rfl (by decide +kernel) rfl rfl mf_L_115.2.2.2.1 rfl fun K => ?_
  refine a_aload_n dX11_ruleAt_0 rfl ?_
  refine a_iconst dX11_ruleAt_1 ?_
  refine a_putI fl_X11_1 cf_X11 rfl rfl lyM_0 rfl dX11_ruleAt_2 (key := 0) rfl fun σ1 => ?_
  refine a_aload_n dX11_ruleAt_5 rfl ?_
  refine a_getI fl_X11_338 lyM_0 rfl dX11_ruleAt_6 (key := 34) rfl ?_
  refine a_if_eq dX11_ruleAt_9 rfl (fun _ => ?_) (fun _ => ?_)
  · refine a_iconst dX11_ruleAt_33 ?_
    exact a_iret dX11_ruleAt_34
  refine a_iload_n dX11_ruleAt_12 rfl ?_
  refine a_iconst dX11_ruleAt_13 ?_
  refine a_aload_n dX11_ruleAt_14 rfl ?_
  refine a_getI fl_X11_326 lyM_0 rfl dX11_ruleAt_15 (key := 31) rfl ?_
  refine a_callSi (as := [vi x1, vi 1, vi (gF σ1 31)]) mf_X11_175 (c_M_isIn F _ _ _ _) LYsame.rf dX11_ruleAt_18 rfl rfl rfl rfl rfl rfl (Or.inl rfl) fun r2 σ3 => ?_
  refine a_if_eq dX11_ruleAt_21 rfl (fun _ => ?_) (fun _ => ?_)
  · refine a_iconst dX11_ruleAt_33 ?_
    exact a_iret dX11_ruleAt_34
  refine a_aload_n dX11_ruleAt_24 rfl ?_
  refine a_getR (c0 := 10) fl_X11_59 lyM_0 rfl dX11_ruleAt_25 (key := 29) rfl ?_
  refine a_iload_n dX11_ruleAt_28 rfl ?_
  refine a_iald lyM_10 rfl dX11_ruleAt_29 ?_
  refine a_goto dX11_ruleAt_30 rfl ?_
  exact a_iret dX11_ruleAt_34
def f_M_roots (F : Nat) (σ : St) : Option (Int × St) := bs (sF σ 0 0) fun σ1 => some ((gF σ1 33), σ1)
set_option maxRecDepth 100000 in
set_option maxHeartbeats 4000000 in
theorem c_M_roots (F : Nat) (σ : St) : Ct 1 0 2 yX11_roots cX11_roots 1 (some .long) LYM LYM [.ref 0] σ (f_M_roots F σ) := by
  unfold f_M_roots
  refine Ct_of (d := 1) (kp := 0) (kd := 2) (own := RX11) (nL := 1) (ret := (some .long)) (LY := LYM) (LYe := LYM) (L := [some (.ref 0)]) rfl (by decide +kernel) rfl rfl mf_L_119.2.2.2.1 rfl fun K => ?_
  refine a_aload_n dX11_roots_0 rfl ?_
  refine a_iconst dX11_roots_1 ?_
  refine a_putI fl_X11_1 cf_X11 rfl rfl lyM_0 rfl dX11_roots_2 (key := 0) rfl fun σ1 => ?_
  refine a_aload_n dX11_roots_5 rfl ?_
  refine a_getL fl_X11_329 lyM_0 rfl dX11_roots_6 (key := 33) rfl ?_
  exact a_lret dX11_roots_9
def f_M_strength (F : Nat) (σ : St) (x1 : Int) : Option (Int × St) := bs (sF σ 0 0) fun σ1 => bnd (f_M_isIn F σ1 x1 0 ((gF σ1 32) - 1)) fun r2 σ3 => gd (rng r2) (if r2 = 0 then some ((-1), σ3) else gd (inb x1 60) (some ((gA σ3 11 (Int.toNat x1)), σ3)))
set_option maxRecDepth 100000 in
set_option maxHeartbeats 4000000 in
theorem c_M_strength (F : Nat) (σ : St) (x1 : Int) : Ct 2 0 1 yX11_strength cX11_strength 2 (some .int) LYM LYM [.ref 0, vi x1] σ (f_M_strength F σ x1) := by
  unfold f_M_strength
  refine Ct_of (d := 2) (kp := 0) (kd := 1) (own := RX11) (nL := 2) (ret := (some .int)) (LY := LYM) (LYe := LYM) (L := [some (.ref 0), some (vi x1)]) rfl (by decide +kernel) rfl rfl mf_L_123.2.2.2.1 rfl fun K => ?_
  refine a_aload_n dX11_strength_0 rfl ?_
  refine a_iconst dX11_strength_1 ?_
  refine a_putI fl_X11_1 cf_X11 rfl rfl lyM_0 rfl dX11_strength_2 (key := 0) rfl fun σ1 => ?_
  refine a_iload_n dX11_strength_5 rfl ?_
  refine a_iconst dX11_strength_6 ?_
  refine a_aload_n dX11_strength_7 rfl ?_
  refine a_getI fl_X11_332 lyM_0 rfl dX11_strength_8 (key := 32) rfl ?_
  refine a_iconst dX11_strength_11 ?_
  refine a_isub dX11_strength_12 ?_
  refine a_callSi (as := [vi x1, vi 0, vi ((gF σ1 32) - 1)]) mf_X11_175 (c_M_isIn F _ _ _ _) LYsame.rf dX11_strength_13 rfl rfl rfl rfl rfl rfl (Or.inl rfl) fun r2 σ3 => ?_
  refine a_if_eq dX11_strength_16 rfl (fun _ => ?_) (fun _ => ?_)
  · refine a_iconst dX11_strength_28 ?_
    exact a_iret dX11_strength_29
  refine a_aload_n dX11_strength_19 rfl ?_
  refine a_getR (c0 := 11) fl_X11_62 lyM_0 rfl dX11_strength_20 (key := 30) rfl ?_
  refine a_iload_n dX11_strength_23 rfl ?_
  refine a_iald lyM_11 rfl dX11_strength_24 ?_
  refine a_goto dX11_strength_25 rfl ?_
  exact a_iret dX11_strength_29
def b_M_takesReadings_21 (F : Nat) (self : St → Int → Option (Int × St)) (σ : St) (x1 : Int) : Option (Int × St) := gd (rng (gF σ 3) ∧ rng 2 ∧ 2 ≠ (0 : Int)) (gd (rng x1 ∧ rng (Int.tdiv (gF σ 3) 2)) (if (Int.tdiv (gF σ 3) 2) ≤ x1 then gd (rng (gF σ 3) ∧ rng 2 ∧ 2 ≠ (0 : Int)) (some ((Int.tdiv (gF σ 3) 2), σ)) else bnd (f_M_octet F σ (2 * x1)) fun r3 σ4 => bnd (f_M_octet F σ4 ((2 * x1) + 1)) fun r5 σ6 => gd (rng ((256 * r3) + r5) ∧ rng (gF σ6 20) ∧ (gF σ6 20) ≠ (0 : Int)) (bv (Int.tmod ((256 * r3) + r5) (gF σ6 20)) fun t7 => gd (inb x1 470) (bs (sA σ6 12 (Int.toNat x1) t7) fun σ8 => bv (x1 + 1) fun x1_9 => self σ8 x1_9))))
def l_M_takesReadings_21 (F : Nat) : Nat → St → Int → Option (Int × St)
  | 0 => fun _ _ => none
  | n + 1 => fun σ x1 => b_M_takesReadings_21 F (l_M_takesReadings_21 F n) σ x1
def f_M_takesReadings (F : Nat) (σ : St) : Option (Int × St) := bnd (f_M_taken F σ 940) fun r1 σ2 => gd (rng (gF σ2 3) ∧ rng 2 ∧ 2 ≠ (0 : Int)) (gd (rng (Int.tmod (gF σ2 3) 2) ∧ rng 1) (if (Int.tmod (gF σ2 3) 2) = 1 then some ((-1), σ2) else l_M_takesReadings_21 F F σ2 0))
set_option maxRecDepth 100000 in
set_option maxHeartbeats 4000000 in
theorem cb_M_takesReadings_21 {K : KX} (F : Nat) (self : St → Int → Option (Int × St)) (hself : ∀ σ x1, WA 2 0 1 cX11_takesReadings RX11 2 (some .int) LYM LYM K 21 [some (.ref 0), some (vi x1)] [] σ (self σ x1)) (σ : St) (x1 : Int) : WA 2 0 1 cX11_takesReadings RX11 2 (some .int) LYM LYM K 21 [some (.ref 0), some (vi x1)] [] σ (b_M_takesReadings_21 F self σ x1) := by
  unfold b_M_takesReadings_21
  refine a_iload_n dX11_takesReadings_21 rfl ?_
  refine a_aload_n dX11_takesReadings_22 rfl ?_
  refine a_getI fl_X11_18 lyM_0 rfl dX11_takesReadings_23 (key := 3) rfl ?_
  refine a_iconst dX11_takesReadings_26 ?_
  refine a_idiv dX11_takesReadings_27 (fun _ => ?_)
  refine a_icmp_ge dX11_takesReadings_28 rfl (fun _ => ?_) (fun _ => ?_)
  · refine a_aload_n dX11_takesReadings_69 rfl ?_
    refine a_getI fl_X11_18 lyM_0 rfl dX11_takesReadings_70 (key := 3) rfl ?_
    refine a_iconst dX11_takesReadings_73 ?_
    refine a_idiv dX11_takesReadings_74 (fun _ => ?_)
    exact a_iret dX11_takesReadings_75
  refine a_aload_n dX11_takesReadings_31 rfl ?_
  refine a_getR (c0 := 12) fl_X11_65 lyM_0 rfl dX11_takesReadings_32 (key := 35) rfl ?_
  refine a_iload_n dX11_takesReadings_35 rfl ?_
  refine a_sipush dX11_takesReadings_36 si_256 ?_
  refine a_aload_n dX11_takesReadings_39 rfl ?_
  refine a_iconst dX11_takesReadings_40 ?_
  refine a_iload_n dX11_takesReadings_41 rfl ?_
  refine a_imul dX11_takesReadings_42 ?_
  refine a_callVi (as := [vi (2 * x1)]) mf_X11_341 lyM_0 rfl (c_M_octet F _ _) LYsame.rf dX11_takesReadings_43 rfl rfl rfl rfl rfl rfl (Or.inl rfl) fun r3 σ4 => ?_
  refine a_imul dX11_takesReadings_46 ?_
  refine a_aload_n dX11_takesReadings_47 rfl ?_
  refine a_iconst dX11_takesReadings_48 ?_
  refine a_iload_n dX11_takesReadings_49 rfl ?_
  refine a_imul dX11_takesReadings_50 ?_
  refine a_iconst dX11_takesReadings_51 ?_
  refine a_iadd dX11_takesReadings_52 ?_
  refine a_callVi (as := [vi ((2 * x1) + 1)]) mf_X11_341 lyM_0 rfl (c_M_octet F _ _) LYsame.rf dX11_takesReadings_53 rfl rfl rfl rfl rfl rfl (Or.inl rfl) fun r5 σ6 => ?_
  refine a_iadd dX11_takesReadings_56 ?_
  refine a_aload_n dX11_takesReadings_57 rfl ?_
  refine a_getI fl_X11_230 lyM_0 rfl dX11_takesReadings_58 (key := 20) rfl ?_
  refine a_irem dX11_takesReadings_61 (fun _ => ?_)
  refine a_bvi fun t7 => ?_
  refine a_iast lyM_12 rfl dX11_takesReadings_62 fun σ8 => ?_
  refine a_bv fun x1_9 ex1_9 => ?_
  refine a_iinc (y := x1_9) (L' := [some (.ref 0), some (vi x1_9)]) dX11_takesReadings_63 rfl ex1_9 rfl rfl rfl ?_
  refine a_goto dX11_takesReadings_66 rfl ?_
  exact hself _ _
set_option maxRecDepth 100000 in
set_option maxHeartbeats 4000000 in
theorem cl_M_takesReadings_21 {K : KX} (F : Nat) : ∀ (n : Nat) (σ : St) (x1 : Int), WA 2 0 1 cX11_takesReadings RX11 2 (some .int) LYM LYM K 21 [some (.ref 0), some (vi x1)] [] σ (l_M_takesReadings_21 F n σ x1)
  | 0, _, _ => a_none
  | n + 1, σ, x1 => cb_M_takesReadings_21 F _ (cl_M_takesReadings_21 F n) σ x1
set_option maxRecDepth 100000 in
set_option maxHeartbeats 4000000 in
theorem c_M_takesReadings (F : Nat) (σ : St) : Ct 2 0 1 yX11_takesReadings cX11_takesReadings 2 (some .int) LYM LYM [.ref 0] σ (f_M_takesReadings F σ) := by
  unfold f_M_takesReadings
  refine Ct_of (d := 2) (kp := 0) (kd := 1) (own := RX11) (nL := 2) (ret := (some .int)) (LY := LYM) (LYe := LYM) (L := [some (.ref 0), none]) rfl (by decide +kernel) rfl rfl mf_X11_344.2.2.2.1 rfl fun K => ?_
  refine a_aload_n dX11_takesReadings_0 rfl ?_
  refine a_sipush dX11_takesReadings_1 si_940 ?_
  refine a_callVv (as := [vi 940]) mf_X11_218 lyM_0 rfl (c_M_taken F _ _) LYsame.rf dX11_takesReadings_4 rfl rfl rfl rfl rfl rfl (Or.inl rfl) fun r1 σ2 => ?_
  refine a_aload_n dX11_takesReadings_7 rfl ?_
  refine a_getI fl_X11_18 lyM_0 rfl dX11_takesReadings_8 (key := 3) rfl ?_
  refine a_iconst dX11_takesReadings_11 ?_
  refine a_irem dX11_takesReadings_12 (fun _ => ?_)
  refine a_iconst dX11_takesReadings_13 ?_
  refine a_icmp_ne dX11_takesReadings_14 rfl (fun _ => ?_) (fun _ => ?_)
  · refine a_iconst dX11_takesReadings_19 ?_
    refine a_istore_n (L' := [some (.ref 0), some (vi 0)]) dX11_takesReadings_20 rfl rfl rfl rfl ?_
    exact cl_M_takesReadings_21 F F _ _
  refine a_iconst dX11_takesReadings_17 ?_
  exact a_iret dX11_takesReadings_18
