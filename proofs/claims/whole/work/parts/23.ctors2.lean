theorem c_astm {d mc ms : Nat} {cc : ByteArray} {own : String} {nL h0 : Nat} {K : KX} {B : (Nat → ClassId) → va_W → Prop} {pc : Nat} {L : List (Option Value)} {st : List Value} {ws : va_W} {cu su : Nat} {q0 a v n i : Nat} {vs : List Value} {f : Nat → Option Nat} (ha : ws[q0]? = some (a, .inl (K.2.2.2.1 5, (n, .inr (.inr (.inr (.inr f))))))) (hv : (v, .inr (7, vs)) ∈ ws) (hi : Nat.blt i n = true) (hn : Nat.blt n 100000 = true) (hd : decode cc pc = .ok (.aastore, 1)) (kk : WC d mc ms cc own nL h0 K B (pc + 1) L st (ws.set q0 (a, .inl (K.2.2.2.1 5, (n, .inr (.inr (.inr (.inr (va_up f i (some v)))))))) ) cu su) : WC d mc ms cc own nL h0 K B pc L (.ref v :: vi i :: .ref a :: st) ws cu su := by
  obtain ⟨qk, hqk⟩ := List.mem_iff_getElem?.mp hv
  exact c_astq ha hqk hi hn hd kk
theorem va_P_perm {D : va_G} {cl : List vw_C} {ws ws' : va_W} {H : Heap} (h : ws'.Perm ws) (hP : va_P D cl ws H) : va_P D cl ws' H := by
  intro k q hk
  obtain ⟨k', hk'⟩ := List.mem_iff_getElem?.mp (h.mem_iff.mp (List.mem_of_getElem? hk))
  exact hP k' q hk'
theorem c_perm {d mc ms : Nat} {cc : ByteArray} {own : String} {nL h0 : Nat} {K : KX} {B : (Nat → ClassId) → va_W → Prop} {pc : Nat} {L : List (Option Value)} {st : List Value} {ws ws' : va_W} {cu su : Nat} (h : ws'.Perm ws) (kk : WC d mc ms cc own nL h0 K B pc L st ws' cu su) : WC d mc ms cc own nL h0 K B pc L st ws cu su := by
  intro hK
  have kk := kk hK
  obtain ⟨⟨p, l, e, s, m, args⟩, ⟨below, meth, c⟩, ⟨ad0, tc, D⟩⟩ := K
  intro H locs ls hP hD hS hl
  exact kk H locs ls (va_P_perm h hP) (va_D_perm h.symm hD) hS hl
theorem c_mv {d mc ms : Nat} {cc : ByteArray} {own : String} {nL h0 : Nat} {K : KX} {B : (Nat → ClassId) → va_W → Prop} {pc : Nat} {L : List (Option Value)} {st : List Value} {R : va_W} {cu su : Nat} {c x : Nat × va_E} (kk : WC d mc ms cc own nL h0 K B pc L st (c :: x :: R) cu su) : WC d mc ms cc own nL h0 K B pc L st ((c :: R) ++ [x]) cu su := c_perm (by
  show (c :: x :: R).Perm (c :: (R ++ [x]))
  exact List.Perm.cons _ (List.perm_append_singleton x R).symm) kk
abbrev tc5 (K : KX) : ClassId := K.2.2.2.1 5
theorem c_hd2 {d mc ms : Nat} {cc : ByteArray} {own : String} {nL h0 : Nat} {K : KX} {B : (Nat → ClassId) → va_W → Prop} {pc : Nat} {L : List (Option Value)} {st : List Value} {ws R : va_W} {cu su : Nat} {c x : Nat × va_E} (h : ws = c :: x :: R) (kk : WC d mc ms cc own nL h0 K B pc L st (c :: x :: R) cu su) : WC d mc ms cc own nL h0 K B pc L st ws cu su := h ▸ kk
theorem c_hd {d mc ms : Nat} {cc : ByteArray} {own : String} {nL h0 : Nat} {K : KX} {B : (Nat → ClassId) → va_W → Prop} {pc : Nat} {L : List (Option Value)} {st : List Value} {ws R : va_W} {cu su : Nat} {c : Nat × va_E} (h : ws = c :: R) (kk : WC d mc ms cc own nL h0 K B pc L st (c :: R) cu su) : WC d mc ms cc own nL h0 K B pc L st ws cu su := h ▸ kk
abbrev fzX10 : List Value := [.null, .null, .null, .null, .null, .null, .null, .null, .null, .null, .null, .null, .null, .null, vi 0, .null, vi 0, .null]
theorem dfX10 : ∀ j, j < 18 → defaultValue (tyX10 j) = vp_V fzX10 j
  | 0, _ => rfl
  | 1, _ => rfl
  | 2, _ => rfl
  | 3, _ => rfl
  | 4, _ => rfl
  | 5, _ => rfl
  | 6, _ => rfl
  | 7, _ => rfl
  | 8, _ => rfl
  | 9, _ => rfl
  | 10, _ => rfl
  | 11, _ => rfl
  | 12, _ => rfl
  | 13, _ => rfl
  | 14, _ => rfl
  | 15, _ => rfl
  | 16, _ => rfl
  | 17, _ => rfl
  | _ + 18, h => absurd h (by omega)
def BX10 (h0 : Nat) (tc : Nat → ClassId) (ws : va_W) : Prop := ∃ q1 q2 q3 q4 q5 q6 q7 q8 q9 q10 q11 q12 q13 q14 q15 q16 q17 q18 q19 q20 q21 q22 q23 q24 q25 q26 q27 q28 q29 q30 q31 q32 q33 q34 q35 q36 q37 q38 q39 q40 q41 q42 q43 q44 q45 q46 q47 q48 q49 q50 q51 q52 q53 q54 q55 q56 q57 q58 q59 q60 q61 q62 q63 q64 q65 q66 q67 q68 q69 q70 q71 q72 q73 q74 q75 q76 q77 q78 q79 q80 q81 q82 q83 q84 q85 q86 q87 q88 q89 q90 q91 q92 q93 q94 q95 q96 q97 q98 q99 q100 q101 q102 : Nat, ws = (h0, .inr (10, [.ref q1, .ref q3, .ref q7, .ref q22, .ref q37, .ref q38, .ref q39, .ref q42, .ref q48, .ref q56, .ref q62, .ref q63, .ref q65, .ref q67, vi (-1), .ref q69, vi (-1), .ref q71])) :: (q37, .inl (tc 5, (2, .inr (.inr (.inr (.inr (va_up (va_up (fun _ => none) 0 (some q73)) 1 (some q88)))))))) :: ((((((((((((((((([] ++ ([(q1, .inr (8, [.ref q2, vi 0])), (q2, .inl (tc 0, (940, (.inl fun _ => 0))))])) ++ ([(q3, .inr (4, [vi 0, vi 0, .ref q4, vi 0, vi 0, vi 0, vi 0, vl 0, vi 0, vi 0, vi 0, .ref q5, .ref q6])), (q4, .inl (tc 0, (0, (.inl fun _ => 0)))), (q5, .inl (tc 3, (6, (.inr (.inl fun _ => 0))))), (q6, .inl (tc 3, (4, (.inr (.inl fun _ => 0)))))])) ++ ([(q7, .inr (7, [.ref q8, .ref q10, vi 0, vi 0, .ref q16, .ref q17, vi 0, .ref q18, .ref q19, .ref q20, .ref q21]))] ++ (wl (adS q8 q9) tc latS 0 LYS ++ ([(q10, .inr (0, [vi 0, .ref q11, .ref q12, vi 0, .ref q13, .ref q14, .ref q15, vl 0, vl 0, vl 1])), (q11, .inl (tc 0, (4, (.inl fun _ => 0)))), (q12, .inl (tc 0, (4, (.inl fun _ => 0)))), (q13, .inl (tc 0, (8, (.inl fun _ => 0)))), (q14, .inl (tc 0, (8, (.inl fun _ => 0)))), (q15, .inl (tc 0, (8, (.inl fun _ => 0)))), (q16, .inl (tc 0, (10, (.inl fun _ => 0)))), (q17, .inl (tc 0, (10, (.inl fun _ => 0)))), (q18, .inl (tc 0, (6, (.inl fun _ => 0)))), (q19, .inl (tc 0, (6, (.inl fun _ => 0)))), (q20, .inl (tc 0, (6, (.inl fun _ => 0)))), (q21, .inl (tc 0, (6, (.inl fun _ => 0))))])))) ++ ([(q22, .inr (7, [.ref q23, .ref q25, vi 0, vi 0, .ref q31, .ref q32, vi 0, .ref q33, .ref q34, .ref q35, .ref q36]))] ++ (wl (adS q23 q24) tc latS 0 LYS ++ ([(q25, .inr (0, [vi 0, .ref q26, .ref q27, vi 0, .ref q28, .ref q29, .ref q30, vl 0, vl 0, vl 1])), (q26, .inl (tc 0, (4, (.inl fun _ => 0)))), (q27, .inl (tc 0, (4, (.inl fun _ => 0)))), (q28, .inl (tc 0, (8, (.inl fun _ => 0)))), (q29, .inl (tc 0, (8, (.inl fun _ => 0)))), (q30, .inl (tc 0, (8, (.inl fun _ => 0)))), (q31, .inl (tc 0, (10, (.inl fun _ => 0)))), (q32, .inl (tc 0, (10, (.inl fun _ => 0)))), (q33, .inl (tc 0, (6, (.inl fun _ => 0)))), (q34, .inl (tc 0, (6, (.inl fun _ => 0)))), (q35, .inl (tc 0, (6, (.inl fun _ => 0)))), (q36, .inl (tc 0, (6, (.inl fun _ => 0))))])))) ++ ([(q38, .inl (tc 2, (2, (.inl fun _ => 0))))])) ++ ([(q39, .inr (5, [.ref q40, .ref q41])), (q40, .inl (tc 4, (46, .inr (.inr (.inr (.inr (gridC q40 46)))))))] ++ (rowsW q40 46 (.inl (tc 0, (70, .inl fun _ => 0))) ++ ([(q41, .inl (tc 0, (46, (.inl fun _ => 0))))])))) ++ ([(q42, .inr (6, [.ref q43, .ref q44, .ref q46, vl 0])), (q43, .inl (tc 0, (46, (.inl fun _ => 0)))), (q44, .inr (9, [.ref q45, vi 0])), (q45, .inl (tc 0, (46, (.inl fun _ => 0)))), (q46, .inr (9, [.ref q47, vi 0])), (q47, .inl (tc 0, (46, (.inl fun _ => 0))))])) ++ ([(q48, .inr (3, [vi 0, .ref q49, vi 0, vi 0, vi 0, .ref q50, vi 0, .ref q51, .ref q52, .ref q53, .ref q54, .ref q55, vi 0])), (q49, .inl (tc 0, (3, (.inl fun _ => 0)))), (q50, .inl (tc 4, (60, .inr (.inr (.inr (.inr (gridC q50 60)))))))] ++ (rowsW q50 60 (.inl (tc 0, (10, .inl fun _ => 0))) ++ ([(q51, .inl (tc 0, (10, (.inl fun _ => 0)))), (q52, .inl (tc 4, (3, .inr (.inr (.inr (.inr (gridC q52 3)))))))] ++ (rowsW q52 3 (.inl (tc 0, (10, .inl fun _ => 0))) ++ ([(q53, .inl (tc 4, (3, .inr (.inr (.inr (.inr (gridC q53 3)))))))] ++ (rowsW q53 3 (.inl (tc 0, (10, .inl fun _ => 0))) ++ ([(q54, .inl (tc 0, (3, (.inl fun _ => 0)))), (q55, .inl (tc 0, (3, (.inl fun _ => 0))))])))))))) ++ ([(q56, .inr (1, [.ref q57, vi 0, .ref q59, .ref q60, .ref q61, vi 0])), (q57, .inr (9, [.ref q58, vi 0])), (q58, .inl (tc 0, (8, (.inl fun _ => 0)))), (q59, .inl (tc 0, (28, (.inl fun _ => 0)))), (q60, .inl (tc 0, (28, (.inl fun _ => 0)))), (q61, .inl (tc 0, (8, (.inl fun _ => 0))))])) ++ ([(q62, .inl (tc 0, (10, (.inl fun _ => 0))))])) ++ ([(q63, .inr (9, [.ref q64, vi 0])), (q64, .inl (tc 0, (3, (.inl fun _ => 0))))])) ++ ([(q65, .inr (9, [.ref q66, vi 0])), (q66, .inl (tc 0, (3, (.inl fun _ => 0))))])) ++ ([(q67, .inr (9, [.ref q68, vi 0])), (q68, .inl (tc 0, (3, (.inl fun _ => 0))))])) ++ ([(q69, .inr (9, [.ref q70, vi 0])), (q70, .inl (tc 0, (2, (.inl fun _ => 0))))])) ++ ([(q71, .inr (9, [.ref q72, vi 0])), (q72, .inl (tc 0, (10, (.inl fun _ => 0))))])) ++ ([(q73, .inr (7, [.ref q74, .ref q76, vi 0, vi 0, .ref q82, .ref q83, vi 0, .ref q84, .ref q85, .ref q86, .ref q87]))] ++ (wl (adS q74 q75) tc latS 0 LYS ++ ([(q76, .inr (0, [vi 0, .ref q77, .ref q78, vi 0, .ref q79, .ref q80, .ref q81, vl 0, vl 0, vl 1])), (q77, .inl (tc 0, (4, (.inl fun _ => 0)))), (q78, .inl (tc 0, (4, (.inl fun _ => 0)))), (q79, .inl (tc 0, (8, (.inl fun _ => 0)))), (q80, .inl (tc 0, (8, (.inl fun _ => 0)))), (q81, .inl (tc 0, (8, (.inl fun _ => 0)))), (q82, .inl (tc 0, (10, (.inl fun _ => 0)))), (q83, .inl (tc 0, (10, (.inl fun _ => 0)))), (q84, .inl (tc 0, (6, (.inl fun _ => 0)))), (q85, .inl (tc 0, (6, (.inl fun _ => 0)))), (q86, .inl (tc 0, (6, (.inl fun _ => 0)))), (q87, .inl (tc 0, (6, (.inl fun _ => 0))))])))) ++ ([(q88, .inr (7, [.ref q89, .ref q91, vi 0, vi 0, .ref q97, .ref q98, vi 0, .ref q99, .ref q100, .ref q101, .ref q102]))] ++ (wl (adS q89 q90) tc latS 0 LYS ++ ([(q91, .inr (0, [vi 0, .ref q92, .ref q93, vi 0, .ref q94, .ref q95, .ref q96, vl 0, vl 0, vl 1])), (q92, .inl (tc 0, (4, (.inl fun _ => 0)))), (q93, .inl (tc 0, (4, (.inl fun _ => 0)))), (q94, .inl (tc 0, (8, (.inl fun _ => 0)))), (q95, .inl (tc 0, (8, (.inl fun _ => 0)))), (q96, .inl (tc 0, (8, (.inl fun _ => 0)))), (q97, .inl (tc 0, (10, (.inl fun _ => 0)))), (q98, .inl (tc 0, (10, (.inl fun _ => 0)))), (q99, .inl (tc 0, (6, (.inl fun _ => 0)))), (q100, .inl (tc 0, (6, (.inl fun _ => 0)))), (q101, .inl (tc 0, (6, (.inl fun _ => 0)))), (q102, .inl (tc 0, (6, (.inl fun _ => 0))))]))))
set_option maxRecDepth 100000 in
set_option maxHeartbeats 4000000 in
theorem cn_X10 : CN 7 214 5952 yX10_init cX10_init 2 10 fzX10 [] BX10 := by
  refine CN_of (own := RX10) (L := fun h0 => [some (.ref h0), none]) rfl rfl rfl rfl (fun _ => rfl) rfl (fun h0 K => ?_)
  refine c_aload_n dX10_init_0 rfl ?_
  refine c_obj (tg 26 (by decide +kernel) rfl) rfl rfl dX10_init_1 ?_
  refine c_aload_n dX10_init_4 rfl ?_
  refine c_new (ci := 8) (fs := fzX8) ingX8 cf_X8 rfl (tg 29 (by decide +kernel) rfl) (tg 30 (by decide +kernel) rfl) (tg 2 (by decide +kernel) rfl) dfX8 rfl rfl dX10_init_5 (fun q1 => ?_)
  refine c_dup dX10_init_8 rfl ?_
  refine c_callN ⟨List.mem_of_getElem? (i := 0) rfl, rfl, (tg 32 (by decide +kernel) rfl), (tg 2 (by decide +kernel) rfl), (tg 33 (by decide +kernel) rfl), by decide⟩ cn_X8 rfl dX10_init_9 rfl rfl rfl rfl rfl rfl rfl (fun _ w => ?_)
  obtain ⟨q2, rfl⟩ := w
  refine c_putF (q0 := 0) fl_X10_10 cf_X10 rfl rfl rfl rfl rfl rfl rfl dX10_init_12 ?_
  refine c_hd (c := (h0, .inr (10, [.ref q1, .null, .null, .null, .null, .null, .null, .null, .null, .null, .null, .null, .null, .null, vi 0, .null, vi 0, .null]))) rfl ?_
  refine c_aload_n dX10_init_15 rfl ?_
  refine c_new (ci := 4) (fs := fzX4) ingX4 cf_X4 rfl (tg 47 (by decide +kernel) rfl) (tg 48 (by decide +kernel) rfl) (tg 3 (by decide +kernel) rfl) dfX4 rfl rfl dX10_init_16 (fun q3 => ?_)
  refine c_dup dX10_init_19 rfl ?_
  refine c_callN ⟨List.mem_of_getElem? (i := 1) rfl, rfl, (tg 50 (by decide +kernel) rfl), (tg 3 (by decide +kernel) rfl), (tg 51 (by decide +kernel) rfl), by decide⟩ cn_X4 rfl dX10_init_20 rfl rfl rfl rfl rfl rfl rfl (fun _ w => ?_)
  obtain ⟨q4, q5, q6, rfl⟩ := w
  refine c_putF (q0 := 0) fl_X10_19 cf_X10 rfl rfl rfl rfl rfl rfl rfl dX10_init_23 ?_
  refine c_hd (c := (h0, .inr (10, [.ref q1, .ref q3, .null, .null, .null, .null, .null, .null, .null, .null, .null, .null, .null, .null, vi 0, .null, vi 0, .null]))) rfl ?_
  refine c_aload_n dX10_init_26 rfl ?_
  refine c_new (ci := 7) (fs := fzX7) ingX7 cf_X7 rfl (tg 96 (by decide +kernel) rfl) (tg 97 (by decide +kernel) rfl) (tg 4 (by decide +kernel) rfl) dfX7 rfl rfl dX10_init_27 (fun q7 => ?_)
  refine c_dup dX10_init_30 rfl ?_
  refine c_callN ⟨List.mem_of_getElem? (i := 2) rfl, rfl, (tg 99 (by decide +kernel) rfl), (tg 4 (by decide +kernel) rfl), (tg 100 (by decide +kernel) rfl), by decide⟩ cn_X7 rfl dX10_init_31 rfl rfl rfl rfl rfl rfl rfl (fun _ w => ?_)
  obtain ⟨q8, q9, q10, q11, q12, q13, q14, q15, q16, q17, q18, q19, q20, q21, rfl⟩ := w
  refine c_put (q0 := 0) fl_X10_26 cf_X10 rfl rfl rfl rfl rfl rfl dX10_init_34 ?_
  refine c_hd (c := (h0, .inr (10, [.ref q1, .ref q3, .ref q7, .null, .null, .null, .null, .null, .null, .null, .null, .null, .null, .null, vi 0, .null, vi 0, .null]))) rfl ?_
  refine c_aload_n dX10_init_37 rfl ?_
  refine c_new (ci := 7) (fs := fzX7) ingX7 cf_X7 rfl (tg 96 (by decide +kernel) rfl) (tg 97 (by decide +kernel) rfl) (tg 4 (by decide +kernel) rfl) dfX7 rfl rfl dX10_init_38 (fun q22 => ?_)
  refine c_dup dX10_init_41 rfl ?_
  refine c_callN ⟨List.mem_of_getElem? (i := 2) rfl, rfl, (tg 99 (by decide +kernel) rfl), (tg 4 (by decide +kernel) rfl), (tg 100 (by decide +kernel) rfl), by decide⟩ cn_X7 rfl dX10_init_42 rfl rfl rfl rfl rfl rfl rfl (fun _ w => ?_)
  obtain ⟨q23, q24, q25, q26, q27, q28, q29, q30, q31, q32, q33, q34, q35, q36, rfl⟩ := w
  refine c_put (q0 := 0) fl_X10_30 cf_X10 rfl rfl rfl rfl rfl rfl dX10_init_45 ?_
  refine c_hd (c := (h0, .inr (10, [.ref q1, .ref q3, .ref q7, .ref q22, .null, .null, .null, .null, .null, .null, .null, .null, .null, .null, vi 0, .null, vi 0, .null]))) rfl ?_
  refine c_aload_n dX10_init_48 rfl ?_
  refine c_iconst dX10_init_49 ?_
  refine c_newq (n := 2) (tg 96 (by decide +kernel) rfl) rfl rfl rfl dX10_init_50 (fun q37 => ?_)
  refine c_mv ?_
  refine c_putF (q0 := 0) fl_X10_33 cf_X10 rfl rfl rfl rfl rfl rfl rfl dX10_init_53 ?_
  refine c_hd (c := (h0, .inr (10, [.ref q1, .ref q3, .ref q7, .ref q22, .ref q37, .null, .null, .null, .null, .null, .null, .null, .null, .null, vi 0, .null, vi 0, .null]))) rfl ?_
  refine c_aload_n dX10_init_56 rfl ?_
  refine c_iconst dX10_init_57 ?_
  refine c_newa (t := 2) (n := 2) (a0 := (2, (.inl fun _ => 0))) (tg 267 (by decide +kernel) rfl) rfl (by decide) (fun _ => rfl) rfl (by decide) rfl rfl dX10_init_58 (fun q38 => ?_)
  refine c_putF (q0 := 0) fl_X10_37 cf_X10 rfl rfl rfl rfl rfl rfl rfl dX10_init_60 ?_
  refine c_hd (c := (h0, .inr (10, [.ref q1, .ref q3, .ref q7, .ref q22, .ref q37, .ref q38, .null, .null, .null, .null, .null, .null, .null, .null, vi 0, .null, vi 0, .null]))) rfl ?_
  refine c_aload_n dX10_init_63 rfl ?_
  refine c_new (ci := 5) (fs := fzX5) ingX5 cf_X5 rfl (tg 250 (by decide +kernel) rfl) (tg 251 (by decide +kernel) rfl) (tg 7 (by decide +kernel) rfl) dfX5 rfl rfl dX10_init_64 (fun q39 => ?_)
  refine c_dup dX10_init_67 rfl ?_
  refine c_callN ⟨List.mem_of_getElem? (i := 5) rfl, rfl, (tg 253 (by decide +kernel) rfl), (tg 7 (by decide +kernel) rfl), (tg 254 (by decide +kernel) rfl), by decide⟩ cn_X5 rfl dX10_init_68 rfl rfl rfl rfl rfl rfl rfl (fun _ w => ?_)
  obtain ⟨q40, q41, rfl⟩ := w
  refine c_putF (q0 := 0) fl_X10_44 cf_X10 rfl rfl rfl rfl rfl rfl rfl dX10_init_71 ?_
  refine c_hd (c := (h0, .inr (10, [.ref q1, .ref q3, .ref q7, .ref q22, .ref q37, .ref q38, .ref q39, .null, .null, .null, .null, .null, .null, .null, vi 0, .null, vi 0, .null]))) rfl ?_
  refine c_aload_n dX10_init_74 rfl ?_
  refine c_new (ci := 6) (fs := fzX6) ingX6 cf_X6 rfl (tg 268 (by decide +kernel) rfl) (tg 269 (by decide +kernel) rfl) (tg 8 (by decide +kernel) rfl) dfX6 rfl rfl dX10_init_75 (fun q42 => ?_)
  refine c_dup dX10_init_78 rfl ?_
  refine c_callN ⟨List.mem_of_getElem? (i := 6) rfl, rfl, (tg 271 (by decide +kernel) rfl), (tg 8 (by decide +kernel) rfl), (tg 272 (by decide +kernel) rfl), by decide⟩ cn_X6 rfl dX10_init_79 rfl rfl rfl rfl rfl rfl rfl (fun _ w => ?_)
  obtain ⟨q43, q44, q45, q46, q47, rfl⟩ := w
  refine c_putF (q0 := 0) fl_X10_51 cf_X10 rfl rfl rfl rfl rfl rfl rfl dX10_init_82 ?_
  refine c_hd (c := (h0, .inr (10, [.ref q1, .ref q3, .ref q7, .ref q22, .ref q37, .ref q38, .ref q39, .ref q42, .null, .null, .null, .null, .null, .null, vi 0, .null, vi 0, .null]))) rfl ?_
  refine c_aload_n dX10_init_85 rfl ?_
  refine c_new (ci := 3) (fs := fzX3) ingX3 cf_X3 rfl (tg 312 (by decide +kernel) rfl) (tg 313 (by decide +kernel) rfl) (tg 10 (by decide +kernel) rfl) dfX3 rfl rfl dX10_init_86 (fun q48 => ?_)
  refine c_dup dX10_init_89 rfl ?_
  refine c_callN ⟨List.mem_of_getElem? (i := 7) rfl, rfl, (tg 315 (by decide +kernel) rfl), (tg 10 (by decide +kernel) rfl), (tg 316 (by decide +kernel) rfl), by decide⟩ cn_X3 rfl dX10_init_90 rfl rfl rfl rfl rfl rfl rfl (fun _ w => ?_)
  obtain ⟨q49, q50, q51, q52, q53, q54, q55, rfl⟩ := w
  refine c_putF (q0 := 0) fl_X10_58 cf_X10 rfl rfl rfl rfl rfl rfl rfl dX10_init_93 ?_
  refine c_hd (c := (h0, .inr (10, [.ref q1, .ref q3, .ref q7, .ref q22, .ref q37, .ref q38, .ref q39, .ref q42, .ref q48, .null, .null, .null, .null, .null, vi 0, .null, vi 0, .null]))) rfl ?_
  refine c_aload_n dX10_init_96 rfl ?_
  refine c_new (ci := 1) (fs := fzX1) ingX1 cf_X1 rfl (tg 361 (by decide +kernel) rfl) (tg 362 (by decide +kernel) rfl) (tg 11 (by decide +kernel) rfl) dfX1 rfl rfl dX10_init_97 (fun q56 => ?_)
  refine c_dup dX10_init_100 rfl ?_
  refine c_callN ⟨List.mem_of_getElem? (i := 8) rfl, rfl, (tg 364 (by decide +kernel) rfl), (tg 11 (by decide +kernel) rfl), (tg 365 (by decide +kernel) rfl), by decide⟩ cn_X1 rfl dX10_init_101 rfl rfl rfl rfl rfl rfl rfl (fun _ w => ?_)
  obtain ⟨q57, q58, q59, q60, q61, rfl⟩ := w
  refine c_putF (q0 := 0) fl_X10_65 cf_X10 rfl rfl rfl rfl rfl rfl rfl dX10_init_104 ?_
  refine c_hd (c := (h0, .inr (10, [.ref q1, .ref q3, .ref q7, .ref q22, .ref q37, .ref q38, .ref q39, .ref q42, .ref q48, .ref q56, .null, .null, .null, .null, vi 0, .null, vi 0, .null]))) rfl ?_
  refine c_aload_n dX10_init_107 rfl ?_
  refine c_bipush (n := 10) dX10_init_108 (by decide) ?_
  refine c_newa (t := 0) (n := 10) (a0 := (10, (.inl fun _ => 0))) (tg 46 (by decide +kernel) rfl) rfl (by decide) (fun _ => rfl) rfl (by decide) rfl rfl dX10_init_110 (fun q62 => ?_)
  refine c_putF (q0 := 0) fl_X10_69 cf_X10 rfl rfl rfl rfl rfl rfl rfl dX10_init_112 ?_
  refine c_hd (c := (h0, .inr (10, [.ref q1, .ref q3, .ref q7, .ref q22, .ref q37, .ref q38, .ref q39, .ref q42, .ref q48, .ref q56, .ref q62, .null, .null, .null, vi 0, .null, vi 0, .null]))) rfl ?_
  refine c_aload_n dX10_init_115 rfl ?_
  refine c_new (ci := 9) (fs := fzX9) ingX9 cf_X9 rfl (tg 389 (by decide +kernel) rfl) (tg 275 (by decide +kernel) rfl) (tg 9 (by decide +kernel) rfl) dfX9 rfl rfl dX10_init_116 (fun q63 => ?_)
  refine c_dup dX10_init_119 rfl ?_
  refine c_iconst dX10_init_120 ?_
  refine c_callS ⟨(tg 390 (by decide +kernel) rfl), rfl, (tg 277 (by decide +kernel) rfl), (tg 9 (by decide +kernel) rfl), (tg 278 (by decide +kernel) rfl), by decide⟩ cn_X9_3 rfl dX10_init_121 rfl rfl rfl rfl rfl rfl rfl (fun _ w => ?_)
  obtain ⟨q64, rfl⟩ := w
  refine c_putF (q0 := 0) fl_X10_78 cf_X10 rfl rfl rfl rfl rfl rfl rfl dX10_init_124 ?_
  refine c_hd (c := (h0, .inr (10, [.ref q1, .ref q3, .ref q7, .ref q22, .ref q37, .ref q38, .ref q39, .ref q42, .ref q48, .ref q56, .ref q62, .ref q63, .null, .null, vi 0, .null, vi 0, .null]))) rfl ?_
  refine c_aload_n dX10_init_127 rfl ?_
  refine c_new (ci := 9) (fs := fzX9) ingX9 cf_X9 rfl (tg 389 (by decide +kernel) rfl) (tg 275 (by decide +kernel) rfl) (tg 9 (by decide +kernel) rfl) dfX9 rfl rfl dX10_init_128 (fun q65 => ?_)
  refine c_dup dX10_init_131 rfl ?_
  refine c_iconst dX10_init_132 ?_
  refine c_callS ⟨(tg 390 (by decide +kernel) rfl), rfl, (tg 277 (by decide +kernel) rfl), (tg 9 (by decide +kernel) rfl), (tg 278 (by decide +kernel) rfl), by decide⟩ cn_X9_3 rfl dX10_init_133 rfl rfl rfl rfl rfl rfl rfl (fun _ w => ?_)
  obtain ⟨q66, rfl⟩ := w
  refine c_putF (q0 := 0) fl_X10_82 cf_X10 rfl rfl rfl rfl rfl rfl rfl dX10_init_136 ?_
  refine c_hd (c := (h0, .inr (10, [.ref q1, .ref q3, .ref q7, .ref q22, .ref q37, .ref q38, .ref q39, .ref q42, .ref q48, .ref q56, .ref q62, .ref q63, .ref q65, .null, vi 0, .null, vi 0, .null]))) rfl ?_
  refine c_aload_n dX10_init_139 rfl ?_
  refine c_new (ci := 9) (fs := fzX9) ingX9 cf_X9 rfl (tg 389 (by decide +kernel) rfl) (tg 275 (by decide +kernel) rfl) (tg 9 (by decide +kernel) rfl) dfX9 rfl rfl dX10_init_140 (fun q67 => ?_)
  refine c_dup dX10_init_143 rfl ?_
  refine c_iconst dX10_init_144 ?_
  refine c_callS ⟨(tg 390 (by decide +kernel) rfl), rfl, (tg 277 (by decide +kernel) rfl), (tg 9 (by decide +kernel) rfl), (tg 278 (by decide +kernel) rfl), by decide⟩ cn_X9_3 rfl dX10_init_145 rfl rfl rfl rfl rfl rfl rfl (fun _ w => ?_)
  obtain ⟨q68, rfl⟩ := w
  refine c_putF (q0 := 0) fl_X10_85 cf_X10 rfl rfl rfl rfl rfl rfl rfl dX10_init_148 ?_
  refine c_hd (c := (h0, .inr (10, [.ref q1, .ref q3, .ref q7, .ref q22, .ref q37, .ref q38, .ref q39, .ref q42, .ref q48, .ref q56, .ref q62, .ref q63, .ref q65, .ref q67, vi 0, .null, vi 0, .null]))) rfl ?_
  refine c_aload_n dX10_init_151 rfl ?_
  refine c_iconst dX10_init_152 ?_
  refine c_put (q0 := 0) fl_X10_88 cf_X10 rfl rfl rfl rfl rfl rfl dX10_init_153 ?_
  refine c_hd (c := (h0, .inr (10, [.ref q1, .ref q3, .ref q7, .ref q22, .ref q37, .ref q38, .ref q39, .ref q42, .ref q48, .ref q56, .ref q62, .ref q63, .ref q65, .ref q67, vi (-1), .null, vi 0, .null]))) rfl ?_
  refine c_aload_n dX10_init_156 rfl ?_
  refine c_new (ci := 9) (fs := fzX9) ingX9 cf_X9 rfl (tg 389 (by decide +kernel) rfl) (tg 275 (by decide +kernel) rfl) (tg 9 (by decide +kernel) rfl) dfX9 rfl rfl dX10_init_157 (fun q69 => ?_)
  refine c_dup dX10_init_160 rfl ?_
  refine c_iconst dX10_init_161 ?_
  refine c_callS ⟨(tg 390 (by decide +kernel) rfl), rfl, (tg 277 (by decide +kernel) rfl), (tg 9 (by decide +kernel) rfl), (tg 278 (by decide +kernel) rfl), by decide⟩ cn_X9_2 rfl dX10_init_162 rfl rfl rfl rfl rfl rfl rfl (fun _ w => ?_)
  obtain ⟨q70, rfl⟩ := w
  refine c_putF (q0 := 0) fl_X10_92 cf_X10 rfl rfl rfl rfl rfl rfl rfl dX10_init_165 ?_
  refine c_hd (c := (h0, .inr (10, [.ref q1, .ref q3, .ref q7, .ref q22, .ref q37, .ref q38, .ref q39, .ref q42, .ref q48, .ref q56, .ref q62, .ref q63, .ref q65, .ref q67, vi (-1), .ref q69, vi 0, .null]))) rfl ?_
  refine c_aload_n dX10_init_168 rfl ?_
  refine c_iconst dX10_init_169 ?_
  refine c_put (q0 := 0) fl_X10_95 cf_X10 rfl rfl rfl rfl rfl rfl dX10_init_170 ?_
  refine c_hd (c := (h0, .inr (10, [.ref q1, .ref q3, .ref q7, .ref q22, .ref q37, .ref q38, .ref q39, .ref q42, .ref q48, .ref q56, .ref q62, .ref q63, .ref q65, .ref q67, vi (-1), .ref q69, vi (-1), .null]))) rfl ?_
  refine c_aload_n dX10_init_173 rfl ?_
  refine c_new (ci := 9) (fs := fzX9) ingX9 cf_X9 rfl (tg 389 (by decide +kernel) rfl) (tg 275 (by decide +kernel) rfl) (tg 9 (by decide +kernel) rfl) dfX9 rfl rfl dX10_init_174 (fun q71 => ?_)
  refine c_dup dX10_init_177 rfl ?_
  refine c_bipush (n := 10) dX10_init_178 (by decide) ?_
  refine c_callS ⟨(tg 390 (by decide +kernel) rfl), rfl, (tg 277 (by decide +kernel) rfl), (tg 9 (by decide +kernel) rfl), (tg 278 (by decide +kernel) rfl), by decide⟩ cn_X9_10 rfl dX10_init_180 rfl rfl rfl rfl rfl rfl rfl (fun _ w => ?_)
  obtain ⟨q72, rfl⟩ := w
  refine c_putF (q0 := 0) fl_X10_98 cf_X10 rfl rfl rfl rfl rfl rfl rfl dX10_init_183 ?_
  refine c_hd (c := (h0, .inr (10, [.ref q1, .ref q3, .ref q7, .ref q22, .ref q37, .ref q38, .ref q39, .ref q42, .ref q48, .ref q56, .ref q62, .ref q63, .ref q65, .ref q67, vi (-1), .ref q69, vi (-1), .ref q71]))) rfl ?_
  refine c_iconst dX10_init_186 ?_
  refine c_istore_n dX10_init_187 rfl rfl rfl ?_
  refine c_iload_n (v := 0) dX10_init_188 rfl ?_
  refine c_iconst dX10_init_189 ?_
  refine c_ge (x := 0) (y := 2) (tgt := 212) (nxt := 193) dX10_init_190 (by decide) rfl rfl rfl ?_
  refine c_aload_n dX10_init_193 rfl ?_
  refine c_get (q0 := 0) (v := .ref q37) fl_X10_33 rfl rfl dX10_init_194 ?_
  refine c_iload_n (v := 0) dX10_init_197 rfl ?_
  refine c_new (ci := 7) (fs := fzX7) ingX7 cf_X7 rfl (tg 96 (by decide +kernel) rfl) (tg 97 (by decide +kernel) rfl) (tg 4 (by decide +kernel) rfl) dfX7 rfl rfl dX10_init_198 (fun q73 => ?_)
  refine c_dup dX10_init_201 rfl ?_
  refine c_callN ⟨List.mem_of_getElem? (i := 2) rfl, rfl, (tg 99 (by decide +kernel) rfl), (tg 4 (by decide +kernel) rfl), (tg 100 (by decide +kernel) rfl), by decide⟩ cn_X7 rfl dX10_init_202 rfl rfl rfl rfl rfl rfl rfl (fun _ w => ?_)
  obtain ⟨q74, q75, q76, q77, q78, q79, q80, q81, q82, q83, q84, q85, q86, q87, rfl⟩ := w
  refine c_astm (q0 := 1) (n := 2) (i := 0) rfl (List.mem_append_right _ (List.mem_append_left _ List.mem_cons_self)) rfl rfl dX10_init_205 ?_
  refine c_hd2 (c := (h0, .inr (10, [.ref q1, .ref q3, .ref q7, .ref q22, .ref q37, .ref q38, .ref q39, .ref q42, .ref q48, .ref q56, .ref q62, .ref q63, .ref q65, .ref q67, vi (-1), .ref q69, vi (-1), .ref q71]))) (x := (q37, .inl (tc5 K, (2, .inr (.inr (.inr (.inr (va_up (fun _ => none) 0 (some q73))))))))) rfl ?_
  refine c_iinc (i := 1) (n := 1) (x := 0) (y := 1) dX10_init_206 rfl (by decide) rfl rfl rfl ?_
  refine c_goto (tgt := 188) dX10_init_209 (by decide) ?_
  refine c_iload_n (v := 1) dX10_init_188 rfl ?_
  refine c_iconst dX10_init_189 ?_
  refine c_ge (x := 1) (y := 2) (tgt := 212) (nxt := 193) dX10_init_190 (by decide) rfl rfl rfl ?_
  refine c_aload_n dX10_init_193 rfl ?_
  refine c_get (q0 := 0) (v := .ref q37) fl_X10_33 rfl rfl dX10_init_194 ?_
  refine c_iload_n (v := 1) dX10_init_197 rfl ?_
  refine c_new (ci := 7) (fs := fzX7) ingX7 cf_X7 rfl (tg 96 (by decide +kernel) rfl) (tg 97 (by decide +kernel) rfl) (tg 4 (by decide +kernel) rfl) dfX7 rfl rfl dX10_init_198 (fun q88 => ?_)
  refine c_dup dX10_init_201 rfl ?_
  refine c_callN ⟨List.mem_of_getElem? (i := 2) rfl, rfl, (tg 99 (by decide +kernel) rfl), (tg 4 (by decide +kernel) rfl), (tg 100 (by decide +kernel) rfl), by decide⟩ cn_X7 rfl dX10_init_202 rfl rfl rfl rfl rfl rfl rfl (fun _ w => ?_)
  obtain ⟨q89, q90, q91, q92, q93, q94, q95, q96, q97, q98, q99, q100, q101, q102, rfl⟩ := w
  refine c_astm (q0 := 1) (n := 2) (i := 1) rfl (List.mem_append_right _ (List.mem_append_left _ List.mem_cons_self)) rfl rfl dX10_init_205 ?_
  refine c_hd2 (c := (h0, .inr (10, [.ref q1, .ref q3, .ref q7, .ref q22, .ref q37, .ref q38, .ref q39, .ref q42, .ref q48, .ref q56, .ref q62, .ref q63, .ref q65, .ref q67, vi (-1), .ref q69, vi (-1), .ref q71]))) (x := (q37, .inl (tc5 K, (2, .inr (.inr (.inr (.inr (va_up (va_up (fun _ => none) 0 (some q73)) 1 (some q88))))))))) rfl ?_
  refine c_iinc (i := 1) (n := 1) (x := 1) (y := 2) dX10_init_206 rfl (by decide) rfl rfl rfl ?_
  refine c_goto (tgt := 188) dX10_init_209 (by decide) ?_
  refine c_iload_n (v := 2) dX10_init_188 rfl ?_
  refine c_iconst dX10_init_189 ?_
  refine c_ge (x := 2) (y := 2) (tgt := 212) (nxt := 212) dX10_init_190 (by decide) rfl rfl rfl ?_
  exact c_vret (fun _ h => by subst h; exact ⟨q1, q2, q3, q4, q5, q6, q7, q8, q9, q10, q11, q12, q13, q14, q15, q16, q17, q18, q19, q20, q21, q22, q23, q24, q25, q26, q27, q28, q29, q30, q31, q32, q33, q34, q35, q36, q37, q38, q39, q40, q41, q42, q43, q44, q45, q46, q47, q48, q49, q50, q51, q52, q53, q54, q55, q56, q57, q58, q59, q60, q61, q62, q63, q64, q65, q66, q67, q68, q69, q70, q71, q72, q73, q74, q75, q76, q77, q78, q79, q80, q81, q82, q83, q84, q85, q86, q87, q88, q89, q90, q91, q92, q93, q94, q95, q96, q97, q98, q99, q100, q101, q102, rfl⟩) rfl rfl dX10_init_212
