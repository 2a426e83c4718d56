/-! THE MODEL'S CONSTRUCTOR -/
section WCm2
variable {d mc ms : Nat} {cc : ByteArray} {own : String} {nL h0 : Nat} {K : KX} {B : (Nat → ClassId) → va_W → Prop} {pc : Nat} {L : List (Option Value)} {st : List Value} {ws : va_W} {cu su : Nat}
theorem c_eq {ws' : va_W} (h : ws = ws') (kk : WC d mc ms cc own nL h0 K B pc L st ws' cu su) : WC d mc ms cc own nL h0 K B pc L st ws cu su := h ▸ kk
theorem c_lastW {LY : List Sh} {ad : Nat → Nat} {σ : St} {q n b : Nat} {i x : Int} (hq : LY[q]? = some (Sum.inr (n, 3, b))) (hg : inb i n) (hn : Nat.blt n 2147483648 = true) (hd : decode cc pc = .ok (.lastore, 1)) (kk : WC d mc ms cc own nL h0 K B (pc + 1) L st (wl ad K.2.2.2.1 (sA σ q i.toNat x) 0 LY) cu su) : WC d mc ms cc own nL h0 K B pc L (vl x :: vi i :: .ref (ad q) :: st) (wl ad K.2.2.2.1 σ 0 LY) cu su := by
  intro hK
  obtain ⟨⟨p, l, e, s, m, args⟩, ⟨below, meth, c⟩, ⟨ad0, tc, D⟩⟩ := K
  obtain ⟨hx, hb, hml, hown, hts, hlk, hret, hinit, hKC⟩ := id hK
  intro H locs ls hP hD hS hl
  have he := wl_get (ad := ad) (tc := tc) (σ := σ) (k := 0) hq
  rw [Nat.zero_add] at he
  have hn2 := Nat.le_of_ble_eq_true hn
  refine va_last hx hb (⟨hKC.1, fun k q h => by cases k with | zero => (cases h; exact KC.arr hts hKC 3 (by decide)) | succ k => simp at h⟩ : va_K D vwCl [(tc 3, aty 3)] s) hP hD hS q 0 he rfl (v_in hg hn2) hd fun H1 locs1 p1 d1 s1 => ?_
  rw [v_ix hg hn2] at p1 d1
  have e1 : Sum.inr (Sum.inl (vp_updL (fun i => Int64.ofInt (gA σ q i)) i.toNat (Int64.ofInt x))) = conts ad (sA σ q i.toNat x) q 3 b := by
    unfold conts
    congr 1
    congr 1
    funext i'
    unfold vp_updL
    by_cases h : i' = i.toNat <;> simp [h, gA, sA]
  rw [wl_setA hq e1] at p1 d1
  exact kk hK H1 locs1 ls p1 d1 s1 hl
theorem c_iastW {LY : List Sh} {ad : Nat → Nat} {σ : St} {q n b : Nat} {i x : Int} (hq : LY[q]? = some (Sum.inr (n, 0, b))) (hg : inb i n) (hn : Nat.blt n 2147483648 = true) (hd : decode cc pc = .ok (.iastore, 1)) (kk : WC d mc ms cc own nL h0 K B (pc + 1) L st (wl ad K.2.2.2.1 (sA σ q i.toNat x) 0 LY) cu su) : WC d mc ms cc own nL h0 K B pc L (vi x :: vi i :: .ref (ad q) :: st) (wl ad K.2.2.2.1 σ 0 LY) cu su := by
  intro hK
  obtain ⟨⟨p, l, e, s, m, args⟩, ⟨below, meth, c⟩, ⟨ad0, tc, D⟩⟩ := K
  obtain ⟨hx, hb, hml, hown, hts, hlk, hret, hinit, hKC⟩ := id hK
  intro H locs ls hP hD hS hl
  have he := wl_get (ad := ad) (tc := tc) (σ := σ) (k := 0) hq
  rw [Nat.zero_add] at he
  have hn2 := Nat.le_of_ble_eq_true hn
  refine va_iast hx hb (⟨hKC.1, fun k q h => by cases k with | zero => (cases h; exact KC.arr hts hKC 0 (by decide)) | succ k => simp at h⟩ : va_K D vwCl [(tc 0, aty 0)] s) hP hD hS q 0 he rfl (v_in hg hn2) hd fun H1 locs1 p1 d1 s1 => ?_
  rw [v_ix hg hn2] at p1 d1
  have e1 : Sum.inl (upd (fun i => Int32.ofInt (gA σ q i)) i.toNat (Int32.ofInt x)) = conts ad (sA σ q i.toNat x) q 0 b := by
    unfold conts
    congr 1
    funext i'
    unfold upd
    by_cases h : i' = i.toNat <;> simp [h, gA, sA]
  rw [wl_setA hq e1] at p1 d1
  exact kk hK H1 locs1 ls p1 d1 s1 hl
theorem c_getW {LY : List Sh} {ad : Nat → Nat} {σ : St} {idx ci j q z : Nat} {ks : List Nat} {C : String} {T : u_T} {N : Nat} (hf : FLk own idx ci j C T N) (hq : LY[q]? = some (Sum.inl (ci, ks))) (hj : ks[j]? = some (z + 2)) (hd : decode cc pc = .ok (.getfield idx, 3)) (kk : WC d mc ms cc own nL h0 K B (pc + 3) L (.ref (ad z) :: st) (wl ad K.2.2.2.1 σ 0 LY) cu su) : WC d mc ms cc own nL h0 K B pc L (.ref (ad q) :: st) (wl ad K.2.2.2.1 σ 0 LY) cu su := by
  have he := wl_get (ad := ad) (tc := K.2.2.2.1) (σ := σ) (k := 0) hq
  rw [Nat.zero_add] at he
  exact c_get (q0 := q) (v := .ref (ad z)) hf he (fvs_get hj) hd kk
end WCm2
abbrev fzX11 : List Value := [vi 0, .null, vi 0, vi 0, vi 0, vi 0, .null, .null, .null, .null, vi 0, vi 0, vi 0, vi 0, vi 0, vi 0, vl 0, vi 0, vi 0, vi 0, vi 0, vi 0, .null, .null, .null, vi 0, vi 0, vi 0, .null, .null, .null, vi 0, vi 0, vl 0, vi 0, .null, .null, vi 0, .null, .null, .null, vi 0, vi 0, vi 0, vi 0, vi 0, .null, vi 0, vl 0, vl 0, vl 0, .null, .null, .null, .null, vi 0, vi 0, .null, .null]
theorem dfX11 : ∀ j, j < 59 → defaultValue (tyX11 j) = vp_V fzX11 j
  | 0, _ => rfl
  | 1, _ => rfl
  | 2, _ => rfl
  | 3, _ => rfl
  | 4, _ => rfl
  | 5, _ => rfl
  | 6, _ => rfl
  | 7, _ => rfl
  | 8, _ => rfl
  | 9, _ => rfl
  | 10, _ => rfl
  | 11, _ => rfl
  | 12, _ => rfl
  | 13, _ => rfl
  | 14, _ => rfl
  | 15, _ => rfl
  | 16, _ => rfl
  | 17, _ => rfl
  | 18, _ => rfl
  | 19, _ => rfl
  | 20, _ => rfl
  | 21, _ => rfl
  | 22, _ => rfl
  | 23, _ => rfl
  | 24, _ => rfl
  | 25, _ => rfl
  | 26, _ => rfl
  | 27, _ => rfl
  | 28, _ => rfl
  | 29, _ => rfl
  | 30, _ => rfl
  | 31, _ => rfl
  | 32, _ => rfl
  | 33, _ => rfl
  | 34, _ => rfl
  | 35, _ => rfl
  | 36, _ => rfl
  | 37, _ => rfl
  | 38, _ => rfl
  | 39, _ => rfl
  | 40, _ => rfl
  | 41, _ => rfl
  | 42, _ => rfl
  | 43, _ => rfl
  | 44, _ => rfl
  | 45, _ => rfl
  | 46, _ => rfl
  | 47, _ => rfl
  | 48, _ => rfl
  | 49, _ => rfl
  | 50, _ => rfl
  | 51, _ => rfl
  | 52, _ => rfl
  | 53, _ => rfl
  | 54, _ => rfl
  | 55, _ => rfl
  | 56, _ => rfl
  | 57, _ => rfl
  | 58, _ => rfl
  | _ + 59, h => absurd h (by omega)
def adM (h0 q1 q2 q3 q4 q5 q6 q7 q8 q9 q10 q11 q12 q13 q14 q15 q16 q17 q18 q19 q20 q21 q22 q23 : Nat) : Nat → Nat
  | 0 => h0
  | 1 => q1
  | 2 => q2
  | 3 => q3
  | 4 => q4
  | 5 => q5
  | 6 => q6
  | 7 => q7
  | 8 => q8
  | 9 => q9
  | 10 => q10
  | 11 => q11
  | 12 => q12
  | 13 => q13
  | 14 => q14
  | 15 => q15
  | 16 => q16
  | 17 => q17
  | 18 => q18
  | 19 => q19
  | 20 => q20
  | 21 => q21
  | 22 => q22
  | _ => q23
def σM0 : St := (fun k => match k with | 41 => -1 | 43 => -1 | 47 => -1 | 56 => -1 | _ => 0, fun _ _ => 0)
def σM1 : St := sA (sA (sA (sA (sA (sA (sA (sA (sA (σM0) 5 0 30506450281915237) 5 1 114784635872626) 5 2 1734437230) 5 3 126879480964466) 5 4 110442557371507) 5 5 1818848101) 5 6 32497584235442030) 5 7 27696016923389543) 2 0 12
theorem σM1_run : ∃ σ', f_M_settle 2000 σM1 = some (0, σ') ∧ gF σ' 20 = PR 12 ∧ gF σ' 21 = RT 12 ∧ (∀ i, i < 12 → gA σ' 6 i = PW 12 i) ∧ (∀ k, k ≠ 20 → k ≠ 21 → gF σ' k = gF σM1 k) ∧ ∀ a, a ≠ 6 → ∀ i, gA σ' a i = gA σM1 a i := M_settle (n := 12) (by decide) ⟨by decide, by decide⟩ rfl
set_option maxRecDepth 100000 in
theorem wsM0 (h0 q1 q2 q3 q4 q5 q6 q7 q8 q9 q10 q11 q12 q13 q14 q15 q16 q17 q18 q19 q20 q21 q22 q23 : Nat) (tc : Nat → ClassId) : ([(h0, .inr (11, [vi 0, .ref q1, vi 0, vi 0, vi 0, vi 0, .ref q2, .ref q3, .ref q4, .ref q5, vi 0, vi 0, vi 0, vi 0, vi 0, vi 0, vl 0, vi 0, vi 0, vi 0, vi 0, vi 0, .ref q6, .ref q7, .ref q8, vi 0, vi 0, vi 0, .ref q9, .ref q10, .ref q11, vi 0, vi 0, vl 0, vi 0, .ref q12, .ref q13, vi 0, .ref q14, .ref q15, .ref q16, vi (-1), vi 0, vi (-1), vi 0, vi 0, .ref q17, vi (-1), vl 0, vl 0, vl 0, .ref q18, .ref q19, .ref q20, .ref q21, vi 0, vi (-1), .ref q22, .ref q23])), (q1, .inl (tc 1, (940, (.inl fun _ => 0)))), (q2, .inl (tc 0, (82, (.inl fun _ => 0)))), (q3, .inl (tc 0, (82, (.inl fun _ => 0)))), (q4, .inl (tc 3, (20, (.inr (.inl fun _ => 0))))), (q5, .inl (tc 3, (8, (.inr (.inl fun _ => 0))))), (q6, .inl (tc 0, (60, (.inl fun _ => 0)))), (q7, .inl (tc 0, (2800, (.inl fun _ => 0)))), (q8, .inl (tc 0, (110, (.inl fun _ => 0)))), (q9, .inl (tc 0, (100, (.inl fun _ => 0)))), (q10, .inl (tc 0, (101, (.inl fun _ => 0)))), (q11, .inl (tc 0, (60, (.inl fun _ => 0)))), (q12, .inl (tc 0, (470, (.inl fun _ => 0)))), (q13, .inl (tc 0, (3, (.inl fun _ => 0)))), (q14, .inl (tc 0, (3, (.inl fun _ => 0)))), (q15, .inl (tc 0, (3, (.inl fun _ => 0)))), (q16, .inl (tc 0, (3, (.inl fun _ => 0)))), (q17, .inl (tc 0, (10, (.inl fun _ => 0)))), (q18, .inl (tc 0, (28, (.inl fun _ => 0)))), (q19, .inl (tc 0, (28, (.inl fun _ => 0)))), (q20, .inl (tc 0, (7424, (.inl fun _ => 0)))), (q21, .inl (tc 0, (8, (.inl fun _ => 0)))), (q22, .inl (tc 0, (164, (.inl fun _ => 0)))), (q23, .inl (tc 2, (2, (.inl fun _ => 0))))] : va_W) = wl (adM h0 q1 q2 q3 q4 q5 q6 q7 q8 q9 q10 q11 q12 q13 q14 q15 q16 q17 q18 q19 q20 q21 q22 q23) tc σM0 0 LYM := rfl
theorem lyM6 : ∀ (j n t b : Nat), LYM[j]? = some (Sum.inr (n, t, b)) → t < 6 := fun j n t b h => by
  have : LYM.all (fun e => match e with | .inr (_, t, _) => Nat.blt t 6 | .inl _ => true) = true := by decide +kernel
  exact Nat.le_of_ble_eq_true (List.all_eq_true.mp this _ (List.mem_of_getElem? h))
def BX11 (h0 : Nat) (tc : Nat → ClassId) (ws : va_W) : Prop := ∃ (ad : Nat → Nat) (σ : St), ad 0 = h0 ∧ f_M_settle 2000 σM1 = some (0, σ) ∧ ws = wl ad tc σ 0 LYM
set_option maxRecDepth 100000 in
set_option maxHeartbeats 16000000 in
theorem cn_X11 : CN 5 23 12509 yX11_init cX11_init 1 11 fzX11 [] BX11 := by
  obtain ⟨σ, hr, -⟩ := σM1_run
  refine CN_of (own := RX11) (L := fun h0 => [some (.ref h0)]) rfl rfl rfl rfl (fun _ => rfl) rfl (fun h0 K => ?_)
  refine c_aload_n dX11_init_0 rfl ?_
  refine c_obj (tg 1145 (by decide +kernel) rfl) rfl rfl dX11_init_1 ?_
  refine c_aload_n dX11_init_4 rfl ?_
  refine c_sipush (n := 940) dX11_init_5 (by decide) ?_
  refine c_newa (t := 1) (n := 940) (a0 := (940, (.inl fun _ => 0))) (tg 1347 (by decide +kernel) rfl) rfl (by decide) (fun _ => rfl) rfl (by decide) rfl rfl dX11_init_8 (fun q1 => ?_)
  refine c_putF (q0 := 0) fl_X11_14 cf_X11 rfl rfl rfl rfl rfl rfl rfl dX11_init_10 ?_
  refine c_eq (ws' := [(h0, .inr (11, [vi 0, .ref q1, vi 0, vi 0, vi 0, vi 0, .null, .null, .null, .null, vi 0, vi 0, vi 0, vi 0, vi 0, vi 0, vl 0, vi 0, vi 0, vi 0, vi 0, vi 0, .null, .null, .null, vi 0, vi 0, vi 0, .null, .null, .null, vi 0, vi 0, vl 0, vi 0, .null, .null, vi 0, .null, .null, .null, vi 0, vi 0, vi 0, vi 0, vi 0, .null, vi 0, vl 0, vl 0, vl 0, .null, .null, .null, .null, vi 0, vi 0, .null, .null])), (q1, .inl (K.2.2.2.1 1, (940, (.inl fun _ => 0))))]) rfl ?_
  refine c_aload_n dX11_init_13 rfl ?_
  refine c_bipush (n := 82) dX11_init_14 (by decide) ?_
  refine c_newa (t := 0) (n := 82) (a0 := (82, (.inl fun _ => 0))) (tg 46 (by decide +kernel) rfl) rfl (by decide) (fun _ => rfl) rfl (by decide) rfl rfl dX11_init_16 (fun q2 => ?_)
  refine c_putF (q0 := 0) fl_X11_33 cf_X11 rfl rfl rfl rfl rfl rfl rfl dX11_init_18 ?_
  refine c_eq (ws' := [(h0, .inr (11, [vi 0, .ref q1, vi 0, vi 0, vi 0, vi 0, .ref q2, .null, .null, .null, vi 0, vi 0, vi 0, vi 0, vi 0, vi 0, vl 0, vi 0, vi 0, vi 0, vi 0, vi 0, .null, .null, .null, vi 0, vi 0, vi 0, .null, .null, .null, vi 0, vi 0, vl 0, vi 0, .null, .null, vi 0, .null, .null, .null, vi 0, vi 0, vi 0, vi 0, vi 0, .null, vi 0, vl 0, vl 0, vl 0, .null, .null, .null, .null, vi 0, vi 0, .null, .null])), (q1, .inl (K.2.2.2.1 1, (940, (.inl fun _ => 0)))), (q2, .inl (K.2.2.2.1 0, (82, (.inl fun _ => 0))))]) rfl ?_
  refine c_aload_n dX11_init_21 rfl ?_
  refine c_bipush (n := 82) dX11_init_22 (by decide) ?_
  refine c_newa (t := 0) (n := 82) (a0 := (82, (.inl fun _ => 0))) (tg 46 (by decide +kernel) rfl) rfl (by decide) (fun _ => rfl) rfl (by decide) rfl rfl dX11_init_24 (fun q3 => ?_)
  refine c_putF (q0 := 0) fl_X11_37 cf_X11 rfl rfl rfl rfl rfl rfl rfl dX11_init_26 ?_
  refine c_eq (ws' := [(h0, .inr (11, [vi 0, .ref q1, vi 0, vi 0, vi 0, vi 0, .ref q2, .ref q3, .null, .null, vi 0, vi 0, vi 0, vi 0, vi 0, vi 0, vl 0, vi 0, vi 0, vi 0, vi 0, vi 0, .null, .null, .null, vi 0, vi 0, vi 0, .null, .null, .null, vi 0, vi 0, vl 0, vi 0, .null, .null, vi 0, .null, .null, .null, vi 0, vi 0, vi 0, vi 0, vi 0, .null, vi 0, vl 0, vl 0, vl 0, .null, .null, .null, .null, vi 0, vi 0, .null, .null])), (q1, .inl (K.2.2.2.1 1, (940, (.inl fun _ => 0)))), (q2, .inl (K.2.2.2.1 0, (82, (.inl fun _ => 0)))), (q3, .inl (K.2.2.2.1 0, (82, (.inl fun _ => 0))))]) rfl ?_
  refine c_aload_n dX11_init_29 rfl ?_
  refine c_bipush (n := 20) dX11_init_30 (by decide) ?_
  refine c_newa (t := 3) (n := 20) (a0 := (20, (.inr (.inl fun _ => 0)))) (tg 95 (by decide +kernel) rfl) rfl (by decide) (fun _ => rfl) rfl (by decide) rfl rfl dX11_init_32 (fun q4 => ?_)
  refine c_putF (q0 := 0) fl_X11_40 cf_X11 rfl rfl rfl rfl rfl rfl rfl dX11_init_34 ?_
  refine c_eq (ws' := [(h0, .inr (11, [vi 0, .ref q1, vi 0, vi 0, vi 0, vi 0, .ref q2, .ref q3, .ref q4, .null, vi 0, vi 0, vi 0, vi 0, vi 0, vi 0, vl 0, vi 0, vi 0, vi 0, vi 0, vi 0, .null, .null, .null, vi 0, vi 0, vi 0, .null, .null, .null, vi 0, vi 0, vl 0, vi 0, .null, .null, vi 0, .null, .null, .null, vi 0, vi 0, vi 0, vi 0, vi 0, .null, vi 0, vl 0, vl 0, vl 0, .null, .null, .null, .null, vi 0, vi 0, .null, .null])), (q1, .inl (K.2.2.2.1 1, (940, (.inl fun _ => 0)))), (q2, .inl (K.2.2.2.1 0, (82, (.inl fun _ => 0)))), (q3, .inl (K.2.2.2.1 0, (82, (.inl fun _ => 0)))), (q4, .inl (K.2.2.2.1 3, (20, (.inr (.inl fun _ => 0)))))]) rfl ?_
  refine c_aload_n dX11_init_37 rfl ?_
  refine c_bipush (n := 8) dX11_init_38 (by decide) ?_
  refine c_newa (t := 3) (n := 8) (a0 := (8, (.inr (.inl fun _ => 0)))) (tg 95 (by decide +kernel) rfl) rfl (by decide) (fun _ => rfl) rfl (by decide) rfl rfl dX11_init_40 (fun q5 => ?_)
  refine c_putF (q0 := 0) fl_X11_44 cf_X11 rfl rfl rfl rfl rfl rfl rfl dX11_init_42 ?_
  refine c_eq (ws' := [(h0, .inr (11, [vi 0, .ref q1, vi 0, vi 0, vi 0, vi 0, .ref q2, .ref q3, .ref q4, .ref q5, vi 0, vi 0, vi 0, vi 0, vi 0, vi 0, vl 0, vi 0, vi 0, vi 0, vi 0, vi 0, .null, .null, .null, vi 0, vi 0, vi 0, .null, .null, .null, vi 0, vi 0, vl 0, vi 0, .null, .null, vi 0, .null, .null, .null, vi 0, vi 0, vi 0, vi 0, vi 0, .null, vi 0, vl 0, vl 0, vl 0, .null, .null, .null, .null, vi 0, vi 0, .null, .null])), (q1, .inl (K.2.2.2.1 1, (940, (.inl fun _ => 0)))), (q2, .inl (K.2.2.2.1 0, (82, (.inl fun _ => 0)))), (q3, .inl (K.2.2.2.1 0, (82, (.inl fun _ => 0)))), (q4, .inl (K.2.2.2.1 3, (20, (.inr (.inl fun _ => 0))))), (q5, .inl (K.2.2.2.1 3, (8, (.inr (.inl fun _ => 0)))))]) rfl ?_
  refine c_aload_n dX11_init_45 rfl ?_
  refine c_bipush (n := 60) dX11_init_46 (by decide) ?_
  refine c_newa (t := 0) (n := 60) (a0 := (60, (.inl fun _ => 0))) (tg 46 (by decide +kernel) rfl) rfl (by decide) (fun _ => rfl) rfl (by decide) rfl rfl dX11_init_48 (fun q6 => ?_)
  refine c_putF (q0 := 0) fl_X11_47 cf_X11 rfl rfl rfl rfl rfl rfl rfl dX11_init_50 ?_
  refine c_eq (ws' := [(h0, .inr (11, [vi 0, .ref q1, vi 0, vi 0, vi 0, vi 0, .ref q2, .ref q3, .ref q4, .ref q5, vi 0, vi 0, vi 0, vi 0, vi 0, vi 0, vl 0, vi 0, vi 0, vi 0, vi 0, vi 0, .ref q6, .null, .null, vi 0, vi 0, vi 0, .null, .null, .null, vi 0, vi 0, vl 0, vi 0, .null, .null, vi 0, .null, .null, .null, vi 0, vi 0, vi 0, vi 0, vi 0, .null, vi 0, vl 0, vl 0, vl 0, .null, .null, .null, .null, vi 0, vi 0, .null, .null])), (q1, .inl (K.2.2.2.1 1, (940, (.inl fun _ => 0)))), (q2, .inl (K.2.2.2.1 0, (82, (.inl fun _ => 0)))), (q3, .inl (K.2.2.2.1 0, (82, (.inl fun _ => 0)))), (q4, .inl (K.2.2.2.1 3, (20, (.inr (.inl fun _ => 0))))), (q5, .inl (K.2.2.2.1 3, (8, (.inr (.inl fun _ => 0))))), (q6, .inl (K.2.2.2.1 0, (60, (.inl fun _ => 0))))]) rfl ?_
  refine c_aload_n dX11_init_53 rfl ?_
  refine c_sipush (n := 2800) dX11_init_54 (by decide) ?_
  refine c_newa (t := 0) (n := 2800) (a0 := (2800, (.inl fun _ => 0))) (tg 46 (by decide +kernel) rfl) rfl (by decide) (fun _ => rfl) rfl (by decide) rfl rfl dX11_init_57 (fun q7 => ?_)
  refine c_putF (q0 := 0) fl_X11_50 cf_X11 rfl rfl rfl rfl rfl rfl rfl dX11_init_59 ?_
  refine c_eq (ws' := [(h0, .inr (11, [vi 0, .ref q1, vi 0, vi 0, vi 0, vi 0, .ref q2, .ref q3, .ref q4, .ref q5, vi 0, vi 0, vi 0, vi 0, vi 0, vi 0, vl 0, vi 0, vi 0, vi 0, vi 0, vi 0, .ref q6, .ref q7, .null, vi 0, vi 0, vi 0, .null, .null, .null, vi 0, vi 0, vl 0, vi 0, .null, .null, vi 0, .null, .null, .null, vi 0, vi 0, vi 0, vi 0, vi 0, .null, vi 0, vl 0, vl 0, vl 0, .null, .null, .null, .null, vi 0, vi 0, .null, .null])), (q1, .inl (K.2.2.2.1 1, (940, (.inl fun _ => 0)))), (q2, .inl (K.2.2.2.1 0, (82, (.inl fun _ => 0)))), (q3, .inl (K.2.2.2.1 0, (82, (.inl fun _ => 0)))), (q4, .inl (K.2.2.2.1 3, (20, (.inr (.inl fun _ => 0))))), (q5, .inl (K.2.2.2.1 3, (8, (.inr (.inl fun _ => 0))))), (q6, .inl (K.2.2.2.1 0, (60, (.inl fun _ => 0)))), (q7, .inl (K.2.2.2.1 0, (2800, (.inl fun _ => 0))))]) rfl ?_
  refine c_aload_n dX11_init_62 rfl ?_
  refine c_bipush (n := 110) dX11_init_63 (by decide) ?_
  refine c_newa (t := 0) (n := 110) (a0 := (110, (.inl fun _ => 0))) (tg 46 (by decide +kernel) rfl) rfl (by decide) (fun _ => rfl) rfl (by decide) rfl rfl dX11_init_65 (fun q8 => ?_)
  refine c_putF (q0 := 0) fl_X11_53 cf_X11 rfl rfl rfl rfl rfl rfl rfl dX11_init_67 ?_
  refine c_eq (ws' := [(h0, .inr (11, [vi 0, .ref q1, vi 0, vi 0, vi 0, vi 0, .ref q2, .ref q3, .ref q4, .ref q5, vi 0, vi 0, vi 0, vi 0, vi 0, vi 0, vl 0, vi 0, vi 0, vi 0, vi 0, vi 0, .ref q6, .ref q7, .ref q8, vi 0, vi 0, vi 0, .null, .null, .null, vi 0, vi 0, vl 0, vi 0, .null, .null, vi 0, .null, .null, .null, vi 0, vi 0, vi 0, vi 0, vi 0, .null, vi 0, vl 0, vl 0, vl 0, .null, .null, .null, .null, vi 0, vi 0, .null, .null])), (q1, .inl (K.2.2.2.1 1, (940, (.inl fun _ => 0)))), (q2, .inl (K.2.2.2.1 0, (82, (.inl fun _ => 0)))), (q3, .inl (K.2.2.2.1 0, (82, (.inl fun _ => 0)))), (q4, .inl (K.2.2.2.1 3, (20, (.inr (.inl fun _ => 0))))), (q5, .inl (K.2.2.2.1 3, (8, (.inr (.inl fun _ => 0))))), (q6, .inl (K.2.2.2.1 0, (60, (.inl fun _ => 0)))), (q7, .inl (K.2.2.2.1 0, (2800, (.inl fun _ => 0)))), (q8, .inl (K.2.2.2.1 0, (110, (.inl fun _ => 0))))]) rfl ?_
  refine c_aload_n dX11_init_70 rfl ?_
  refine c_bipush (n := 100) dX11_init_71 (by decide) ?_
  refine c_newa (t := 0) (n := 100) (a0 := (100, (.inl fun _ => 0))) (tg 46 (by decide +kernel) rfl) rfl (by decide) (fun _ => rfl) rfl (by decide) rfl rfl dX11_init_73 (fun q9 => ?_)
  refine c_putF (q0 := 0) fl_X11_56 cf_X11 rfl rfl rfl rfl rfl rfl rfl dX11_init_75 ?_
  refine c_eq (ws' := [(h0, .inr (11, [vi 0, .ref q1, vi 0, vi 0, vi 0, vi 0, .ref q2, .ref q3, .ref q4, .ref q5, vi 0, vi 0, vi 0, vi 0, vi 0, vi 0, vl 0, vi 0, vi 0, vi 0, vi 0, vi 0, .ref q6, .ref q7, .ref q8, vi 0, vi 0, vi 0, .ref q9, .null, .null, vi 0, vi 0, vl 0, vi 0, .null, .null, vi 0, .null, .null, .null, vi 0, vi 0, vi 0, vi 0, vi 0, .null, vi 0, vl 0, vl 0, vl 0, .null, .null, .null, .null, vi 0, vi 0, .null, .null])), (q1, .inl (K.2.2.2.1 1, (940, (.inl fun _ => 0)))), (q2, .inl (K.2.2.2.1 0, (82, (.inl fun _ => 0)))), (q3, .inl (K.2.2.2.1 0, (82, (.inl fun _ => 0)))), (q4, .inl (K.2.2.2.1 3, (20, (.inr (.inl fun _ => 0))))), (q5, .inl (K.2.2.2.1 3, (8, (.inr (.inl fun _ => 0))))), (q6, .inl (K.2.2.2.1 0, (60, (.inl fun _ => 0)))), (q7, .inl (K.2.2.2.1 0, (2800, (.inl fun _ => 0)))), (q8, .inl (K.2.2.2.1 0, (110, (.inl fun _ => 0)))), (q9, .inl (K.2.2.2.1 0, (100, (.inl fun _ => 0))))]) rfl ?_
  refine c_aload_n dX11_init_78 rfl ?_
  refine c_bipush (n := 101) dX11_init_79 (by decide) ?_
  refine c_newa (t := 0) (n := 101) (a0 := (101, (.inl fun _ => 0))) (tg 46 (by decide +kernel) rfl) rfl (by decide) (fun _ => rfl) rfl (by decide) rfl rfl dX11_init_81 (fun q10 => ?_)
  refine c_putF (q0 := 0) fl_X11_59 cf_X11 rfl rfl rfl rfl rfl rfl rfl dX11_init_83 ?_
  refine c_eq (ws' := [(h0, .inr (11, [vi 0, .ref q1, vi 0, vi 0, vi 0, vi 0, .ref q2, .ref q3, .ref q4, .ref q5, vi 0, vi 0, vi 0, vi 0, vi 0, vi 0, vl 0, vi 0, vi 0, vi 0, vi 0, vi 0, .ref q6, .ref q7, .ref q8, vi 0, vi 0, vi 0, .ref q9, .ref q10, .null, vi 0, vi 0, vl 0, vi 0, .null, .null, vi 0, .null, .null, .null, vi 0, vi 0, vi 0, vi 0, vi 0, .null, vi 0, vl 0, vl 0, vl 0, .null, .null, .null, .null, vi 0, vi 0, .null, .null])), (q1, .inl (K.2.2.2.1 1, (940, (.inl fun _ => 0)))), (q2, .inl (K.2.2.2.1 0, (82, (.inl fun _ => 0)))), (q3, .inl (K.2.2.2.1 0, (82, (.inl fun _ => 0)))), (q4, .inl (K.2.2.2.1 3, (20, (.inr (.inl fun _ => 0))))), (q5, .inl (K.2.2.2.1 3, (8, (.inr (.inl fun _ => 0))))), (q6, .inl (K.2.2.2.1 0, (60, (.inl fun _ => 0)))), (q7, .inl (K.2.2.2.1 0, (2800, (.inl fun _ => 0)))), (q8, .inl (K.2.2.2.1 0, (110, (.inl fun _ => 0)))), (q9, .inl (K.2.2.2.1 0, (100, (.inl fun _ => 0)))), (q10, .inl (K.2.2.2.1 0, (101, (.inl fun _ => 0))))]) rfl ?_
  refine c_aload_n dX11_init_86 rfl ?_
  refine c_bipush (n := 60) dX11_init_87 (by decide) ?_
  refine c_newa (t := 0) (n := 60) (a0 := (60, (.inl fun _ => 0))) (tg 46 (by decide +kernel) rfl) rfl (by decide) (fun _ => rfl) rfl (by decide) rfl rfl dX11_init_89 (fun q11 => ?_)
  refine c_putF (q0 := 0) fl_X11_62 cf_X11 rfl rfl rfl rfl rfl rfl rfl dX11_init_91 ?_
  refine c_eq (ws' := [(h0, .inr (11, [vi 0, .ref q1, vi 0, vi 0, vi 0, vi 0, .ref q2, .ref q3, .ref q4, .ref q5, vi 0, vi 0, vi 0, vi 0, vi 0, vi 0, vl 0, vi 0, vi 0, vi 0, vi 0, vi 0, .ref q6, .ref q7, .ref q8, vi 0, vi 0, vi 0, .ref q9, .ref q10, .ref q11, vi 0, vi 0, vl 0, vi 0, .null, .null, vi 0, .null, .null, .null, vi 0, vi 0, vi 0, vi 0, vi 0, .null, vi 0, vl 0, vl 0, vl 0, .null, .null, .null, .null, vi 0, vi 0, .null, .null])), (q1, .inl (K.2.2.2.1 1, (940, (.inl fun _ => 0)))), (q2, .inl (K.2.2.2.1 0, (82, (.inl fun _ => 0)))), (q3, .inl (K.2.2.2.1 0, (82, (.inl fun _ => 0)))), (q4, .inl (K.2.2.2.1 3, (20, (.inr (.inl fun _ => 0))))), (q5, .inl (K.2.2.2.1 3, (8, (.inr (.inl fun _ => 0))))), (q6, .inl (K.2.2.2.1 0, (60, (.inl fun _ => 0)))), (q7, .inl (K.2.2.2.1 0, (2800, (.inl fun _ => 0)))), (q8, .inl (K.2.2.2.1 0, (110, (.inl fun _ => 0)))), (q9, .inl (K.2.2.2.1 0, (100, (.inl fun _ => 0)))), (q10, .inl (K.2.2.2.1 0, (101, (.inl fun _ => 0)))), (q11, .inl (K.2.2.2.1 0, (60, (.inl fun _ => 0))))]) rfl ?_
  refine c_aload_n dX11_init_94 rfl ?_
  refine c_sipush (n := 470) dX11_init_95 (by decide) ?_
  refine c_newa (t := 0) (n := 470) (a0 := (470, (.inl fun _ => 0))) (tg 46 (by decide +kernel) rfl) rfl (by decide) (fun _ => rfl) rfl (by decide) rfl rfl dX11_init_98 (fun q12 => ?_)
  refine c_putF (q0 := 0) fl_X11_65 cf_X11 rfl rfl rfl rfl rfl rfl rfl dX11_init_100 ?_
  refine c_eq (ws' := [(h0, .inr (11, [vi 0, .ref q1, vi 0, vi 0, vi 0, vi 0, .ref q2, .ref q3, .ref q4, .ref q5, vi 0, vi 0, vi 0, vi 0, vi 0, vi 0, vl 0, vi 0, vi 0, vi 0, vi 0, vi 0, .ref q6, .ref q7, .ref q8, vi 0, vi 0, vi 0, .ref q9, .ref q10, .ref q11, vi 0, vi 0, vl 0, vi 0, .ref q12, .null, vi 0, .null, .null, .null, vi 0, vi 0, vi 0, vi 0, vi 0, .null, vi 0, vl 0, vl 0, vl 0, .null, .null, .null, .null, vi 0, vi 0, .null, .null])), (q1, .inl (K.2.2.2.1 1, (940, (.inl fun _ => 0)))), (q2, .inl (K.2.2.2.1 0, (82, (.inl fun _ => 0)))), (q3, .inl (K.2.2.2.1 0, (82, (.inl fun _ => 0)))), (q4, .inl (K.2.2.2.1 3, (20, (.inr (.inl fun _ => 0))))), (q5, .inl (K.2.2.2.1 3, (8, (.inr (.inl fun _ => 0))))), (q6, .inl (K.2.2.2.1 0, (60, (.inl fun _ => 0)))), (q7, .inl (K.2.2.2.1 0, (2800, (.inl fun _ => 0)))), (q8, .inl (K.2.2.2.1 0, (110, (.inl fun _ => 0)))), (q9, .inl (K.2.2.2.1 0, (100, (.inl fun _ => 0)))), (q10, .inl (K.2.2.2.1 0, (101, (.inl fun _ => 0)))), (q11, .inl (K.2.2.2.1 0, (60, (.inl fun _ => 0)))), (q12, .inl (K.2.2.2.1 0, (470, (.inl fun _ => 0))))]) rfl ?_
  refine c_aload_n dX11_init_103 rfl ?_
  refine c_iconst dX11_init_104 ?_
  refine c_newa (t := 0) (n := 3) (a0 := (3, (.inl fun _ => 0))) (tg 46 (by decide +kernel) rfl) rfl (by decide) (fun _ => rfl) rfl (by decide) rfl rfl dX11_init_105 (fun q13 => ?_)
  refine c_putF (q0 := 0) fl_X11_68 cf_X11 rfl rfl rfl rfl rfl rfl rfl dX11_init_107 ?_
  refine c_eq (ws' := [(h0, .inr (11, [vi 0, .ref q1, vi 0, vi 0, vi 0, vi 0, .ref q2, .ref q3, .ref q4, .ref q5, vi 0, vi 0, vi 0, vi 0, vi 0, vi 0, vl 0, vi 0, vi 0, vi 0, vi 0, vi 0, .ref q6, .ref q7, .ref q8, vi 0, vi 0, vi 0, .ref q9, .ref q10, .ref q11, vi 0, vi 0, vl 0, vi 0, .ref q12, .ref q13, vi 0, .null, .null, .null, vi 0, vi 0, vi 0, vi 0, vi 0, .null, vi 0, vl 0, vl 0, vl 0, .null, .null, .null, .null, vi 0, vi 0, .null, .null])), (q1, .inl (K.2.2.2.1 1, (940, (.inl fun _ => 0)))), (q2, .inl (K.2.2.2.1 0, (82, (.inl fun _ => 0)))), (q3, .inl (K.2.2.2.1 0, (82, (.inl fun _ => 0)))), (q4, .inl (K.2.2.2.1 3, (20, (.inr (.inl fun _ => 0))))), (q5, .inl (K.2.2.2.1 3, (8, (.inr (.inl fun _ => 0))))), (q6, .inl (K.2.2.2.1 0, (60, (.inl fun _ => 0)))), (q7, .inl (K.2.2.2.1 0, (2800, (.inl fun _ => 0)))), (q8, .inl (K.2.2.2.1 0, (110, (.inl fun _ => 0)))), (q9, .inl (K.2.2.2.1 0, (100, (.inl fun _ => 0)))), (q10, .inl (K.2.2.2.1 0, (101, (.inl fun _ => 0)))), (q11, .inl (K.2.2.2.1 0, (60, (.inl fun _ => 0)))), (q12, .inl (K.2.2.2.1 0, (470, (.inl fun _ => 0)))), (q13, .inl (K.2.2.2.1 0, (3, (.inl fun _ => 0))))]) rfl ?_
  refine c_aload_n dX11_init_110 rfl ?_
  refine c_iconst dX11_init_111 ?_
  refine c_newa (t := 0) (n := 3) (a0 := (3, (.inl fun _ => 0))) (tg 46 (by decide +kernel) rfl) rfl (by decide) (fun _ => rfl) rfl (by decide) rfl rfl dX11_init_112 (fun q14 => ?_)
  refine c_putF (q0 := 0) fl_X11_71 cf_X11 rfl rfl rfl rfl rfl rfl rfl dX11_init_114 ?_
  refine c_eq (ws' := [(h0, .inr (11, [vi 0, .ref q1, vi 0, vi 0, vi 0, vi 0, .ref q2, .ref q3, .ref q4, .ref q5, vi 0, vi 0, vi 0, vi 0, vi 0, vi 0, vl 0, vi 0, vi 0, vi 0, vi 0, vi 0, .ref q6, .ref q7, .ref q8, vi 0, vi 0, vi 0, .ref q9, .ref q10, .ref q11, vi 0, vi 0, vl 0, vi 0, .ref q12, .ref q13, vi 0, .ref q14, .null, .null, vi 0, vi 0, vi 0, vi 0, vi 0, .null, vi 0, vl 0, vl 0, vl 0, .null, .null, .null, .null, vi 0, vi 0, .null, .null])), (q1, .inl (K.2.2.2.1 1, (940, (.inl fun _ => 0)))), (q2, .inl (K.2.2.2.1 0, (82, (.inl fun _ => 0)))), (q3, .inl (K.2.2.2.1 0, (82, (.inl fun _ => 0)))), (q4, .inl (K.2.2.2.1 3, (20, (.inr (.inl fun _ => 0))))), (q5, .inl (K.2.2.2.1 3, (8, (.inr (.inl fun _ => 0))))), (q6, .inl (K.2.2.2.1 0, (60, (.inl fun _ => 0)))), (q7, .inl (K.2.2.2.1 0, (2800, (.inl fun _ => 0)))), (q8, .inl (K.2.2.2.1 0, (110, (.inl fun _ => 0)))), (q9, .inl (K.2.2.2.1 0, (100, (.inl fun _ => 0)))), (q10, .inl (K.2.2.2.1 0, (101, (.inl fun _ => 0)))), (q11, .inl (K.2.2.2.1 0, (60, (.inl fun _ => 0)))), (q12, .inl (K.2.2.2.1 0, (470, (.inl fun _ => 0)))), (q13, .inl (K.2.2.2.1 0, (3, (.inl fun _ => 0)))), (q14, .inl (K.2.2.2.1 0, (3, (.inl fun _ => 0))))]) rfl ?_
  refine c_aload_n dX11_init_117 rfl ?_
  refine c_iconst dX11_init_118 ?_
  refine c_newa (t := 0) (n := 3) (a0 := (3, (.inl fun _ => 0))) (tg 46 (by decide +kernel) rfl) rfl (by decide) (fun _ => rfl) rfl (by decide) rfl rfl dX11_init_119 (fun q15 => ?_)
  refine c_putF (q0 := 0) fl_X11_74 cf_X11 rfl rfl rfl rfl rfl rfl rfl dX11_init_121 ?_
  refine c_eq (ws' := [(h0, .inr (11, [vi 0, .ref q1, vi 0, vi 0, vi 0, vi 0, .ref q2, .ref q3, .ref q4, .ref q5, vi 0, vi 0, vi 0, vi 0, vi 0, vi 0, vl 0, vi 0, vi 0, vi 0, vi 0, vi 0, .ref q6, .ref q7, .ref q8, vi 0, vi 0, vi 0, .ref q9, .ref q10, .ref q11, vi 0, vi 0, vl 0, vi 0, .ref q12, .ref q13, vi 0, .ref q14, .ref q15, .null, vi 0, vi 0, vi 0, vi 0, vi 0, .null, vi 0, vl 0, vl 0, vl 0, .null, .null, .null, .null, vi 0, vi 0, .null, .null])), (q1, .inl (K.2.2.2.1 1, (940, (.inl fun _ => 0)))), (q2, .inl (K.2.2.2.1 0, (82, (.inl fun _ => 0)))), (q3, .inl (K.2.2.2.1 0, (82, (.inl fun _ => 0)))), (q4, .inl (K.2.2.2.1 3, (20, (.inr (.inl fun _ => 0))))), (q5, .inl (K.2.2.2.1 3, (8, (.inr (.inl fun _ => 0))))), (q6, .inl (K.2.2.2.1 0, (60, (.inl fun _ => 0)))), (q7, .inl (K.2.2.2.1 0, (2800, (.inl fun _ => 0)))), (q8, .inl (K.2.2.2.1 0, (110, (.inl fun _ => 0)))), (q9, .inl (K.2.2.2.1 0, (100, (.inl fun _ => 0)))), (q10, .inl (K.2.2.2.1 0, (101, (.inl fun _ => 0)))), (q11, .inl (K.2.2.2.1 0, (60, (.inl fun _ => 0)))), (q12, .inl (K.2.2.2.1 0, (470, (.inl fun _ => 0)))), (q13, .inl (K.2.2.2.1 0, (3, (.inl fun _ => 0)))), (q14, .inl (K.2.2.2.1 0, (3, (.inl fun _ => 0)))), (q15, .inl (K.2.2.2.1 0, (3, (.inl fun _ => 0))))]) rfl ?_
  refine c_aload_n dX11_init_124 rfl ?_
  refine c_iconst dX11_init_125 ?_
  refine c_newa (t := 0) (n := 3) (a0 := (3, (.inl fun _ => 0))) (tg 46 (by decide +kernel) rfl) rfl (by decide) (fun _ => rfl) rfl (by decide) rfl rfl dX11_init_126 (fun q16 => ?_)
  refine c_putF (q0 := 0) fl_X11_77 cf_X11 rfl rfl rfl rfl rfl rfl rfl dX11_init_128 ?_
  refine c_eq (ws' := [(h0, .inr (11, [vi 0, .ref q1, vi 0, vi 0, vi 0, vi 0, .ref q2, .ref q3, .ref q4, .ref q5, vi 0, vi 0, vi 0, vi 0, vi 0, vi 0, vl 0, vi 0, vi 0, vi 0, vi 0, vi 0, .ref q6, .ref q7, .ref q8, vi 0, vi 0, vi 0, .ref q9, .ref q10, .ref q11, vi 0, vi 0, vl 0, vi 0, .ref q12, .ref q13, vi 0, .ref q14, .ref q15, .ref q16, vi 0, vi 0, vi 0, vi 0, vi 0, .null, vi 0, vl 0, vl 0, vl 0, .null, .null, .null, .null, vi 0, vi 0, .null, .null])), (q1, .inl (K.2.2.2.1 1, (940, (.inl fun _ => 0)))), (q2, .inl (K.2.2.2.1 0, (82, (.inl fun _ => 0)))), (q3, .inl (K.2.2.2.1 0, (82, (.inl fun _ => 0)))), (q4, .inl (K.2.2.2.1 3, (20, (.inr (.inl fun _ => 0))))), (q5, .inl (K.2.2.2.1 3, (8, (.inr (.inl fun _ => 0))))), (q6, .inl (K.2.2.2.1 0, (60, (.inl fun _ => 0)))), (q7, .inl (K.2.2.2.1 0, (2800, (.inl fun _ => 0)))), (q8, .inl (K.2.2.2.1 0, (110, (.inl fun _ => 0)))), (q9, .inl (K.2.2.2.1 0, (100, (.inl fun _ => 0)))), (q10, .inl (K.2.2.2.1 0, (101, (.inl fun _ => 0)))), (q11, .inl (K.2.2.2.1 0, (60, (.inl fun _ => 0)))), (q12, .inl (K.2.2.2.1 0, (470, (.inl fun _ => 0)))), (q13, .inl (K.2.2.2.1 0, (3, (.inl fun _ => 0)))), (q14, .inl (K.2.2.2.1 0, (3, (.inl fun _ => 0)))), (q15, .inl (K.2.2.2.1 0, (3, (.inl fun _ => 0)))), (q16, .inl (K.2.2.2.1 0, (3, (.inl fun _ => 0))))]) rfl ?_
  refine c_aload_n dX11_init_131 rfl ?_
  refine c_iconst dX11_init_132 ?_
  refine c_put (q0 := 0) fl_X11_80 cf_X11 rfl rfl rfl rfl rfl rfl dX11_init_133 ?_
  refine c_eq (ws' := [(h0, .inr (11, [vi 0, .ref q1, vi 0, vi 0, vi 0, vi 0, .ref q2, .ref q3, .ref q4, .ref q5, vi 0, vi 0, vi 0, vi 0, vi 0, vi 0, vl 0, vi 0, vi 0, vi 0, vi 0, vi 0, .ref q6, .ref q7, .ref q8, vi 0, vi 0, vi 0, .ref q9, .ref q10, .ref q11, vi 0, vi 0, vl 0, vi 0, .ref q12, .ref q13, vi 0, .ref q14, .ref q15, .ref q16, vi (-1), vi 0, vi 0, vi 0, vi 0, .null, vi 0, vl 0, vl 0, vl 0, .null, .null, .null, .null, vi 0, vi 0, .null, .null])), (q1, .inl (K.2.2.2.1 1, (940, (.inl fun _ => 0)))), (q2, .inl (K.2.2.2.1 0, (82, (.inl fun _ => 0)))), (q3, .inl (K.2.2.2.1 0, (82, (.inl fun _ => 0)))), (q4, .inl (K.2.2.2.1 3, (20, (.inr (.inl fun _ => 0))))), (q5, .inl (K.2.2.2.1 3, (8, (.inr (.inl fun _ => 0))))), (q6, .inl (K.2.2.2.1 0, (60, (.inl fun _ => 0)))), (q7, .inl (K.2.2.2.1 0, (2800, (.inl fun _ => 0)))), (q8, .inl (K.2.2.2.1 0, (110, (.inl fun _ => 0)))), (q9, .inl (K.2.2.2.1 0, (100, (.inl fun _ => 0)))), (q10, .inl (K.2.2.2.1 0, (101, (.inl fun _ => 0)))), (q11, .inl (K.2.2.2.1 0, (60, (.inl fun _ => 0)))), (q12, .inl (K.2.2.2.1 0, (470, (.inl fun _ => 0)))), (q13, .inl (K.2.2.2.1 0, (3, (.inl fun _ => 0)))), (q14, .inl (K.2.2.2.1 0, (3, (.inl fun _ => 0)))), (q15, .inl (K.2.2.2.1 0, (3, (.inl fun _ => 0)))), (q16, .inl (K.2.2.2.1 0, (3, (.inl fun _ => 0))))]) rfl ?_
  refine c_aload_n dX11_init_136 rfl ?_
  refine c_iconst dX11_init_137 ?_
  refine c_put (q0 := 0) fl_X11_83 cf_X11 rfl rfl rfl rfl rfl rfl dX11_init_138 ?_
  refine c_eq (ws' := [(h0, .inr (11, [vi 0, .ref q1, vi 0, vi 0, vi 0, vi 0, .ref q2, .ref q3, .ref q4, .ref q5, vi 0, vi 0, vi 0, vi 0, vi 0, vi 0, vl 0, vi 0, vi 0, vi 0, vi 0, vi 0, .ref q6, .ref q7, .ref q8, vi 0, vi 0, vi 0, .ref q9, .ref q10, .ref q11, vi 0, vi 0, vl 0, vi 0, .ref q12, .ref q13, vi 0, .ref q14, .ref q15, .ref q16, vi (-1), vi 0, vi (-1), vi 0, vi 0, .null, vi 0, vl 0, vl 0, vl 0, .null, .null, .null, .null, vi 0, vi 0, .null, .null])), (q1, .inl (K.2.2.2.1 1, (940, (.inl fun _ => 0)))), (q2, .inl (K.2.2.2.1 0, (82, (.inl fun _ => 0)))), (q3, .inl (K.2.2.2.1 0, (82, (.inl fun _ => 0)))), (q4, .inl (K.2.2.2.1 3, (20, (.inr (.inl fun _ => 0))))), (q5, .inl (K.2.2.2.1 3, (8, (.inr (.inl fun _ => 0))))), (q6, .inl (K.2.2.2.1 0, (60, (.inl fun _ => 0)))), (q7, .inl (K.2.2.2.1 0, (2800, (.inl fun _ => 0)))), (q8, .inl (K.2.2.2.1 0, (110, (.inl fun _ => 0)))), (q9, .inl (K.2.2.2.1 0, (100, (.inl fun _ => 0)))), (q10, .inl (K.2.2.2.1 0, (101, (.inl fun _ => 0)))), (q11, .inl (K.2.2.2.1 0, (60, (.inl fun _ => 0)))), (q12, .inl (K.2.2.2.1 0, (470, (.inl fun _ => 0)))), (q13, .inl (K.2.2.2.1 0, (3, (.inl fun _ => 0)))), (q14, .inl (K.2.2.2.1 0, (3, (.inl fun _ => 0)))), (q15, .inl (K.2.2.2.1 0, (3, (.inl fun _ => 0)))), (q16, .inl (K.2.2.2.1 0, (3, (.inl fun _ => 0))))]) rfl ?_
  refine c_aload_n dX11_init_141 rfl ?_
  refine c_bipush (n := 10) dX11_init_142 (by decide) ?_
  refine c_newa (t := 0) (n := 10) (a0 := (10, (.inl fun _ => 0))) (tg 46 (by decide +kernel) rfl) rfl (by decide) (fun _ => rfl) rfl (by decide) rfl rfl dX11_init_144 (fun q17 => ?_)
  refine c_putF (q0 := 0) fl_X11_86 cf_X11 rfl rfl rfl rfl rfl rfl rfl dX11_init_146 ?_
  refine c_eq (ws' := [(h0, .inr (11, [vi 0, .ref q1, vi 0, vi 0, vi 0, vi 0, .ref q2, .ref q3, .ref q4, .ref q5, vi 0, vi 0, vi 0, vi 0, vi 0, vi 0, vl 0, vi 0, vi 0, vi 0, vi 0, vi 0, .ref q6, .ref q7, .ref q8, vi 0, vi 0, vi 0, .ref q9, .ref q10, .ref q11, vi 0, vi 0, vl 0, vi 0, .ref q12, .ref q13, vi 0, .ref q14, .ref q15, .ref q16, vi (-1), vi 0, vi (-1), vi 0, vi 0, .ref q17, vi 0, vl 0, vl 0, vl 0, .null, .null, .null, .null, vi 0, vi 0, .null, .null])), (q1, .inl (K.2.2.2.1 1, (940, (.inl fun _ => 0)))), (q2, .inl (K.2.2.2.1 0, (82, (.inl fun _ => 0)))), (q3, .inl (K.2.2.2.1 0, (82, (.inl fun _ => 0)))), (q4, .inl (K.2.2.2.1 3, (20, (.inr (.inl fun _ => 0))))), (q5, .inl (K.2.2.2.1 3, (8, (.inr (.inl fun _ => 0))))), (q6, .inl (K.2.2.2.1 0, (60, (.inl fun _ => 0)))), (q7, .inl (K.2.2.2.1 0, (2800, (.inl fun _ => 0)))), (q8, .inl (K.2.2.2.1 0, (110, (.inl fun _ => 0)))), (q9, .inl (K.2.2.2.1 0, (100, (.inl fun _ => 0)))), (q10, .inl (K.2.2.2.1 0, (101, (.inl fun _ => 0)))), (q11, .inl (K.2.2.2.1 0, (60, (.inl fun _ => 0)))), (q12, .inl (K.2.2.2.1 0, (470, (.inl fun _ => 0)))), (q13, .inl (K.2.2.2.1 0, (3, (.inl fun _ => 0)))), (q14, .inl (K.2.2.2.1 0, (3, (.inl fun _ => 0)))), (q15, .inl (K.2.2.2.1 0, (3, (.inl fun _ => 0)))), (q16, .inl (K.2.2.2.1 0, (3, (.inl fun _ => 0)))), (q17, .inl (K.2.2.2.1 0, (10, (.inl fun _ => 0))))]) rfl ?_
  refine c_aload_n dX11_init_149 rfl ?_
  refine c_iconst dX11_init_150 ?_
  refine c_put (q0 := 0) fl_X11_89 cf_X11 rfl rfl rfl rfl rfl rfl dX11_init_151 ?_
  refine c_eq (ws' := [(h0, .inr (11, [vi 0, .ref q1, vi 0, vi 0, vi 0, vi 0, .ref q2, .ref q3, .ref q4, .ref q5, vi 0, vi 0, vi 0, vi 0, vi 0, vi 0, vl 0, vi 0, vi 0, vi 0, vi 0, vi 0, .ref q6, .ref q7, .ref q8, vi 0, vi 0, vi 0, .ref q9, .ref q10, .ref q11, vi 0, vi 0, vl 0, vi 0, .ref q12, .ref q13, vi 0, .ref q14, .ref q15, .ref q16, vi (-1), vi 0, vi (-1), vi 0, vi 0, .ref q17, vi (-1), vl 0, vl 0, vl 0, .null, .null, .null, .null, vi 0, vi 0, .null, .null])), (q1, .inl (K.2.2.2.1 1, (940, (.inl fun _ => 0)))), (q2, .inl (K.2.2.2.1 0, (82, (.inl fun _ => 0)))), (q3, .inl (K.2.2.2.1 0, (82, (.inl fun _ => 0)))), (q4, .inl (K.2.2.2.1 3, (20, (.inr (.inl fun _ => 0))))), (q5, .inl (K.2.2.2.1 3, (8, (.inr (.inl fun _ => 0))))), (q6, .inl (K.2.2.2.1 0, (60, (.inl fun _ => 0)))), (q7, .inl (K.2.2.2.1 0, (2800, (.inl fun _ => 0)))), (q8, .inl (K.2.2.2.1 0, (110, (.inl fun _ => 0)))), (q9, .inl (K.2.2.2.1 0, (100, (.inl fun _ => 0)))), (q10, .inl (K.2.2.2.1 0, (101, (.inl fun _ => 0)))), (q11, .inl (K.2.2.2.1 0, (60, (.inl fun _ => 0)))), (q12, .inl (K.2.2.2.1 0, (470, (.inl fun _ => 0)))), (q13, .inl (K.2.2.2.1 0, (3, (.inl fun _ => 0)))), (q14, .inl (K.2.2.2.1 0, (3, (.inl fun _ => 0)))), (q15, .inl (K.2.2.2.1 0, (3, (.inl fun _ => 0)))), (q16, .inl (K.2.2.2.1 0, (3, (.inl fun _ => 0)))), (q17, .inl (K.2.2.2.1 0, (10, (.inl fun _ => 0))))]) rfl ?_
  refine c_aload_n dX11_init_154 rfl ?_
  refine c_bipush (n := 28) dX11_init_155 (by decide) ?_
  refine c_newa (t := 0) (n := 28) (a0 := (28, (.inl fun _ => 0))) (tg 46 (by decide +kernel) rfl) rfl (by decide) (fun _ => rfl) rfl (by decide) rfl rfl dX11_init_157 (fun q18 => ?_)
  refine c_putF (q0 := 0) fl_X11_92 cf_X11 rfl rfl rfl rfl rfl rfl rfl dX11_init_159 ?_
  refine c_eq (ws' := [(h0, .inr (11, [vi 0, .ref q1, vi 0, vi 0, vi 0, vi 0, .ref q2, .ref q3, .ref q4, .ref q5, vi 0, vi 0, vi 0, vi 0, vi 0, vi 0, vl 0, vi 0, vi 0, vi 0, vi 0, vi 0, .ref q6, .ref q7, .ref q8, vi 0, vi 0, vi 0, .ref q9, .ref q10, .ref q11, vi 0, vi 0, vl 0, vi 0, .ref q12, .ref q13, vi 0, .ref q14, .ref q15, .ref q16, vi (-1), vi 0, vi (-1), vi 0, vi 0, .ref q17, vi (-1), vl 0, vl 0, vl 0, .ref q18, .null, .null, .null, vi 0, vi 0, .null, .null])), (q1, .inl (K.2.2.2.1 1, (940, (.inl fun _ => 0)))), (q2, .inl (K.2.2.2.1 0, (82, (.inl fun _ => 0)))), (q3, .inl (K.2.2.2.1 0, (82, (.inl fun _ => 0)))), (q4, .inl (K.2.2.2.1 3, (20, (.inr (.inl fun _ => 0))))), (q5, .inl (K.2.2.2.1 3, (8, (.inr (.inl fun _ => 0))))), (q6, .inl (K.2.2.2.1 0, (60, (.inl fun _ => 0)))), (q7, .inl (K.2.2.2.1 0, (2800, (.inl fun _ => 0)))), (q8, .inl (K.2.2.2.1 0, (110, (.inl fun _ => 0)))), (q9, .inl (K.2.2.2.1 0, (100, (.inl fun _ => 0)))), (q10, .inl (K.2.2.2.1 0, (101, (.inl fun _ => 0)))), (q11, .inl (K.2.2.2.1 0, (60, (.inl fun _ => 0)))), (q12, .inl (K.2.2.2.1 0, (470, (.inl fun _ => 0)))), (q13, .inl (K.2.2.2.1 0, (3, (.inl fun _ => 0)))), (q14, .inl (K.2.2.2.1 0, (3, (.inl fun _ => 0)))), (q15, .inl (K.2.2.2.1 0, (3, (.inl fun _ => 0)))), (q16, .inl (K.2.2.2.1 0, (3, (.inl fun _ => 0)))), (q17, .inl (K.2.2.2.1 0, (10, (.inl fun _ => 0)))), (q18, .inl (K.2.2.2.1 0, (28, (.inl fun _ => 0))))]) rfl ?_
  refine c_aload_n dX11_init_162 rfl ?_
  refine c_bipush (n := 28) dX11_init_163 (by decide) ?_
  refine c_newa (t := 0) (n := 28) (a0 := (28, (.inl fun _ => 0))) (tg 46 (by decide +kernel) rfl) rfl (by decide) (fun _ => rfl) rfl (by decide) rfl rfl dX11_init_165 (fun q19 => ?_)
  refine c_putF (q0 := 0) fl_X11_95 cf_X11 rfl rfl rfl rfl rfl rfl rfl dX11_init_167 ?_
  refine c_eq (ws' := [(h0, .inr (11, [vi 0, .ref q1, vi 0, vi 0, vi 0, vi 0, .ref q2, .ref q3, .ref q4, .ref q5, vi 0, vi 0, vi 0, vi 0, vi 0, vi 0, vl 0, vi 0, vi 0, vi 0, vi 0, vi 0, .ref q6, .ref q7, .ref q8, vi 0, vi 0, vi 0, .ref q9, .ref q10, .ref q11, vi 0, vi 0, vl 0, vi 0, .ref q12, .ref q13, vi 0, .ref q14, .ref q15, .ref q16, vi (-1), vi 0, vi (-1), vi 0, vi 0, .ref q17, vi (-1), vl 0, vl 0, vl 0, .ref q18, .ref q19, .null, .null, vi 0, vi 0, .null, .null])), (q1, .inl (K.2.2.2.1 1, (940, (.inl fun _ => 0)))), (q2, .inl (K.2.2.2.1 0, (82, (.inl fun _ => 0)))), (q3, .inl (K.2.2.2.1 0, (82, (.inl fun _ => 0)))), (q4, .inl (K.2.2.2.1 3, (20, (.inr (.inl fun _ => 0))))), (q5, .inl (K.2.2.2.1 3, (8, (.inr (.inl fun _ => 0))))), (q6, .inl (K.2.2.2.1 0, (60, (.inl fun _ => 0)))), (q7, .inl (K.2.2.2.1 0, (2800, (.inl fun _ => 0)))), (q8, .inl (K.2.2.2.1 0, (110, (.inl fun _ => 0)))), (q9, .inl (K.2.2.2.1 0, (100, (.inl fun _ => 0)))), (q10, .inl (K.2.2.2.1 0, (101, (.inl fun _ => 0)))), (q11, .inl (K.2.2.2.1 0, (60, (.inl fun _ => 0)))), (q12, .inl (K.2.2.2.1 0, (470, (.inl fun _ => 0)))), (q13, .inl (K.2.2.2.1 0, (3, (.inl fun _ => 0)))), (q14, .inl (K.2.2.2.1 0, (3, (.inl fun _ => 0)))), (q15, .inl (K.2.2.2.1 0, (3, (.inl fun _ => 0)))), (q16, .inl (K.2.2.2.1 0, (3, (.inl fun _ => 0)))), (q17, .inl (K.2.2.2.1 0, (10, (.inl fun _ => 0)))), (q18, .inl (K.2.2.2.1 0, (28, (.inl fun _ => 0)))), (q19, .inl (K.2.2.2.1 0, (28, (.inl fun _ => 0))))]) rfl ?_
  refine c_aload_n dX11_init_170 rfl ?_
  refine c_sipush (n := 7424) dX11_init_171 (by decide) ?_
  refine c_newa (t := 0) (n := 7424) (a0 := (7424, (.inl fun _ => 0))) (tg 46 (by decide +kernel) rfl) rfl (by decide) (fun _ => rfl) rfl (by decide) rfl rfl dX11_init_174 (fun q20 => ?_)
  refine c_putF (q0 := 0) fl_X11_98 cf_X11 rfl rfl rfl rfl rfl rfl rfl dX11_init_176 ?_
  refine c_eq (ws' := [(h0, .inr (11, [vi 0, .ref q1, vi 0, vi 0, vi 0, vi 0, .ref q2, .ref q3, .ref q4, .ref q5, vi 0, vi 0, vi 0, vi 0, vi 0, vi 0, vl 0, vi 0, vi 0, vi 0, vi 0, vi 0, .ref q6, .ref q7, .ref q8, vi 0, vi 0, vi 0, .ref q9, .ref q10, .ref q11, vi 0, vi 0, vl 0, vi 0, .ref q12, .ref q13, vi 0, .ref q14, .ref q15, .ref q16, vi (-1), vi 0, vi (-1), vi 0, vi 0, .ref q17, vi (-1), vl 0, vl 0, vl 0, .ref q18, .ref q19, .ref q20, .null, vi 0, vi 0, .null, .null])), (q1, .inl (K.2.2.2.1 1, (940, (.inl fun _ => 0)))), (q2, .inl (K.2.2.2.1 0, (82, (.inl fun _ => 0)))), (q3, .inl (K.2.2.2.1 0, (82, (.inl fun _ => 0)))), (q4, .inl (K.2.2.2.1 3, (20, (.inr (.inl fun _ => 0))))), (q5, .inl (K.2.2.2.1 3, (8, (.inr (.inl fun _ => 0))))), (q6, .inl (K.2.2.2.1 0, (60, (.inl fun _ => 0)))), (q7, .inl (K.2.2.2.1 0, (2800, (.inl fun _ => 0)))), (q8, .inl (K.2.2.2.1 0, (110, (.inl fun _ => 0)))), (q9, .inl (K.2.2.2.1 0, (100, (.inl fun _ => 0)))), (q10, .inl (K.2.2.2.1 0, (101, (.inl fun _ => 0)))), (q11, .inl (K.2.2.2.1 0, (60, (.inl fun _ => 0)))), (q12, .inl (K.2.2.2.1 0, (470, (.inl fun _ => 0)))), (q13, .inl (K.2.2.2.1 0, (3, (.inl fun _ => 0)))), (q14, .inl (K.2.2.2.1 0, (3, (.inl fun _ => 0)))), (q15, .inl (K.2.2.2.1 0, (3, (.inl fun _ => 0)))), (q16, .inl (K.2.2.2.1 0, (3, (.inl fun _ => 0)))), (q17, .inl (K.2.2.2.1 0, (10, (.inl fun _ => 0)))), (q18, .inl (K.2.2.2.1 0, (28, (.inl fun _ => 0)))), (q19, .inl (K.2.2.2.1 0, (28, (.inl fun _ => 0)))), (q20, .inl (K.2.2.2.1 0, (7424, (.inl fun _ => 0))))]) rfl ?_
  refine c_aload_n dX11_init_179 rfl ?_
  refine c_bipush (n := 8) dX11_init_180 (by decide) ?_
  refine c_newa (t := 0) (n := 8) (a0 := (8, (.inl fun _ => 0))) (tg 46 (by decide +kernel) rfl) rfl (by decide) (fun _ => rfl) rfl (by decide) rfl rfl dX11_init_182 (fun q21 => ?_)
  refine c_putF (q0 := 0) fl_X11_101 cf_X11 rfl rfl rfl rfl rfl rfl rfl dX11_init_184 ?_
  refine c_eq (ws' := [(h0, .inr (11, [vi 0, .ref q1, vi 0, vi 0, vi 0, vi 0, .ref q2, .ref q3, .ref q4, .ref q5, vi 0, vi 0, vi 0, vi 0, vi 0, vi 0, vl 0, vi 0, vi 0, vi 0, vi 0, vi 0, .ref q6, .ref q7, .ref q8, vi 0, vi 0, vi 0, .ref q9, .ref q10, .ref q11, vi 0, vi 0, vl 0, vi 0, .ref q12, .ref q13, vi 0, .ref q14, .ref q15, .ref q16, vi (-1), vi 0, vi (-1), vi 0, vi 0, .ref q17, vi (-1), vl 0, vl 0, vl 0, .ref q18, .ref q19, .ref q20, .ref q21, vi 0, vi 0, .null, .null])), (q1, .inl (K.2.2.2.1 1, (940, (.inl fun _ => 0)))), (q2, .inl (K.2.2.2.1 0, (82, (.inl fun _ => 0)))), (q3, .inl (K.2.2.2.1 0, (82, (.inl fun _ => 0)))), (q4, .inl (K.2.2.2.1 3, (20, (.inr (.inl fun _ => 0))))), (q5, .inl (K.2.2.2.1 3, (8, (.inr (.inl fun _ => 0))))), (q6, .inl (K.2.2.2.1 0, (60, (.inl fun _ => 0)))), (q7, .inl (K.2.2.2.1 0, (2800, (.inl fun _ => 0)))), (q8, .inl (K.2.2.2.1 0, (110, (.inl fun _ => 0)))), (q9, .inl (K.2.2.2.1 0, (100, (.inl fun _ => 0)))), (q10, .inl (K.2.2.2.1 0, (101, (.inl fun _ => 0)))), (q11, .inl (K.2.2.2.1 0, (60, (.inl fun _ => 0)))), (q12, .inl (K.2.2.2.1 0, (470, (.inl fun _ => 0)))), (q13, .inl (K.2.2.2.1 0, (3, (.inl fun _ => 0)))), (q14, .inl (K.2.2.2.1 0, (3, (.inl fun _ => 0)))), (q15, .inl (K.2.2.2.1 0, (3, (.inl fun _ => 0)))), (q16, .inl (K.2.2.2.1 0, (3, (.inl fun _ => 0)))), (q17, .inl (K.2.2.2.1 0, (10, (.inl fun _ => 0)))), (q18, .inl (K.2.2.2.1 0, (28, (.inl fun _ => 0)))), (q19, .inl (K.2.2.2.1 0, (28, (.inl fun _ => 0)))), (q20, .inl (K.2.2.2.1 0, (7424, (.inl fun _ => 0)))), (q21, .inl (K.2.2.2.1 0, (8, (.inl fun _ => 0))))]) rfl ?_
  refine c_aload_n dX11_init_187 rfl ?_
  refine c_iconst dX11_init_188 ?_
  refine c_put (q0 := 0) fl_X11_104 cf_X11 rfl rfl rfl rfl rfl rfl dX11_init_189 ?_
  refine c_eq (ws' := [(h0, .inr (11, [vi 0, .ref q1, vi 0, vi 0, vi 0, vi 0, .ref q2, .ref q3, .ref q4, .ref q5, vi 0, vi 0, vi 0, vi 0, vi 0, vi 0, vl 0, vi 0, vi 0, vi 0, vi 0, vi 0, .ref q6, .ref q7, .ref q8, vi 0, vi 0, vi 0, .ref q9, .ref q10, .ref q11, vi 0, vi 0, vl 0, vi 0, .ref q12, .ref q13, vi 0, .ref q14, .ref q15, .ref q16, vi (-1), vi 0, vi (-1), vi 0, vi 0, .ref q17, vi (-1), vl 0, vl 0, vl 0, .ref q18, .ref q19, .ref q20, .ref q21, vi 0, vi (-1), .null, .null])), (q1, .inl (K.2.2.2.1 1, (940, (.inl fun _ => 0)))), (q2, .inl (K.2.2.2.1 0, (82, (.inl fun _ => 0)))), (q3, .inl (K.2.2.2.1 0, (82, (.inl fun _ => 0)))), (q4, .inl (K.2.2.2.1 3, (20, (.inr (.inl fun _ => 0))))), (q5, .inl (K.2.2.2.1 3, (8, (.inr (.inl fun _ => 0))))), (q6, .inl (K.2.2.2.1 0, (60, (.inl fun _ => 0)))), (q7, .inl (K.2.2.2.1 0, (2800, (.inl fun _ => 0)))), (q8, .inl (K.2.2.2.1 0, (110, (.inl fun _ => 0)))), (q9, .inl (K.2.2.2.1 0, (100, (.inl fun _ => 0)))), (q10, .inl (K.2.2.2.1 0, (101, (.inl fun _ => 0)))), (q11, .inl (K.2.2.2.1 0, (60, (.inl fun _ => 0)))), (q12, .inl (K.2.2.2.1 0, (470, (.inl fun _ => 0)))), (q13, .inl (K.2.2.2.1 0, (3, (.inl fun _ => 0)))), (q14, .inl (K.2.2.2.1 0, (3, (.inl fun _ => 0)))), (q15, .inl (K.2.2.2.1 0, (3, (.inl fun _ => 0)))), (q16, .inl (K.2.2.2.1 0, (3, (.inl fun _ => 0)))), (q17, .inl (K.2.2.2.1 0, (10, (.inl fun _ => 0)))), (q18, .inl (K.2.2.2.1 0, (28, (.inl fun _ => 0)))), (q19, .inl (K.2.2.2.1 0, (28, (.inl fun _ => 0)))), (q20, .inl (K.2.2.2.1 0, (7424, (.inl fun _ => 0)))), (q21, .inl (K.2.2.2.1 0, (8, (.inl fun _ => 0))))]) rfl ?_
  refine c_aload_n dX11_init_192 rfl ?_
  refine c_sipush (n := 164) dX11_init_193 (by decide) ?_
  refine c_newa (t := 0) (n := 164) (a0 := (164, (.inl fun _ => 0))) (tg 46 (by decide +kernel) rfl) rfl (by decide) (fun _ => rfl) rfl (by decide) rfl rfl dX11_init_196 (fun q22 => ?_)
  refine c_putF (q0 := 0) fl_X11_107 cf_X11 rfl rfl rfl rfl rfl rfl rfl dX11_init_198 ?_
  refine c_eq (ws' := [(h0, .inr (11, [vi 0, .ref q1, vi 0, vi 0, vi 0, vi 0, .ref q2, .ref q3, .ref q4, .ref q5, vi 0, vi 0, vi 0, vi 0, vi 0, vi 0, vl 0, vi 0, vi 0, vi 0, vi 0, vi 0, .ref q6, .ref q7, .ref q8, vi 0, vi 0, vi 0, .ref q9, .ref q10, .ref q11, vi 0, vi 0, vl 0, vi 0, .ref q12, .ref q13, vi 0, .ref q14, .ref q15, .ref q16, vi (-1), vi 0, vi (-1), vi 0, vi 0, .ref q17, vi (-1), vl 0, vl 0, vl 0, .ref q18, .ref q19, .ref q20, .ref q21, vi 0, vi (-1), .ref q22, .null])), (q1, .inl (K.2.2.2.1 1, (940, (.inl fun _ => 0)))), (q2, .inl (K.2.2.2.1 0, (82, (.inl fun _ => 0)))), (q3, .inl (K.2.2.2.1 0, (82, (.inl fun _ => 0)))), (q4, .inl (K.2.2.2.1 3, (20, (.inr (.inl fun _ => 0))))), (q5, .inl (K.2.2.2.1 3, (8, (.inr (.inl fun _ => 0))))), (q6, .inl (K.2.2.2.1 0, (60, (.inl fun _ => 0)))), (q7, .inl (K.2.2.2.1 0, (2800, (.inl fun _ => 0)))), (q8, .inl (K.2.2.2.1 0, (110, (.inl fun _ => 0)))), (q9, .inl (K.2.2.2.1 0, (100, (.inl fun _ => 0)))), (q10, .inl (K.2.2.2.1 0, (101, (.inl fun _ => 0)))), (q11, .inl (K.2.2.2.1 0, (60, (.inl fun _ => 0)))), (q12, .inl (K.2.2.2.1 0, (470, (.inl fun _ => 0)))), (q13, .inl (K.2.2.2.1 0, (3, (.inl fun _ => 0)))), (q14, .inl (K.2.2.2.1 0, (3, (.inl fun _ => 0)))), (q15, .inl (K.2.2.2.1 0, (3, (.inl fun _ => 0)))), (q16, .inl (K.2.2.2.1 0, (3, (.inl fun _ => 0)))), (q17, .inl (K.2.2.2.1 0, (10, (.inl fun _ => 0)))), (q18, .inl (K.2.2.2.1 0, (28, (.inl fun _ => 0)))), (q19, .inl (K.2.2.2.1 0, (28, (.inl fun _ => 0)))), (q20, .inl (K.2.2.2.1 0, (7424, (.inl fun _ => 0)))), (q21, .inl (K.2.2.2.1 0, (8, (.inl fun _ => 0)))), (q22, .inl (K.2.2.2.1 0, (164, (.inl fun _ => 0))))]) rfl ?_
  refine c_aload_n dX11_init_201 rfl ?_
  refine c_iconst dX11_init_202 ?_
  refine c_newa (t := 2) (n := 2) (a0 := (2, (.inl fun _ => 0))) (tg 267 (by decide +kernel) rfl) rfl (by decide) (fun _ => rfl) rfl (by decide) rfl rfl dX11_init_203 (fun q23 => ?_)
  refine c_putF (q0 := 0) fl_X11_110 cf_X11 rfl rfl rfl rfl rfl rfl rfl dX11_init_205 ?_
  refine c_eq (ws' := [(h0, .inr (11, [vi 0, .ref q1, vi 0, vi 0, vi 0, vi 0, .ref q2, .ref q3, .ref q4, .ref q5, vi 0, vi 0, vi 0, vi 0, vi 0, vi 0, vl 0, vi 0, vi 0, vi 0, vi 0, vi 0, .ref q6, .ref q7, .ref q8, vi 0, vi 0, vi 0, .ref q9, .ref q10, .ref q11, vi 0, vi 0, vl 0, vi 0, .ref q12, .ref q13, vi 0, .ref q14, .ref q15, .ref q16, vi (-1), vi 0, vi (-1), vi 0, vi 0, .ref q17, vi (-1), vl 0, vl 0, vl 0, .ref q18, .ref q19, .ref q20, .ref q21, vi 0, vi (-1), .ref q22, .ref q23])), (q1, .inl (K.2.2.2.1 1, (940, (.inl fun _ => 0)))), (q2, .inl (K.2.2.2.1 0, (82, (.inl fun _ => 0)))), (q3, .inl (K.2.2.2.1 0, (82, (.inl fun _ => 0)))), (q4, .inl (K.2.2.2.1 3, (20, (.inr (.inl fun _ => 0))))), (q5, .inl (K.2.2.2.1 3, (8, (.inr (.inl fun _ => 0))))), (q6, .inl (K.2.2.2.1 0, (60, (.inl fun _ => 0)))), (q7, .inl (K.2.2.2.1 0, (2800, (.inl fun _ => 0)))), (q8, .inl (K.2.2.2.1 0, (110, (.inl fun _ => 0)))), (q9, .inl (K.2.2.2.1 0, (100, (.inl fun _ => 0)))), (q10, .inl (K.2.2.2.1 0, (101, (.inl fun _ => 0)))), (q11, .inl (K.2.2.2.1 0, (60, (.inl fun _ => 0)))), (q12, .inl (K.2.2.2.1 0, (470, (.inl fun _ => 0)))), (q13, .inl (K.2.2.2.1 0, (3, (.inl fun _ => 0)))), (q14, .inl (K.2.2.2.1 0, (3, (.inl fun _ => 0)))), (q15, .inl (K.2.2.2.1 0, (3, (.inl fun _ => 0)))), (q16, .inl (K.2.2.2.1 0, (3, (.inl fun _ => 0)))), (q17, .inl (K.2.2.2.1 0, (10, (.inl fun _ => 0)))), (q18, .inl (K.2.2.2.1 0, (28, (.inl fun _ => 0)))), (q19, .inl (K.2.2.2.1 0, (28, (.inl fun _ => 0)))), (q20, .inl (K.2.2.2.1 0, (7424, (.inl fun _ => 0)))), (q21, .inl (K.2.2.2.1 0, (8, (.inl fun _ => 0)))), (q22, .inl (K.2.2.2.1 0, (164, (.inl fun _ => 0)))), (q23, .inl (K.2.2.2.1 2, (2, (.inl fun _ => 0))))]) rfl ?_
  refine c_eq (ws' := wl (adM h0 q1 q2 q3 q4 q5 q6 q7 q8 q9 q10 q11 q12 q13 q14 q15 q16 q17 q18 q19 q20 q21 q22 q23) K.2.2.2.1 σM0 0 LYM) (wsM0 h0 q1 q2 q3 q4 q5 q6 q7 q8 q9 q10 q11 q12 q13 q14 q15 q16 q17 q18 q19 q20 q21 q22 q23 K.2.2.2.1) ?_
  refine c_aload_n dX11_init_208 rfl ?_
  refine c_getW (ad := adM h0 q1 q2 q3 q4 q5 q6 q7 q8 q9 q10 q11 q12 q13 q14 q15 q16 q17 q18 q19 q20 q21 q22 q23) (q := 0) (z := 5) fl_X11_44 lyM_0 rfl dX11_init_209 ?_
  refine c_iconst (n := 0) dX11_init_212 ?_
  refine c_ldc2 kc_X11_114 dX11_init_213 ?_
  refine c_lastW (ad := adM h0 q1 q2 q3 q4 q5 q6 q7 q8 q9 q10 q11 q12 q13 q14 q15 q16 q17 q18 q19 q20 q21 q22 q23) (q := 5) (i := 0) lyM_5 ⟨by decide, by decide⟩ rfl dX11_init_216 ?_
  refine c_aload_n dX11_init_217 rfl ?_
  refine c_getW (ad := adM h0 q1 q2 q3 q4 q5 q6 q7 q8 q9 q10 q11 q12 q13 q14 q15 q16 q17 q18 q19 q20 q21 q22 q23) (q := 0) (z := 5) fl_X11_44 lyM_0 rfl dX11_init_218 ?_
  refine c_iconst (n := 1) dX11_init_221 ?_
  refine c_ldc2 kc_X11_116 dX11_init_222 ?_
  refine c_lastW (ad := adM h0 q1 q2 q3 q4 q5 q6 q7 q8 q9 q10 q11 q12 q13 q14 q15 q16 q17 q18 q19 q20 q21 q22 q23) (q := 5) (i := 1) lyM_5 ⟨by decide, by decide⟩ rfl dX11_init_225 ?_
  refine c_aload_n dX11_init_226 rfl ?_
  refine c_getW (ad := adM h0 q1 q2 q3 q4 q5 q6 q7 q8 q9 q10 q11 q12 q13 q14 q15 q16 q17 q18 q19 q20 q21 q22 q23) (q := 0) (z := 5) fl_X11_44 lyM_0 rfl dX11_init_227 ?_
  refine c_iconst (n := 2) dX11_init_230 ?_
  refine c_ldc2 kc_X11_118 dX11_init_231 ?_
  refine c_lastW (ad := adM h0 q1 q2 q3 q4 q5 q6 q7 q8 q9 q10 q11 q12 q13 q14 q15 q16 q17 q18 q19 q20 q21 q22 q23) (q := 5) (i := 2) lyM_5 ⟨by decide, by decide⟩ rfl dX11_init_234 ?_
  refine c_aload_n dX11_init_235 rfl ?_
  refine c_getW (ad := adM h0 q1 q2 q3 q4 q5 q6 q7 q8 q9 q10 q11 q12 q13 q14 q15 q16 q17 q18 q19 q20 q21 q22 q23) (q := 0) (z := 5) fl_X11_44 lyM_0 rfl dX11_init_236 ?_
  refine c_iconst (n := 3) dX11_init_239 ?_
  refine c_ldc2 kc_X11_120 dX11_init_240 ?_
  refine c_lastW (ad := adM h0 q1 q2 q3 q4 q5 q6 q7 q8 q9 q10 q11 q12 q13 q14 q15 q16 q17 q18 q19 q20 q21 q22 q23) (q := 5) (i := 3) lyM_5 ⟨by decide, by decide⟩ rfl dX11_init_243 ?_
  refine c_aload_n dX11_init_244 rfl ?_
  refine c_getW (ad := adM h0 q1 q2 q3 q4 q5 q6 q7 q8 q9 q10 q11 q12 q13 q14 q15 q16 q17 q18 q19 q20 q21 q22 q23) (q := 0) (z := 5) fl_X11_44 lyM_0 rfl dX11_init_245 ?_
  refine c_iconst (n := 4) dX11_init_248 ?_
  refine c_ldc2 kc_X11_122 dX11_init_249 ?_
  refine c_lastW (ad := adM h0 q1 q2 q3 q4 q5 q6 q7 q8 q9 q10 q11 q12 q13 q14 q15 q16 q17 q18 q19 q20 q21 q22 q23) (q := 5) (i := 4) lyM_5 ⟨by decide, by decide⟩ rfl dX11_init_252 ?_
  refine c_aload_n dX11_init_253 rfl ?_
  refine c_getW (ad := adM h0 q1 q2 q3 q4 q5 q6 q7 q8 q9 q10 q11 q12 q13 q14 q15 q16 q17 q18 q19 q20 q21 q22 q23) (q := 0) (z := 5) fl_X11_44 lyM_0 rfl dX11_init_254 ?_
  refine c_iconst (n := 5) dX11_init_257 ?_
  refine c_ldc2 kc_X11_124 dX11_init_258 ?_
  refine c_lastW (ad := adM h0 q1 q2 q3 q4 q5 q6 q7 q8 q9 q10 q11 q12 q13 q14 q15 q16 q17 q18 q19 q20 q21 q22 q23) (q := 5) (i := 5) lyM_5 ⟨by decide, by decide⟩ rfl dX11_init_261 ?_
  refine c_aload_n dX11_init_262 rfl ?_
  refine c_getW (ad := adM h0 q1 q2 q3 q4 q5 q6 q7 q8 q9 q10 q11 q12 q13 q14 q15 q16 q17 q18 q19 q20 q21 q22 q23) (q := 0) (z := 5) fl_X11_44 lyM_0 rfl dX11_init_263 ?_
  refine c_bipush (n := 6) dX11_init_266 (by decide) ?_
  refine c_ldc2 kc_X11_126 dX11_init_268 ?_
  refine c_lastW (ad := adM h0 q1 q2 q3 q4 q5 q6 q7 q8 q9 q10 q11 q12 q13 q14 q15 q16 q17 q18 q19 q20 q21 q22 q23) (q := 5) (i := 6) lyM_5 ⟨by decide, by decide⟩ rfl dX11_init_271 ?_
  refine c_aload_n dX11_init_272 rfl ?_
  refine c_getW (ad := adM h0 q1 q2 q3 q4 q5 q6 q7 q8 q9 q10 q11 q12 q13 q14 q15 q16 q17 q18 q19 q20 q21 q22 q23) (q := 0) (z := 5) fl_X11_44 lyM_0 rfl dX11_init_273 ?_
  refine c_bipush (n := 7) dX11_init_276 (by decide) ?_
  refine c_ldc2 kc_X11_128 dX11_init_278 ?_
  refine c_lastW (ad := adM h0 q1 q2 q3 q4 q5 q6 q7 q8 q9 q10 q11 q12 q13 q14 q15 q16 q17 q18 q19 q20 q21 q22 q23) (q := 5) (i := 7) lyM_5 ⟨by decide, by decide⟩ rfl dX11_init_281 ?_
  refine c_aload_n dX11_init_282 rfl ?_
  refine c_getW (ad := adM h0 q1 q2 q3 q4 q5 q6 q7 q8 q9 q10 q11 q12 q13 q14 q15 q16 q17 q18 q19 q20 q21 q22 q23) (q := 0) (z := 2) fl_X11_33 lyM_0 rfl dX11_init_283 ?_
  refine c_iconst (n := 0) dX11_init_286 ?_
  refine c_bipush (n := 12) dX11_init_287 (by decide) ?_
  refine c_iastW (ad := adM h0 q1 q2 q3 q4 q5 q6 q7 q8 q9 q10 q11 q12 q13 q14 q15 q16 q17 q18 q19 q20 q21 q22 q23) (q := 2) (i := 0) lyM_2 ⟨by decide, by decide⟩ rfl dX11_init_289 ?_
  refine c_aload_n dX11_init_290 rfl ?_
  refine c_callM (ad := adM h0 q1 q2 q3 q4 q5 q6 q7 q8 q9 q10 q11 q12 q13 q14 q15 q16 q17 q18 q19 q20 q21 q22 q23) (as := []) (σ := σM1) mf_X11_130 lyM_0 rfl (by have h := c_M_settle 2000 σM1; rw [hr] at h; exact h) LYM_ok (fun args D U hts hk => KC.KK hts hk lyM6) rfl rfl dX11_init_291 rfl rfl rfl rfl rfl rfl rfl ?_
  exact c_vret (fun _ h => by subst h; exact ⟨adM h0 q1 q2 q3 q4 q5 q6 q7 q8 q9 q10 q11 q12 q13 q14 q15 q16 q17 q18 q19 q20 q21 q22 q23, σ, rfl, hr, rfl⟩) rfl rfl dX11_init_294
