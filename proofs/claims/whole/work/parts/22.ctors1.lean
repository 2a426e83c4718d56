abbrev fzX2 : List Value := [vi 0, vi 0, vi 0, .null]
theorem dfX2 : ∀ j, j < 4 → defaultValue (tyX2 j) = vp_V fzX2 j
  | 0, _ => rfl
  | 1, _ => rfl
  | 2, _ => rfl
  | 3, _ => rfl
  | _ + 4, h => absurd h (by omega)
def σz : St := (fun _ => 0, fun _ _ => 0)
def latR : Option (Int × St) := f_Lattice_spread_s 5000 σz 12
def latS : St := (latR.getD (0, σz)).2
theorem lat_some : latR.isSome = true := by decide +kernel
theorem lat_run : ∃ r, f_Lattice_spread_s 5000 σz 12 = some (r, latS) := by
  have h := lat_some
  cases e : latR with
  | none => rw [e] at h; cases h
  | some z => exact ⟨z.1, by unfold latS; rw [e]; exact e⟩
def adS (h q : Nat) : Nat → Nat
  | 0 => h
  | _ => q
def BX2 (h0 : Nat) (tc : Nat → ClassId) (ws : va_W) : Prop := ∃ q1 : Nat, ws = wl (adS h0 q1) tc latS 0 LYS
theorem cn_X2 : CN 5 1 60 yX2_init cX2_init 1 2 fzX2 [] BX2 := by
  refine CN_of (own := RX2) (L := fun h0 => [some (.ref h0)]) rfl rfl rfl rfl (fun _ => rfl) rfl (fun h0 K => ?_)
  obtain ⟨r, hr⟩ := lat_run
  refine c_aload_n dX2_init_0 rfl ?_
  refine c_obj (tg 107 (by decide +kernel) rfl) rfl rfl dX2_init_1 ?_
  refine c_aload_n dX2_init_4 rfl ?_
  refine c_bipush (n := 60) dX2_init_5 (by decide) ?_
  refine c_newa (t := 0) (n := 60) (a0 := (60, (.inl fun _ => 0))) (tg 46 (by decide +kernel) rfl) rfl (by decide) (fun _ => rfl) rfl (by decide) rfl rfl dX2_init_7 (fun q1 => ?_)
  refine c_putF (q0 := 0) fl_X2_9 cf_X2 rfl rfl rfl rfl rfl rfl rfl dX2_init_9 ?_
  refine c_aload_n dX2_init_12 rfl ?_
  refine c_bipush (n := 12) dX2_init_13 (by decide) ?_
  refine c_callM (ad := adS h0 q1) (as := [vi 12]) (σ := σz) mf_X2_15 lyS_0 rfl (by have h := c_Lattice_spread_s 5000 σz 12; rw [hr] at h; exact h) lySok (fun args D U hts hk => KC.KK hts hk lyS6) rfl rfl dX2_init_15 rfl rfl rfl rfl rfl rfl rfl ?_
  exact c_vret (fun _ h => by subst h; exact ⟨q1, rfl⟩) rfl rfl dX2_init_18
abbrev fzX8 : List Value := [.null, vi 0]
theorem dfX8 : ∀ j, j < 2 → defaultValue (tyX8 j) = vp_V fzX8 j
  | 0, _ => rfl
  | 1, _ => rfl
  | _ + 2, h => absurd h (by omega)
def BX8 (h0 : Nat) (tc : Nat → ClassId) (ws : va_W) : Prop := ∃ q1 : Nat, ws = [(h0, .inr (8, [.ref q1, vi 0])), (q1, .inl (tc 0, (940, (.inl fun _ => 0))))]
theorem cn_X8 : CN 1 1 940 yX8_init cX8_init 1 8 fzX8 [] BX8 := by
  refine CN_of (own := RX8) (L := fun h0 => [some (.ref h0)]) rfl rfl rfl rfl (fun _ => rfl) rfl (fun h0 K => ?_)
  refine c_aload_n dX8_init_0 rfl ?_
  refine c_obj (tg 34 (by decide +kernel) rfl) rfl rfl dX8_init_1 ?_
  refine c_aload_n dX8_init_4 rfl ?_
  refine c_sipush (n := 940) dX8_init_5 (by decide) ?_
  refine c_newa (t := 0) (n := 940) (a0 := (940, (.inl fun _ => 0))) (tg 46 (by decide +kernel) rfl) rfl (by decide) (fun _ => rfl) rfl (by decide) rfl rfl dX8_init_8 (fun q1 => ?_)
  refine c_putF (q0 := 0) fl_X8_9 cf_X8 rfl rfl rfl rfl rfl rfl rfl dX8_init_10 ?_
  exact c_vret (fun _ h => by subst h; exact ⟨q1, rfl⟩) rfl rfl dX8_init_13
abbrev fzX1 : List Value := [.null, vi 0, .null, .null, .null, vi 0]
theorem dfX1 : ∀ j, j < 6 → defaultValue (tyX1 j) = vp_V fzX1 j
  | 0, _ => rfl
  | 1, _ => rfl
  | 2, _ => rfl
  | 3, _ => rfl
  | 4, _ => rfl
  | 5, _ => rfl
  | _ + 6, h => absurd h (by omega)
abbrev fzX9 : List Value := [.null, vi 0]
theorem dfX9 : ∀ j, j < 2 → defaultValue (tyX9 j) = vp_V fzX9 j
  | 0, _ => rfl
  | 1, _ => rfl
  | _ + 2, h => absurd h (by omega)
def BX9_8 (h0 : Nat) (tc : Nat → ClassId) (ws : va_W) : Prop := ∃ q1 : Nat, ws = [(h0, .inr (9, [.ref q1, vi 0])), (q1, .inl (tc 0, (8, (.inl fun _ => 0))))]
theorem cn_X9_8 : CN 1 1 8 yX9_init cX9_init 2 9 fzX9 [vi 8] BX9_8 := by
  refine CN_of (own := RX9) (L := fun h0 => [some (.ref h0), some (vi 8)]) rfl rfl rfl rfl (fun _ => rfl) rfl (fun h0 K => ?_)
  refine c_aload_n dX9_init_0 rfl ?_
  refine c_obj (tg 279 (by decide +kernel) rfl) rfl rfl dX9_init_1 ?_
  refine c_aload_n dX9_init_4 rfl ?_
  refine c_iload_n (v := 8) dX9_init_5 rfl ?_
  refine c_newa (t := 0) (n := 8) (a0 := (8, (.inl fun _ => 0))) (tg 46 (by decide +kernel) rfl) rfl (by decide) (fun _ => rfl) rfl (by decide) rfl rfl dX9_init_6 (fun q1 => ?_)
  refine c_putF (q0 := 0) fl_X9_9 cf_X9 rfl rfl rfl rfl rfl rfl rfl dX9_init_8 ?_
  exact c_vret (fun _ h => by subst h; exact ⟨q1, rfl⟩) rfl rfl dX9_init_11
def BX1 (h0 : Nat) (tc : Nat → ClassId) (ws : va_W) : Prop := ∃ q1 q2 q3 q4 q5 : Nat, ws = [(h0, .inr (1, [.ref q1, vi 0, .ref q3, .ref q4, .ref q5, vi 0])), (q1, .inr (9, [.ref q2, vi 0])), (q2, .inl (tc 0, (8, (.inl fun _ => 0)))), (q3, .inl (tc 0, (28, (.inl fun _ => 0)))), (q4, .inl (tc 0, (28, (.inl fun _ => 0)))), (q5, .inl (tc 0, (8, (.inl fun _ => 0))))]
theorem cn_X1 : CN 2 5 74 yX1_init cX1_init 1 1 fzX1 [] BX1 := by
  refine CN_of (own := RX1) (L := fun h0 => [some (.ref h0)]) rfl rfl rfl rfl (fun _ => rfl) rfl (fun h0 K => ?_)
  refine c_aload_n dX1_init_0 rfl ?_
  refine c_obj (tg 366 (by decide +kernel) rfl) rfl rfl dX1_init_1 ?_
  refine c_aload_n dX1_init_4 rfl ?_
  refine c_new (ci := 9) (fs := fzX9) ingX9 cf_X9 rfl (tg 367 (by decide +kernel) rfl) (tg 275 (by decide +kernel) rfl) (tg 9 (by decide +kernel) rfl) dfX9 rfl rfl dX1_init_5 (fun q1 => ?_)
  refine c_dup dX1_init_8 rfl ?_
  refine c_bipush (n := 8) dX1_init_9 (by decide) ?_
  refine c_callS ⟨(tg 368 (by decide +kernel) rfl), rfl, (tg 277 (by decide +kernel) rfl), (tg 9 (by decide +kernel) rfl), (tg 278 (by decide +kernel) rfl), by decide⟩ cn_X9_8 rfl dX1_init_11 rfl rfl rfl rfl rfl rfl rfl (fun _ w => ?_)
  obtain ⟨q2, rfl⟩ := w
  refine c_putF (q0 := 0) fl_X1_14 cf_X1 rfl rfl rfl rfl rfl rfl rfl dX1_init_14 ?_
  refine c_aload_n dX1_init_17 rfl ?_
  refine c_bipush (n := 28) dX1_init_18 (by decide) ?_
  refine c_newa (t := 0) (n := 28) (a0 := (28, (.inl fun _ => 0))) (tg 46 (by decide +kernel) rfl) rfl (by decide) (fun _ => rfl) rfl (by decide) rfl rfl dX1_init_20 (fun q3 => ?_)
  refine c_putF (q0 := 0) fl_X1_20 cf_X1 rfl rfl rfl rfl rfl rfl rfl dX1_init_22 ?_
  refine c_aload_n dX1_init_25 rfl ?_
  refine c_bipush (n := 28) dX1_init_26 (by decide) ?_
  refine c_newa (t := 0) (n := 28) (a0 := (28, (.inl fun _ => 0))) (tg 46 (by decide +kernel) rfl) rfl (by decide) (fun _ => rfl) rfl (by decide) rfl rfl dX1_init_28 (fun q4 => ?_)
  refine c_putF (q0 := 0) fl_X1_24 cf_X1 rfl rfl rfl rfl rfl rfl rfl dX1_init_30 ?_
  refine c_aload_n dX1_init_33 rfl ?_
  refine c_bipush (n := 8) dX1_init_34 (by decide) ?_
  refine c_newa (t := 0) (n := 8) (a0 := (8, (.inl fun _ => 0))) (tg 46 (by decide +kernel) rfl) rfl (by decide) (fun _ => rfl) rfl (by decide) rfl rfl dX1_init_36 (fun q5 => ?_)
  refine c_putF (q0 := 0) fl_X1_27 cf_X1 rfl rfl rfl rfl rfl rfl rfl dX1_init_38 ?_
  exact c_vret (fun _ h => by subst h; exact ⟨q1, q2, q3, q4, q5, rfl⟩) rfl rfl dX1_init_41
abbrev fzX0 : List Value := [vi 0, .null, .null, vi 0, .null, .null, .null, vl 0, vl 0, vl 0]
theorem dfX0 : ∀ j, j < 10 → defaultValue (tyX0 j) = vp_V fzX0 j
  | 0, _ => rfl
  | 1, _ => rfl
  | 2, _ => rfl
  | 3, _ => rfl
  | 4, _ => rfl
  | 5, _ => rfl
  | 6, _ => rfl
  | 7, _ => rfl
  | 8, _ => rfl
  | 9, _ => rfl
  | _ + 10, h => absurd h (by omega)
def BX0 (h0 : Nat) (tc : Nat → ClassId) (ws : va_W) : Prop := ∃ q1 q2 q3 q4 q5 : Nat, ws = [(h0, .inr (0, [vi 0, .ref q1, .ref q2, vi 0, .ref q3, .ref q4, .ref q5, vl 0, vl 0, vl 1])), (q1, .inl (tc 0, (4, (.inl fun _ => 0)))), (q2, .inl (tc 0, (4, (.inl fun _ => 0)))), (q3, .inl (tc 0, (8, (.inl fun _ => 0)))), (q4, .inl (tc 0, (8, (.inl fun _ => 0)))), (q5, .inl (tc 0, (8, (.inl fun _ => 0))))]
theorem cn_X0 : CN 1 5 32 yX0_init cX0_init 1 0 fzX0 [] BX0 := by
  refine CN_of (own := RX0) (L := fun h0 => [some (.ref h0)]) rfl rfl rfl rfl (fun _ => rfl) rfl (fun h0 K => ?_)
  refine c_aload_n dX0_init_0 rfl ?_
  refine c_obj (tg 157 (by decide +kernel) rfl) rfl rfl dX0_init_1 ?_
  refine c_aload_n dX0_init_4 rfl ?_
  refine c_iconst dX0_init_5 ?_
  refine c_newa (t := 0) (n := 4) (a0 := (4, (.inl fun _ => 0))) (tg 46 (by decide +kernel) rfl) rfl (by decide) (fun _ => rfl) rfl (by decide) rfl rfl dX0_init_6 (fun q1 => ?_)
  refine c_putF (q0 := 0) fl_X0_9 cf_X0 rfl rfl rfl rfl rfl rfl rfl dX0_init_8 ?_
  refine c_aload_n dX0_init_11 rfl ?_
  refine c_iconst dX0_init_12 ?_
  refine c_newa (t := 0) (n := 4) (a0 := (4, (.inl fun _ => 0))) (tg 46 (by decide +kernel) rfl) rfl (by decide) (fun _ => rfl) rfl (by decide) rfl rfl dX0_init_13 (fun q2 => ?_)
  refine c_putF (q0 := 0) fl_X0_15 cf_X0 rfl rfl rfl rfl rfl rfl rfl dX0_init_15 ?_
  refine c_aload_n dX0_init_18 rfl ?_
  refine c_bipush (n := 8) dX0_init_19 (by decide) ?_
  refine c_newa (t := 0) (n := 8) (a0 := (8, (.inl fun _ => 0))) (tg 46 (by decide +kernel) rfl) rfl (by decide) (fun _ => rfl) rfl (by decide) rfl rfl dX0_init_21 (fun q3 => ?_)
  refine c_putF (q0 := 0) fl_X0_18 cf_X0 rfl rfl rfl rfl rfl rfl rfl dX0_init_23 ?_
  refine c_aload_n dX0_init_26 rfl ?_
  refine c_bipush (n := 8) dX0_init_27 (by decide) ?_
  refine c_newa (t := 0) (n := 8) (a0 := (8, (.inl fun _ => 0))) (tg 46 (by decide +kernel) rfl) rfl (by decide) (fun _ => rfl) rfl (by decide) rfl rfl dX0_init_29 (fun q4 => ?_)
  refine c_putF (q0 := 0) fl_X0_21 cf_X0 rfl rfl rfl rfl rfl rfl rfl dX0_init_31 ?_
  refine c_aload_n dX0_init_34 rfl ?_
  refine c_bipush (n := 8) dX0_init_35 (by decide) ?_
  refine c_newa (t := 0) (n := 8) (a0 := (8, (.inl fun _ => 0))) (tg 46 (by decide +kernel) rfl) rfl (by decide) (fun _ => rfl) rfl (by decide) rfl rfl dX0_init_37 (fun q5 => ?_)
  refine c_putF (q0 := 0) fl_X0_24 cf_X0 rfl rfl rfl rfl rfl rfl rfl dX0_init_39 ?_
  refine c_aload_n dX0_init_42 rfl ?_
  refine c_lconst (v := 1) dX0_init_43 (by decide) ?_
  refine c_put (q0 := 0) fl_X0_27 cf_X0 rfl rfl rfl rfl rfl rfl dX0_init_44 ?_
  exact c_vret (fun _ h => by subst h; exact ⟨q1, q2, q3, q4, q5, rfl⟩) rfl rfl dX0_init_47
abbrev fzX4 : List Value := [vi 0, vi 0, .null, vi 0, vi 0, vi 0, vi 0, vl 0, vi 0, vi 0, vi 0, .null, .null]
theorem dfX4 : ∀ j, j < 13 → defaultValue (tyX4 j) = vp_V fzX4 j
  | 0, _ => rfl
  | 1, _ => rfl
  | 2, _ => rfl
  | 3, _ => rfl
  | 4, _ => rfl
  | 5, _ => rfl
  | 6, _ => rfl
  | 7, _ => rfl
  | 8, _ => rfl
  | 9, _ => rfl
  | 10, _ => rfl
  | 11, _ => rfl
  | 12, _ => rfl
  | _ + 13, h => absurd h (by omega)
def BX4 (h0 : Nat) (tc : Nat → ClassId) (ws : va_W) : Prop := ∃ q1 q2 q3 : Nat, ws = [(h0, .inr (4, [vi 0, vi 0, .ref q1, vi 0, vi 0, vi 0, vi 0, vl 0, vi 0, vi 0, vi 0, .ref q2, .ref q3])), (q1, .inl (tc 0, (0, (.inl fun _ => 0)))), (q2, .inl (tc 3, (6, (.inr (.inl fun _ => 0))))), (q3, .inl (tc 3, (4, (.inr (.inl fun _ => 0)))))]
theorem cn_X4 : CN 1 3 10 yX4_init cX4_init 1 4 fzX4 [] BX4 := by
  refine CN_of (own := RX4) (L := fun h0 => [some (.ref h0)]) rfl rfl rfl rfl (fun _ => rfl) rfl (fun h0 K => ?_)
  refine c_aload_n dX4_init_0 rfl ?_
  refine c_obj (tg 52 (by decide +kernel) rfl) rfl rfl dX4_init_1 ?_
  refine c_aload_n dX4_init_4 rfl ?_
  refine c_iconst dX4_init_5 ?_
  refine c_newa (t := 0) (n := 0) (a0 := (0, (.inl fun _ => 0))) (tg 46 (by decide +kernel) rfl) rfl (by decide) (fun _ => rfl) rfl (by decide) rfl rfl dX4_init_6 (fun q1 => ?_)
  refine c_put (q0 := 0) fl_X4_9 cf_X4 rfl rfl rfl rfl rfl rfl dX4_init_8 ?_
  refine c_aload_n dX4_init_11 rfl ?_
  refine c_bipush (n := 6) dX4_init_12 (by decide) ?_
  refine c_newa (t := 3) (n := 6) (a0 := (6, (.inr (.inl fun _ => 0)))) (tg 95 (by decide +kernel) rfl) rfl (by decide) (fun _ => rfl) rfl (by decide) rfl rfl dX4_init_14 (fun q2 => ?_)
  refine c_putF (q0 := 0) fl_X4_15 cf_X4 rfl rfl rfl rfl rfl rfl rfl dX4_init_16 ?_
  refine c_aload_n dX4_init_19 rfl ?_
  refine c_iconst dX4_init_20 ?_
  refine c_newa (t := 3) (n := 4) (a0 := (4, (.inr (.inl fun _ => 0)))) (tg 95 (by decide +kernel) rfl) rfl (by decide) (fun _ => rfl) rfl (by decide) rfl rfl dX4_init_21 (fun q3 => ?_)
  refine c_putF (q0 := 0) fl_X4_19 cf_X4 rfl rfl rfl rfl rfl rfl rfl dX4_init_23 ?_
  exact c_vret (fun _ h => by subst h; exact ⟨q1, q2, q3, rfl⟩) rfl rfl dX4_init_26
abbrev fzX6 : List Value := [.null, .null, .null, vl 0]
theorem dfX6 : ∀ j, j < 4 → defaultValue (tyX6 j) = vp_V fzX6 j
  | 0, _ => rfl
  | 1, _ => rfl
  | 2, _ => rfl
  | 3, _ => rfl
  | _ + 4, h => absurd h (by omega)
def BX9_46 (h0 : Nat) (tc : Nat → ClassId) (ws : va_W) : Prop := ∃ q1 : Nat, ws = [(h0, .inr (9, [.ref q1, vi 0])), (q1, .inl (tc 0, (46, (.inl fun _ => 0))))]
theorem cn_X9_46 : CN 1 1 46 yX9_init cX9_init 2 9 fzX9 [vi 46] BX9_46 := by
  refine CN_of (own := RX9) (L := fun h0 => [some (.ref h0), some (vi 46)]) rfl rfl rfl rfl (fun _ => rfl) rfl (fun h0 K => ?_)
  refine c_aload_n dX9_init_0 rfl ?_
  refine c_obj (tg 279 (by decide +kernel) rfl) rfl rfl dX9_init_1 ?_
  refine c_aload_n dX9_init_4 rfl ?_
  refine c_iload_n (v := 46) dX9_init_5 rfl ?_
  refine c_newa (t := 0) (n := 46) (a0 := (46, (.inl fun _ => 0))) (tg 46 (by decide +kernel) rfl) rfl (by decide) (fun _ => rfl) rfl (by decide) rfl rfl dX9_init_6 (fun q1 => ?_)
  refine c_putF (q0 := 0) fl_X9_9 cf_X9 rfl rfl rfl rfl rfl rfl rfl dX9_init_8 ?_
  exact c_vret (fun _ h => by subst h; exact ⟨q1, rfl⟩) rfl rfl dX9_init_11
def BX6 (h0 : Nat) (tc : Nat → ClassId) (ws : va_W) : Prop := ∃ q1 q2 q3 q4 q5 : Nat, ws = [(h0, .inr (6, [.ref q1, .ref q2, .ref q4, vl 0])), (q1, .inl (tc 0, (46, (.inl fun _ => 0)))), (q2, .inr (9, [.ref q3, vi 0])), (q3, .inl (tc 0, (46, (.inl fun _ => 0)))), (q4, .inr (9, [.ref q5, vi 0])), (q5, .inl (tc 0, (46, (.inl fun _ => 0))))]
theorem cn_X6 : CN 2 5 142 yX6_init cX6_init 1 6 fzX6 [] BX6 := by
  refine CN_of (own := RX6) (L := fun h0 => [some (.ref h0)]) rfl rfl rfl rfl (fun _ => rfl) rfl (fun h0 K => ?_)
  refine c_aload_n dX6_init_0 rfl ?_
  refine c_obj (tg 273 (by decide +kernel) rfl) rfl rfl dX6_init_1 ?_
  refine c_aload_n dX6_init_4 rfl ?_
  refine c_bipush (n := 46) dX6_init_5 (by decide) ?_
  refine c_newa (t := 0) (n := 46) (a0 := (46, (.inl fun _ => 0))) (tg 46 (by decide +kernel) rfl) rfl (by decide) (fun _ => rfl) rfl (by decide) rfl rfl dX6_init_7 (fun q1 => ?_)
  refine c_putF (q0 := 0) fl_X6_9 cf_X6 rfl rfl rfl rfl rfl rfl rfl dX6_init_9 ?_
  refine c_aload_n dX6_init_12 rfl ?_
  refine c_new (ci := 9) (fs := fzX9) ingX9 cf_X9 rfl (tg 274 (by decide +kernel) rfl) (tg 275 (by decide +kernel) rfl) (tg 9 (by decide +kernel) rfl) dfX9 rfl rfl dX6_init_13 (fun q2 => ?_)
  refine c_dup dX6_init_16 rfl ?_
  refine c_bipush (n := 46) dX6_init_17 (by decide) ?_
  refine c_callS ⟨(tg 276 (by decide +kernel) rfl), rfl, (tg 277 (by decide +kernel) rfl), (tg 9 (by decide +kernel) rfl), (tg 278 (by decide +kernel) rfl), by decide⟩ cn_X9_46 rfl dX6_init_19 rfl rfl rfl rfl rfl rfl rfl (fun _ w => ?_)
  obtain ⟨q3, rfl⟩ := w
  refine c_putF (q0 := 0) fl_X6_20 cf_X6 rfl rfl rfl rfl rfl rfl rfl dX6_init_22 ?_
  refine c_aload_n dX6_init_25 rfl ?_
  refine c_new (ci := 9) (fs := fzX9) ingX9 cf_X9 rfl (tg 274 (by decide +kernel) rfl) (tg 275 (by decide +kernel) rfl) (tg 9 (by decide +kernel) rfl) dfX9 rfl rfl dX6_init_26 (fun q4 => ?_)
  refine c_dup dX6_init_29 rfl ?_
  refine c_bipush (n := 46) dX6_init_30 (by decide) ?_
  refine c_callS ⟨(tg 276 (by decide +kernel) rfl), rfl, (tg 277 (by decide +kernel) rfl), (tg 9 (by decide +kernel) rfl), (tg 278 (by decide +kernel) rfl), by decide⟩ cn_X9_46 rfl dX6_init_32 rfl rfl rfl rfl rfl rfl rfl (fun _ w => ?_)
  obtain ⟨q5, rfl⟩ := w
  refine c_putF (q0 := 0) fl_X6_24 cf_X6 rfl rfl rfl rfl rfl rfl rfl dX6_init_35 ?_
  exact c_vret (fun _ h => by subst h; exact ⟨q1, q2, q3, q4, q5, rfl⟩) rfl rfl dX6_init_38
abbrev fzX5 : List Value := [.null, .null]
theorem dfX5 : ∀ j, j < 2 → defaultValue (tyX5 j) = vp_V fzX5 j
  | 0, _ => rfl
  | 1, _ => rfl
  | _ + 2, h => absurd h (by omega)
def BX5 (h0 : Nat) (tc : Nat → ClassId) (ws : va_W) : Prop := ∃ q1 q2 : Nat, ws = [(h0, .inr (5, [.ref q1, .ref q2])), (q1, .inl (tc 4, (46, .inr (.inr (.inr (.inr (gridC q1 46)))))))] ++ (rowsW q1 46 (.inl (tc 0, (70, .inl fun _ => 0))) ++ ([(q2, .inl (tc 0, (46, (.inl fun _ => 0))))]))
theorem cn_X5 : CN 1 48 3312 yX5_init cX5_init 1 5 fzX5 [] BX5 := by
  refine CN_of (own := RX5) (L := fun h0 => [some (.ref h0)]) rfl rfl rfl rfl (fun _ => rfl) rfl (fun h0 K => ?_)
  refine c_aload_n dX5_init_0 rfl ?_
  refine c_obj (tg 255 (by decide +kernel) rfl) rfl rfl dX5_init_1 ?_
  refine c_aload_n dX5_init_4 rfl ?_
  refine c_bipush (n := 46) dX5_init_5 (by decide) ?_
  refine c_bipush (n := 70) dX5_init_7 (by decide) ?_
  refine c_mna (n := 46) (k := 70) (tg 256 (by decide +kernel) rfl) (tg 46 (by decide +kernel) rfl) rfl rfl rfl rfl dX5_init_9 (fun q1 => ?_)
  refine c_putF (q0 := 0) fl_X5_13 cf_X5 rfl rfl rfl rfl rfl rfl rfl dX5_init_13 ?_
  refine c_aload_n dX5_init_16 rfl ?_
  refine c_bipush (n := 46) dX5_init_17 (by decide) ?_
  refine c_newa (t := 0) (n := 46) (a0 := (46, (.inl fun _ => 0))) (tg 46 (by decide +kernel) rfl) rfl (by decide) (fun _ => rfl) rfl (by decide) rfl rfl dX5_init_19 (fun q2 => ?_)
  refine c_putF (q0 := 0) fl_X5_16 cf_X5 rfl rfl rfl rfl rfl rfl rfl dX5_init_21 ?_
  exact c_vret (fun _ h => by subst h; exact ⟨q1, q2, rfl⟩) rfl rfl dX5_init_24
abbrev fzX3 : List Value := [vi 0, .null, vi 0, vi 0, vi 0, .null, vi 0, .null, .null, .null, .null, .null, vi 0]
theorem dfX3 : ∀ j, j < 13 → defaultValue (tyX3 j) = vp_V fzX3 j
  | 0, _ => rfl
  | 1, _ => rfl
  | 2, _ => rfl
  | 3, _ => rfl
  | 4, _ => rfl
  | 5, _ => rfl
  | 6, _ => rfl
  | 7, _ => rfl
  | 8, _ => rfl
  | 9, _ => rfl
  | 10, _ => rfl
  | 11, _ => rfl
  | 12, _ => rfl
  | _ + 13, h => absurd h (by omega)
def BX3 (h0 : Nat) (tc : Nat → ClassId) (ws : va_W) : Prop := ∃ q1 q2 q3 q4 q5 q6 q7 : Nat, ws = [(h0, .inr (3, [vi 0, .ref q1, vi 0, vi 0, vi 0, .ref q2, vi 0, .ref q3, .ref q4, .ref q5, .ref q6, .ref q7, vi 0])), (q1, .inl (tc 0, (3, (.inl fun _ => 0)))), (q2, .inl (tc 4, (60, .inr (.inr (.inr (.inr (gridC q2 60)))))))] ++ (rowsW q2 60 (.inl (tc 0, (10, .inl fun _ => 0))) ++ ([(q3, .inl (tc 0, (10, (.inl fun _ => 0)))), (q4, .inl (tc 4, (3, .inr (.inr (.inr (.inr (gridC q4 3)))))))] ++ (rowsW q4 3 (.inl (tc 0, (10, .inl fun _ => 0))) ++ ([(q5, .inl (tc 4, (3, .inr (.inr (.inr (.inr (gridC q5 3)))))))] ++ (rowsW q5 3 (.inl (tc 0, (10, .inl fun _ => 0))) ++ ([(q6, .inl (tc 0, (3, (.inl fun _ => 0)))), (q7, .inl (tc 0, (3, (.inl fun _ => 0))))]))))))
theorem cn_X3 : CN 1 73 745 yX3_init cX3_init 1 3 fzX3 [] BX3 := by
  refine CN_of (own := RX3) (L := fun h0 => [some (.ref h0)]) rfl rfl rfl rfl (fun _ => rfl) rfl (fun h0 K => ?_)
  refine c_aload_n dX3_init_0 rfl ?_
  refine c_obj (tg 317 (by decide +kernel) rfl) rfl rfl dX3_init_1 ?_
  refine c_aload_n dX3_init_4 rfl ?_
  refine c_iconst dX3_init_5 ?_
  refine c_newa (t := 0) (n := 3) (a0 := (3, (.inl fun _ => 0))) (tg 46 (by decide +kernel) rfl) rfl (by decide) (fun _ => rfl) rfl (by decide) rfl rfl dX3_init_6 (fun q1 => ?_)
  refine c_putF (q0 := 0) fl_X3_9 cf_X3 rfl rfl rfl rfl rfl rfl rfl dX3_init_8 ?_
  refine c_aload_n dX3_init_11 rfl ?_
  refine c_bipush (n := 60) dX3_init_12 (by decide) ?_
  refine c_bipush (n := 10) dX3_init_14 (by decide) ?_
  refine c_mna (n := 60) (k := 10) (tg 318 (by decide +kernel) rfl) (tg 46 (by decide +kernel) rfl) rfl rfl rfl rfl dX3_init_16 (fun q2 => ?_)
  refine c_putF (q0 := 0) fl_X3_17 cf_X3 rfl rfl rfl rfl rfl rfl rfl dX3_init_20 ?_
  refine c_aload_n dX3_init_23 rfl ?_
  refine c_bipush (n := 10) dX3_init_24 (by decide) ?_
  refine c_newa (t := 0) (n := 10) (a0 := (10, (.inl fun _ => 0))) (tg 46 (by decide +kernel) rfl) rfl (by decide) (fun _ => rfl) rfl (by decide) rfl rfl dX3_init_26 (fun q3 => ?_)
  refine c_putF (q0 := 0) fl_X3_20 cf_X3 rfl rfl rfl rfl rfl rfl rfl dX3_init_28 ?_
  refine c_aload_n dX3_init_31 rfl ?_
  refine c_iconst dX3_init_32 ?_
  refine c_bipush (n := 10) dX3_init_33 (by decide) ?_
  refine c_mna (n := 3) (k := 10) (tg 318 (by decide +kernel) rfl) (tg 46 (by decide +kernel) rfl) rfl rfl rfl rfl dX3_init_35 (fun q4 => ?_)
  refine c_putF (q0 := 0) fl_X3_23 cf_X3 rfl rfl rfl rfl rfl rfl rfl dX3_init_39 ?_
  refine c_aload_n dX3_init_42 rfl ?_
  refine c_iconst dX3_init_43 ?_
  refine c_bipush (n := 10) dX3_init_44 (by decide) ?_
  refine c_mna (n := 3) (k := 10) (tg 318 (by decide +kernel) rfl) (tg 46 (by decide +kernel) rfl) rfl rfl rfl rfl dX3_init_46 (fun q5 => ?_)
  refine c_putF (q0 := 0) fl_X3_26 cf_X3 rfl rfl rfl rfl rfl rfl rfl dX3_init_50 ?_
  refine c_aload_n dX3_init_53 rfl ?_
  refine c_iconst dX3_init_54 ?_
  refine c_newa (t := 0) (n := 3) (a0 := (3, (.inl fun _ => 0))) (tg 46 (by decide +kernel) rfl) rfl (by decide) (fun _ => rfl) rfl (by decide) rfl rfl dX3_init_55 (fun q6 => ?_)
  refine c_putF (q0 := 0) fl_X3_29 cf_X3 rfl rfl rfl rfl rfl rfl rfl dX3_init_57 ?_
  refine c_aload_n dX3_init_60 rfl ?_
  refine c_iconst dX3_init_61 ?_
  refine c_newa (t := 0) (n := 3) (a0 := (3, (.inl fun _ => 0))) (tg 46 (by decide +kernel) rfl) rfl (by decide) (fun _ => rfl) rfl (by decide) rfl rfl dX3_init_62 (fun q7 => ?_)
  refine c_putF (q0 := 0) fl_X3_32 cf_X3 rfl rfl rfl rfl rfl rfl rfl dX3_init_64 ?_
  exact c_vret (fun _ h => by subst h; exact ⟨q1, q2, q3, q4, q5, q6, q7, rfl⟩) rfl rfl dX3_init_67
abbrev fzX7 : List Value := [.null, .null, vi 0, vi 0, .null, .null, vi 0, .null, .null, .null, .null]
theorem dfX7 : ∀ j, j < 11 → defaultValue (tyX7 j) = vp_V fzX7 j
  | 0, _ => rfl
  | 1, _ => rfl
  | 2, _ => rfl
  | 3, _ => rfl
  | 4, _ => rfl
  | 5, _ => rfl
  | 6, _ => rfl
  | 7, _ => rfl
  | 8, _ => rfl
  | 9, _ => rfl
  | 10, _ => rfl
  | _ + 11, h => absurd h (by omega)
def BX7 (h0 : Nat) (tc : Nat → ClassId) (ws : va_W) : Prop := ∃ q1 q2 q3 q4 q5 q6 q7 q8 q9 q10 q11 q12 q13 q14 : Nat, ws = [(h0, .inr (7, [.ref q1, .ref q3, vi 0, vi 0, .ref q9, .ref q10, vi 0, .ref q11, .ref q12, .ref q13, .ref q14]))] ++ (wl (adS q1 q2) tc latS 0 LYS ++ ([(q3, .inr (0, [vi 0, .ref q4, .ref q5, vi 0, .ref q6, .ref q7, .ref q8, vl 0, vl 0, vl 1])), (q4, .inl (tc 0, (4, (.inl fun _ => 0)))), (q5, .inl (tc 0, (4, (.inl fun _ => 0)))), (q6, .inl (tc 0, (8, (.inl fun _ => 0)))), (q7, .inl (tc 0, (8, (.inl fun _ => 0)))), (q8, .inl (tc 0, (8, (.inl fun _ => 0)))), (q9, .inl (tc 0, (10, (.inl fun _ => 0)))), (q10, .inl (tc 0, (10, (.inl fun _ => 0)))), (q11, .inl (tc 0, (6, (.inl fun _ => 0)))), (q12, .inl (tc 0, (6, (.inl fun _ => 0)))), (q13, .inl (tc 0, (6, (.inl fun _ => 0)))), (q14, .inl (tc 0, (6, (.inl fun _ => 0))))]))
theorem cn_X7 : CN 6 14 150 yX7_init cX7_init 1 7 fzX7 [] BX7 := by
  refine CN_of (own := RX7) (L := fun h0 => [some (.ref h0)]) rfl rfl rfl rfl (fun _ => rfl) rfl (fun h0 K => ?_)
  refine c_aload_n dX7_init_0 rfl ?_
  refine c_obj (tg 101 (by decide +kernel) rfl) rfl rfl dX7_init_1 ?_
  refine c_aload_n dX7_init_4 rfl ?_
  refine c_new (ci := 2) (fs := fzX2) ingX2 cf_X2 rfl (tg 102 (by decide +kernel) rfl) (tg 103 (by decide +kernel) rfl) (tg 5 (by decide +kernel) rfl) dfX2 rfl rfl dX7_init_5 (fun q1 => ?_)
  refine c_dup dX7_init_8 rfl ?_
  refine c_callS ⟨(tg 104 (by decide +kernel) rfl), rfl, (tg 105 (by decide +kernel) rfl), (tg 5 (by decide +kernel) rfl), (tg 106 (by decide +kernel) rfl), by decide⟩ cn_X2 rfl dX7_init_9 rfl rfl rfl rfl rfl rfl rfl (fun _ w => ?_)
  obtain ⟨q2, rfl⟩ := w
  refine c_putF (q0 := 0) fl_X7_12 cf_X7 rfl rfl rfl rfl rfl rfl rfl dX7_init_12 ?_
  refine c_aload_n dX7_init_15 rfl ?_
  refine c_new (ci := 0) (fs := fzX0) ingX0 cf_X0 rfl (tg 152 (by decide +kernel) rfl) (tg 153 (by decide +kernel) rfl) (tg 6 (by decide +kernel) rfl) dfX0 rfl rfl dX7_init_16 (fun q3 => ?_)
  refine c_dup dX7_init_19 rfl ?_
  refine c_callN ⟨List.mem_of_getElem? (i := 4) rfl, rfl, (tg 155 (by decide +kernel) rfl), (tg 6 (by decide +kernel) rfl), (tg 156 (by decide +kernel) rfl), by decide⟩ cn_X0 rfl dX7_init_20 rfl rfl rfl rfl rfl rfl rfl (fun _ w => ?_)
  obtain ⟨q4, q5, q6, q7, q8, rfl⟩ := w
  refine c_putF (q0 := 0) fl_X7_21 cf_X7 rfl rfl rfl rfl rfl rfl rfl dX7_init_23 ?_
  refine c_aload_n dX7_init_26 rfl ?_
  refine c_bipush (n := 10) dX7_init_27 (by decide) ?_
  refine c_newa (t := 0) (n := 10) (a0 := (10, (.inl fun _ => 0))) (tg 46 (by decide +kernel) rfl) rfl (by decide) (fun _ => rfl) rfl (by decide) rfl rfl dX7_init_29 (fun q9 => ?_)
  refine c_putF (q0 := 0) fl_X7_25 cf_X7 rfl rfl rfl rfl rfl rfl rfl dX7_init_31 ?_
  refine c_aload_n dX7_init_34 rfl ?_
  refine c_bipush (n := 10) dX7_init_35 (by decide) ?_
  refine c_newa (t := 0) (n := 10) (a0 := (10, (.inl fun _ => 0))) (tg 46 (by decide +kernel) rfl) rfl (by decide) (fun _ => rfl) rfl (by decide) rfl rfl dX7_init_37 (fun q10 => ?_)
  refine c_putF (q0 := 0) fl_X7_29 cf_X7 rfl rfl rfl rfl rfl rfl rfl dX7_init_39 ?_
  refine c_aload_n dX7_init_42 rfl ?_
  refine c_bipush (n := 6) dX7_init_43 (by decide) ?_
  refine c_newa (t := 0) (n := 6) (a0 := (6, (.inl fun _ => 0))) (tg 46 (by decide +kernel) rfl) rfl (by decide) (fun _ => rfl) rfl (by decide) rfl rfl dX7_init_45 (fun q11 => ?_)
  refine c_putF (q0 := 0) fl_X7_32 cf_X7 rfl rfl rfl rfl rfl rfl rfl dX7_init_47 ?_
  refine c_aload_n dX7_init_50 rfl ?_
  refine c_bipush (n := 6) dX7_init_51 (by decide) ?_
  refine c_newa (t := 0) (n := 6) (a0 := (6, (.inl fun _ => 0))) (tg 46 (by decide +kernel) rfl) rfl (by decide) (fun _ => rfl) rfl (by decide) rfl rfl dX7_init_53 (fun q12 => ?_)
  refine c_putF (q0 := 0) fl_X7_35 cf_X7 rfl rfl rfl rfl rfl rfl rfl dX7_init_55 ?_
  refine c_aload_n dX7_init_58 rfl ?_
  refine c_bipush (n := 6) dX7_init_59 (by decide) ?_
  refine c_newa (t := 0) (n := 6) (a0 := (6, (.inl fun _ => 0))) (tg 46 (by decide +kernel) rfl) rfl (by decide) (fun _ => rfl) rfl (by decide) rfl rfl dX7_init_61 (fun q13 => ?_)
  refine c_putF (q0 := 0) fl_X7_38 cf_X7 rfl rfl rfl rfl rfl rfl rfl dX7_init_63 ?_
  refine c_aload_n dX7_init_66 rfl ?_
  refine c_bipush (n := 6) dX7_init_67 (by decide) ?_
  refine c_newa (t := 0) (n := 6) (a0 := (6, (.inl fun _ => 0))) (tg 46 (by decide +kernel) rfl) rfl (by decide) (fun _ => rfl) rfl (by decide) rfl rfl dX7_init_69 (fun q14 => ?_)
  refine c_putF (q0 := 0) fl_X7_41 cf_X7 rfl rfl rfl rfl rfl rfl rfl dX7_init_71 ?_
  exact c_vret (fun _ h => by subst h; exact ⟨q1, q2, q3, q4, q5, q6, q7, q8, q9, q10, q11, q12, q13, q14, rfl⟩) rfl rfl dX7_init_74
def BX9_3 (h0 : Nat) (tc : Nat → ClassId) (ws : va_W) : Prop := ∃ q1 : Nat, ws = [(h0, .inr (9, [.ref q1, vi 0])), (q1, .inl (tc 0, (3, (.inl fun _ => 0))))]
theorem cn_X9_3 : CN 1 1 3 yX9_init cX9_init 2 9 fzX9 [vi 3] BX9_3 := by
  refine CN_of (own := RX9) (L := fun h0 => [some (.ref h0), some (vi 3)]) rfl rfl rfl rfl (fun _ => rfl) rfl (fun h0 K => ?_)
  refine c_aload_n dX9_init_0 rfl ?_
  refine c_obj (tg 279 (by decide +kernel) rfl) rfl rfl dX9_init_1 ?_
  refine c_aload_n dX9_init_4 rfl ?_
  refine c_iload_n (v := 3) dX9_init_5 rfl ?_
  refine c_newa (t := 0) (n := 3) (a0 := (3, (.inl fun _ => 0))) (tg 46 (by decide +kernel) rfl) rfl (by decide) (fun _ => rfl) rfl (by decide) rfl rfl dX9_init_6 (fun q1 => ?_)
  refine c_putF (q0 := 0) fl_X9_9 cf_X9 rfl rfl rfl rfl rfl rfl rfl dX9_init_8 ?_
  exact c_vret (fun _ h => by subst h; exact ⟨q1, rfl⟩) rfl rfl dX9_init_11
def BX9_2 (h0 : Nat) (tc : Nat → ClassId) (ws : va_W) : Prop := ∃ q1 : Nat, ws = [(h0, .inr (9, [.ref q1, vi 0])), (q1, .inl (tc 0, (2, (.inl fun _ => 0))))]
theorem cn_X9_2 : CN 1 1 2 yX9_init cX9_init 2 9 fzX9 [vi 2] BX9_2 := by
  refine CN_of (own := RX9) (L := fun h0 => [some (.ref h0), some (vi 2)]) rfl rfl rfl rfl (fun _ => rfl) rfl (fun h0 K => ?_)
  refine c_aload_n dX9_init_0 rfl ?_
  refine c_obj (tg 279 (by decide +kernel) rfl) rfl rfl dX9_init_1 ?_
  refine c_aload_n dX9_init_4 rfl ?_
  refine c_iload_n (v := 2) dX9_init_5 rfl ?_
  refine c_newa (t := 0) (n := 2) (a0 := (2, (.inl fun _ => 0))) (tg 46 (by decide +kernel) rfl) rfl (by decide) (fun _ => rfl) rfl (by decide) rfl rfl dX9_init_6 (fun q1 => ?_)
  refine c_putF (q0 := 0) fl_X9_9 cf_X9 rfl rfl rfl rfl rfl rfl rfl dX9_init_8 ?_
  exact c_vret (fun _ h => by subst h; exact ⟨q1, rfl⟩) rfl rfl dX9_init_11
def BX9_10 (h0 : Nat) (tc : Nat → ClassId) (ws : va_W) : Prop := ∃ q1 : Nat, ws = [(h0, .inr (9, [.ref q1, vi 0])), (q1, .inl (tc 0, (10, (.inl fun _ => 0))))]
theorem cn_X9_10 : CN 1 1 10 yX9_init cX9_init 2 9 fzX9 [vi 10] BX9_10 := by
  refine CN_of (own := RX9) (L := fun h0 => [some (.ref h0), some (vi 10)]) rfl rfl rfl rfl (fun _ => rfl) rfl (fun h0 K => ?_)
  refine c_aload_n dX9_init_0 rfl ?_
  refine c_obj (tg 279 (by decide +kernel) rfl) rfl rfl dX9_init_1 ?_
  refine c_aload_n dX9_init_4 rfl ?_
  refine c_iload_n (v := 10) dX9_init_5 rfl ?_
  refine c_newa (t := 0) (n := 10) (a0 := (10, (.inl fun _ => 0))) (tg 46 (by decide +kernel) rfl) rfl (by decide) (fun _ => rfl) rfl (by decide) rfl rfl dX9_init_6 (fun q1 => ?_)
  refine c_putF (q0 := 0) fl_X9_9 cf_X9 rfl rfl rfl rfl rfl rfl rfl dX9_init_8 ?_
  exact c_vret (fun _ h => by subst h; exact ⟨q1, rfl⟩) rfl rfl dX9_init_11
