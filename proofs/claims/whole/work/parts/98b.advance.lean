/-! PURE PART: the next token, both -/
/-- the token at hand, as both have it (L bytes in all) -/
def TK (L : Nat) (σ1 σ2 : St) : Prop := (gF σ1 198 = gF σ2 11 ∧ 0 ≤ gF σ2 11 ∧ gF σ2 11 ≤ 940) ∧ ((gF σ1 197 = 0 ∧ gF σ2 10 = 0 ∧ L ≤ 900) ∨ (gF σ1 197 = 0 ∧ gF σ2 10 = 4 ∧ 900 < L ∧ gF σ1 198 = 900) ∨ (∃ j : Nat, j ≤ L ∧ gF σ1 196 = (j : Nat) ∧ gF σ2 4 = (j : Nat) ∧ (TK3 σ1 σ2 ∨ (gF σ1 197 = 4 ∧ gF σ2 10 = 3 ∧ gF σ2 13 = 59) ∨ (gF σ1 197 = 5 ∧ gF σ2 10 = 3 ∧ gF σ2 13 = 45))))
/-- what stays while a text is read -/
def TBt (L : Nat) (b : Nat → Int) (σ1 σ2 : St) : Prop := BYT σ1 σ2 b ∧ gF σ1 195 = (L : Nat) ∧ gF σ2 3 = (L : Nat) ∧ gF σ2 5 = 900
theorem TBt_t {L : Nat} {b : Nat → Int} {σ1 σ2 σ1' σ2' : St} (h : TBt L b σ1 σ2) (h1 : TF1 σ1 σ1') (h2 : TF2 σ2 σ2') : TBt L b σ1' σ2' := ⟨BYT_t h.1 h1 h2, by rw [h1.1 _ (by omega) (by omega) (by omega) (by omega) (by omega)]; exact h.2.1, by rw [h2.1 _ (by omega) (by omega) (by omega) (by omega) (by omega) (by omega)]; exact h.2.2.1, by rw [h2.1 _ (by omega) (by omega) (by omega) (by omega) (by omega) (by omega)]; exact h.2.2.2⟩
def tl11 (F : Nat) (σ : St) (x1 : Int) : Option (Int × St) := gd (rng (gF σ 196) ∧ rng x1) (bv (imin (gF σ 196) x1) fun t2 => bs (sF σ 198 t2) fun σ3 => gd (rng (gF σ3 196) ∧ rng x1) (if (gF σ3 196) < x1 then bnd (f_Reader_readRun F σ3) fun r4 σ5 => gd (rng r4) (if r4 = 0 then gd (inb (gF σ5 196) 940) (bv (gA σ5 2 (Int.toNat (gF σ5 196))) fun t6 => gd (rng t6 ∧ rng 59) (if t6 = 59 then bs (sF σ5 197 4) fun σ11 => bs (sF σ11 196 ((gF σ11 196) + 1)) fun σ12 => some (0, σ12) else gd (rng t6 ∧ rng 45) (if t6 = 45 then bs (sF σ5 197 5) fun σ9 => bs (sF σ9 196 ((gF σ9 196) + 1)) fun σ10 => some (0, σ10) else bs (sF σ5 197 1) fun σ7 => bs (sF σ7 196 ((gF σ7 196) + 1)) fun σ8 => some (0, σ8)))) else some (0, σ5)) else bs (sF σ3 197 0) fun σ13 => some (0, σ13)))
section
variable {F : Nat} {b : Nat → Int} {L : Nat}
theorem imin_e {x y : Int} : imin x y = if x ≤ y then x else y := by unfold imin; split <;> split <;> omega
theorem W_a_end {σ : St} {i m : Nat} {lim : Int} (hl : 0 ≤ lim ∧ lim ≤ 900) (hi : i ≤ 940) (h6 : gF σ 196 = (i : Nat)) (hb : ∀ i, i < 940 → gA σ 2 i = b i ∧ 0 ≤ b i ∧ b i ≤ 255) (hc : lim ≤ (i : Int) ∨ (b i ≠ 32 ∧ b i ≠ 10)) : l_Reader_advance_11 F (m + 1) σ lim = tl11 F σ lim := by
  show b_Reader_advance_11 F _ σ _ = _
  unfold b_Reader_advance_11
  rw [gd_t (by omega)]
  by_cases c : lim ≤ (i : Int)
  · rw [h6, if_pos c]; unfold tl11; rw [h6]
  · have hbi := hb i (by omega)
    have hc' : b i ≠ 32 ∧ b i ≠ 10 := by
      rcases hc with h | h
      · exact absurd h c
      · exact h
    rw [h6, if_neg c, gd_t (by omega), bv_s, Int.toNat_natCast, hbi.1, gd_t (by omega), if_neg hc'.1, gd_t (by omega), bv_s, gd_t (by omega), if_neg hc'.2]
    unfold tl11
    rw [h6]
theorem W_a_go {σ : St} {i m : Nat} {lim : Int} (hl : 0 ≤ lim ∧ lim ≤ 900) (hi : (i : Int) < lim) (h6 : gF σ 196 = (i : Nat)) (hb : ∀ i, i < 940 → gA σ 2 i = b i ∧ 0 ≤ b i ∧ b i ≤ 255) (hc : b i = 32 ∨ b i = 10) : l_Reader_advance_11 F (m + 1) σ lim = l_Reader_advance_11 F m (sF σ 196 ((i : Int) + 1)) lim := by
  have hbi := hb i (by omega)
  show b_Reader_advance_11 F _ σ _ = _
  unfold b_Reader_advance_11
  rw [h6, gd_t (by omega), if_neg (by omega), gd_t (by omega), bv_s, Int.toNat_natCast, hbi.1, gd_t (by omega)]
  by_cases c : b i = 32
  · rw [if_pos c, bs_s]
  · rw [if_neg c, gd_t (by omega), bv_s, gd_t (by omega), if_pos (by omega), bs_s]
theorem M_a_go {σ : St} {i m : Nat} (hL : L ≤ 940) (hi : i < L) (h4 : gF σ 4 = (i : Nat)) (h3 : gF σ 3 = (L : Nat)) (hb : ∀ i, i < 940 → gA σ 1 i % 256 = b i ∧ 0 ≤ b i ∧ b i ≤ 255) (hc : b i = 32 ∨ b i = 10) : l_M_next_0 F (m + 1) σ = l_M_next_0 F m (sF σ 4 ((i : Int) + 1)) := by
  have hbi := hb i (by omega)
  have pk := M_peek (F := F) (b := b) (p := i) hL h4 h3 (by omega) (fun j hj => (hb j hj).1)
  rw [if_pos hi] at pk
  show b_M_next_0 F _ σ = _
  unfold b_M_next_0
  rw [pk, bnd_s, gd_t (by omega)]
  by_cases c : b i = 32
  · rw [if_pos c, bs_s, h4]
  · rw [if_neg c, pk, bnd_s, gd_t (by omega), if_pos (by omega), bs_s, h4]
/-- what the model does at a byte that isn't blank -/
theorem M_a_end {σ : St} {i m : Nat} (hL : L ≤ 940) (hi : i ≤ 940) (h4 : gF σ 4 = (i : Nat)) (h3 : gF σ 3 = (L : Nat)) (h5 : gF σ 5 = 900) (hb : ∀ i, i < 940 → gA σ 1 i % 256 = b i ∧ 0 ≤ b i ∧ b i ≤ 255) (hc : L ≤ i ∨ (b i ≠ 32 ∧ b i ≠ 10)) : l_M_next_0 F (m + 1) σ = if L ≤ 900 ∨ i < 900 then b_M_next_80 F (sF (sF σ 11 (i : Nat)) 12 0) else some (0, sF (sF (sF (sF σ 11 (i : Nat)) 12 0) 11 900) 10 4) := by
  have pk := M_peek (F := F) (b := b) (p := i) hL h4 h3 (by omega) (fun j hj => (hb j hj).1)
  have hr : rng (if i < L then b i else -1) ∧ (if i < L then b i else -1) ≠ 32 ∧ (if i < L then b i else -1) ≠ 10 := by
    by_cases c : i < L
    · have := hb i (by omega)
      rw [if_pos c]
      rcases hc with h | ⟨h1, h2⟩
      · omega
      · exact ⟨by omega, h1, h2⟩
    · rw [if_neg c]; omega
  show b_M_next_0 F _ σ = _
  unfold b_M_next_0
  rw [pk, bnd_s, gd_t ⟨hr.1, by decide⟩, if_neg hr.2.1, pk, bnd_s, gd_t ⟨hr.1, by decide⟩, if_neg hr.2.2, h4, bs_s, bs_s, show gF (sF (sF σ 11 (i : Nat)) 12 0) 3 = (L : Nat) from h3, show gF (sF (sF σ 11 (i : Nat)) 12 0) 5 = 900 from h5, gd_t (by omega)]
  by_cases c : L ≤ 900
  · rw [if_pos (by omega), if_pos (Or.inl c)]
  · rw [if_neg (by omega), show gF (sF (sF σ 11 (i : Nat)) 12 0) 4 = (i : Nat) from h4, gd_t (by omega)]
    by_cases c2 : i < 900
    · rw [if_pos (by omega), if_pos (Or.inr c2)]
    · rw [if_neg (by omega), if_neg (by omega), bs_s, bs_s]
/-- beyond the text's greatest length -/
theorem M_far (hL : L ≤ 940) (hL9 : 900 < L) : ∀ (d m : Nat) (σ : St) (i : Nat), d < m → i + d = L → 900 ≤ i → gF σ 4 = (i : Nat) → gF σ 3 = (L : Nat) → gF σ 5 = 900 → (∀ i, i < 940 → gA σ 1 i % 256 = b i ∧ 0 ≤ b i ∧ b i ≤ 255) → ∃ σ', l_M_next_0 F m σ = some (0, σ') ∧ gF σ' 11 = 900 ∧ gF σ' 10 = 4 ∧ TF2 σ σ'
  | _, 0, _, _, h, _, _, _, _, _, _ => absurd h (Nat.not_lt_zero _)
  | d, m + 1, σ, i, hm, hi, h9, h4, h3, h5, hb => by
    by_cases c : i < L ∧ (b i = 32 ∨ b i = 10)
    · obtain ⟨d, rfl⟩ : ∃ e, d = e + 1 := ⟨d - 1, by omega⟩
      obtain ⟨σ', k1, k2, k3, k4⟩ := M_far hL hL9 d m (sF σ 4 ((i : Int) + 1)) (i + 1) (by omega) (by omega) (by omega) (by rw [gF_eq]; omega) h3 h5 hb
      refine ⟨σ', (M_a_go hL c.1 h4 h3 hb c.2).trans k1, k2, k3, ⟨fun q h1 h2 h3 h4 h5 h6 => by rw [k4.1 q h1 h2 h3 h4 h5 h6, gF_sF, if_neg h1], fun a k => by rw [k4.2]; rfl⟩⟩
    · have e := M_a_end (F := F) (b := b) (m := m) hL (by omega) h4 h3 h5 hb (by omega)
      rw [if_neg (by omega)] at e
      exact ⟨_, e, by rw [gF_sF, if_neg (by omega), gF_eq], by rw [gF_eq], fun q h1 h2 h3 h4 h5 h6 => by rw [gF_sF, if_neg h2, gF_sF, if_neg h3, gF_sF, if_neg h4, gF_sF, if_neg h3], fun _ _ => rfl⟩
/-- both at a byte that isn't blank, ahead of the end -/
theorem ADV_tok (hF : 2000 ≤ F) (hL : L ≤ 940) (hb0 : ∀ i, i < 940 → 0 ≤ b i ∧ b i ≤ 255) {σ1 σ2 : St} {i : Nat} {lim : Int} (hl : 0 ≤ lim ∧ lim ≤ 900) (hi : i < L) (hil : (i : Int) < lim) (hT : TBt L b σ1 σ2) (h6 : gF σ1 196 = (i : Nat)) (h4 : gF σ2 4 = (i : Nat)) : ∃ σ1' σ2', tl11 F σ1 lim = some (0, σ1') ∧ b_M_next_80 F (sF (sF σ2 11 (i : Nat)) 12 0) = some (0, σ2') ∧ TK L σ1' σ2' ∧ TF1 σ1 σ1' ∧ TF2 σ2 σ2' := by
  obtain ⟨hB, h5, h3, -⟩ := hT
  have hbi := hb0 i (by omega)
  have hbW : ∀ i, i < 940 → gA σ1 2 i = b i ∧ 0 ≤ b i ∧ b i ≤ 255 := fun i hi => ⟨(hB i hi).1, hb0 i hi⟩
  have pk := M_peek (F := F) (b := b) (σ := sF (sF σ2 11 (i : Nat)) 12 0) (p := i) hL h4 h3 (by omega) (fun j hj => (hB j hj).2)
  rw [if_pos hi] at pk
  obtain ⟨F', hF'⟩ : ∃ F', F = F' + 1 := ⟨F - 1, by omega⟩
  have e1 : ∀ o : Option (Int × St), tl11 F σ1 lim = bnd (f_Reader_readRun F (sF σ1 198 (i : Nat))) fun r4 σ5 => gd (rng r4) (if r4 = 0 then gd (inb (gF σ5 196) 940) (bv (gA σ5 2 (Int.toNat (gF σ5 196))) fun t6 => gd (rng t6 ∧ rng 59) (if t6 = 59 then bs (sF σ5 197 4) fun σ11 => bs (sF σ11 196 ((gF σ11 196) + 1)) fun σ12 => some (0, σ12) else gd (rng t6 ∧ rng 45) (if t6 = 45 then bs (sF σ5 197 5) fun σ9 => bs (sF σ9 196 ((gF σ9 196) + 1)) fun σ10 => some (0, σ10) else bs (sF σ5 197 1) fun σ7 => bs (sF σ7 196 ((gF σ7 196) + 1)) fun σ8 => some (0, σ8)))) else some (0, σ5)) := fun o => by
    unfold tl11
    rw [h6, gd_t (by omega), bv_s, imin_e, if_pos (by omega), bs_s, show gF (sF σ1 198 (i : Nat)) 196 = (i : Nat) from h6, gd_t (by omega), if_pos hil]
  by_cases hc : (97 ≤ b i ∧ b i ≤ 122) ∨ (48 ≤ b i ∧ b i ≤ 57)
  · have e2 : b_M_next_80 F (sF (sF σ2 11 (i : Nat)) 12 0) = l_M_next_163 F F (sF (sF (sF (sF σ2 11 (i : Nat)) 12 0) 16 0) 13 0) (bi (decide (97 ≤ b i ∧ b i ≤ 122))) (bi true) := by
      have h146 : b_M_next_146 F (sF (sF σ2 11 (i : Nat)) 12 0) (b i) = l_M_next_163 F F (sF (sF (sF (sF σ2 11 (i : Nat)) 12 0) 16 0) 13 0) (bi (decide (97 ≤ b i ∧ b i ≤ 122))) (bi true) := by
        unfold b_M_next_146
        rw [M_small (by omega), bnd_s, bs_s, bs_s]
        by_cases c : 97 ≤ b i ∧ b i ≤ 122
        · rw [if_pos c, show decide (97 ≤ b i ∧ b i ≤ 122) = true by simp [c]]; rfl
        · rw [if_neg c, show decide (97 ≤ b i ∧ b i ≤ 122) = false by simp only [decide_eq_false_iff_not]; exact c]; rfl
      unfold b_M_next_80
      rw [pk, bnd_s, gd_t (by omega), if_pos hbi.1, M_small (by omega), bnd_s]
      by_cases c : 97 ≤ b i ∧ b i ≤ 122
      · rw [if_pos c, gd_t (by decide), if_neg (by decide)]; exact h146
      · rw [if_neg c, gd_t (by decide), if_pos rfl, M_digit (by omega), bnd_s, if_pos (by omega), gd_t (by decide), if_neg (by decide)]; exact h146
    obtain ⟨σ1', σ2', j, k1, k2, k3, k4, k5, k6, k7, k8, k9, k10, k11⟩ := RUN (F := F) hL hb0 (L - i) F F (sF (sF (sF σ1 198 (i : Nat)) 199 0) 200 0) (sF (sF (sF (sF σ2 11 (i : Nat)) 12 0) 16 0) 13 0) i 0 0 (decide (97 ≤ b i ∧ b i ≤ 122)) true (by omega) (by omega) (by omega) hB h6 h5 h4 h3 rfl (by omega) (fun _ => ⟨hi, by simp, hc⟩) (fun h => absurd h (Nat.lt_irrefl 0)) ⟨fun _ => by split <;> rfl, fun _ => rfl⟩ (fun _ _ => ⟨rfl, by show rng64 0; decide⟩) (fun _ _ => ⟨rfl, by show (0 : Int) ≤ 0; decide, by show (0 : Int) < ((10 ^ 0 : Nat) : Int); decide⟩)
    have kr : f_Reader_readRun F (sF σ1 198 (i : Nat)) = some (1, σ1') := by
      unfold f_Reader_readRun
      rw [bs_s, bs_s]; exact k1
    refine ⟨σ1', σ2', ?_, e2.trans k2, ⟨?_, Or.inr (Or.inr ⟨j, k7, k4, k5, Or.inl k3⟩)⟩, ⟨fun q h1 h2 h3 h4 h5 => by rw [k8 q h1 h2 h4 h5, gF_sF, if_neg h5, gF_sF, if_neg h4, gF_sF, if_neg h3], fun a k => by rw [k9]; rfl⟩, ⟨fun q h1 h2 h3 h4 h5 h6 => by rw [k10 q h1 h2 h4 h5 h6, gF_sF, if_neg h5, gF_sF, if_neg h6, gF_sF, if_neg h4, gF_sF, if_neg h3], fun a k => by rw [k11]; rfl⟩⟩
    · rw [e1 none, kr, bnd_s, gd_t (by decide), if_neg (by decide)]
    · rw [k8 198 (by omega) (by omega) (by omega) (by omega), k10 11 (by omega) (by omega) (by omega) (by omega) (by omega)]
      exact ⟨rfl, by show (0 : Int) ≤ (i : Nat); omega, by show ((i : Nat) : Int) ≤ 940; omega⟩
  · have hns : ¬ (97 ≤ b i ∧ b i ≤ 122) := fun z => hc (Or.inl z)
    have hnd : ¬ (48 ≤ b i ∧ b i ≤ 57) := fun z => hc (Or.inr z)
    have hr := W_r_end (F := F) (b := b) (L := L) (σ := sF (sF (sF σ1 198 (i : Nat)) 199 0) 200 0) (i := i) (la := 0) (di := 0) (m := F') hL (by omega) h6 h5 hbW (Or.inr ⟨hi, hns, hnd⟩)
    obtain ⟨k, g1, g2⟩ := W_run_end (F := F) (σ := sF (sF (sF σ1 198 (i : Nat)) 199 0) 200 0) (la := 0) (di := 0) (by omega)
    rw [if_pos rfl] at g1
    have kr : f_Reader_readRun F (sF σ1 198 (i : Nat)) = some (0, sF (sF (sF (sF σ1 198 (i : Nat)) 199 0) 200 0) 197 k) := by
      unfold f_Reader_readRun
      rw [bs_s, bs_s]
      refine Eq.trans ?_ (hr.trans g1)
      rw [hF']; rfl
    have h6' : gF (sF (sF (sF (sF σ1 198 (i : Nat)) 199 0) 200 0) 197 k) 196 = (i : Nat) := h6
    have a2' : gA (sF (sF (sF (sF σ1 198 (i : Nat)) 199 0) 200 0) 197 k) 2 i = b i := (hB i (by omega)).1
    rw [e1 none, kr, bnd_s, gd_t (by decide), if_pos rfl, h6', gd_t (by omega), bv_s, Int.toNat_natCast, a2', gd_t (by omega)]
    have e2 : ∀ T : Int, T = 3 ∨ T = 4 → True := fun _ _ => trivial
    have m80 : b_M_next_80 F (sF (sF σ2 11 (i : Nat)) 12 0) = some (0, sF (sF (sF (sF (sF σ2 11 (i : Nat)) 12 0) 10 (if b i = 59 ∨ b i = 45 then 3 else 4)) 13 (b i)) 4 ((i : Int) + 1)) := by
      unfold b_M_next_80
      rw [pk, bnd_s, gd_t (by omega), if_pos hbi.1, M_small (by omega), bnd_s, if_neg hns, gd_t (by decide), if_pos rfl, M_digit (by omega), bnd_s, if_neg hnd, gd_t (by decide), if_pos rfl, gd_t (by omega)]
      have h4' : ∀ t v : Int, gF (sF (sF (sF (sF σ2 11 (i : Nat)) 12 0) 10 t) 13 v) 4 = (i : Nat) := fun t v => h4
      by_cases c : b i = 59
      · rw [if_pos c, bs_s, bs_s, bs_s, h4', if_pos (Or.inl c)]
      · rw [if_neg c, gd_t (by omega)]
        by_cases c2 : b i = 45
        · rw [if_pos c2, bs_s, bs_s, bs_s, h4', if_pos (Or.inr c2)]
        · rw [if_neg c2, bs_s, bs_s, bs_s, h4', if_neg (by omega)]
    have fin : ∀ K : Int, (K = 4 ∧ b i = 59) ∨ (K = 5 ∧ b i = 45) ∨ (K = 1 ∧ b i ≠ 59 ∧ b i ≠ 45) → ∃ σ1' σ2', (some (0, sF (sF (sF (sF (sF (sF σ1 198 (i : Nat)) 199 0) 200 0) 197 k) 197 K) 196 ((i : Int) + 1)) : Option (Int × St)) = some (0, σ1') ∧ b_M_next_80 F (sF (sF σ2 11 (i : Nat)) 12 0) = some (0, σ2') ∧ TK L σ1' σ2' ∧ TF1 σ1 σ1' ∧ TF2 σ2 σ2' := fun K hK => by
      refine ⟨_, _, rfl, m80, ⟨⟨rfl, by show (0 : Int) ≤ (i : Nat); omega, by show ((i : Nat) : Int) ≤ 940; omega⟩, Or.inr (Or.inr ⟨i + 1, by omega, by rw [gF_eq]; omega, by rw [gF_eq]; omega, ?_⟩)⟩, ⟨fun q h1 h2 h3 h4 h5 => by rw [gF_sF, if_neg h1, gF_sF, if_neg h2, gF_sF, if_neg h2, gF_sF, if_neg h5, gF_sF, if_neg h4, gF_sF, if_neg h3], fun _ _ => rfl⟩, ⟨fun q h1 h2 h3 h4 h5 h6 => by rw [gF_sF, if_neg h1, gF_sF, if_neg h5, gF_sF, if_neg h2, gF_sF, if_neg h4, gF_sF, if_neg h3], fun _ _ => rfl⟩⟩
      have q1 : gF (sF (sF (sF (sF (sF (sF σ1 198 (i : Nat)) 199 0) 200 0) 197 k) 197 K) 196 ((i : Int) + 1)) 197 = K := by rw [gF_sF, if_neg (by omega), gF_eq]
      have q2 : gF (sF (sF (sF (sF (sF σ2 11 (i : Nat)) 12 0) 10 (if b i = 59 ∨ b i = 45 then 3 else 4)) 13 (b i)) 4 ((i : Int) + 1)) 10 = (if b i = 59 ∨ b i = 45 then 3 else 4) := by rw [gF_sF, if_neg (by omega), gF_sF, if_neg (by omega), gF_eq]
      have q3 : gF (sF (sF (sF (sF (sF σ2 11 (i : Nat)) 12 0) 10 (if b i = 59 ∨ b i = 45 then 3 else 4)) 13 (b i)) 4 ((i : Int) + 1)) 13 = b i := by rw [gF_sF, if_neg (by omega), gF_eq]
      rcases hK with ⟨h1, h2⟩ | ⟨h1, h2⟩ | ⟨h1, h2, h3⟩
      · exact Or.inr (Or.inl ⟨by rw [q1, h1], by rw [q2, if_pos (Or.inl h2)], by rw [q3, h2]⟩)
      · exact Or.inr (Or.inr ⟨by rw [q1, h1], by rw [q2, if_pos (Or.inr h2)], by rw [q3, h2]⟩)
      · exact Or.inl (Or.inl ⟨by rw [q1, h1], by rw [q2, if_neg (by omega)]⟩)
    have h6'' : ∀ K : Int, gF (sF (sF (sF (sF (sF σ1 198 (i : Nat)) 199 0) 200 0) 197 k) 197 K) 196 = (i : Nat) := fun K => h6
    by_cases c : b i = 59
    · rw [if_pos c, bs_s, bs_s, h6'']; exact fin 4 (Or.inl ⟨rfl, c⟩)
    · rw [if_neg c, gd_t (by omega)]
      by_cases c2 : b i = 45
      · rw [if_pos c2, bs_s, bs_s, h6'']; exact fin 5 (Or.inr (Or.inl ⟨rfl, c2⟩))
      · rw [if_neg c2, bs_s, bs_s, h6'']; exact fin 1 (Or.inr (Or.inr ⟨rfl, c, c2⟩))
theorem ADV0 (hF : 2000 ≤ F) (hL : L ≤ 940) (hb0 : ∀ i, i < 940 → 0 ≤ b i ∧ b i ≤ 255) {lim : Int} (hl : lim = if L ≤ 900 then (L : Int) else 900) : ∀ (d m m2 : Nat) (σ1 σ2 : St) (i : Nat), d < m → d < m2 → i + d = L → TBt L b σ1 σ2 → gF σ1 196 = (i : Nat) → gF σ2 4 = (i : Nat) → ∃ σ1' σ2', l_Reader_advance_11 F m σ1 lim = some (0, σ1') ∧ l_M_next_0 F m2 σ2 = some (0, σ2') ∧ TK L σ1' σ2' ∧ TF1 σ1 σ1' ∧ TF2 σ2 σ2'
  | _, 0, _, _, _, _, h, _, _, _, _, _ => absurd h (Nat.not_lt_zero _)
  | _, _ + 1, 0, _, _, _, _, h, _, _, _, _ => absurd h (Nat.not_lt_zero _)
  | d, m + 1, m2 + 1, σ1, σ2, i, hm, hm2, hd, hT, h6, h4 => by
    have hbW : ∀ i, i < 940 → gA σ1 2 i = b i ∧ 0 ≤ b i ∧ b i ≤ 255 := fun i hi => ⟨(hT.1 i hi).1, hb0 i hi⟩
    have hbM : ∀ i, i < 940 → gA σ2 1 i % 256 = b i ∧ 0 ≤ b i ∧ b i ≤ 255 := fun i hi => ⟨(hT.1 i hi).2, hb0 i hi⟩
    have hlb : (L ≤ 900 ∧ lim = L) ∨ (900 < L ∧ lim = 900) := by
      by_cases c : L ≤ 900
      · rw [if_pos c] at hl; exact Or.inl ⟨c, hl⟩
      · rw [if_neg c] at hl; exact Or.inr ⟨by omega, hl⟩
    by_cases hlt : (i : Int) < lim
    · by_cases hc : b i = 32 ∨ b i = 10
      · obtain ⟨d, rfl⟩ : ∃ e, d = e + 1 := ⟨d - 1, by omega⟩
        have g1 := W_a_go (F := F) (b := b) (m := m) (lim := lim) (by omega) hlt h6 hbW hc
        have g2 := M_a_go (F := F) (b := b) (m := m2) hL (by omega) h4 hT.2.2.1 hbM hc
        have t1 : TF1 σ1 (sF σ1 196 ((i : Int) + 1)) := ⟨fun q h1 _ _ _ _ => by rw [gF_sF, if_neg h1], fun _ _ => rfl⟩
        have t2 : TF2 σ2 (sF σ2 4 ((i : Int) + 1)) := ⟨fun q h1 _ _ _ _ _ => by rw [gF_sF, if_neg h1], fun _ _ => rfl⟩
        obtain ⟨σ1', σ2', k1, k2, k3, k4, k5⟩ := ADV0 hF hL hb0 hl d m m2 (sF σ1 196 ((i : Int) + 1)) (sF σ2 4 ((i : Int) + 1)) (i + 1) (by omega) (by omega) (by omega) (TBt_t hT t1 t2) (by rw [gF_eq]; omega) (by rw [gF_eq]; omega)
        exact ⟨σ1', σ2', g1.trans k1, g2.trans k2, k3, t1.tr k4, t2.tr k5⟩
      · have g1 := W_a_end (F := F) (b := b) (m := m) (lim := lim) (by omega) (by omega) h6 hbW (Or.inr ⟨fun z => hc (Or.inl z), fun z => hc (Or.inr z)⟩)
        have g2 := M_a_end (F := F) (b := b) (m := m2) hL (by omega) h4 hT.2.2.1 hT.2.2.2 hbM (Or.inr ⟨fun z => hc (Or.inl z), fun z => hc (Or.inr z)⟩)
        rw [if_pos (by omega)] at g2
        obtain ⟨σ1', σ2', k1, k2, k3⟩ := ADV_tok (F := F) hF hL hb0 (lim := lim) (by omega) (by omega) hlt hT h6 h4
        exact ⟨σ1', σ2', g1.trans k1, g2.trans k2, k3⟩
    · have g1 := W_a_end (F := F) (b := b) (m := m) (lim := lim) (by omega) (by omega) h6 hbW (Or.inl (by omega))
      have e1 : tl11 F σ1 lim = some (0, sF (sF σ1 198 lim) 197 0) := by
        unfold tl11
        rw [h6, gd_t (by omega), bv_s, imin_e]
        have em : (if (i : Int) ≤ lim then (i : Int) else lim) = lim := by split <;> omega
        rw [em, bs_s, show gF (sF σ1 198 lim) 196 = (i : Nat) from h6, gd_t (by omega), if_neg hlt, bs_s]
      have t1 : TF1 σ1 (sF (sF σ1 198 lim) 197 0) := ⟨fun q h1 h2 h3 _ _ => by rw [gF_sF, if_neg h2, gF_sF, if_neg h3], fun _ _ => rfl⟩
      rcases hlb with ⟨c1, c2⟩ | ⟨c1, c2⟩
      · have hi : i = L := by omega
        have g2 := M_a_end (F := F) (b := b) (m := m2) hL (by omega) h4 hT.2.2.1 hT.2.2.2 hbM (Or.inl (by omega))
        rw [if_pos (Or.inl c1)] at g2
        have pk := M_peek (F := F) (b := b) (σ := sF (sF σ2 11 (i : Nat)) 12 0) (p := i) hL h4 hT.2.2.1 (by omega) (fun j hj => (hT.1 j hj).2)
        rw [if_neg (by omega)] at pk
        have e2 : b_M_next_80 F (sF (sF σ2 11 (i : Nat)) 12 0) = some (0, sF (sF (sF σ2 11 (i : Nat)) 12 0) 10 0) := by
          unfold b_M_next_80
          rw [pk, bnd_s, gd_t (by decide), if_neg (by decide), bs_s]
        refine ⟨_, _, g1.trans e1, g2.trans e2, ⟨⟨?_, by show (0 : Int) ≤ (i : Nat); omega, by show ((i : Nat) : Int) ≤ 940; omega⟩, Or.inl ⟨gF_eq, gF_eq, c1⟩⟩, t1, ⟨fun q h1 h2 h3 h4 h5 h6 => by rw [gF_sF, if_neg h2, gF_sF, if_neg h4, gF_sF, if_neg h3], fun _ _ => rfl⟩⟩
        show lim = ((i : Nat) : Int)
        omega
      · obtain ⟨σ2', k1, k2, k3, k4⟩ := M_far (F := F) (b := b) hL c1 d (m2 + 1) σ2 i hm2 hd (by omega) h4 hT.2.2.1 hT.2.2.2 hbM
        have q8 : gF (sF (sF σ1 198 lim) 197 0) 198 = 900 := by rw [gF_sF, if_neg (by omega), gF_eq, c2]
        exact ⟨_, σ2', g1.trans e1, k1, ⟨⟨by rw [q8, k2], by rw [k2]; omega, by rw [k2]; omega⟩, Or.inr (Or.inl ⟨gF_eq, k3, c1, q8⟩)⟩, t1, k4⟩
/-- the next token -/
theorem ADV (hF : 2000 ≤ F) (hL : L ≤ 940) (hb0 : ∀ i, i < 940 → 0 ≤ b i ∧ b i ≤ 255) {σ1 σ2 : St} {i : Nat} (hi : i ≤ L) (hT : TBt L b σ1 σ2) (h6 : gF σ1 196 = (i : Nat)) (h4 : gF σ2 4 = (i : Nat)) : ∃ σ1' σ2', f_Reader_advance F σ1 = some (0, σ1') ∧ f_M_next F σ2 = some (0, σ2') ∧ TK L σ1' σ2' ∧ TF1 σ1 σ1' ∧ TF2 σ2 σ2' := by
  obtain ⟨σ1', σ2', k1, k2, k3⟩ := ADV0 (F := F) hF hL hb0 (lim := if L ≤ 900 then (L : Int) else 900) rfl (L - i) F F σ1 σ2 i (by omega) (by omega) (by omega) hT h6 h4
  refine ⟨σ1', σ2', ?_, k2, k3⟩
  unfold f_Reader_advance
  rw [hT.2.1, gd_t (by omega), bv_s, imin_e]
  by_cases c : L ≤ 900
  · rw [if_pos (by omega)]; rw [if_pos c] at k1; exact k1
  · rw [if_neg (by omega)]; rw [if_neg c] at k1; exact k1
end
