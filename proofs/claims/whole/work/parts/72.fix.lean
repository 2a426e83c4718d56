/-! PURE PART: fix, put together -/
def triN : Nat → Nat
  | 0 => 0
  | k + 1 => triN k + k
theorem triN_b {n : Nat} (h : n ≤ 8) : triN n ≤ 28 := by
  have : ∀ k, k ≤ 8 → triN k ≤ 28 := by decide
  exact this n h
section
variable {F : Nat} {s : Nat → Int}
theorem pts_all (hF : 40 ≤ F) (hI : MI s) : ∀ (k m m' a : Nat) (σ1 σ2 : St), k < m → k < m' → (a : Int) + k = s 4 → LI s σ1 σ2 a (a + 1) (triN k) → WV σ1 s → (∀ i, gA σ2 2 i = s i) → ∃ σ1' σ2' n, l_Fixer_listPoints_compass0_7 F m σ1 (a : Nat) = some (0, σ1') ∧ l_M_findPoints_7 F m' σ2 (a : Nat) = some (0, σ2') ∧ s 4 = (n : Nat) ∧ LI s σ1' σ2' n (n + 1) 0 ∧ WFr σ1 σ1' ∧ MFr σ2 σ2'
  | _, 0, _, _, _, _, h, _, _, _, _, _ => by omega
  | _, _, 0, _, _, _, _, h, _, _, _, _ => by omega
  | 0, m + 1, m' + 1, a, σ1, σ2, _, _, ha, hL, hW, hV => by
    have i4 := hI.2.2.2.2.1
    have w4 := hW.2.2.2.2.1
    have v4 : gA σ2 2 (Int.toNat 4) = s 4 := hV 4
    refine ⟨σ1, σ2, a, ?_, ?_, by omega, hL, WFr.rf, MFr.rf⟩
    · show b_Fixer_listPoints_compass0_7 F _ σ1 _ = _
      unfold b_Fixer_listPoints_compass0_7
      rw [gd_t (by omega), if_pos (by omega)]
    · show b_M_findPoints_7 F _ σ2 _ = _
      unfold b_M_findPoints_7
      rw [gd_t (by decide), gd_t (by omega), if_pos (by omega)]
  | k + 1, m + 1, m' + 1, a, σ1, σ2, hm, hm', ha, hL, hW, hV => by
    have i4 := hI.2.2.2.2.1
    have w4 := hW.2.2.2.2.1
    have v4 : gA σ2 2 (Int.toNat 4) = s 4 := hV 4
    obtain ⟨t1, t2, k1, k2, k3, k4, k5⟩ := pt_row (F := F) hF hI (l_Fixer_listPoints_compass0_7 F m) (l_M_findPoints_7 F m') (a := a) (R := triN k) k F F (a + 1) σ1 σ2 (by omega) (by omega) (by omega) (by omega) hL hW hV
    obtain ⟨u1, u2, n, j1, j2, j3, j4, j5, j6⟩ := pts_all hF hI k m m' (a + 1) t1 t2 (by omega) (by omega) (by omega) k3 (WV_fr hW k4) (fun i => by rw [k5.2 2 rfl]; exact hV i)
    refine ⟨u1, u2, n, ?_, ?_, j3, j4, k4.tr j5, k5.tr j6⟩
    · rw [← j1, ← k1]
      show b_Fixer_listPoints_compass0_7 F _ σ1 _ = _
      unfold b_Fixer_listPoints_compass0_7
      rw [gd_t (by omega), if_neg (by omega), bv_s]; rfl
    · rw [← j2, ← k2]
      show b_M_findPoints_7 F _ σ2 _ = _
      unfold b_M_findPoints_7
      rw [gd_t (by decide), gd_t (by omega), if_neg (by omega), bv_s]; rfl
theorem W_or {σ : St} {t : Nat → Nat} {L : Nat} (hL : L ≤ 28) (h : gF σ 5633 = (L : Nat)) (ht : ∀ q, t q < 256) (hA : ∀ q, q < L → gA σ 92 q = (t q : Nat)) : ∀ (r m i S : Nat), r < m → i + r = L → S < 256 → l_Fixer_touchedTogether_4 F m σ (S : Nat) (i : Nat) = some (((orA t r i S : Nat) : Int), σ)
  | _, 0, _, _, h, _, _ => by omega
  | 0, m + 1, i, S, _, hi, _ => by
    show b_Fixer_touchedTogether_4 F _ σ _ _ = _
    unfold b_Fixer_touchedTogether_4
    rw [gd_t (by omega), if_pos (by omega)]; rfl
  | r + 1, m + 1, i, S, hm, hi, hS => by
    have hor : iorI (S : Int) (t i : Nat) = ((S ||| t i : Nat) : Int) := iorN S (t i) (by omega) (by have := ht i; omega)
    show b_Fixer_touchedTogether_4 F _ σ _ _ = _
    unfold b_Fixer_touchedTogether_4
    rw [gd_t (by omega), if_neg (by omega), gd_t (by omega), Int.toNat_natCast, hA i (by omega), hor, bv_s, bv_s]
    exact W_or hL h ht hA r m (i + 1) (S ||| t i) (by omega) (by omega) (Nat.or_lt_two_pow (n := 8) hS (ht i))
theorem M_or {σ : St} {t : Nat → Nat} {L fl : Nat} (hL : L ≤ 28) (h : gF σ 55 = (L : Nat)) (hf : fl < 256) (ht : ∀ q, t q < 256) (hA : ∀ q, q < L → gA σ 19 q = (t q : Nat)) : ∀ (r m i S : Nat), r < m → i + r = L → S < 256 → l_M_fix_24 F m σ (fl : Nat) (S : Nat) (i : Nat) = if orA t r i S = fl then l_M_fix_56 F F σ (fl : Nat) 0 else some (-1, σ)
  | _, 0, _, _, h, _, _ => by omega
  | 0, m + 1, i, S, _, hi, _ => by
    show b_M_fix_24 F _ σ _ _ _ = _
    unfold b_M_fix_24
    rw [gd_t (by omega), if_pos (by omega), gd_t (by omega), show orA t 0 i S = S from rfl]
    by_cases q : S = fl
    · rw [if_pos (by omega), if_pos q]
    · rw [if_neg (by omega), if_neg q]
  | r + 1, m + 1, i, S, hm, hi, hS => by
    have hor : iorI (S : Int) (t i : Nat) = ((S ||| t i : Nat) : Int) := iorN S (t i) (by omega) (by have := ht i; omega)
    show b_M_fix_24 F _ σ _ _ _ = _
    unfold b_M_fix_24
    rw [gd_t (by omega), if_neg (by omega), gd_t (by omega), Int.toNat_natCast, hA i (by omega), hor, bv_s, bv_s]
    exact M_or hL h hf ht hA r m (i + 1) (S ||| t i) (by omega) (by omega) (Nat.or_lt_two_pow (n := 8) hS (ht i))
theorem W_find (hF : 40 ≤ F) {t : Nat → Nat} {fl L D : Nat} (hL : L ≤ 28) (ht : ∀ q, t q < 256) (hf : fl < 256) (hD : DV t fl L 0 0 = D) (hD8 : D ≤ 8) : ∀ (r m k : Nat) (σ : St), r < m → k + r = D → gF σ 5633 = (L : Nat) → gF σ 5637 = (fl : Nat) → (∀ q, q < L → gA σ 92 q = (t q : Nat)) → ∃ σ', l_Fixer_find_compass0_32 F m σ (k : Nat) = some ((D : Int), σ') ∧ gF σ' 5697 = (D : Int) ∧ (∀ q, q ≠ 5697 → gF σ' q = gF σ q) ∧ (∀ a, a ≠ 90 → a ≠ 93 → ∀ i, gA σ' a i = gA σ a i) ∧ (GV t fl L 0 0).length = D ∧ ∀ q, q < D → gA σ' 90 q = gA σ 91 ((GV t fl L 0 0).getD q 0)
  | _, 0, _, _, h, _, _, _, _ => by omega
  | r, m + 1, k, σ, hm, hk, h1, h2, h3 => by
    have hta : ∃ v σ', f_Fixer_touchesAll F 12 σ 0 0 (k : Nat) 0 = some (v, σ') ∧ RS σ σ' 0 (TW t fl L k 0 0) v := by
      cases k with
      | zero =>
        refine ⟨if 0 = fl then 1 else 0, σ, ?_, fun h => ?_, fun l h => ?_, fun _ => rfl, fun _ _ _ => rfl, fun _ _ => rfl⟩
        · show b_Fixer_touchesAll F _ _ _ _ _ _ = _
          unfold b_Fixer_touchesAll
          rw [gd_t (by omega), if_pos (by omega), h2, gd_t (by omega)]
          by_cases q : 0 = fl
          · rw [if_pos (by omega), if_pos q]
          · rw [if_neg (by omega), if_neg q]
        · rw [TW_0] at h
          by_cases q : 0 = fl
          · rw [if_pos q] at h; cases h
          · rw [if_neg q]
        · rw [TW_0] at h
          by_cases q : 0 = fl
          · rw [if_pos q] at h ⊢
            cases h
            exact ⟨rfl, fun q hq => absurd hq (by simp)⟩
          · rw [if_neg q] at h; cases h
      | succ j =>
        obtain ⟨v, σ', k1, k2⟩ := W_ta (F := F) hF hL ht hf L j F 11 σ 0 0 0 h1 h2 h3 (by omega) (by omega) (by omega) (by omega) (by omega)
        refine ⟨v, σ', ?_, k2⟩
        show b_Fixer_touchesAll F (f_Fixer_touchesAll F 11) _ _ _ _ _ = _
        unfold b_Fixer_touchesAll
        rw [gd_t (by omega), if_neg (by omega), gd_t (by omega), if_pos (by omega)]
        rw [show 0 + (j + 1) = j + 1 by omega] at k1
        exact k1
    obtain ⟨v, s1, g1, q1, q2, q3, q4, q5⟩ := hta
    have hTG := TW_GV (t := t) (fl := fl) L k 0 0 (by omega) (by omega)
    rw [hD] at hTG
    by_cases c : D = k
    · rw [if_pos c] at hTG
      obtain ⟨rfl, w⟩ := q2 _ hTG
      have hlen := TW_len L k 0 0 _ hTG
      refine ⟨cpA (sF s1 5697 (k : Nat)) 93 0 90 0 k, ?_, ?_, fun q hq => ?_, fun a h90 h93 i => ?_, by omega, fun q hq => ?_⟩
      · show b_Fixer_find_compass0_32 F _ σ _ = _
        unfold b_Fixer_find_compass0_32
        rw [gd_t (by omega), if_neg (by omega), g1, bnd_s, gd_t (by decide), if_neg (by decide), bs_s, gd_t (by omega), bs_s, c]; rfl
      · show gF (sF s1 5697 (k : Nat)) 5697 = _
        rw [gF_eq, c]
      · show gF (sF s1 5697 (k : Nat)) q = _
        rw [gF_sF, if_neg hq, q3]
      · show (if a = 90 ∧ _ then _ else gA s1 a i) = _
        rw [if_neg (fun z => h90 z.1), q4 a h93]
      · show (if (90 : Nat) = 90 ∧ 0 ≤ q ∧ q < 0 + k then gA s1 93 (0 + (q - 0)) else gA s1 90 q) = _
        rw [if_pos ⟨rfl, by omega, by omega⟩]
        have := w q (by omega)
        rw [show 0 + (q - 0) = 0 + q by omega, this]
    · rw [if_neg c] at hTG
      have hv := q1 hTG
      subst hv
      obtain ⟨r', rfl⟩ : ∃ r', r = r' + 1 := ⟨r - 1, by omega⟩
      obtain ⟨σ', k1, k2, k3, k4, k5, k6⟩ := W_find hF hL ht hf hD hD8 r' m (k + 1) s1 (by omega) (by omega) (by rw [q3]; exact h1) (by rw [q3]; exact h2) (fun q hq => by rw [q4 92 (by omega)]; exact h3 q hq)
      refine ⟨σ', ?_, k2, fun q hq => (k3 q hq).trans (q3 q), fun a h90 h93 i => (k4 a h90 h93 i).trans (q4 a h93 i), k5, fun q hq => by rw [k6 q hq, q4 91 (by omega)]⟩
      show b_Fixer_find_compass0_32 F _ σ _ = _
      unfold b_Fixer_find_compass0_32
      rw [gd_t (by omega), if_neg (by omega), g1, bnd_s, gd_t (by decide), if_pos rfl, bv_s]
      exact k1
theorem btS_lt2 (P : Nat → Bool) (n : Nat) : ∀ d e acc, e + d ≤ n → acc < 2 ^ n → btS P d e acc < 2 ^ n
  | 0, _, _, _, h => h
  | d + 1, e, acc, h, ha => by
    unfold btS
    refine btS_lt2 P n d (e + 1) _ (by omega) ?_
    split
    · exact Nat.or_lt_two_pow ha (Nat.pow_lt_pow_right (by omega) (by omega))
    · exact ha
theorem GV_lt {t : Nat → Nat} {fl : Nat} : ∀ r i S q, q < (GV t fl r i S).length → (GV t fl r i S).getD q 0 < i + r
  | 0, i, S, q, h => absurd h (by show ¬ q < 0; omega)
  | r + 1, i, S, q, h => by
    have e : GV t fl (r + 1) i S = if S = fl then [] else if DV t fl r (i + 1) (S ||| t i) + 1 ≤ DV t fl (r + 1) i S then i :: GV t fl r (i + 1) (S ||| t i) else GV t fl r (i + 1) S := rfl
    rw [e] at h ⊢
    by_cases c : S = fl
    · rw [if_pos c] at h; exact absurd h (by show ¬ q < 0; omega)
    · rw [if_neg c] at h ⊢
      by_cases c2 : DV t fl r (i + 1) (S ||| t i) + 1 ≤ DV t fl (r + 1) i S
      · rw [if_pos c2] at h ⊢
        cases q with
        | zero => show i < _; omega
        | succ q =>
          have := GV_lt (t := t) (fl := fl) r (i + 1) (S ||| t i) q (by rw [List.length_cons] at h; omega)
          show (GV t fl r (i + 1) (S ||| t i)).getD q 0 < _
          omega
      · rw [if_neg c2] at h ⊢
        have := GV_lt (t := t) (fl := fl) r (i + 1) S q h
        omega
theorem s_fix (hF : 1000 ≤ F) : Sp_fix F RR := by
  intro x σ1 σ2 hR
  obtain ⟨hI, hW, hV⟩ := RR_view hR
  have i4 := hI.2.2.2.2.1
  refine sp1 ?_
  have hz : RR x σ1 (sF σ2 0 0) := RR_fr hR WFr.rf (MFr.sF rfl MFr.rf)
  obtain ⟨n, hn⟩ := Int.eq_ofNat_of_zero_le i4.1
  have hL0 : LI (svw σ2) (sF σ1 5633 0) (sF (sF σ2 0 0) 55 0) 0 1 (triN n) := by
    refine ⟨⟨rfl, Int.le_refl 0, ?_⟩, fun j hj => ?_, fun c d h _ => ?_⟩
    · have := triN_b (n := n) (by omega)
      show (0 : Int) + _ ≤ 28
      omega
    · exfalso
      have : (j : Int) < 0 := hj
      omega
    · have := h.1
      have := h.2.2
      omega
  have hWf : WFr σ1 (sF σ1 5633 0) := WFr.rf.sF rfl
  have hMf : MFr (sF σ2 0 0) (sF (sF σ2 0 0) 55 0) := MFr.rf.sF rfl
  obtain ⟨t1, t2, n', k1, k2, k3, k4, k5, k6⟩ := pts_all (F := F) (by omega) hI n F F 0 (sF σ1 5633 0) (sF (sF σ2 0 0) 55 0) (by omega) (by omega) (by omega) hL0 (WV_fr hW hWf) hV.1
  have hnn : n' = n := by omega
  subst hnn
  have hzz : RR x t1 t2 := RR_fr hz (hWf.tr k5) (hMf.tr k6)
  have hWt : WV t1 (svw σ2) := WV_fr hW (hWf.tr k5)
  have hVt : ∀ i, gA t2 2 i = svw σ2 i := fun i => by rw [k6.2 2 rfl]; exact hV.1 i
  obtain ⟨L, hLc⟩ := Int.eq_ofNat_of_zero_le k4.1.2.1
  have hL28 : L ≤ 28 := by have := k4.1.2.2; omega
  have h5633 : gF t1 5633 = (L : Nat) := by rw [k4.1.1]; exact hLc
  have hp8 : 2 ^ n' ≤ 256 := Nat.pow_le_pow_right (n := 2) (show 2 > 0 by omega) (show n' ≤ 8 by omega)
  have hp1 : 1 ≤ 2 ^ n' := Nat.one_le_two_pow
  obtain ⟨fl, hfl⟩ : ∃ fl, 2 ^ n' = fl + 1 := ⟨2 ^ n' - 1, by omega⟩
  have hpi : (1 * 2 ^ n' : Int) - 1 = (fl : Nat) := by
    have : ((2 ^ n' : Nat) : Int) = (fl : Int) + 1 := by rw [hfl]; omega
    have e : (1 * 2 ^ n' : Int) = ((2 ^ n' : Nat) : Int) := by simp
    rw [e]; omega
  have hpl : 1 * 2 ^ n' = ((2 ^ n' : Nat) : Int) := by simp
  have h19 : ∀ j, j < L → ∃ v : Nat, v ≤ fl ∧ gA t2 19 j = (v : Nat) := fun j hj => by
    obtain ⟨-, -, c, d, -, -, g3⟩ := k4.2.1 j (by omega)
    refine ⟨tg2 (svw σ2) c d, ?_, g3⟩
    have : tg2 (svw σ2) c d < 2 ^ n' := btS_lt2 _ n' _ _ _ (by omega) (by omega)
    omega
  obtain ⟨t, ht, htA⟩ : ∃ t : Nat → Nat, (∀ q, t q ≤ fl) ∧ ∀ q, q < L → gA t2 19 q = (t q : Nat) := by
    refine ⟨fun q => if q < L then (gA t2 19 q).toNat else 0, fun q => ?_, fun q hq => ?_⟩
    · show (if q < L then (gA t2 19 q).toNat else 0) ≤ fl
      split
      · next h =>
        obtain ⟨v, h1, h2⟩ := h19 q h
        omega
      · omega
    · show _ = (((if q < L then (gA t2 19 q).toNat else 0 : Nat)) : Int)
      rw [if_pos hq]
      obtain ⟨v, h1, h2⟩ := h19 q hq
      omega
  have ht2 : ∀ q, t q < 256 := fun q => by have := ht q; omega
  have htW : ∀ q, q < L → gA t1 92 q = (t q : Nat) := fun q hq => by rw [(k4.2.1 q (by omega)).2.1]; exact htA q hq
  have w4 : gF t1 1987 = (n' : Nat) := by rw [hWt.2.2.2.2.1]; exact hn
  have v4 : gA t2 2 (Int.toNat 4) = (n' : Nat) := by rw [← hn]; exact hVt 4
  have kW : f_Fixer_listPoints_compass0 F σ1 = some (0, t1) := k1
  have kM : f_M_findPoints F (sF σ2 0 0) = some (0, t2) := k2
  have hor := W_or (F := F) (σ := sF t1 5637 (fl : Nat)) hL28 h5633 ht2 htW L F 0 0 (by omega) (by omega) (by omega)
  have horM := M_or (F := F) (σ := t2) (fl := fl) hL28 hLc (by omega) ht2 htA L F 0 0 (by omega) (by omega) (by omega)
  have hM : ∀ Q : Int → St → Prop, Ev (l_M_fix_24 F F t2 (fl : Nat) 0 0) Q → Ev (f_M_fix F σ2) Q := by
    intro Q h
    unfold f_M_fix
    refine ev_bs (ev_be kM (ev_g (by decide) ?_))
    rw [v4]
    refine ev_g (by omega) (ev_bv (ev_bv ?_))
    rw [Int.toNat_natCast, hpi]
    exact h
  unfold f_W_fix f_Fixer_find_compass0
  refine ev_b (ev_be kW ?_)
  rw [w4]
  refine ev_g (by omega) (ev_bv (ev_bs ?_))
  rw [Int.toNat_natCast, hpi]
  unfold f_Fixer_touchedTogether
  refine ev_be hor ?_
  have b0 : orA t L 0 0 < 256 := by
    have : ∀ r i S, S < 256 → orA t r i S < 256 := by
      intro r
      induction r with
      | zero => intro i S h; exact h
      | succ r ih => intro i S h; exact ih (i + 1) (S ||| t i) (Nat.or_lt_two_pow (n := 8) h (ht2 i))
    exact this L 0 0 (by omega)
  rw [show gF (sF t1 5637 (fl : Nat)) 5637 = (fl : Nat) from rfl]
  refine ev_g (by omega) ?_
  by_cases c : orA t L 0 0 = fl
  · rw [if_pos (by omega)]
    rw [if_pos c] at horM
    have hDle := DV_le (t := t) (fl := fl) ht2 L 0 0 c
    have h8 := mi_8 0 8
    obtain ⟨u1, g1, g2, g3, g4, g5, g6⟩ := W_find (F := F) (by omega) (t := t) (fl := fl) (L := L) (D := DV t fl L 0 0) hL28 ht2 (by omega) rfl (by omega) (DV t fl L 0 0) F 0 (sF t1 5637 (fl : Nat)) (by omega) (by omega) h5633 rfl htW
    refine ev_e g1 (ev_s (hM _ ?_))
    rw [show l_M_fix_24 F F t2 (fl : Nat) 0 0 = _ from horM]
    obtain ⟨s1, a1, a2, a3, a4⟩ := M_f56 (F := F) (L := L) (fl := fl) hL28 (by omega) 256 F 0 t2 (by omega) (by omega) hLc
    obtain ⟨s2, c1, c2, c3, c4⟩ := M_f103 (F := F) (by omega) (t := t) (n := n') (fl := fl) (L := L) hL28 (by omega) hfl.symm ht L F s1 (by omega) (by omega) (fun q hq => by rw [a3 19 (by omega)]; exact htA q hq) (fun b hb hbL => by
      have : b = L := by omega
      subst this
      intro S hS
      rw [a4, if_pos (by omega), show b - b = 0 by omega]
      unfold DV
      by_cases z : S = fl
      · rw [if_pos (by omega), if_pos z]; rfl
      · rw [if_neg (by omega), if_neg z]; rfl)
    obtain ⟨s3, d1, d2, d3, d4, d5, d6⟩ := M_f208 (F := F) (t := t) (n := n') (fl := fl) (L := L) hL28 (by omega) hfl.symm ht L F 0 0 0 (sF s2 56 0) (by omega) (by omega) (by omega) (by rw [gF_sF, if_neg (by omega), c2, a2]; exact hLc) rfl (by omega) (fun q hq => by rw [gA_sF, c3 19 (by omega), a3 19 (by omega)]; exact htA q hq) (fun b hb S hS => c4 b hb S hS)
    rw [show l_M_fix_56 F F t2 (fl : Nat) 0 = _ from a1, c1, show l_M_fix_208 F F (sF s2 56 0) (fl : Nat) 0 0 = _ from d1, Nat.zero_add, g5]
    refine ev_s ⟨rfl, ?_⟩
    rw [Nat.zero_add, g5] at d2
    have hRf := hzz
    have g := RR_mix (σ1' := u1) (σ2' := s3) (fun q => q == 5697) (fun a => a == 90) (fun q => q == 56) (fun a => a == 21) hzz (fun q hq hs => by
      rw [g3 q (by intro e; subst e; cases hq), gF_sF, if_neg (by intro e; subst e; cases hs)]) (fun a ha hs i => by
      rw [g4 a (by intro e; subst e; cases ha) (by intro e; subst e; cases hs)]; rfl) (fun q hq hs => by
      rw [d3 q (by intro e; subst e; cases hq), gF_sF, if_neg (by intro e; subst e; cases hq), c2, a2]) (fun a ha hs i => by
      rw [d4 a (by intro e; subst e; cases ha), gA_sF, c3 a (by intro e; subst e; cases hs), a3 a (by intro e; subst e; cases hs)])
    have hN : RFix u1 s3 := by
      refine Or.inr ⟨by rw [d2]; omega, by rw [g2, d2], fun q hq => ?_⟩
      rw [d2] at hq
      have hG : ∀ q, q < (GV t fl L 0 0).length → (GV t fl L 0 0).getD q 0 < L := fun q hq => by have := GV_lt (t := t) (fl := fl) L 0 0 q hq; omega
      rw [g6 q (by omega)]
      have := d6 q (by rw [g5]; omega)
      rw [Nat.zero_add] at this
      rw [this, gA_sF, gA_sF, c3 18 (by omega), a3 18 (by omega)]
      exact (k4.2.1 _ (by have := hG q (by rw [g5]; omega); omega)).1
    exact ⟨g.1, g.2.1, g.2.2.1, g.2.2.2.1, g.2.2.2.2.1, g.2.2.2.2.2.1, g.2.2.2.2.2.2.1, ⟨g.2.2.2.2.2.2.2.1.1, g.2.2.2.2.2.2.2.1.2.1, g.2.2.2.2.2.2.2.1.2.2.1, g.2.2.2.2.2.2.2.1.2.2.2.1, g.2.2.2.2.2.2.2.1.2.2.2.2.1, hN⟩, g.2.2.2.2.2.2.2.2⟩
  · rw [if_neg (by omega)]
    rw [if_neg c] at horM
    refine ev_s (ev_s (hM _ ?_))
    rw [show l_M_fix_24 F F t2 (fl : Nat) 0 0 = _ from horM]
    exact ev_s ⟨rfl, RR_fr hzz (WFr.rf.sF rfl) MFr.rf⟩
end
