/-! PURE PART: lose, image, restore -/
def mix (wf wa : Nat → Bool) (σ σ' : St) : St := (fun q => cond (wf q) (gF σ q) (gF σ' q), fun a i => cond (wa a) (gA σ a i) (gA σ' a i))
theorem RR_mix {x : Bool} {σ1 σ2 σ1' σ2' : St} (wf wa mf ma : Nat → Bool) (h : RR x σ1 σ2) (f1 : ∀ q, wf q = false → wSF q = false → gF σ1' q = gF σ1 q) (a1 : ∀ a, wa a = false → wSA a = false → ∀ i, gA σ1' a i = gA σ1 a i) (f2 : ∀ q, mf q = false → mSF q = false → gF σ2' q = gF σ2 q) (a2 : ∀ a, ma a = false → mSA a = false → ∀ i, gA σ2' a i = gA σ2 a i) : RR x (mix wf wa σ1 σ1') (mix mf ma σ2 σ2') := by
  refine RR_fr h ⟨fun q hq => ?_, fun a ha i => ?_⟩ ⟨fun q hq => ?_, fun a ha i => ?_⟩
  · show cond (wf q) (gF σ1 q) (gF σ1' q) = _
    cases c : wf q with
    | true => rfl
    | false => exact f1 q c hq
  · show cond (wa a) (gA σ1 a i) (gA σ1' a i) = _
    cases c : wa a with
    | true => rfl
    | false => exact a1 a c ha i
  · show cond (mf q) (gF σ2 q) (gF σ2' q) = _
    cases c : mf q with
    | true => rfl
    | false => exact f2 q c hq
  · show cond (ma a) (gA σ2 a i) (gA σ2' a i) = _
    cases c : ma a with
    | true => rfl
    | false => exact a2 a c ha i
def scFb (k q : Nat) : Bool := q == 1472 + 64 * k || q == 1473 + 64 * k || q == 1474 + 64 * k || q == 5059 + 64 * k || q == 5062 + 64 * k || q == 1984 + 64 * k || q == 1987 + 64 * k || q == 5058 + 64 * k
def scAb (k a : Nat) : Bool := a == 27 + k || a == 35 + k || a == 39 + k || a == 43 + k || a == 47 + k || a == 51 + k || a == 55 + k || a == 59 + k || a == 63 + k || a == 67 + k || a == 71 + k || a == 75 + k
theorem scFb_iff {k q : Nat} (h : scFb k q = false) : ¬ scF k q := by
  unfold scFb at h
  unfold scF
  simp at h
  omega
theorem scAb_iff {k a : Nat} (h : scAb k a = false) : ¬ scA k a := by
  unfold scAb at h
  unfold scA
  simp at h
  omega
/-- scene 0 is another -/
theorem RR_scene {x : Bool} {σ1 σ2 σ1' σ2' : St} (h : RR x σ1 σ2) (hs : SC σ1' σ2' 0 2 0) (hm : RM σ2') (f1 : ∀ q, ¬ scF 0 q → wSF q = false → gF σ1' q = gF σ1 q) (a1 : ∀ a, ¬ scA 0 a → wSA a = false → ∀ i, gA σ1' a i = gA σ1 a i) (f2 : ∀ q, q ≠ 20 → q ≠ 21 → mSF q = false → gF σ2' q = gF σ2 q) (a2 : ∀ a, a ≠ 2 → a ≠ 6 → mSA a = false → ∀ i, gA σ2' a i = gA σ2 a i) : RR x σ1' σ2' := by
  have g := RR_mix (σ1' := σ1') (σ2' := σ2') (scFb 0) (scAb 0) (fun q => q == 20 || q == 21) (fun a => a == 2 || a == 6) h (fun q hq => f1 q (scFb_iff hq)) (fun a ha => a1 a (scAb_iff ha)) (fun q hq => f2 q (by intro e; subst e; cases hq) (by intro e; subst e; cases hq)) (fun a ha => a2 a (by intro e; subst e; cases ha) (by intro e; subst e; cases ha))
  exact ⟨g.1, g.2.1, hs, hm, g.2.2.2.2⟩
section
variable {F : Nat}
theorem W_drop : ∀ (d n : Nat) (σ : St) (i H : Nat), d < n → H ≤ 10 → i + d + 1 = H → gF σ 5059 = (H : Nat) → ∃ σ', l_Scene_dropHearer_scene0_2 F n σ (i : Nat) = some (0, σ') ∧ gF σ' 5059 = (H : Int) - 1 ∧ (∀ q, q ≠ 5059 → gF σ' q = gF σ q) ∧ (∀ a, a ≠ 55 → a ≠ 59 → ∀ j, gA σ' a j = gA σ a j) ∧ (∀ j, gA σ' 55 j = if i ≤ j ∧ j + 1 < H then gA σ 55 (j + 1) else gA σ 55 j) ∧ ∀ j, gA σ' 59 j = if i ≤ j ∧ j + 1 < H then gA σ 59 (j + 1) else gA σ 59 j
  | _, 0, _, _, _, h, _, _, _ => by omega
  | 0, n + 1, σ, i, H, _, hH, hd, hg => by
    simp only [l_Scene_dropHearer_scene0_2, b_Scene_dropHearer_scene0_2, bs, bv]
    rw [hg, gd_t (by omega), if_pos (by omega)]
    refine ⟨_, rfl, gF_eq, fun q hq => by rw [gF_sF, if_neg hq], fun _ _ _ _ => rfl, fun j => ?_, fun j => ?_⟩
    · rw [if_neg (by omega)]; rfl
    · rw [if_neg (by omega)]; rfl
  | d + 1, n + 1, σ, i, H, hn, hH, hd, hg => by
    simp only [l_Scene_dropHearer_scene0_2, b_Scene_dropHearer_scene0_2, bs, bv]
    rw [hg, gd_t (by omega), if_neg (by omega), gd_t (by omega), gd_t (by omega), gd_t (by omega), gd_t (by omega)]
    obtain ⟨σ', e1, e2, e3, e4, e5, e6⟩ := W_drop d n (sA (sA σ 55 i (gA σ 55 (i + 1))) 59 i (gA σ 59 (i + 1))) (i + 1) H (by omega) hH (by omega) hg
    refine ⟨σ', ?_, e2, e3, fun a h1 h2 j => ?_, fun j => ?_, fun j => ?_⟩
    · rw [← e1]; rfl
    · rw [e4 a h1 h2, gA_sA, if_neg (fun e => h2 e.1), gA_sA, if_neg (fun e => h1 e.1)]
    · rw [e5]
      simp only [gA_sA]
      grind
    · rw [e6]
      simp only [gA_sA]
      grind
theorem M_drop : ∀ (d n : Nat) (σ : St) (i H : Nat), d < n → H ≤ 10 → i + d = 2 * H → gA σ 2 1 = (H : Nat) → ∃ σ', l_M_lose_29 F n σ (i : Nat) = some ((H : Int), σ') ∧ (∀ q, gF σ' q = gF σ q) ∧ (∀ a, a ≠ 2 → ∀ j, gA σ' a j = gA σ a j) ∧ (∀ j, gA σ' 2 j = if 6 + i ≤ j ∧ j < 6 + 2 * H then gA σ 2 (j + 2) else gA σ 2 j)
  | _, 0, _, _, _, h, _, _, _ => by omega
  | 0, n + 1, σ, i, H, _, hH, hd, hg => by
    simp only [l_M_lose_29, b_M_lose_29, bs, bv, Int.reduceToNat]
    rw [gd_t (by decide), gd_t (by omega), if_pos (by omega), gd_t (by decide), hg]
    exact ⟨_, rfl, fun _ => rfl, fun _ _ _ => rfl, fun j => by rw [if_neg (by omega)]⟩
  | d + 1, n + 1, σ, i, H, hn, hH, hd, hg => by
    simp only [l_M_lose_29, b_M_lose_29, bs, bv, Int.reduceToNat]
    rw [gd_t (by decide), gd_t (by omega), if_neg (by omega), gd_t (by omega), gd_t (by omega)]
    obtain ⟨σ', e1, e2, e3, e4⟩ := M_drop d n (sA σ 2 (6 + i) (gA σ 2 (6 + i + 2))) (i + 1) H (by omega) hH (by omega) (by rw [gA_sA, if_neg (by omega)]; exact hg)
    refine ⟨σ', ?_, e2, fun a h1 j => ?_, fun j => ?_⟩
    · rw [← e1]
      congr 2
    · rw [e3 a h1, gA_sA, if_neg (fun e => h1 e.1)]
    · rw [e4]
      simp only [gA_sA]
      grind
theorem s_lose (hF : 100 ≤ F) : Sp_lose F RR := by
  intro x σ1 σ2 p0 hR h0
  have hz : RR x σ1 (sF σ2 0 0) := RR_fr hR WFr.rf (MFr.sF rfl MFr.rf)
  obtain ⟨hT, hFa, ⟨⟨c0, l⟩, c1, c2, c3, c4, c5, c6, c7, c8, c9, d1⟩, hM, hD, hI0, hI1, hTo, hRe⟩ := id hR
  have g1 : gF σ1 5059 = gA σ2 2 1 := c1.1
  have i1 : 0 ≤ gA σ2 2 1 ∧ gA σ2 2 1 ≤ 10 := c1.2
  refine sp1 ?_
  unfold f_W_lose f_M_lose f_Scene_dropHearer_scene0
  refine ev_hasH' g1 (by omega) (fun c => ?_) (fun c => ?_)
  · refine ev_g (by decide) ?_
    rw [if_neg (by decide)]
    obtain ⟨i, hi⟩ := Int.eq_ofNat_of_zero_le c.1
    obtain ⟨H, hH⟩ := Int.eq_ofNat_of_zero_le i1.1
    subst hi
    obtain ⟨s1, e1, e2, e3, e4, e5, e6⟩ := W_drop (F := F) (H - 1 - i) F σ1 i H (by omega) (by omega) (by omega) (by omega)
    have hsub : (H : Int) - 1 = ((H - 1 : Nat) : Int) := by omega
    obtain ⟨s2, k1, k2, k3, k4⟩ := M_drop (F := F) (2 * (H - 1) - 2 * i) F (sA (sF σ2 0 0) 2 1 ((H : Int) - 1)) (2 * i) (H - 1) (by omega) (by omega) (by omega) (by rw [gA_eq]; omega)
    refine ev_be e1 (ev_s ?_)
    refine ev_bs ?_
    refine ev_isHearer' (n := gA σ2 2 1) rfl (by omega) (fun _ => ?_) (fun h => absurd c h)
    refine ev_g (by decide) ?_
    rw [if_neg (by decide)]
    refine ev_g (by decide) (ev_g (by decide) (ev_bs (ev_bv ?_)))
    have k1' : l_M_lose_29 F F (sA (sF σ2 0 0) 2 (Int.toNat 1) (gA (sF σ2 0 0) 2 (Int.toNat 1) - 1)) (2 * (i : Int)) = some (((H - 1 : Nat) : Int), s2) := by
      rw [← k1, ← hH]; rfl
    refine ev_e k1' ⟨by omega, ?_⟩
    have q2 : ∀ j, gA s2 2 j = if 6 + 2 * i ≤ j ∧ j < 6 + 2 * (H - 1) then gA σ2 2 (j + 2) else if j = 1 then (H : Int) - 1 else gA σ2 2 j := by
      intro j
      rw [k4]
      simp only [gA_sA, gA_sF]
      by_cases cc : 6 + 2 * i ≤ j ∧ j < 6 + 2 * (H - 1)
      · rw [if_pos cc, if_pos cc, if_neg (by omega)]
      · rw [if_neg cc, if_neg cc]
        by_cases c3 : j = 1
        · subst c3; simp
        · rw [if_neg (by omega), if_neg (by omega)]
    have qo : ∀ j, j ≠ 1 → ¬ (6 + 2 * i ≤ j ∧ j < 6 + 2 * (H - 1)) → gA s2 2 j = gA σ2 2 j := fun j a b => by rw [q2, if_neg b, if_neg a]
    have qi : ∀ j, 6 + 2 * i ≤ j → j < 6 + 2 * (H - 1) → gA s2 2 j = gA σ2 2 (j + 2) := fun j a b => by rw [q2, if_pos ⟨a, b⟩]
    have q1 : gA s2 2 1 = (H : Int) - 1 := by rw [q2, if_neg (by omega), if_pos rfl]
    have wf : ∀ q, q ≠ 5059 → gF s1 q = gF σ1 q := e3
    refine RR_scene hz ⟨⟨?_, ?_, ?_, ?_, fun j hj => ?_⟩, ⟨?_, ?_, ?_⟩, ?_, ?_, ?_, ?_, fun h hh => ?_, fun a b hab hb => ?_, fun s hs => ?_, fun t ht => ?_, fun b hb => ?_⟩ ⟨?_, ?_, fun j hj => ?_⟩ (fun q hq _ => ?_) (fun a ha _ j => ?_) (fun q _ _ _ => ?_) (fun a ha _ _ j => ?_)
    · rw [qo 0 (by omega) (by omega)]; exact c0
    · rw [qo 0 (by omega) (by omega), wf _ (by omega)]; exact l.1
    · rw [qo 0 (by omega) (by omega), wf _ (by omega)]; exact l.2.1
    · rw [qo 0 (by omega) (by omega), wf _ (by omega)]; exact l.2.2.1
    · rw [qo 0 (by omega) (by omega)] at hj ⊢; rw [e4 _ (by omega) (by omega)]; exact l.2.2.2 j hj
    · show gF s1 5059 = gA s2 2 1; rw [e2, q1]
    · show 0 ≤ gA s2 2 1; rw [q1]; omega
    · show gA s2 2 1 ≤ 10; rw [q1]; omega
    · rw [qo (0 + 2) (by omega) (by omega), wf _ (by omega)]; exact c2
    · rw [qo (0 + 3) (by omega) (by omega), wf _ (by omega)]; exact c3
    · rw [qo (0 + 4) (by omega) (by omega), wf _ (by omega)]; exact c4
    · rw [qo (0 + 5) (by omega) (by omega), wf _ (by omega)]; exact c5
    · have hh2 : (h : Int) < H - 1 := by rw [← q1]; exact hh
      rw [qo 0 (by omega) (by omega)]
      by_cases cc : i ≤ h
      · have z := c6 (h + 1) (by show ((h + 1 : Nat) : Int) < gA σ2 2 1; omega)
        rw [qi (0 + 6 + 2 * h) (by omega) (by omega), qi (0 + 7 + 2 * h) (by omega) (by omega), e5, e6, if_pos (by omega), if_pos (by omega)]
        exact z
      · have z := c6 h (by show (h : Int) < gA σ2 2 1; omega)
        rw [qo (0 + 6 + 2 * h) (by omega) (by omega), qo (0 + 7 + 2 * h) (by omega) (by omega), e5, e6, if_neg (by omega), if_neg (by omega)]
        exact z
    · have hb2 : (b : Int) < H - 1 := by rw [← q1]; exact hb
      by_cases ca : i ≤ a
      · rw [qi (0 + 6 + 2 * a) (by omega) (by omega), qi (0 + 6 + 2 * b) (by omega) (by omega)]
        exact c7 (a + 1) (b + 1) (by omega) (by show ((b + 1 : Nat) : Int) < gA σ2 2 1; omega)
      · by_cases cb : i ≤ b
        · rw [qo (0 + 6 + 2 * a) (by omega) (by omega), qi (0 + 6 + 2 * b) (by omega) (by omega)]
          exact c7 a (b + 1) (by omega) (by show ((b + 1 : Nat) : Int) < gA σ2 2 1; omega)
        · rw [qo (0 + 6 + 2 * a) (by omega) (by omega), qo (0 + 6 + 2 * b) (by omega) (by omega)]
          exact c7 a b hab (by show (b : Int) < gA σ2 2 1; omega)
    · rw [qo (0 + 2) (by omega) (by omega)] at hs
      rw [qo 0 (by omega) (by omega), qo (0 + 26 + 4 * s) (by omega) (by omega), qo (0 + 27 + 4 * s) (by omega) (by omega), qo (0 + 28 + 4 * s) (by omega) (by omega), qo (0 + 29 + 4 * s) (by omega) (by omega), e4 _ (by omega) (by omega), e4 _ (by omega) (by omega), e4 _ (by omega) (by omega), e4 _ (by omega) (by omega)]
      exact c8 s hs
    · rw [qo (0 + 3) (by omega) (by omega)] at ht
      rw [qo (0 + 50 + 2 * t) (by omega) (by omega), qo (0 + 51 + 2 * t) (by omega) (by omega), e4 _ (by omega) (by omega), e4 _ (by omega) (by omega)]
      exact c9 t ht
    · rw [qo (0 + 4) (by omega) (by omega)] at hb
      rw [qo (0 + 3) (by omega) (by omega), qo (0 + 58 + 3 * b) (by omega) (by omega), qo (0 + 59 + 3 * b) (by omega) (by omega), qo (0 + 60 + 3 * b) (by omega) (by omega), e4 _ (by omega) (by omega), e4 _ (by omega) (by omega), e4 _ (by omega) (by omega)]
      exact d1 b hb
    · rw [qo 0 (by omega) (by omega), k2]; exact hM.1
    · rw [qo 0 (by omega) (by omega), k2]; exact hM.2.1
    · rw [qo 0 (by omega) (by omega)] at hj ⊢; rw [k3 _ (by omega)]; exact hM.2.2 j hj
    · exact wf q (by intro e; subst e; exact hq (by unfold scF; omega))
    · exact e4 a (by intro e; subst e; exact ha (by unfold scA; omega)) (by intro e; subst e; exact ha (by unfold scA; omega)) j
    · rw [k2]; rfl
    · rw [k3 a ha, gA_sA, if_neg (fun e => ha e.1)]
  · refine ev_g (by decide) ?_
    rw [if_pos rfl]
    refine ev_s (ev_bs ?_)
    refine ev_isHearer' (n := gA σ2 2 1) rfl (by omega) (fun h => absurd h c) (fun _ => ?_)
    refine ev_g (by decide) ?_
    rw [if_pos rfl]
    exact ev_s ⟨rfl, hz⟩
end
