/-! PURE PART: fewest -/
section
variable {F : Nat} {s : Nat → Int} {g : Nat → Int}
theorem kmP0 (h : Nat) : kmP 0 h = true := by unfold kmP; simp
theorem cD0 : ∀ d e, cD (kmP 0) d e = d
  | 0, _ => rfl
  | d + 1, e => by
    unfold cD
    rw [if_pos (kmP0 e), cD0 d (e + 1)]; omega
theorem rtA0 : ∀ d e c, c < d → rtA (kmP 0) d e c = e + c
  | 0, _, _, h => by omega
  | d + 1, e, c, h => by
    unfold rtA
    rw [if_pos (kmP0 e)]
    by_cases z : c = 0
    · rw [if_pos z, z]; rfl
    · rw [if_neg z, rtA0 d (e + 1) (c - 1) (by omega)]; omega
theorem W_fm15 (hI : MI s) (k2 : St → Int → Int → Option (Int × St)) {x : List Nat} (hk : x.length ≤ 3) (hx : ∀ i, i < x.length → x.getD i 0 < (s 0).toNat) {h : Nat} (hh : (h : Int) < s 1) : ∀ (d m : Nat) (σ : St) (i : Nat), WV σ s → d < m → i + d = x.length → (∀ i, i < x.length → gA σ 16 i = (x.getD i 0 : Nat)) → gA σ 94 h = g h → PW2 σ (x.length + 1) h i (KM s x.length 0 (pkx x) g) → ∃ σ', l_W_findMakerNumbers_15 F k2 m σ (x.length : Nat) (h : Nat) (i : Nat) = k2 σ' (x.length : Nat) ((h : Int) + 1) ∧ PW2 σ' (x.length + 1) (h + 1) 0 (KM s x.length 0 (pkx x) g) ∧ RFr σ σ'
  | _, 0, _, _, _, h, _, _, _, _ => absurd h (Nat.not_lt_zero _)
  | 0, m + 1, σ, i, hV, _, hd, h16, h94, hP => by
    have i1 := hI.2.1
    have hi : i = x.length := by omega
    subst hi
    have er : rtA (kmP 0) (s 1).toNat 0 h = h := by rw [rtA0 _ _ _ (by omega)]; omega
    have e : g h = KM s x.length 0 (pkx x) g h x.length := by unfold KM; rw [if_neg (by omega), er]
    refine ⟨sA σ (103 + h) x.length (g h), ?_, PW2_row (PW2_set hP e), RFr_set⟩
    show b_W_findMakerNumbers_15 F k2 _ σ _ _ _ = _
    unfold b_W_findMakerNumbers_15
    rw [gd_t (by omega), if_pos (by omega), gd_t (by omega), gd_t (by omega), gd_t (by omega), Int.toNat_natCast, Int.toNat_natCast, h94, bs_s, bv_s]
  | d + 1, m + 1, σ, i, hV, hm, hd, h16, h94, hP => by
    have i0 := hI.1
    have i1 := hI.2.1
    have b := hx i (by omega)
    have er : rtA (kmP 0) (s 1).toNat 0 h = h := by rw [rtA0 _ _ _ (by omega)]; omega
    have hfr : RFr σ (sA σ (103 + h) i (KM s x.length 0 (pkx x) g h i)) := RFr_set
    have e : gnS s h * wvS s (x.getD i 0 : Nat) (plS s h) % PR (s 0) = KM s x.length 0 (pkx x) g h i := by unfold KM; rw [if_pos (by omega), er]; rfl
    obtain ⟨σ', k1, k2', k3⟩ := W_fm15 hI k2 hk hx hh d m (sA σ (103 + h) i (KM s x.length 0 (pkx x) g h i)) (i + 1) (WV_fr hV hfr.W) (by omega) (by omega) (fun i hi => by rw [gA_sA, if_neg (by omega)]; exact h16 i hi) (by rw [gA_sA, if_neg (by omega)]; exact h94) (PW2_set hP rfl)
    refine ⟨σ', ?_, k2', hfr.tr k3⟩
    rw [← k1]
    show b_W_findMakerNumbers_15 F k2 _ σ _ _ _ = _
    unfold b_W_findMakerNumbers_15
    rw [gd_t (by omega), if_neg (by omega), gd_t (by omega), gd_t (by omega), Int.toNat_natCast, Int.toNat_natCast, h16 i (by omega), W_gained hI hV (by omega) (by omega), bnd_s, gd_t (by omega), e, bs_s, bv_s]; rfl
theorem W_fm2 (hF : 200 ≤ F) (hI : MI s) (hg : ∀ h : Nat, (h : Int) < s 1 → 0 ≤ g h ∧ g h < PR (s 0)) {x : List Nat} (hk : x.length ≤ 3) (hx : ∀ i, i < x.length → x.getD i 0 < (s 0).toNat) (hm : Gm s 0 g x = true) : ∀ (d m : Nat) (σ : St) (h : Nat), WV σ s → d < m → (h : Int) + d = s 1 → (∀ i, i < x.length → gA σ 16 i = (x.getD i 0 : Nat)) → (∀ h : Nat, (h : Int) < s 1 → gA σ 94 h = g h) → PW2 σ (x.length + 1) h 0 (KM s x.length 0 (pkx x) g) → ∃ σ', l_W_findMakerNumbers_2 F m σ (x.length : Nat) (h : Nat) = some (0, σ') ∧ gF σ' 1089 = (x.length : Nat) ∧ (∀ i, i < x.length → gA σ' 18 i = byS s g x i) ∧ (∀ q, q ≠ 1089 → gF σ' q = gF σ q) ∧ ∀ a, a < 103 → a ≠ 87 → a ≠ 18 → ∀ j, gA σ' a j = gA σ a j
  | _, 0, _, _, _, h, _, _, _, _ => absurd h (Nat.not_lt_zero _)
  | 0, m + 1, σ, h, hV, _, hd, h16, h94, hP => by
    have i1 := hI.2.1
    have v1 := hV.2.1
    have e0 : cD (kmP 0) (s 1).toNat 0 = (s 1).toNat := cD0 _ _
    have hcan := KM_can hI (k := x.length) (S := 0) (pk := pkx x) hg
    have hmd : mdB (PR (s 0)) (s 1).toNat x.length (KM s x.length 0 (pkx x) g) = true := by
      unfold Gm at hm
      rw [e0] at hm
      exact hm
    rw [e0] at hcan
    obtain ⟨σ', k1, k2, k3, k4, k5, k6⟩ := W_solve_makerNumber (F := F) hF hI.1 (σ := σ) (high := (s 1).toNat) (cols := x.length) (A := KM s x.length 0 (pkx x) g) (by omega) hk (by omega) (fun r' k' h1 h2 => hP r' k' h2 (by omega)) hcan
    obtain ⟨j1, j2⟩ := k3 hmd
    refine ⟨σ', ?_, j1, fun i hi => by rw [j2 i hi]; unfold byS; rw [e0], k5, k6⟩
    show b_W_findMakerNumbers_2 F _ σ _ _ = _
    unfold b_W_findMakerNumbers_2
    rw [v1, gd_t (by omega), if_pos (by omega), hV.1.2.1, show f_Rows_solve_makerNumber F σ (s 1) (x.length : Nat) (PR (s 0)) = f_Rows_solve_makerNumber F σ ((s 1).toNat : Nat) (x.length : Nat) (PR (s 0)) by rw [show (((s 1).toNat : Nat) : Int) = s 1 by omega], k1, bnd_s]
  | d + 1, m + 1, σ, h, hV, hm', hd, h16, h94, hP => by
    have i1 := hI.2.1
    have v1 := hV.2.1
    obtain ⟨s1, a1, a2, a3⟩ := W_fm15 (F := F) hI (l_W_findMakerNumbers_2 F m) hk hx (h := h) (by omega) x.length F σ 0 hV (by omega) (by omega) h16 (h94 h (by omega)) hP
    obtain ⟨σ', k1, k2, k3, k4, k5⟩ := W_fm2 hF hI hg hk hx hm d m s1 (h + 1) (WV_fr hV a3.W) (by omega) (by omega) (fun i hi => by rw [a3.2 16 (by omega) (by omega)]; exact h16 i hi) (fun i hi => by rw [a3.2 94 (by omega) (by omega)]; exact h94 i hi) a2
    refine ⟨σ', ?_, k2, k3, fun q hq => by rw [k4 q hq, a3.1], fun a h1 h2 h3 j => by rw [k5 a h1 h2 h3, a3.2 a h1 h2]⟩
    rw [← k1]
    show b_W_findMakerNumbers_2 F _ σ _ _ = _
    unfold b_W_findMakerNumbers_2
    rw [v1, gd_t (by omega), if_neg (by omega)]
    exact a1
/-- the first set is told -/
theorem W_f79 {x : List Nat} (hk : x.length ≤ 3) : ∀ (d m : Nat) (σ : St) (i : Nat), d < m → i + d = x.length → (∀ i, i < x.length → gA σ 96 i = (x.getD i 0 : Nat)) → (∀ j, j < i → gA σ 16 j = (x.getD j 0 : Nat)) → ∃ σ', l_W_fewest_79 F m σ (x.length : Nat) (i : Nat) = (bnd (f_W_findMakerNumbers F σ' (x.length : Nat)) fun r11 σ12 => some ((x.length : Nat), σ12)) ∧ (∀ j, j < x.length → gA σ' 16 j = (x.getD j 0 : Nat)) ∧ (∀ q, gF σ' q = gF σ q) ∧ ∀ a, a ≠ 16 → ∀ i, gA σ' a i = gA σ a i
  | _, 0, _, _, h, _, _, _ => absurd h (Nat.not_lt_zero _)
  | 0, m + 1, σ, i, _, hi, h96, h16 => by
    refine ⟨σ, ?_, fun j hj => h16 j (by omega), fun _ => rfl, fun _ _ _ => rfl⟩
    show b_W_fewest_79 F _ σ _ _ = _
    unfold b_W_fewest_79
    rw [gd_t (by omega), if_pos (by omega)]
  | d + 1, m + 1, σ, i, hm, hi, h96, h16 => by
    obtain ⟨σ', k1, k2, k3, k4⟩ := W_f79 hk d m (sA σ 16 i (x.getD i 0 : Nat)) (i + 1) (by omega) (by omega) (fun i hi => by rw [gA_sA, if_neg (by omega)]; exact h96 i hi) (fun j hj => by
      rw [gA_sA]
      by_cases w : j = i
      · rw [if_pos ⟨rfl, w⟩, w]
      · rw [if_neg (fun z => w z.2)]; exact h16 j (by omega))
    refine ⟨σ', ?_, k2, k3, fun a ha i => by rw [k4 a ha, gA_sA, if_neg (fun z => ha z.1)]⟩
    rw [← k1]
    show b_W_fewest_79 F _ σ _ _ = _
    unfold b_W_fewest_79
    rw [gd_t (by omega), if_neg (by omega), gd_t (by omega), gd_t (by omega), bs_s, Int.toNat_natCast, h96 i (by omega), bv_s]; rfl
theorem s_fewest (hF : 300000 ≤ F) : Sp_fewest F RR := by
  intro x σ1 σ2 hR
  obtain ⟨hI, hW, hV⟩ := RR_view hR
  have i0 := hI.1
  have i1 := hI.2.1
  have hp := PR_b hI.1
  refine sp1 ?_
  obtain ⟨r1, r2, a1, a2, t1, t2, f1, f2, hh⟩ := take_both (F := F) (by omega) hR
  have hz : RR x a1 a2 := RR_take hR f1 f2
  have hWa : WV a1 (svw σ2) := WV_fr (WV_65 hW) f1
  have hVa : MV a2 (svw σ2) := MV_fr (MV_2 hV) f2
  have v1 : gF a1 5059 = svw σ2 1 := hWa.2.1
  have v1m : gA a2 2 (Int.toNat 1) = svw σ2 1 := hVa.1 1
  have rr : rng r1 ∧ rng r2 := by rcases hh with ⟨⟨rfl, _, _⟩, _⟩ | ⟨rfl, h⟩ <;> omega
  unfold f_W_fewest
  refine ev_be t1 (ev_g (by omega) ?_)
  have hM : ∀ Q : Int → St → Prop, Ev (if r2 = svw σ2 1 then l_M_fewest_23 F F a2 0 else some (-2, a2)) Q → Ev (f_M_fewest F σ2) Q := by
    intro Q h
    unfold f_M_fewest
    refine ev_bs (ev_be t2 (ev_g (by decide) (ev_g (by omega) ?_)))
    rw [v1m]; exact h
  by_cases c : r1 = svw σ2 1
  · rw [v1, if_pos c]
    obtain ⟨⟨e12, -, -⟩, hgv⟩ : (r1 = r2 ∧ 0 ≤ r1 ∧ r1 ≤ 10) ∧ ∀ k : Nat, (k : Int) < r1 → gA a1 94 k = gA a2 12 k ∧ 0 ≤ gA a2 12 k ∧ gA a2 12 k < PR (svw σ2 0) := by
      rcases hh with h | ⟨h, _⟩
      · exact h
      · omega
    rw [c] at hgv
    have hg : ∀ h : Nat, (h : Int) < svw σ2 1 → 0 ≤ (fun h => gA a2 12 h) h ∧ (fun h => gA a2 12 h) h < PR (svw σ2 0) := fun h hh => (hgv h hh).2
    have hG : ∀ x : List Nat, x.length ≤ 3 → (Gm (svw σ2) 0 (fun h => gA a2 12 h) x = true ↔ MkL (PR (svw σ2 0)) (HH (svw σ2) 0) (clS (svw σ2)) x (fun h => gA a2 12 h)) := fun x _ => Gm_iff hI hg x
    obtain ⟨s3, b1, b2, b3, b4⟩ := W_hear (F := F) (g := fun h => gA a2 12 h) hI (by omega) hWa (fun i hi => (hgv i hi).1)
    obtain ⟨s4, c1, c2, c3, c4, c5⟩ := W_hab (F := F) (S := 0) hI (by omega) (a := -1) (b := -1) (by omega) (fun h _ => ⟨fun _ => by omega, fun _ => kmP0 h⟩) b2
    obtain ⟨r, s5, d1, d2, d3, d4⟩ := W_fu (F := F) (S := 0) (one := false) (most := 3) hI (by omega) (by omega) (fun h hh => hg h hh.1) hG c2 c4 c5
    have w3 : WFr a1 s3 := by
      refine ⟨fun q hq => b3 q ?_ ?_ ?_, fun a ha i => b4 a ?_ i⟩
      · intro e; subst e; cases hq
      · intro e; subst e; cases hq
      · intro e; subst e; cases hq
      · have : ¬ 91 ≤ a := fun w => by rw [wSA_hi w] at ha; cases ha
        omega
    have w5 : WFr a1 s5 := (w3.tr c3.W).tr d3.W
    refine ev_be b1 (ev_be c1 (ev_be d1 ?_))
    obtain ⟨rm, m2, e1, e2, e3, e4⟩ := M_f23 (F := F) hF hI hg 4 F a2 0 (by omega) (by omega) hVa (fun h hh => rfl) (fun j h => by omega)
    have hM' : ∀ Q : Int → St → Prop, Q rm m2 → Ev (f_M_fewest F σ2) Q := fun Q h => hM Q (by rw [if_pos (by omega)]; exact ev_e e1 h)
    rcases d4 with ⟨k1, q1, q2, q3, q4, q5⟩ | ⟨q1, q2⟩
    · rcases e4 with ⟨k2, p1, p2, p3, p4, p5, p6, p7⟩ | ⟨p1, p2, -⟩
      · have ek : k1 = k2 := by
          rcases Nat.lt_trichotomy k1 k2 with w | w | w
          · have := p3 k1 w; omega
          · exact w
          · have := q3 k2 w; omega
        subst ek
        obtain ⟨g1, g2⟩ := cnt_len (s := svw σ2) (one := false) q4
        obtain ⟨g3, g4⟩ := en_lt g1
        generalize hcz : cntK (svw σ2) false (Gm (svw σ2) 0 fun h => gA a2 12 h) k1 = cz at *
        subst g3
        subst q2
        refine ev_g (by omega) ?_
        rw [if_neg (by omega)]
        refine ev_bs (ev_bs ?_)
        rw [q5.1]
        have hsets : gF (sF (sF s5 14 (cz.1 : Nat)) 961 (cz.2.length : Nat)) 14 = (cz.1 : Nat) := by rw [gF_sF, if_neg (by omega), gF_eq]
        obtain ⟨s6, h1, h2, h3, h4⟩ := W_f79 (F := F) (x := cz.2) q1 cz.2.length F (sF (sF s5 14 (cz.1 : Nat)) 961 (cz.2.length : Nat)) 0 (by omega) (by omega) (fun i hi => q5.2 q4 i hi) (fun j h => by omega)
        have hW6 : WV s6 (svw σ2) := WV_of (WV_fr hWa w5) (fun q hq => by rw [h3, gF_sF]; by_cases z : q = 961; (exfalso; omega); rw [if_neg z, gF_sF, if_neg (by omega)]) (fun a ha1 ha2 i => by rw [h4 a (by omega)]; rfl)
        have h94 : ∀ h : Nat, (h : Int) < svw σ2 1 → gA s6 94 h = (fun h => gA a2 12 h) h := fun h hh => by
          rw [h4 94 (by omega)]
          show gA s5 94 h = _
          rw [d3.2 94 (by omega) (by omega) (by omega) (by omega) (by omega), c3.2 94 (by omega) (by omega) (by omega) (by omega) (by omega), b4 94 (by omega)]
          exact (hgv h hh).1
        obtain ⟨s7, j1, j2, j3, j4, j5⟩ := W_fm2 (F := F) (g := fun h => gA a2 12 h) (by omega) hI hg (x := cz.2) q1 g4 g2 (svw σ2 1).toNat F s6 0 hW6 (by omega) (by omega) h2 h94 (fun r k _ h => by omega)
        refine ev_e (h1.trans (by rw [show f_W_findMakerNumbers F s6 (cz.2.length : Nat) = some (0, s7) from j1, bnd_s])) (hM' _ ⟨p2.symm, ?_⟩)
        have cF : ∀ q, q ≠ 961 → q ≠ 1089 → q ≠ 14 → gF s7 q = gF s5 q := fun q z1 z2 z3 => by rw [j4 q z2, h3, gF_sF, if_neg z1, gF_sF, if_neg z3]
        have cA : ∀ a, a < 103 → a ≠ 87 → a ≠ 16 → a ≠ 18 → ∀ i, gA s7 a i = gA s5 a i := fun a z1 z2 z3 z4 i => by rw [j5 a z1 z2 z4, h4 a z3]; rfl
        have gmx := RR_mix (σ1' := s7) (σ2' := m2) (fun q => q == 961 || q == 1089 || q == 14) (fun a => a == 16 || a == 18) (fun q => q == 41 || q == 42) (fun a => a == 15 || a == 16) hz (fun q hq hs => by
          rw [cF q (by intro e; subst e; cases hq) (by intro e; subst e; cases hq) (by intro e; subst e; cases hq)]
          exact w5.1 q hs) (fun a ha hs i => by
          have hlt : a < 91 := by
            rcases Nat.lt_or_ge a 91 with z | z
            · exact z
            · rw [wSA_hi z] at hs; cases hs
          rw [cA a (by omega) (by intro e; subst e; cases hs) (by intro e; subst e; cases ha) (by intro e; subst e; cases ha)]
          exact w5.2 a hs i) (fun q hq hs => e2 q (by intro e; subst e; cases hs) (by intro e; subst e; cases hs) (by intro e; subst e; cases hs) (by intro e; subst e; cases hq) (by intro e; subst e; cases hq)) (fun a ha hs i => e3 a (by intro e; subst e; cases hs) (by intro e; subst e; cases hs) (by intro e; subst e; cases hs) (by intro e; subst e; cases ha) (by intro e; subst e; cases ha) i)
        have hN : RMake s7 m2 := by
          refine Or.inr ⟨by rw [p5]; omega, ?_, by rw [j2, p5], ?_, fun i hi => ?_⟩
          · rw [j4 _ (by omega), h3, gF_eq, p5]
          · rw [j4 _ (by omega), h3, hsets, p6]
          · rw [p5] at hi
            obtain ⟨u1, u2⟩ := p7 p4 i (by omega)
            rw [j5 16 (by omega) (by omega) (by omega), h2 i (by omega), j3 i (by omega), u1, u2]
            exact ⟨rfl, rfl⟩
        exact ⟨gmx.1, gmx.2.1, gmx.2.2.1, gmx.2.2.2.1, gmx.2.2.2.2.1, gmx.2.2.2.2.2.1, gmx.2.2.2.2.2.2.1, ⟨gmx.2.2.2.2.2.2.2.1.1, gmx.2.2.2.2.2.2.2.1.2.1, hN, gmx.2.2.2.2.2.2.2.1.2.2.2⟩, gmx.2.2.2.2.2.2.2.2⟩
      · exfalso
        have := p2 k1 q1
        omega
    · rcases e4 with ⟨k2, p1, p2, p3, p4, p5⟩ | ⟨p1, p2, p3, p4, p5⟩
      · exfalso
        have := q2 k2 p1
        omega
      · subst q1
        refine ev_g (by decide) ?_
        rw [if_pos rfl]
        refine ev_s (hM' _ ⟨p1.symm, RR_fr hz w5 ⟨fun q hq => ?_, fun a ha i => ?_⟩⟩)
        · by_cases z1 : q = 41
          · rw [z1]; exact p3
          · by_cases z2 : q = 42
            · rw [z2]; exact p4
            · exact e2 q (by intro e; subst e; cases hq) (by intro e; subst e; cases hq) (by intro e; subst e; cases hq) z1 z2
        · by_cases z : a = 15 ∨ a = 16
          · exact p5 a z i
          · exact e3 a (by intro e; subst e; cases ha) (by intro e; subst e; cases ha) (by intro e; subst e; cases ha) (by omega) (by omega) i
  · rw [v1, if_neg c]
    refine ev_s (hM _ ?_)
    rw [if_neg (by rcases hh with ⟨⟨rfl, _, _⟩, _⟩ | ⟨rfl, h⟩ <;> omega)]
    exact ev_s ⟨rfl, hz⟩
end
