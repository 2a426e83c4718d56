/-! PURE PART: liars, both loops side by side -/
section
variable {F : Nat} {s : Nat → Int} {g : Nat → Int} {σ0 τ0 : St}
/-- both try -/
theorem L_step (hF : 300000 ≤ F) (hI : MI s) (hg : ∀ h : Nat, (h : Int) < s 1 → 0 ≤ g h ∧ g h < PR (s 0)) (k22 : St → Int → Int → Int → Int → Int → Option (Int × St)) (k32 : St → Int → Int → Option (Int × St)) (k63 : St → Int → Int → Int → Int → Int → Int → Option (Int × St)) {n k c a z y m m2 : Nat} {x4 x6 f : Int} (hn : n ≤ 2) (hk : k ≤ 2) (ha : a < 10) (hz : z < 11) (hx6 : (z : Int) < x6 ∧ x6 ≤ 20) (hc : c ≤ 1000) (hy : y < 10) (hy0 : n = 0 → y = 0) (hy1 : n = 1 → y = a) (hy2 : n = 2 → y = z ∧ (y : Int) < s 1) {σ1 σ2 : St} (hJ : JL s g σ0 τ0 σ1 σ2 n c f) : ∃ σ1' σ2' c' f', l_W_findLiars_56 F k22 (m + 1) σ1 (n : Nat) (k : Nat) (c : Nat) x4 (a : Nat) x6 (z : Nat) = l_W_findLiars_56 F k22 m σ1' (n : Nat) (k : Nat) ((c' : Nat) : Int) x4 (a : Nat) x6 ((z + 1 : Nat) : Int) ∧ l_M_liars_94 F k32 k63 (m2 + 1) σ2 (k : Nat) (n : Nat) (c : Nat) f (s 1) (a : Nat) (y : Nat) = l_M_liars_94 F k32 k63 m2 σ2' (k : Nat) (n : Nat) ((c' : Nat) : Int) f' (s 1) (a : Nat) ((y + 1 : Nat) : Int) ∧ c' ≤ c + 1 ∧ JL s g σ0 τ0 σ1' σ2' n c' f' := by
  obtain ⟨j1, j2, j3, j4, j5, j6, j7⟩ := hJ
  obtain ⟨b1, s1, a1, a2, a3, a4, a5, a6⟩ := W_l56s (F := F) (by omega) hI hg k22 (n := n) (k := k) (c := c) (a := a) (z := z) (y := y) (m := m) (x4 := x4) (x6 := x6) hn hk ha hz hx6 hc ⟨fun h => ⟨(hy2 h).1, hy⟩, hy1, hy0⟩ j1
  obtain ⟨b2, s2, d1, d2, d3⟩ := M_l94s (F := F) hF hI hg k32 k63 (n := n) (k := k) (c := c) (a := a) (y := y) (m := m2) (f := f) hn hk ha hy hy0 hy1 (fun h => (hy2 h).2) hc j3 j4
  have eb : b1 = b2 := by rw [Bool.eq_iff_iff, a1, d1]
  subst eb
  have i5 : gF s1 5059 = s 1 := by rw [a3.1 _ (by omega) (by omega) (by omega) (by omega)]; exact j2
  refine ⟨s1, s2, _, _, a4, d3, by split <;> omega, a2, i5, MV_fr j3 d2.M, fun h hh => by rw [d2.2 12 (by omega) (by omega) (by omega)]; exact j4 h hh, ?_, j6.tr a3, j7.tr d2⟩
  by_cases w : b1 = true ∧ c = 0
  · obtain ⟨e1, e2, e3⟩ := a5 w
    rw [if_pos w.1, if_pos w]
    refine ⟨fun h => by omega, fun _ => ⟨e1, fun hn1 => ?_, fun hn2 => ?_, by omega, by omega⟩⟩
    · rw [e2]; omega
    · have := (hy2 (by omega)).1
      rw [e3]; omega
  · obtain ⟨e1, e2⟩ := a6 w
    rw [if_neg w]
    refine ⟨fun h => ?_, fun h => ?_⟩
    · have c0 : c = 0 := by split at h <;> omega
      obtain ⟨u1, u2⟩ := j5.1 c0
      exact ⟨by rw [e1, u1], fun i => by rw [e2, u2]⟩
    · have c0 : 0 < c := by
        rcases Nat.eq_zero_or_pos c with q | q
        · exfalso
          by_cases w2 : b1 = true
          · exact w ⟨w2, q⟩
          · rw [if_neg w2] at h; omega
        · exact q
      obtain ⟨u1, u2, u3, u4⟩ := j5.2 c0
      exact ⟨by rw [e1]; exact u1, fun h1 => by rw [e2]; exact u2 h1, fun h2 => by rw [e2]; exact u3 h2, u4⟩
/-- two lie: the second -/
theorem L_b2 (hF : 300000 ≤ F) (hI : MI s) (hg : ∀ h : Nat, (h : Int) < s 1 → 0 ≤ g h ∧ g h < PR (s 0)) (k22 : St → Int → Int → Int → Int → Int → Option (Int × St)) (k32 : St → Int → Int → Option (Int × St)) (k63 : St → Int → Int → Int → Int → Int → Int → Option (Int × St)) {n k a : Nat} {x4 : Int} (hn : n = 2) (hk : k ≤ 2) (ha : a < 10) : ∀ (d m m2 : Nat) (σ1 σ2 : St) (y c : Nat) (f : Int), d < m → d < m2 → (y : Int) + d = s 1 → c + d ≤ 1000 → JL s g σ0 τ0 σ1 σ2 n c f → ∃ σ1' σ2' c' f', l_W_findLiars_56 F k22 m σ1 (n : Nat) (k : Nat) (c : Nat) x4 (a : Nat) (s 1) (y : Nat) = k22 σ1' (n : Nat) (k : Nat) ((c' : Nat) : Int) x4 ((a + 1 : Nat) : Int) ∧ l_M_liars_94 F k32 k63 m2 σ2 (k : Nat) (n : Nat) (c : Nat) f (s 1) (a : Nat) (y : Nat) = k63 σ2' (k : Nat) (n : Nat) ((c' : Nat) : Int) f' (s 1) ((a + 1 : Nat) : Int) ∧ c' ≤ c + d ∧ JL s g σ0 τ0 σ1' σ2' n c' f'
  | _, 0, _, _, _, _, _, _, h, _, _, _, _ => absurd h (Nat.not_lt_zero _)
  | _, _ + 1, 0, _, _, _, _, _, _, h, _, _, _ => absurd h (Nat.not_lt_zero _)
  | 0, m + 1, m2 + 1, σ1, σ2, y, c, f, _, _, hy, hc, hJ => by
    have i1 := hI.2.1
    refine ⟨σ1, σ2, c, f, ?_, ?_, by omega, hJ⟩
    · show b_W_findLiars_56 F k22 _ σ1 _ _ _ _ _ _ _ = _
      unfold b_W_findLiars_56
      rw [gd_t (by omega), if_pos (by omega), bv_s]; rfl
    · show b_M_liars_94 F k32 k63 _ σ2 _ _ _ _ _ _ _ = _
      unfold b_M_liars_94
      rw [gd_t (by omega), if_neg (by omega), gd_t (by omega), if_neg (by omega), gd_t (by omega), if_pos (by omega), bv_s]; rfl
  | d + 1, m + 1, m2 + 1, σ1, σ2, y, c, f, h1, h2, hy, hc, hJ => by
    have i1 := hI.2.1
    obtain ⟨s1, s2, c1, f1, e1, e2, e3, e4⟩ := L_step (F := F) hF hI hg k22 k32 k63 (n := n) (k := k) (c := c) (a := a) (z := y) (y := y) (m := m) (m2 := m2) (x4 := x4) (x6 := s 1) (f := f) (by omega) hk ha (by omega) (by omega) (by omega) (by omega) (by omega) (by omega) (fun _ => ⟨rfl, by omega⟩) hJ
    obtain ⟨σ1', σ2', c', f', k1, k2, k3, k4⟩ := L_b2 hF hI hg k22 k32 k63 hn hk ha d m m2 s1 s2 (y + 1) c1 f1 (by omega) (by omega) (by omega) (by omega) e4
    exact ⟨σ1', σ2', c', f', e1.trans k1, e2.trans k2, by omega, k4⟩
/-- none or one lies: once -/
theorem L_b1 (hF : 300000 ≤ F) (hI : MI s) (hg : ∀ h : Nat, (h : Int) < s 1 → 0 ≤ g h ∧ g h < PR (s 0)) (k22 : St → Int → Int → Int → Int → Int → Option (Int × St)) (k32 : St → Int → Int → Option (Int × St)) (k63 : St → Int → Int → Int → Int → Int → Int → Option (Int × St)) {n k a : Nat} {x4 : Int} (hn : n ≤ 1) (hk : k ≤ 2) (ha : a < 10) (ha0 : n = 0 → a = 0) {m m2 : Nat} (hm : 2 ≤ m) (hm2 : 2 ≤ m2) {σ1 σ2 : St} {c : Nat} {f : Int} (hc : c ≤ 1000) (hJ : JL s g σ0 τ0 σ1 σ2 n c f) : ∃ σ1' σ2' c' f', l_W_findLiars_56 F k22 m σ1 (n : Nat) (k : Nat) (c : Nat) x4 (a : Nat) ((a : Int) + 2) ((a : Int) + 1) = k22 σ1' (n : Nat) (k : Nat) ((c' : Nat) : Int) x4 ((a + 1 : Nat) : Int) ∧ l_M_liars_94 F k32 k63 m2 σ2 (k : Nat) (n : Nat) (c : Nat) f (s 1) (a : Nat) (a : Nat) = k63 σ2' (k : Nat) (n : Nat) ((c' : Nat) : Int) f' (s 1) ((a + 1 : Nat) : Int) ∧ c' ≤ c + 1 ∧ JL s g σ0 τ0 σ1' σ2' n c' f' := by
  have i1 := hI.2.1
  obtain ⟨m, rfl⟩ : ∃ q, m = q + 2 := ⟨m - 2, by omega⟩
  obtain ⟨m2, rfl⟩ : ∃ q, m2 = q + 2 := ⟨m2 - 2, by omega⟩
  obtain ⟨s1, s2, c1, f1, e1, e2, e3, e4⟩ := L_step (F := F) hF hI hg k22 k32 k63 (n := n) (k := k) (c := c) (a := a) (z := a + 1) (y := a) (m := m + 1) (m2 := m2 + 1) (x4 := x4) (x6 := (a : Int) + 2) (f := f) (by omega) hk ha (by omega) (by omega) (by omega) (by omega) ha0 (fun _ => rfl) (fun h => by omega) hJ
  refine ⟨s1, s2, c1, f1, ?_, ?_, e3, e4⟩
  · refine Eq.trans e1 ?_
    show b_W_findLiars_56 F k22 _ s1 _ _ _ _ _ _ _ = _
    unfold b_W_findLiars_56
    rw [gd_t (by omega), if_pos (by omega), bv_s]; rfl
  · refine Eq.trans e2 ?_
    show b_M_liars_94 F k32 k63 _ s2 _ _ _ _ _ _ _ = _
    unfold b_M_liars_94
    by_cases h : n = 0
    · have := ha0 h
      rw [gd_t (by omega), if_pos (by omega), gd_t (by omega), if_pos (by omega), bv_s]; rfl
    · rw [gd_t (by omega), if_neg (by omega), gd_t (by omega), if_pos (by omega), gd_t (by omega), if_pos (by omega), bv_s]; rfl
/-- the first -/
theorem L_a (hF : 300000 ≤ F) (hI : MI s) (hg : ∀ h : Nat, (h : Int) < s 1 → 0 ≤ g h ∧ g h < PR (s 0)) (k32 : St → Int → Int → Option (Int × St)) {n k : Nat} {T : Int} (hn : n ≤ 2) (hk : k ≤ 2) (hT : T = if n = 0 then 1 else s 1) : ∀ (d m m2 : Nat) (σ1 σ2 : St) (a c : Nat) (f : Int), d < m → d < m2 → (a : Int) + d = T → c + 10 * d ≤ 500 → JL s g σ0 τ0 σ1 σ2 n c f → ∃ σ1' σ2' c' f', l_W_findLiars_22 F m σ1 (n : Nat) (k : Nat) (c : Nat) T (a : Nat) = (if c' = 0 then some (0, σ1') else some (1, sF σ1' 16 ((c' : Nat) : Int))) ∧ l_M_liars_63 F k32 m2 σ2 (k : Nat) (n : Nat) (c : Nat) f (s 1) (a : Nat) = (if c' = 0 then k32 σ2' (k : Nat) ((n + 1 : Nat) : Int) else some ((n : Nat), sF (sF (sF σ2' 43 (n : Nat)) 44 ((c' : Nat) : Int)) 45 f')) ∧ JL s g σ0 τ0 σ1' σ2' n c' f'
  | _, 0, _, _, _, _, _, _, h, _, _, _, _ => absurd h (Nat.not_lt_zero _)
  | _, _ + 1, 0, _, _, _, _, _, _, h, _, _, _ => absurd h (Nat.not_lt_zero _)
  | 0, m + 1, m2 + 1, σ1, σ2, a, c, f, _, _, hy, hc, hJ => by
    have i1 := hI.2.1
    refine ⟨σ1, σ2, c, f, ?_, ?_, hJ⟩
    · show b_W_findLiars_22 F _ σ1 _ _ _ _ _ = _
      unfold b_W_findLiars_22
      rw [gd_t (by split at hT <;> omega), if_pos (by omega), gd_t (by omega)]
      by_cases c0 : c = 0
      · rw [if_pos (by omega), gd_t (by omega), if_pos (by omega), if_pos c0]
      · rw [if_neg (by omega), bs_s, gd_t (by omega), if_neg (by omega), if_neg c0]
    · show b_M_liars_63 F k32 _ σ2 _ _ _ _ _ _ = _
      unfold b_M_liars_63
      by_cases h : n = 0
      · rw [if_pos h] at hT
        rw [gd_t (by omega), if_pos (by omega), gd_t (by omega), if_pos (by omega), gd_t (by omega)]
        by_cases c0 : c = 0
        · rw [if_pos (by omega), bv_s, if_pos c0]; rfl
        · rw [if_neg (by omega), bs_s, bs_s, bs_s, if_neg c0]
      · rw [if_neg h] at hT
        rw [gd_t (by omega), if_neg (by omega), gd_t (by omega), if_pos (by omega), gd_t (by omega)]
        by_cases c0 : c = 0
        · rw [if_pos (by omega), bv_s, if_pos c0]; rfl
        · rw [if_neg (by omega), bs_s, bs_s, bs_s, if_neg c0]
  | d + 1, m + 1, m2 + 1, σ1, σ2, a, c, f, h1, h2, hy, hc, hJ => by
    have i1 := hI.2.1
    have hTb : (n = 0 → T = 1) ∧ (n ≠ 0 → T = s 1) := ⟨fun h => by rw [hT, if_pos h], fun h => by rw [hT, if_neg h]⟩
    have v5 := hJ.2.1
    have ha : a < 10 := by omega
    have mid : ∃ s1 s2 c1 f1, l_W_findLiars_22 F (m + 1) σ1 (n : Nat) (k : Nat) (c : Nat) T (a : Nat) = l_W_findLiars_22 F m s1 (n : Nat) (k : Nat) ((c1 : Nat) : Int) T ((a + 1 : Nat) : Int) ∧ l_M_liars_63 F k32 (m2 + 1) σ2 (k : Nat) (n : Nat) (c : Nat) f (s 1) (a : Nat) = l_M_liars_63 F k32 m2 s2 (k : Nat) (n : Nat) ((c1 : Nat) : Int) f1 (s 1) ((a + 1 : Nat) : Int) ∧ c1 ≤ c + 10 ∧ JL s g σ0 τ0 s1 s2 n c1 f1 := by
      by_cases h : n ≤ 1
      · obtain ⟨s1, s2, c1, f1, e1, e2, e3, e4⟩ := L_b1 (F := F) hF hI hg (l_W_findLiars_22 F m) k32 (l_M_liars_63 F k32 m2) (n := n) (k := k) (a := a) (x4 := T) (m := F) (m2 := F) h hk ha (fun h => by have := hTb.1 h; omega) (by omega) (by omega) (by omega) hJ
        refine ⟨s1, s2, c1, f1, ?_, ?_, by omega, e4⟩
        · refine Eq.trans ?_ e1
          show b_W_findLiars_22 F _ σ1 _ _ _ _ _ = _
          unfold b_W_findLiars_22
          rw [gd_t (by omega), if_neg (by omega), gd_t (by omega), if_pos (by omega), bv_s, bv_s]
        · refine Eq.trans ?_ e2
          show b_M_liars_63 F k32 _ σ2 _ _ _ _ _ _ = _
          unfold b_M_liars_63
          by_cases h0 : n = 0
          · have := hTb.1 h0
            rw [gd_t (by omega), if_pos (by omega), gd_t (by omega), if_neg (by omega), gd_t (by omega), if_neg (by omega)]
          · have := hTb.2 h0
            rw [gd_t (by omega), if_neg (by omega), gd_t (by omega), if_neg (by omega), gd_t (by omega), if_neg (by omega)]
      · have hT1 := hTb.2 (by omega)
        obtain ⟨s1, s2, c1, f1, e1, e2, e3, e4⟩ := L_b2 (F := F) hF hI hg (l_W_findLiars_22 F m) k32 (l_M_liars_63 F k32 m2) (n := n) (k := k) (a := a) (x4 := T) (by omega) hk ha ((s 1).toNat - (a + 1)) F F σ1 σ2 (a + 1) c f (by omega) (by omega) (by omega) (by omega) hJ
        refine ⟨s1, s2, c1, f1, ?_, ?_, by omega, e4⟩
        · refine Eq.trans ?_ e1
          show b_W_findLiars_22 F _ σ1 _ _ _ _ _ = _
          unfold b_W_findLiars_22
          rw [gd_t (by omega), if_neg (by omega), gd_t (by omega), if_neg (by omega), bv_s, bv_s, v5]; rfl
        · refine Eq.trans ?_ e2
          show b_M_liars_63 F k32 _ σ2 _ _ _ _ _ _ = _
          unfold b_M_liars_63
          rw [gd_t (by omega), if_neg (by omega), gd_t (by omega), if_neg (by omega), gd_t (by omega), if_pos (by omega), bv_s]; rfl
    obtain ⟨s1, s2, c1, f1, e1, e2, e3, e4⟩ := mid
    obtain ⟨σ1', σ2', c', f', k1, k2, k3⟩ := L_a hF hI hg k32 hn hk hT d m m2 s1 s2 (a + 1) c1 f1 (by omega) (by omega) (by omega) (by omega) e4
    exact ⟨σ1', σ2', c', f', e1.trans k1, e2.trans k2, k3⟩
/-- the class finds none where there are too few -/
theorem W_few (hF : 100 ≤ F) (hI : MI s) {n k : Nat} (hn : n ≤ 2) (hn1 : s 1 < (n : Int)) {σ : St} (h5 : gF σ 5059 = s 1) : f_W_findLiars F σ (n : Nat) (k : Nat) = some (0, σ) := by
  have i1 := hI.2.1
  obtain ⟨F', rfl⟩ : ∃ F', F = F' + 2 := ⟨F - 2, by omega⟩
  have fin : ∀ (m a : Nat), s 1 ≤ (a : Int) → a ≤ 20 → l_W_findLiars_22 (F' + 2) (m + 1) σ (n : Nat) (k : Nat) 0 (s 1) (a : Nat) = some (0, σ) := fun m a h1 h2 => by
    show b_W_findLiars_22 (F' + 2) _ σ _ _ _ _ _ = _
    unfold b_W_findLiars_22
    rw [gd_t (by omega), if_pos h1, gd_t (by omega), if_pos (by omega), gd_t (by omega), if_pos (by omega)]
  unfold f_W_findLiars
  rw [gd_t (by omega), if_neg (by omega), bv_s, h5]
  by_cases c : s 1 = 0
  · exact fin (F' + 1) 0 (by omega) (by omega)
  · show b_W_findLiars_22 (F' + 2) _ σ _ _ _ _ _ = _
    unfold b_W_findLiars_22
    rw [gd_t (by omega), if_neg (by omega), gd_t (by omega), if_neg (by omega), bv_s, bv_s, h5]
    show b_W_findLiars_56 (F' + 2) _ _ σ _ _ _ _ _ _ _ = _
    unfold b_W_findLiars_56
    rw [gd_t (by omega), if_pos (by omega), bv_s]
    exact fin F' 1 (by omega) (by omega)
theorem W_few2 (hF : 100 ≤ F) (hI : MI s) {k : Nat} (hk : k ≤ 2) {σ : St} (h5 : gF σ 5059 = s 1) : ∀ (d m n : Nat), d < m → n + d = 3 → s 1 < (n : Int) → l_W_liars_43 F m σ (k : Nat) (n : Nat) = some (-1, σ)
  | _, 0, _, h, _, _ => absurd h (Nat.not_lt_zero _)
  | 0, m + 1, n, _, hn, h => by
    show b_W_liars_43 F _ σ _ _ = _
    unfold b_W_liars_43
    rw [gd_t (by omega), if_pos (by omega)]
  | d + 1, m + 1, n, hm, hn, h => by
    show b_W_liars_43 F _ σ _ _ = _
    unfold b_W_liars_43
    rw [gd_t (by omega), if_neg (by omega), W_few hF hI (by omega) h h5, bnd_s, gd_t (by omega), if_pos rfl, bv_s]
    exact W_few2 hF hI hk h5 d m (n + 1) (by omega) (by omega) (by omega)
/-- how many lie -/
theorem L_n (hF : 300000 ≤ F) (hI : MI s) (hg : ∀ h : Nat, (h : Int) < s 1 → 0 ≤ g h ∧ g h < PR (s 0)) {k : Nat} (hk : k ≤ 2) : ∀ (d m m2 : Nat) (σ1 σ2 : St) (n : Nat) (f : Int), d < m → d < m2 → n + d = 3 → JL s g σ0 τ0 σ1 σ2 n 0 f → (∃ σ1' σ2', l_W_liars_43 F m σ1 (k : Nat) (n : Nat) = some (-1, σ1') ∧ l_M_liars_32 F m2 σ2 (k : Nat) (n : Nat) = some (-1, σ2') ∧ ∃ n' f', JL s g σ0 τ0 σ1' σ2' n' 0 f') ∨ ∃ n' c' f' σ1' σ2', n' ≤ 2 ∧ 0 < c' ∧ l_W_liars_43 F m σ1 (k : Nat) (n : Nat) = some (((n' : Nat) : Int), sF σ1' 16 ((c' : Nat) : Int)) ∧ l_M_liars_32 F m2 σ2 (k : Nat) (n : Nat) = some (((n' : Nat) : Int), sF (sF (sF σ2' 43 (n' : Nat)) 44 ((c' : Nat) : Int)) 45 f') ∧ JL s g σ0 τ0 σ1' σ2' n' c' f'
  | _, 0, _, _, _, _, _, h, _, _, _ => absurd h (Nat.not_lt_zero _)
  | _, _ + 1, 0, _, _, _, _, _, h, _, _ => absurd h (Nat.not_lt_zero _)
  | 0, m + 1, m2 + 1, σ1, σ2, n, f, _, _, hn, hJ => by
    refine Or.inl ⟨σ1, σ2, ?_, ?_, n, f, hJ⟩
    · show b_W_liars_43 F _ σ1 _ _ = _
      unfold b_W_liars_43
      rw [gd_t (by omega), if_pos (by omega)]
    · show b_M_liars_32 F _ σ2 _ _ = _
      unfold b_M_liars_32
      rw [gd_t (by omega), if_pos (by omega)]
  | d + 1, m + 1, m2 + 1, σ1, σ2, n, f, h1, h2, hn, hJ => by
    have i1 := hI.2.1
    have v5 := hJ.2.1
    have v1 : gA σ2 2 (Int.toNat 1) = s 1 := hJ.2.2.1.1 1
    by_cases w : s 1 < (n : Int)
    · refine Or.inl ⟨σ1, σ2, W_few2 (by omega) hI hk v5 (d + 1) (m + 1) n h1 hn w, ?_, n, f, hJ⟩
      show b_M_liars_32 F _ σ2 _ _ = _
      unfold b_M_liars_32
      rw [gd_t (by omega), if_neg (by omega), gd_t (by decide), v1, gd_t (by omega), if_pos (by omega)]
    · have hT0 : ∃ T : Int, T = if n = 0 then 1 else s 1 := ⟨_, rfl⟩
      obtain ⟨T, hT⟩ := hT0
      have hTb : 1 ≤ T ∧ T ≤ 10 ∧ (n = 0 → T = 1) ∧ (n ≠ 0 → T = s 1) := by
        by_cases h : n = 0
        · rw [if_pos h] at hT; omega
        · rw [if_neg h] at hT; omega
      have hJ0 : JL s g σ0 τ0 σ1 σ2 n 0 0 := ⟨hJ.1, hJ.2.1, hJ.2.2.1, hJ.2.2.2.1, ⟨hJ.2.2.2.2.1.1, fun h => absurd h (Nat.lt_irrefl 0)⟩, hJ.2.2.2.2.2⟩
      obtain ⟨s1, s2, c', f', e1, e2, e3⟩ := L_a (F := F) hF hI hg (l_M_liars_32 F m2) (n := n) (k := k) (by omega) hk hT T.toNat F F σ1 σ2 0 0 0 (by omega) (by omega) (by omega) (by omega) hJ0
      have g1 : l_W_liars_43 F (m + 1) σ1 (k : Nat) (n : Nat) = bnd (if c' = 0 then some (0, s1) else some (1, sF s1 16 ((c' : Nat) : Int))) fun r5 σ6 => gd (rng r5) (if r5 = 0 then bv ((n : Int) + 1) fun x2_7 => l_W_liars_43 F m σ6 (k : Nat) x2_7 else some ((n : Nat), σ6)) := by
        rw [← e1]
        show b_W_liars_43 F _ σ1 _ _ = _
        unfold b_W_liars_43
        rw [gd_t (by omega), if_neg (by omega)]
        congr 1
        unfold f_W_findLiars
        rw [gd_t (by omega)]
        by_cases h : n = 0
        · rw [if_pos (by omega), hTb.2.2.1 h]; rfl
        · rw [if_neg (by omega), bv_s, v5, hTb.2.2.2 h]; rfl
      have g2 : l_M_liars_32 F (m2 + 1) σ2 (k : Nat) (n : Nat) = l_M_liars_63 F (l_M_liars_32 F m2) F σ2 (k : Nat) (n : Nat) 0 0 (s 1) 0 := by
        show b_M_liars_32 F _ σ2 _ _ = _
        unfold b_M_liars_32
        rw [gd_t (by omega), if_neg (by omega), gd_t (by decide), v1, gd_t (by omega), if_neg (by omega), gd_t (by decide), bv_s]
      have g3 : l_M_liars_32 F (m2 + 1) σ2 (k : Nat) (n : Nat) = _ := g2.trans e2
      by_cases c0 : c' = 0
      · rw [if_pos c0, bnd_s, gd_t (by omega), if_pos rfl, bv_s] at g1
        rw [if_pos c0] at g3
        rw [g1, g3]
        rw [c0] at e3
        exact L_n hF hI hg hk d m m2 s1 s2 (n + 1) f' (by omega) (by omega) (by omega) ⟨e3.1, e3.2.1, e3.2.2.1, e3.2.2.2.1, ⟨e3.2.2.2.2.1.1, fun h => absurd h (Nat.lt_irrefl 0)⟩, e3.2.2.2.2.2⟩
      · rw [if_neg c0, bnd_s, gd_t (by omega), if_neg (by omega)] at g1
        rw [if_neg c0] at g3
        exact Or.inr ⟨n, c', f', s1, s2, by omega, by omega, g1, g3, e3⟩
theorem s_liars (hF : 300000 ≤ F) : Sp_liars F RR := by
  intro x σ1 σ2 p0 hR h0
  obtain ⟨hI, hW, hV⟩ := RR_view hR
  have i0 := hI.1
  have i1 := hI.2.1
  have hp := PR_b hI.1
  refine sp1 ?_
  obtain ⟨r1, r2, a1, a2, t1, t2, f1, f2, hh⟩ := take_both (F := F) (by omega) hR
  have hz : RR x a1 a2 := RR_take hR f1 f2
  have hWa : WV a1 (svw σ2) := WV_fr (WV_65 hW) f1
  have hVa : MV a2 (svw σ2) := MV_fr (MV_2 hV) f2
  have v1 : gF a1 5059 = svw σ2 1 := hWa.2.1
  have v1m : gA a2 2 (Int.toNat 1) = svw σ2 1 := hVa.1 1
  have rr : rng r1 ∧ rng r2 := by rcases hh with ⟨⟨rfl, _, _⟩, _⟩ | ⟨rfl, h⟩ <;> omega
  unfold f_W_liars
  refine ev_be t1 (ev_g (by omega) ?_)
  have hM : ∀ Q : Int → St → Prop, Ev (if r2 = svw σ2 1 then bnd (f_M_isIn F a2 p0 0 2) fun r4 σ5 => gd (rng r4) (if r4 = 0 then some ((-2), σ5) else l_M_liars_32 F F σ5 p0 0) else some (-2, a2)) Q → Ev (f_M_liars F σ2 p0) Q := by
    intro Q h
    unfold f_M_liars
    refine ev_bs (ev_be t2 (ev_g (by decide) (ev_g (by omega) ?_)))
    rw [v1m]; exact h
  by_cases c : r1 = svw σ2 1
  · rw [v1, if_pos c]
    obtain ⟨⟨e12, -, -⟩, hgv⟩ : (r1 = r2 ∧ 0 ≤ r1 ∧ r1 ≤ 10) ∧ ∀ k : Nat, (k : Int) < r1 → gA a1 94 k = gA a2 12 k ∧ 0 ≤ gA a2 12 k ∧ gA a2 12 k < PR (svw σ2 0) := by
      rcases hh with h | ⟨h, _⟩
      · exact h
      · omega
    have hM2 : ∀ Q : Int → St → Prop, Ev (bnd (f_M_isIn F a2 p0 0 2) fun r4 σ5 => gd (rng r4) (if r4 = 0 then some ((-2), σ5) else l_M_liars_32 F F σ5 p0 0)) Q → Ev (f_M_liars F σ2 p0) Q := fun Q h => hM Q (by rw [if_pos (by omega)]; exact h)
    have bad : ¬ (0 ≤ p0 ∧ p0 ≤ 2) → Ev (f_M_liars F σ2 p0) fun r2 s2 => -2 = r2 ∧ RR x a1 s2 := fun w => hM2 _ (ev_isIn (by omega) (fun h => absurd h w) (fun _ => ev_g (by decide) (by rw [if_pos rfl]; exact ev_s ⟨rfl, hz⟩)))
    refine ev_g (by omega) ?_
    by_cases w1 : p0 < 0
    · rw [if_pos w1]; exact ev_s (bad (by omega))
    · rw [if_neg w1]
      refine ev_g (by omega) ?_
      by_cases w2 : p0 ≤ 2
      · rw [if_pos w2]
        obtain ⟨k, rfl⟩ := Int.eq_ofNat_of_zero_le (show 0 ≤ p0 by omega)
        rw [c] at hgv
        have hg : ∀ h : Nat, (h : Int) < svw σ2 1 → 0 ≤ (fun h => gA a2 12 h) h ∧ (fun h => gA a2 12 h) h < PR (svw σ2 0) := fun h hh => (hgv h hh).2
        obtain ⟨s3, b1, b2, b3, b4⟩ := W_hear (F := F) (g := fun h => gA a2 12 h) hI (by omega) hWa (fun i hi => (hgv i hi).1)
        have w3 : WFr a1 s3 := by
          refine ⟨fun q hq => b3 q ?_ ?_ ?_, fun a ha i => b4 a ?_ i⟩
          · intro e; subst e; cases hq
          · intro e; subst e; cases hq
          · intro e; subst e; cases hq
          · have : ¬ 91 ≤ a := fun w => by rw [wSA_hi w] at ha; cases ha
            omega
        have i5 : gF s3 5059 = svw σ2 1 := by rw [b3 _ (by omega) (by omega) (by omega)]; exact v1
        have hJ : JL (svw σ2) (fun h => gA a2 12 h) s3 a2 s3 a2 0 0 0 := ⟨b2, i5, hVa, fun h hh => rfl, ⟨fun _ => ⟨rfl, fun _ => rfl⟩, fun h => absurd h (Nat.lt_irrefl 0)⟩, WLF.rf, MPF.rf⟩
        have hz3 : RR x s3 a2 := RR_fr hz w3 MFr.rf
        refine ev_be b1 ?_
        have run : ∀ Q : Int → St → Prop, Ev (l_M_liars_32 F F a2 (k : Nat) 0) Q → Ev (f_M_liars F σ2 (k : Nat)) Q := fun Q h => hM2 Q (ev_isIn (by omega) (fun _ => ev_g (by decide) (by rw [if_neg (by decide)]; exact h)) (fun h => absurd ⟨by omega, by omega⟩ h))
        rcases L_n (F := F) hF hI hg (k := k) (by omega) 3 F F s3 a2 0 0 (by omega) (by omega) (by omega) hJ with ⟨s4, s5, e1, e2, n', f', e3⟩ | ⟨n', c', f', s4, s5, q1, q2, e1, e2, e3⟩
        · refine ev_e e1 (run _ (ev_e e2 ⟨rfl, RR_fr hz3 ⟨fun q hq => ?_, fun a ha i => ?_⟩ e3.2.2.2.2.2.2.M⟩))
          · by_cases z : q = 1217
            · rw [z]; exact (e3.2.2.2.2.1.1 rfl).1
            · exact e3.2.2.2.2.2.1.1 q (by intro e; subst e; cases hq) (by intro e; subst e; cases hq) (by intro e; subst e; cases hq) z
          · by_cases z : a = 20
            · rw [z]; exact (e3.2.2.2.2.1.1 rfl).2 i
            · have : ¬ 91 ≤ a := fun w => by rw [wSA_hi w] at ha; cases ha
              exact e3.2.2.2.2.2.1.2 a z (by omega) (by omega) (by omega) (by omega) (by omega) i
        · refine ev_e e1 (run _ (ev_e e2 ⟨rfl, ?_⟩))
          obtain ⟨-, -, -, -, j5, j6, j7⟩ := e3
          have gmx := RR_mix (σ1' := sF s4 16 ((c' : Nat) : Int)) (σ2' := sF (sF (sF s5 43 (n' : Nat)) 44 ((c' : Nat) : Int)) 45 f') (fun q => q == 1217 || q == 16) (fun a => a == 20) (fun q => q == 43 || q == 44 || q == 45) (fun _ => false) hz3 (fun q hq hs => by
            rw [gF_sF, if_neg (by intro e; subst e; cases hq)]
            exact j6.1 q (by intro e; subst e; cases hs) (by intro e; subst e; cases hs) (by intro e; subst e; cases hs) (by intro e; subst e; cases hq)) (fun a ha hs i => by
            have : ¬ 91 ≤ a := fun w => by rw [wSA_hi w] at hs; cases hs
            exact j6.2 a (by intro e; subst e; cases ha) (by omega) (by omega) (by omega) (by omega) (by omega) i) (fun q hq hs => by
            rw [gF_sF, if_neg (by intro e; subst e; cases hq), gF_sF, if_neg (by intro e; subst e; cases hq), gF_sF, if_neg (by intro e; subst e; cases hq)]
            exact j7.M.1 q hs) (fun a _ hs i => j7.M.2 a hs i)
          obtain ⟨u1, u2, u3, u4, u5⟩ := j5.2 q2
          have hN : RLiar (sF s4 16 ((c' : Nat) : Int)) (sF (sF (sF s5 43 (n' : Nat)) 44 ((c' : Nat) : Int)) 45 f') := by
            have x43 : gF (sF (sF (sF s5 43 (n' : Nat)) 44 ((c' : Nat) : Int)) 45 f') 43 = (n' : Nat) := by rw [gF_sF, if_neg (by omega), gF_sF, if_neg (by omega), gF_eq]
            have x44 : gF (sF (sF (sF s5 43 (n' : Nat)) 44 ((c' : Nat) : Int)) 45 f') 44 = ((c' : Nat) : Int) := by rw [gF_sF, if_neg (by omega), gF_eq]
            have x45 : gF (sF (sF (sF s5 43 (n' : Nat)) 44 ((c' : Nat) : Int)) 45 f') 45 = f' := gF_eq
            refine Or.inr ⟨by rw [x43]; omega, ?_, by rw [gF_eq, x44], by rw [x45]; omega, fun h => ?_, fun h => ?_⟩
            · rw [gF_sF, if_neg (by omega), u1, x43]
            · rw [x43] at h
              rw [x45]; exact u2 (by omega)
            · rw [x43] at h
              rw [x45]; exact u3 (by omega)
          exact ⟨gmx.1, gmx.2.1, gmx.2.2.1, gmx.2.2.2.1, gmx.2.2.2.2.1, gmx.2.2.2.2.2.1, gmx.2.2.2.2.2.2.1, ⟨gmx.2.2.2.2.2.2.2.1.1, gmx.2.2.2.2.2.2.2.1.2.1, gmx.2.2.2.2.2.2.2.1.2.2.1, hN, gmx.2.2.2.2.2.2.2.1.2.2.2.2⟩, gmx.2.2.2.2.2.2.2.2⟩
      · rw [if_neg w2]; exact ev_s (bad (by omega))
  · rw [v1, if_neg c]
    refine ev_s (hM _ ?_)
    rw [if_neg (by rcases hh with ⟨⟨rfl, _, _⟩, _⟩ | ⟨rfl, h⟩ <;> omega)]
    exact ev_s ⟨rfl, hz⟩
end
