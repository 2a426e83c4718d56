/-! PURE PART: nulled -/
theorem tb_iff {S k : Nat} : tb S k = S.testBit k := by
  unfold tb
  rw [Nat.testBit_eq_decide_div_mod_eq]
  by_cases h : S / 2 ^ k % 2 = 1
  · rw [h]; rfl
  · rw [decide_eq_false h]; simpa using h
def dupB (b : Nat → Int) (i : Nat) : Bool := (List.range i).any fun k => b k == b i
def ulF (b : Nat → Int) (n : Int) : Nat → Nat → Bool
  | 0, _ => true
  | d + 1, i => if 0 ≤ b i ∧ b i < n then (if dupB b i then false else ulF b n d (i + 1)) else false
theorem dupB_iff {b : Nat → Int} {i : Nat} : dupB b i = true ↔ ∃ k, k < i ∧ b k = b i := by
  unfold dupB
  rw [List.any_eq_true]
  constructor
  · rintro ⟨k, h1, h2⟩
    exact ⟨k, List.mem_range.mp h1, by simpa using h2⟩
  · rintro ⟨k, h1, h2⟩
    exact ⟨k, List.mem_range.mpr h1, by simpa using h2⟩
section
variable {F : Nat} {σ : St} {s : Nat → Int}
theorem W_ul (hI : MI s) (hV : WV σ s) {b : Nat → Int} {L : Nat} (hL : L ≤ 7) (hb : ∀ i, i < L → gA σ 2 i = b i ∧ 0 ≤ b i ∧ b i ≤ 255) : ∀ (d m i acc : Nat), d < m → i + d = L → acc < 2 ^ 60 → (∀ e, e < 60 → (acc.testBit e = true ↔ ∃ k, k < i ∧ b k = e)) → l_W_unlikeDirections_5 F m σ (L : Nat) (acc : Nat) (i : Nat) = some (bi (ulF b (s 0) d i), σ)
  | _, 0, _, _, h, _, _, _ => by omega
  | 0, m + 1, i, acc, _, hd, ha, hA => by
    simp only [l_W_unlikeDirections_5, b_W_unlikeDirections_5, bv]
    rw [gd_t (by omega), if_pos (by omega)]; rfl
  | d + 1, m + 1, i, acc, hm, hd, ha, hA => by
    have i0 := hI.1
    obtain ⟨h1, h2, h3⟩ := hb i (by omega)
    simp only [l_W_unlikeDirections_5, b_W_unlikeDirections_5, bv, Int.toNat_natCast, h1]
    rw [gd_t (by omega), if_neg (by omega), gd_t (by omega)]
    unfold ulF
    apply ev_eq
    refine ev_has' hV.1.1 (by omega) (fun c => ?_) (fun c => ?_)
    · refine ev_g (by decide) ?_
      rw [if_neg (by decide), if_pos c]
      obtain ⟨e, he⟩ := Int.eq_ofNat_of_zero_le c.1
      have he60 : e < 60 := by omega
      rw [he]
      have hdiv : (acc : Int) / 2 ^ e = ((acc / 2 ^ e : Nat) : Int) := by simp
      have hle : acc / 2 ^ e ≤ acc := Nat.div_le_self _ _
      have hland : landI ((acc / 2 ^ e : Nat) : Int) 1 = ((acc / 2 ^ e % 2 : Nat) : Int) := by
        have := landN (acc / 2 ^ e) 1 (by omega) (by omega)
        rw [Nat.and_one_is_mod] at this
        exact this
      refine ev_g (by omega) ?_
      simp only [Int.toNat_natCast, hdiv, hland]
      refine ev_g (by omega) ?_
      have hbit : dupB b i = true ↔ acc / 2 ^ e % 2 = 1 := by
        rw [dupB_iff]
        have h4 := hA e he60
        rw [← tb_iff] at h4
        unfold tb at h4
        rw [he, ← h4]
        simp
      by_cases q : acc / 2 ^ e % 2 = 1
      · rw [if_neg (by omega), if_pos (hbit.mpr q)]
        exact ev_s rfl
      · rw [if_pos (by omega), if_neg (fun z => q (hbit.mp z))]
        have hl := lor_pow ha he60
        refine ev_g (by omega) ?_
        rw [hl.1]
        refine ev_e (W_ul hI hV hL hb d m (i + 1) (acc ||| 2 ^ e) (by omega) (by omega) hl.2 (fun e' he' => ?_)) rfl
        rw [Nat.testBit_or, Nat.testBit_two_pow, Bool.or_eq_true, hA e' he']
        constructor
        · rintro (⟨k, g1, g2⟩ | g)
          · exact ⟨k, by omega, g2⟩
          · have g' : e = e' := by simpa using g
            exact ⟨i, by omega, by rw [he, g']⟩
        · rintro ⟨k, g1, g2⟩
          by_cases z : k = i
          · right; rw [z, he] at g2; simp; omega
          · exact Or.inl ⟨k, by omega, g2⟩
    · refine ev_g (by decide) ?_
      rw [if_pos rfl, if_neg c]
      exact ev_s rfl
theorem M_n53 (k29 : St → Int → Option (Int × St)) {b : Nat → Int} {L i : Nat} (hL : L ≤ 7) (hi : i < L) (hb : ∀ i, i < L → gA σ 1 i % 256 = b i) : ∀ (d m k : Nat), d < m → k + d = i → (∀ j, j < k → b j ≠ b i) → l_M_nulled_53 F k29 m σ (i : Nat) (k : Nat) = if dupB b i then some (0, σ) else k29 σ ((i : Int) + 1)
  | _, 0, _, h, _, _ => by omega
  | 0, m + 1, k, _, hd, hn => by
    simp only [l_M_nulled_53, b_M_nulled_53, bv]
    rw [gd_t (by omega), if_pos (by omega), if_neg (fun z => by
      obtain ⟨j, h1, h2⟩ := dupB_iff.mp z
      exact hn j (by omega) h2)]
  | d + 1, m + 1, k, hm, hd, hn => by
    have h1 := hb k (by omega)
    have h2 := hb i hi
    simp only [l_M_nulled_53, b_M_nulled_53, bv]
    rw [gd_t (by omega), if_neg (by omega), M_octet (by omega), bnd_s, M_octet (by omega), bnd_s, Int.toNat_natCast, Int.toNat_natCast, h1, h2, gd_t (by omega)]
    by_cases c : b k = b i
    · rw [if_pos c, if_pos (dupB_iff.mpr ⟨k, by omega, c⟩)]
    · rw [if_neg c]
      exact M_n53 k29 hL hi hb d m (k + 1) (by omega) (by omega) (fun j hj => by
        by_cases q : j = k
        · rw [q]; exact c
        · exact hn j (by omega))
theorem M_n29 (hF : 100 ≤ F) (hI : MI s) (hV : MV σ s) {b : Nat → Int} {L : Nat} (hL : L ≤ 7) (h3 : gF σ 3 = (L : Nat)) (hb : ∀ i, i < L → gA σ 1 i % 256 = b i) : ∀ (d m i : Nat), d < m → i + d = L → l_M_nulled_29 F m σ (i : Nat) = if ulF b (s 0) d i then l_M_nulled_107 F F (sF (sF σ 25 (s 1 + 1)) 26 (L : Nat)) 0 else some (0, σ)
  | _, 0, _, h, _ => by omega
  | 0, m + 1, i, _, hd => by
    have v1 := hV.1 1
    simp only [l_M_nulled_29, b_M_nulled_29, bv, bs, Int.reduceToNat]
    rw [gd_t (by omega), if_pos (by omega), gd_t (by decide), v1, show gF (sF σ 25 (s 1 + 1)) 3 = (L : Int) from h3, show ulF b (s 0) 0 i = true from rfl, if_pos rfl]
  | d + 1, m + 1, i, hm, hd => by
    have i0 := hI.1
    have h1 := hb i (by omega)
    simp only [l_M_nulled_29, b_M_nulled_29, bv, bs, Int.reduceToNat]
    rw [gd_t (by omega), if_neg (by omega), M_octet (by omega), bnd_s, Int.toNat_natCast, h1]
    have hX : ∀ X : Option (Int × St), (∀ Q : Int → St → Prop, True) → X = X := fun _ _ => rfl
    unfold ulF
    have h53 := M_n53 (F := F) (l_M_nulled_29 F m) hL (show i < L by omega) hb i F 0 (by omega) (by omega) (fun j hj => by omega)
    have ih := M_n29 hF hI hV hL h3 hb d m (i + 1) (by omega) (by omega)
    have hway : f_M_isWay F σ (b i) = if 0 ≤ b i ∧ b i < s 0 then some (1, σ) else some (0, σ) := by
      have hbb : 0 ≤ b i ∧ b i ≤ 255 := by rw [← h1]; omega
      have v0 := hV.1 0
      unfold f_M_isWay f_M_isIn
      simp only [Int.reduceToNat]
      rw [gd_t (by decide), gd_t (by omega), if_neg (by omega), gd_t (by omega)]
      by_cases c2 : gA σ 2 0 - 1 < b i
      · rw [if_pos c2, bnd_s, gd_t (by decide), if_neg (by omega)]
      · rw [if_neg c2, bnd_s, gd_t (by decide), if_pos (by omega)]
    rw [hway]
    by_cases c : 0 ≤ b i ∧ b i < s 0
    · rw [if_pos c, if_pos c, bnd_s, gd_t (by decide), if_neg (by decide)]
      refine h53.trans ?_
      cases q : dupB b i with
      | true => rfl
      | false => rw [if_neg (by decide)]; exact ih
    · rw [if_neg c, if_neg c, bnd_s, gd_t (by decide), if_pos rfl, if_neg (by decide)]
/-- the rows of numbers that are to be found -/
def NQ (s : Nat → Int) (b : Nat → Int) : Nat → Nat → Int := fun r k => if k < (s 1).toNat then gnS s k * wvS s (b r) (plS s k) % PR (s 0) else if r = 0 then 1 else 0
theorem NQ_can (hI : MI s) {b : Nat → Int} {high wide : Nat} : Can (PR (s 0)) high wide (NQ s b) := by
  intro r k _ _
  have hp := PR_b hI.1
  unfold NQ
  split
  · exact modb (by omega)
  · split <;> omega
theorem W_n46 (hI : MI s) (k39 : St → Int → Int → Option (Int × St)) {b : Nat → Int} {L r : Nat} (hL : L ≤ 7) (hr : r < L) (hbr : 0 ≤ b r ∧ b r < s 0) : ∀ (d m : Nat) (σ : St) (k : Nat), WV σ s → gA σ 2 r = b r → d < m → k + d = (s 1).toNat → PW2 σ ((s 1).toNat + 1) r k (NQ s b) → ∃ σ', l_W_nulled_46 F k39 m σ (L : Nat) (r : Nat) (k : Nat) = k39 σ' (L : Nat) ((r : Int) + 1) ∧ PW2 σ' ((s 1).toNat + 1) (r + 1) 0 (NQ s b) ∧ RFr σ σ'
  | _, 0, _, _, _, _, h, _, _ => by omega
  | 0, m + 1, σ, k, hV, hg, _, hd, hP => by
    have i1 := hI.2.1
    have v1 := hV.2.1
    have hk : k = (s 1).toNat := by omega
    subst hk
    have e1 : Int.toNat (gF σ 5059) = (s 1).toNat := by rw [v1]
    refine ⟨sA σ (103 + r) (s 1).toNat (NQ s b r (s 1).toNat), ?_, PW2_row (PW2_set hP rfl), RFr_set⟩
    simp only [l_W_nulled_46, b_W_nulled_46, bv, bs, Int.toNat_natCast, e1]
    rw [gd_t (by omega), if_pos (by omega), gd_t (by omega), gd_t (by omega)]
    have hq : NQ s b r (s 1).toNat = if r = 0 then 1 else 0 := by unfold NQ; rw [if_neg (by omega)]
    rw [hq]
    by_cases c : r = 0
    · rw [if_pos (by omega), if_pos c, gd_t (by omega)]
    · rw [if_neg (by omega), if_neg c, gd_t (by omega)]
  | d + 1, m + 1, σ, k, hV, hg, hm, hd, hP => by
    have i0 := hI.1
    have i1 := hI.2.1
    have v1 := hV.2.1
    have hfr : RFr σ (sA σ (103 + r) k (NQ s b r k)) := RFr_set
    obtain ⟨σ', k1, k2, k3⟩ := W_n46 hI k39 hL hr hbr d m (sA σ (103 + r) k (NQ s b r k)) (k + 1) (WV_fr hV hfr.W) (by rw [gA_sA, if_neg (by omega)]; exact hg) (by omega) (by omega) (PW2_set hP rfl)
    refine ⟨σ', ?_, k2, hfr.tr k3⟩
    have hv : gnS s k * wvS s (b r) (plS s k) % PR (s 0) = NQ s b r k := by unfold NQ; rw [if_pos (by omega)]
    simp only [l_W_nulled_46, b_W_nulled_46, bv, bs, Int.toNat_natCast, hg]
    rw [gd_t (by omega), if_neg (by omega), gd_t (by omega), gd_t (by omega), W_gained hI hV (by omega) hbr, bnd_s, gd_t (by omega), hv]
    exact k1
theorem W_n39 (hF : 200 ≤ F) (hI : MI s) {b : Nat → Int} {L : Nat} (hL : L ≤ 7) (hbr : ∀ r, r < L → 0 ≤ b r ∧ b r < s 0) : ∀ (d m : Nat) (σ : St) (r : Nat), WV σ s → (∀ i, i < L → gA σ 2 i = b i) → d < m → r + d = L → PW2 σ ((s 1).toNat + 1) r 0 (NQ s b) → ∃ σ' σ1, l_W_nulled_39 F m σ (L : Nat) (r : Nat) = some (bi (mdB (PR (s 0)) L (s 1).toNat (NQ s b)), σ') ∧ Can (PR (s 0)) L ((s 1).toNat + 1) (el (PR (s 0)) L (s 1).toNat (NQ s b)).2.1 ∧ (mdB (PR (s 0)) L (s 1).toNat (NQ s b) = true → gF σ' 1345 = ((s 1).toNat : Int) ∧ ∀ c, c < (s 1).toNat → gA σ' 22 c = shS (PR (s 0)) L (s 1).toNat (NQ s b) c) ∧ (mdB (PR (s 0)) L (s 1).toNat (NQ s b) = false → gF σ' 1345 = gF σ 1345 ∧ ∀ c, gA σ' 22 c = gA σ 22 c) ∧ (∀ q, q ≠ 1345 → gF σ' q = gF σ q) ∧ (∀ a, a < 103 → a ≠ 87 → a ≠ 22 → ∀ j, gA σ' a j = gA σ a j) ∧ RFr σ σ1
  | _, 0, _, _, _, _, h, _, _ => by omega
  | 0, m + 1, σ, r, hV, hg, _, hd, hP => by
    have i1 := hI.2.1
    have v1 := hV.2.1
    obtain ⟨σ', k1, k2, k3, k4, k5, k6⟩ := W_solve_nulls (F := F) hF hI.1 (σ := σ) (high := L) (cols := (s 1).toNat) (A := NQ s b) (by omega) (by omega) (by omega) (fun r' k' h1 h2 => hP r' k' h2 (by omega)) (NQ_can hI)
    refine ⟨σ', σ, ?_, k2, k3, k4, k5, k6, RFr.rf⟩
    simp only [l_W_nulled_39, b_W_nulled_39, bv, bs]
    rw [gd_t (by omega), if_pos (by omega), v1, hV.1.2.1, show s 1 = ((s 1).toNat : Int) by omega, Int.toNat_natCast, k1, bnd_s]
    cases mdB (PR (s 0)) L (s 1).toNat (NQ s b) <;> exact gd_t (by decide)
  | d + 1, m + 1, σ, r, hV, hg, hm, hd, hP => by
    have i1 := hI.2.1
    obtain ⟨s1, j1, j2, j3⟩ := W_n46 (F := F) hI (l_W_nulled_39 F m) hL (show r < L by omega) (hbr r (by omega)) (s 1).toNat F σ 0 hV (hg r (by omega)) (by omega) (by omega) hP
    obtain ⟨σ', σ1, k1, k2, k3, k4, k5, k6, k7⟩ := W_n39 hF hI hL hbr d m s1 (r + 1) (WV_fr hV j3.W) (fun i hi => by rw [j3.2 2 (by omega) (by omega)]; exact hg i hi) (by omega) (by omega) j2
    refine ⟨σ', σ1, ?_, k2, k3, fun h => ⟨(k4 h).1.trans (j3.1 _), fun c => ((k4 h).2 c).trans (j3.2 22 (by omega) (by omega) c)⟩, fun q hq => (k5 q hq).trans (j3.1 q), fun a h1 h2 h3 j => (k6 a h1 h2 h3 j).trans (j3.2 a h1 h2 j), j3.tr k7⟩
    simp only [l_W_nulled_39, b_W_nulled_39, bv, bs]
    rw [gd_t (by omega), if_neg (by omega)]
    exact j1.trans k1
theorem M_n117 (hI : MI s) (k107 : St → Int → Option (Int × St)) {b : Nat → Int} {L r : Nat} (hL : L ≤ 7) (hr : r < L) (hbr : 0 ≤ b r ∧ b r < s 0) : ∀ (d m : Nat) (σ : St) (k : Nat), MV σ s → gA σ 1 r % 256 = b r → gF σ 25 = (((s 1).toNat + 1 : Nat) : Int) → d < m → k + d = (s 1).toNat → PM σ ((s 1).toNat + 1) r k (NQ s b) → ∃ σ', l_M_nulled_117 F k107 m σ (r : Nat) (k : Nat) = k107 σ' ((r : Int) + 1) ∧ PM σ' ((s 1).toNat + 1) (r + 1) 0 (NQ s b) ∧ (∀ q, gF σ' q = gF σ q) ∧ ∀ a, a ≠ 7 → ∀ i, gA σ' a i = gA σ a i
  | _, 0, _, _, _, _, _, h, _, _ => by omega
  | 0, m + 1, σ, k, hV, hg, h25, _, hd, hP => by
    have i1 := hI.2.1
    have v1 := hV.1 1
    have hk : k = (s 1).toNat := by omega
    subst hk
    have lt := ixE_lt (wide := (s 1).toNat + 1) (high := 10) (r := r) (k := (s 1).toNat) (by omega) (by omega)
    have e1 : (((s 1).toNat + 1 : Nat) : Int) * ((r : Nat) : Int) + (((s 1).toNat + 1 : Nat) : Int) - 1 = (((((s 1).toNat + 1) * r + (s 1).toNat : Nat)) : Int) := by rw [← ix_c]; omega
    refine ⟨sA σ 7 (((s 1).toNat + 1) * r + (s 1).toNat) (NQ s b r (s 1).toNat), ?_, PM_row (PM_set hP (by omega) rfl), fun _ => rfl, fun a ha i => by rw [gA_sA, if_neg (fun z => ha z.1)]⟩
    simp only [l_M_nulled_117, b_M_nulled_117, bv, bs, Int.reduceToNat, h25, e1, Int.toNat_natCast]
    rw [gd_t (by decide), gd_t (by omega), if_pos (by omega), gd_t (by omega)]
    have hq : NQ s b r (s 1).toNat = if r = 0 then 1 else 0 := by unfold NQ; rw [if_neg (by omega)]
    rw [hq]
    by_cases c : r = 0
    · rw [if_pos (by omega), if_pos c, gd_t (by omega)]
    · rw [if_neg (by omega), if_neg c, gd_t (by omega)]
  | d + 1, m + 1, σ, k, hV, hg, h25, hm, hd, hP => by
    have i0 := hI.1
    have i1 := hI.2.1
    have v1 := hV.1 1
    have hp := PR_b hI.1
    have bb := hI.2.2.2.2.2.2.1 k (by omega) (by omega)
    have hw := wvS_b hI (b r) (plS s k)
    have q := mulb (a := gnS s k) (b := wvS s (b r) (plS s k)) (A := 1500) (B := 1500) (by omega) (by omega) (by omega) (by omega)
    have lt := ixE_lt (wide := (s 1).toNat + 1) (high := 10) (r := r) (k := k) (by omega) (by omega)
    have t1 : Int.toNat ((((s 1).toNat + 1 : Nat) : Int) * (r : Int) + (k : Int)) = ((s 1).toNat + 1) * r + k := by rw [ix_c]; omega
    have g1 : inb ((((s 1).toNat + 1 : Nat) : Int) * (r : Int) + (k : Int)) 2800 := by rw [ix_c]; omega
    have hfr : MFr σ (sA σ 7 (((s 1).toNat + 1) * r + k) (NQ s b r k)) := MFr.rf.sA rfl
    obtain ⟨σ', k1, k2, k3, k4⟩ := M_n117 hI k107 hL hr hbr d m _ (k + 1) (MV_fr hV hfr) (by rw [gA_sA, if_neg (by omega)]; exact hg) h25 (by omega) (by omega) (PM_set hP (by omega) rfl)
    refine ⟨σ', ?_, k2, k3, fun a ha i => by rw [k4 a ha, gA_sA, if_neg (fun z => ha z.1)]⟩
    have hv : gnS s k * wvS s (b r) (plS s k) % PR (s 0) = NQ s b r k := by unfold NQ; rw [if_pos (by omega)]
    simp only [l_M_nulled_117, b_M_nulled_117, bv, bs, Int.reduceToNat]
    rw [gd_t (by decide), gd_t (by omega), if_neg (by omega), M_gain hI hV (by omega), bnd_s, M_octet (by omega), bnd_s, Int.toNat_natCast, hg, M_place hI hV (by omega), bnd_s, M_waveOf hI hV (by omega) bb.1, bnd_s, hV.2.1, gd_t ⟨by omega, by omega, by omega⟩, tmE q.1, hv]
    simp only [h25, t1]
    rw [gd_t g1]
    exact k1
theorem M_n225 {n : Int} (hn : wayN n) {high cols : Nat} {A : Nat → Nat → Int} (hsz : (cols + 1) * high ≤ 2800) (hc1 : cols ≤ 10) : ∀ (d m : Nat) (σ : St) (c : Nat), d < m → c + d = cols → gF σ 25 = ((cols + 1 : Nat) : Int) → gF σ 47 = (cols : Int) → MB σ high (cols + 1) (el (PR n) high cols A).2.1 → (∀ i, i < cols → gA σ 8 i = (el (PR n) high cols A).2.2.1 i) → (∀ i, i < c → gA σ 17 i = shS (PR n) high cols A i) → ∃ σ', l_M_nulled_225 F m σ (c : Nat) = some (1, σ') ∧ (∀ i, i < cols → gA σ' 17 i = shS (PR n) high cols A i) ∧ (∀ q, gF σ' q = gF σ q) ∧ ∀ a, a ≠ 17 → ∀ i, gA σ' a i = gA σ a i
  | _, 0, _, _, h, _, _, _, _, _, _ => by omega
  | 0, m + 1, σ, c, _, hd, h25, h47, hM, hl, hA => by
    refine ⟨σ, ?_, fun i hi => hA i (by omega), fun _ => rfl, fun _ _ _ => rfl⟩
    simp only [l_M_nulled_225, b_M_nulled_225, bv, bs]
    rw [gd_t (by omega), if_pos (by omega)]
  | d + 1, m + 1, σ, c, hm, hd, h25, h47, hM, hl, hA => by
    have hsh := M_share (F := F) (σ := σ) hn hsz (show c < cols by omega) (by omega) h25 hM hl
    have hM' : MB (sA σ 17 c (shS (PR n) high cols A c)) high (cols + 1) (el (PR n) high cols A).2.1 := fun r k a b => by rw [gA_sA, if_neg (by omega)]; exact hM r k a b
    obtain ⟨σ', k1, k2, k3, k4⟩ := M_n225 hn hsz hc1 d m (sA σ 17 c (shS (PR n) high cols A c)) (c + 1) (by omega) (by omega) h25 h47 hM' (fun i hi => by rw [gA_sA, if_neg (by omega)]; exact hl i hi) (fun i hi => by
      rw [gA_sA]
      by_cases q : i = c
      · rw [if_pos ⟨rfl, q⟩, q]
      · rw [if_neg (fun z => q z.2)]; exact hA i (by omega))
    refine ⟨σ', ?_, k2, k3, fun a ha i => by rw [k4 a ha, gA_sA, if_neg (fun z => ha z.1)]⟩
    simp only [l_M_nulled_225, b_M_nulled_225, bv, bs]
    rw [gd_t (by omega), if_neg (by omega), hsh, bnd_s, gd_t (by omega), Int.toNat_natCast]
    exact k1
theorem M_n107 (hF : 3000 ≤ F) (hI : MI s) {b : Nat → Int} {L : Nat} (hL1 : 1 ≤ L) (hL : L ≤ 7) (hbr : ∀ r, r < L → 0 ≤ b r ∧ b r < s 0) : ∀ (d m : Nat) (σ : St) (r : Nat), MV σ s → (∀ i, i < L → gA σ 1 i % 256 = b i) → gF σ 3 = (L : Nat) → gF σ 25 = (((s 1).toNat + 1 : Nat) : Int) → gF σ 26 = (L : Nat) → d < m → r + d = L → PM σ ((s 1).toNat + 1) r 0 (NQ s b) → ∃ σ', l_M_nulled_107 F m σ (r : Nat) = some (bi (mdB (PR (s 0)) L (s 1).toNat (NQ s b)), σ') ∧ (mdB (PR (s 0)) L (s 1).toNat (NQ s b) = true → gF σ' 47 = ((s 1).toNat : Int) ∧ ∀ c, c < (s 1).toNat → gA σ' 17 c = shS (PR (s 0)) L (s 1).toNat (NQ s b) c) ∧ (mdB (PR (s 0)) L (s 1).toNat (NQ s b) = false → gF σ' 47 = gF σ 47 ∧ ∀ c, gA σ' 17 c = gA σ 17 c) ∧ (∀ q, q ≠ 47 → mSF q = false → gF σ' q = gF σ q) ∧ ∀ a, a ≠ 17 → mSA a = false → ∀ i, gA σ' a i = gA σ a i
  | _, 0, _, _, _, _, _, _, _, h, _, _ => by omega
  | 0, m + 1, σ, r, hV, hg, h3, h25, h26, _, hd, hP => by
    have i1 := hI.2.1
    have hle : ((s 1).toNat + 1) * L ≤ 11 * 7 := Nat.mul_le_mul (by omega) hL
    obtain ⟨σ1, k1, k2, k3, k4, k5, k6, k7⟩ := M_isMade (F := F) hF hI.1 (σ := σ) (high := L) (cols := (s 1).toNat) (A := NQ s b) (by omega) (by omega) (by omega) h25 h26 hV.2.1 (fun r' k' h1 h2 => hP r' k' h2 (by omega)) (NQ_can hI)
    have hfr : MFr σ σ1 := ⟨fun q hq => k6 q (by intro e; subst e; cases hq), fun a ha i => k7 a (by intro e; subst e; cases ha) (by intro e; subst e; cases ha) i⟩
    have hstart : l_M_nulled_107 F (m + 1) σ (r : Nat) = gd (rng (bi (mdB (PR (s 0)) L (s 1).toNat (NQ s b)))) (if bi (mdB (PR (s 0)) L (s 1).toNat (NQ s b)) = 0 then some (0, σ1) else gd (inb 1 82) (l_M_nulled_225 F F (sF σ1 47 (gA σ1 2 1)) 0)) := by
      simp only [l_M_nulled_107, b_M_nulled_107, bv, bs, Int.reduceToNat]
      rw [gd_t (by omega), if_pos (by omega), k1, bnd_s]
    rw [hstart]
    cases q : mdB (PR (s 0)) L (s 1).toNat (NQ s b) with
    | false =>
      rw [gd_t (by decide), if_pos (by decide)]
      exact ⟨σ1, rfl, fun h => (by cases h), fun _ => ⟨hfr.1 47 rfl, fun c => hfr.2 17 rfl c⟩, fun q _ h2 => hfr.1 q h2, fun a _ h2 i => hfr.2 a h2 i⟩
    | true =>
      have v1 : gA σ1 2 1 = ((s 1).toNat : Int) := by rw [(MV_fr hV hfr).1 1]; omega
      rw [gd_t (by decide), if_neg (by decide), gd_t (by decide), v1]
      obtain ⟨σ', j1, j2, j3, j4⟩ := M_n225 (F := F) hI.1 (high := L) (cols := (s 1).toNat) (A := NQ s b) (by omega) (by omega) (s 1).toNat F (sF σ1 47 ((s 1).toNat : Int)) 0 (by omega) (by omega) (by rw [gF_sF, if_neg (by omega), k6 _ (by omega)]; exact h25) gF_eq k2 k5 (fun i hi => by omega)
      exact ⟨σ', j1, fun _ => ⟨by rw [j3, gF_eq], j2⟩, fun h => (by cases h), fun q h1 h2 => by rw [j3, gF_sF, if_neg h1]; exact hfr.1 q h2, fun a h1 h2 i => by rw [j4 a h1]; exact hfr.2 a h2 i⟩
  | d + 1, m + 1, σ, r, hV, hg, h3, h25, h26, hm, hd, hP => by
    have i1 := hI.2.1
    obtain ⟨s1, j1, j2, j3, j4⟩ := M_n117 (F := F) hI (l_M_nulled_107 F m) hL (show r < L by omega) (hbr r (by omega)) (s 1).toNat F σ 0 hV (hg r (by omega)) h25 (by omega) (by omega) hP
    have hfr : MFr σ s1 := ⟨fun q _ => j3 q, fun a ha i => j4 a (by intro e; subst e; cases ha) i⟩
    obtain ⟨σ', k1, k2, k3, k4, k5⟩ := M_n107 hF hI hL1 hL hbr d m s1 (r + 1) (MV_fr hV hfr) (fun i hi => by rw [j4 1 (by omega)]; exact hg i hi) (by rw [j3]; exact h3) (by rw [j3]; exact h25) (by rw [j3]; exact h26) (by omega) (by omega) j2
    refine ⟨σ', ?_, k2, fun h => ⟨(k3 h).1.trans (j3 _), fun c => ((k3 h).2 c).trans (j4 17 (by omega) c)⟩, fun q h1 h2 => (k4 q h1 h2).trans (j3 q), fun a h1 h2 i => (k5 a h1 h2 i).trans (j4 a (by intro e; subst e; cases h2) i)⟩
    simp only [l_M_nulled_107, b_M_nulled_107, bv, bs]
    rw [gd_t (by omega), if_neg (by omega)]
    exact j1.trans k1
end
theorem ulF_all {b : Nat → Int} {n : Int} : ∀ d i, ulF b n d i = true → ∀ k, i ≤ k → k < i + d → 0 ≤ b k ∧ b k < n
  | 0, i, _, k, h1, h2 => by omega
  | d + 1, i, h, k, h1, h2 => by
    unfold ulF at h
    by_cases c : 0 ≤ b i ∧ b i < n
    · rw [if_pos c] at h
      cases q : dupB b i with
      | true => rw [q, if_pos rfl] at h; cases h
      | false =>
        rw [q, if_neg (by decide)] at h
        by_cases e : k = i
        · rw [e]; exact c
        · exact ulF_all d (i + 1) h k (by omega) (by omega)
    · rw [if_neg c] at h; cases h
section
variable {F : Nat}
theorem s_nulled (hF : 3000 ≤ F) : Sp_nulled F RR := by
  intro x σ1 σ2 hR
  obtain ⟨hI, hW, hV⟩ := RR_view hR
  have i0 := hI.1
  have i1 := hI.2.1
  have hp := PR_b hI.1
  obtain ⟨t1, t2, t3, t4⟩ := hR.1
  obtain ⟨L, hL⟩ := Int.eq_ofNat_of_zero_le t2
  have hm : MFr (sF σ2 2 0) (sF (sF (sF (sF (sF σ2 0 0) 3 (L : Nat)) 2 0) 4 0) 5 940) := by
    refine ⟨fun q hq => ?_, fun _ _ _ => rfl⟩
    have n0 : q ≠ 0 := by intro e; subst e; cases hq
    have n3 : q ≠ 3 := by intro e; subst e; cases hq
    have n4 : q ≠ 4 := by intro e; subst e; cases hq
    have n5 : q ≠ 5 := by intro e; subst e; cases hq
    simp only [gF_sF, if_neg n0, if_neg n3, if_neg n4, if_neg n5]
  have hM0 : f_M_taken F (sF σ2 0 0) 940 = some (0, sF (sF (sF (sF (sF σ2 0 0) 3 (L : Nat)) 2 0) 4 0) 5 940) := by
    unfold f_M_taken
    simp only [bs]
    rw [show gF (sF σ2 0 0) 2 = (L : Int) from hL]
  have hz : RR x (sF σ1 65 0) (sF (sF (sF (sF (sF σ2 0 0) 3 (L : Nat)) 2 0) 4 0) 5 940) := RR_take hR WFr.rf hm
  have hWa : WV (sF σ1 65 0) (svw σ2) := WV_65 hW
  have hVa : MV (sF (sF (sF (sF (sF σ2 0 0) 3 (L : Nat)) 2 0) 4 0) 5 940) (svw σ2) := MV_fr (MV_2 hV) hm
  have h3 : gF (sF (sF (sF (sF (sF σ2 0 0) 3 (L : Nat)) 2 0) 4 0) 5 940) 3 = (L : Int) := by simp [gF_sF]
  generalize hA2 : sF (sF (sF (sF (sF σ2 0 0) 3 (L : Nat)) 2 0) 4 0) 5 940 = a2 at *
  have a1b : ∀ i, gA a2 1 i = gA σ2 1 i := fun i => by rw [← hA2]; rfl
  refine sp1 ?_
  unfold f_W_nulled
  refine ev_bv (ev_bs ?_)
  rw [t1, hL]
  have hM : ∀ Q : Int → St → Prop, Ev (bnd (f_M_isIn F a2 (gF a2 3) 1 7) fun r4 σ5 => gd (rng r4) (if r4 = 0 then some (0, σ5) else l_M_nulled_29 F F σ5 0)) Q → Ev (f_M_nulled F σ2) Q := by
    intro Q h
    unfold f_M_nulled
    exact ev_bs (ev_be hM0 h)
  by_cases c : 1 ≤ L ∧ L ≤ 7
  · refine ev_g (by omega) ?_
    rw [if_neg (by omega)]
    refine ev_g (by omega) ?_
    rw [if_neg (by omega)]
    have hb : ∀ i, i < L → gA (sF σ1 65 0) 2 i = gA σ2 1 i % 256 := fun i hi => t4 i (by omega)
    have hul := W_ul (F := F) hI hWa (b := fun i => gA σ2 1 i % 256) c.2 (fun i hi => ⟨hb i hi, by omega, by omega⟩) L F 0 0 (by omega) (by omega) (by omega) (fun e _ => by
      rw [Nat.zero_testBit]
      exact ⟨fun h => (by cases h), fun ⟨k, h1, _⟩ => by omega⟩)
    have hul' : f_W_unlikeDirections F (sF σ1 65 0) (L : Nat) = _ := hul
    refine ev_be hul' ?_
    have h29 := M_n29 (F := F) (by omega) hI hVa (b := fun i => gA σ2 1 i % 256) c.2 h3 (fun i _ => by rw [a1b]) L F 0 (by omega) (by omega)
    cases q : ulF (fun i => gA σ2 1 i % 256) (svw σ2 0) L 0 with
    | false =>
      rw [q, if_neg (by decide)] at h29
      refine ev_g (by decide) ?_
      rw [if_pos (by decide)]
      refine ev_s (hM _ (ev_isIn (by omega) (fun _ => ?_) (fun h => absurd h (by omega))))
      refine ev_g (by decide) ?_
      rw [if_neg (by decide)]
      exact ev_e h29 ⟨rfl, hz⟩
    | true =>
      rw [q, if_pos rfl] at h29
      have hall := ulF_all L 0 q
      have hbr : ∀ r, r < L → 0 ≤ (fun i => gA σ2 1 i % 256) r ∧ (fun i => gA σ2 1 i % 256) r < svw σ2 0 := fun r hr => hall r (by omega) (by omega)
      obtain ⟨s1, s1', j1, j2, j3, j4, j5, j6, -⟩ := W_n39 (F := F) (by omega) hI c.2 hbr L F (sF σ1 65 0) 0 hWa hb (by omega) (by omega) (fun r k _ h => by omega)
      have hVb : MV (sF (sF a2 25 (svw σ2 1 + 1)) 26 (L : Nat)) (svw σ2) := MV_fr hVa ((MFr.rf.sF rfl).sF rfl)
      obtain ⟨s2, k1, k2, k3, k4, k5⟩ := M_n107 (F := F) hF hI c.1 c.2 hbr L F (sF (sF a2 25 (svw σ2 1 + 1)) 26 (L : Nat)) 0 hVb (fun i _ => by show gA a2 1 i % 256 = _; rw [a1b]) (by show gF a2 3 = _; exact h3) (by rw [gF_sF, if_neg (by omega), gF_eq]; omega) gF_eq (by omega) (by omega) (fun r k _ h => by omega)
      refine ev_g (by decide) ?_
      rw [if_neg (by decide)]
      refine ev_e j1 (hM _ (ev_isIn (by omega) (fun _ => ?_) (fun h => absurd h (by omega))))
      refine ev_g (by decide) ?_
      rw [if_neg (by decide)]
      refine ev_e (h29.trans k1) ⟨rfl, ?_⟩
      have g := RR_mix (σ1' := s1) (σ2' := s2) (fun q => q == 1345) (fun a => a == 22) (fun q => q == 47) (fun a => a == 17) hz (fun q hq _ => j5 q (by intro e; subst e; cases hq)) (fun a ha hs i => by
        refine j6 a ?_ (by intro e; subst e; cases hs) (by intro e; subst e; cases ha) i
        rcases Nat.lt_or_ge a 103 with z | z
        · exact z
        · rw [wSA_hi (by omega)] at hs; cases hs) (fun q hq hs => by
        rw [k4 q (by intro e; subst e; cases hq) hs, gF_sF, if_neg (by intro e; subst e; cases hs), gF_sF, if_neg (by intro e; subst e; cases hs)]) (fun a ha hs i => by
        rw [k5 a (by intro e; subst e; cases ha) hs]; rfl)
      have hN : RNull s1 s2 := by
        cases md : mdB (PR (svw σ2 0)) L (svw σ2 1).toNat (NQ (svw σ2) fun i => gA σ2 1 i % 256) with
        | false =>
          obtain ⟨e1, e2⟩ := j4 md
          obtain ⟨e3, e4⟩ := k3 md
          have hN0 : RNull (sF σ1 65 0) a2 := hz.2.2.2.2.2.2.2.1.2.2.2.2.1
          unfold RNull at hN0 ⊢
          have e3' : gF s2 47 = gF a2 47 := e3
          have e4' : ∀ c, gA s2 17 c = gA a2 17 c := e4
          rw [e1, e3']
          simp only [e2, e4']
          exact hN0
        | true =>
          obtain ⟨e1, e2⟩ := j3 md
          obtain ⟨e3, e4⟩ := k2 md
          have hH : 1 ≤ (svw σ2 1).toNat := by
            rcases Nat.eq_zero_or_pos (svw σ2 1).toNat with z | z
            · exfalso
              unfold mdB at md
              rw [z] at md
              have e0 : el (PR (svw σ2 0)) L 0 (NQ (svw σ2) fun i => gA σ2 1 i % 256) = (0, NQ (svw σ2) (fun i => gA σ2 1 i % 256), (fun _ => -1), (fun _ => -1)) := rfl
              rw [e0] at md
              obtain ⟨L', hL'⟩ : ∃ L', L = L' + 1 := ⟨L - 1, by omega⟩
              have : fr (NQ (svw σ2) fun i => gA σ2 1 i % 256) 0 (L - 0) 0 = 0 := by
                rw [Nat.sub_zero, hL']
                unfold fr
                have : NQ (svw σ2) (fun i => gA σ2 1 i % 256) 0 0 = 1 := by unfold NQ; rw [if_neg (by omega), if_pos rfl]
                rw [this]; simp
              rw [this] at md
              simp at md
            · exact z
          refine Or.inr ⟨by rw [e3]; omega, by rw [e1, e3], fun i hi => ?_⟩
          rw [e3] at hi
          rw [e2 i (by omega), e4 i (by omega)]
          have := shS_b (show 0 < PR (svw σ2 0) by omega) (show i < (svw σ2 1).toNat by omega) j2
          exact ⟨rfl, by omega, by omega⟩
      exact ⟨g.1, g.2.1, g.2.2.1, g.2.2.2.1, g.2.2.2.2.1, g.2.2.2.2.2.1, g.2.2.2.2.2.2.1, ⟨g.2.2.2.2.2.2.2.1.1, g.2.2.2.2.2.2.2.1.2.1, g.2.2.2.2.2.2.2.1.2.2.1, g.2.2.2.2.2.2.2.1.2.2.2.1, hN, g.2.2.2.2.2.2.2.1.2.2.2.2.2⟩, g.2.2.2.2.2.2.2.2⟩
  · have hMn : Ev (f_M_nulled F σ2) fun r2 s2 => 0 = r2 ∧ RR x (sF σ1 65 0) s2 := by
      refine hM _ (ev_isIn (by omega) (fun h => absurd h (by omega)) (fun _ => ?_))
      refine ev_g (by decide) ?_
      rw [if_pos rfl]
      exact ev_s ⟨rfl, hz⟩
    refine ev_g (by omega) ?_
    by_cases c1 : (L : Int) < 1
    · rw [if_pos c1]; exact ev_s hMn
    · rw [if_neg c1]
      refine ev_g (by omega) ?_
      rw [if_pos (by omega)]; exact ev_s hMn
end
