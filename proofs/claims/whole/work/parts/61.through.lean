/-! PURE PART: through, cross -/
def gtS (s : Nat → Int) (X Y T : Int) (c : Nat) : Bool := decide ((X - sXS s c * T) * dyS s c = (Y - sYS s c * T) * dxS s c ∧ 0 < (X - sXS s c * T) * dxS s c + (Y - sYS s c * T) * dyS s c)
def tgS (s : Nat → Int) (X Y T : Int) : Nat := btS (gtS s X Y T) (s 4).toNat 0 0
theorem ior_pow {acc e : Nat} (ha : acc < 256) (he : e < 8) : iorI (acc : Int) (1 * 2 ^ e) = ((acc ||| 2 ^ e : Nat) : Int) ∧ acc ||| 2 ^ e < 256 := by
  have h1 : 2 ^ e < 2 ^ 8 := Nat.pow_lt_pow_right (by omega) he
  have h2 : acc ||| 2 ^ e < 2 ^ 8 := Nat.or_lt_two_pow ha h1
  have h3 : (1 : Int) * 2 ^ e = ((2 ^ e : Nat) : Int) := by simp
  rw [h3, iorN acc (2 ^ e) (by omega) (by omega)]
  exact ⟨rfl, h2⟩
theorem ior_0 {acc : Nat} (ha : acc < 256) : iorI (acc : Int) 0 = acc := by
  have := iorN acc 0 (by omega) (by omega)
  rw [Nat.or_zero] at this
  exact this
abbrev ptB (X Y T : Int) : Prop := (-6000000 ≤ X ∧ X ≤ 6000000) ∧ (-6000000 ≤ Y ∧ Y ≤ 6000000) ∧ (0 ≤ T ∧ T ≤ 19602)
section
variable {F : Nat} {σ : St} {s : Nat → Int} {k : Int → St → Option (Int × St)} {Q : Int → St → Prop}
theorem gt_b (hI : MI s) {c : Int} (hc : 0 ≤ c ∧ c < s 4) {X Y T : Int} (hP : ptB X Y T) : (-8000000 ≤ X - sXS s c * T ∧ X - sXS s c * T ≤ 8000000) ∧ (-8000000 ≤ Y - sYS s c * T ∧ Y - sYS s c * T ≤ 8000000) ∧ (-800000000 ≤ (X - sXS s c * T) * dyS s c ∧ (X - sXS s c * T) * dyS s c ≤ 800000000) ∧ (-800000000 ≤ (Y - sYS s c * T) * dxS s c ∧ (Y - sYS s c * T) * dxS s c ≤ 800000000) ∧ (-800000000 ≤ (X - sXS s c * T) * dxS s c ∧ (X - sXS s c * T) * dxS s c ≤ 800000000) ∧ (-800000000 ≤ (Y - sYS s c * T) * dyS s c ∧ (Y - sYS s c * T) * dyS s c ≤ 800000000) := by
  obtain ⟨-, -, a1, a2, a3, a4⟩ := be_b hI hc
  obtain ⟨h1, h2, h3⟩ := hP
  have p1 := absb (x := sXS s c) (y := T) (A := 99) (B := 19602) (by omega) (by omega)
  have p2 := absb (x := sYS s c) (y := T) (A := 99) (B := 19602) (by omega) (by omega)
  have q1 : -8000000 ≤ X - sXS s c * T ∧ X - sXS s c * T ≤ 8000000 := by omega
  have q2 : -8000000 ≤ Y - sYS s c * T ∧ Y - sYS s c * T ≤ 8000000 := by omega
  have r1 := absb (x := X - sXS s c * T) (y := dyS s c) (A := 8000000) (B := 99) q1 (by omega)
  have r2 := absb (x := Y - sYS s c * T) (y := dxS s c) (A := 8000000) (B := 99) q2 (by omega)
  have r3 := absb (x := X - sXS s c * T) (y := dxS s c) (A := 8000000) (B := 99) q1 (by omega)
  have r4 := absb (x := Y - sYS s c * T) (y := dyS s c) (A := 8000000) (B := 99) q2 (by omega)
  exact ⟨q1, q2, by omega, by omega, by omega, by omega⟩
theorem M_goes (hI : MI s) (hV : ∀ i, gA σ 2 i = s i) {X Y T : Int} (hX : gF σ 48 = X) (hY : gF σ 49 = Y) (hT : gF σ 50 = T) (hP : ptB X Y T) {c : Nat} (hc : (c : Int) < s 4) : f_M_goesThrough F σ (c : Nat) = some (bi (gtS s X Y T c), σ) := by
  have hc' : 0 ≤ (c : Int) ∧ (c : Int) < s 4 := by omega
  obtain ⟨q1, q2, r1, r2, r3, r4⟩ := gt_b hI hc' hP
  have bb := be_b hI hc'
  unfold f_M_goesThrough
  simp only [bv]
  rw [M_startX hI hV hc', bnd_s, gd_t (by omega), M_startY hI hV hc', bnd_s, gd_t (by omega), M_stepY hI hV hc', bnd_s, gd_t (by omega), M_stepX hI hV hc', bnd_s, gd_t (by omega)]
  simp only [hX, hY, hT]
  rw [gd_t (by omega)]
  unfold gtS
  by_cases h1 : (X - sXS s c * T) * dyS s c = (Y - sYS s c * T) * dxS s c
  · rw [if_pos h1, M_stepX hI hV hc', bnd_s, gd_t (by omega), M_stepY hI hV hc', bnd_s, gd_t (by omega), gd_t (by omega)]
    by_cases h2 : (X - sXS s c * T) * dxS s c + (Y - sYS s c * T) * dyS s c ≤ 0
    · rw [if_pos h2, decide_eq_false (by omega)]; rfl
    · rw [if_neg h2, decide_eq_true (by omega)]; rfl
  · rw [if_neg h1, decide_eq_false (fun z => h1 z.1)]; rfl
theorem M_tg (hI : MI s) (hV : ∀ i, gA σ 2 i = s i) {X Y T : Int} (hX : gF σ 48 = X) (hY : gF σ 49 = Y) (hT : gF σ 50 = T) (hP : ptB X Y T) : ∀ (d n c acc : Nat), d < n → c + d = (s 4).toNat → acc < 256 → l_M_throughSet_4 F n σ (acc : Nat) (c : Nat) = some (((btS (gtS s X Y T) d c acc : Nat) : Int), σ)
  | _, 0, _, _, h, _, _ => by omega
  | 0, n + 1, c, acc, _, hd, ha => by
    have v4 := hV 4
    have i4 := hI.2.2.2.2.1
    simp only [l_M_throughSet_4, b_M_throughSet_4, bv, Int.reduceToNat]
    rw [gd_t (by decide), gd_t (by omega), if_pos (by omega)]; rfl
  | d + 1, n + 1, c, acc, hn, hd, ha => by
    have v4 := hV 4
    have i4 := hI.2.2.2.2.1
    have hp := ior_pow ha (show c < 8 by omega)
    simp only [l_M_throughSet_4, b_M_throughSet_4, bv, Int.reduceToNat]
    rw [gd_t (by decide), gd_t (by omega), if_neg (by omega), M_goes hI hV hX hY hT hP (by omega), bnd_s]
    unfold btS
    cases q : gtS s X Y T c with
    | true =>
      rw [gd_t (by decide), if_neg (by decide), gd_t (by omega), if_pos rfl, show Int.toNat ((c : Nat) : Int) = c by omega, hp.1]
      exact M_tg hI hV hX hY hT hP d n (c + 1) _ (by omega) (by omega) hp.2
    | false =>
      rw [gd_t (by decide), if_pos (by decide), if_neg (by decide), ior_0 ha]
      exact M_tg hI hV hX hY hT hP d n (c + 1) acc (by omega) (by omega) ha
theorem M_throughSet (hF : 20 ≤ F) (hI : MI s) (hV : ∀ i, gA σ 2 i = s i) {X Y T : Int} (hX : gF σ 48 = X) (hY : gF σ 49 = Y) (hT : gF σ 50 = T) (hP : ptB X Y T) : f_M_throughSet F σ = some ((tgS s X Y T : Int), σ) := by
  have i4 := hI.2.2.2.2.1
  exact M_tg (F := F) hI hV hX hY hT hP (s 4).toNat F 0 0 (by omega) (by omega) (by omega)
theorem W_tg (hI : MI s) (hV : WV σ s) {X Y T : Int} (hX : gF σ 1991 = X) (hY : gF σ 1992 = Y) (hT : gF σ 1993 = T) (hP : ptB X Y T) : ∀ (d n c acc : Nat), d < n → c + d = (s 4).toNat → acc < 256 → l_Compass_throughMeeting_compass0_4 F n σ (acc : Nat) (c : Nat) = some (((btS (gtS s X Y T) d c acc : Nat) : Int), σ)
  | _, 0, _, _, h, _, _ => by omega
  | 0, n + 1, c, acc, _, hd, ha => by
    have v4 := hV.2.2.2.2.1
    have i4 := hI.2.2.2.2.1
    simp only [l_Compass_throughMeeting_compass0_4, b_Compass_throughMeeting_compass0_4, bv]
    rw [gd_t (by omega), if_pos (by omega)]; rfl
  | d + 1, n + 1, c, acc, hn, hd, ha => by
    have v4 := hV.2.2.2.2.1
    have i4 := hI.2.2.2.2.1
    have hp := ior_pow ha (show c < 8 by omega)
    have hc' : 0 ≤ (c : Int) ∧ (c : Int) < s 4 := by omega
    obtain ⟨q1, q2, r1, r2, r3, r4⟩ := gt_b hI hc' hP
    have bb := be_b hI hc'
    obtain ⟨a1, a2, a3⟩ := hV.2.2.2.2.2.2.2.2.2 c hc'.1 hc'.2
    have fa := hI.2.2.2.2.2.2.2.2.2.2 c hc'.1 hc'.2
    obtain ⟨xa, ya⟩ := hV.2.2.2.2.2.2.2.2.1 (frS s c) fa.1.1 fa.1.2
    have xa' : gA σ 35 (frS s c).toNat = sXS s c := xa
    have ya' : gA σ 39 (frS s c).toNat = sYS s c := ya
    simp only [l_Compass_throughMeeting_compass0_4, b_Compass_throughMeeting_compass0_4, bv, a1, a2, a3, xa', ya', hX, hY, hT]
    rw [gd_t (by omega), if_neg (by omega), gd_t (by omega), gd_t (by omega), gd_t (by omega), gd_t (by omega), gd_t (by omega), gd_t (by omega), gd_t (by omega), gd_t (by omega), gd_t (by omega), gd_t (by omega), gd_t (by omega)]
    unfold btS
    by_cases h1 : (X - sXS s c * T) * dyS s c = (Y - sYS s c * T) * dxS s c
    · rw [if_pos h1, gd_t (by omega), gd_t (by omega), gd_t (by omega), gd_t (by omega), gd_t (by omega)]
      by_cases h2 : (X - sXS s c * T) * dxS s c + (Y - sYS s c * T) * dyS s c ≤ 0
      · have q : gtS s X Y T c = false := decide_eq_false (by omega)
        rw [if_pos h2, q, if_neg (by decide)]
        exact W_tg hI hV hX hY hT hP d n (c + 1) acc (by omega) (by omega) ha
      · have q : gtS s X Y T c = true := decide_eq_true (by omega)
        rw [if_neg h2, q, if_pos rfl, gd_t (by omega), show Int.toNat ((c : Nat) : Int) = c by omega, hp.1]
        exact W_tg hI hV hX hY hT hP d n (c + 1) _ (by omega) (by omega) hp.2
    · have q : gtS s X Y T c = false := decide_eq_false (fun z => h1 z.1)
      rw [if_neg h1, q, if_neg (by decide)]
      exact W_tg hI hV hX hY hT hP d n (c + 1) acc (by omega) (by omega) ha
theorem W_throughM (hF : 20 ≤ F) (hI : MI s) (hV : WV σ s) {X Y T : Int} (hX : gF σ 1991 = X) (hY : gF σ 1992 = Y) (hT : gF σ 1993 = T) (hP : ptB X Y T) : f_Compass_throughMeeting_compass0 F σ = some ((tgS s X Y T : Int), σ) := by
  have i4 := hI.2.2.2.2.1
  exact W_tg (F := F) hI hV hX hY hT hP (s 4).toNat F 0 0 (by omega) (by omega) (by omega)
theorem ev_isB {x n : Int} (hn : gA σ 2 4 = n) (h : rng x ∧ 0 ≤ n ∧ n ≤ 8) (h1 : 0 ≤ x ∧ x < n → Ev (k 1 σ) Q) (h2 : ¬ (0 ≤ x ∧ x < n) → Ev (k 0 σ) Q) : Ev (bnd (f_M_isBearing F σ x) k) Q := by
  have e : f_M_isBearing F σ x = if 0 ≤ x ∧ x < n then some (1, σ) else some (0, σ) := by
    unfold f_M_isBearing f_M_isIn
    simp only [Int.reduceToNat]
    rw [gd_t (by decide), gd_t (by omega)]
    by_cases c : x < 0
    · rw [if_pos c, bnd_s, gd_t (by decide), if_neg (by omega)]
    · rw [if_neg c, gd_t (by omega)]
      by_cases c2 : gA σ 2 4 - 1 < x
      · rw [if_pos c2, bnd_s, gd_t (by decide), if_neg (by omega)]
      · rw [if_neg c2, bnd_s, gd_t (by decide), if_pos (by omega)]
  rw [e]
  by_cases c : 0 ≤ x ∧ x < n
  · rw [if_pos c]; exact h1 c
  · rw [if_neg c]; exact h2 c
theorem M_cm : ∀ (k n x y : Nat), y < 2 ^ k → 2 * k + 1 < n → x < 2 ^ 62 → y < 2 ^ 62 → l_M_common_12 F n σ (x : Nat) (y : Nat) = some (((Nat.gcd x y : Nat) : Int), σ)
  | _, 0, _, _, _, h, _, _ => by omega
  | 0, n + 1, x, y, hy, hn, hx, hy2 => by
    simp only [l_M_common_12, b_M_common_12, bv]
    have : y = 0 := by simpa using hy
    subst this
    rw [gd_t (by omega), if_pos (by omega), Nat.gcd_zero_right]
  | k + 1, n + 1, x, y, hy, hn, hx, hy2 => by
    simp only [l_M_common_12, b_M_common_12, bv]
    rw [gd_t (by omega)]
    by_cases c : y = 0
    · subst c
      rw [if_pos (by omega), Nat.gcd_zero_right]
    · have e : Int.tmod (x : Int) y = ((x % y : Nat) : Int) := by rw [tmE (by omega)]; simp
      have hl : x % y < y := Nat.mod_lt _ (by omega)
      rw [if_neg (by omega), gd_t ⟨by omega, by omega, by omega⟩, e]
      rw [show Nat.gcd x y = Nat.gcd y (x % y) by rw [Nat.gcd_comm x y, Nat.gcd_rec y x, Nat.gcd_comm]]
      match n, hn with
      | 0, hn => omega
      | n + 1, hn =>
        simp only [l_M_common_12, b_M_common_12, bv]
        rw [gd_t (by omega)]
        by_cases c2 : x % y = 0
        · rw [c2, if_pos (by omega), Nat.gcd_zero_right]
        · have e2 : Int.tmod (y : Int) ((x % y : Nat) : Int) = ((y % (x % y) : Nat) : Int) := by rw [tmE (by omega)]; simp
          have hl2 : y % (x % y) < x % y := Nat.mod_lt _ (by omega)
          have hh : 2 * (y % (x % y)) < y := by
            have hdm := Nat.div_add_mod y (x % y)
            have hq : 1 ≤ y / (x % y) := (Nat.le_div_iff_mul_le (by omega)).mpr (by omega)
            have := Nat.mul_le_mul_left (x % y) hq
            omega
          rw [if_neg (by omega), gd_t ⟨by omega, by omega, by omega⟩, e2]
          rw [show Nat.gcd y (x % y) = Nat.gcd (x % y) (y % (x % y)) by rw [Nat.gcd_comm y (x % y), Nat.gcd_rec (x % y) y, Nat.gcd_comm]]
          exact M_cm k n (x % y) (y % (x % y)) (by rw [Nat.pow_succ] at hy; omega) (by omega) (by omega) (by omega)
theorem M_common (hF : 200 ≤ F) {a : Int} {b : Nat} (ha : a.natAbs < 2 ^ 62) (hb : b < 2 ^ 62) : f_M_common F σ a (b : Nat) = some (((Nat.gcd a.natAbs b : Nat) : Int), σ) := by
  have e1 : ∀ z : Int, z.natAbs < 2 ^ 62 → f_M_size0 F σ z = some ((z.natAbs : Int), σ) := by
    intro z hz
    unfold f_M_size0
    rw [gd_t (by omega)]
    by_cases c : 0 ≤ z
    · rw [if_pos c, show ((z.natAbs : Nat) : Int) = z by omega]
    · rw [if_neg c, show ((z.natAbs : Nat) : Int) = -z by omega]
  unfold f_M_common
  rw [e1 a ha, bnd_s, e1 (b : Nat) (by omega), bnd_s]
  exact M_cm (F := F) 62 F a.natAbs b hb (by omega) ha hb
end
section
variable {F : Nat}
theorem crW_fr {σ : St} {s : Nat → Int} {a b : Int} : WFr σ (crW σ s a b) := ((WFr.rf.sF rfl).sF rfl).sF rfl
theorem crM_fr {σ : St} {s : Nat → Int} {a b : Int} : MFr σ (crM σ s a b) := ((MFr.rf.sF rfl).sF rfl).sF rfl
theorem s_through (hF : 100 ≤ F) : Sp_through F RR := by
  intro x σ1 σ2 p0 p1 hR h0 h1
  obtain ⟨hI, hW, hV⟩ := RR_view hR
  have i4 := hI.2.2.2.2.1
  refine sp1 ?_
  have hz : RR x σ1 (sF σ2 0 0) := RR_fr hR WFr.rf (MFr.sF rfl MFr.rf)
  have hV0 := MV_0 (v := 0) hV
  unfold f_W_through f_M_through
  by_cases c : (0 ≤ p0 ∧ p0 < svw σ2 4) ∧ 0 ≤ p1 ∧ p1 < svw σ2 4
  · have hm := W_meet (F := F) hI hW c.1 c.2
    have hM : ∀ Q : Int → St → Prop, Ev (bnd (f_M_crosses F (sF σ2 0 0) p0 p1) fun r6 σ7 => gd (rng r6) (if r6 = 0 then some ((-1), σ7) else bnd (f_M_throughSet F σ7) fun r8 σ9 => some (r8, σ9))) Q → Ev (f_M_through F σ2 p0 p1) Q := by
      intro Q h
      unfold f_M_through
      refine ev_bs (ev_isB (hV0.1 4) (by omega) (fun _ => ?_) (fun h => absurd c.1 h))
      refine ev_g (by decide) ?_
      rw [if_neg (by decide)]
      refine ev_isB (hV0.1 4) (by omega) (fun _ => ?_) (fun h => absurd c.2 h)
      refine ev_g (by decide) ?_
      rw [if_neg (by decide)]
      exact h
    unfold f_M_through at hM
    obtain ⟨b1, -, -, b4, b5⟩ := pt_b hI c.1 c.2
    by_cases cr : crS (svw σ2) p0 p1
    · refine ev_be (hm.1 cr) (ev_g (by decide) ?_)
      rw [if_neg (by decide)]
      refine ev_be (W_throughM (X := pX (svw σ2) p0 p1) (Y := pY (svw σ2) p0 p1) (T := tT (svw σ2) p0 p1) (by omega) hI (WV_fr hW crW_fr) (by simp [crW, gF_sF]) (by simp [crW, gF_sF]) (by simp [crW, gF_sF]) ⟨b4, b5, b1⟩) (ev_s (hM _ ?_))
      refine ev_be (M_cross1 hI hV0.1 c.1 c.2 cr) (ev_g (by decide) ?_)
      rw [if_neg (by decide)]
      refine ev_be (M_throughSet (X := pX (svw σ2) p0 p1) (Y := pY (svw σ2) p0 p1) (T := tT (svw σ2) p0 p1) (by omega) hI (MV_fr hV0 crM_fr).1 (by simp [crM, gF_sF]) (by simp [crM, gF_sF]) (by simp [crM, gF_sF]) ⟨b4, b5, b1⟩) (ev_s ⟨rfl, RR_fr hz crW_fr crM_fr⟩)
    · refine ev_be (hm.2 cr) (ev_g (by decide) ?_)
      rw [if_pos rfl]
      refine ev_s (hM _ ?_)
      refine ev_be (M_cross0 hI hV0.1 c.1 c.2 cr) (ev_g (by decide) ?_)
      rw [if_pos rfl]
      exact ev_s ⟨rfl, hz⟩
  · refine ev_be (W_meet0 hI hW ⟨h0, h1⟩ c) (ev_g (by decide) ?_)
    rw [if_pos rfl]
    refine ev_s (ev_bs ?_)
    refine ev_isB (hV0.1 4) (by omega) (fun h2 => ?_) (fun _ => ?_)
    · refine ev_g (by decide) ?_
      rw [if_neg (by decide)]
      refine ev_isB (hV0.1 4) (by omega) (fun h3 => absurd ⟨h2, h3⟩ c) (fun _ => ?_)
      refine ev_g (by decide) ?_
      rw [if_pos rfl]
      exact ev_s ⟨rfl, hz⟩
    · refine ev_g (by decide) ?_
      rw [if_pos rfl]
      exact ev_s ⟨rfl, hz⟩
theorem spx2 {x : Bool} {F : Nat} {f g : Option (Int × St)} (h : Ev f fun r1 s1 => Ev g fun r2 s2 => gF s2 0 = (if r1 = THR then 1 else 0) ∧ (r1 ≠ THR → r1 = r2) ∧ RR x s1 s2) : ∃ (r1 r2 : Int) (σ1' σ2' σ2t : St), f = some (r1, σ1') ∧ g = some (r2, σ2') ∧ f_M_thrown F σ2' = some (if r1 = THR then 1 else 0, σ2t) ∧ (r1 ≠ THR → r1 = r2) ∧ RR x σ1' σ2t := by
  obtain ⟨r, s, e, r2, s2, e2, h3, h4, h5⟩ := h
  exact ⟨r, r2, s, s2, s2, e, e2, by unfold f_M_thrown; rw [h3], h4, h5⟩
theorem ne_thr64 {x : Int} (h : -10000000 ≤ x ∧ x ≤ 10000000) : x ≠ THR := by
  unfold THR
  omega
theorem tdiv_b {x r B : Int} (hx : -B ≤ x ∧ x ≤ B) (hr : 0 < r) : -B ≤ Int.tdiv x r ∧ Int.tdiv x r ≤ B := by
  have h : (Int.tdiv x r).natAbs ≤ x.natAbs := by
    rw [Int.natAbs_tdiv]
    exact Nat.div_le_self _ _
  omega
theorem s_cross (hF : 300 ≤ F) : Sp_cross F RR := by
  intro x σ1 σ2 p0 p1 p2 hR h0 h1 h2
  obtain ⟨hI, hW, hV⟩ := RR_view hR
  have i4 := hI.2.2.2.2.1
  refine spx2 ?_
  have hz : RR x σ1 (sF σ2 0 0) := RR_fr hR WFr.rf (MFr.sF rfl MFr.rf)
  have hz1 : RR x σ1 (sF σ2 0 1) := RR_fr hR WFr.rf (MFr.sF rfl MFr.rf)
  have hno : ∀ a b : Int, (∀ σ : St, σ = σ1 ∨ σ = σ1 → True) → True := fun _ _ _ => trivial
  by_cases c : ((0 ≤ p0 ∧ p0 < svw σ2 4) ∧ 0 ≤ p1 ∧ p1 < svw σ2 4) ∧ (0 ≤ p2 ∧ p2 ≤ 3) ∧ crS (svw σ2) p0 p1
  · obtain ⟨⟨ca, cb⟩, c2, cr⟩ := c
    have hm := (W_meet (F := F) hI hW ca cb).1 cr
    obtain ⟨b1, b2, b3, b4, b5⟩ := pt_b hI ca cb
    have hTp : 0 < tT (svw σ2) p0 p1 := by have := cr.2.1; unfold tT; split <;> omega
    obtain ⟨T, hT⟩ := Int.eq_ofNat_of_zero_le b1.1
    have hgp : ∀ z : Int, 0 < Nat.gcd z.natAbs T := fun z => Nat.gcd_pos_of_pos_right _ (by omega)
    have hg : ∀ z : Int, (0 : Int) < ((Nat.gcd z.natAbs T : Nat) : Int) := fun z => by have := hgp z; omega
    have hgl : ∀ z : Int, ((Nat.gcd z.natAbs T : Nat) : Int) ≤ 19602 := fun z => by have := Nat.gcd_le_right (n := T) z.natAbs (by omega); omega
    have w91 : gF (crW σ1 (svw σ2) p0 p1) 1991 = pX (svw σ2) p0 p1 := by simp [crW, gF_sF]
    have w92 : gF (crW σ1 (svw σ2) p0 p1) 1992 = pY (svw σ2) p0 p1 := by simp [crW, gF_sF]
    have w93 : gF (crW σ1 (svw σ2) p0 p1) 1993 = (T : Int) := by rw [← hT]; simp [crW, gF_sF]
    have m48 : gF (sF (crM σ2 (svw σ2) p0 p1) 0 0) 48 = pX (svw σ2) p0 p1 := by simp [crM, gF_sF]
    have m49 : gF (sF (crM σ2 (svw σ2) p0 p1) 0 0) 49 = pY (svw σ2) p0 p1 := by simp [crM, gF_sF]
    have m50 : gF (sF (crM σ2 (svw σ2) p0 p1) 0 0) 50 = (T : Int) := by rw [← hT]; simp [crM, gF_sF]
    have hzz : RR x (crW σ1 (svw σ2) p0 p1) (sF (crM σ2 (svw σ2) p0 p1) 0 0) := RR_fr hR crW_fr (MFr.sF rfl crM_fr)
    have hM : ∀ (k : Int → St → Option (Int × St)) (k3 : Int → St → Option (Int × St)) (kk : Int → Int → St → Option (Int × St)) (Q : Int → St → Prop), True := fun _ _ _ _ => trivial
    unfold f_W_cross
    refine ev_g (by omega) ?_
    rw [if_neg (by omega)]
    refine ev_g (by omega) ?_
    rw [if_neg (by omega)]
    refine ev_be hm (ev_g (by decide) ?_)
    rw [if_neg (by decide)]
    refine ev_g (by omega) ?_
    simp only [bv, w91, w92, w93]
    have hMs : ∀ Q : Int → St → Prop, Ev (if (2 : Int) ≤ p2 then bnd (f_M_common F (sF (crM σ2 (svw σ2) p0 p1) 0 0) (pY (svw σ2) p0 p1) (T : Nat)) fun r36 σ37 => gd (rng p2 ∧ rng 2 ∧ 2 ≠ (0 : Int)) (gd (rng (Int.tmod p2 2)) (if (Int.tmod p2 2) = 0 then gd (rng64 (pY (svw σ2) p0 p1) ∧ rng64 r36 ∧ r36 ≠ (0 : Int)) (some ((Int.tdiv (pY (svw σ2) p0 p1) r36), σ37)) else gd (rng64 (gF σ37 50) ∧ rng64 r36 ∧ r36 ≠ (0 : Int)) (some ((Int.tdiv (gF σ37 50) r36), σ37)))) else bnd (f_M_common F (sF (crM σ2 (svw σ2) p0 p1) 0 0) (pX (svw σ2) p0 p1) (T : Nat)) fun r39 σ40 => gd (rng p2 ∧ rng 2 ∧ 2 ≠ (0 : Int)) (gd (rng (Int.tmod p2 2)) (if (Int.tmod p2 2) = 0 then gd (rng64 (pX (svw σ2) p0 p1) ∧ rng64 r39 ∧ r39 ≠ (0 : Int)) (some ((Int.tdiv (pX (svw σ2) p0 p1) r39), σ40)) else gd (rng64 (gF σ40 50) ∧ rng64 r39 ∧ r39 ≠ (0 : Int)) (some ((Int.tdiv (gF σ40 50) r39), σ40))))) Q → Ev (f_M_cross F σ2 p0 p1 p2) Q := by
      intro Q h
      unfold f_M_cross
      refine ev_isB (hV.1 4) (by omega) (fun _ => ?_) (fun h => absurd ca h)
      refine ev_g (by decide) ?_
      rw [if_neg (by decide)]
      refine ev_isB (hV.1 4) (by omega) (fun _ => ?_) (fun h => absurd cb h)
      refine ev_g (by decide) ?_
      rw [if_neg (by decide)]
      refine ev_isIn (by omega) (fun _ => ?_) (fun h => absurd c2 h)
      refine ev_g (by decide) ?_
      rw [if_neg (by decide)]
      refine ev_be (M_cross1 hI hV.1 ca cb cr) (ev_g (by decide) ?_)
      rw [if_neg (by decide)]
      refine ev_thr0 (ev_g (by decide) ?_)
      rw [if_pos rfl]
      refine ev_g (by omega) ?_
      simp only [bv, m48, m49, m50]
      exact h
    have t2 : Int.tmod p2 2 = p2 % 2 := tmE (by omega)
    by_cases c3 : 2 ≤ p2
    · rw [if_pos c3]
      refine ev_be (W_common (by omega) (by omega) (by omega)) ?_
      have gp := hg (pY (svw σ2) p0 p1)
      have gl := hgl (pY (svw σ2) p0 p1)
      have d1 := tdiv_b (x := pY (svw σ2) p0 p1) (B := 6000000) b5 gp
      have d2 := tdiv_b (x := (T : Int)) (B := 6000000) (by omega) gp
      rw [iand1]
      refine ev_g (by omega) ?_
      by_cases c4 : p2 % 2 = 0
      · rw [if_pos c4]
        refine ev_g ⟨by omega, by omega, by omega⟩ (ev_g (ne_thr64 (by omega)) (ev_s (hMs _ ?_)))
        rw [if_pos c3]
        refine ev_be (M_common (by omega) (by omega) (by omega)) ?_
        rw [t2]
        refine ev_g (by omega) (ev_g (by omega) ?_)
        rw [if_pos c4]
        refine ev_g ⟨by omega, by omega, by omega⟩ (ev_s ⟨?_, fun _ => rfl, hzz⟩)
        rw [if_neg (ne_thr64 (by omega))]; exact gF_eq
      · rw [if_neg c4, w93]
        refine ev_g ⟨by omega, by omega, by omega⟩ (ev_g (ne_thr64 (by omega)) (ev_s (hMs _ ?_)))
        rw [if_pos c3]
        refine ev_be (M_common (by omega) (by omega) (by omega)) ?_
        rw [t2]
        refine ev_g (by omega) (ev_g (by omega) ?_)
        rw [if_neg c4, m50]
        refine ev_g ⟨by omega, by omega, by omega⟩ (ev_s ⟨?_, fun _ => rfl, hzz⟩)
        rw [if_neg (ne_thr64 (by omega))]; exact gF_eq
    · rw [if_neg c3]
      refine ev_be (W_common (by omega) (by omega) (by omega)) ?_
      have gp := hg (pX (svw σ2) p0 p1)
      have gl := hgl (pX (svw σ2) p0 p1)
      have d1 := tdiv_b (x := pX (svw σ2) p0 p1) (B := 6000000) b4 gp
      have d2 := tdiv_b (x := (T : Int)) (B := 6000000) (by omega) gp
      rw [iand1]
      refine ev_g (by omega) ?_
      by_cases c4 : p2 % 2 = 0
      · rw [if_pos c4]
        refine ev_g ⟨by omega, by omega, by omega⟩ (ev_g (ne_thr64 (by omega)) (ev_s (hMs _ ?_)))
        rw [if_neg c3]
        refine ev_be (M_common (by omega) (by omega) (by omega)) ?_
        rw [t2]
        refine ev_g (by omega) (ev_g (by omega) ?_)
        rw [if_pos c4]
        refine ev_g ⟨by omega, by omega, by omega⟩ (ev_s ⟨?_, fun _ => rfl, hzz⟩)
        rw [if_neg (ne_thr64 (by omega))]; exact gF_eq
      · rw [if_neg c4, w93]
        refine ev_g ⟨by omega, by omega, by omega⟩ (ev_g (ne_thr64 (by omega)) (ev_s (hMs _ ?_)))
        rw [if_neg c3]
        refine ev_be (M_common (by omega) (by omega) (by omega)) ?_
        rw [t2]
        refine ev_g (by omega) (ev_g (by omega) ?_)
        rw [if_neg c4, m50]
        refine ev_g ⟨by omega, by omega, by omega⟩ (ev_s ⟨?_, fun _ => rfl, hzz⟩)
        rw [if_neg (ne_thr64 (by omega))]; exact gF_eq
  · have hM : ∀ Q : Int → St → Prop, Q 0 (sF σ2 0 1) → Ev (f_M_cross F σ2 p0 p1 p2) Q := by
      intro Q h
      unfold f_M_cross
      refine ev_isB (hV.1 4) (by omega) (fun ca => ?_) (fun _ => ?_)
      · refine ev_g (by decide) ?_
        rw [if_neg (by decide)]
        refine ev_isB (hV.1 4) (by omega) (fun cb => ?_) (fun _ => ?_)
        · refine ev_g (by decide) ?_
          rw [if_neg (by decide)]
          refine ev_isIn (by omega) (fun c2 => ?_) (fun _ => ?_)
          · refine ev_g (by decide) ?_
            rw [if_neg (by decide)]
            refine ev_be (M_cross0 hI hV.1 ca cb (fun cr => c ⟨⟨ca, cb⟩, c2, cr⟩)) (ev_g (by decide) ?_)
            rw [if_pos rfl]
            refine ev_thr1 (ev_g (by decide) ?_)
            rw [if_neg (by decide)]
            exact ev_s h
          · refine ev_g (by decide) ?_
            rw [if_pos rfl]
            refine ev_thr1 (ev_g (by decide) ?_)
            rw [if_neg (by decide)]
            exact ev_s h
        · refine ev_g (by decide) ?_
          rw [if_pos rfl]
          refine ev_thr1 (ev_g (by decide) ?_)
          rw [if_neg (by decide)]
          exact ev_s h
      · refine ev_g (by decide) ?_
        rw [if_pos rfl]
        refine ev_thr1 (ev_g (by decide) ?_)
        rw [if_neg (by decide)]
        exact ev_s h
    have hend : Ev (f_M_cross F σ2 p0 p1 p2) fun r2 s2 => gF s2 0 = (if THR = THR then 1 else 0) ∧ (THR ≠ THR → THR = r2) ∧ RR x σ1 s2 := hM _ ⟨by rw [if_pos rfl]; rfl, fun h => absurd rfl h, hz1⟩
    unfold f_W_cross
    refine ev_g (by omega) ?_
    by_cases d1 : p2 < 0
    · rw [if_pos d1]; exact ev_s hend
    rw [if_neg d1]
    refine ev_g (by omega) ?_
    by_cases d2 : 3 < p2
    · rw [if_pos d2]; exact ev_s hend
    rw [if_neg d2]
    have hm0 : f_Compass_meet_compass0 F σ1 p0 p1 = some (0, σ1) := by
      by_cases cab : (0 ≤ p0 ∧ p0 < svw σ2 4) ∧ 0 ≤ p1 ∧ p1 < svw σ2 4
      · exact (W_meet (F := F) hI hW cab.1 cab.2).2 (fun cr => c ⟨cab, by omega, cr⟩)
      · exact W_meet0 hI hW ⟨h0, h1⟩ cab
    refine ev_be hm0 (ev_g (by decide) ?_)
    rw [if_pos rfl]
    exact ev_s hend
end
