/-! PURE PART: the points of a fix -/
def anyF (p : Nat → Bool) : Nat → Nat → Bool
  | 0, _ => false
  | r + 1, i => p i || anyF p r (i + 1)
theorem anyF_iff {p : Nat → Bool} : ∀ r i, anyF p r i = true ↔ ∃ k, i ≤ k ∧ k < i + r ∧ p k = true
  | 0, i => ⟨fun h => (by cases h), fun ⟨k, h1, h2, _⟩ => (by omega)⟩
  | r + 1, i => by
    unfold anyF
    rw [Bool.or_eq_true, anyF_iff r (i + 1)]
    constructor
    · rintro (h | ⟨k, h1, h2, h3⟩)
      · exact ⟨i, by omega, by omega, h⟩
      · exact ⟨k, by omega, by omega, h3⟩
    · rintro ⟨k, h1, h2, h3⟩
      by_cases c : k = i
      · subst c; exact Or.inl h3
      · exact Or.inr ⟨k, by omega, by omega, h3⟩
theorem btS_bit (P : Nat → Bool) : ∀ d e acc k, (btS P d e acc).testBit k = (acc.testBit k || (decide (e ≤ k) && decide (k < e + d) && P k))
  | 0, e, acc, k => by
    unfold btS
    have : (decide (e ≤ k) && decide (k < e + 0) && P k) = false := by
      by_cases c : e ≤ k
      · rw [decide_eq_false (show ¬ k < e + 0 by omega)]; simp
      · rw [decide_eq_false c]; simp
    rw [this, Bool.or_false]
  | d + 1, e, acc, k => by
    unfold btS
    rw [btS_bit P d (e + 1)]
    by_cases c : k = e
    · subst c
      rw [decide_eq_false (show ¬ k + 1 ≤ k by omega), decide_eq_true (Nat.le_refl k), decide_eq_true (show k < k + (d + 1) by omega)]
      cases h : P k
      · rw [if_neg Bool.false_ne_true]; simp
      · rw [if_pos rfl, Nat.testBit_or, Nat.testBit_two_pow]; simp
    · have e1 : decide (e + 1 ≤ k) = decide (e ≤ k) := by rw [decide_eq_decide]; omega
      have e2 : decide (k < e + 1 + d) = decide (k < e + (d + 1)) := by rw [decide_eq_decide]; omega
      rw [e1, e2]
      congr 1
      cases h : P e
      · rw [if_neg Bool.false_ne_true]
      · rw [if_pos rfl, Nat.testBit_or, Nat.testBit_two_pow, decide_eq_false (show ¬ e = k from fun z => c z.symm), Bool.or_false]
def tg2 (s : Nat → Int) (c d : Int) : Nat := tgS s (pX s c d) (pY s c d) (tT s c d)
theorem btS_lt (P : Nat → Bool) : ∀ d e acc, e + d ≤ 8 → acc < 256 → btS P d e acc < 256
  | 0, _, _, _, h => h
  | d + 1, e, acc, h, ha => by
    unfold btS
    refine btS_lt P d (e + 1) _ (by omega) ?_
    split
    · exact Nat.or_lt_two_pow (n := 8) ha (Nat.pow_lt_pow_right (by omega) (by omega))
    · exact ha
section
variable {F : Nat} {s : Nat → Int}
theorem tg2_lt (hI : MI s) (c d : Int) : tg2 s c d < 256 := btS_lt _ _ _ _ (by have := hI.2.2.2.2.1; omega) (by omega)
theorem tg_bit (hI : MI s) {X Y T : Int} {c : Nat} (hc : (c : Int) < s 4) : (tgS s X Y T).testBit c = gtS s X Y T c := by
  unfold tgS
  rw [btS_bit, decide_eq_true (show 0 ≤ c by omega), decide_eq_true (show c < 0 + (s 4).toNat by omega)]
  simp
theorem tT_pos {a b : Int} (h : crS s a b) : 0 < tT s a b := by
  have := h.2.1
  unfold tT
  split <;> omega
theorem pX_b (a b : Int) : pX s a b = sXS s b * tT s a b + aB s a b * dxS s b := by
  unfold pX tT aA aB
  split <;> (unfold alA alB tnS; grind)
theorem pY_b (a b : Int) : pY s a b = sYS s b * tT s a b + aB s a b * dyS s b := by
  unfold pY tT aA aB
  split <;> (unfold alA alB tnS; grind)
theorem sq_pos {a x y : Int} (ha : 0 < a) (h : x ≠ 0 ∨ y ≠ 0) : 0 < a * x * x + a * y * y := by
  have h1 : ∀ z : Int, 0 ≤ z * z := fun z => by
    rcases Int.le_total 0 z with q | q
    · exact Int.mul_nonneg q q
    · have := Int.mul_nonneg (show 0 ≤ -z by omega) (show 0 ≤ -z by omega)
      rwa [Int.neg_mul_neg] at this
  have h2 : ∀ z : Int, z ≠ 0 → 0 < z * z := fun z hz => by
    have q1 := h1 z
    have q2 : z * z ≠ 0 := fun e => by rcases Int.mul_eq_zero.mp e with q | q <;> exact hz q
    omega
  have e : a * x * x + a * y * y = a * (x * x + y * y) := by grind
  rw [e]
  refine Int.mul_pos ha ?_
  have := h1 x
  have := h1 y
  rcases h with q | q
  · have := h2 x q; omega
  · have := h2 y q; omega
theorem gt_ownA {a b : Int} (h : crS s a b) {c : Nat} (hc : (c : Int) = a) : gtS s (pX s a b) (pY s a b) (tT s a b) c = true := by
  unfold gtS
  rw [hc]
  refine decide_eq_true ⟨?_, ?_⟩
  · unfold pX pY; grind
  · have := sq_pos (x := dxS s a) (y := dyS s a) h.2.2.1 (by
      by_cases q : dxS s a = 0
      · by_cases r : dyS s a = 0
        · exact absurd (by unfold tnS; rw [q, r]; simp) h.2.1
        · exact Or.inr r
      · exact Or.inl q)
    have e : (pX s a b - sXS s a * tT s a b) * dxS s a + (pY s a b - sYS s a * tT s a b) * dyS s a = aA s a b * dxS s a * dxS s a + aA s a b * dyS s a * dyS s a := by unfold pX pY; grind
    omega
theorem gt_ownB {a b : Int} (h : crS s a b) {c : Nat} (hc : (c : Int) = b) : gtS s (pX s a b) (pY s a b) (tT s a b) c = true := by
  unfold gtS
  rw [hc]
  refine decide_eq_true ⟨?_, ?_⟩
  · rw [pX_b, pY_b]; grind
  · have := sq_pos (x := dxS s b) (y := dyS s b) h.2.2.2 (by
      by_cases q : dxS s b = 0
      · by_cases r : dyS s b = 0
        · exact absurd (by unfold tnS; rw [q, r]; simp) h.2.1
        · exact Or.inr r
      · exact Or.inl q)
    have e : (pX s a b - sXS s b * tT s a b) * dxS s b + (pY s a b - sYS s b * tT s a b) * dyS s b = aB s a b * dxS s b * dxS s b + aB s a b * dyS s b * dyS s b := by rw [pX_b, pY_b]; grind
    omega
theorem pt_uniq {c d : Nat} {X Y T : Int} (h : crS s c d) (h1 : gtS s X Y T c = true) (h2 : gtS s X Y T d = true) : pX s c d * T = X * tT s c d ∧ pY s c d * T = Y * tT s c d := by
  have e1 := (of_decide_eq_true h1).1
  have e2 := (of_decide_eq_true h2).1
  have f1 := (of_decide_eq_true (gt_ownA h rfl)).1
  have f2 := (of_decide_eq_true (gt_ownB h rfl)).1
  have hn := h.2.1
  generalize pX s c d = X2 at *
  generalize pY s c d = Y2 at *
  generalize tT s c d = T2 at *
  unfold tnS at hn
  generalize sXS s c = xc at *
  generalize sXS s d = xd at *
  generalize sYS s c = yc at *
  generalize sYS s d = yd at *
  generalize dxS s c = uc at *
  generalize dxS s d = ud at *
  generalize dyS s c = vc at *
  generalize dyS s d = vd at *
  have g1 : (X2 * T - X * T2) * vc = (Y2 * T - Y * T2) * uc := by grind
  have g2 : (X2 * T - X * T2) * vd = (Y2 * T - Y * T2) * ud := by grind
  have k1 : (X2 * T - X * T2) * (uc * vd - vc * ud) = 0 := by grind
  have k2 : (Y2 * T - Y * T2) * (uc * vd - vc * ud) = 0 := by grind
  rcases Int.mul_eq_zero.mp k1 with q1 | q1
  · rcases Int.mul_eq_zero.mp k2 with q2 | q2
    · omega
    · exact absurd q2 hn
  · exact absurd q1 hn
theorem mul_pos_iff' {t x : Int} (ht : 0 < t) : 0 < t * x ↔ 0 < x := by
  constructor
  · intro h
    by_cases c : 0 < x
    · exact c
    · have := Int.mul_le_mul_of_nonneg_left (show x ≤ 0 by omega) (show 0 ≤ t by omega)
      rw [Int.mul_zero] at this
      omega
  · exact fun h => Int.mul_pos ht h
theorem tg_same {X Y T X2 Y2 T2 : Int} (hT : 0 < T) (hT2 : 0 < T2) (hx : X2 * T = X * T2) (hy : Y2 * T = Y * T2) : tgS s X Y T = tgS s X2 Y2 T2 := by
  unfold tgS
  refine btS_congr _ _ _ (fun i _ _ => ?_)
  unfold gtS
  rw [decide_eq_decide]
  generalize sXS s i = x
  generalize sYS s i = y
  generalize dxS s i = u
  generalize dyS s i = v
  have a1 : T2 * ((X - x * T) * v - (Y - y * T) * u) = T * ((X2 - x * T2) * v - (Y2 - y * T2) * u) := by grind
  have a2 : T2 * ((X - x * T) * u + (Y - y * T) * v) = T * ((X2 - x * T2) * u + (Y2 - y * T2) * v) := by grind
  have b1 := mul_pos_iff' (x := (X - x * T) * u + (Y - y * T) * v) hT2
  have b2 := mul_pos_iff' (x := (X2 - x * T2) * u + (Y2 - y * T2) * v) hT
  rw [← a2, b1] at b2
  have c1 : (X - x * T) * v = (Y - y * T) * u ↔ (X2 - x * T2) * v = (Y2 - y * T2) * u := by
    constructor
    · intro h
      have : T * ((X2 - x * T2) * v - (Y2 - y * T2) * u) = 0 := by rw [← a1, show (X - x * T) * v - (Y - y * T) * u = 0 by omega, Int.mul_zero]
      rcases Int.mul_eq_zero.mp this with q | q <;> omega
    · intro h
      have : T2 * ((X - x * T) * v - (Y - y * T) * u) = 0 := by rw [a1, show (X2 - x * T2) * v - (Y2 - y * T2) * u = 0 by omega, Int.mul_zero]
      rcases Int.mul_eq_zero.mp this with q | q <;> omega
  rw [c1, b2]
/-- one earlier pair meets at the same point -/
def smB (s : Nat → Int) (X Y T : Int) (c d : Nat) : Bool := (tgS s X Y T).testBit c && ((tgS s X Y T).testBit d && decide ((frS s c ≠ frS s d ∧ tnS s c d ≠ 0 ∧ 0 < aA s c d ∧ 0 < aB s c d) ∧ pX s c d * T = X * tT s c d ∧ pY s c d * T = Y * tT s c d))
theorem M_hasN {σ : St} {S c : Nat} (hS : S < 256) (hc : c < 8) : f_M_has F σ (S : Nat) (c : Nat) = some (bi (S.testBit c), σ) := by
  unfold f_M_has
  have e : ((S : Nat) : Int) / 2 ^ (Int.toNat (c : Nat)) = ((S / 2 ^ c : Nat) : Int) := by
    rw [Int.toNat_natCast]; simp
  have h2 : S.testBit c = decide (S / 2 ^ c % 2 = 1) := by rw [Nat.testBit_eq_decide_div_mod_eq]
  rw [gd_t (by omega), bv_s, e, iand1, gd_t (by omega), h2]
  by_cases q : S / 2 ^ c % 2 = 1
  · rw [if_pos (by omega), decide_eq_true q]; rfl
  · rw [if_neg (by omega), decide_eq_false q]; rfl
theorem crM_back {σ : St} {c d : Int} : sF (sF (sF (crM σ s c d) 48 (gF σ 48)) 49 (gF σ 49)) 50 (gF σ 50) = σ := by
  refine Prod.ext (funext fun j => ?_) rfl
  show (if j = 50 then σ.1 50 else if j = 49 then σ.1 49 else if j = 48 then σ.1 48 else if j = 49 then _ else if j = 48 then _ else if j = 50 then _ else σ.1 j) = σ.1 j
  by_cases h : j = 50
  · rw [if_pos h, h]
  · rw [if_neg h]
    by_cases h1 : j = 49
    · rw [if_pos h1, h1]
    · rw [if_neg h1]
      by_cases h2 : j = 48
      · rw [if_pos h2, h2]
      · rw [if_neg h2, if_neg h1, if_neg h2, if_neg h]
def tl66 (F : Nat) (self : St → Int → Int → Int → Int → Int → Int → Option (Int × St)) (σ : St) (x1 x2 x3 x4 x5 x6 : Int) : Option (Int × St) := bnd (f_M_has F σ x3 x5) fun r51 σ52 => gd (rng r51) (if r51 = 0 then bv (x6 + 1) fun x6_53 => self σ52 x1 x2 x3 x4 x5 x6_53 else bnd (f_M_has F σ52 x3 x6) fun r54 σ55 => gd (rng r54) (if r54 = 0 then bv (x6 + 1) fun x6_85 => self σ55 x1 x2 x3 x4 x5 x6_85 else bv (gF σ55 48) fun x7_56 => bv (gF σ55 49) fun x9_57 => bv (gF σ55 50) fun x11_58 => bnd (f_M_crosses F σ55 x5 x6) fun r59 σ60 => gd (rng r59) (if r59 = 0 then bs (sF σ60 48 x7_56) fun σ61 => bs (sF σ61 49 x9_57) fun σ62 => bs (sF σ62 50 x11_58) fun σ63 => gd (rng x4) (if x4 = 0 then bv (x6 + 1) fun x6_64 => self σ63 x1 x2 x3 0 x5 x6_64 else gd (rng 0) (if (0 : Int) = 0 then bv (x6 + 1) fun x6_66 => self σ63 x1 x2 x3 1 x5 x6_66 else bv (x6 + 1) fun x6_65 => self σ63 x1 x2 x3 0 x5 x6_65)) else gd (rng64 ((gF σ60 48) * x11_58) ∧ rng64 (x7_56 * (gF σ60 50))) (if ((gF σ60 48) * x11_58) = (x7_56 * (gF σ60 50)) then gd (rng64 ((gF σ60 49) * x11_58) ∧ rng64 (x9_57 * (gF σ60 50))) (if ((gF σ60 49) * x11_58) = (x9_57 * (gF σ60 50)) then bs (sF σ60 48 x7_56) fun σ79 => bs (sF σ79 49 x9_57) fun σ80 => bs (sF σ80 50 x11_58) fun σ81 => gd (rng x4) (if x4 = 0 then bv (x6 + 1) fun x6_82 => self σ81 x1 x2 x3 0 x5 x6_82 else gd (rng 1) (if (1 : Int) = 0 then bv (x6 + 1) fun x6_84 => self σ81 x1 x2 x3 1 x5 x6_84 else bv (x6 + 1) fun x6_83 => self σ81 x1 x2 x3 0 x5 x6_83)) else bs (sF σ60 48 x7_56) fun σ73 => bs (sF σ73 49 x9_57) fun σ74 => bs (sF σ74 50 x11_58) fun σ75 => gd (rng x4) (if x4 = 0 then bv (x6 + 1) fun x6_76 => self σ75 x1 x2 x3 0 x5 x6_76 else gd (rng 0) (if (0 : Int) = 0 then bv (x6 + 1) fun x6_78 => self σ75 x1 x2 x3 1 x5 x6_78 else bv (x6 + 1) fun x6_77 => self σ75 x1 x2 x3 0 x5 x6_77))) else bs (sF σ60 48 x7_56) fun σ67 => bs (sF σ67 49 x9_57) fun σ68 => bs (sF σ68 50 x11_58) fun σ69 => gd (rng x4) (if x4 = 0 then bv (x6 + 1) fun x6_70 => self σ69 x1 x2 x3 0 x5 x6_70 else gd (rng 0) (if (0 : Int) = 0 then bv (x6 + 1) fun x6_72 => self σ69 x1 x2 x3 1 x5 x6_72 else bv (x6 + 1) fun x6_71 => self σ69 x1 x2 x3 0 x5 x6_71))))))
theorem M_tl66 (hI : MI s) (self : St → Int → Int → Int → Int → Int → Int → Option (Int × St)) {σ : St} (hV : ∀ i, gA σ 2 i = s i) {X Y T : Int} (hX : gF σ 48 = X) (hY : gF σ 49 = Y) (hT : gF σ 50 = T) (hP : ptB X Y T) {a b : Int} {f : Bool} {c d : Nat} (hc : (c : Int) < s 4) (hd : (d : Int) < s 4) (hS : tgS s X Y T < 256) : tl66 F self σ a b (tgS s X Y T : Nat) (bi f) (c : Nat) (d : Nat) = self σ a b (tgS s X Y T : Nat) (bi (f && !smB s X Y T c d)) (c : Nat) ((d + 1 : Nat) : Int) := by
  have i4 := hI.2.2.2.2.1
  have pb := pt_b hI (a := (c : Int)) (b := (d : Int)) (by omega) (by omega)
  have hf : rng (bi f) := by cases f <;> decide
  unfold tl66
  rw [M_hasN hS (by omega), bnd_s]
  unfold smB
  cases q1 : (tgS s X Y T).testBit c with
  | false =>
    rw [show bi false = 0 from rfl, gd_t (by decide), if_pos rfl, bv_s, Bool.false_and, Bool.not_false, Bool.and_true]; rfl
  | true =>
    rw [show bi true = 1 from rfl, gd_t (by decide), if_neg (by decide), M_hasN hS (by omega), bnd_s]
    cases q2 : (tgS s X Y T).testBit d with
    | false =>
      rw [show bi false = 0 from rfl, gd_t (by decide), if_pos rfl, bv_s, Bool.false_and, Bool.and_false, Bool.not_false, Bool.and_true]; rfl
    | true =>
      rw [show bi true = 1 from rfl, gd_t (by decide), if_neg (by decide), bv_s, bv_s, bv_s, Bool.true_and, Bool.true_and]
      have k0 : gd (rng (bi f)) (if bi f = 0 then self σ a b (tgS s X Y T : Nat) 0 (c : Nat) ((d : Int) + 1) else gd (rng 0) (if (0 : Int) = 0 then self σ a b (tgS s X Y T : Nat) 1 (c : Nat) ((d : Int) + 1) else self σ a b (tgS s X Y T : Nat) 0 (c : Nat) ((d : Int) + 1))) = self σ a b (tgS s X Y T : Nat) (bi f) (c : Nat) ((d + 1 : Nat) : Int) := by
        rw [gd_t hf]
        cases f
        · rw [show bi false = 0 from rfl, if_pos rfl]; rfl
        · rw [show bi true = 1 from rfl, if_neg (by decide), gd_t (by decide), if_pos rfl]; rfl
      have k1 : gd (rng (bi f)) (if bi f = 0 then self σ a b (tgS s X Y T : Nat) 0 (c : Nat) ((d : Int) + 1) else gd (rng 1) (if (1 : Int) = 0 then self σ a b (tgS s X Y T : Nat) 1 (c : Nat) ((d : Int) + 1) else self σ a b (tgS s X Y T : Nat) 0 (c : Nat) ((d : Int) + 1))) = self σ a b (tgS s X Y T : Nat) 0 (c : Nat) ((d + 1 : Nat) : Int) := by
        rw [gd_t hf]
        cases f
        · rw [show bi false = 0 from rfl, if_pos rfl]; rfl
        · rw [show bi true = 1 from rfl, if_neg (by decide), gd_t (by decide), if_neg (by decide)]; rfl
      by_cases q3 : crS s c d
      · rw [M_cross1 hI hV (by omega) (by omega) q3, bnd_s, gd_t (by decide), if_neg (by decide)]
        have e48 : gF (crM σ s c d) 48 = pX s c d := rfl
        have e49 : gF (crM σ s c d) 49 = pY s c d := rfl
        have e50 : gF (crM σ s c d) 50 = tT s c d := rfl
        have u1 := absb (x := pX s c d) (y := T) (A := 6000000) (B := 19602) (by omega) (by omega)
        have u2 := absb (x := X) (y := tT s c d) (A := 6000000) (B := 19602) (by omega) (by omega)
        have u3 := absb (x := pY s c d) (y := T) (A := 6000000) (B := 19602) (by omega) (by omega)
        have u4 := absb (x := Y) (y := tT s c d) (A := 6000000) (B := 19602) (by omega) (by omega)
        rw [e48, e49, e50, hX, hY, hT, gd_t (by omega)]
        by_cases q4 : pX s c d * T = X * tT s c d
        · rw [if_pos q4, gd_t (by omega)]
          by_cases q5 : pY s c d * T = Y * tT s c d
          · rw [if_pos q5, bs_s, bs_s, bs_s, ← hX, ← hY, ← hT, crM_back, hX, hY, hT, decide_eq_true ⟨q3, q4, q5⟩, Bool.not_true, Bool.and_false]
            exact k1
          · rw [if_neg q5, bs_s, bs_s, bs_s, ← hX, ← hY, ← hT, crM_back, hX, hY, hT, decide_eq_false (fun w => q5 w.2.2), Bool.not_false, Bool.and_true]
            exact k0
        · rw [if_neg q4, bs_s, bs_s, bs_s, ← hX, ← hY, ← hT, crM_back, hX, hY, hT, decide_eq_false (fun w => q4 w.2.1), Bool.not_false, Bool.and_true]
          exact k0
      · rw [M_cross0 hI hV (by omega) (by omega) q3, bnd_s, gd_t (by decide), if_pos rfl, bs_s, bs_s, bs_s, sF_id rfl, sF_id rfl, sF_id rfl, decide_eq_false (fun w => q3 w.1), Bool.not_false, Bool.and_true]
        exact k0
theorem M_66 (hI : MI s) (k7 : St → Int → Option (Int × St)) (k21 : St → Int → Int → Option (Int × St)) (k54 : St → Int → Int → Int → Int → Int → Option (Int × St)) {σ : St} (hV : ∀ i, gA σ 2 i = s i) {X Y T : Int} (hX : gF σ 48 = X) (hY : gF σ 49 = Y) (hT : gF σ 50 = T) (hP : ptB X Y T) (hS : tgS s X Y T < 256) {a b c e : Nat} (hb : (b : Int) < s 4) (ha : a < b) (hc : c ≤ a) (he : e = if c = a then b else (s 4).toNat) : ∀ (r m d : Nat) (f : Bool), r < m → d + r = e → l_M_findPoints_66 F k7 k21 k54 m σ (a : Nat) (b : Nat) (tgS s X Y T : Nat) (bi f) (c : Nat) (d : Nat) = k54 σ (a : Nat) (b : Nat) (tgS s X Y T : Nat) (bi (f && !anyF (smB s X Y T c) r d)) ((c + 1 : Nat) : Int)
  | _, 0, _, _, hm, _ => by omega
  | 0, m + 1, d, f, _, hr => by
    have i4 := hI.2.2.2.2.1
    have v4 : gA σ 2 (Int.toNat 4) = s 4 := hV 4
    show b_M_findPoints_66 F k7 k21 k54 (l_M_findPoints_66 F k7 k21 k54 m) σ (a : Nat) (b : Nat) (tgS s X Y T : Nat) (bi f) (c : Nat) (d : Nat) = _
    unfold b_M_findPoints_66
    rw [show anyF (smB s X Y T c) 0 d = false from rfl, Bool.not_false, Bool.and_true, gd_t (by omega)]
    by_cases q : c = a
    · rw [if_pos q] at he
      rw [if_pos (by omega), gd_t (by omega), if_pos (by omega), bv_s]; rfl
    · rw [if_neg q] at he
      rw [if_neg (by omega), gd_t (by decide), gd_t (by omega), if_pos (by omega), bv_s]; rfl
  | r + 1, m + 1, d, f, hm, hr => by
    have i4 := hI.2.2.2.2.1
    have v4 : gA σ 2 (Int.toNat 4) = s 4 := hV 4
    have hde : (d : Int) < s 4 := by
      by_cases q : c = a
      · rw [if_pos q] at he; omega
      · rw [if_neg q] at he; omega
    have key := M_tl66 (F := F) hI (l_M_findPoints_66 F k7 k21 k54 m) hV hX hY hT hP (a := (a : Nat)) (b := (b : Nat)) (f := f) (c := c) (d := d) (by omega) hde hS
    have ih := M_66 hI k7 k21 k54 hV hX hY hT hP hS hb ha hc he r m (d + 1) (f && !smB s X Y T c d) (by omega) (by omega)
    have e2 : (f && !anyF (smB s X Y T c) (r + 1) d) = ((f && !smB s X Y T c d) && !anyF (smB s X Y T c) r (d + 1)) := by
      show (f && !(smB s X Y T c d || anyF (smB s X Y T c) r (d + 1))) = _
      cases f <;> cases smB s X Y T c d <;> cases anyF (smB s X Y T c) r (d + 1) <;> rfl
    rw [e2, ← ih, ← key]
    show b_M_findPoints_66 F k7 k21 k54 (l_M_findPoints_66 F k7 k21 k54 m) σ (a : Nat) (b : Nat) (tgS s X Y T : Nat) (bi f) (c : Nat) (d : Nat) = _
    unfold b_M_findPoints_66 tl66
    rw [gd_t (by omega)]
    by_cases q : c = a
    · rw [if_pos q] at he
      rw [if_pos (by omega), gd_t (by omega), if_neg (by omega)]
    · rw [if_neg q] at he
      rw [if_neg (by omega), gd_t (by decide), gd_t (by omega), if_neg (by omega)]
def appM (σ : St) (nm : Int) (S : Nat) : St := sF (sA (sA σ 18 (gF σ 55).toNat nm) 19 (gF σ 55).toNat (S : Int)) 55 (gF σ 55 + 1)
def seB (s : Nat → Int) (X Y T : Int) (a b c : Nat) : Bool := anyF (smB s X Y T c) ((if c = a then b else (s 4).toNat) - (c + 1)) (c + 1)
theorem M_54 (hF : 20 ≤ F) (hI : MI s) (k7 : St → Int → Option (Int × St)) (k21 : St → Int → Int → Option (Int × St)) {σ : St} (hV : ∀ i, gA σ 2 i = s i) {X Y T : Int} (hX : gF σ 48 = X) (hY : gF σ 49 = Y) (hT : gF σ 50 = T) (hP : ptB X Y T) (hS : tgS s X Y T < 256) {a b : Nat} (hb : (b : Int) < s 4) (ha : a < b) (h55 : 0 ≤ gF σ 55 ∧ gF σ 55 < 28) : ∀ (r m c : Nat) (f : Bool), r < m → c + r = a + 1 → l_M_findPoints_54 F k7 k21 m σ (a : Nat) (b : Nat) (tgS s X Y T : Nat) (bi f) (c : Nat) = k21 (if (f && !anyF (seB s X Y T a b) r c) = true then appM σ (10 * (a : Int) + b) (tgS s X Y T) else σ) (a : Nat) ((b + 1 : Nat) : Int)
  | _, 0, _, _, hm, _ => by omega
  | 0, m + 1, c, f, _, hr => by
    have i4 := hI.2.2.2.2.1
    show b_M_findPoints_54 F k7 k21 (l_M_findPoints_54 F k7 k21 m) σ (a : Nat) (b : Nat) (tgS s X Y T : Nat) (bi f) (c : Nat) = _
    unfold b_M_findPoints_54
    rw [show anyF (seB s X Y T a b) 0 c = false from rfl, Bool.not_false, Bool.and_true, gd_t (by omega), if_pos (by omega)]
    cases f
    · rw [show bi false = 0 from rfl, gd_t (by decide), if_pos rfl, if_neg Bool.false_ne_true, bv_s]; rfl
    · rw [show bi true = 1 from rfl, gd_t (by decide), if_neg (by decide), if_pos rfl, gd_t (by omega), bs_s, gd_t (show inb (gF (sA σ 18 (Int.toNat (gF σ 55)) ((10 * (a : Int)) + b)) 55) 28 from h55), bs_s, bs_s, bv_s]; rfl
  | r + 1, m + 1, c, f, hm, hr => by
    have i4 := hI.2.2.2.2.1
    have hle : c + 1 + ((if c = a then b else (s 4).toNat) - (c + 1)) = if c = a then b else (s 4).toNat := by
      split <;> omega
    have k66 := M_66 (F := F) hI k7 k21 (l_M_findPoints_54 F k7 k21 m) hV hX hY hT hP hS hb ha (c := c) (by omega) rfl _ F (c + 1) f (by split <;> omega) hle
    have ih := M_54 hF hI k7 k21 hV hX hY hT hP hS hb ha h55 r m (c + 1) (f && !seB s X Y T a b c) (by omega) (by omega)
    have e2 : (f && !anyF (seB s X Y T a b) (r + 1) c) = ((f && !seB s X Y T a b c) && !anyF (seB s X Y T a b) r (c + 1)) := by
      show (f && !(seB s X Y T a b c || anyF (seB s X Y T a b) r (c + 1))) = _
      cases f <;> cases seB s X Y T a b c <;> cases anyF (seB s X Y T a b) r (c + 1) <;> rfl
    rw [e2, ← ih]
    show b_M_findPoints_54 F k7 k21 (l_M_findPoints_54 F k7 k21 m) σ (a : Nat) (b : Nat) (tgS s X Y T : Nat) (bi f) (c : Nat) = _
    unfold b_M_findPoints_54
    rw [gd_t (by omega), if_neg (by omega), bv_s]
    exact k66
def appW (σ : St) (nm : Int) (S : Nat) : St := sF (sA (sA σ 91 (gF σ 5633).toNat nm) 92 (gF σ 5633).toNat (S : Int)) 5633 (gF σ 5633 + 1)
theorem W_lp {σ : St} {cnt : Nat} (h : gF σ 5633 = cnt) (hc : cnt < 28) {nm : Int} {S : Nat} (hS : S < 256) (hA : ∀ j : Nat, j < cnt → 0 ≤ gA σ 92 j ∧ gA σ 92 j < 256) : ∀ (r m j : Nat), r < m → j + r = cnt → l_Fixer_listPoint_2 F m σ nm (S : Nat) (j : Nat) = some (0, if anyF (fun j => decide (gA σ 92 j = (S : Int))) r j = true then σ else appW σ nm S)
  | _, 0, _, hm, _ => by omega
  | 0, m + 1, j, _, hr => by
    show b_Fixer_listPoint_2 F (l_Fixer_listPoint_2 F m) σ nm (S : Nat) (j : Nat) = _
    unfold b_Fixer_listPoint_2
    rw [gd_t (by omega), if_pos (by omega), gd_t (by omega), if_neg (by omega), gd_t (by omega), bs_s, gd_t (show inb (gF (sA σ 91 (Int.toNat (gF σ 5633)) nm) 5633) 28 from by show inb (gF σ 5633) 28; omega), bs_s, bs_s, show anyF (fun j => decide (gA σ 92 j = (S : Int))) 0 j = false from rfl, if_neg Bool.false_ne_true]
    rfl
  | r + 1, m + 1, j, hm, hr => by
    have := hA j (by omega)
    show b_Fixer_listPoint_2 F (l_Fixer_listPoint_2 F m) σ nm (S : Nat) (j : Nat) = _
    unfold b_Fixer_listPoint_2
    rw [gd_t (by omega), if_neg (by omega), gd_t (by omega), Int.toNat_natCast, gd_t (by omega)]
    unfold anyF
    by_cases q : gA σ 92 j = (S : Int)
    · rw [if_pos q, decide_eq_true q, Bool.true_or, if_pos rfl]
    · rw [if_neg q, decide_eq_false q, Bool.false_or]
      exact W_lp h hc hS hA r m (j + 1) (by omega) (by omega)
end
