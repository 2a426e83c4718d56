/-! PURE PART: the roots of a rule -/
def hor (p w : Int) (A : Nat → Int) : Nat → Nat → Int → Int
  | 0, _, acc => acc
  | d + 1, i, acc => hor p w A d (i + 1) ((acc * w - A i) % p)
def rtB (n : Int) (A : Nat → Int) (k e : Nat) : Bool := decide (hor (PR n) (PW n e) A k 0 1 = 0)
theorem pcN_0 : ∀ k, pcN k 0 = 0
  | 0 => rfl
  | k + 1 => by
    have := pcN_0 k
    unfold pcN
    rw [show 0 / 2 = 0 from rfl, this]
theorem pcN_pow : ∀ (e k acc : Nat), acc < 2 ^ e → e < k → pcN k (acc + 2 ^ e) = pcN k acc + 1
  | 0, k + 1, acc, h, _ => by
    have : acc = 0 := by rw [Nat.pow_zero] at h; omega
    subst this
    show 1 % 2 + pcN k (1 / 2) = 0 % 2 + pcN k (0 / 2) + 1
    rw [show 1 / 2 = 0 from rfl]
    omega
  | e + 1, k + 1, acc, h, hk => by
    rw [Nat.pow_succ] at h ⊢
    show (acc + 2 ^ e * 2) % 2 + pcN k ((acc + 2 ^ e * 2) / 2) = acc % 2 + pcN k (acc / 2) + 1
    rw [show (acc + 2 ^ e * 2) % 2 = acc % 2 by omega, show (acc + 2 ^ e * 2) / 2 = acc / 2 + 2 ^ e by omega, pcN_pow e k (acc / 2) (by omega) (by omega)]
    omega
theorem or_add {acc e : Nat} (h : acc < 2 ^ e) : acc ||| 2 ^ e = acc + 2 ^ e := by
  have := Nat.two_pow_add_eq_or_of_lt h 1
  rw [Nat.mul_one] at this
  rw [Nat.or_comm, ← this, Nat.add_comm]
theorem pcN_bt (P : Nat → Bool) {K : Nat} (hK : 60 ≤ K) : ∀ (d e acc : Nat), acc < 2 ^ e → e + d ≤ 60 → pcN K (btS P d e acc) = pcN K acc + cD P d e
  | 0, _, _, _, _ => by
    unfold btS cD
    exact (Nat.add_zero _).symm
  | d + 1, e, acc, h, he => by
    have hp : 2 ^ (e + 1) = 2 ^ e * 2 := Nat.pow_succ ..
    unfold btS cD
    by_cases c : P e = true
    · rw [if_pos c, if_pos c, pcN_bt P hK d (e + 1) _ (by rw [or_add h]; omega) (by omega), or_add h, pcN_pow e K acc h (by omega)]
      omega
    · rw [if_neg c, if_neg c, pcN_bt P hK d (e + 1) acc (by omega) (by omega)]
      omega
section
variable {F : Nat} {s : Nat → Int}
theorem wv_1 (hI : MI s) {e : Nat} (he : (e : Int) < s 0) : wvS s (e : Nat) 1 = PW (s 0) e := by
  unfold wvS
  rw [Int.mul_one, Int.emod_eq_of_lt (by omega) he, Int.toNat_natCast]
theorem W_isr {σ : St} {p w : Int} {A : Nat → Int} {k : Nat} (hp : 1001 ≤ p ∧ p ≤ 1500) (hw : 0 ≤ w ∧ w < p) (hk : k ≤ 46) (h577 : gF σ 577 = (k : Nat)) (hA : ∀ i, i < k → gA σ 10 i = A i ∧ 0 ≤ A i ∧ A i < p) : ∀ (d m i : Nat) (acc : Int), d < m → i + d = k → (0 ≤ acc ∧ acc < p) → l_RuleFinder_isRoot_5 F m σ w p acc (i : Nat) = some (bi (decide (hor p w A d i acc = 0)), σ)
  | _, 0, _, _, h, _, _ => by omega
  | 0, m + 1, i, acc, _, hi, ha => by
    show b_RuleFinder_isRoot_5 F _ σ _ _ _ _ = _
    unfold b_RuleFinder_isRoot_5
    rw [gd_t (by omega), if_pos (by omega), gd_t (by omega), show hor p w A 0 i acc = acc from rfl]
    by_cases q : acc = 0
    · rw [if_pos q, decide_eq_true q]; rfl
    · rw [if_neg q, decide_eq_false q]; rfl
  | d + 1, m + 1, i, acc, hm, hi, ha => by
    obtain ⟨a1, a2⟩ := hA i (by omega)
    have m1 := modb (a := acc * w) (p := p) (by omega)
    have e : (acc * w % p - A i) % p = (acc * w - A i) % p := em_sub em_mod rfl
    show b_RuleFinder_isRoot_5 F _ σ _ _ _ _ = _
    unfold b_RuleFinder_isRoot_5
    rw [gd_t (by omega), if_neg (by omega), W_product (by omega) (by omega) (by omega), bnd_s, gd_t (by omega), Int.toNat_natCast, a1, W_difference m1 a2 (by omega), bnd_s, bv_s, e]
    exact W_isr hp hw hk h577 hA d m (i + 1) _ (by omega) (by omega) (modb (by omega))
theorem W_rt (hF : 100 ≤ F) (hI : MI s) {σ : St} (hV : WV σ s) {A : Nat → Int} {k : Nat} (hk : k ≤ 46) (h577 : gF σ 577 = (k : Nat)) (hA : ∀ i, i < k → gA σ 10 i = A i ∧ 0 ≤ A i ∧ A i < PR (s 0)) : ∀ (d m e acc : Nat), d < m → (e : Int) + d = s 0 → acc < 2 ^ 60 → l_RuleFinder_findRoots_lattice0_7 F m (sF σ 451 (acc : Nat)) (e : Nat) = some (0, sF σ 451 ((btS (rtB (s 0) A k) d e acc : Nat) : Int))
  | _, 0, _, _, h, _, _ => by omega
  | 0, m + 1, e, acc, _, he, ha => by
    have w0 : gF (sF σ 451 (acc : Nat)) 1472 = s 0 := hV.1.1
    have i0 := hI.1
    show b_RuleFinder_findRoots_lattice0_7 F _ _ _ = _
    unfold b_RuleFinder_findRoots_lattice0_7
    rw [gd_t (by omega), if_pos (by omega)]; rfl
  | d + 1, m + 1, e, acc, hm, he, ha => by
    have w0 : gF (sF σ 451 (acc : Nat)) 1472 = s 0 := hV.1.1
    have w1 : gF (sF σ 451 (acc : Nat)) 1473 = PR (s 0) := hV.1.2.1
    have hV' : WV (sF σ 451 (acc : Nat)) s := hV
    have i0 := hI.1
    have hp := PR_b i0
    have hor := W_isr (F := F) (σ := sF σ 451 (acc : Nat)) (p := PR (s 0)) (w := PW (s 0) e) (A := A) (k := k) hp (PW_b i0 e) hk h577 hA k F 0 1 (by omega) (by omega) (by omega)
    have hstep : l_RuleFinder_findRoots_lattice0_7 F (m + 1) (sF σ 451 (acc : Nat)) (e : Nat) = gd (rng (bi (rtB (s 0) A k e))) (if bi (rtB (s 0) A k e) = 0 then bv ((e : Int) + 1) fun x2_6 => l_RuleFinder_findRoots_lattice0_7 F m (sF σ 451 (acc : Nat)) x2_6 else gd (sh6 (e : Nat)) (bv (lorI (gF (sF σ 451 (acc : Nat)) 451) (1 * 2 ^ (Int.toNat (e : Nat)))) fun t7 => bs (sF (sF σ 451 (acc : Nat)) 451 t7) fun σ8 => bv ((e : Int) + 1) fun x2_9 => l_RuleFinder_findRoots_lattice0_7 F m σ8 x2_9)) := by
      show b_RuleFinder_findRoots_lattice0_7 F _ _ _ = _
      unfold b_RuleFinder_findRoots_lattice0_7 f_RuleFinder_isRoot
      rw [gd_t (by omega), if_neg (by omega), W_waveAt hI hV' (by omega) (by omega), bnd_s, wv_1 hI (by omega), w1]
      rw [show l_RuleFinder_isRoot_5 F F (sF σ 451 (acc : Nat)) (PW (s 0) e) (PR (s 0)) 1 0 = _ from hor, bnd_s]
      rfl
    rw [hstep]
    have hb : btS (rtB (s 0) A k) (d + 1) e acc = btS (rtB (s 0) A k) d (e + 1) (if rtB (s 0) A k e then acc ||| 2 ^ e else acc) := rfl
    rw [hb]
    cases q : rtB (s 0) A k e with
    | false =>
      rw [show bi false = 0 from rfl, gd_t (by decide), if_pos rfl, bv_s, if_neg Bool.false_ne_true]
      exact W_rt hF hI hV hk h577 hA d m (e + 1) acc (by omega) (by omega) ha
    | true =>
      have hl := lor_pow (acc := acc) (e := e) ha (by omega)
      rw [show bi true = 1 from rfl, gd_t (by decide), if_neg (by decide), gd_t (by omega), gF_eq, Int.toNat_natCast, hl.1, bv_s, bs_s, bv_s, if_pos rfl, sF_sF]
      exact W_rt hF hI hV hk h577 hA d m (e + 1) (acc ||| 2 ^ e) (by omega) (by omega) hl.2
def tl32 (F : Nat) (σ : St) (x2 x3 : Int) : Option (Int × St) := gd (rng x2) (if x2 ≤ 0 then bs (sF σ 32 0) fun σ5 => gd (rng (gF σ5 32)) (if (gF σ5 32) = 0 then some (0, σ5) else bs (sF σ5 25 (x2 + 1)) fun σ6 => bs (sF σ6 26 x2) fun σ7 => l_M_keepRule_166 F F σ7 x2 0) else gd (rng x3 ∧ rng x2) (if x3 = x2 then bs (sF σ 32 x2) fun σ26 => gd (rng (gF σ26 32)) (if (gF σ26 32) = 0 then some (0, σ26) else bs (sF σ26 25 (x2 + 1)) fun σ27 => bs (sF σ27 26 x2) fun σ28 => l_M_keepRule_166 F F σ28 x2 0) else bs (sF σ 32 0) fun σ23 => gd (rng (gF σ23 32)) (if (gF σ23 32) = 0 then some (0, σ23) else bs (sF σ23 25 (x2 + 1)) fun σ24 => bs (sF σ24 26 x2) fun σ25 => l_M_keepRule_166 F F σ25 x2 0)))
theorem M_58 (k32 : St → Int → Int → Int → Option (Int × St)) {σ : St} {p w : Int} {A : Nat → Int} {k : Nat} (hp : 1001 ≤ p ∧ p ≤ 1500) (hw : 0 ≤ w ∧ w < p) (hk : k ≤ 46) (h20 : gF σ 20 = p) (hA : ∀ i, i < k → gA σ 10 (i + 1) = A i ∧ 0 ≤ A i ∧ A i < p) {c e : Int} : ∀ (d m i : Nat) (acc : Int), d < m → i + d = k → (0 ≤ acc ∧ acc < p) → l_M_keepRule_58 F k32 m σ (k : Nat) c e w acc ((i + 1 : Nat) : Int) = if hor p w A d i acc = 0 then gd (sh6 e) (bv (lorI (gF σ 33) (1 * 2 ^ (Int.toNat e))) fun t30 => bs (sF σ 33 t30) fun σ31 => bv (c + 1) fun x3_32 => bv (e + 1) fun x4_33 => k32 σ31 (k : Nat) x3_32 x4_33) else bv (e + 1) fun x4_34 => k32 σ (k : Nat) c x4_34
  | _, 0, _, _, h, _, _ => by omega
  | 0, m + 1, i, acc, _, hi, ha => by
    show b_M_keepRule_58 F k32 _ σ _ _ _ _ _ _ = _
    unfold b_M_keepRule_58
    rw [gd_t (by omega), if_pos (by omega), gd_t (by omega)]; rfl
  | d + 1, m + 1, i, acc, hm, hi, ha => by
    obtain ⟨a1, a2⟩ := hA i (by omega)
    have q1 := mulb (a := acc) (b := w) (A := 1500) (B := 1500) (by omega) (by omega) (by omega) (by omega)
    have e1 : (acc * w + (p - A i)) % p = (acc * w - A i) % p := by
      rw [show acc * w + (p - A i) = (acc * w - A i) + p by omega, Int.add_emod_right]
    show b_M_keepRule_58 F k32 _ σ _ _ _ _ _ _ = _
    unfold b_M_keepRule_58
    rw [gd_t (by omega), if_neg (by omega), gd_t (by omega), Int.toNat_natCast, a1, bv_s, gd_t ⟨by omega, by omega, by omega⟩, h20, tmE (by omega), e1, bv_s, bv_s]
    exact M_58 k32 hp hw hk h20 hA d m (i + 1) _ (by omega) (by omega) (modb (by omega))
theorem M_32 (hF : 100 ≤ F) (hI : MI s) {σ : St} (hV : MV σ s) {A : Nat → Int} {k : Nat} (hk : k ≤ 46) (hA : ∀ i, i < k → gA σ 10 (i + 1) = A i ∧ 0 ≤ A i ∧ A i < PR (s 0)) : ∀ (d m e acc c : Nat), d < m → (e : Int) + d = s 0 → acc < 2 ^ 60 → l_M_keepRule_32 F m (sF σ 33 (acc : Nat)) (k : Nat) (c : Nat) (e : Nat) = tl32 F (sF σ 33 ((btS (rtB (s 0) A k) d e acc : Nat) : Int)) (k : Nat) ((c + cD (rtB (s 0) A k) d e : Nat) : Int)
  | _, 0, _, _, _, h, _, _ => by omega
  | 0, m + 1, e, acc, c, _, he, ha => by
    have v0 : gA (sF σ 33 (acc : Nat)) 2 (Int.toNat 0) = s 0 := hV.1 0
    have i0 := hI.1
    show b_M_keepRule_32 F _ _ _ _ _ = _
    unfold b_M_keepRule_32
    rw [gd_t (by decide), gd_t (by omega), if_pos (by omega)]; rfl
  | d + 1, m + 1, e, acc, c, hm, he, ha => by
    have v0 : gA (sF σ 33 (acc : Nat)) 2 (Int.toNat 0) = s 0 := hV.1 0
    have v6 : gA (sF σ 33 (acc : Nat)) 6 e = PW (s 0) e := hV.2.2.2 e (by omega)
    have i0 := hI.1
    have hp := PR_b i0
    have h58 := M_58 (F := F) (l_M_keepRule_32 F m) (σ := sF σ 33 (acc : Nat)) (p := PR (s 0)) (w := PW (s 0) e) (A := A) (k := k) hp (PW_b i0 e) hk hV.2.1 hA (c := (c : Nat)) (e := (e : Nat)) k F 0 1 (by omega) (by omega) (by omega)
    have hstep : l_M_keepRule_32 F (m + 1) (sF σ 33 (acc : Nat)) (k : Nat) (c : Nat) (e : Nat) = l_M_keepRule_58 F (l_M_keepRule_32 F m) F (sF σ 33 (acc : Nat)) (k : Nat) (c : Nat) (e : Nat) (PW (s 0) e) 1 ((0 + 1 : Nat) : Int) := by
      show b_M_keepRule_32 F _ _ _ _ _ = _
      unfold b_M_keepRule_32
      rw [gd_t (by decide), gd_t (by omega), if_neg (by omega), gd_t (by omega), Int.toNat_natCast, v6, bv_s]; rfl
    rw [hstep, h58]
    have hb : btS (rtB (s 0) A k) (d + 1) e acc = btS (rtB (s 0) A k) d (e + 1) (if rtB (s 0) A k e then acc ||| 2 ^ e else acc) := rfl
    have hc : cD (rtB (s 0) A k) (d + 1) e = (if rtB (s 0) A k e = true then 1 else 0) + cD (rtB (s 0) A k) d (e + 1) := rfl
    rw [hb, hc]
    by_cases q : hor (PR (s 0)) (PW (s 0) e) A k 0 1 = 0
    · have q' : rtB (s 0) A k e = true := decide_eq_true q
      have hl := lor_pow (acc := acc) (e := e) ha (by omega)
      rw [if_pos q, if_pos q', if_pos q', gd_t (by omega), gF_eq, Int.toNat_natCast, hl.1, bv_s, bs_s, bv_s, bv_s, sF_sF]
      have := M_32 hF hI hV hk hA d m (e + 1) (acc ||| 2 ^ e) (c + 1) (by omega) (by omega) hl.2
      rw [show c + 1 + cD (rtB (s 0) A k) d (e + 1) = c + (1 + cD (rtB (s 0) A k) d (e + 1)) by omega] at this
      exact this
    · have q' : ¬ rtB (s 0) A k e = true := fun w => q (of_decide_eq_true w)
      rw [if_neg q, if_neg q', if_neg q', bv_s, Nat.zero_add]
      exact M_32 hF hI hV hk hA d m (e + 1) acc c (by omega) (by omega) ha
end
