/-! PURE PART: unlike roots' powers -/
theorem dt_lin {f x w : Nat → Int} {a : Int} : ∀ m, dt f (fun c => x c * (w c - a)) m = dt (fun c => f c * w c) x m - a * dt f x m
  | 0 => by unfold dt; simp
  | m + 1 => by
    unfold dt
    rw [dt_lin m]
    grind
theorem elR_keep {p : Int} {high : Nat} : ∀ (d c rk : Nat) (A : Nat → Nat → Int) (ld le : Nat → Int) (i : Nat), i < c → (elR p high d c rk A ld le).2.2.1 i = ld i
  | 0, _, _, _, _, _, _, _ => rfl
  | d + 1, c, rk, A, ld, le, i, hi => by
    unfold elR
    by_cases h : fr A c (high - rk) rk = -1
    · rw [if_pos h, elR_keep d (c + 1) _ _ _ _ i (by omega)]
      unfold up; rw [if_neg (by omega)]
    · rw [if_neg h, elR_keep d (c + 1) _ _ _ _ i (by omega)]
      unfold up; rw [if_neg (by omega)]
theorem elR_all {p : Int} {high : Nat} : ∀ (d c rk : Nat) (A : Nat → Nat → Int) (ld le : Nat → Int), (∀ i, c ≤ i → i < c + d → (elR p high d c rk A ld le).2.2.1 i ≠ -1) → (elR p high d c rk A ld le).1 = rk + d
  | 0, _, _, _, _, _, _ => rfl
  | d + 1, c, rk, A, ld, le, h => by
    have hc := h c (by omega) (by omega)
    unfold elR at hc h ⊢
    by_cases q : fr A c (high - rk) rk = -1
    · rw [if_pos q] at hc
      rw [elR_keep d (c + 1) _ _ _ _ c (by omega)] at hc
      exact absurd (by unfold up; rw [if_pos rfl]) hc
    · rw [if_neg q] at h ⊢
      rw [elR_all d (c + 1) (rk + 1) _ _ _ (fun i h1 h2 => h i (by omega) (by omega))]
      omega
section
variable {n : Int}
theorem nzm (hn : wayN n) {a b : Int} (h : a * b % PR n = 0) (hb : b % PR n ≠ 0) : a % PR n = 0 := by
  have hp := PR_b hn
  have b1 := modb (a := a) (p := PR n) (by omega)
  have b2 := modb (a := b) (p := PR n) (by omega)
  by_cases c : a % PR n = 0
  · exact c
  · exfalso
    have := nzd hn (a := a % PR n) (b := b % PR n) (by omega) (by omega)
    rw [← Int.mul_emod] at this
    exact this h
theorem VN (hn : wayN n) : ∀ (m : Nat) (w x : Nat → Int), (∀ i, i < m → 0 ≤ w i ∧ w i < PR n) → (∀ i j, i < j → j < m → w i ≠ w j) → (∀ r, r < m → dt (fun c => w c ^ r) x m % PR n = 0) → ∀ c, c < m → x c % PR n = 0
  | 0, _, _, _, _, _, c, hc => by omega
  | m + 1, w, x, hw, hd, h, c, hc => by
    have hp := PR_b hn
    have hy : ∀ c, c < m → x c * (w c - w m) % PR n = 0 := VN hn m w (fun c => x c * (w c - w m)) (fun i hi => hw i (by omega)) (fun i j h1 h2 => hd i j h1 (by omega)) (fun r hr => by
      have e1 := h r (by omega)
      have e2 := h (r + 1) (by omega)
      have l1 : dt (fun c => w c ^ r) x (m + 1) = dt (fun c => w c ^ r) x m + w m ^ r * x m := rfl
      have l2 : dt (fun c => w c ^ (r + 1)) x (m + 1) = dt (fun c => w c ^ (r + 1)) x m + w m ^ (r + 1) * x m := rfl
      have l3 : dt (fun c => w c ^ (r + 1)) x m = dt (fun c => w c ^ r * w c) x m := dt_congr m (fun k _ => Int.pow_succ (w k) r)
      rw [dt_lin m, ← l3]
      have e3 : dt (fun c => w c ^ (r + 1)) x m - w m * dt (fun c => w c ^ r) x m = dt (fun c => w c ^ (r + 1)) x (m + 1) - w m * dt (fun c => w c ^ r) x (m + 1) := by
        rw [l1, l2, Int.pow_succ]; grind
      rw [e3, Int.sub_emod, e2, Int.mul_emod, e1]
      simp)
    have hx : ∀ c, c < m → x c % PR n = 0 := fun c hc => by
      refine nzm hn (hy c hc) (fun z => ?_)
      have a1 := hw c (by omega)
      have a2 := hw m (by omega)
      have a3 := hd c m hc (by omega)
      by_cases q : w m ≤ w c
      · rw [Int.emod_eq_of_lt (by omega) (by omega)] at z; omega
      · have : (w c - w m + PR n) % PR n = 0 := by rw [Int.add_emod_right]; exact z
        rw [Int.emod_eq_of_lt (by omega) (by omega)] at this; omega
    by_cases q : c < m
    · exact hx c q
    · have : c = m := by omega
      subst this
      have e0 := h 0 (by omega)
      have l1 : dt (fun i => w i ^ 0) x (c + 1) = dt (fun i => w i ^ 0) x c + w c ^ 0 * x c := rfl
      have z : dt (fun i => w i ^ 0) x c % PR n = 0 := by
        have : dt (fun i => w i ^ 0) x c % PR n = dt (fun i => w i ^ 0) (fun _ => 0) c % PR n := dt_em2 c (fun k hk => by rw [hx k hk, Int.zero_emod])
        rw [this, dt_zero c (fun k _ => Or.inr rfl), Int.zero_emod]
      rw [l1, Int.pow_zero, Int.one_mul, Int.add_emod, z, Int.zero_add, em_mod] at e0
      exact e0
theorem mdB_full (hn : wayN n) {k : Nat} {A : Nat → Nat → Int} (hA : Can (PR n) k (k + 1) A) (h : ∀ x, NS (PR n) k (k + 1) A x → x k = 0 → ∀ c, c < k → x c % PR n = 0) : mdB (PR n) k k A = true := by
  have hp := PR_b hn
  have hl : ∀ i, i < k → (el (PR n) k k A).2.2.1 i ≠ -1 := fun i hi z => by
    obtain ⟨x, x1, x2, x3⟩ := (pv_iff hn (wide := k + 1) (by omega) hA hi).mp z
    have := h x x1 (x3 k hi) i hi
    rw [x2] at this
    have e : (-1 : Int) % PR n = PR n - 1 := by
      rw [← Int.add_emod_right, show (-1 : Int) + PR n = PR n - 1 by omega]
      exact Int.emod_eq_of_lt (by omega) (by omega)
    omega
  have hr : (el (PR n) k k A).1 = 0 + k := elR_all k 0 0 A _ _ (fun i _ h2 => hl i (by omega))
  unfold mdB
  rw [hr, Nat.zero_add, Nat.sub_self]
  rfl
end
def rtA (P : Nat → Bool) : Nat → Nat → Nat → Nat
  | 0, _, _ => 0
  | d + 1, e, c => if P e = true then (if c = 0 then e else rtA P d (e + 1) (c - 1)) else rtA P d (e + 1) c
theorem rtA_b (P : Nat → Bool) : ∀ d e c, c < cD P d e → e ≤ rtA P d e c ∧ rtA P d e c < e + d
  | 0, _, _, h => by unfold cD at h; omega
  | d + 1, e, c, h => by
    unfold cD at h
    unfold rtA
    by_cases q : P e = true
    · rw [if_pos q] at h ⊢
      by_cases z : c = 0
      · rw [if_pos z]; omega
      · rw [if_neg z]
        have := rtA_b P d (e + 1) (c - 1) (by omega)
        omega
    · rw [if_neg q] at h ⊢
      have := rtA_b P d (e + 1) c (by omega)
      omega
theorem rtA_lt (P : Nat → Bool) : ∀ d e i j, i < j → j < cD P d e → rtA P d e i < rtA P d e j
  | 0, _, _, _, _, h => by unfold cD at h; omega
  | d + 1, e, i, j, hij, h => by
    unfold cD at h
    unfold rtA
    by_cases q : P e = true
    · rw [if_pos q] at h ⊢
      rw [if_pos q, if_neg (show ¬ j = 0 by omega)]
      have b := rtA_b P d (e + 1) (j - 1) (by omega)
      by_cases z : i = 0
      · rw [if_pos z]; omega
      · rw [if_neg z]
        exact rtA_lt P d (e + 1) (i - 1) (j - 1) (by omega) (by omega)
    · rw [if_neg q] at h ⊢
      rw [if_neg q]
      exact rtA_lt P d (e + 1) i j hij (by omega)
/-- the rows of the strengths -/
def SM (s : Nat → Int) (P : Nat → Bool) (k : Nat) (v : Nat → Int) : Nat → Nat → Int := fun r c => if c < k then wvS s (rtA P (s 0).toNat 0 c) r else v r
section
variable {s : Nat → Int}
theorem wv_pow (hI : MI s) {e r : Nat} (he : (e : Int) < s 0) : wvS s (e : Nat) (r : Nat) % PR (s 0) = PW (s 0) e ^ r % PR (s 0) := by
  have i0 := hI.1
  have hp := PR_b i0
  induction r with
  | zero =>
    unfold wvS
    rw [show ((0 : Nat) : Int) = 0 from rfl, Int.mul_zero, Int.zero_emod, Int.pow_zero]; rfl
  | succ r ih =>
    have e1 : wvS s (e : Nat) ((r + 1 : Nat) : Int) = wvS s (e : Nat) (r : Nat) * wvS s (e : Nat) 1 % PR (s 0) := by
      have := wv_add hI (s := s) ((e : Int) * r) ((e : Int) * 1) 1
      unfold wvS at this ⊢
      simp only [Int.mul_one] at this
      rw [show ((r + 1 : Nat) : Int) = (r : Int) + 1 by omega, Int.mul_add, Int.mul_one]
      exact this
    rw [e1, em_mod, wv_1 hI he, Int.pow_succ]
    exact em_mul ih rfl
theorem SM_can (hI : MI s) {P : Nat → Bool} {k : Nat} {v : Nat → Int} (hv : ∀ i, i < k → 0 ≤ v i ∧ v i < PR (s 0)) : Can (PR (s 0)) k (k + 1) (SM s P k v) := by
  intro r c hr hc
  unfold SM
  split
  · exact wvS_b hI _ _
  · exact hv r hr
theorem SM_md (hI : MI s) {P : Nat → Bool} {k : Nat} {v : Nat → Int} (hv : ∀ i, i < k → 0 ≤ v i ∧ v i < PR (s 0)) (hk : cD P (s 0).toNat 0 = k) : mdB (PR (s 0)) k k (SM s P k v) = true := by
  have i0 := hI.1
  refine mdB_full i0 (SM_can hI hv) (fun x hx h0 => ?_)
  refine VN i0 k (fun c => PW (s 0) (rtA P (s 0).toNat 0 c)) x (fun i _ => PW_b i0 _) (fun i j hij hj e => ?_) (fun r hr => ?_)
  · have b1 := rtA_b P (s 0).toNat 0 i (by omega)
    have b2 := rtA_b P (s 0).toNat 0 j (by omega)
    have b3 := rtA_lt P (s 0).toNat 0 i j hij (by omega)
    have := PW_inj i0 (by omega) (by omega) e
    omega
  · have h1 := hx r hr
    have e : dt (SM s P k v r) x (k + 1) = dt (SM s P k v r) x k + SM s P k v r k * x k := rfl
    rw [e, h0, Int.mul_zero, Int.add_zero] at h1
    rw [← h1]
    refine (dt_em k (fun c hc => ?_)).symm
    unfold SM
    rw [if_pos hc]
    have b1 := rtA_b P (s 0).toNat 0 c (by omega)
    exact wv_pow hI (by omega)
end
