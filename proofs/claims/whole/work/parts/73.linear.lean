/-! PURE PART: what elimination keeps -/
def dt (f x : Nat → Int) : Nat → Int
  | 0 => 0
  | n + 1 => dt f x n + f n * x n
def NS (p : Int) (high wide : Nat) (A : Nat → Nat → Int) (x : Nat → Int) : Prop := ∀ r, r < high → dt (A r) x wide % p = 0
theorem dt_congr {f g x : Nat → Int} : ∀ n, (∀ k, k < n → f k = g k) → dt f x n = dt g x n
  | 0, _ => rfl
  | n + 1, h => by
    unfold dt
    rw [dt_congr n (fun k hk => h k (by omega)), h n (by omega)]
theorem dt_congr2 {f x y : Nat → Int} : ∀ n, (∀ k, k < n → x k = y k) → dt f x n = dt f y n
  | 0, _ => rfl
  | n + 1, h => by
    unfold dt
    rw [dt_congr2 n (fun k hk => h k (by omega)), h n (by omega)]
theorem em_sub {p a b c d : Int} (h : a % p = b % p) (g : c % p = d % p) : (a - c) % p = (b - d) % p := by rw [Int.sub_emod, h, g, ← Int.sub_emod]
theorem dt_em {p : Int} {f g x : Nat → Int} : ∀ n, (∀ k, k < n → f k % p = g k % p) → dt f x n % p = dt g x n % p
  | 0, _ => rfl
  | n + 1, h => by
    unfold dt
    exact em_add (dt_em n (fun k hk => h k (by omega))) (em_mul (h n (by omega)) rfl)
theorem dt_em2 {p : Int} {f x y : Nat → Int} : ∀ n, (∀ k, k < n → x k % p = y k % p) → dt f x n % p = dt f y n % p
  | 0, _ => rfl
  | n + 1, h => by
    unfold dt
    exact em_add (dt_em2 n (fun k hk => h k (by omega))) (em_mul rfl (h n (by omega)))
theorem dt_scale {f x : Nat → Int} {a : Int} : ∀ n, dt (fun k => f k * a) x n = dt f x n * a
  | 0 => by unfold dt; simp
  | n + 1 => by
    unfold dt
    rw [dt_scale n]; grind
theorem dt_sub {f g x : Nat → Int} {a : Int} : ∀ n, dt (fun k => f k - a * g k) x n = dt f x n - a * dt g x n
  | 0 => by unfold dt; simp
  | n + 1 => by
    unfold dt
    rw [dt_sub n]; grind
theorem dt_zero {f x : Nat → Int} : ∀ n, (∀ k, k < n → f k = 0 ∨ x k = 0) → dt f x n = 0
  | 0, _ => rfl
  | n + 1, h => by
    unfold dt
    rw [dt_zero n (fun k hk => h k (by omega))]
    rcases h n (by omega) with q | q <;> rw [q] <;> simp
/-- one place alone counts -/
theorem dt_one {f x : Nat → Int} {i : Nat} : ∀ n, i < n → (∀ k, k < n → k ≠ i → f k = 0 ∨ x k = 0) → dt f x n = f i * x i
  | 0, h, _ => by omega
  | n + 1, hi, h => by
    unfold dt
    by_cases c : i = n
    · subst c
      rw [dt_zero i (fun k hk => h k (by omega) (by omega))]; simp
    · rw [dt_one n (by omega) (fun k hk => h k (by omega))]
      rcases h n (by omega) (fun e => c e.symm) with q | q <;> rw [q] <;> simp
theorem dt_two {f x : Nat → Int} {i j : Nat} : ∀ n, i < j → j < n → (∀ k, k < n → k ≠ i → k ≠ j → f k = 0 ∨ x k = 0) → dt f x n = f i * x i + f j * x j
  | 0, _, h, _ => by omega
  | n + 1, hij, hj, h => by
    unfold dt
    by_cases c : j = n
    · subst c
      rw [dt_one j hij (fun k hk hne => h k (by omega) hne (by omega))]
    · rw [dt_two n hij (by omega) (fun k hk => h k (by omega))]
      rcases h n (by omega) (by omega) (fun e => c e.symm) with q | q <;> rw [q] <;> simp
section
variable {n : Int}
theorem NS_cl {p : Int} {high wide rk c : Nat} {B : Nat → Nat → Int} {x : Nat → Int} (hrk : rk < high) : NS p high wide (cl p B rk c) x ↔ NS p high wide B x := by
  have hr : ∀ r, r ≠ rk → dt (cl p B rk c r) x wide % p = (dt (B r) x wide - B r c * dt (B rk) x wide) % p := fun r hr => by
    rw [← dt_sub]
    refine dt_em wide (fun k _ => ?_)
    unfold cl
    rw [if_neg hr, em_mod]
  have hk : dt (cl p B rk c rk) x wide = dt (B rk) x wide := dt_congr wide (fun k _ => by unfold cl; rw [if_pos rfl])
  constructor
  · intro h r hlt
    have h0 := h rk hrk
    rw [hk] at h0
    by_cases e : r = rk
    · rw [e]; exact h0
    · have h1 := h r hlt
      rw [hr r e] at h1
      have h2 : (dt (B r) x wide - B r c * dt (B rk) x wide) % p = (dt (B r) x wide - B r c * 0) % p := em_sub rfl (em_mul rfl (by rw [h0, Int.zero_emod]))
      rw [h2, Int.mul_zero, Int.sub_zero] at h1
      exact h1
  · intro h r hlt
    have h0 := h rk hrk
    by_cases e : r = rk
    · rw [e, hk]; exact h0
    · rw [hr r e]
      have h2 : (dt (B r) x wide - B r c * dt (B rk) x wide) % p = (dt (B r) x wide - B r c * 0) % p := em_sub rfl (em_mul rfl (by rw [h0, Int.zero_emod]))
      rw [h2, Int.mul_zero, Int.sub_zero]
      exact h r hlt
theorem NS_sw (hn : wayN n) {high wide rk w c : Nat} {A : Nat → Nat → Int} {x : Nat → Int} (hrk : rk < high) (hw : w < high) (h0 : 0 < A w c ∧ A w c < PR n) : NS (PR n) high wide (sw (PR n) A rk w c) x ↔ NS (PR n) high wide A x := by
  have hinv := (INV_mul hn h0).1
  have hk : dt (sw (PR n) A rk w c rk) x wide % PR n = dt (A w) x wide * INV (PR n) (A w c) % PR n := by
    rw [← dt_scale]
    refine dt_em wide (fun k _ => ?_)
    unfold sw
    rw [if_pos rfl, em_mod]
  have hw1 : w ≠ rk → dt (sw (PR n) A rk w c w) x wide = dt (A rk) x wide := fun hne => dt_congr wide (fun k _ => by unfold sw; rw [if_neg hne, if_pos rfl])
  have hr : ∀ r, r ≠ rk → r ≠ w → dt (sw (PR n) A rk w c r) x wide = dt (A r) x wide := fun r e1 e2 => dt_congr wide (fun k _ => by unfold sw; rw [if_neg e1, if_neg e2])
  have hiff : dt (A w) x wide * INV (PR n) (A w c) % PR n = 0 ↔ dt (A w) x wide % PR n = 0 := by
    constructor
    · intro h
      have e1 : (dt (A w) x wide * INV (PR n) (A w c)) * A w c % PR n = 0 := by
        rw [Int.mul_emod, h, Int.zero_mul, Int.zero_emod]
      have e2 : (dt (A w) x wide * INV (PR n) (A w c)) * A w c = dt (A w) x wide * (INV (PR n) (A w c) * A w c) := Int.mul_assoc _ _ _
      rw [e2, Int.mul_emod, hinv, Int.mul_one, em_mod] at e1
      exact e1
    · intro h
      rw [Int.mul_emod, h, Int.zero_mul, Int.zero_emod]
  constructor
  · intro h r hlt
    by_cases e : r = w
    · rw [e, ← hiff, ← hk]; exact h rk hrk
    · by_cases e2 : r = rk
      · rw [e2, ← hw1 (fun z => e (by rw [e2, z]))]; exact h w hw
      · rw [← hr r e2 e]; exact h r hlt
  · intro h r hlt
    by_cases e : r = rk
    · rw [e, hk, hiff]; exact h w hw
    · by_cases e2 : r = w
      · rw [e2, hw1 (fun z => e (by rw [e2, z]))]; exact h rk hrk
      · rw [hr r e e2]; exact h r hlt
theorem NS_pv (hn : wayN n) {high wide rk w c : Nat} {A : Nat → Nat → Int} {x : Nat → Int} (hrk : rk < high) (hw : w < high) (h0 : 0 < A w c ∧ A w c < PR n) : NS (PR n) high wide (pv (PR n) A rk w c) x ↔ NS (PR n) high wide A x := (NS_cl hrk).trans (NS_sw hn hrk hw h0)
/-- the steps' form: where a column has a first row, it is that row's one alone, and that row has nothing before it -/
def UF (high c rk : Nat) (A : Nat → Nat → Int) (ld : Nat → Int) : Prop := Zer high c rk A ∧ ∀ i, i < c → ld i = -1 ∨ (0 ≤ ld i ∧ ld i < rk ∧ (∀ r, r < high → A r i = if (r : Int) = ld i then 1 else 0) ∧ ∀ k, k < i → A (ld i).toNat k = 0)
theorem UF_no {high c rk : Nat} {A : Nat → Nat → Int} {ld : Nat → Int} (h : UF high c rk A ld) (hf : fr A c (high - rk) rk = -1) : UF high (c + 1) rk A (up ld c (-1)) := by
  refine ⟨no_zer h.1 hf, fun i hi => ?_⟩
  unfold up
  by_cases e : i = c
  · rw [if_pos e]; exact Or.inl rfl
  · rw [if_neg e]; exact h.2 i (by omega)
theorem UF_yes (hn : wayN n) {high wide c rk w : Nat} {A : Nat → Nat → Int} {ld : Nat → Int} (hA : Can (PR n) high wide A) (hc : c < wide) (h : UF high c rk A ld) (hrk : rk < high) (h2 : rk ≤ w) (h3 : w < high) (h0 : A w c ≠ 0) : UF high (c + 1) (rk + 1) (pv (PR n) A rk w c) (up ld c rk) := by
  have hz := h.1
  have one := sw_one hn (rk := rk) hA h3 hc h0
  have swz : ∀ k, k < c → ∀ r, rk ≤ r → r < high → sw (PR n) A rk w c r k = 0 := fun k hk r h4 h5 => by
    unfold sw
    by_cases e : r = rk
    · rw [if_pos e, hz w k h2 h3 hk, Int.zero_mul, Int.zero_emod]
    · rw [if_neg e]
      by_cases e2 : r = w
      · rw [if_pos e2]; exact hz rk k (by omega) hrk hk
      · rw [if_neg e2]; exact hz r k h4 h5 hk
  have same : ∀ k, k < c → ∀ r, r < high → pv (PR n) A rk w c r k = A r k := fun k hk r hr => by
    have z := swz k hk rk (Nat.le_refl rk) hrk
    have hb := hA r k hr (by omega)
    unfold pv cl
    by_cases e : r = rk
    · rw [if_pos e, e, z, hz rk k (by omega) hrk hk]
    · rw [if_neg e, z, Int.mul_zero, Int.sub_zero]
      by_cases e3 : rk ≤ r
      · rw [swz k hk r e3 hr, hz r k e3 hr hk, Int.zero_emod]
      · unfold sw
        rw [if_neg e, if_neg (by omega), Int.emod_eq_of_lt hb.1 hb.2]
  refine ⟨pv_zer hn hA hz hrk h2 h3 hc h0, fun i hi => ?_⟩
  unfold up
  by_cases e : i = c
  · rw [if_pos e]
    refine Or.inr ⟨by omega, by omega, fun r hr => ?_, fun k hk => ?_⟩
    · rw [e]
      unfold pv cl
      by_cases q : r = rk
      · rw [if_pos q, if_pos (by omega), q]; exact one
      · rw [if_neg q, if_neg (by omega), one, Int.mul_one, Int.sub_self, Int.zero_emod]
    · rw [Int.toNat_natCast, same k (by omega) rk hrk]
      exact hz rk k (by omega) hrk (by omega)
  · rw [if_neg e]
    rcases h.2 i (by omega) with q | ⟨q1, q2, q3, q4⟩
    · exact Or.inl q
    · refine Or.inr ⟨q1, by omega, fun r hr => by rw [same i (by omega) r hr]; exact q3 r hr, fun k hk => ?_⟩
      rw [same k (by omega) _ (by omega)]
      exact q4 k hk
theorem elR_UF (hn : wayN n) {high wide : Nat} : ∀ (d c rk : Nat) (A : Nat → Nat → Int) (ld le : Nat → Int), c + d ≤ wide → rk ≤ high → Can (PR n) high wide A → UF high c rk A ld → Can (PR n) high wide (elR (PR n) high d c rk A ld le).2.1 ∧ UF high (c + d) (elR (PR n) high d c rk A ld le).1 (elR (PR n) high d c rk A ld le).2.1 (elR (PR n) high d c rk A ld le).2.2.1 ∧ (elR (PR n) high d c rk A ld le).1 ≤ high ∧ ∀ x, NS (PR n) high wide (elR (PR n) high d c rk A ld le).2.1 x ↔ NS (PR n) high wide A x
  | 0, c, rk, A, ld, le, _, hrk, hA, hU => ⟨hA, hU, hrk, fun _ => Iff.rfl⟩
  | d + 1, c, rk, A, ld, le, hcd, hrk, hA, hU => by
    unfold elR
    rw [show c + (d + 1) = c + 1 + d by omega]
    by_cases h : fr A c (high - rk) rk = -1
    · rw [if_pos h]
      exact elR_UF hn d (c + 1) rk A _ le (by omega) hrk hA (UF_no hU h)
    · rw [if_neg h]
      obtain ⟨g1, g2, g3⟩ : (rk : Int) ≤ fr A c (high - rk) rk ∧ fr A c (high - rk) rk < rk + (high - rk : Nat) ∧ A (fr A c (high - rk) rk).toNat c ≠ 0 := by
        rcases fr_b (A := A) (c := c) (high - rk) rk with q | q
        · exact absurd q h
        · exact q
      have hb := hA (fr A c (high - rk) rk).toNat c (by omega) (by omega)
      obtain ⟨k1, k2, k3, k4⟩ := elR_UF hn d (c + 1) (rk + 1) (pv (PR n) A rk (fr A c (high - rk) rk).toNat c) (up ld c rk) (up le rk c) (by omega) (by omega) (pv_can (by omega) hA (by omega) (by omega)) (UF_yes hn hA (by omega) hU (by omega) (by omega) (by omega) g3)
      exact ⟨k1, k2, k3, fun x => (k4 x).trans (NS_pv hn (by omega) (by omega) ⟨by omega, hb.2⟩)⟩
theorem el_UF (hn : wayN n) {high wide cols : Nat} {A : Nat → Nat → Int} (hc : cols ≤ wide) (hA : Can (PR n) high wide A) : Can (PR n) high wide (el (PR n) high cols A).2.1 ∧ UF high cols (el (PR n) high cols A).1 (el (PR n) high cols A).2.1 (el (PR n) high cols A).2.2.1 ∧ (el (PR n) high cols A).1 ≤ high ∧ ∀ x, NS (PR n) high wide (el (PR n) high cols A).2.1 x ↔ NS (PR n) high wide A x := by
  have := elR_UF hn (high := high) (wide := wide) cols 0 0 A (fun _ => -1) (fun _ => -1) (by omega) (by omega) hA ⟨fun r k _ _ h => by omega, fun i hi => by omega⟩
  rw [Nat.zero_add] at this
  exact this
/-- the shares, and less the column itself -/
def shX (p : Int) (high cols : Nat) (A : Nat → Nat → Int) : Nat → Int := fun k => if k < cols then shS p high cols A k else -1
theorem mdB_shX (hn : wayN n) {high cols : Nat} {A : Nat → Nat → Int} (hA : Can (PR n) high (cols + 1) A) (hm : mdB (PR n) high cols A = true) : NS (PR n) high (cols + 1) A (shX (PR n) high cols A) := by
  obtain ⟨k1, k2, k3, k4⟩ := el_UF hn (high := high) (wide := cols + 1) (cols := cols) (A := A) (by omega) hA
  have hll := el_LL (p := PR n) (high := high) (cols := cols) (A := A)
  rw [← k4]
  unfold mdB at hm
  have hm' := fr_none _ _ |>.mp (by simpa using hm)
  intro r hr
  by_cases c : r < (el (PR n) high cols A).1
  · obtain ⟨l1, l2, l3⟩ := hll.2 r c
    have hi : ((el (PR n) high cols A).2.2.2 r).toNat < cols := by omega
    generalize hI : ((el (PR n) high cols A).2.2.2 r).toNat = i at *
    have e : dt ((el (PR n) high cols A).2.1 r) (shX (PR n) high cols A) (cols + 1) = (el (PR n) high cols A).2.1 r i * shX (PR n) high cols A i + (el (PR n) high cols A).2.1 r cols * shX (PR n) high cols A cols := by
      refine dt_two (cols + 1) hi (by omega) (fun k hk h1 h2 => ?_)
      rcases k2.2 k (by omega) with q | ⟨q1, q2, q3, q4⟩
      · right
        unfold shX shS
        rw [if_pos (by omega), if_pos (by omega)]
      · by_cases z : (r : Int) = (el (PR n) high cols A).2.2.1 k
        · exfalso
          rcases hll.1 k (by omega) with w | ⟨_, _, w⟩
          · omega
          · rw [← z, Int.toNat_natCast] at w
            apply h1
            omega
        · left
          rw [q3 r hr, if_neg z]
    rw [e]
    have e1 : (el (PR n) high cols A).2.1 r i = 1 := by
      rcases k2.2 i hi with q | ⟨q1, q2, q3, q4⟩
      · omega
      · rw [q3 r hr, if_pos l3.symm]
    have e2 : shX (PR n) high cols A i = (el (PR n) high cols A).2.1 r cols := by
      unfold shX shS
      rw [if_pos hi, if_neg (by omega), l3, Int.toNat_natCast]
    have e3 : shX (PR n) high cols A cols = -1 := by unfold shX; rw [if_neg (by omega)]
    rw [e1, e2, e3]
    rw [show 1 * (el (PR n) high cols A).2.1 r cols + (el (PR n) high cols A).2.1 r cols * -1 = 0 by omega, Int.zero_emod]
  · have : dt ((el (PR n) high cols A).2.1 r) (shX (PR n) high cols A) (cols + 1) = 0 := dt_zero (cols + 1) (fun k hk => by
      left
      by_cases q : k = cols
      · rw [q]; exact hm' r (by omega) (by omega)
      · exact k2.1 r k (by omega) hr (by omega))
    rw [this, Int.zero_emod]
theorem mdB_of (hn : wayN n) {high cols : Nat} {A : Nat → Nat → Int} (hA : Can (PR n) high (cols + 1) A) {x : Nat → Int} (hx : x cols = -1) (h : NS (PR n) high (cols + 1) A x) : mdB (PR n) high cols A = true := by
  obtain ⟨k1, k2, k3, k4⟩ := el_UF hn (high := high) (wide := cols + 1) (cols := cols) (A := A) (by omega) hA
  have hp := PR_b hn
  rw [← k4] at h
  unfold mdB
  rw [(fr_none _ _).mpr (fun k h1 h2 => ?_)]
  · rfl
  · have hk := h k (by omega)
    have e : dt ((el (PR n) high cols A).2.1 k) x (cols + 1) = (el (PR n) high cols A).2.1 k cols * x cols := dt_one (cols + 1) (by omega) (fun j hj hne => Or.inl (k2.1 k j h1 (by omega) (by omega)))
    rw [e, hx] at hk
    have hb := k1 k cols (by omega) (by omega)
    by_cases z : (el (PR n) high cols A).2.1 k cols = 0
    · exact z
    · exfalso
      have : (PR n + (el (PR n) high cols A).2.1 k cols * -1) % PR n = 0 := by
        rw [Int.add_emod, Int.emod_self, hk]; simp
      rw [Int.emod_eq_of_lt (by omega) (by omega)] at this
      omega
/-- a column has no first row just where it is made of those before it -/
theorem pv_iff (hn : wayN n) {high wide cols : Nat} {A : Nat → Nat → Int} (hc : cols ≤ wide) (hA : Can (PR n) high wide A) {i : Nat} (hi : i < cols) : (el (PR n) high cols A).2.2.1 i = -1 ↔ ∃ x, NS (PR n) high wide A x ∧ x i = -1 ∧ ∀ k, i < k → x k = 0 := by
  obtain ⟨k1, k2, k3, k4⟩ := el_UF hn (high := high) (wide := wide) (cols := cols) (A := A) hc hA
  have hll := el_LL (p := PR n) (high := high) (cols := cols) (A := A)
  have hp := PR_b hn
  constructor
  · intro h
    refine ⟨fun k => if k = i then -1 else if i < k then 0 else if (el (PR n) high cols A).2.2.1 k = -1 then 0 else (el (PR n) high cols A).2.1 ((el (PR n) high cols A).2.2.1 k).toNat i, ?_, if_pos rfl, fun k hk => by show (if k = i then -1 else if i < k then 0 else _) = _; rw [if_neg (by omega), if_pos hk]⟩
    rw [← k4]
    intro r hr
    have hz : ∀ k, i < k → (if k = i then (-1 : Int) else if i < k then 0 else if (el (PR n) high cols A).2.2.1 k = -1 then 0 else (el (PR n) high cols A).2.1 ((el (PR n) high cols A).2.2.1 k).toNat i) = 0 := fun k hk => by rw [if_neg (by omega), if_pos hk]
    by_cases c : r < (el (PR n) high cols A).1
    · obtain ⟨l1, l2, l3⟩ := hll.2 r c
      have hj : ((el (PR n) high cols A).2.2.2 r).toNat < cols := by omega
      generalize hJ : ((el (PR n) high cols A).2.2.2 r).toNat = j at *
      obtain ⟨q1, q2, q3, q4⟩ : 0 ≤ (el (PR n) high cols A).2.2.1 j ∧ (el (PR n) high cols A).2.2.1 j < (el (PR n) high cols A).1 ∧ (∀ r', r' < high → (el (PR n) high cols A).2.1 r' j = if (r' : Int) = (el (PR n) high cols A).2.2.1 j then 1 else 0) ∧ ∀ k, k < j → (el (PR n) high cols A).2.1 ((el (PR n) high cols A).2.2.1 j).toNat k = 0 := by
        rcases k2.2 j hj with q | q
        · omega
        · exact q
      rw [l3, Int.toNat_natCast] at q4
      by_cases z : j < i
      · have e := dt_two (f := (el (PR n) high cols A).2.1 r) (x := fun k => if k = i then -1 else if i < k then 0 else if (el (PR n) high cols A).2.2.1 k = -1 then 0 else (el (PR n) high cols A).2.1 ((el (PR n) high cols A).2.2.1 k).toNat i) (i := j) (j := i) wide z (by omega) (fun k hk h1 h2 => by
          by_cases y : i < k
          · exact Or.inr (hz k y)
          · rcases k2.2 k (by omega) with w | ⟨w1, w2, w3, w4⟩
            · right
              show (if k = i then (-1 : Int) else if i < k then 0 else if (el (PR n) high cols A).2.2.1 k = -1 then 0 else _) = 0
              rw [if_neg h2, if_neg y, if_pos w]
            · left
              rw [w3 r hr, if_neg]
              intro v
              rcases hll.1 k (by omega) with u | ⟨_, _, u⟩
              · omega
              · rw [← v, Int.toNat_natCast] at u
                apply h1
                omega)
        rw [e, q3 r hr, if_pos l3.symm]
        show (1 * (if j = i then (-1 : Int) else if i < j then 0 else if (el (PR n) high cols A).2.2.1 j = -1 then 0 else (el (PR n) high cols A).2.1 ((el (PR n) high cols A).2.2.1 j).toNat i) + (el (PR n) high cols A).2.1 r i * (if i = i then (-1 : Int) else _)) % PR n = 0
        rw [if_neg (by omega), if_neg (by omega), if_neg (by omega), if_pos rfl, l3, Int.toNat_natCast, show 1 * (el (PR n) high cols A).2.1 r i + (el (PR n) high cols A).2.1 r i * -1 = 0 by omega, Int.zero_emod]
      · have hne : j ≠ i := fun w => by rw [w] at l3; omega
        have : dt ((el (PR n) high cols A).2.1 r) (fun k => if k = i then -1 else if i < k then 0 else if (el (PR n) high cols A).2.2.1 k = -1 then 0 else (el (PR n) high cols A).2.1 ((el (PR n) high cols A).2.2.1 k).toNat i) wide = 0 := dt_zero wide (fun k hk => by
          by_cases y : i < k
          · exact Or.inr (hz k y)
          · exact Or.inl (q4 k (by omega)))
        rw [this, Int.zero_emod]
    · have : dt ((el (PR n) high cols A).2.1 r) (fun k => if k = i then -1 else if i < k then 0 else if (el (PR n) high cols A).2.2.1 k = -1 then 0 else (el (PR n) high cols A).2.1 ((el (PR n) high cols A).2.2.1 k).toNat i) wide = 0 := dt_zero wide (fun k hk => by
        by_cases y : i < k
        · exact Or.inr (hz k y)
        · exact Or.inl (k2.1 r k (by omega) hr (by omega)))
      rw [this, Int.zero_emod]
  · rintro ⟨x, h1, h2, h3⟩
    rw [← k4] at h1
    rcases k2.2 i hi with q | ⟨q1, q2, q3, q4⟩
    · exact q
    · exfalso
      have hr := h1 ((el (PR n) high cols A).2.2.1 i).toNat (by omega)
      have e : dt ((el (PR n) high cols A).2.1 ((el (PR n) high cols A).2.2.1 i).toNat) x wide = (el (PR n) high cols A).2.1 ((el (PR n) high cols A).2.2.1 i).toNat i * x i := dt_one wide (by omega) (fun k hk hne => by
        by_cases z : k < i
        · exact Or.inl (q4 k z)
        · exact Or.inr (h3 k (by omega)))
      rw [e, h2, q3 _ (by omega), if_pos (by omega)] at hr
      have : (-1 : Int) % PR n = PR n - 1 := by
        rw [← Int.add_emod_right, show (-1 : Int) + PR n = PR n - 1 by omega]
        exact Int.emod_eq_of_lt (by omega) (by omega)
      rw [show (1 : Int) * -1 = -1 by rfl, this] at hr
      omega
end
section
variable {n : Int}
/-- the shares are the one way that uses the columns with a first row alone -/
theorem shS_uniq (hn : wayN n) {high cols : Nat} {A : Nat → Nat → Int} (hA : Can (PR n) high (cols + 1) A) {x : Nat → Int} (hx : x cols = -1) (h : NS (PR n) high (cols + 1) A x) (h0 : ∀ i, i < cols → (el (PR n) high cols A).2.2.1 i = -1 → x i = 0) (hb : ∀ i, i < cols → 0 ≤ x i ∧ x i < PR n) : ∀ i, i < cols → x i = shS (PR n) high cols A i := by
  intro i hi
  obtain ⟨k1, k2, k3, k4⟩ := el_UF hn (high := high) (wide := cols + 1) (cols := cols) (A := A) (by omega) hA
  have hp := PR_b hn
  rw [← k4] at h
  unfold shS
  rcases k2.2 i hi with q | ⟨q1, q2, q3, q4⟩
  · rw [if_pos (by omega)]; exact h0 i hi q
  · rw [if_neg (by omega)]
    have hr := h ((el (PR n) high cols A).2.2.1 i).toNat (by omega)
    have e : dt ((el (PR n) high cols A).2.1 ((el (PR n) high cols A).2.2.1 i).toNat) x (cols + 1) = (el (PR n) high cols A).2.1 ((el (PR n) high cols A).2.2.1 i).toNat i * x i + (el (PR n) high cols A).2.1 ((el (PR n) high cols A).2.2.1 i).toNat cols * x cols := by
      refine dt_two (cols + 1) hi (by omega) (fun k hk h1 h2 => ?_)
      rcases k2.2 k (by omega) with w | ⟨w1, w2, w3, w4⟩
      · exact Or.inr (h0 k (by omega) w)
      · left
        rw [w3 _ (by omega), if_neg]
        intro v
        have hll := el_LL (p := PR n) (high := high) (cols := cols) (A := A)
        rcases hll.1 k (by omega) with u | ⟨_, _, u⟩
        · omega
        · rcases hll.1 i hi with u' | ⟨_, _, u'⟩
          · omega
          · have : ((el (PR n) high cols A).2.2.1 k).toNat = ((el (PR n) high cols A).2.2.1 i).toNat := by omega
            rw [this, u'] at u
            omega
    rw [e, q3 _ (by omega), if_pos (by omega), hx] at hr
    have b1 := hb i hi
    have b2 := k1 ((el (PR n) high cols A).2.2.1 i).toNat cols (by omega) (by omega)
    generalize (el (PR n) high cols A).2.1 ((el (PR n) high cols A).2.2.1 i).toNat cols = v at *
    by_cases z : v ≤ x i
    · rw [show 1 * x i + v * -1 = x i - v by omega, Int.emod_eq_of_lt (by omega) (by omega)] at hr
      omega
    · have : (1 * x i + v * -1 + PR n) % PR n = 0 := by rw [Int.add_emod, hr, Int.emod_self]; simp
      rw [Int.emod_eq_of_lt (by omega) (by omega)] at this
      omega
/-- what the same solutions have, has the same shares -/
theorem sh_same (hn : wayN n) {h1 h2 cols : Nat} {A B : Nat → Nat → Int} (hA : Can (PR n) h1 (cols + 1) A) (hB : Can (PR n) h2 (cols + 1) B) (hs : ∀ x, NS (PR n) h1 (cols + 1) A x ↔ NS (PR n) h2 (cols + 1) B x) : mdB (PR n) h1 cols A = mdB (PR n) h2 cols B ∧ (mdB (PR n) h1 cols A = true → ∀ i, i < cols → shS (PR n) h1 cols A i = shS (PR n) h2 cols B i) := by
  have hx : ∀ (h : Nat) (C : Nat → Nat → Int), shX (PR n) h cols C cols = -1 := fun h C => by unfold shX; rw [if_neg (by omega)]
  have hp := PR_b hn
  constructor
  · rw [Bool.eq_iff_iff]
    constructor
    · intro h
      exact mdB_of hn hB (hx h1 A) ((hs _).mp (mdB_shX hn hA h))
    · intro h
      exact mdB_of hn hA (hx h2 B) ((hs _).mpr (mdB_shX hn hB h))
  · intro h i hi
    have hc := (el_UF hn (high := h1) (wide := cols + 1) (cols := cols) (A := A) (by omega) hA).1
    have := shS_uniq hn hB (hx h1 A) ((hs _).mp (mdB_shX hn hA h)) (fun k hk hl => by
      have : (el (PR n) h1 cols A).2.2.1 k = -1 := by
        rw [pv_iff hn (wide := cols + 1) (by omega) hA hk]
        obtain ⟨x, x1, x2, x3⟩ := (pv_iff hn (wide := cols + 1) (by omega) hB hk).mp hl
        exact ⟨x, (hs x).mpr x1, x2, x3⟩
      unfold shX shS
      rw [if_pos hk, if_pos (by omega)]) (fun k hk => by
      have := shS_b (show 0 < PR n by omega) hk hc
      unfold shX
      rw [if_pos hk]
      exact this) i hi
    rw [← this]
    unfold shX
    rw [if_pos hi]
end
