/-! PURE PART: elimination, as it is done on both sides -/
def fr (A : Nat → Nat → Int) (c : Nat) : Nat → Nat → Int
  | 0, _ => -1
  | d + 1, r => if A r c = 0 then fr A c d (r + 1) else r
/-- row rk is what row w was, scaled; row w what rk was -/
def sw (p : Int) (A : Nat → Nat → Int) (rk w c : Nat) : Nat → Nat → Int := fun r k => if r = rk then A w k * INV p (A w c) % p else if r = w then A rk k else A r k
def cl (p : Int) (B : Nat → Nat → Int) (rk c : Nat) : Nat → Nat → Int := fun r k => if r = rk then B r k else (B r k - B r c * B rk k) % p
def pv (p : Int) (A : Nat → Nat → Int) (rk w c : Nat) : Nat → Nat → Int := cl p (sw p A rk w c) rk c
def up (f : Nat → Int) (i : Nat) (v : Int) : Nat → Int := fun j => if j = i then v else f j
abbrev EL : Type := Nat × (Nat → Nat → Int) × (Nat → Int) × (Nat → Int)
def elR (p : Int) (high : Nat) : Nat → Nat → Nat → (Nat → Nat → Int) → (Nat → Int) → (Nat → Int) → EL
  | 0, _, rk, A, ld, le => (rk, A, ld, le)
  | d + 1, c, rk, A, ld, le => if fr A c (high - rk) rk = -1 then elR p high d (c + 1) rk A (up ld c (-1)) le else elR p high d (c + 1) (rk + 1) (pv p A rk (fr A c (high - rk) rk).toNat c) (up ld c rk) (up le rk c)
def el (p : Int) (high cols : Nat) (A : Nat → Nat → Int) : EL := elR p high cols 0 0 A (fun _ => -1) (fun _ => -1)
theorem fr_b {A : Nat → Nat → Int} {c : Nat} : ∀ d r, fr A c d r = -1 ∨ ((r : Int) ≤ fr A c d r ∧ fr A c d r < r + d ∧ A (fr A c d r).toNat c ≠ 0)
  | 0, _ => Or.inl rfl
  | d + 1, r => by
    unfold fr
    by_cases h : A r c = 0
    · rw [if_pos h]
      rcases fr_b (A := A) (c := c) d (r + 1) with g | g
      · exact Or.inl g
      · exact Or.inr ⟨by omega, by omega, g.2.2⟩
    · rw [if_neg h]; exact Or.inr ⟨by omega, by omega, h⟩
theorem fr_none {A : Nat → Nat → Int} {c : Nat} : ∀ d r, fr A c d r = -1 ↔ ∀ k, r ≤ k → k < r + d → A k c = 0
  | 0, r => ⟨fun _ k h1 h2 => by omega, fun _ => rfl⟩
  | d + 1, r => by
    unfold fr
    by_cases h : A r c = 0
    · rw [if_pos h, fr_none d (r + 1)]
      refine ⟨fun g k h1 h2 => ?_, fun g k h1 h2 => g k (by omega) (by omega)⟩
      by_cases q : k = r
      · rw [q]; exact h
      · exact g k (by omega) (by omega)
    · rw [if_neg h]
      exact ⟨fun g => by omega, fun g => absurd (g r (by omega) (by omega)) h⟩
theorem fr_congr {A B : Nat → Nat → Int} {c : Nat} : ∀ d r, (∀ k, r ≤ k → k < r + d → A k c = B k c) → fr A c d r = fr B c d r
  | 0, _, _ => rfl
  | d + 1, r, h => by
    unfold fr
    rw [h r (by omega) (by omega), fr_congr d (r + 1) (fun k h1 h2 => h k (by omega) (by omega))]
/-- canonical numbers in the frame high x wide -/
def Can (p : Int) (high wide : Nat) (A : Nat → Nat → Int) : Prop := ∀ r k, r < high → k < wide → 0 ≤ A r k ∧ A r k < p
def Zer (high c rk : Nat) (A : Nat → Nat → Int) : Prop := ∀ r k, rk ≤ r → r < high → k < c → A r k = 0
theorem sw_can {p : Int} {high wide rk w c : Nat} {A : Nat → Nat → Int} (hp : 0 < p) (h : Can p high wide A) (h1 : rk < high) (h2 : w < high) : Can p high wide (sw p A rk w c) := by
  intro r k hr hk
  unfold sw
  by_cases e : r = rk
  · rw [if_pos e]; exact modb hp
  · rw [if_neg e]
    by_cases e2 : r = w
    · rw [if_pos e2]; exact h rk k h1 hk
    · rw [if_neg e2]; exact h r k hr hk
theorem cl_can {p : Int} {high wide rk c : Nat} {A : Nat → Nat → Int} (hp : 0 < p) (h : Can p high wide A) : Can p high wide (cl p A rk c) := by
  intro r k hr hk
  unfold cl
  by_cases e : r = rk
  · rw [if_pos e]; exact h r k hr hk
  · rw [if_neg e]; exact modb hp
theorem pv_can {p : Int} {high wide rk w c : Nat} {A : Nat → Nat → Int} (hp : 0 < p) (h : Can p high wide A) (h1 : rk < high) (h2 : w < high) : Can p high wide (pv p A rk w c) := cl_can hp (sw_can hp h h1 h2)
/-- in the pivot's column the row's own number is 1 -/
theorem sw_one {n : Int} (hn : wayN n) {high wide rk w c : Nat} {A : Nat → Nat → Int} (h : Can (PR n) high wide A) (h2 : w < high) (hc : c < wide) (h0 : A w c ≠ 0) : sw (PR n) A rk w c rk c = 1 := by
  have hb := h w c h2 hc
  unfold sw
  rw [if_pos rfl, Int.mul_comm]
  exact (INV_mul hn (by omega)).1
theorem pv_zer {n : Int} (hn : wayN n) {high wide rk w c : Nat} {A : Nat → Nat → Int} (h : Can (PR n) high wide A) (hz : Zer high c rk A) (h1 : rk < high) (h2 : rk ≤ w) (h3 : w < high) (hc : c < wide) (h0 : A w c ≠ 0) : Zer high (c + 1) (rk + 1) (pv (PR n) A rk w c) := by
  intro r k hr hr2 hk
  have one := sw_one hn (rk := rk) h h3 hc h0
  unfold pv cl
  rw [if_neg (by omega)]
  by_cases e : k = c
  · rw [e, one, Int.mul_one, Int.sub_self, Int.zero_emod]
  · have z1 : sw (PR n) A rk w c rk k = 0 := by
      unfold sw
      rw [if_pos rfl, hz w k h2 h3 (by omega), Int.zero_mul, Int.zero_emod]
    have z2 : sw (PR n) A rk w c r k = 0 := by
      unfold sw
      rw [if_neg (by omega)]
      by_cases e2 : r = w
      · rw [if_pos e2]; exact hz rk k (by omega) h1 (by omega)
      · rw [if_neg e2]; exact hz r k (by omega) hr2 (by omega)
    rw [z1, z2, Int.mul_zero, Int.sub_zero, Int.zero_emod]
theorem no_zer {high rk c : Nat} {A : Nat → Nat → Int} (hz : Zer high c rk A) (h : fr A c (high - rk) rk = -1) : Zer high (c + 1) rk A := by
  intro r k hr hr2 hk
  by_cases e : k = c
  · rw [e]; exact (fr_none _ _).mp h r hr (by omega)
  · exact hz r k hr hr2 (by omega)
/-! the model's board -/
def MB (σ : St) (high wide : Nat) (A : Nat → Nat → Int) : Prop := ∀ r k, r < high → k < wide → gA σ 7 (wide * r + k) = A r k
theorem ixE_lt {wide high r k : Nat} (hr : r < high) (hk : k < wide) : wide * r + k < wide * high := by
  have := Nat.mul_le_mul_left wide (show r + 1 ≤ high by omega)
  rw [Nat.mul_add, Nat.mul_one] at this
  omega
theorem ix_inj {wide r k r' k' : Nat} (hk : k < wide) (hk' : k' < wide) (h : wide * r + k = wide * r' + k') : r = r' ∧ k = k' := by
  have h1 : (wide * r + k) / wide = r := by rw [Nat.mul_add_div (by omega), Nat.div_eq_of_lt hk, Nat.add_zero]
  have h2 : (wide * r' + k') / wide = r' := by rw [Nat.mul_add_div (by omega), Nat.div_eq_of_lt hk', Nat.add_zero]
  have : r = r' := by rw [← h1, h, h2]
  subst this
  exact ⟨rfl, by omega⟩
theorem ix_c {wide r k : Nat} : ((wide : Int) * (r : Int) + (k : Int)) = ((wide * r + k : Nat) : Int) := by simp
theorem MB_set {σ : St} {high wide : Nat} {A B : Nat → Nat → Int} (h : MB σ high wide A) {r0 k0 : Nat} {v : Int} (hk0 : k0 < wide) (hv : B r0 k0 = v) (hB : ∀ r k, r < high → k < wide → ¬ (r = r0 ∧ k = k0) → B r k = A r k) : MB (sA σ 7 (wide * r0 + k0) v) high wide B := by
  intro r k hr hk
  rw [gA_sA]
  by_cases e : wide * r + k = wide * r0 + k0
  · obtain ⟨e1, e2⟩ := ix_inj hk hk0 e
    subst e1; subst e2
    rw [if_pos ⟨rfl, rfl⟩, hv]
  · rw [if_neg (fun z => e z.2), h r k hr hk, hB r k hr hk (fun z => e (by rw [z.1, z.2]))]
section
variable {F : Nat} {n : Int}
/-- inner loop: row r less v times row rk -/
theorem M_230 (hn : wayN n) (k7 : St → Int → Int → Option (Int × St)) (k185 : St → Int → Int → Int → Option (Int × St)) {high wide rk r : Nat} {v x1 x2 : Int} {B : Nat → Nat → Int} (hsz : wide * high ≤ 2800) (hrk : rk < high) (hr : r < high) (hne : r ≠ rk) (hB : Can (PR n) high wide B) (hv : 0 ≤ v ∧ v < PR n) : ∀ (d m : Nat) (σ : St) (k : Nat), d < m → k + d = wide → gF σ 25 = (wide : Nat) → gF σ 27 = (rk : Nat) → gF σ 20 = PR n → MB σ high wide (fun r' k' => if r' = r ∧ k' < k then (B r' k' - v * B rk k') % PR n else B r' k') → ∃ σ', l_M_steps_230 F k7 k185 m σ x1 x2 (r : Nat) v (k : Nat) = k185 σ' x1 x2 ((r : Int) + 1) ∧ MB σ' high wide (fun r' k' => if r' = r then (B r' k' - v * B rk k') % PR n else B r' k') ∧ (∀ q, gF σ' q = gF σ q) ∧ ∀ a, a ≠ 7 → ∀ i, gA σ' a i = gA σ a i
  | _, 0, _, _, h, _, _, _, _, _ => by omega
  | 0, m + 1, σ, k, _, hd, h25, h27, h20, hM => by
    have hw : wide ≤ 2800 := Nat.le_trans (Nat.le_mul_of_pos_right wide (by omega)) hsz
    simp only [l_M_steps_230, b_M_steps_230, bv, bs]
    rw [gd_t (by omega), if_pos (by omega)]
    refine ⟨σ, rfl, fun r' k' h1 h2 => ?_, fun _ => rfl, fun _ _ _ => rfl⟩
    rw [hM r' k' h1 h2]
    try dsimp only
    by_cases e : r' = r
    · rw [if_pos ⟨e, by omega⟩, if_pos e]
    · rw [if_neg (fun z => e z.1), if_neg e]
  | d + 1, m + 1, σ, k, hm, hd, h25, h27, h20, hM => by
    have hp := PR_b hn
    have hw : wide ≤ 2800 := Nat.le_trans (Nat.le_mul_of_pos_right wide (by omega)) hsz
    have l1 := ixE_lt (wide := wide) hr (show k < wide by omega)
    have l2 := ixE_lt (wide := wide) hrk (show k < wide by omega)
    have e1 : gA σ 7 (wide * r + k) = B r k := by rw [hM r k hr (by omega)]; exact if_neg (by omega)
    have e2 : gA σ 7 (wide * rk + k) = B rk k := by rw [hM rk k hrk (by omega)]; exact if_neg (by omega)
    have b1 := hB r k hr (by omega)
    have b2 := hB rk k hrk (by omega)
    have q := mulb (a := PR n - v) (b := B rk k) (A := 1500) (B := 1500) (by omega) (by omega) (by omega) (by omega)
    have t1 : Int.toNat ((wide : Int) * (r : Int) + (k : Int)) = wide * r + k := by rw [ix_c]; omega
    have t2 : Int.toNat ((wide : Int) * (rk : Int) + (k : Int)) = wide * rk + k := by rw [ix_c]; omega
    have g1 : inb ((wide : Int) * (r : Int) + (k : Int)) 2800 := by rw [ix_c]; omega
    have g2 : inb ((wide : Int) * (rk : Int) + (k : Int)) 2800 := by rw [ix_c]; omega
    have hval : (B r k + (PR n - v) * B rk k) % PR n = (B r k - v * B rk k) % PR n := by
      have : B r k + (PR n - v) * B rk k = B r k - v * B rk k + PR n * B rk k := by grind
      rw [this, Int.add_mul_emod_self_left]
    obtain ⟨σ', k1, k2, k3, k4⟩ := M_230 hn k7 k185 (x1 := x1) (x2 := x2) hsz hrk hr hne hB hv d m (sA σ 7 (wide * r + k) ((B r k - v * B rk k) % PR n)) (k + 1) (by omega) (by omega) h25 h27 h20 (MB_set hM (by omega) (if_pos ⟨rfl, by omega⟩) (fun r' k' h1 h2 h3 => by
      try dsimp only
      by_cases e : r' = r ∧ k' < k
      · rw [if_pos e, if_pos ⟨e.1, by omega⟩]
      · rw [if_neg e, if_neg (fun z => by
          by_cases q : k' = k
          · exact h3 ⟨z.1, q⟩
          · exact e ⟨z.1, by omega⟩)]))
    refine ⟨σ', ?_, k2, k3, fun a ha i => by rw [k4 a ha, gA_sA, if_neg (fun e => ha e.1)]⟩
    simp only [l_M_steps_230, b_M_steps_230, bv, bs]
    rw [gd_t (by omega), if_neg (by omega)]
    simp only [h25, h27, h20, t1, t2, e1, e2]
    rw [gd_t g1, gd_t g2, gd_t ⟨by omega, by omega, by omega⟩, gd_t g1, tmE (by omega), hval]
    exact k1
/-- all rows but rk less their multiples of it -/
theorem M_185 (hF : 3000 ≤ F) (hn : wayN n) (k7 : St → Int → Int → Option (Int × St)) {high wide rk c : Nat} {x1 : Int} {B : Nat → Nat → Int} (hsz : wide * high ≤ 2800) (hrk : rk < high) (hc : c < wide) (hc2 : c < 110) (hB : Can (PR n) high wide B) : ∀ (d m : Nat) (σ : St) (r : Nat), d < m → r + d = high → gF σ 25 = (wide : Nat) → gF σ 26 = (high : Nat) → gF σ 27 = (rk : Nat) → gF σ 20 = PR n → MB σ high wide (fun r' k' => if r' < r then cl (PR n) B rk c r' k' else B r' k') → ∃ σ', l_M_steps_185 F k7 m σ x1 (c : Nat) (r : Nat) = k7 σ' x1 ((c : Int) + 1) ∧ MB σ' high wide (cl (PR n) B rk c) ∧ gF σ' 27 = ((rk + 1 : Nat) : Int) ∧ (∀ q, q ≠ 27 → gF σ' q = gF σ q) ∧ (∀ i, gA σ' 8 i = if i = c then (rk : Int) else gA σ 8 i) ∧ ∀ a, a ≠ 7 → a ≠ 8 → ∀ i, gA σ' a i = gA σ a i
  | _, 0, _, _, h, _, _, _, _, _, _ => by omega
  | 0, m + 1, σ, r, _, hd, h25, h26, h27, h20, hM => by
    have hhi : high ≤ 2800 := Nat.le_trans (Nat.le_mul_of_pos_left high (by omega)) hsz
    refine ⟨sF (sA σ 8 c (rk : Int)) 27 ((rk : Int) + 1), ?_, fun r' k' h1 h2 => ?_, ?_, fun q hq => ?_, fun i => ?_, fun a h1 h2 i => ?_⟩
    · simp only [l_M_steps_185, b_M_steps_185, bv, bs]
      rw [gd_t (by omega), if_pos (by omega), gd_t (by omega), show Int.toNat ((c : Nat) : Int) = c by omega, h27, gF_sA, h27]
    · rw [gA_sF, gA_sA, if_neg (by omega), hM r' k' h1 h2]; (try dsimp only); rw [if_pos (by omega)]
    · rw [gF_eq]; omega
    · rw [gF_sF, if_neg hq, gF_sA]
    · rw [gA_sF, gA_sA]
      by_cases e : i = c
      · rw [if_pos ⟨rfl, e⟩, if_pos e]
      · rw [if_neg (fun z => e z.2), if_neg e]
    · rw [gA_sF, gA_sA, if_neg (fun z => h2 z.1)]
  | d + 1, m + 1, σ, r, hm, hd, h25, h26, h27, h20, hM => by
    have hp := PR_b hn
    have hhi : high ≤ 2800 := Nat.le_trans (Nat.le_mul_of_pos_left high (by omega)) hsz
    have hwi : wide ≤ 2800 := Nat.le_trans (Nat.le_mul_of_pos_right wide (by omega)) hsz
    have l1 := ixE_lt (wide := wide) (show r < high by omega) hc
    have e1 : gA σ 7 (wide * r + c) = B r c := by rw [hM r c (by omega) hc]; exact if_neg (by omega)
    have t1 : Int.toNat ((wide : Int) * (r : Int) + (c : Int)) = wide * r + c := by rw [ix_c]; omega
    have g1 : inb ((wide : Int) * (r : Int) + (c : Int)) 2800 := by rw [ix_c]; omega
    have b1 := hB r c (by omega) hc
    have same : (r = rk ∨ B r c = 0) → MB σ high wide (fun r' k' => if r' < r + 1 then cl (PR n) B rk c r' k' else B r' k') := by
      intro h r' k' h1 h2
      rw [hM r' k' h1 h2]
      try dsimp only
      by_cases e : r' < r
      · rw [if_pos e, if_pos (by omega)]
      · rw [if_neg e]
        by_cases e2 : r' = r
        · rw [if_pos (by omega), e2]
          unfold cl
          by_cases e3 : r = rk
          · rw [if_pos e3]
          · have b2 := hB r k' (by omega) h2
            rw [if_neg e3, h.resolve_left e3, Int.zero_mul, Int.sub_zero, Int.emod_eq_of_lt b2.1 b2.2]
        · rw [if_neg (by omega)]
    by_cases c1 : r = rk
    · obtain ⟨σ', k1, k2⟩ := M_185 hF hn k7 (x1 := x1) hsz hrk hc hc2 hB d m σ (r + 1) (by omega) (by omega) h25 h26 h27 h20 (same (Or.inl c1))
      refine ⟨σ', ?_, k2⟩
      simp only [l_M_steps_185, b_M_steps_185, bv, bs]
      rw [gd_t (by omega), if_neg (by omega)]
      simp only [h25, h27, t1, e1]
      rw [gd_t g1, gd_t (by omega), if_pos (by omega)]
      exact k1
    · by_cases c2 : B r c = 0
      · obtain ⟨σ', k1, k2⟩ := M_185 hF hn k7 (x1 := x1) hsz hrk hc hc2 hB d m σ (r + 1) (by omega) (by omega) h25 h26 h27 h20 (same (Or.inr c2))
        refine ⟨σ', ?_, k2⟩
        simp only [l_M_steps_185, b_M_steps_185, bv, bs]
        rw [gd_t (by omega), if_neg (by omega)]
        simp only [h25, h27, t1, e1]
        rw [gd_t g1, gd_t (by omega), if_neg (by omega), gd_t (by omega), if_pos c2]
        exact k1
      · have hC : Can (PR n) high wide (fun r' k' => if r' < r then cl (PR n) B rk c r' k' else B r' k') := by
          intro r' k' h1 h2
          show 0 ≤ (if r' < r then cl (PR n) B rk c r' k' else B r' k') ∧ (if r' < r then cl (PR n) B rk c r' k' else B r' k') < PR n
          split
          · exact cl_can (by omega) hB r' k' h1 h2
          · exact hB r' k' h1 h2
        have hrow : ∀ k', (if rk < r then cl (PR n) B rk c rk k' else B rk k') = B rk k' := fun k' => by
          unfold cl; split <;> simp
        obtain ⟨σ1, j1, j2, j3, j4⟩ := M_230 (F := F) hn k7 (l_M_steps_185 F k7 m) (x1 := x1) (x2 := (c : Nat)) (v := B r c) hsz hrk (show r < high by omega) c1 hC b1 wide F σ 0 (by omega) (by omega) h25 h27 h20 (fun r' k' h1 h2 => by rw [hM r' k' h1 h2]; (try dsimp only); rw [if_neg (show ¬ (r' = r ∧ k' < 0) by omega)])
        obtain ⟨σ', k1, k2, k3, k4, k5, k6⟩ := M_185 hF hn k7 (x1 := x1) hsz hrk hc hc2 hB d m σ1 (r + 1) (by omega) (by omega) (by rw [j3]; exact h25) (by rw [j3]; exact h26) (by rw [j3]; exact h27) (by rw [j3]; exact h20) (fun r' k' h1 h2 => by
          rw [j2 r' k' h1 h2]
          try dsimp only
          by_cases e : r' = r
          · rw [if_pos e, if_pos (show r' < r + 1 by omega), hrow, if_neg (show ¬ r' < r by omega)]
            unfold cl
            rw [if_neg (show ¬ r' = rk by omega), e]
          · rw [if_neg e]
            by_cases e2 : r' < r
            · rw [if_pos e2, if_pos (by omega)]
            · rw [if_neg e2, if_neg (by omega)])
        refine ⟨σ', ?_, k2, k3, fun q hq => by rw [k4 q hq, j3], fun i => by rw [k5, j4 8 (by omega)], fun a h1 h2 i => by rw [k6 a h1 h2, j4 a h1]⟩
        simp only [l_M_steps_185, b_M_steps_185, bv, bs]
        rw [gd_t (by omega), if_neg (by omega)]
        simp only [h25, h27, t1, e1]
        rw [gd_t g1, gd_t (by omega), if_neg (by omega), gd_t (by omega), if_neg c2]
        exact j1.trans k1
/-- exchange and scaling -/
theorem M_93 (hF : 3000 ≤ F) (hn : wayN n) (k7 : St → Int → Int → Option (Int × St)) {high wide rk w c : Nat} {x1 : Int} {A : Nat → Nat → Int} (hsz : wide * high ≤ 2800) (hrk : rk < high) (hw : w < high) (hA : Can (PR n) high wide A) (hby : 0 ≤ INV (PR n) (A w c) ∧ INV (PR n) (A w c) ≤ 1500) : ∀ (d m : Nat) (σ : St) (k : Nat), d < m → k + d = wide → gF σ 25 = (wide : Nat) → gF σ 27 = (rk : Nat) → gF σ 20 = PR n → MB σ high wide (fun r' k' => if k' < k then sw (PR n) A rk w c r' k' else A r' k') → ∃ σ', l_M_steps_93 F k7 m σ x1 (c : Nat) (w : Nat) (INV (PR n) (A w c)) (k : Nat) = l_M_steps_185 F k7 F σ' x1 (c : Nat) 0 ∧ MB σ' high wide (sw (PR n) A rk w c) ∧ (∀ q, gF σ' q = gF σ q) ∧ ∀ a, a ≠ 7 → ∀ i, gA σ' a i = gA σ a i
  | _, 0, _, _, h, _, _, _, _, _ => by omega
  | 0, m + 1, σ, k, _, hd, h25, h27, h20, hM => by
    have hwi : wide ≤ 2800 := Nat.le_trans (Nat.le_mul_of_pos_right wide (by omega)) hsz
    refine ⟨σ, ?_, fun r' k' h1 h2 => ?_, fun _ => rfl, fun _ _ _ => rfl⟩
    · simp only [l_M_steps_93, b_M_steps_93, bv, bs]
      rw [gd_t (by omega), if_pos (by omega)]
    · rw [hM r' k' h1 h2]; (try dsimp only); rw [if_pos (by omega)]
  | d + 1, m + 1, σ, k, hm, hd, h25, h27, h20, hM => by
    have hp := PR_b hn
    have hwi : wide ≤ 2800 := Nat.le_trans (Nat.le_mul_of_pos_right wide (by omega)) hsz
    have l1 := ixE_lt (wide := wide) hw (show k < wide by omega)
    have l2 := ixE_lt (wide := wide) hrk (show k < wide by omega)
    have e1 : gA σ 7 (wide * w + k) = A w k := by rw [hM w k hw (by omega)]; exact if_neg (by omega)
    have e2 : gA σ 7 (wide * rk + k) = A rk k := by rw [hM rk k hrk (by omega)]; exact if_neg (by omega)
    have t1 : Int.toNat ((wide : Int) * (w : Int) + (k : Int)) = wide * w + k := by rw [ix_c]; omega
    have t2 : Int.toNat ((wide : Int) * (rk : Int) + (k : Int)) = wide * rk + k := by rw [ix_c]; omega
    have g1 : inb ((wide : Int) * (w : Int) + (k : Int)) 2800 := by rw [ix_c]; omega
    have g2 : inb ((wide : Int) * (rk : Int) + (k : Int)) 2800 := by rw [ix_c]; omega
    have b1 := hA w k hw (by omega)
    have q := mulb (a := A w k) (b := INV (PR n) (A w c)) (A := 1500) (B := 1500) (by omega) (by omega) (by omega) (by omega)
    have hM1 : MB (sA σ 7 (wide * w + k) (A rk k)) high wide (fun r' k' => if k' < k then sw (PR n) A rk w c r' k' else if r' = w ∧ k' = k then A rk k else A r' k') := MB_set hM (by omega) (by (try dsimp only); rw [if_neg (by omega), if_pos ⟨rfl, rfl⟩]) (fun r' k' h1 h2 h3 => by
      try dsimp only
      by_cases e : k' < k
      · rw [if_pos e, if_pos e]
      · rw [if_neg e, if_neg e, if_neg h3])
    have hM2 : MB (sA (sA σ 7 (wide * w + k) (A rk k)) 7 (wide * rk + k) (A w k * INV (PR n) (A w c) % PR n)) high wide (fun r' k' => if k' < k + 1 then sw (PR n) A rk w c r' k' else A r' k') := MB_set hM1 (by omega) (by (try dsimp only); rw [if_pos (by omega)]; unfold sw; rw [if_pos rfl]) (fun r' k' h1 h2 h3 => by
      try dsimp only
      by_cases e : k' < k
      · rw [if_pos e, if_pos (by omega)]
      · rw [if_neg e]
        by_cases e2 : k' = k
        · rw [if_pos (by omega), e2]
          have e3 : r' ≠ rk := fun z => h3 ⟨z, e2⟩
          unfold sw
          rw [if_neg e3]
          by_cases e4 : r' = w
          · rw [if_pos e4, if_pos ⟨e4, rfl⟩]
          · rw [if_neg e4, if_neg (fun z => e4 z.1)]
        · rw [if_neg (by omega), if_neg (fun z => e2 z.2)])
    obtain ⟨σ', k1, k2, k3, k4⟩ := M_93 hF hn k7 (x1 := x1) hsz hrk hw hA hby d m (sA (sA σ 7 (wide * w + k) (A rk k)) 7 (wide * rk + k) (A w k * INV (PR n) (A w c) % PR n)) (k + 1) (by omega) (by omega) h25 h27 h20 hM2
    refine ⟨σ', ?_, k2, k3, fun a ha i => by rw [k4 a ha, gA_sA, if_neg (fun e => ha e.1), gA_sA, if_neg (fun e => ha e.1)]⟩
    simp only [l_M_steps_93, b_M_steps_93, bv, bs]
    rw [gd_t (by omega), if_neg (by omega)]
    simp only [h25, h27, t1, t2, e1, e2, gF_sA, h20]
    rw [gd_t g1, gd_t g2, gd_t g1, gd_t ⟨by omega, by omega, by omega⟩, gd_t g2, tmE q.1]
    exact k1
/-- looking for a row -/
theorem M_29 (hF : 3000 ≤ F) (hn : wayN n) (k7 : St → Int → Int → Option (Int × St)) {high wide rk c : Nat} {x1 : Int} {A : Nat → Nat → Int} (hsz : wide * high ≤ 2800) (hc : c < wide) (hA : Can (PR n) high wide A) {σ : St} (h25 : gF σ 25 = (wide : Nat)) (h27 : gF σ 27 = (rk : Nat)) (h20 : gF σ 20 = PR n) (hM : MB σ high wide A) (hrk : rk ≤ high) : ∀ (d m j : Nat), d < m → rk + d = j → j ≤ high → l_M_steps_29 F k7 m σ x1 (c : Nat) (fr A c (high - j) j) ((j : Int) - 1) = if fr A c (high - rk) rk = -1 then k7 σ x1 ((c : Int) + 1) else l_M_steps_93 F k7 F σ x1 (c : Nat) (fr A c (high - rk) rk) (INV (PR n) (A (fr A c (high - rk) rk).toNat c)) 0
  | _, 0, _, h, _, _ => by omega
  | 0, m + 1, j, _, hd, hj => by
    have hp := PR_b hn
    have hhi : high ≤ 2800 := Nat.le_trans (Nat.le_mul_of_pos_left high (by omega)) hsz
    have hjr : j = rk := by omega
    subst hjr
    simp only [l_M_steps_29, b_M_steps_29, bv]
    rw [gd_t (by omega), if_pos (by omega)]
    rcases fr_b (A := A) (c := c) (high - j) j with h | ⟨h1, h2, h3⟩
    · rw [h, gd_t (by decide), if_neg (by decide), if_pos rfl]
    · obtain ⟨w, hw⟩ := Int.eq_ofNat_of_zero_le (show 0 ≤ fr A c (high - j) j by omega)
      rw [hw] at h1 h2 h3 ⊢
      have hwh : w < high := by omega
      have l1 := ixE_lt (wide := wide) hwh hc
      have t1 : Int.toNat ((wide : Int) * (w : Int) + (c : Int)) = wide * w + c := by rw [ix_c]; omega
      have g1 : inb ((wide : Int) * (w : Int) + (c : Int)) 2800 := by rw [ix_c]; omega
      have e1 : gA σ 7 (wide * w + c) = A w c := hM w c hwh hc
      have b1 := hA w c hwh hc
      rw [gd_t (by omega), if_pos (by omega), if_neg (by omega)]
      simp only [h25, t1, e1]
      rw [gd_t g1, M_inverse (by omega) hn h20 b1, bnd_s, show Int.toNat ((w : Nat) : Int) = w by omega]
  | d + 1, m + 1, j, hm, hd, hj => by
    have hp := PR_b hn
    have hhi : high ≤ 2800 := Nat.le_trans (Nat.le_mul_of_pos_left high (by omega)) hsz
    obtain ⟨i, rfl⟩ : ∃ i, j = i + 1 := ⟨j - 1, by omega⟩
    have l1 := ixE_lt (wide := wide) (show i < high by omega) hc
    have t1 : Int.toNat ((wide : Int) * (i : Int) + (c : Int)) = wide * i + c := by rw [ix_c]; omega
    have g1 : inb ((wide : Int) * (i : Int) + (c : Int)) 2800 := by rw [ix_c]; omega
    have e1 : gA σ 7 (wide * i + c) = A i c := hM i c (by omega) hc
    have b1 := hA i c (by omega) hc
    have ih := M_29 hF hn k7 (x1 := x1) hsz hc hA h25 h27 h20 hM hrk d m i (by omega) (by omega) (by omega)
    have hfr : fr A c (high - i) i = if A i c = 0 then fr A c (high - (i + 1)) (i + 1) else i := by
      obtain ⟨q, hq⟩ : ∃ q, high - i = q + 1 := ⟨high - i - 1, by omega⟩
      rw [hq, show high - (i + 1) = q by omega]
      rfl
    have ej : ((i + 1 : Nat) : Int) - 1 = i := by omega
    simp only [l_M_steps_29, b_M_steps_29, bv]
    rw [ej, gd_t (by omega), if_neg (by omega)]
    simp only [h25, t1, e1]
    rw [gd_t g1, gd_t (by omega), ← ih, hfr]
    by_cases z : A i c = 0
    · rw [if_pos z, if_pos z]; rfl
    · rw [if_neg z, if_neg z]; rfl
/-- the model's elimination is the elimination -/
theorem M_7 (hF : 3000 ≤ F) (hn : wayN n) {high wide cols : Nat} (hsz : wide * high ≤ 2800) (hcw : cols ≤ wide) (hc1 : cols ≤ 110) (hhi : high ≤ 2800) : ∀ (d m : Nat) (σ : St) (c rk : Nat) (A : Nat → Nat → Int) (ld le : Nat → Int), d < m → c + d = cols → rk ≤ high → gF σ 25 = (wide : Nat) → gF σ 26 = (high : Nat) → gF σ 27 = (rk : Nat) → gF σ 20 = PR n → MB σ high wide A → Can (PR n) high wide A → (∀ i, i < c → gA σ 8 i = ld i) → ∃ σ', l_M_steps_7 F m σ (cols : Nat) (c : Nat) = some (0, σ') ∧ MB σ' high wide (elR (PR n) high d c rk A ld le).2.1 ∧ Can (PR n) high wide (elR (PR n) high d c rk A ld le).2.1 ∧ gF σ' 27 = (((elR (PR n) high d c rk A ld le).1 : Nat) : Int) ∧ (∀ i, i < cols → gA σ' 8 i = (elR (PR n) high d c rk A ld le).2.2.1 i) ∧ (∀ q, q ≠ 27 → gF σ' q = gF σ q) ∧ ∀ a, a ≠ 7 → a ≠ 8 → ∀ i, gA σ' a i = gA σ a i
  | _, 0, _, _, _, _, _, _, h, _, _, _, _, _, _, _, _, _ => by omega
  | 0, m + 1, σ, c, rk, A, ld, le, _, hd, hrk, h25, h26, h27, h20, hM, hA, hld => by
    refine ⟨σ, ?_, hM, hA, h27, fun i hi => hld i (by omega), fun _ _ => rfl, fun _ _ _ _ => rfl⟩
    simp only [l_M_steps_7, b_M_steps_7, bv, bs]
    rw [gd_t (by omega), if_pos (by omega)]
  | d + 1, m + 1, σ, c, rk, A, ld, le, hm, hd, hrk, h25, h26, h27, h20, hM, hA, hld => by
    have hp := PR_b hn
    have hM0 : MB (sA σ 8 c (-1)) high wide A := fun r k h1 h2 => by rw [gA_sA, if_neg (by omega)]; exact hM r k h1 h2
    have h29 := M_29 (F := F) hF hn (l_M_steps_7 F m) (x1 := (cols : Nat)) (c := c) (σ := sA σ 8 c (-1)) hsz (by omega) hA h25 h27 h20 hM0 hrk (high - rk) F high (by omega) (by omega) (Nat.le_refl _)
    rw [show high - high = 0 by omega, show fr A c 0 high = -1 from rfl] at h29
    have hstart : l_M_steps_7 F (m + 1) σ (cols : Nat) (c : Nat) = l_M_steps_29 F (l_M_steps_7 F m) F (sA σ 8 c (-1)) (cols : Nat) (c : Nat) (-1) ((high : Int) - 1) := by
      simp only [l_M_steps_7, b_M_steps_7, bv, bs]
      rw [gd_t (by omega), if_neg (by omega), gd_t (by omega), gF_sA, h26, show Int.toNat ((c : Nat) : Int) = c by omega]
    rw [hstart, h29]
    rcases fr_b (A := A) (c := c) (high - rk) rk with h | ⟨h1, h2, h3⟩
    · have hz : elR (PR n) high (d + 1) c rk A ld le = elR (PR n) high d (c + 1) rk A (up ld c (-1)) le := if_pos h
      rw [hz, if_pos h]
      obtain ⟨σ', k1, k2, k3, k4, k5, k6, k7⟩ := M_7 hF hn hsz hcw hc1 hhi d m (sA σ 8 c (-1)) (c + 1) rk A (up ld c (-1)) le (by omega) (by omega) hrk h25 h26 h27 h20 hM0 hA (fun i hi => by
        rw [gA_sA]
        unfold up
        by_cases e : i = c
        · rw [if_pos ⟨rfl, e⟩, if_pos e]
        · rw [if_neg (fun z => e z.2), if_neg e]; exact hld i (by omega))
      exact ⟨σ', k1, k2, k3, k4, k5, k6, fun a a1 a2 i => by rw [k7 a a1 a2, gA_sA, if_neg (fun z => a2 z.1)]⟩
    · obtain ⟨w, hw⟩ := Int.eq_ofNat_of_zero_le (show 0 ≤ fr A c (high - rk) rk by omega)
      have hz : elR (PR n) high (d + 1) c rk A ld le = elR (PR n) high d (c + 1) (rk + 1) (pv (PR n) A rk w c) (up ld c rk) (up le rk c) := by
        show (if _ then _ else _) = _
        rw [if_neg (by omega), hw]; rfl
      rw [hz, if_neg (by omega), hw]
      rw [hw] at h1 h2 h3
      have hwh : w < high := by omega
      have hrh : rk < high := by omega
      have hib := INV_b hn (hA w c hwh (by omega))
      obtain ⟨s1, a1, a2, a3, a4⟩ := M_93 (F := F) hF hn (l_M_steps_7 F m) (x1 := (cols : Nat)) (c := c) hsz hrh hwh hA hib wide F (sA σ 8 c (-1)) 0 (by have := Nat.le_trans (Nat.le_mul_of_pos_right wide (show 0 < high by omega)) hsz; omega) (by omega) h25 h27 h20 (fun r' k' z1 z2 => by rw [hM0 r' k' z1 z2]; (try dsimp only); rw [if_neg (by omega)])
      have hS := sw_can (c := c) (by omega) hA hrh hwh
      obtain ⟨s2, b1, b2, b3, b4, b5, b6⟩ := M_185 (F := F) hF hn (l_M_steps_7 F m) (x1 := (cols : Nat)) hsz hrh (show c < wide by omega) (by omega) hS high F s1 0 (by omega) (by omega) (by rw [a3]; exact h25) (by rw [a3]; exact h26) (by rw [a3]; exact h27) (by rw [a3]; exact h20) (fun r' k' z1 z2 => by rw [a2 r' k' z1 z2]; (try dsimp only); rw [if_neg (by omega)])
      obtain ⟨σ', k1, k2, k3, k4, k5, k6, k7⟩ := M_7 hF hn hsz hcw hc1 hhi d m s2 (c + 1) (rk + 1) (pv (PR n) A rk w c) (up ld c rk) (up le rk c) (by omega) (by omega) (by omega) (by rw [b4 _ (by omega), a3]; exact h25) (by rw [b4 _ (by omega), a3]; exact h26) b3 (by rw [b4 _ (by omega), a3]; exact h20) b2 (pv_can (by omega) hA hrh hwh) (fun i hi => by
        rw [b5]
        unfold up
        by_cases e : i = c
        · rw [if_pos e, if_pos e]
        · rw [if_neg e, if_neg e, a4 8 (by omega), gA_sA, if_neg (fun z => e z.2)]; exact hld i (by omega))
      refine ⟨σ', ?_, k2, k3, k4, k5, fun q hq => by rw [k6 q hq, b4 q hq, a3, gF_sA], fun a z1 z2 i => by rw [k7 a z1 z2, b6 a z1 z2, a4 a z1, gA_sA, if_neg (fun z => z2 z.1)]⟩
      rw [show Int.toNat ((w : Nat) : Int) = w by omega]
      exact a1.trans (b1.trans k1)
theorem M_steps (hF : 3000 ≤ F) (hn : wayN n) {σ : St} {high wide cols : Nat} {A : Nat → Nat → Int} (hsz : wide * high ≤ 2800) (hcw : cols ≤ wide) (hc1 : cols ≤ 110) (hhi : high ≤ 2800) (h25 : gF σ 25 = (wide : Nat)) (h26 : gF σ 26 = (high : Nat)) (h20 : gF σ 20 = PR n) (hM : MB σ high wide A) (hA : Can (PR n) high wide A) : ∃ σ', f_M_steps F σ (cols : Nat) = some (0, σ') ∧ MB σ' high wide (el (PR n) high cols A).2.1 ∧ Can (PR n) high wide (el (PR n) high cols A).2.1 ∧ gF σ' 27 = (((el (PR n) high cols A).1 : Nat) : Int) ∧ (∀ i, i < cols → gA σ' 8 i = (el (PR n) high cols A).2.2.1 i) ∧ (∀ q, q ≠ 27 → gF σ' q = gF σ q) ∧ ∀ a, a ≠ 7 → a ≠ 8 → ∀ i, gA σ' a i = gA σ a i := by
  obtain ⟨σ', k1, k2, k3, k4, k5, k6, k7⟩ := M_7 (F := F) hF hn hsz hcw hc1 hhi cols F (sF σ 27 0) 0 0 A (fun _ => -1) (fun _ => -1) (by omega) (by omega) (by omega) (by rw [gF_sF, if_neg (by omega)]; exact h25) (by rw [gF_sF, if_neg (by omega)]; exact h26) (by rw [gF_eq]; rfl) (by rw [gF_sF, if_neg (by omega)]; exact h20) hM hA (fun i hi => by omega)
  exact ⟨σ', k1, k2, k3, k4, k5, fun q hq => by rw [k6 q hq, gF_sF, if_neg hq], k7⟩
end
