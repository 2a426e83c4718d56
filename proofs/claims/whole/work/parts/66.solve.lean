/-! PURE PART: solving; nulled -/
/-- leads and step rows undo each other -/
def LL (c rk : Nat) (ld le : Nat → Int) : Prop := (∀ i, i < c → ld i = -1 ∨ (0 ≤ ld i ∧ ld i < rk ∧ le (ld i).toNat = i)) ∧ ∀ r, r < rk → 0 ≤ le r ∧ le r < c ∧ ld (le r).toNat = r
theorem LL_no {c rk : Nat} {ld le : Nat → Int} (h : LL c rk ld le) : LL (c + 1) rk (up ld c (-1)) le := by
  refine ⟨fun i hi => ?_, fun r hr => ?_⟩
  · unfold up
    by_cases e : i = c
    · rw [if_pos e]; exact Or.inl rfl
    · rw [if_neg e]; exact h.1 i (by omega)
  · have := h.2 r hr
    refine ⟨this.1, by omega, ?_⟩
    unfold up
    rw [if_neg (by omega)]; exact this.2.2
theorem LL_yes {c rk : Nat} {ld le : Nat → Int} (h : LL c rk ld le) : LL (c + 1) (rk + 1) (up ld c rk) (up le rk c) := by
  refine ⟨fun i hi => ?_, fun r hr => ?_⟩
  · unfold up
    by_cases e : i = c
    · rw [if_pos e]; exact Or.inr ⟨by omega, by omega, by rw [if_pos (by omega), e]⟩
    · rw [if_neg e]
      rcases h.1 i (by omega) with g | ⟨g1, g2, g3⟩
      · exact Or.inl g
      · exact Or.inr ⟨g1, by omega, by rw [if_neg (by omega)]; exact g3⟩
  · unfold up
    by_cases e : r = rk
    · rw [if_pos e]; exact ⟨by omega, by omega, by rw [if_pos (by omega), e]⟩
    · rw [if_neg e]
      have := h.2 r (by omega)
      exact ⟨this.1, by omega, by rw [if_neg (by omega)]; exact this.2.2⟩
theorem elR_LL {p : Int} {high : Nat} : ∀ (d c rk : Nat) (A : Nat → Nat → Int) (ld le : Nat → Int), LL c rk ld le → LL (c + d) (elR p high d c rk A ld le).1 (elR p high d c rk A ld le).2.2.1 (elR p high d c rk A ld le).2.2.2
  | 0, _, _, _, _, _, h => h
  | d + 1, c, rk, A, ld, le, h => by
    unfold elR
    rcases fr_b (A := A) (c := c) (high - rk) rk with g | g
    · rw [if_pos g, show c + (d + 1) = c + 1 + d by omega]
      exact elR_LL d (c + 1) rk A _ le (LL_no h)
    · rw [if_neg (by omega), show c + (d + 1) = c + 1 + d by omega]
      exact elR_LL d (c + 1) (rk + 1) _ _ _ (LL_yes h)
theorem el_LL {p : Int} {high cols : Nat} {A : Nat → Nat → Int} : LL cols (el p high cols A).1 (el p high cols A).2.2.1 (el p high cols A).2.2.2 := by
  have := elR_LL (p := p) (high := high) cols 0 0 A (fun _ => -1) (fun _ => -1) ⟨fun i hi => by omega, fun r hr => by omega⟩
  rw [Nat.zero_add] at this
  exact this
/-- the numbers that solve, 0 where a column is made of lesser ones -/
def shS (p : Int) (high cols : Nat) (A : Nat → Nat → Int) (c : Nat) : Int := if (el p high cols A).2.2.1 c < 0 then 0 else (el p high cols A).2.1 ((el p high cols A).2.2.1 c).toNat cols
theorem shS_b {p : Int} (hp : 0 < p) {high cols c : Nat} {A : Nat → Nat → Int} (hc : c < cols) (h : Can p high (cols + 1) (el p high cols A).2.1) : 0 ≤ shS p high cols A c ∧ shS p high cols A c < p := by
  unfold shS
  have hl := el_LL (p := p) (high := high) (cols := cols) (A := A)
  have hr := el_rk (p := p) (high := high) (cols := cols) (A := A)
  by_cases e : (el p high cols A).2.2.1 c < 0
  · rw [if_pos e]; omega
  · rw [if_neg e]
    rcases hl.1 c hc with g | g
    · omega
    · exact h _ _ (by omega) (by omega)
section
variable {F : Nat}
theorem M_share {σ : St} {n : Int} {high cols c : Nat} {A : Nat → Nat → Int} (hn : wayN n) (hsz : (cols + 1) * high ≤ 2800) (hc : c < cols) (hc1 : cols ≤ 110) (h25 : gF σ 25 = ((cols + 1 : Nat) : Int)) (hM : MB σ high (cols + 1) (el (PR n) high cols A).2.1) (hl : ∀ i, i < cols → gA σ 8 i = (el (PR n) high cols A).2.2.1 i) : f_M_share F σ (c : Nat) = some (shS (PR n) high cols A c, σ) := by
  have hL := el_LL (p := PR n) (high := high) (cols := cols) (A := A)
  have hr := el_rk (p := PR n) (high := high) (cols := cols) (A := A)
  unfold f_M_share shS
  simp only [bv, Int.toNat_natCast, hl c hc, h25]
  have hb : -1 ≤ (el (PR n) high cols A).2.2.1 c ∧ (el (PR n) high cols A).2.2.1 c < 2801 := by
    rcases hL.1 c hc with g | g
    · omega
    · have : high ≤ 2800 := Nat.le_trans (Nat.le_mul_of_pos_left high (by omega)) hsz
      omega
  rw [gd_t (by omega), gd_t (by omega)]
  by_cases e : (el (PR n) high cols A).2.2.1 c < 0
  · rw [if_neg (by omega), if_pos e]
  · rw [if_pos (by omega), if_neg e, gd_t (by omega)]
    rcases hL.1 c hc with g | ⟨g1, g2, g3⟩
    · omega
    · obtain ⟨r, hrr⟩ := Int.eq_ofNat_of_zero_le g1
      rw [hrr] at g2 ⊢
      have lt := ixE_lt (wide := cols + 1) (high := high) (r := r) (k := cols) (by omega) (by omega)
      have e1 : ((cols + 1 : Nat) : Int) * ((r : Nat) : Int) + ((cols + 1 : Nat) : Int) - 1 = ((((cols + 1) * r + cols : Nat)) : Int) := by rw [← ix_c]; omega
      rw [e1, gd_t (by omega), Int.toNat_natCast, Int.toNat_natCast, hM r cols (by omega) (by omega)]
theorem W_z59_strengths {σ0 : St} {high cols : Nat} {A : Nat → Nat → Int} {p : Int} (hh : high ≤ 46) (hcap : cols ≤ 46) (hw : cols < 70) : ∀ (d m : Nat) (σ : St) (i : Nat), d < m → i + d = (el p high cols A).1 → RW σ high (cols + 1) (el p high cols A).2.1 → (∀ i, i < (el p high cols A).1 → gA σ 87 i = (el p high cols A).2.2.2 i) → (∀ c, c < cols → gA σ 12 c = if 0 ≤ (el p high cols A).2.2.1 c ∧ (el p high cols A).2.2.1 c < i then (el p high cols A).2.1 ((el p high cols A).2.2.1 c).toNat cols else 0) → ∃ σ', l_Rows_solve_strengths_59 F m σ (cols : Nat) (((el p high cols A).1 : Nat) : Int) (i : Nat) = some (1, σ') ∧ (∀ c, c < cols → gA σ' 12 c = shS p high cols A c) ∧ (∀ q, gF σ' q = gF σ q) ∧ ∀ a, a ≠ 12 → ∀ j, gA σ' a j = gA σ a j
  | _, 0, _, _, h, _, _, _, _ => by omega
  | 0, m + 1, σ, i, _, hd, hM, hle, hc => by
    have hr := el_rk (p := p) (high := high) (cols := cols) (A := A)
    have hL := el_LL (p := p) (high := high) (cols := cols) (A := A)
    refine ⟨σ, ?_, fun c h => ?_, fun _ => rfl, fun _ _ _ => rfl⟩
    · simp only [l_Rows_solve_strengths_59, b_Rows_solve_strengths_59, bv, bs]
      rw [gd_t (by omega), if_pos (by omega)]
    · rw [hc c h]
      unfold shS
      rcases hL.1 c h with g | g
      · rw [if_neg (by omega), if_pos (by omega)]
      · rw [if_pos (by omega), if_neg (by omega)]
  | d + 1, m + 1, σ, i, hm, hd, hM, hle, hc => by
    have hr := el_rk (p := p) (high := high) (cols := cols) (A := A)
    have hL := el_LL (p := p) (high := high) (cols := cols) (A := A)
    obtain ⟨g1, g2, g3⟩ := hL.2 i (by omega)
    have e1 : gA σ (103 + i) cols = (el p high cols A).2.1 i cols := hM i cols (by omega) (by omega)
    have e2 := hle i (by omega)
    have hM' : RW (sA σ 12 ((el p high cols A).2.2.2 i).toNat ((el p high cols A).2.1 i cols)) high (cols + 1) (el p high cols A).2.1 := fun r k a b => by rw [gA_sA, if_neg (by omega)]; exact hM r k a b
    obtain ⟨σ', k1, k2, k3, k4⟩ := W_z59_strengths (σ0 := σ0) hh hcap hw d m _ (i + 1) (by omega) (by omega) hM' (fun j hj => by rw [gA_sA, if_neg (by omega)]; exact hle j hj) (fun c h => by
      rw [gA_sA]
      by_cases q : c = ((el p high cols A).2.2.2 i).toNat
      · have q2 : (el p high cols A).2.2.1 c = i := by rw [q]; exact g3
        rw [if_pos ⟨rfl, q⟩, if_pos (by omega), q2, Int.toNat_natCast]
      · rw [if_neg (fun z => q z.2), hc c h]
        have q2 : (el p high cols A).2.2.1 c ≠ i := by
          intro z
          rcases hL.1 c h with g | g
          · omega
          · rw [z, Int.toNat_natCast] at g; omega
        by_cases q3 : 0 ≤ (el p high cols A).2.2.1 c ∧ (el p high cols A).2.2.1 c < i
        · rw [if_pos q3, if_pos (by omega)]
        · rw [if_neg q3, if_neg (by omega)])
    refine ⟨σ', ?_, k2, k3, fun a ha j => by rw [k4 a ha, gA_sA, if_neg (fun z => ha z.1)]⟩
    simp only [l_Rows_solve_strengths_59, b_Rows_solve_strengths_59, bv, bs, Int.toNat_natCast, e1, e2]
    rw [gd_t (by omega), if_neg (by omega), gd_t (by omega), gd_t (by omega), gd_t (by omega), gd_t (by omega)]
    exact k1
theorem W_z35_strengths {high cols : Nat} {A : Nat → Nat → Int} {p : Int} (hF : 100 ≤ F) (hh : high ≤ 46) (hcap : cols ≤ 46) (hw : cols < 70) : ∀ (d m : Nat) (σ : St) (i : Nat), d < m → i + d = cols → RW σ high (cols + 1) (el p high cols A).2.1 → (∀ i, i < (el p high cols A).1 → gA σ 87 i = (el p high cols A).2.2.2 i) → (∀ c, c < i → gA σ 12 c = 0) → ∃ σ', l_Rows_solve_strengths_35 F m σ (cols : Nat) (((el p high cols A).1 : Nat) : Int) (i : Nat) = some (1, σ') ∧ (∀ c, c < cols → gA σ' 12 c = shS p high cols A c) ∧ (∀ q, gF σ' q = gF σ q) ∧ ∀ a, a ≠ 12 → ∀ j, gA σ' a j = gA σ a j
  | _, 0, _, _, h, _, _, _, _ => by omega
  | 0, m + 1, σ, i, _, hd, hM, hle, hc => by
    have hr := el_rk (p := p) (high := high) (cols := cols) (A := A)
    obtain ⟨σ', k1, k2⟩ := W_z59_strengths (F := F) (σ0 := σ) (p := p) (A := A) hh hcap hw (el p high cols A).1 F σ 0 (by omega) (by omega) hM hle (fun c h => by rw [hc c (by omega), if_neg (by omega)])
    refine ⟨σ', ?_, k2⟩
    simp only [l_Rows_solve_strengths_35, b_Rows_solve_strengths_35, bv, bs]
    rw [gd_t (by omega), if_pos (by omega)]
    exact k1
  | d + 1, m + 1, σ, i, hm, hd, hM, hle, hc => by
    have hr := el_rk (p := p) (high := high) (cols := cols) (A := A)
    have hM' : RW (sA σ 12 i 0) high (cols + 1) (el p high cols A).2.1 := fun r k a b => by rw [gA_sA, if_neg (by omega)]; exact hM r k a b
    obtain ⟨σ', k1, k2, k3, k4⟩ := W_z35_strengths hF hh hcap hw d m (sA σ 12 i 0) (i + 1) (by omega) (by omega) hM' (fun j hj => by rw [gA_sA, if_neg (by omega)]; exact hle j hj) (fun c h => by
      rw [gA_sA]
      by_cases q : c = i
      · rw [if_pos ⟨rfl, q⟩]
      · rw [if_neg (fun z => q z.2)]; exact hc c (by omega))
    refine ⟨σ', ?_, k2, k3, fun a ha j => by rw [k4 a ha, gA_sA, if_neg (fun z => ha z.1)]⟩
    simp only [l_Rows_solve_strengths_35, b_Rows_solve_strengths_35, bv, bs, Int.toNat_natCast]
    rw [gd_t (by omega), if_neg (by omega), gd_t (by omega)]
    exact k1
theorem W_solve_strengths (hF : 200 ≤ F) {n : Int} (hn : wayN n) {σ : St} {high cols : Nat} {A : Nat → Nat → Int} (hh : high ≤ 46) (hcap : cols ≤ 46) (hw : cols < 70) (hM : RW σ high (cols + 1) A) (hA : Can (PR n) high (cols + 1) A) : ∃ σ', f_Rows_solve_strengths F σ (high : Nat) (cols : Nat) (PR n) = some (bi (mdB (PR n) high cols A), σ') ∧ Can (PR n) high (cols + 1) (el (PR n) high cols A).2.1 ∧ (mdB (PR n) high cols A = true → gF σ' 705 = (cols : Int) ∧ ∀ c, c < cols → gA σ' 12 c = shS (PR n) high cols A c) ∧ (mdB (PR n) high cols A = false → gF σ' 705 = gF σ 705 ∧ ∀ c, gA σ' 12 c = gA σ 12 c) ∧ (∀ q, q ≠ 705 → gF σ' q = gF σ q) ∧ ∀ a, a < 103 → a ≠ 87 → a ≠ 12 → ∀ j, gA σ' a j = gA σ a j := by
  have hp := PR_b hn
  obtain ⟨s1, k1, k2, k3, k4, k5⟩ := W_reduce (F := F) hF hn (cols := cols) hh (show cols + 1 ≤ 70 by omega) (by omega) hM hA
  have hr := el_rk (p := PR n) (high := high) (cols := cols) (A := A)
  have hrw := W_rowWith (F := F) hF (c := cols) (rk := (el (PR n) high cols A).1) (p := PR n) (by omega) hh (show cols + 1 ≤ 70 by omega) (by omega) k2 k3 (by omega)
  unfold f_Rows_solve_strengths
  rw [show ((cols : Nat) : Int) + 1 = ((cols + 1 : Nat) : Int) by omega, k1, bnd_s, hrw, bnd_s]
  have hb := fr_b (A := (el (PR n) high cols A).2.1) (c := cols) (high - (el (PR n) high cols A).1) (el (PR n) high cols A).1
  rw [gd_t (by omega)]
  by_cases c : fr (el (PR n) high cols A).2.1 cols (high - (el (PR n) high cols A).1) (el (PR n) high cols A).1 = -1
  · have hmd : mdB (PR n) high cols A = true := by unfold mdB; rw [c]; rfl
    rw [if_pos c, hmd]
    obtain ⟨σ', j1, j2, j3, j4⟩ := W_z35_strengths (F := F) (p := PR n) (A := A) (by omega) hh hcap hw cols F (sF s1 705 (cols : Int)) 0 (by omega) (by omega) k2 k4 (fun c h => by omega)
    refine ⟨σ', j1, k3, fun _ => ⟨by rw [j3, gF_eq], j2⟩, fun h => (by cases h), fun q hq => by rw [j3, gF_sF, if_neg hq, k5.1], fun a h1 h2 h3 j => by rw [j4 a h3]; exact k5.2 a h1 h2 j⟩
  · have hmd : mdB (PR n) high cols A = false := by unfold mdB; simpa using c
    rw [if_neg c, hmd]
    exact ⟨s1, rfl, k3, fun h => (by cases h), fun _ => ⟨k5.1 _, fun c => k5.2 12 (by omega) (by omega) c⟩, fun q _ => k5.1 q, fun a h1 h2 _ j => k5.2 a h1 h2 j⟩
theorem W_z59_steps {σ0 : St} {high cols : Nat} {A : Nat → Nat → Int} {p : Int} (hh : high ≤ 46) (hcap : cols ≤ 46) (hw : cols < 70) : ∀ (d m : Nat) (σ : St) (i : Nat), d < m → i + d = (el p high cols A).1 → RW σ high (cols + 1) (el p high cols A).2.1 → (∀ i, i < (el p high cols A).1 → gA σ 87 i = (el p high cols A).2.2.2 i) → (∀ c, c < cols → gA σ 10 c = if 0 ≤ (el p high cols A).2.2.1 c ∧ (el p high cols A).2.2.1 c < i then (el p high cols A).2.1 ((el p high cols A).2.2.1 c).toNat cols else 0) → ∃ σ', l_Rows_solve_steps_59 F m σ (cols : Nat) (((el p high cols A).1 : Nat) : Int) (i : Nat) = some (1, σ') ∧ (∀ c, c < cols → gA σ' 10 c = shS p high cols A c) ∧ (∀ q, gF σ' q = gF σ q) ∧ ∀ a, a ≠ 10 → ∀ j, gA σ' a j = gA σ a j
  | _, 0, _, _, h, _, _, _, _ => by omega
  | 0, m + 1, σ, i, _, hd, hM, hle, hc => by
    have hr := el_rk (p := p) (high := high) (cols := cols) (A := A)
    have hL := el_LL (p := p) (high := high) (cols := cols) (A := A)
    refine ⟨σ, ?_, fun c h => ?_, fun _ => rfl, fun _ _ _ => rfl⟩
    · simp only [l_Rows_solve_steps_59, b_Rows_solve_steps_59, bv, bs]
      rw [gd_t (by omega), if_pos (by omega)]
    · rw [hc c h]
      unfold shS
      rcases hL.1 c h with g | g
      · rw [if_neg (by omega), if_pos (by omega)]
      · rw [if_pos (by omega), if_neg (by omega)]
  | d + 1, m + 1, σ, i, hm, hd, hM, hle, hc => by
    have hr := el_rk (p := p) (high := high) (cols := cols) (A := A)
    have hL := el_LL (p := p) (high := high) (cols := cols) (A := A)
    obtain ⟨g1, g2, g3⟩ := hL.2 i (by omega)
    have e1 : gA σ (103 + i) cols = (el p high cols A).2.1 i cols := hM i cols (by omega) (by omega)
    have e2 := hle i (by omega)
    have hM' : RW (sA σ 10 ((el p high cols A).2.2.2 i).toNat ((el p high cols A).2.1 i cols)) high (cols + 1) (el p high cols A).2.1 := fun r k a b => by rw [gA_sA, if_neg (by omega)]; exact hM r k a b
    obtain ⟨σ', k1, k2, k3, k4⟩ := W_z59_steps (σ0 := σ0) hh hcap hw d m _ (i + 1) (by omega) (by omega) hM' (fun j hj => by rw [gA_sA, if_neg (by omega)]; exact hle j hj) (fun c h => by
      rw [gA_sA]
      by_cases q : c = ((el p high cols A).2.2.2 i).toNat
      · have q2 : (el p high cols A).2.2.1 c = i := by rw [q]; exact g3
        rw [if_pos ⟨rfl, q⟩, if_pos (by omega), q2, Int.toNat_natCast]
      · rw [if_neg (fun z => q z.2), hc c h]
        have q2 : (el p high cols A).2.2.1 c ≠ i := by
          intro z
          rcases hL.1 c h with g | g
          · omega
          · rw [z, Int.toNat_natCast] at g; omega
        by_cases q3 : 0 ≤ (el p high cols A).2.2.1 c ∧ (el p high cols A).2.2.1 c < i
        · rw [if_pos q3, if_pos (by omega)]
        · rw [if_neg q3, if_neg (by omega)])
    refine ⟨σ', ?_, k2, k3, fun a ha j => by rw [k4 a ha, gA_sA, if_neg (fun z => ha z.1)]⟩
    simp only [l_Rows_solve_steps_59, b_Rows_solve_steps_59, bv, bs, Int.toNat_natCast, e1, e2]
    rw [gd_t (by omega), if_neg (by omega), gd_t (by omega), gd_t (by omega), gd_t (by omega), gd_t (by omega)]
    exact k1
theorem W_z35_steps {high cols : Nat} {A : Nat → Nat → Int} {p : Int} (hF : 100 ≤ F) (hh : high ≤ 46) (hcap : cols ≤ 46) (hw : cols < 70) : ∀ (d m : Nat) (σ : St) (i : Nat), d < m → i + d = cols → RW σ high (cols + 1) (el p high cols A).2.1 → (∀ i, i < (el p high cols A).1 → gA σ 87 i = (el p high cols A).2.2.2 i) → (∀ c, c < i → gA σ 10 c = 0) → ∃ σ', l_Rows_solve_steps_35 F m σ (cols : Nat) (((el p high cols A).1 : Nat) : Int) (i : Nat) = some (1, σ') ∧ (∀ c, c < cols → gA σ' 10 c = shS p high cols A c) ∧ (∀ q, gF σ' q = gF σ q) ∧ ∀ a, a ≠ 10 → ∀ j, gA σ' a j = gA σ a j
  | _, 0, _, _, h, _, _, _, _ => by omega
  | 0, m + 1, σ, i, _, hd, hM, hle, hc => by
    have hr := el_rk (p := p) (high := high) (cols := cols) (A := A)
    obtain ⟨σ', k1, k2⟩ := W_z59_steps (F := F) (σ0 := σ) (p := p) (A := A) hh hcap hw (el p high cols A).1 F σ 0 (by omega) (by omega) hM hle (fun c h => by rw [hc c (by omega), if_neg (by omega)])
    refine ⟨σ', ?_, k2⟩
    simp only [l_Rows_solve_steps_35, b_Rows_solve_steps_35, bv, bs]
    rw [gd_t (by omega), if_pos (by omega)]
    exact k1
  | d + 1, m + 1, σ, i, hm, hd, hM, hle, hc => by
    have hr := el_rk (p := p) (high := high) (cols := cols) (A := A)
    have hM' : RW (sA σ 10 i 0) high (cols + 1) (el p high cols A).2.1 := fun r k a b => by rw [gA_sA, if_neg (by omega)]; exact hM r k a b
    obtain ⟨σ', k1, k2, k3, k4⟩ := W_z35_steps hF hh hcap hw d m (sA σ 10 i 0) (i + 1) (by omega) (by omega) hM' (fun j hj => by rw [gA_sA, if_neg (by omega)]; exact hle j hj) (fun c h => by
      rw [gA_sA]
      by_cases q : c = i
      · rw [if_pos ⟨rfl, q⟩]
      · rw [if_neg (fun z => q z.2)]; exact hc c (by omega))
    refine ⟨σ', ?_, k2, k3, fun a ha j => by rw [k4 a ha, gA_sA, if_neg (fun z => ha z.1)]⟩
    simp only [l_Rows_solve_steps_35, b_Rows_solve_steps_35, bv, bs, Int.toNat_natCast]
    rw [gd_t (by omega), if_neg (by omega), gd_t (by omega)]
    exact k1
theorem W_solve_steps (hF : 200 ≤ F) {n : Int} (hn : wayN n) {σ : St} {high cols : Nat} {A : Nat → Nat → Int} (hh : high ≤ 46) (hcap : cols ≤ 46) (hw : cols < 70) (hM : RW σ high (cols + 1) A) (hA : Can (PR n) high (cols + 1) A) : ∃ σ', f_Rows_solve_steps F σ (high : Nat) (cols : Nat) (PR n) = some (bi (mdB (PR n) high cols A), σ') ∧ Can (PR n) high (cols + 1) (el (PR n) high cols A).2.1 ∧ (mdB (PR n) high cols A = true → gF σ' 577 = (cols : Int) ∧ ∀ c, c < cols → gA σ' 10 c = shS (PR n) high cols A c) ∧ (mdB (PR n) high cols A = false → gF σ' 577 = gF σ 577 ∧ ∀ c, gA σ' 10 c = gA σ 10 c) ∧ (∀ q, q ≠ 577 → gF σ' q = gF σ q) ∧ ∀ a, a < 103 → a ≠ 87 → a ≠ 10 → ∀ j, gA σ' a j = gA σ a j := by
  have hp := PR_b hn
  obtain ⟨s1, k1, k2, k3, k4, k5⟩ := W_reduce (F := F) hF hn (cols := cols) hh (show cols + 1 ≤ 70 by omega) (by omega) hM hA
  have hr := el_rk (p := PR n) (high := high) (cols := cols) (A := A)
  have hrw := W_rowWith (F := F) hF (c := cols) (rk := (el (PR n) high cols A).1) (p := PR n) (by omega) hh (show cols + 1 ≤ 70 by omega) (by omega) k2 k3 (by omega)
  unfold f_Rows_solve_steps
  rw [show ((cols : Nat) : Int) + 1 = ((cols + 1 : Nat) : Int) by omega, k1, bnd_s, hrw, bnd_s]
  have hb := fr_b (A := (el (PR n) high cols A).2.1) (c := cols) (high - (el (PR n) high cols A).1) (el (PR n) high cols A).1
  rw [gd_t (by omega)]
  by_cases c : fr (el (PR n) high cols A).2.1 cols (high - (el (PR n) high cols A).1) (el (PR n) high cols A).1 = -1
  · have hmd : mdB (PR n) high cols A = true := by unfold mdB; rw [c]; rfl
    rw [if_pos c, hmd]
    obtain ⟨σ', j1, j2, j3, j4⟩ := W_z35_steps (F := F) (p := PR n) (A := A) (by omega) hh hcap hw cols F (sF s1 577 (cols : Int)) 0 (by omega) (by omega) k2 k4 (fun c h => by omega)
    refine ⟨σ', j1, k3, fun _ => ⟨by rw [j3, gF_eq], j2⟩, fun h => (by cases h), fun q hq => by rw [j3, gF_sF, if_neg hq, k5.1], fun a h1 h2 h3 j => by rw [j4 a h3]; exact k5.2 a h1 h2 j⟩
  · have hmd : mdB (PR n) high cols A = false := by unfold mdB; simpa using c
    rw [if_neg c, hmd]
    exact ⟨s1, rfl, k3, fun h => (by cases h), fun _ => ⟨k5.1 _, fun c => k5.2 10 (by omega) (by omega) c⟩, fun q _ => k5.1 q, fun a h1 h2 _ j => k5.2 a h1 h2 j⟩
theorem W_z59_makerNumber {σ0 : St} {high cols : Nat} {A : Nat → Nat → Int} {p : Int} (hh : high ≤ 46) (hcap : cols ≤ 3) (hw : cols < 70) : ∀ (d m : Nat) (σ : St) (i : Nat), d < m → i + d = (el p high cols A).1 → RW σ high (cols + 1) (el p high cols A).2.1 → (∀ i, i < (el p high cols A).1 → gA σ 87 i = (el p high cols A).2.2.2 i) → (∀ c, c < cols → gA σ 18 c = if 0 ≤ (el p high cols A).2.2.1 c ∧ (el p high cols A).2.2.1 c < i then (el p high cols A).2.1 ((el p high cols A).2.2.1 c).toNat cols else 0) → ∃ σ', l_Rows_solve_makerNumber_59 F m σ (cols : Nat) (((el p high cols A).1 : Nat) : Int) (i : Nat) = some (1, σ') ∧ (∀ c, c < cols → gA σ' 18 c = shS p high cols A c) ∧ (∀ q, gF σ' q = gF σ q) ∧ ∀ a, a ≠ 18 → ∀ j, gA σ' a j = gA σ a j
  | _, 0, _, _, h, _, _, _, _ => by omega
  | 0, m + 1, σ, i, _, hd, hM, hle, hc => by
    have hr := el_rk (p := p) (high := high) (cols := cols) (A := A)
    have hL := el_LL (p := p) (high := high) (cols := cols) (A := A)
    refine ⟨σ, ?_, fun c h => ?_, fun _ => rfl, fun _ _ _ => rfl⟩
    · simp only [l_Rows_solve_makerNumber_59, b_Rows_solve_makerNumber_59, bv, bs]
      rw [gd_t (by omega), if_pos (by omega)]
    · rw [hc c h]
      unfold shS
      rcases hL.1 c h with g | g
      · rw [if_neg (by omega), if_pos (by omega)]
      · rw [if_pos (by omega), if_neg (by omega)]
  | d + 1, m + 1, σ, i, hm, hd, hM, hle, hc => by
    have hr := el_rk (p := p) (high := high) (cols := cols) (A := A)
    have hL := el_LL (p := p) (high := high) (cols := cols) (A := A)
    obtain ⟨g1, g2, g3⟩ := hL.2 i (by omega)
    have e1 : gA σ (103 + i) cols = (el p high cols A).2.1 i cols := hM i cols (by omega) (by omega)
    have e2 := hle i (by omega)
    have hM' : RW (sA σ 18 ((el p high cols A).2.2.2 i).toNat ((el p high cols A).2.1 i cols)) high (cols + 1) (el p high cols A).2.1 := fun r k a b => by rw [gA_sA, if_neg (by omega)]; exact hM r k a b
    obtain ⟨σ', k1, k2, k3, k4⟩ := W_z59_makerNumber (σ0 := σ0) hh hcap hw d m _ (i + 1) (by omega) (by omega) hM' (fun j hj => by rw [gA_sA, if_neg (by omega)]; exact hle j hj) (fun c h => by
      rw [gA_sA]
      by_cases q : c = ((el p high cols A).2.2.2 i).toNat
      · have q2 : (el p high cols A).2.2.1 c = i := by rw [q]; exact g3
        rw [if_pos ⟨rfl, q⟩, if_pos (by omega), q2, Int.toNat_natCast]
      · rw [if_neg (fun z => q z.2), hc c h]
        have q2 : (el p high cols A).2.2.1 c ≠ i := by
          intro z
          rcases hL.1 c h with g | g
          · omega
          · rw [z, Int.toNat_natCast] at g; omega
        by_cases q3 : 0 ≤ (el p high cols A).2.2.1 c ∧ (el p high cols A).2.2.1 c < i
        · rw [if_pos q3, if_pos (by omega)]
        · rw [if_neg q3, if_neg (by omega)])
    refine ⟨σ', ?_, k2, k3, fun a ha j => by rw [k4 a ha, gA_sA, if_neg (fun z => ha z.1)]⟩
    simp only [l_Rows_solve_makerNumber_59, b_Rows_solve_makerNumber_59, bv, bs, Int.toNat_natCast, e1, e2]
    rw [gd_t (by omega), if_neg (by omega), gd_t (by omega), gd_t (by omega), gd_t (by omega), gd_t (by omega)]
    exact k1
theorem W_z35_makerNumber {high cols : Nat} {A : Nat → Nat → Int} {p : Int} (hF : 100 ≤ F) (hh : high ≤ 46) (hcap : cols ≤ 3) (hw : cols < 70) : ∀ (d m : Nat) (σ : St) (i : Nat), d < m → i + d = cols → RW σ high (cols + 1) (el p high cols A).2.1 → (∀ i, i < (el p high cols A).1 → gA σ 87 i = (el p high cols A).2.2.2 i) → (∀ c, c < i → gA σ 18 c = 0) → ∃ σ', l_Rows_solve_makerNumber_35 F m σ (cols : Nat) (((el p high cols A).1 : Nat) : Int) (i : Nat) = some (1, σ') ∧ (∀ c, c < cols → gA σ' 18 c = shS p high cols A c) ∧ (∀ q, gF σ' q = gF σ q) ∧ ∀ a, a ≠ 18 → ∀ j, gA σ' a j = gA σ a j
  | _, 0, _, _, h, _, _, _, _ => by omega
  | 0, m + 1, σ, i, _, hd, hM, hle, hc => by
    have hr := el_rk (p := p) (high := high) (cols := cols) (A := A)
    obtain ⟨σ', k1, k2⟩ := W_z59_makerNumber (F := F) (σ0 := σ) (p := p) (A := A) hh hcap hw (el p high cols A).1 F σ 0 (by omega) (by omega) hM hle (fun c h => by rw [hc c (by omega), if_neg (by omega)])
    refine ⟨σ', ?_, k2⟩
    simp only [l_Rows_solve_makerNumber_35, b_Rows_solve_makerNumber_35, bv, bs]
    rw [gd_t (by omega), if_pos (by omega)]
    exact k1
  | d + 1, m + 1, σ, i, hm, hd, hM, hle, hc => by
    have hr := el_rk (p := p) (high := high) (cols := cols) (A := A)
    have hM' : RW (sA σ 18 i 0) high (cols + 1) (el p high cols A).2.1 := fun r k a b => by rw [gA_sA, if_neg (by omega)]; exact hM r k a b
    obtain ⟨σ', k1, k2, k3, k4⟩ := W_z35_makerNumber hF hh hcap hw d m (sA σ 18 i 0) (i + 1) (by omega) (by omega) hM' (fun j hj => by rw [gA_sA, if_neg (by omega)]; exact hle j hj) (fun c h => by
      rw [gA_sA]
      by_cases q : c = i
      · rw [if_pos ⟨rfl, q⟩]
      · rw [if_neg (fun z => q z.2)]; exact hc c (by omega))
    refine ⟨σ', ?_, k2, k3, fun a ha j => by rw [k4 a ha, gA_sA, if_neg (fun z => ha z.1)]⟩
    simp only [l_Rows_solve_makerNumber_35, b_Rows_solve_makerNumber_35, bv, bs, Int.toNat_natCast]
    rw [gd_t (by omega), if_neg (by omega), gd_t (by omega)]
    exact k1
theorem W_solve_makerNumber (hF : 200 ≤ F) {n : Int} (hn : wayN n) {σ : St} {high cols : Nat} {A : Nat → Nat → Int} (hh : high ≤ 46) (hcap : cols ≤ 3) (hw : cols < 70) (hM : RW σ high (cols + 1) A) (hA : Can (PR n) high (cols + 1) A) : ∃ σ', f_Rows_solve_makerNumber F σ (high : Nat) (cols : Nat) (PR n) = some (bi (mdB (PR n) high cols A), σ') ∧ Can (PR n) high (cols + 1) (el (PR n) high cols A).2.1 ∧ (mdB (PR n) high cols A = true → gF σ' 1089 = (cols : Int) ∧ ∀ c, c < cols → gA σ' 18 c = shS (PR n) high cols A c) ∧ (mdB (PR n) high cols A = false → gF σ' 1089 = gF σ 1089 ∧ ∀ c, gA σ' 18 c = gA σ 18 c) ∧ (∀ q, q ≠ 1089 → gF σ' q = gF σ q) ∧ ∀ a, a < 103 → a ≠ 87 → a ≠ 18 → ∀ j, gA σ' a j = gA σ a j := by
  have hp := PR_b hn
  obtain ⟨s1, k1, k2, k3, k4, k5⟩ := W_reduce (F := F) hF hn (cols := cols) hh (show cols + 1 ≤ 70 by omega) (by omega) hM hA
  have hr := el_rk (p := PR n) (high := high) (cols := cols) (A := A)
  have hrw := W_rowWith (F := F) hF (c := cols) (rk := (el (PR n) high cols A).1) (p := PR n) (by omega) hh (show cols + 1 ≤ 70 by omega) (by omega) k2 k3 (by omega)
  unfold f_Rows_solve_makerNumber
  rw [show ((cols : Nat) : Int) + 1 = ((cols + 1 : Nat) : Int) by omega, k1, bnd_s, hrw, bnd_s]
  have hb := fr_b (A := (el (PR n) high cols A).2.1) (c := cols) (high - (el (PR n) high cols A).1) (el (PR n) high cols A).1
  rw [gd_t (by omega)]
  by_cases c : fr (el (PR n) high cols A).2.1 cols (high - (el (PR n) high cols A).1) (el (PR n) high cols A).1 = -1
  · have hmd : mdB (PR n) high cols A = true := by unfold mdB; rw [c]; rfl
    rw [if_pos c, hmd]
    obtain ⟨σ', j1, j2, j3, j4⟩ := W_z35_makerNumber (F := F) (p := PR n) (A := A) (by omega) hh hcap hw cols F (sF s1 1089 (cols : Int)) 0 (by omega) (by omega) k2 k4 (fun c h => by omega)
    refine ⟨σ', j1, k3, fun _ => ⟨by rw [j3, gF_eq], j2⟩, fun h => (by cases h), fun q hq => by rw [j3, gF_sF, if_neg hq, k5.1], fun a h1 h2 h3 j => by rw [j4 a h3]; exact k5.2 a h1 h2 j⟩
  · have hmd : mdB (PR n) high cols A = false := by unfold mdB; simpa using c
    rw [if_neg c, hmd]
    exact ⟨s1, rfl, k3, fun h => (by cases h), fun _ => ⟨k5.1 _, fun c => k5.2 18 (by omega) (by omega) c⟩, fun q _ => k5.1 q, fun a h1 h2 _ j => k5.2 a h1 h2 j⟩
theorem W_z59_nulls {σ0 : St} {high cols : Nat} {A : Nat → Nat → Int} {p : Int} (hh : high ≤ 46) (hcap : cols ≤ 10) (hw : cols < 70) : ∀ (d m : Nat) (σ : St) (i : Nat), d < m → i + d = (el p high cols A).1 → RW σ high (cols + 1) (el p high cols A).2.1 → (∀ i, i < (el p high cols A).1 → gA σ 87 i = (el p high cols A).2.2.2 i) → (∀ c, c < cols → gA σ 22 c = if 0 ≤ (el p high cols A).2.2.1 c ∧ (el p high cols A).2.2.1 c < i then (el p high cols A).2.1 ((el p high cols A).2.2.1 c).toNat cols else 0) → ∃ σ', l_Rows_solve_nulls_59 F m σ (cols : Nat) (((el p high cols A).1 : Nat) : Int) (i : Nat) = some (1, σ') ∧ (∀ c, c < cols → gA σ' 22 c = shS p high cols A c) ∧ (∀ q, gF σ' q = gF σ q) ∧ ∀ a, a ≠ 22 → ∀ j, gA σ' a j = gA σ a j
  | _, 0, _, _, h, _, _, _, _ => by omega
  | 0, m + 1, σ, i, _, hd, hM, hle, hc => by
    have hr := el_rk (p := p) (high := high) (cols := cols) (A := A)
    have hL := el_LL (p := p) (high := high) (cols := cols) (A := A)
    refine ⟨σ, ?_, fun c h => ?_, fun _ => rfl, fun _ _ _ => rfl⟩
    · simp only [l_Rows_solve_nulls_59, b_Rows_solve_nulls_59, bv, bs]
      rw [gd_t (by omega), if_pos (by omega)]
    · rw [hc c h]
      unfold shS
      rcases hL.1 c h with g | g
      · rw [if_neg (by omega), if_pos (by omega)]
      · rw [if_pos (by omega), if_neg (by omega)]
  | d + 1, m + 1, σ, i, hm, hd, hM, hle, hc => by
    have hr := el_rk (p := p) (high := high) (cols := cols) (A := A)
    have hL := el_LL (p := p) (high := high) (cols := cols) (A := A)
    obtain ⟨g1, g2, g3⟩ := hL.2 i (by omega)
    have e1 : gA σ (103 + i) cols = (el p high cols A).2.1 i cols := hM i cols (by omega) (by omega)
    have e2 := hle i (by omega)
    have hM' : RW (sA σ 22 ((el p high cols A).2.2.2 i).toNat ((el p high cols A).2.1 i cols)) high (cols + 1) (el p high cols A).2.1 := fun r k a b => by rw [gA_sA, if_neg (by omega)]; exact hM r k a b
    obtain ⟨σ', k1, k2, k3, k4⟩ := W_z59_nulls (σ0 := σ0) hh hcap hw d m _ (i + 1) (by omega) (by omega) hM' (fun j hj => by rw [gA_sA, if_neg (by omega)]; exact hle j hj) (fun c h => by
      rw [gA_sA]
      by_cases q : c = ((el p high cols A).2.2.2 i).toNat
      · have q2 : (el p high cols A).2.2.1 c = i := by rw [q]; exact g3
        rw [if_pos ⟨rfl, q⟩, if_pos (by omega), q2, Int.toNat_natCast]
      · rw [if_neg (fun z => q z.2), hc c h]
        have q2 : (el p high cols A).2.2.1 c ≠ i := by
          intro z
          rcases hL.1 c h with g | g
          · omega
          · rw [z, Int.toNat_natCast] at g; omega
        by_cases q3 : 0 ≤ (el p high cols A).2.2.1 c ∧ (el p high cols A).2.2.1 c < i
        · rw [if_pos q3, if_pos (by omega)]
        · rw [if_neg q3, if_neg (by omega)])
    refine ⟨σ', ?_, k2, k3, fun a ha j => by rw [k4 a ha, gA_sA, if_neg (fun z => ha z.1)]⟩
    simp only [l_Rows_solve_nulls_59, b_Rows_solve_nulls_59, bv, bs, Int.toNat_natCast, e1, e2]
    rw [gd_t (by omega), if_neg (by omega), gd_t (by omega), gd_t (by omega), gd_t (by omega), gd_t (by omega)]
    exact k1
theorem W_z35_nulls {high cols : Nat} {A : Nat → Nat → Int} {p : Int} (hF : 100 ≤ F) (hh : high ≤ 46) (hcap : cols ≤ 10) (hw : cols < 70) : ∀ (d m : Nat) (σ : St) (i : Nat), d < m → i + d = cols → RW σ high (cols + 1) (el p high cols A).2.1 → (∀ i, i < (el p high cols A).1 → gA σ 87 i = (el p high cols A).2.2.2 i) → (∀ c, c < i → gA σ 22 c = 0) → ∃ σ', l_Rows_solve_nulls_35 F m σ (cols : Nat) (((el p high cols A).1 : Nat) : Int) (i : Nat) = some (1, σ') ∧ (∀ c, c < cols → gA σ' 22 c = shS p high cols A c) ∧ (∀ q, gF σ' q = gF σ q) ∧ ∀ a, a ≠ 22 → ∀ j, gA σ' a j = gA σ a j
  | _, 0, _, _, h, _, _, _, _ => by omega
  | 0, m + 1, σ, i, _, hd, hM, hle, hc => by
    have hr := el_rk (p := p) (high := high) (cols := cols) (A := A)
    obtain ⟨σ', k1, k2⟩ := W_z59_nulls (F := F) (σ0 := σ) (p := p) (A := A) hh hcap hw (el p high cols A).1 F σ 0 (by omega) (by omega) hM hle (fun c h => by rw [hc c (by omega), if_neg (by omega)])
    refine ⟨σ', ?_, k2⟩
    simp only [l_Rows_solve_nulls_35, b_Rows_solve_nulls_35, bv, bs]
    rw [gd_t (by omega), if_pos (by omega)]
    exact k1
  | d + 1, m + 1, σ, i, hm, hd, hM, hle, hc => by
    have hr := el_rk (p := p) (high := high) (cols := cols) (A := A)
    have hM' : RW (sA σ 22 i 0) high (cols + 1) (el p high cols A).2.1 := fun r k a b => by rw [gA_sA, if_neg (by omega)]; exact hM r k a b
    obtain ⟨σ', k1, k2, k3, k4⟩ := W_z35_nulls hF hh hcap hw d m (sA σ 22 i 0) (i + 1) (by omega) (by omega) hM' (fun j hj => by rw [gA_sA, if_neg (by omega)]; exact hle j hj) (fun c h => by
      rw [gA_sA]
      by_cases q : c = i
      · rw [if_pos ⟨rfl, q⟩]
      · rw [if_neg (fun z => q z.2)]; exact hc c (by omega))
    refine ⟨σ', ?_, k2, k3, fun a ha j => by rw [k4 a ha, gA_sA, if_neg (fun z => ha z.1)]⟩
    simp only [l_Rows_solve_nulls_35, b_Rows_solve_nulls_35, bv, bs, Int.toNat_natCast]
    rw [gd_t (by omega), if_neg (by omega), gd_t (by omega)]
    exact k1
theorem W_solve_nulls (hF : 200 ≤ F) {n : Int} (hn : wayN n) {σ : St} {high cols : Nat} {A : Nat → Nat → Int} (hh : high ≤ 46) (hcap : cols ≤ 10) (hw : cols < 70) (hM : RW σ high (cols + 1) A) (hA : Can (PR n) high (cols + 1) A) : ∃ σ', f_Rows_solve_nulls F σ (high : Nat) (cols : Nat) (PR n) = some (bi (mdB (PR n) high cols A), σ') ∧ Can (PR n) high (cols + 1) (el (PR n) high cols A).2.1 ∧ (mdB (PR n) high cols A = true → gF σ' 1345 = (cols : Int) ∧ ∀ c, c < cols → gA σ' 22 c = shS (PR n) high cols A c) ∧ (mdB (PR n) high cols A = false → gF σ' 1345 = gF σ 1345 ∧ ∀ c, gA σ' 22 c = gA σ 22 c) ∧ (∀ q, q ≠ 1345 → gF σ' q = gF σ q) ∧ ∀ a, a < 103 → a ≠ 87 → a ≠ 22 → ∀ j, gA σ' a j = gA σ a j := by
  have hp := PR_b hn
  obtain ⟨s1, k1, k2, k3, k4, k5⟩ := W_reduce (F := F) hF hn (cols := cols) hh (show cols + 1 ≤ 70 by omega) (by omega) hM hA
  have hr := el_rk (p := PR n) (high := high) (cols := cols) (A := A)
  have hrw := W_rowWith (F := F) hF (c := cols) (rk := (el (PR n) high cols A).1) (p := PR n) (by omega) hh (show cols + 1 ≤ 70 by omega) (by omega) k2 k3 (by omega)
  unfold f_Rows_solve_nulls
  rw [show ((cols : Nat) : Int) + 1 = ((cols + 1 : Nat) : Int) by omega, k1, bnd_s, hrw, bnd_s]
  have hb := fr_b (A := (el (PR n) high cols A).2.1) (c := cols) (high - (el (PR n) high cols A).1) (el (PR n) high cols A).1
  rw [gd_t (by omega)]
  by_cases c : fr (el (PR n) high cols A).2.1 cols (high - (el (PR n) high cols A).1) (el (PR n) high cols A).1 = -1
  · have hmd : mdB (PR n) high cols A = true := by unfold mdB; rw [c]; rfl
    rw [if_pos c, hmd]
    obtain ⟨σ', j1, j2, j3, j4⟩ := W_z35_nulls (F := F) (p := PR n) (A := A) (by omega) hh hcap hw cols F (sF s1 1345 (cols : Int)) 0 (by omega) (by omega) k2 k4 (fun c h => by omega)
    refine ⟨σ', j1, k3, fun _ => ⟨by rw [j3, gF_eq], j2⟩, fun h => (by cases h), fun q hq => by rw [j3, gF_sF, if_neg hq, k5.1], fun a h1 h2 h3 j => by rw [j4 a h3]; exact k5.2 a h1 h2 j⟩
  · have hmd : mdB (PR n) high cols A = false := by unfold mdB; simpa using c
    rw [if_neg c, hmd]
    exact ⟨s1, rfl, k3, fun h => (by cases h), fun _ => ⟨k5.1 _, fun c => k5.2 22 (by omega) (by omega) c⟩, fun q _ => k5.1 q, fun a h1 h2 _ j => k5.2 a h1 h2 j⟩
end
