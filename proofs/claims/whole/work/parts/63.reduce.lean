/-! PURE PART: the class's elimination -/
def RW (σ : St) (high wide : Nat) (A : Nat → Nat → Int) : Prop := ∀ r k, r < high → k < wide → gA σ (103 + r) k = A r k
/-- rows and the leads alone are others -/
def RFr (σ σ' : St) : Prop := (∀ q, gF σ' q = gF σ q) ∧ ∀ a, a < 103 → a ≠ 87 → ∀ i, gA σ' a i = gA σ a i
theorem RFr.rf {σ : St} : RFr σ σ := ⟨fun _ => rfl, fun _ _ _ _ => rfl⟩
theorem RFr.tr {a b c : St} (h : RFr a b) (g : RFr b c) : RFr a c := ⟨fun q => (g.1 q).trans (h.1 q), fun x h1 h2 i => (g.2 x h1 h2 i).trans (h.2 x h1 h2 i)⟩
theorem RFr.W {a b : St} (h : RFr a b) : WFr a b := ⟨fun q _ => h.1 q, fun x hx i => by
  refine h.2 x ?_ (by intro e; subst e; cases hx) i
  rcases Nat.lt_or_ge x 103 with c | c
  · exact c
  · rw [wSA_hi (by omega)] at hx; cases hx⟩
theorem RW_set {σ : St} {high wide : Nat} {A B : Nat → Nat → Int} (h : RW σ high wide A) {r0 k0 : Nat} {v : Int} (hv : B r0 k0 = v) (hB : ∀ r k, r < high → k < wide → ¬ (r = r0 ∧ k = k0) → B r k = A r k) : RW (sA σ (103 + r0) k0 v) high wide B := by
  intro r k hr hk
  rw [gA_sA]
  by_cases e : r = r0 ∧ k = k0
  · rw [if_pos ⟨by omega, e.2⟩, ← hv, e.1, e.2]
  · rw [if_neg (fun z => e ⟨by omega, z.2⟩), h r k hr hk, hB r k hr hk e]
theorem RFr_set {σ : St} {r k : Nat} {v : Int} : RFr σ (sA σ (103 + r) k v) := ⟨fun _ => rfl, fun a h _ i => by rw [gA_sA, if_neg (by omega)]⟩
section
variable {F : Nat} {n : Int}
theorem W_rw {σ : St} {high wide c : Nat} {A : Nat → Nat → Int} {p : Int} (hp : p ≤ 2000) (hh : high ≤ 46) (hw : wide ≤ 70) (hc : c < wide) (hM : RW σ high wide A) (hA : Can p high wide A) : ∀ (d m r : Nat), d < m → r + d = high ∨ (d = 0 ∧ high ≤ r ∧ r ≤ 100) → l_Rows_rowWith_3 F m σ (c : Nat) (high : Nat) (r : Nat) = some (fr A c d r, σ)
  | _, 0, _, h, _ => by omega
  | 0, m + 1, r, _, hd => by
    simp only [l_Rows_rowWith_3, b_Rows_rowWith_3, bv]
    rw [gd_t (by omega), if_pos (by omega)]; rfl
  | d + 1, m + 1, r, hm, hd => by
    have e1 : gA σ (103 + Int.toNat ((r : Nat) : Int)) (Int.toNat ((c : Nat) : Int)) = A r c := by
      rw [show Int.toNat ((r : Nat) : Int) = r by omega, show Int.toNat ((c : Nat) : Int) = c by omega]
      exact hM r c (by omega) hc
    have b1 := hA r c (by omega) hc
    simp only [l_Rows_rowWith_3, b_Rows_rowWith_3, bv, e1]
    rw [gd_t (by omega), if_neg (by omega), gd_t (by omega), gd_t (by omega), gd_t (by omega)]
    unfold fr
    by_cases z : A r c = 0
    · rw [if_pos z, if_pos z]
      exact W_rw hp hh hw hc hM hA d m (r + 1) (by omega) (by omega)
    · rw [if_neg z, if_neg z]
theorem W_rowWith (hF : 200 ≤ F) {σ : St} {high wide c rk : Nat} {A : Nat → Nat → Int} {p : Int} (hp : p ≤ 2000) (hh : high ≤ 46) (hw : wide ≤ 70) (hc : c < wide) (hM : RW σ high wide A) (hA : Can p high wide A) (hrk : rk ≤ 100) : f_Rows_rowWith F σ (c : Nat) (rk : Nat) (high : Nat) = some (fr A c (high - rk) rk, σ) := W_rw (F := F) hp hh hw hc hM hA (high - rk) F rk (by omega) (by omega)
def swp (A : Nat → Nat → Int) (rk w : Nat) : Nat → Nat → Int := fun r k => if r = rk then A w k else if r = w then A rk k else A r k
theorem RW_ex {σ : St} {high wide rk w : Nat} {A : Nat → Nat → Int} (hrk : rk < high) (hw : w < high) (h : RW σ high wide A) : RW (exS σ (103 + rk) (103 + w)) high wide (swp A rk w) := by
  intro r k hr hk
  show gA σ (exR (103 + rk) (103 + w) (103 + r)) k = _
  unfold exR swp
  by_cases e : r = rk
  · rw [if_pos (by omega), if_pos e]; exact h w k hw hk
  · rw [if_neg (by omega), if_neg e]
    by_cases e2 : r = w
    · rw [if_pos (by omega), if_pos e2]; exact h rk k hrk hk
    · rw [if_neg (by omega), if_neg e2]; exact h r k hr hk
theorem RFr_ex {σ : St} {x y : Nat} : RFr σ (exS σ (103 + x) (103 + y)) := ⟨fun _ => rfl, fun a h _ i => by
  show gA σ (exR (103 + x) (103 + y) a) i = _
  unfold exR
  rw [if_neg (by omega), if_neg (by omega)]⟩
theorem W_scale (hn : wayN n) {high wide rk w c : Nat} {A : Nat → Nat → Int} (hh : high ≤ 46) (hw : wide ≤ 70) (hrk : rk < high) (hwh : w < high) (hA : Can (PR n) high wide A) (hby : 0 ≤ INV (PR n) (A w c) ∧ INV (PR n) (A w c) ≤ 1500) : ∀ (d m : Nat) (σ : St) (k : Nat), d < m → k + d = wide → RW σ high wide (fun r' k' => if k' < k then sw (PR n) A rk w c r' k' else swp A rk w r' k') → ∃ σ', l_Rows_scaleRow_3 F m σ (rk : Nat) (wide : Nat) (INV (PR n) (A w c)) (PR n) (k : Nat) = some (0, σ') ∧ RW σ' high wide (sw (PR n) A rk w c) ∧ RFr σ σ' ∧ ∀ i, gA σ' 87 i = gA σ 87 i
  | _, 0, _, _, h, _, _ => by omega
  | 0, m + 1, σ, k, _, hd, hM => by
    refine ⟨σ, ?_, fun r' k' h1 h2 => ?_, RFr.rf, fun _ => rfl⟩
    · simp only [l_Rows_scaleRow_3, b_Rows_scaleRow_3, bv, bs]
      rw [gd_t (by omega), if_pos (by omega)]
    · rw [hM r' k' h1 h2]; (try dsimp only); rw [if_pos (by omega)]
  | d + 1, m + 1, σ, k, hm, hd, hM => by
    have hp := PR_b hn
    have e1 : gA σ (103 + Int.toNat ((rk : Nat) : Int)) (Int.toNat ((k : Nat) : Int)) = A w k := by
      rw [show Int.toNat ((rk : Nat) : Int) = rk by omega, show Int.toNat ((k : Nat) : Int) = k by omega, hM rk k hrk (by omega)]
      (try dsimp only)
      rw [if_neg (by omega)]
      unfold swp
      rw [if_pos rfl]
    have b1 := hA w k hwh (by omega)
    obtain ⟨σ', k1, k2, k3, k4⟩ := W_scale hn hh hw hrk hwh hA hby d m (sA σ (103 + rk) k (A w k * INV (PR n) (A w c) % PR n)) (k + 1) (by omega) (by omega) (RW_set hM (by (try dsimp only); rw [if_pos (by omega)]; unfold sw; rw [if_pos rfl]) (fun r' k' h1 h2 h3 => by
      (try dsimp only)
      by_cases e : k' < k
      · rw [if_pos e, if_pos (by omega)]
      · rw [if_neg e]
        by_cases e2 : k' = k
        · rw [if_pos (by omega), e2]
          have e3 : r' ≠ rk := fun z => h3 ⟨z, e2⟩
          unfold sw swp
          rw [if_neg e3, if_neg e3]
        · rw [if_neg (by omega)]))
    refine ⟨σ', ?_, k2, RFr_set.tr k3, fun i => by rw [k4, gA_sA, if_neg (by omega)]⟩
    simp only [l_Rows_scaleRow_3, b_Rows_scaleRow_3, bv, bs, e1]
    rw [gd_t (by omega), if_neg (by omega), gd_t (by omega), gd_t (by omega), gd_t (by omega), W_product (by omega) (by omega) (by omega), bnd_s, gd_t (by omega), show Int.toNat ((rk : Nat) : Int) = rk by omega, show Int.toNat ((k : Nat) : Int) = k by omega]
    exact k1
theorem W_difference {σ : St} {a b p : Int} (ha : 0 ≤ a ∧ a < p) (hb : 0 ≤ b ∧ b < p) (hp : p ≤ 2000) : f_W_difference F σ a b p = some ((a - b) % p, σ) := by
  unfold f_W_difference
  rw [gd_t (by omega)]
  by_cases c : a < b
  · rw [if_pos c]
    congr 2
    have : (a - b) % p = (a - b + p) % p := by rw [Int.add_emod_right]
    rw [this, Int.emod_eq_of_lt (by omega) (by omega)]
  · rw [if_neg c, Int.emod_eq_of_lt (by omega) (by omega)]
theorem W_c34 (hn : wayN n) (k3 : St → Int → Int → Int → Int → Int → Int → Option (Int × St)) {high wide rk r c : Nat} {v : Int} {B : Nat → Nat → Int} (hh : high ≤ 46) (hw : wide ≤ 70) (hrk : rk < high) (hr : r < high) (hne : r ≠ rk) (hB : Can (PR n) high wide B) (hv : 0 ≤ v ∧ v < PR n) (hz : ∀ k, k < c → B rk k = 0) : ∀ (d m : Nat) (σ : St) (k : Nat), d < m → k + d = wide → c ≤ k → RW σ high wide (fun r' k' => if r' = r ∧ k' < k then (B r' k' - v * B rk k') % PR n else B r' k') → ∃ σ', l_Rows_clearColumn_34 F k3 m σ (rk : Nat) (c : Nat) (high : Nat) (wide : Nat) (PR n) (r : Nat) v (k : Nat) = k3 σ' (rk : Nat) (c : Nat) (high : Nat) (wide : Nat) (PR n) ((r : Int) + 1) ∧ RW σ' high wide (fun r' k' => if r' = r then (B r' k' - v * B rk k') % PR n else B r' k') ∧ RFr σ σ' ∧ ∀ i, gA σ' 87 i = gA σ 87 i
  | _, 0, _, _, h, _, _, _ => by omega
  | 0, m + 1, σ, k, _, hd, hck, hM => by
    simp only [l_Rows_clearColumn_34, b_Rows_clearColumn_34, bv, bs]
    rw [gd_t (by omega), if_pos (by omega)]
    refine ⟨σ, rfl, fun r' k' h1 h2 => ?_, RFr.rf, fun _ => rfl⟩
    rw [hM r' k' h1 h2]
    (try dsimp only)
    by_cases e : r' = r
    · rw [if_pos ⟨e, by omega⟩, if_pos e]
    · rw [if_neg (fun z => e z.1), if_neg e]
  | d + 1, m + 1, σ, k, hm, hd, hck, hM => by
    have hp := PR_b hn
    have e1 : gA σ (103 + Int.toNat ((r : Nat) : Int)) (Int.toNat ((k : Nat) : Int)) = B r k := by
      rw [show Int.toNat ((r : Nat) : Int) = r by omega, show Int.toNat ((k : Nat) : Int) = k by omega, hM r k hr (by omega)]
      exact if_neg (by omega)
    have e2 : gA σ (103 + Int.toNat ((rk : Nat) : Int)) (Int.toNat ((k : Nat) : Int)) = B rk k := by
      rw [show Int.toNat ((rk : Nat) : Int) = rk by omega, show Int.toNat ((k : Nat) : Int) = k by omega, hM rk k hrk (by omega)]
      exact if_neg (by omega)
    have b1 := hB r k hr (by omega)
    have b2 := hB rk k hrk (by omega)
    have hm1 := modb (a := v * B rk k) (p := PR n) (by omega)
    have hval : (B r k - v * B rk k % PR n) % PR n = (B r k - v * B rk k) % PR n := by
      rw [Int.sub_emod, em_mod, ← Int.sub_emod]
    obtain ⟨σ', k1, k2, k3', k4⟩ := W_c34 hn k3 (c := c) hh hw hrk hr hne hB hv hz d m (sA σ (103 + r) k ((B r k - v * B rk k) % PR n)) (k + 1) (by omega) (by omega) (by omega) (RW_set hM (by (try dsimp only); rw [if_pos ⟨rfl, by omega⟩]) (fun r' k' h1 h2 h3 => by
      (try dsimp only)
      by_cases e : r' = r ∧ k' < k
      · rw [if_pos e, if_pos ⟨e.1, by omega⟩]
      · rw [if_neg e, if_neg (fun z => by
          by_cases q : k' = k
          · exact h3 ⟨z.1, q⟩
          · exact e ⟨z.1, by omega⟩)]))
    refine ⟨σ', ?_, k2, RFr_set.tr k3', fun i => by rw [k4, gA_sA, if_neg (by omega)]⟩
    simp only [l_Rows_clearColumn_34, b_Rows_clearColumn_34, bv, bs, e1, e2]
    rw [gd_t (by omega), if_neg (by omega), gd_t (by omega), gd_t (by omega), gd_t (by omega), gd_t (by omega), gd_t (by omega), W_product (by omega) (by omega) (by omega), bnd_s, W_difference (by omega) (by omega) (by omega), bnd_s, gd_t (by omega), hval, show Int.toNat ((r : Nat) : Int) = r by omega, show Int.toNat ((k : Nat) : Int) = k by omega]
    exact k1
theorem W_c3 (hF : 200 ≤ F) (hn : wayN n) {high wide rk c : Nat} {B : Nat → Nat → Int} (hh : high ≤ 46) (hw : wide ≤ 70) (hrk : rk < high) (hc : c < wide) (hB : Can (PR n) high wide B) (hz : ∀ k, k < c → B rk k = 0) : ∀ (d m : Nat) (σ : St) (r : Nat), d < m → r + d = high → RW σ high wide (fun r' k' => if r' < r then cl (PR n) B rk c r' k' else B r' k') → ∃ σ', l_Rows_clearColumn_3 F m σ (rk : Nat) (c : Nat) (high : Nat) (wide : Nat) (PR n) (r : Nat) = some (0, σ') ∧ RW σ' high wide (cl (PR n) B rk c) ∧ RFr σ σ' ∧ ∀ i, gA σ' 87 i = gA σ 87 i
  | _, 0, _, _, h, _, _ => by omega
  | 0, m + 1, σ, r, _, hd, hM => by
    refine ⟨σ, ?_, fun r' k' h1 h2 => ?_, RFr.rf, fun _ => rfl⟩
    · simp only [l_Rows_clearColumn_3, b_Rows_clearColumn_3, bv, bs]
      rw [gd_t (by omega), if_pos (by omega)]
    · rw [hM r' k' h1 h2]; (try dsimp only); rw [if_pos (by omega)]
  | d + 1, m + 1, σ, r, hm, hd, hM => by
    have hp := PR_b hn
    have e1 : gA σ (103 + Int.toNat ((r : Nat) : Int)) (Int.toNat ((c : Nat) : Int)) = B r c := by
      rw [show Int.toNat ((r : Nat) : Int) = r by omega, show Int.toNat ((c : Nat) : Int) = c by omega, hM r c (by omega) hc]
      exact if_neg (by omega)
    have b1 := hB r c (by omega) hc
    have same : (r = rk ∨ B r c = 0) → RW σ high wide (fun r' k' => if r' < r + 1 then cl (PR n) B rk c r' k' else B r' k') := by
      intro h r' k' h1 h2
      rw [hM r' k' h1 h2]
      (try dsimp only)
      by_cases e : r' < r
      · rw [if_pos e, if_pos (by omega)]
      · rw [if_neg e]
        by_cases e2 : r' = r
        · rw [if_pos (by omega), e2]
          unfold cl
          by_cases e3 : r = rk
          · rw [if_pos e3]
          · have b2 := hB r k' (by omega) h2
            rw [if_neg e3, h.resolve_left e3, Int.zero_mul, Int.sub_zero, Int.emod_eq_of_lt b2.1 b2.2]
        · rw [if_neg (by omega)]
    by_cases c1 : r = rk
    · obtain ⟨σ', k1, k2⟩ := W_c3 hF hn hh hw hrk hc hB hz d m σ (r + 1) (by omega) (by omega) (same (Or.inl c1))
      refine ⟨σ', ?_, k2⟩
      simp only [l_Rows_clearColumn_3, b_Rows_clearColumn_3, bv, bs, e1]
      rw [gd_t (by omega), if_neg (by omega), gd_t (by omega), gd_t (by omega), gd_t (by omega), if_pos (by omega)]
      exact k1
    · by_cases c2 : B r c = 0
      · obtain ⟨σ', k1, k2⟩ := W_c3 hF hn hh hw hrk hc hB hz d m σ (r + 1) (by omega) (by omega) (same (Or.inr c2))
        refine ⟨σ', ?_, k2⟩
        simp only [l_Rows_clearColumn_3, b_Rows_clearColumn_3, bv, bs, e1]
        rw [gd_t (by omega), if_neg (by omega), gd_t (by omega), gd_t (by omega), gd_t (by omega), if_neg (by omega), gd_t (by omega), if_pos c2]
        exact k1
      · have hC : Can (PR n) high wide (fun r' k' => if r' < r then cl (PR n) B rk c r' k' else B r' k') := by
          intro r' k' h1 h2
          show 0 ≤ (if r' < r then cl (PR n) B rk c r' k' else B r' k') ∧ (if r' < r then cl (PR n) B rk c r' k' else B r' k') < PR n
          split
          · exact cl_can (by omega) hB r' k' h1 h2
          · exact hB r' k' h1 h2
        have hrow : ∀ k', (if rk < r then cl (PR n) B rk c rk k' else B rk k') = B rk k' := fun k' => by
          unfold cl; split <;> simp
        obtain ⟨σ1, j1, j2, j3, j4⟩ := W_c34 (F := F) hn (l_Rows_clearColumn_3 F m) (c := c) (v := B r c) hh hw hrk (show r < high by omega) c1 hC b1 (fun k hk => by rw [hrow]; exact hz k hk) (wide - c) F σ c (by omega) (by omega) (Nat.le_refl _) (fun r' k' h1 h2 => by
          rw [hM r' k' h1 h2]
          (try dsimp only)
          by_cases e : r' = r ∧ k' < c
          · rw [if_pos e, hrow, hz k' e.2, Int.mul_zero, Int.sub_zero, if_neg (by omega)]
            have b2 := hB r' k' h1 h2
            rw [Int.emod_eq_of_lt b2.1 b2.2]
          · rw [if_neg e])
        obtain ⟨σ', k1, k2, k3, k4⟩ := W_c3 hF hn hh hw hrk hc hB hz d m σ1 (r + 1) (by omega) (by omega) (fun r' k' h1 h2 => by
          rw [j2 r' k' h1 h2]
          (try dsimp only)
          by_cases e : r' = r
          · rw [if_pos e, if_pos (show r' < r + 1 by omega), hrow, if_neg (show ¬ r' < r by omega)]
            unfold cl
            rw [if_neg (show ¬ r' = rk by omega), e]
          · rw [if_neg e]
            by_cases e2 : r' < r
            · rw [if_pos e2, if_pos (by omega)]
            · rw [if_neg e2, if_neg (by omega)])
        refine ⟨σ', ?_, k2, j3.tr k3, fun i => by rw [k4, j4]⟩
        simp only [l_Rows_clearColumn_3, b_Rows_clearColumn_3, bv, bs, e1]
        rw [gd_t (by omega), if_neg (by omega), gd_t (by omega), gd_t (by omega), gd_t (by omega), if_neg (by omega), gd_t (by omega), if_neg c2]
        exact j1.trans k1
theorem elR_full {p : Int} {high : Nat} : ∀ (d c rk : Nat) (A : Nat → Nat → Int) (ld le : Nat → Int), high ≤ rk → (elR p high d c rk A ld le).1 = rk ∧ (elR p high d c rk A ld le).2.1 = A ∧ (elR p high d c rk A ld le).2.2.2 = le
  | 0, _, _, _, _, _, _ => ⟨rfl, rfl, rfl⟩
  | d + 1, c, rk, A, ld, le, h => by
    have e : elR p high (d + 1) c rk A ld le = elR p high d (c + 1) rk A (up ld c (-1)) le := by
      show (if _ then _ else _) = _
      rw [show high - rk = 0 by omega]
      exact if_pos rfl
    rw [e]
    exact elR_full d (c + 1) rk A _ le h
theorem W_r6 (hF : 200 ≤ F) (hn : wayN n) {high wide cols : Nat} (hh : high ≤ 46) (hw : wide ≤ 70) (hcw : cols ≤ wide) : ∀ (d m : Nat) (σ : St) (c rk : Nat) (A : Nat → Nat → Int) (ld le : Nat → Int), d < m → c + d = cols → rk ≤ high → RW σ high wide A → Can (PR n) high wide A → Zer high c rk A → (∀ i, i < rk → gA σ 87 i = le i) → ∃ σ', l_Rows_reduce_6 F m σ (high : Nat) (wide : Nat) (cols : Nat) (PR n) (rk : Nat) (c : Nat) = some ((((elR (PR n) high d c rk A ld le).1 : Nat) : Int), σ') ∧ RW σ' high wide (elR (PR n) high d c rk A ld le).2.1 ∧ Can (PR n) high wide (elR (PR n) high d c rk A ld le).2.1 ∧ (∀ i, i < (elR (PR n) high d c rk A ld le).1 → gA σ' 87 i = (elR (PR n) high d c rk A ld le).2.2.2 i) ∧ RFr σ σ'
  | _, 0, _, _, _, _, _, _, h, _, _, _, _, _, _ => by omega
  | 0, m + 1, σ, c, rk, A, ld, le, _, hd, hrk, hM, hA, hz, hle => by
    refine ⟨σ, ?_, hM, hA, hle, RFr.rf⟩
    simp only [l_Rows_reduce_6, b_Rows_reduce_6, bv, bs]
    rw [gd_t (by omega), if_pos (by omega)]; rfl
  | d + 1, m + 1, σ, c, rk, A, ld, le, hm, hd, hrk, hM, hA, hz, hle => by
    have hp := PR_b hn
    by_cases hfull : high ≤ rk
    · obtain ⟨f1, f2, f3⟩ := elR_full (p := PR n) (high := high) (d + 1) c rk A ld le hfull
      rw [f1, f2, f3]
      refine ⟨σ, ?_, hM, hA, hle, RFr.rf⟩
      simp only [l_Rows_reduce_6, b_Rows_reduce_6, bv, bs]
      rw [gd_t (by omega), if_neg (by omega), gd_t (by omega), if_pos (by omega)]
    have hrw := W_rowWith (F := F) hF (c := c) (rk := rk) (p := PR n) (by omega) hh hw (by omega) hM hA (by omega)
    rcases fr_b (A := A) (c := c) (high - rk) rk with h | ⟨h1, h2, h3⟩
    · have hzz : elR (PR n) high (d + 1) c rk A ld le = elR (PR n) high d (c + 1) rk A (up ld c (-1)) le := if_pos h
      rw [hzz]
      obtain ⟨σ', k1, k2⟩ := W_r6 hF hn hh hw hcw d m σ (c + 1) rk A (up ld c (-1)) le (by omega) (by omega) hrk hM hA (no_zer hz h) hle
      refine ⟨σ', ?_, k2⟩
      simp only [l_Rows_reduce_6, b_Rows_reduce_6, bv, bs]
      rw [gd_t (by omega), if_neg (by omega), gd_t (by omega), if_neg (by omega), hrw, bnd_s, h, gd_t (by decide), if_pos rfl]
      exact k1
    · obtain ⟨w, hww⟩ := Int.eq_ofNat_of_zero_le (show 0 ≤ fr A c (high - rk) rk by omega)
      have hzz : elR (PR n) high (d + 1) c rk A ld le = elR (PR n) high d (c + 1) (rk + 1) (pv (PR n) A rk w c) (up ld c rk) (up le rk c) := by
        show (if _ then _ else _) = _
        rw [if_neg (by omega), hww]; rfl
      rw [hzz]
      rw [hww] at h1 h2 h3 hrw
      have hwh : w < high := by omega
      have hrh : rk < high := by omega
      have h3' : A w c ≠ 0 := h3
      have hcb := hA w c hwh (by omega)
      have hib := INV_b hn hcb
      have hX := RW_ex (σ := σ) hrh hwh hM
      have ex1 : gA (exS σ (103 + rk) (103 + w)) (103 + Int.toNat ((rk : Nat) : Int)) (Int.toNat ((c : Nat) : Int)) = A w c := by
        rw [show Int.toNat ((rk : Nat) : Int) = rk by omega, show Int.toNat ((c : Nat) : Int) = c by omega, hX rk c hrh (by omega)]
        unfold swp
        rw [if_pos rfl]
      obtain ⟨s1, a1, a2, a3, a4⟩ := W_scale (F := F) hn (c := c) hh hw hrh hwh hA hib wide F (exS σ (103 + rk) (103 + w)) 0 (by omega) (by omega) (fun r' k' z1 z2 => by rw [hX r' k' z1 z2]; (try dsimp only); rw [if_neg (by omega)])
      have hS := sw_can (c := c) (by omega) hA hrh hwh
      obtain ⟨s2, b1, b2, b3, b4⟩ := W_c3 (F := F) hF hn hh hw hrh (show c < wide by omega) hS (fun k hk => by
        unfold sw
        rw [if_pos rfl, hz w k (by omega) hwh hk, Int.zero_mul, Int.zero_emod]) high F s1 0 (by omega) (by omega) (fun r' k' z1 z2 => by rw [a2 r' k' z1 z2]; (try dsimp only); rw [if_neg (by omega)])
      have hM2 : RW (sA s2 87 rk (c : Int)) high wide (pv (PR n) A rk w c) := fun r k z1 z2 => by
        rw [gA_sA, if_neg (by omega)]; exact b2 r k z1 z2
      have h87 : ∀ i, gA s2 87 i = gA σ 87 i := fun i => by
        rw [b4, a4]
        show gA σ (exR (103 + rk) (103 + w) 87) i = _
        unfold exR
        rw [if_neg (by omega), if_neg (by omega)]
      obtain ⟨σ', k1, k2, k3, k4, k5⟩ := W_r6 hF hn hh hw hcw d m (sA s2 87 rk (c : Int)) (c + 1) (rk + 1) (pv (PR n) A rk w c) (up ld c rk) (up le rk c) (by omega) (by omega) (by omega) hM2 (pv_can (by omega) hA hrh hwh) (pv_zer hn hA hz hrh (by omega) hwh (by omega) h3') (fun i hi => by
        rw [gA_sA]
        unfold up
        by_cases e : i = rk
        · rw [if_pos ⟨rfl, e⟩, if_pos e]
        · rw [if_neg (fun z => e z.2), if_neg e, h87]; exact hle i (by omega))
      have hlast : RFr s2 (sA s2 87 rk (c : Int)) := ⟨fun _ => rfl, fun a _ h2 i => by rw [gA_sA, if_neg (fun z => h2 z.1)]⟩
      refine ⟨σ', ?_, k2, k3, k4, ((RFr_ex.tr a3).tr b3).tr (hlast.tr k5)⟩
      simp only [l_Rows_reduce_6, b_Rows_reduce_6, bv, bs]
      rw [gd_t (by omega), if_neg (by omega), gd_t (by omega), if_neg (by omega), hrw, bnd_s, gd_t (by omega), if_neg (by omega)]
      unfold f_Rows_exchange
      rw [gd_t (by omega), bnd_s, show Int.toNat ((rk : Nat) : Int) = rk by omega, show Int.toNat ((w : Nat) : Int) = w by omega]
      rw [show Int.toNat ((rk : Nat) : Int) = rk by omega, show Int.toNat ((c : Nat) : Int) = c by omega] at ex1
      rw [gd_t (by omega), show Int.toNat ((c : Nat) : Int) = c by omega, gd_t (by omega), ex1, W_inverse (by omega) hn hcb, bnd_s]
      unfold f_Rows_scaleRow f_Rows_clearColumn
      have a1' : l_Rows_scaleRow_3 F F (exS σ (103 + rk) (103 + w)) (rk : Nat) (wide : Nat) (INV (PR n) (A w c)) (PR n) 0 = some (0, s1) := a1
      have b1' : l_Rows_clearColumn_3 F F s1 (rk : Nat) (c : Nat) (high : Nat) (wide : Nat) (PR n) 0 = some (0, s2) := b1
      rw [a1', bnd_s, b1', bnd_s, gd_t (by omega)]
      exact k1
theorem W_reduce (hF : 200 ≤ F) (hn : wayN n) {σ : St} {high wide cols : Nat} {A : Nat → Nat → Int} (hh : high ≤ 46) (hw : wide ≤ 70) (hcw : cols ≤ wide) (hM : RW σ high wide A) (hA : Can (PR n) high wide A) : ∃ σ', f_Rows_reduce F σ (high : Nat) (wide : Nat) (cols : Nat) (PR n) = some ((((el (PR n) high cols A).1 : Nat) : Int), σ') ∧ RW σ' high wide (el (PR n) high cols A).2.1 ∧ Can (PR n) high wide (el (PR n) high cols A).2.1 ∧ (∀ i, i < (el (PR n) high cols A).1 → gA σ' 87 i = (el (PR n) high cols A).2.2.2 i) ∧ RFr σ σ' :=
  W_r6 (F := F) hF hn hh hw hcw cols F σ 0 0 A (fun _ => -1) (fun _ => -1) (by omega) (by omega) (by omega) hM hA (fun r k _ _ h => by omega) (fun i hi => by omega)
end
