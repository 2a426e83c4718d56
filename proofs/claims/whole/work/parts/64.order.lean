/-! PURE PART: order, smoothed -/
/-- alike in the columns ahead of cols, and column j of the one as j' of the other -/
def Agr (high cols j j' : Nat) (A B : Nat → Nat → Int) : Prop := ∀ r, r < high → (∀ k, k < cols → A r k = B r k) ∧ A r j = B r j'
theorem pv_agr {p : Int} {high cols j j' rk w c : Nat} {A B : Nat → Nat → Int} (h : Agr high cols j j' A B) (hc : c < cols) (hrk : rk < high) (hw : w < high) : Agr high cols j j' (pv p A rk w c) (pv p B rk w c) := by
  have hs : ∀ r, r < high → (∀ k, k < cols → sw p A rk w c r k = sw p B rk w c r k) ∧ sw p A rk w c r j = sw p B rk w c r j' := by
    intro r hr
    unfold sw
    refine ⟨fun k hk => ?_, ?_⟩
    · rw [(h w hw).1 k hk, (h w hw).1 c hc, (h rk hrk).1 k hk, (h r hr).1 k hk]
    · rw [(h w hw).2, (h w hw).1 c hc, (h rk hrk).2, (h r hr).2]
  intro r hr
  unfold pv cl
  refine ⟨fun k hk => ?_, ?_⟩
  · rw [(hs r hr).1 k hk, (hs r hr).1 c hc, (hs rk hrk).1 k hk]
  · rw [(hs r hr).2, (hs r hr).1 c hc, (hs rk hrk).2]
theorem elR_agr {p : Int} {high cols j j' : Nat} : ∀ (d c rk : Nat) (A B : Nat → Nat → Int) (ld le : Nat → Int), c + d ≤ cols → Agr high cols j j' A B → (elR p high d c rk A ld le).1 = (elR p high d c rk B ld le).1 ∧ (elR p high d c rk A ld le).2.2 = (elR p high d c rk B ld le).2.2 ∧ Agr high cols j j' (elR p high d c rk A ld le).2.1 (elR p high d c rk B ld le).2.1
  | 0, _, _, _, _, _, _, _, h => ⟨rfl, rfl, h⟩
  | d + 1, c, rk, A, B, ld, le, hd, h => by
    have e : fr A c (high - rk) rk = fr B c (high - rk) rk := fr_congr _ _ (fun k h1 h2 => (h k (by omega)).1 c (by omega))
    unfold elR
    rcases fr_b (A := A) (c := c) (high - rk) rk with g | g
    · rw [← e, if_pos g, if_pos g]
      exact elR_agr d (c + 1) rk A B _ le (by omega) h
    · rw [← e, if_neg (by omega), if_neg (by omega)]
      exact elR_agr d (c + 1) (rk + 1) _ _ _ _ (by omega) (pv_agr h (by omega) (by omega) (by omega))
theorem elR_rk {p : Int} {high : Nat} : ∀ (d c rk : Nat) (A : Nat → Nat → Int) (ld le : Nat → Int), rk ≤ high → rk ≤ (elR p high d c rk A ld le).1 ∧ (elR p high d c rk A ld le).1 ≤ high ∧ (elR p high d c rk A ld le).1 ≤ rk + d
  | 0, _, rk, _, _, _, h => ⟨Nat.le_refl _, h, Nat.le_refl _⟩
  | d + 1, c, rk, A, ld, le, h => by
    unfold elR
    rcases fr_b (A := A) (c := c) (high - rk) rk with g | g
    · rw [if_pos g]
      have := elR_rk (p := p) (high := high) d (c + 1) rk A (up ld c (-1)) le h
      omega
    · rw [if_neg (by omega)]
      have := elR_rk (p := p) (high := high) d (c + 1) (rk + 1) (pv p A rk (fr A c (high - rk) rk).toNat c) (up ld c rk) (up le rk c) (by omega)
      omega
theorem el_rk {p : Int} {high cols : Nat} {A : Nat → Nat → Int} : (el p high cols A).1 ≤ high ∧ (el p high cols A).1 ≤ cols := by
  have := elR_rk (p := p) (high := high) cols 0 0 A (fun _ => -1) (fun _ => -1) (by omega)
  unfold el
  omega
/-- COVER smoothed by n -/
def smS (s : Nat → Int) (n : Nat) (k l : Nat) : Int := sumS (fun x => coverS s ((k : Int) + (x : Int)) ((l : Int) + (x : Int))) ((s 1).toNat + 1 - n) % PR (s 0)
theorem smS_H {s : Nat → Int} (hI : MI s) (k l : Nat) : smS s (s 1).toNat k l = coverS s k l := by
  unfold smS
  rw [show (s 1).toNat + 1 - (s 1).toNat = 0 + 1 by omega, sumS, sumS, Int.zero_add, show (k : Int) + ((0 : Nat) : Int) = k by omega, show (l : Int) + ((0 : Nat) : Int) = l by omega]
  have := coverS_b hI k l
  exact Int.emod_eq_of_lt this.1 this.2
theorem smS_b {s : Nat → Int} (hI : MI s) (n k l : Nat) : 0 ≤ smS s n k l ∧ smS s n k l < PR (s 0) := modb (by have := PR_b hI.1; omega)
/-- filled up to row i, column j -/
def PW2 (σ : St) (wide i j : Nat) (Q : Nat → Nat → Int) : Prop := ∀ r k, k < wide → (r < i ∨ (r = i ∧ k < j)) → gA σ (103 + r) k = Q r k
def PM (σ : St) (wide i j : Nat) (Q : Nat → Nat → Int) : Prop := ∀ r k, k < wide → (r < i ∨ (r = i ∧ k < j)) → gA σ 7 (wide * r + k) = Q r k
theorem PW2_set {σ : St} {wide i j : Nat} {Q : Nat → Nat → Int} {v : Int} (h : PW2 σ wide i j Q) (hv : v = Q i j) : PW2 (sA σ (103 + i) j v) wide i (j + 1) Q := by
  intro r k hk hr
  rw [gA_sA]
  by_cases e : r = i ∧ k = j
  · rw [if_pos ⟨by omega, e.2⟩, hv, e.1, e.2]
  · rw [if_neg (fun z => e ⟨by omega, z.2⟩)]; exact h r k hk (by omega)
theorem PM_set {σ : St} {wide i j : Nat} {Q : Nat → Nat → Int} {v : Int} (h : PM σ wide i j Q) (hj : j < wide) (hv : v = Q i j) : PM (sA σ 7 (wide * i + j) v) wide i (j + 1) Q := by
  intro r k hk hr
  rw [gA_sA]
  by_cases e : r = i ∧ k = j
  · rw [if_pos ⟨rfl, by rw [e.1, e.2]⟩, hv, e.1, e.2]
  · rw [if_neg (fun z => e (ix_inj hk hj z.2))]; exact h r k hk (by omega)
theorem PW2_row {σ : St} {wide i : Nat} {Q : Nat → Nat → Int} (h : PW2 σ wide i wide Q) : PW2 σ wide (i + 1) 0 Q := fun r k hk hr => h r k hk (by omega)
theorem PM_row {σ : St} {wide i : Nat} {Q : Nat → Nat → Int} (h : PM σ wide i wide Q) : PM σ wide (i + 1) 0 Q := fun r k hk hr => h r k hk (by omega)
section
variable {F : Nat} {s : Nat → Int}
theorem W_f33 (hF : 100 ≤ F) (hI : MI s) (k13 : St → Int → Int → Int → Option (Int × St)) (k21 : St → Int → Int → Int → Int → Option (Int × St)) {n i j : Nat} (hn : n ≤ (s 1).toNat) (hi : i < n) (hj : j < n) : ∀ (d m : Nat) (σ : St) (x : Nat), WV σ s → d < m → x + d = (s 1).toNat + 1 - n → l_W_fillCover_33 F k13 k21 m σ (n : Nat) (PR (s 0)) (i : Nat) (j : Nat) (sumS (fun x => coverS s ((i : Int) + (x : Int)) ((j : Int) + (x : Int))) x % PR (s 0)) (x : Nat) = k21 (sA σ (103 + i) j (smS s n i j)) (n : Nat) (PR (s 0)) (i : Nat) ((j : Int) + 1)
  | _, 0, _, _, _, h, _ => by omega
  | 0, m + 1, σ, x, hV, _, hd => by
    have i1 := hI.2.1
    have v1 := hV.2.1
    simp only [l_W_fillCover_33, b_W_fillCover_33, bv, bs]
    rw [gd_t (by omega), if_pos (by omega), gd_t (by omega), gd_t (by omega), show Int.toNat ((i : Nat) : Int) = i by omega, show Int.toNat ((j : Nat) : Int) = j by omega]
    unfold smS
    rw [show x = (s 1).toNat + 1 - n by omega]
  | d + 1, m + 1, σ, x, hV, hm, hd => by
    have i1 := hI.2.1
    have v1 := hV.2.1
    have hp := PR_b hI.1
    have hc := coverS_b hI ((i : Int) + (x : Int)) ((j : Int) + (x : Int))
    have hmm := modb (a := sumS (fun x => coverS s ((i : Int) + (x : Int)) ((j : Int) + (x : Int))) x) (p := PR (s 0)) (by omega)
    have ih := W_f33 hF hI k13 k21 hn hi hj d m σ (x + 1) hV (by omega) (by omega)
    rw [sumS] at ih
    simp only [l_W_fillCover_33, b_W_fillCover_33, bv, bs]
    rw [gd_t (by omega), if_neg (by omega), W_coverOf (by omega) hI hV (by omega) (by omega), bnd_s, gd_t ⟨by omega, by omega, by omega⟩, tmE (by omega), ← ih]
    congr 1
    exact em_add em_mod rfl
theorem W_f21 (hF : 100 ≤ F) (hI : MI s) (k13 : St → Int → Int → Int → Option (Int × St)) {n i : Nat} (hn : n ≤ (s 1).toNat) (hi : i < n) : ∀ (d m : Nat) (σ : St) (j : Nat), WV σ s → d < m → j + d = n → PW2 σ n i j (smS s n) → ∃ σ', l_W_fillCover_21 F k13 m σ (n : Nat) (PR (s 0)) (i : Nat) (j : Nat) = k13 σ' (n : Nat) (PR (s 0)) ((i : Int) + 1) ∧ PW2 σ' n (i + 1) 0 (smS s n) ∧ RFr σ σ'
  | _, 0, _, _, _, h, _, _ => by omega
  | 0, m + 1, σ, j, hV, _, hd, hP => by
    have i1 := hI.2.1
    refine ⟨σ, ?_, PW2_row (by rw [show j = n by omega] at hP; exact hP), RFr.rf⟩
    simp only [l_W_fillCover_21, b_W_fillCover_21, bv, bs]
    rw [gd_t (by omega), if_pos (by omega)]
  | d + 1, m + 1, σ, j, hV, hm, hd, hP => by
    have i1 := hI.2.1
    have h33 := W_f33 (F := F) hF hI k13 (l_W_fillCover_21 F k13 m) hn hi (show j < n by omega) ((s 1).toNat + 1 - n) F σ 0 hV (by omega) (by omega)
    have hfr : RFr σ (sA σ (103 + i) j (smS s n i j)) := RFr_set
    obtain ⟨σ', k1, k2, k3⟩ := W_f21 hF hI k13 hn hi d m (sA σ (103 + i) j (smS s n i j)) (j + 1) (WV_fr hV hfr.W) (by omega) (by omega) (PW2_set hP rfl)
    refine ⟨σ', ?_, k2, hfr.tr k3⟩
    simp only [l_W_fillCover_21, b_W_fillCover_21, bv, bs]
    rw [gd_t (by omega), if_neg (by omega)]
    exact h33.trans k1
theorem W_f13 (hF : 100 ≤ F) (hI : MI s) {n : Nat} (hn : n ≤ (s 1).toNat) : ∀ (d m : Nat) (σ : St) (i : Nat), WV σ s → d < m → i + d = n → PW2 σ n i 0 (smS s n) → ∃ σ', l_W_fillCover_13 F m σ (n : Nat) (PR (s 0)) (i : Nat) = some (0, σ') ∧ PW2 σ' n n 0 (smS s n) ∧ RFr σ σ'
  | _, 0, _, _, _, h, _, _ => by omega
  | 0, m + 1, σ, i, hV, _, hd, hP => by
    have i1 := hI.2.1
    refine ⟨σ, ?_, by rw [show i = n by omega] at hP; exact hP, RFr.rf⟩
    simp only [l_W_fillCover_13, b_W_fillCover_13, bv, bs]
    rw [gd_t (by omega), if_pos (by omega)]
  | d + 1, m + 1, σ, i, hV, hm, hd, hP => by
    have i1 := hI.2.1
    obtain ⟨s1, j1, j2, j3⟩ := W_f21 (F := F) hF hI (l_W_fillCover_13 F m) hn (show i < n by omega) n F σ 0 hV (by omega) (by omega) hP
    obtain ⟨σ', k1, k2, k3⟩ := W_f13 hF hI hn d m s1 (i + 1) (WV_fr hV j3.W) (by omega) (by omega) j2
    refine ⟨σ', ?_, k2, j3.tr k3⟩
    simp only [l_W_fillCover_13, b_W_fillCover_13, bv, bs]
    rw [gd_t (by omega), if_neg (by omega)]
    exact j1.trans k1
theorem W_fillCover (hF : 100 ≤ F) (hI : MI s) {σ : St} (hV : WV σ s) {n : Nat} (hn : n ≤ (s 1).toNat) : ∃ σ', f_W_fillCover F σ (n : Nat) = some (0, σ') ∧ RW σ' n n (smS s n) ∧ RFr σ σ' := by
  have i1 := hI.2.1
  obtain ⟨σ', k1, k2, k3⟩ := W_f13 (F := F) hF hI hn n F σ 0 hV (by omega) (by omega) (fun r k _ h => by omega)
  refine ⟨σ', ?_, fun r k hr hk => k2 r k hk (by omega), k3⟩
  unfold f_W_fillCover
  rw [hV.1.2.1]
  exact k1
/-- the model's rows of the cover -/
def QM (s : Nat → Int) (n : Nat) : Nat → Nat → Int := fun r k => if k < n then smS s n r k else 0
theorem M_c32 (hF : 100 ≤ F) (hI : MI s) (k22 : St → Int → Option (Int × St)) {i : Nat} (hi : i < (s 1).toNat) : ∀ (d m : Nat) (σ : St) (j : Nat), MV σ s → gF σ 25 = ((s 1).toNat : Int) + 1 → gF σ 26 = ((s 1).toNat : Int) → d < m → j + d = (s 1).toNat → PM σ ((s 1).toNat + 1) i j (QM s (s 1).toNat) → ∃ σ', l_M_covers_32 F k22 m σ (i : Nat) (j : Nat) = k22 σ' ((i : Int) + 1) ∧ PM σ' ((s 1).toNat + 1) (i + 1) 0 (QM s (s 1).toNat) ∧ (∀ q, gF σ' q = gF σ q) ∧ ∀ a, a ≠ 7 → ∀ i, gA σ' a i = gA σ a i
  | _, 0, _, _, _, _, _, h, _, _ => by omega
  | 0, m + 1, σ, j, hV, h25, h26, _, hd, hP => by
    have i1 := hI.2.1
    have hj : j = (s 1).toNat := by omega
    subst hj
    have e1 : ((s 1).toNat : Int) + 1 = (((s 1).toNat + 1 : Nat) : Int) := by omega
    have lt := ixE_lt (wide := (s 1).toNat + 1) (high := 10) (r := i) (k := (s 1).toNat) (by omega) (by omega)
    have t1 : Int.toNat ((((s 1).toNat + 1 : Nat) : Int) * (i : Int) + ((s 1).toNat : Int)) = ((s 1).toNat + 1) * i + (s 1).toNat := by rw [ix_c]; omega
    have g1 : inb ((((s 1).toNat + 1 : Nat) : Int) * (i : Int) + ((s 1).toNat : Int)) 2800 := by rw [ix_c]; omega
    refine ⟨sA σ 7 (((s 1).toNat + 1) * i + (s 1).toNat) 0, ?_, PM_row (PM_set hP (by omega) (by unfold QM; rw [if_neg (by omega)])), fun _ => rfl, fun a ha i => by rw [gA_sA, if_neg (fun z => ha z.1)]⟩
    simp only [l_M_covers_32, b_M_covers_32, bv, bs]
    rw [gd_t (by omega), if_pos (by omega)]
    simp only [h25, h26, e1, t1]
    rw [gd_t g1]
  | d + 1, m + 1, σ, j, hV, h25, h26, hm, hd, hP => by
    have i1 := hI.2.1
    have e1 : ((s 1).toNat : Int) + 1 = (((s 1).toNat + 1 : Nat) : Int) := by omega
    have lt := ixE_lt (wide := (s 1).toNat + 1) (high := 10) (r := i) (k := j) (by omega) (by omega)
    have t1 : Int.toNat ((((s 1).toNat + 1 : Nat) : Int) * (i : Int) + (j : Int)) = ((s 1).toNat + 1) * i + j := by rw [ix_c]; omega
    have g1 : inb ((((s 1).toNat + 1 : Nat) : Int) * (i : Int) + (j : Int)) 2800 := by rw [ix_c]; omega
    have hval : coverS s i j = QM s (s 1).toNat i j := by unfold QM; rw [if_pos (by omega), smS_H hI]
    have hfr : MFr σ (sA σ 7 (((s 1).toNat + 1) * i + j) (coverS s i j)) := MFr.rf.sA rfl
    obtain ⟨σ', k1, k2, k3, k4⟩ := M_c32 hF hI k22 hi d m _ (j + 1) (MV_fr hV hfr) h25 h26 (by omega) (by omega) (PM_set hP (by omega) hval)
    refine ⟨σ', ?_, k2, k3, fun a ha i => by rw [k4 a ha, gA_sA, if_neg (fun z => ha z.1)]⟩
    simp only [l_M_covers_32, b_M_covers_32, bv, bs]
    rw [gd_t (by omega), if_neg (by omega), M_coverOf (by omega) hI hV (by omega) (by omega), bnd_s]
    simp only [h25, e1, t1]
    rw [gd_t g1]
    exact k1
theorem M_c22 (hF : 100 ≤ F) (hI : MI s) : ∀ (d m : Nat) (σ : St) (i : Nat), MV σ s → gF σ 25 = ((s 1).toNat : Int) + 1 → gF σ 26 = ((s 1).toNat : Int) → d < m → i + d = (s 1).toNat → PM σ ((s 1).toNat + 1) i 0 (QM s (s 1).toNat) → ∃ σ', l_M_covers_22 F m σ (i : Nat) = some (0, σ') ∧ PM σ' ((s 1).toNat + 1) (s 1).toNat 0 (QM s (s 1).toNat) ∧ (∀ q, gF σ' q = gF σ q) ∧ ∀ a, a ≠ 7 → ∀ i, gA σ' a i = gA σ a i
  | _, 0, _, _, _, _, _, h, _, _ => by omega
  | 0, m + 1, σ, i, hV, h25, h26, _, hd, hP => by
    have i1 := hI.2.1
    refine ⟨σ, ?_, by rw [show i = (s 1).toNat by omega] at hP; exact hP, fun _ => rfl, fun _ _ _ => rfl⟩
    simp only [l_M_covers_22, b_M_covers_22, bv, bs]
    rw [gd_t (by omega), if_pos (by omega)]
  | d + 1, m + 1, σ, i, hV, h25, h26, hm, hd, hP => by
    have i1 := hI.2.1
    obtain ⟨s1, j1, j2, j3, j4⟩ := M_c32 (F := F) hF hI (l_M_covers_22 F m) (show i < (s 1).toNat by omega) (s 1).toNat F σ 0 hV h25 h26 (by omega) (by omega) hP
    have hfr : MFr σ s1 := ⟨fun q _ => j3 q, fun a ha i => j4 a (by intro e; subst e; cases ha) i⟩
    obtain ⟨σ', k1, k2, k3, k4⟩ := M_c22 hF hI d m s1 (i + 1) (MV_fr hV hfr) (by rw [j3]; exact h25) (by rw [j3]; exact h26) (by omega) (by omega) j2
    refine ⟨σ', ?_, k2, fun q => by rw [k3, j3], fun a ha i => by rw [k4 a ha, j4 a ha]⟩
    simp only [l_M_covers_22, b_M_covers_22, bv, bs]
    rw [gd_t (by omega), if_neg (by omega)]
    exact j1.trans k1
theorem QM_can (hI : MI s) {n high wide : Nat} : Can (PR (s 0)) high wide (QM s n) := by
  intro r k _ _
  have hp := PR_b hI.1
  unfold QM
  split
  · exact smS_b hI n r k
  · omega
theorem M_covers (hF : 100 ≤ F) (hI : MI s) {σ : St} (hV : MV σ s) : ∃ σ', f_M_covers F σ = some (0, σ') ∧ MB σ' (s 1).toNat ((s 1).toNat + 1) (QM s (s 1).toNat) ∧ gF σ' 25 = (((s 1).toNat + 1 : Nat) : Int) ∧ gF σ' 26 = ((s 1).toNat : Int) ∧ (∀ q, q ≠ 25 → q ≠ 26 → gF σ' q = gF σ q) ∧ ∀ a, a ≠ 7 → ∀ i, gA σ' a i = gA σ a i := by
  have i1 := hI.2.1
  have v1 := hV.1 1
  have e1 : s 1 = ((s 1).toNat : Int) := by omega
  obtain ⟨σ', k1, k2, k3, k4⟩ := M_c22 (F := F) hF hI (s 1).toNat F (sF (sF σ 26 (s 1)) 25 (s 1 + 1)) 0 hV (by rw [gF_eq]; omega) (by rw [gF_sF, if_neg (by omega), gF_eq]; omega) (by omega) (by omega) (fun r k _ h => by omega)
  refine ⟨σ', ?_, fun r k hr hk => k2 r k hk (by omega), by rw [k3, gF_eq]; omega, by rw [k3, gF_sF, if_neg (by omega), gF_eq]; omega, fun q h1 h2 => by rw [k3, gF_sF, if_neg h1, gF_sF, if_neg h2], fun a ha i => k4 a ha i⟩
  unfold f_M_covers
  simp only [bs, Int.reduceToNat, v1, gF_eq]
  rw [gd_t (by decide)]
  exact k1
theorem M_s32 (hF : 100 ≤ F) (hI : MI s) (k14 : St → Int → Int → Option (Int × St)) (k21 : St → Int → Int → Int → Option (Int × St)) {n i j : Nat} (hn : n ≤ (s 1).toNat) (hi : i < n) (hj : j < n) {σ : St} (hV : MV σ s) (h25 : gF σ 25 = ((n + 1 : Nat) : Int)) : ∀ (d m : Nat) (x : Nat) (acc : Int), d < m → x + d = (s 1).toNat + 1 - n → acc = sumS (fun x => coverS s ((i : Int) + (x : Int)) ((j : Int) + (x : Int))) x → (0 ≤ acc ∧ acc ≤ 1500 * x) → l_M_smooth_32 F k14 k21 m σ (n : Nat) (i : Nat) (j : Nat) acc (x : Nat) = k21 (sA σ 7 ((n + 1) * i + j) (smS s n i j)) (n : Nat) (i : Nat) ((j : Int) + 1)
  | _, 0, _, _, h, _, _, _ => by omega
  | 0, m + 1, x, acc, _, hd, ha, hb => by
    have i1 := hI.2.1
    have v1 := hV.1 1
    have hp := PR_b hI.1
    have lt := ixE_lt (wide := n + 1) (high := 10) (r := i) (k := j) (by omega) (by omega)
    have t1 : Int.toNat (((n + 1 : Nat) : Int) * (i : Int) + (j : Int)) = (n + 1) * i + j := by rw [ix_c]; omega
    have g1 : inb (((n + 1 : Nat) : Int) * (i : Int) + (j : Int)) 2800 := by rw [ix_c]; omega
    simp only [l_M_smooth_32, b_M_smooth_32, bv, bs, Int.reduceToNat]
    rw [gd_t (by decide), gd_t (by omega), if_pos (by omega), hV.2.1, gd_t ⟨by omega, by omega, by omega⟩]
    simp only [h25, t1]
    rw [gd_t g1, tmE hb.1, ha]
    unfold smS
    rw [show x = (s 1).toNat + 1 - n by omega]
  | d + 1, m + 1, x, acc, hm, hd, ha, hb => by
    have i1 := hI.2.1
    have v1 := hV.1 1
    have hp := PR_b hI.1
    have hc := coverS_b hI ((i : Int) + (x : Int)) ((j : Int) + (x : Int))
    simp only [l_M_smooth_32, b_M_smooth_32, bv, bs, Int.reduceToNat]
    rw [gd_t (by decide), gd_t (by omega), if_neg (by omega), M_coverOf (by omega) hI hV (by omega) (by omega), bnd_s]
    exact M_s32 hF hI k14 k21 hn hi hj hV h25 d m (x + 1) _ (by omega) (by omega) (by rw [sumS, ha]) (by omega)
theorem M_s21 (hF : 100 ≤ F) (hI : MI s) (k14 : St → Int → Int → Option (Int × St)) {n i : Nat} (hn : n ≤ (s 1).toNat) (hi : i < n) : ∀ (d m : Nat) (σ : St) (j : Nat), MV σ s → gF σ 25 = ((n + 1 : Nat) : Int) → d < m → j + d = n → PM σ (n + 1) i j (QM s n) → ∃ σ', l_M_smooth_21 F k14 m σ (n : Nat) (i : Nat) (j : Nat) = k14 σ' (n : Nat) ((i : Int) + 1) ∧ PM σ' (n + 1) (i + 1) 0 (QM s n) ∧ (∀ q, gF σ' q = gF σ q) ∧ ∀ a, a ≠ 7 → ∀ i, gA σ' a i = gA σ a i
  | _, 0, _, _, _, _, h, _, _ => by omega
  | 0, m + 1, σ, j, hV, h25, _, hd, hP => by
    have i1 := hI.2.1
    have hj : j = n := by omega
    subst hj
    have lt := ixE_lt (wide := j + 1) (high := 10) (r := i) (k := j) (by omega) (by omega)
    have t1 : Int.toNat (((j + 1 : Nat) : Int) * (i : Int) + (j : Int)) = (j + 1) * i + j := by rw [ix_c]; omega
    have g1 : inb (((j + 1 : Nat) : Int) * (i : Int) + (j : Int)) 2800 := by rw [ix_c]; omega
    refine ⟨sA σ 7 ((j + 1) * i + j) 0, ?_, PM_row (PM_set hP (by omega) (by unfold QM; rw [if_neg (by omega)])), fun _ => rfl, fun a ha i => by rw [gA_sA, if_neg (fun z => ha z.1)]⟩
    simp only [l_M_smooth_21, b_M_smooth_21, bv, bs]
    rw [gd_t (by omega), if_pos (by omega)]
    simp only [h25, t1]
    rw [gd_t g1]
  | d + 1, m + 1, σ, j, hV, h25, hm, hd, hP => by
    have i1 := hI.2.1
    have h32 := M_s32 (F := F) hF hI k14 (l_M_smooth_21 F k14 m) hn hi (show j < n by omega) hV h25 ((s 1).toNat + 1 - n) F 0 0 (by omega) (by omega) rfl (by omega)
    have hfr : MFr σ (sA σ 7 ((n + 1) * i + j) (smS s n i j)) := MFr.rf.sA rfl
    obtain ⟨σ', k1, k2, k3, k4⟩ := M_s21 hF hI k14 hn hi d m _ (j + 1) (MV_fr hV hfr) h25 (by omega) (by omega) (PM_set hP (by omega) (by unfold QM; rw [if_pos (by omega)]))
    refine ⟨σ', ?_, k2, k3, fun a ha i => by rw [k4 a ha, gA_sA, if_neg (fun z => ha z.1)]⟩
    simp only [l_M_smooth_21, b_M_smooth_21, bv, bs]
    rw [gd_t (by omega), if_neg (by omega)]
    exact h32.trans k1
theorem M_s14' (hF : 100 ≤ F) (hI : MI s) {n : Nat} (hn : n ≤ (s 1).toNat) : ∀ (d m : Nat) (σ : St) (i : Nat), MV σ s → gF σ 25 = ((n + 1 : Nat) : Int) → d < m → i + d = n → PM σ (n + 1) i 0 (QM s n) → ∃ σ', l_M_smooth_14 F m σ (n : Nat) (i : Nat) = some (0, σ') ∧ PM σ' (n + 1) n 0 (QM s n) ∧ (∀ q, gF σ' q = gF σ q) ∧ ∀ a, a ≠ 7 → ∀ i, gA σ' a i = gA σ a i
  | _, 0, _, _, _, _, h, _, _ => by omega
  | 0, m + 1, σ, i, hV, h25, _, hd, hP => by
    have i1 := hI.2.1
    refine ⟨σ, ?_, by rw [show i = n by omega] at hP; exact hP, fun _ => rfl, fun _ _ _ => rfl⟩
    simp only [l_M_smooth_14, b_M_smooth_14, bv, bs]
    rw [gd_t (by omega), if_pos (by omega)]
  | d + 1, m + 1, σ, i, hV, h25, hm, hd, hP => by
    have i1 := hI.2.1
    obtain ⟨s1, j1, j2, j3, j4⟩ := M_s21 (F := F) hF hI (l_M_smooth_14 F m) hn (show i < n by omega) n F σ 0 hV h25 (by omega) (by omega) hP
    have hfr : MFr σ s1 := ⟨fun q _ => j3 q, fun a ha i => j4 a (by intro e; subst e; cases ha) i⟩
    obtain ⟨σ', k1, k2, k3, k4⟩ := M_s14' hF hI hn d m s1 (i + 1) (MV_fr hV hfr) (by rw [j3]; exact h25) (by omega) (by omega) j2
    refine ⟨σ', ?_, k2, fun q => by rw [k3, j3], fun a ha i => by rw [k4 a ha, j4 a ha]⟩
    simp only [l_M_smooth_14, b_M_smooth_14, bv, bs]
    rw [gd_t (by omega), if_neg (by omega)]
    exact j1.trans k1
theorem M_smooth (hF : 100 ≤ F) (hI : MI s) {σ : St} (hV : MV σ s) {n : Nat} (hn : n ≤ (s 1).toNat) : ∃ σ', f_M_smooth F σ (n : Nat) = some (0, σ') ∧ MB σ' n (n + 1) (QM s n) ∧ gF σ' 25 = ((n + 1 : Nat) : Int) ∧ gF σ' 26 = (n : Int) ∧ (∀ q, q ≠ 25 → q ≠ 26 → gF σ' q = gF σ q) ∧ ∀ a, a ≠ 7 → ∀ i, gA σ' a i = gA σ a i := by
  have i1 := hI.2.1
  obtain ⟨σ', k1, k2, k3, k4⟩ := M_s14' (F := F) hF hI hn n F (sF (sF σ 26 (n : Int)) 25 ((n : Int) + 1)) 0 hV (by rw [gF_eq]; omega) (by omega) (by omega) (fun r k _ h => by omega)
  refine ⟨σ', k1, fun r k hr hk => k2 r k hk (by omega), by rw [k3, gF_eq]; omega, by rw [k3, gF_sF, if_neg (by omega), gF_eq], fun q h1 h2 => by rw [k3, gF_sF, if_neg h1, gF_sF, if_neg h2], fun a ha i => k4 a ha i⟩
/-- the ranks are one -/
theorem rank_eq (hI : MI s) {n : Nat} : (el (PR (s 0)) n n (smS s n)).1 = (el (PR (s 0)) n n (QM s n)).1 := by
  by_cases hn : n = 0
  · subst hn; rfl
  · exact (elR_agr (cols := n) (j := 0) (j' := 0) n 0 0 (smS s n) (QM s n) _ _ (by omega) (fun r _ => ⟨fun k hk => by unfold QM; rw [if_pos hk], by unfold QM; rw [if_pos (by omega)]⟩)).1
theorem s_order (hF : 3000 ≤ F) : Sp_order F RR := by
  intro x σ1 σ2 hR
  obtain ⟨hI, hW, hV⟩ := RR_view hR
  have i1 := hI.2.1
  have w1 := hW.2.1
  refine sp1 ?_
  have hz : RR x σ1 (sF σ2 0 0) := RR_fr hR WFr.rf (MFr.sF rfl MFr.rf)
  have hV0 := MV_0 (v := 0) hV
  obtain ⟨a1, b1, c1, d1⟩ := W_fillCover (F := F) (by omega) hI hW (n := (svw σ2 1).toNat) (Nat.le_refl _)
  obtain ⟨a2, b2, c2, d2, e2, f2⟩ := W_reduce (F := F) (by omega) hI.1 (cols := (svw σ2 1).toNat) (by omega) (by omega) (Nat.le_refl _) c1 (fun r k _ _ => smS_b hI _ r k)
  obtain ⟨m1, n1, o1, p1, q1, r1, t1⟩ := M_covers (F := F) (by omega) hI hV0
  have hfr1 : MFr (sF σ2 0 0) m1 := ⟨fun q hq => r1 q (by intro e; subst e; cases hq) (by intro e; subst e; cases hq), fun a ha i => t1 a (by intro e; subst e; cases ha) i⟩
  have hle : ((svw σ2 1).toNat + 1) * (svw σ2 1).toNat ≤ 11 * 10 := Nat.mul_le_mul (by omega) (by omega)
  obtain ⟨m2, n2, o2, p2, q2, r2, t2, u2⟩ := M_steps (F := F) hF hI.1 (σ := m1) (cols := (svw σ2 1).toNat) (by omega) (by omega) (by omega) (by omega) p1 q1 (MV_fr hV0 hfr1).2.1 o1 (QM_can hI)
  unfold f_W_order f_M_order
  refine ev_bv ?_
  rw [w1, show svw σ2 1 = ((svw σ2 1).toNat : Int) by omega]
  refine ev_be b1 ?_
  rw [show gF a1 1473 = PR (svw σ2 0) from (WV_fr hW d1.W).1.2.1]
  refine ev_be b2 (ev_s (ev_bs (ev_be n1 ?_)))
  rw [q1]
  refine ev_be n2 (ev_s ⟨by rw [q2, rank_eq hI], ?_⟩)
  refine RR_fr hz (d1.W.tr f2.W) (hfr1.tr ⟨fun q hq => t2 q (by intro e; subst e; cases hq), fun a ha i => u2 a (by intro e; subst e; cases ha) (by intro e; subst e; cases ha) i⟩)
theorem W_canS (hF : 100 ≤ F) (hI : MI s) {σ : St} (hV : WV σ s) {n : Int} (hn : rng n) : f_W_canSmooth F σ n = some (bi (decide (1 ≤ n ∧ n ≤ s 1) && evS s), σ) := by
  have i1 := hI.2.1
  have w1 := hV.2.1
  unfold f_W_canSmooth
  rw [gd_t (by omega)]
  by_cases c1 : n < 1
  · rw [if_pos c1, decide_eq_false (by omega)]; rfl
  rw [if_neg c1, gd_t (by omega)]
  by_cases c2 : gF σ 5059 < n
  · rw [if_pos c2, decide_eq_false (by omega)]; rfl
  rw [if_neg c2, W_even hF hI hV, bnd_s, decide_eq_true (by omega)]
  cases evS s <;> rfl
theorem M_isS (hF : 100 ≤ F) (hI : MI s) {σ : St} (hV : MV σ s) {n : Int} (hn : rng n) : f_M_isSmooth F σ n = some (bi (decide (1 ≤ n ∧ n ≤ s 1) && evS s), σ) := by
  have i1 := hI.2.1
  have v1 := hV.1 1
  apply ev_eq
  unfold f_M_isSmooth
  simp only [Int.reduceToNat]
  refine ev_g (by decide) (ev_isIn (by omega) (fun c => ?_) (fun c => ?_))
  · refine ev_g (by decide) ?_
    rw [if_neg (by decide)]
    refine ev_be (M_even hF hI hV) ?_
    rw [decide_eq_true (by omega)]
    cases evS s
    · exact ev_g (by decide) (by rw [if_pos (by decide)]; exact ev_s rfl)
    · exact ev_g (by decide) (by rw [if_neg (by decide)]; exact ev_s rfl)
  · refine ev_g (by decide) ?_
    rw [if_pos rfl, decide_eq_false (by omega)]
    exact ev_s rfl
theorem s_smoothed (hF : 3000 ≤ F) : Sp_smoothed F RR := by
  intro x σ1 σ2 p0 hR h0
  obtain ⟨hI, hW, hV⟩ := RR_view hR
  have i1 := hI.2.1
  refine sp1 ?_
  have hz : RR x σ1 (sF σ2 0 0) := RR_fr hR WFr.rf (MFr.sF rfl MFr.rf)
  have hV0 := MV_0 (v := 0) hV
  unfold f_W_smoothed f_M_smoothed
  refine ev_be (W_canS (by omega) hI hW h0) ?_
  cases c : (decide (1 ≤ p0 ∧ p0 ≤ svw σ2 1) && evS (svw σ2)) with
  | false =>
    refine ev_g (by decide) ?_
    rw [if_pos (by decide)]
    refine ev_s (ev_bs (ev_be (M_isS (by omega) hI hV0 h0) ?_))
    rw [c]
    refine ev_g (by decide) ?_
    rw [if_pos (by decide)]
    exact ev_s ⟨rfl, hz⟩
  | true =>
    have hc : 1 ≤ p0 ∧ p0 ≤ svw σ2 1 := by
      rw [Bool.and_eq_true] at c
      exact of_decide_eq_true c.1
    obtain ⟨n, hn⟩ := Int.eq_ofNat_of_zero_le (show 0 ≤ p0 by omega)
    subst hn
    obtain ⟨a1, b1, c1, d1⟩ := W_fillCover (F := F) (by omega) hI hW (n := n) (by omega)
    obtain ⟨a2, b2, c2, d2, e2, f2⟩ := W_reduce (F := F) (by omega) hI.1 (cols := n) (by omega) (by omega) (Nat.le_refl _) c1 (fun r k _ _ => smS_b hI _ r k)
    obtain ⟨m1, n1, o1, p1, q1, r1, t1⟩ := M_smooth (F := F) (by omega) hI hV0 (n := n) (by omega)
    have hfr1 : MFr (sF σ2 0 0) m1 := ⟨fun q hq => r1 q (by intro e; subst e; cases hq) (by intro e; subst e; cases hq), fun a ha i => t1 a (by intro e; subst e; cases ha) i⟩
    have hle : (n + 1) * n ≤ 11 * 10 := Nat.mul_le_mul (by omega) (by omega)
    obtain ⟨m2, n2, o2, p2, q2, r2, t2, u2⟩ := M_steps (F := F) hF hI.1 (σ := m1) (cols := n) (by omega) (by omega) (by omega) (by omega) p1 q1 (MV_fr hV0 hfr1).2.1 o1 (QM_can hI)
    refine ev_g (by decide) ?_
    rw [if_neg (by decide)]
    refine ev_be b1 ?_
    rw [show gF a1 1473 = PR (svw σ2 0) from (WV_fr hW d1.W).1.2.1]
    refine ev_be b2 (ev_s (ev_bs (ev_be (M_isS (by omega) hI hV0 h0) ?_)))
    rw [c]
    refine ev_g (by decide) ?_
    rw [if_neg (by decide)]
    refine ev_be n1 ?_
    rw [q1]
    refine ev_be n2 (ev_s ⟨by rw [q2, rank_eq hI], ?_⟩)
    refine RR_fr hz (d1.W.tr f2.W) (hfr1.tr ⟨fun q hq => t2 q (by intro e; subst e; cases hq), fun a ha i => u2 a (by intro e; subst e; cases ha) (by intro e; subst e; cases ha) i⟩)
end
