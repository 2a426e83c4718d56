/-! PURE PART: seen, smoothSeen -/
def mdB (p : Int) (high cols : Nat) (A : Nat → Nat → Int) : Bool := fr (el p high cols A).2.1 cols (high - (el p high cols A).1) (el p high cols A).1 == -1
def QX (s : Nat → Int) (n : Nat) (col : Nat → Int) : Nat → Nat → Int := fun r k => if k < n then smS s n r k else col r
def QW (s : Nat → Int) (n : Nat) (col : Nat → Nat → Int) : Nat → Nat → Int := fun r k => if k < n then smS s n r k else col (k - n) r
section
variable {F : Nat}
theorem M_im (hF : 3000 ≤ F) {σ : St} {high cols : Nat} {A : Nat → Nat → Int} {p : Int} (hp : p ≤ 2000) (hsz : (cols + 1) * high ≤ 2800) (hhi : high ≤ 2800) (h25 : gF σ 25 = ((cols + 1 : Nat) : Int)) (h26 : gF σ 26 = (high : Nat)) (hM : MB σ high (cols + 1) A) (hA : Can p high (cols + 1) A) : ∀ (d m r : Nat), d < m → r + d = high ∨ (d = 0 ∧ high ≤ r ∧ r ≤ 3000) → l_M_isMade_15 F m σ (r : Nat) = some (bi (fr A cols d r == -1), σ)
  | _, 0, _, h, _ => by omega
  | 0, m + 1, r, _, hd => by
    simp only [l_M_isMade_15, b_M_isMade_15, bv]
    rw [gd_t (by omega), if_pos (by omega)]; rfl
  | d + 1, m + 1, r, hm, hd => by
    have lt := ixE_lt (wide := cols + 1) (high := high) (r := r) (k := cols) (by omega) (by omega)
    have e1 : ((cols + 1 : Nat) : Int) * (r : Int) + ((cols + 1 : Nat) : Int) - 1 = ((((cols + 1) * r + cols : Nat)) : Int) := by
      rw [← ix_c]; omega
    have e2 : gA σ 7 ((cols + 1) * r + cols) = A r cols := hM r cols (by omega) (by omega)
    have b1 := hA r cols (by omega) (by omega)
    simp only [l_M_isMade_15, b_M_isMade_15, bv, h25, e1, Int.toNat_natCast, e2]
    rw [gd_t (by omega), if_neg (by omega), gd_t (by omega), gd_t (by omega)]
    unfold fr
    by_cases z : A r cols = 0
    · rw [if_pos z, if_pos z]
      exact M_im hF hp hsz hhi h25 h26 hM hA d m (r + 1) (by omega) (by omega)
    · rw [if_neg z, if_neg z, show (((r : Nat) : Int) == -1) = false by simp]; rfl
theorem M_isMade (hF : 3000 ≤ F) {n : Int} (hn : wayN n) {σ : St} {high cols : Nat} {A : Nat → Nat → Int} (hsz : (cols + 1) * high ≤ 2800) (hc1 : cols ≤ 110) (hhi : high ≤ 2800) (h25 : gF σ 25 = ((cols + 1 : Nat) : Int)) (h26 : gF σ 26 = (high : Nat)) (h20 : gF σ 20 = PR n) (hM : MB σ high (cols + 1) A) (hA : Can (PR n) high (cols + 1) A) : ∃ σ', f_M_isMade F σ = some (bi (mdB (PR n) high cols A), σ') ∧ MB σ' high (cols + 1) (el (PR n) high cols A).2.1 ∧ Can (PR n) high (cols + 1) (el (PR n) high cols A).2.1 ∧ gF σ' 27 = (((el (PR n) high cols A).1 : Nat) : Int) ∧ (∀ i, i < cols → gA σ' 8 i = (el (PR n) high cols A).2.2.1 i) ∧ (∀ q, q ≠ 27 → gF σ' q = gF σ q) ∧ ∀ a, a ≠ 7 → a ≠ 8 → ∀ i, gA σ' a i = gA σ a i := by
  have hp := PR_b hn
  obtain ⟨σ', k1, k2, k3, k4, k5, k6, k7⟩ := M_steps (F := F) hF hn (σ := σ) (cols := cols) hsz (by omega) hc1 hhi h25 h26 h20 hM hA
  have hrk := el_rk (p := PR n) (high := high) (cols := cols) (A := A)
  refine ⟨σ', ?_, k2, k3, k4, k5, k6, k7⟩
  have him := M_im (F := F) hF (p := PR n) (by omega) hsz hhi (σ := σ') (by rw [k6 _ (by omega)]; exact h25) (by rw [k6 _ (by omega)]; exact h26) k2 k3 (high - (el (PR n) high cols A).1) F (el (PR n) high cols A).1 (by omega) (by omega)
  unfold f_M_isMade
  rw [h25, show ((cols + 1 : Nat) : Int) - 1 = (cols : Int) by omega, k1, bnd_s]
  simp only [bv]
  rw [k4, him]
  rfl
theorem W_cmd (hF : 200 ≤ F) {s : Nat → Int} (hI : MI s) {σ : St} (hV : WV σ s) {n rk : Nat} {A : Nat → Nat → Int} (hn : n ≤ 10) (hrk : rk ≤ n) (hM : RW σ n (n + (s 0).toNat) A) (hA : Can (PR (s 0)) n (n + (s 0).toNat) A) : ∀ (k m d acc : Nat), k < m → d + k = (s 0).toNat → acc < 2 ^ 60 → l_Rows_columnsMade_lattice0_23 F m σ (n : Nat) (rk : Nat) (acc : Nat) (d : Nat) = some (((btS (fun d => fr A (n + d) (n - rk) rk == -1) k d acc : Nat) : Int), σ)
  | _, 0, _, _, h, _, _ => by omega
  | 0, m + 1, d, acc, _, hk, ha => by
    have i0 := hI.1
    have v0 := hV.1.1
    simp only [l_Rows_columnsMade_lattice0_23, b_Rows_columnsMade_lattice0_23, bv]
    rw [gd_t (by omega), if_pos (by omega)]; rfl
  | k + 1, m + 1, d, acc, hm, hk, ha => by
    have i0 := hI.1
    have v0 := hV.1.1
    have hp := PR_b hI.1
    have hl := lor_pow ha (show d < 60 by omega)
    have hrw := W_rowWith (F := F) hF (c := n + d) (rk := rk) (p := PR (s 0)) (by omega) (by omega) (by omega) (by omega) hM hA (by omega)
    have hb := fr_b (A := A) (c := n + d) (n - rk) rk
    simp only [l_Rows_columnsMade_lattice0_23, b_Rows_columnsMade_lattice0_23, bv]
    rw [gd_t (by omega), if_neg (by omega), show ((n : Nat) : Int) + (d : Nat) = ((n + d : Nat) : Int) by omega, hrw, bnd_s, gd_t (by omega)]
    unfold btS
    by_cases c : fr A (n + d) (n - rk) rk = -1
    · rw [if_pos c, gd_t (by omega), show Int.toNat ((d : Nat) : Int) = d by omega, hl.1, if_pos (by simpa using c)]
      exact W_cmd hF hI hV hn hrk hM hA k m (d + 1) _ (by omega) (by omega) hl.2
    · rw [if_neg c, if_neg (by simpa using c)]
      exact W_cmd hF hI hV hn hrk hM hA k m (d + 1) acc (by omega) (by omega) ha
theorem W_columns (hF : 200 ≤ F) {s : Nat → Int} (hI : MI s) {σ : St} (hV : WV σ s) {n : Nat} {col : Nat → Nat → Int} (hn : n ≤ 10) (hcol : ∀ d r, 0 ≤ col d r ∧ col d r < PR (s 0)) (hM : RW σ n (n + (s 0).toNat) (QW s n col)) : ∃ σ', f_Rows_columnsMade_lattice0 F σ (n : Nat) = some (((btS (fun d => mdB (PR (s 0)) n n (QX s n (col d))) (s 0).toNat 0 0 : Nat) : Int), σ') ∧ RFr σ σ' := by
  have i0 := hI.1
  have v0 := hV.1.1
  have hC : Can (PR (s 0)) n (n + (s 0).toNat) (QW s n col) := fun r k _ _ => by
    unfold QW
    split
    · exact smS_b hI n r k
    · exact hcol _ _
  obtain ⟨σ', k1, k2, k3, k4, k5⟩ := W_reduce (F := F) hF hI.1 (cols := n) (by omega) (show n + (s 0).toNat ≤ 70 by omega) (by omega) hM hC
  have hrk := el_rk (p := PR (s 0)) (high := n) (cols := n) (A := QW s n col)
  have hcm := W_cmd (F := F) hF hI (WV_fr hV k5.W) hn hrk.1 k2 k3 (s 0).toNat F 0 0 (by omega) (by omega) (by omega)
  refine ⟨σ', ?_, k5⟩
  unfold f_Rows_columnsMade_lattice0
  rw [v0, hV.1.2.1, show ((n : Nat) : Int) + s 0 = ((n + (s 0).toNat : Nat) : Int) by omega, k1, bnd_s]
  refine hcm.trans ?_
  congr 3
  refine btS_congr _ _ _ (fun d _ hd => ?_)
  have hag := elR_agr (p := PR (s 0)) (high := n) (cols := n) (j := n + d) (j' := n) n 0 0 (QW s n col) (QX s n (col d)) (fun _ => -1) (fun _ => -1) (by omega) (fun r _ => ⟨fun k hk => by unfold QW QX; rw [if_pos hk, if_pos hk], by unfold QW QX; rw [if_neg (by omega), if_neg (by omega), show n + d - n = d by omega]⟩)
  have h1 : (el (PR (s 0)) n n (QW s n col)).1 = (el (PR (s 0)) n n (QX s n (col d))).1 := hag.1
  unfold mdB
  rw [h1]
  have h2 : fr (el (PR (s 0)) n n (QW s n col)).2.1 (n + d) (n - (el (PR (s 0)) n n (QX s n (col d))).1) (el (PR (s 0)) n n (QX s n (col d))).1 = fr (el (PR (s 0)) n n (QX s n (col d))).2.1 n (n - (el (PR (s 0)) n n (QX s n (col d))).1) (el (PR (s 0)) n n (QX s n (col d))).1 := by
    have key : ∀ k r, r + k ≤ n → fr (el (PR (s 0)) n n (QW s n col)).2.1 (n + d) k r = fr (el (PR (s 0)) n n (QX s n (col d))).2.1 n k r := by
      intro k
      induction k with
      | zero => intro r _; rfl
      | succ k ih =>
        intro r hr
        have h3 := (hag.2.2 r (by omega)).2
        unfold fr
        rw [show (el (PR (s 0)) n n (QW s n col)).2.1 r (n + d) = (el (PR (s 0)) n n (QX s n (col d))).2.1 r n from h3, ih (r + 1) (by omega)]
    exact key _ _ (by have := (el_rk (p := PR (s 0)) (high := n) (cols := n) (A := QX s n (col d))).1; omega)
  rw [h2]
/-- filled: the first n columns everywhere, the others up to row i, column j of them -/
def PW3 (σ : St) (n D i j : Nat) (Q : Nat → Nat → Int) : Prop := ∀ r k, r < n → k < n + D → (k < n ∨ r < i ∨ (r = i ∧ k < n + j)) → gA σ (103 + r) k = Q r k
theorem PW3_set {σ : St} {n D i j : Nat} {Q : Nat → Nat → Int} {v : Int} (h : PW3 σ n D i j Q) (hv : v = Q i (n + j)) : PW3 (sA σ (103 + i) (n + j) v) n D i (j + 1) Q := by
  intro r k hr hk hc
  rw [gA_sA]
  by_cases e : r = i ∧ k = n + j
  · rw [if_pos ⟨by omega, e.2⟩, hv, e.1, e.2]
  · rw [if_neg (fun z => e ⟨by omega, z.2⟩)]; exact h r k hr hk (by omega)
def gcol (s : Nat → Int) (d r : Nat) : Int := gnS s r * wvS s d (plS s r) % PR (s 0)
theorem W_s22 {s : Nat → Int} (hI : MI s) (k15 : St → Int → Int → Option (Int × St)) {i : Nat} (hi : i < (s 1).toNat) : ∀ (k m : Nat) (σ : St) (j : Nat), WV σ s → k < m → j + k = (s 0).toNat → PW3 σ (s 1).toNat (s 0).toNat i j (QW s (s 1).toNat (gcol s)) → ∃ σ', l_W_seen_22 F k15 m σ ((s 1).toNat : Nat) (i : Nat) (j : Nat) = k15 σ' ((s 1).toNat : Nat) ((i : Int) + 1) ∧ PW3 σ' (s 1).toNat (s 0).toNat (i + 1) 0 (QW s (s 1).toNat (gcol s)) ∧ RFr σ σ'
  | _, 0, _, _, _, h, _, _ => by omega
  | 0, m + 1, σ, j, hV, _, hd, hP => by
    have i0 := hI.1
    have v0 := hV.1.1
    refine ⟨σ, ?_, fun r k h1 h2 h3 => hP r k h1 h2 (by omega), RFr.rf⟩
    simp only [l_W_seen_22, b_W_seen_22, bv, bs]
    rw [gd_t (by omega), if_pos (by omega)]
  | k + 1, m + 1, σ, j, hV, hm, hd, hP => by
    have i0 := hI.1
    have i1 := hI.2.1
    have v0 := hV.1.1
    have hfr : RFr σ (sA σ (103 + i) ((s 1).toNat + j) (gcol s j i)) := RFr_set
    obtain ⟨σ', k1, k2, k3⟩ := W_s22 hI k15 hi k m (sA σ (103 + i) ((s 1).toNat + j) (gcol s j i)) (j + 1) (WV_fr hV hfr.W) (by omega) (by omega) (PW3_set hP (by unfold QW; rw [if_neg (by omega), show (s 1).toNat + j - (s 1).toNat = j by omega]))
    refine ⟨σ', ?_, k2, hfr.tr k3⟩
    simp only [l_W_seen_22, b_W_seen_22, bv, bs]
    rw [gd_t (by omega), if_neg (by omega), gd_t (by omega), W_gained hI hV (by omega) (by omega), bnd_s, gd_t (by omega), show Int.toNat ((i : Nat) : Int) = i by omega, show Int.toNat ((((s 1).toNat : Nat) : Int) + (j : Nat)) = (s 1).toNat + j by omega]
    exact k1
theorem W_s15 (hF : 200 ≤ F) {s : Nat → Int} (hI : MI s) : ∀ (k m : Nat) (σ : St) (i : Nat), WV σ s → k < m → i + k = (s 1).toNat → PW3 σ (s 1).toNat (s 0).toNat i 0 (QW s (s 1).toNat (gcol s)) → ∃ σ', l_W_seen_15 F m σ ((s 1).toNat : Nat) (i : Nat) = some (((btS (fun d => mdB (PR (s 0)) (s 1).toNat (s 1).toNat (QX s (s 1).toNat (gcol s d))) (s 0).toNat 0 0 : Nat) : Int), σ') ∧ RFr σ σ'
  | _, 0, _, _, _, h, _, _ => by omega
  | 0, m + 1, σ, i, hV, _, hd, hP => by
    have i1 := hI.2.1
    have hp := PR_b hI.1
    obtain ⟨σ', k1, k2⟩ := W_columns (F := F) hF hI hV (n := (s 1).toNat) (col := gcol s) (by omega) (fun d r => modb (by omega)) (fun r k h1 h2 => hP r k h1 h2 (by omega))
    refine ⟨σ', ?_, k2⟩
    simp only [l_W_seen_15, b_W_seen_15, bv, bs]
    rw [gd_t (by omega), if_pos (by omega), k1, bnd_s]
  | k + 1, m + 1, σ, i, hV, hm, hd, hP => by
    have i1 := hI.2.1
    obtain ⟨s1, j1, j2, j3⟩ := W_s22 (F := F) hI (l_W_seen_15 F m) (show i < (s 1).toNat by omega) (s 0).toNat F σ 0 hV (by have := hI.1; omega) (by omega) hP
    obtain ⟨σ', k1, k2⟩ := W_s15 hF hI k m s1 (i + 1) (WV_fr hV j3.W) (by omega) (by omega) j2
    refine ⟨σ', ?_, j3.tr k2⟩
    simp only [l_W_seen_15, b_W_seen_15, bv, bs]
    rw [gd_t (by omega), if_neg (by omega)]
    exact j1.trans k1
theorem M_s26 (hF : 3000 ≤ F) {s : Nat → Int} (hI : MI s) (k9 : St → Int → Int → Option (Int × St)) {d acc : Nat} (hd : d < (s 0).toNat) (ha : acc < 2 ^ 60) : ∀ (k m : Nat) (σ : St) (i : Nat), MV σ s → gF σ 25 = (((s 1).toNat + 1 : Nat) : Int) → gF σ 26 = ((s 1).toNat : Int) → k < m → i + k = (s 1).toNat → MB σ (s 1).toNat ((s 1).toNat + 1) (fun r c => if c < (s 1).toNat then smS s (s 1).toNat r c else if r < i then gcol s d r else 0) → ∃ σ', l_M_seen_26 F k9 m σ (acc : Nat) (d : Nat) (i : Nat) = k9 σ' (((if mdB (PR (s 0)) (s 1).toNat (s 1).toNat (QX s (s 1).toNat (gcol s d)) then acc ||| 2 ^ d else acc : Nat)) : Int) ((d : Int) + 1) ∧ MFr σ σ'
  | _, 0, _, _, _, _, _, h, _, _ => by omega
  | 0, m + 1, σ, i, hV, h25, h26, _, hk, hM => by
    have i0 := hI.1
    have i1 := hI.2.1
    have hp := PR_b hI.1
    have hle : ((s 1).toNat + 1) * (s 1).toNat ≤ 11 * 10 := Nat.mul_le_mul (by omega) (by omega)
    have hl := lor_pow ha (show d < 60 by omega)
    obtain ⟨σ', k1, k2, k3, k4, k5, k6, k7⟩ := M_isMade (F := F) hF hI.1 (σ := σ) (high := (s 1).toNat) (cols := (s 1).toNat) (A := QX s (s 1).toNat (gcol s d)) (by omega) (by omega) (by omega) h25 h26 hV.2.1 (fun r c h1 h2 => by
      rw [hM r c h1 h2]
      (try dsimp only)
      unfold QX
      by_cases e : c < (s 1).toNat
      · rw [if_pos e, if_pos e]
      · rw [if_neg e, if_neg e, if_pos (by omega)]) (fun r c _ _ => by
      unfold QX
      split
      · exact smS_b hI _ _ _
      · exact modb (by omega))
    refine ⟨σ', ?_, ⟨fun q hq => k6 q (by intro e; subst e; cases hq), fun a ha i => k7 a (by intro e; subst e; cases ha) (by intro e; subst e; cases ha) i⟩⟩
    simp only [l_M_seen_26, b_M_seen_26, bv, bs]
    rw [gd_t (by omega), if_pos (by omega), k1, bnd_s]
    cases mdB (PR (s 0)) (s 1).toNat (s 1).toNat (QX s (s 1).toNat (gcol s d)) with
    | true => rw [gd_t (by decide), if_neg (by decide), gd_t (by omega), show Int.toNat ((d : Nat) : Int) = d by omega, hl.1]; rfl
    | false => rw [gd_t (by decide), if_pos (by decide), lor_0 ha]; rfl
  | k + 1, m + 1, σ, i, hV, h25, h26, hm, hk, hM => by
    have i0 := hI.1
    have i1 := hI.2.1
    have hp := PR_b hI.1
    have b := hI.2.2.2.2.2.2.1 i (by omega) (by omega)
    have hw := wvS_b hI (d : Int) (plS s i)
    have q := mulb (a := gnS s i) (b := wvS s d (plS s i)) (A := 1500) (B := 1500) (by omega) (by omega) (by omega) (by omega)
    have lt := ixE_lt (wide := (s 1).toNat + 1) (high := 10) (r := i) (k := (s 1).toNat) (by omega) (by omega)
    have t1 : Int.toNat ((((s 1).toNat + 1 : Nat) : Int) * (i : Int) + ((s 1).toNat : Int)) = ((s 1).toNat + 1) * i + (s 1).toNat := by rw [ix_c]; omega
    have g1 : inb ((((s 1).toNat + 1 : Nat) : Int) * (i : Int) + ((s 1).toNat : Int)) 2800 := by rw [ix_c]; omega
    have hfr : MFr σ (sA σ 7 (((s 1).toNat + 1) * i + (s 1).toNat) (gcol s d i)) := MFr.rf.sA rfl
    obtain ⟨σ', k1, k2⟩ := M_s26 hF hI k9 hd ha k m (sA σ 7 (((s 1).toNat + 1) * i + (s 1).toNat) (gcol s d i)) (i + 1) (MV_fr hV hfr) h25 h26 (by omega) (by omega) (MB_set hM (by omega) (by (try dsimp only); rw [if_neg (by omega), if_pos (by omega)]) (fun r c h1 h2 h3 => by
      (try dsimp only)
      by_cases e : c < (s 1).toNat
      · rw [if_pos e, if_pos e]
      · rw [if_neg e, if_neg e]
        by_cases e2 : r < i
        · rw [if_pos e2, if_pos (by omega)]
        · rw [if_neg e2, if_neg (fun z => h3 ⟨by omega, by omega⟩)]))
    refine ⟨σ', ?_, hfr.tr k2⟩
    simp only [l_M_seen_26, b_M_seen_26, bv, bs]
    rw [gd_t (by omega), if_neg (by omega), M_gain hI hV (by omega), bnd_s, M_place hI hV (by omega), bnd_s, M_waveOf hI hV (by omega) b.1, bnd_s, hV.2.1, gd_t ⟨by omega, by omega, by omega⟩, tmE q.1]
    simp only [h25, h26, t1]
    rw [gd_t g1]
    exact k1
theorem M_s9 (hF : 3000 ≤ F) {s : Nat → Int} (hI : MI s) : ∀ (k m : Nat) (σ : St) (d acc : Nat), MV σ s → k < m → d + k = (s 0).toNat → acc < 2 ^ 60 → ∃ σ', l_M_seen_9 F m σ (acc : Nat) (d : Nat) = some (((btS (fun d => mdB (PR (s 0)) (s 1).toNat (s 1).toNat (QX s (s 1).toNat (gcol s d))) k d acc : Nat) : Int), σ') ∧ MFr σ σ'
  | _, 0, _, _, _, _, h, _, _ => by omega
  | 0, m + 1, σ, d, acc, hV, _, hk, ha => by
    have i0 := hI.1
    have v0 := hV.1 0
    refine ⟨σ, ?_, MFr.rf⟩
    simp only [l_M_seen_9, b_M_seen_9, bv, bs, Int.reduceToNat]
    rw [gd_t (by decide), gd_t (by omega), if_pos (by omega)]; rfl
  | k + 1, m + 1, σ, d, acc, hV, hm, hk, ha => by
    have i0 := hI.1
    have i1 := hI.2.1
    have v0 := hV.1 0
    have hl := lor_pow ha (show d < 60 by omega)
    obtain ⟨m1, n1, o1, p1, q1, r1, t1⟩ := M_covers (F := F) (by omega) hI hV
    have hfr1 : MFr σ m1 := ⟨fun q hq => r1 q (by intro e; subst e; cases hq) (by intro e; subst e; cases hq), fun a ha i => t1 a (by intro e; subst e; cases ha) i⟩
    obtain ⟨m2, n2, o2⟩ := M_s26 (F := F) hF hI (l_M_seen_9 F m) (d := d) (acc := acc) (by omega) ha (s 1).toNat F m1 0 (MV_fr hV hfr1) p1 q1 (by omega) (by omega) (fun r c h1 h2 => by
      rw [o1 r c h1 h2]
      (try dsimp only)
      unfold QM
      by_cases e : c < (s 1).toNat
      · rw [if_pos e, if_pos e]
      · rw [if_neg e, if_neg e, if_neg (by omega)])
    obtain ⟨σ', k1, k2⟩ := M_s9 hF hI k m m2 (d + 1) (if mdB (PR (s 0)) (s 1).toNat (s 1).toNat (QX s (s 1).toNat (gcol s d)) then acc ||| 2 ^ d else acc) (MV_fr hV (hfr1.tr o2)) (by omega) (by omega) (by split; exact hl.2; exact ha)
    refine ⟨σ', ?_, (hfr1.tr o2).tr k2⟩
    simp only [l_M_seen_9, b_M_seen_9, bv, bs, Int.reduceToNat]
    rw [gd_t (by decide), gd_t (by omega), if_neg (by omega), n1, bnd_s]
    exact n2.trans k1
theorem s_seen (hF : 3000 ≤ F) : Sp_seen F RR := by
  intro x σ1 σ2 hR
  obtain ⟨hI, hW, hV⟩ := RR_view hR
  have i0 := hI.1
  have i1 := hI.2.1
  have w1 := hW.2.1
  refine sp1 ?_
  have hz : RR x σ1 (sF σ2 0 0) := RR_fr hR WFr.rf (MFr.sF rfl MFr.rf)
  have hV0 := MV_0 (v := 0) hV
  obtain ⟨a1, b1, c1, d1⟩ := W_fillCover (F := F) (by omega) hI hW (n := (svw σ2 1).toNat) (Nat.le_refl _)
  obtain ⟨a2, b2, c2⟩ := W_s15 (F := F) (by omega) hI (svw σ2 1).toNat F a1 0 (WV_fr hW d1.W) (by omega) (by omega) (fun r k h1 h2 h3 => by
    have e : k < (svw σ2 1).toNat := by omega
    rw [c1 r k h1 e]; unfold QW; rw [if_pos e])
  obtain ⟨m1, n1, o1⟩ := M_s9 (F := F) hF hI (svw σ2 0).toNat F (sF σ2 0 0) 0 0 hV0 (by omega) (by omega) (by omega)
  unfold f_W_seen f_M_seen
  refine ev_bv ?_
  rw [w1, show svw σ2 1 = ((svw σ2 1).toNat : Int) by omega]
  refine ev_be b1 (ev_e b2 (ev_bs (ev_e n1 ⟨rfl, ?_⟩)))
  exact RR_fr hz (d1.W.tr c2.W) o1
def tcol (s : Nat → Int) (d r : Nat) : Int := wvS s d r
theorem W_t26 {s : Nat → Int} (hI : MI s) (k19 : St → Int → Int → Option (Int × St)) {n i : Nat} (hn : n ≤ 10) (hi : i < n) : ∀ (k m : Nat) (σ : St) (j : Nat), WV σ s → k < m → j + k = (s 0).toNat → PW3 σ n (s 0).toNat i j (QW s n (tcol s)) → ∃ σ', l_W_smoothSeen_26 F k19 m σ (n : Nat) (i : Nat) (j : Nat) = k19 σ' (n : Nat) ((i : Int) + 1) ∧ PW3 σ' n (s 0).toNat (i + 1) 0 (QW s n (tcol s)) ∧ RFr σ σ'
  | _, 0, _, _, _, h, _, _ => by omega
  | 0, m + 1, σ, j, hV, _, hd, hP => by
    have i0 := hI.1
    have v0 := hV.1.1
    refine ⟨σ, ?_, fun r k h1 h2 h3 => hP r k h1 h2 (by omega), RFr.rf⟩
    simp only [l_W_smoothSeen_26, b_W_smoothSeen_26, bv, bs]
    rw [gd_t (by omega), if_pos (by omega)]
  | k + 1, m + 1, σ, j, hV, hm, hd, hP => by
    have i0 := hI.1
    have v0 := hV.1.1
    have hfr : RFr σ (sA σ (103 + i) (n + j) (tcol s j i)) := RFr_set
    obtain ⟨σ', k1, k2, k3⟩ := W_t26 hI k19 hn hi k m (sA σ (103 + i) (n + j) (tcol s j i)) (j + 1) (WV_fr hV hfr.W) (by omega) (by omega) (PW3_set hP (by unfold QW; rw [if_neg (by omega), show n + j - n = j by omega]))
    refine ⟨σ', ?_, k2, hfr.tr k3⟩
    simp only [l_W_smoothSeen_26, b_W_smoothSeen_26, bv, bs]
    rw [gd_t (by omega), if_neg (by omega), gd_t (by omega), W_waveAt hI hV (by omega) (by omega), bnd_s, gd_t (by omega), show Int.toNat ((i : Nat) : Int) = i by omega, show Int.toNat (((n : Nat) : Int) + (j : Nat)) = n + j by omega]
    exact k1
theorem W_t19 (hF : 200 ≤ F) {s : Nat → Int} (hI : MI s) {n : Nat} (hn : n ≤ 10) : ∀ (k m : Nat) (σ : St) (i : Nat), WV σ s → k < m → i + k = n → PW3 σ n (s 0).toNat i 0 (QW s n (tcol s)) → ∃ σ', l_W_smoothSeen_19 F m σ (n : Nat) (i : Nat) = some (((btS (fun d => mdB (PR (s 0)) n n (QX s n (tcol s d))) (s 0).toNat 0 0 : Nat) : Int), σ') ∧ RFr σ σ'
  | _, 0, _, _, _, h, _, _ => by omega
  | 0, m + 1, σ, i, hV, _, hd, hP => by
    have hp := PR_b hI.1
    obtain ⟨σ', k1, k2⟩ := W_columns (F := F) hF hI hV (n := n) (col := tcol s) (by omega) (fun d r => wvS_b hI _ _) (fun r k h1 h2 => hP r k h1 h2 (by omega))
    refine ⟨σ', ?_, k2⟩
    simp only [l_W_smoothSeen_19, b_W_smoothSeen_19, bv, bs]
    rw [gd_t (by omega), if_pos (by omega), k1, bnd_s]
  | k + 1, m + 1, σ, i, hV, hm, hd, hP => by
    obtain ⟨s1, j1, j2, j3⟩ := W_t26 (F := F) hI (l_W_smoothSeen_19 F m) hn (show i < n by omega) (s 0).toNat F σ 0 hV (by have := hI.1; omega) (by omega) hP
    obtain ⟨σ', k1, k2⟩ := W_t19 hF hI hn k m s1 (i + 1) (WV_fr hV j3.W) (by omega) (by omega) j2
    refine ⟨σ', ?_, j3.tr k2⟩
    simp only [l_W_smoothSeen_19, b_W_smoothSeen_19, bv, bs]
    rw [gd_t (by omega), if_neg (by omega)]
    exact j1.trans k1
theorem M_t41 (hF : 3000 ≤ F) {s : Nat → Int} (hI : MI s) (k22 : St → Int → Int → Int → Option (Int × St)) {n d acc : Nat} (hn : n ≤ 10) (hd : d < (s 0).toNat) (ha : acc < 2 ^ 60) : ∀ (k m : Nat) (σ : St) (i : Nat), MV σ s → gF σ 25 = ((n + 1 : Nat) : Int) → gF σ 26 = (n : Int) → k < m → i + k = n → MB σ n (n + 1) (fun r c => if c < n then smS s n r c else if r < i then tcol s d r else 0) → ∃ σ', l_M_smoothSeen_41 F k22 m σ (n : Nat) (acc : Nat) (d : Nat) (i : Nat) = k22 σ' (n : Nat) (((if mdB (PR (s 0)) n n (QX s n (tcol s d)) then acc ||| 2 ^ d else acc : Nat)) : Int) ((d : Int) + 1) ∧ MFr σ σ'
  | _, 0, _, _, _, _, _, h, _, _ => by omega
  | 0, m + 1, σ, i, hV, h25, h26, _, hk, hM => by
    have i0 := hI.1
    have hp := PR_b hI.1
    have hle : (n + 1) * n ≤ 11 * 10 := Nat.mul_le_mul (by omega) (by omega)
    have hl := lor_pow ha (show d < 60 by omega)
    obtain ⟨σ', k1, k2, k3, k4, k5, k6, k7⟩ := M_isMade (F := F) hF hI.1 (σ := σ) (high := n) (cols := n) (A := QX s n (tcol s d)) (by omega) (by omega) (by omega) h25 h26 hV.2.1 (fun r c h1 h2 => by
      rw [hM r c h1 h2]
      (try dsimp only)
      unfold QX
      by_cases e : c < n
      · rw [if_pos e, if_pos e]
      · rw [if_neg e, if_neg e, if_pos (by omega)]) (fun r c _ _ => by
      unfold QX
      split
      · exact smS_b hI _ _ _
      · exact wvS_b hI _ _)
    refine ⟨σ', ?_, ⟨fun q hq => k6 q (by intro e; subst e; cases hq), fun a ha i => k7 a (by intro e; subst e; cases ha) (by intro e; subst e; cases ha) i⟩⟩
    simp only [l_M_smoothSeen_41, b_M_smoothSeen_41, bv, bs]
    rw [gd_t (by omega), if_pos (by omega), k1, bnd_s]
    cases mdB (PR (s 0)) n n (QX s n (tcol s d)) with
    | true => rw [gd_t (by decide), if_neg (by decide), gd_t (by omega), show Int.toNat ((d : Nat) : Int) = d by omega, hl.1]; rfl
    | false => rw [gd_t (by decide), if_pos (by decide), lor_0 ha]; rfl
  | k + 1, m + 1, σ, i, hV, h25, h26, hm, hk, hM => by
    have i0 := hI.1
    have hp := PR_b hI.1
    have lt := ixE_lt (wide := n + 1) (high := 10) (r := i) (k := n) (by omega) (by omega)
    have hle2 : (n + 1) * 10 ≤ 110 := by omega
    have t1 : Int.toNat (((n + 1 : Nat) : Int) * (i : Int) + (n : Int)) = (n + 1) * i + n := by rw [ix_c]; omega
    have g1 : inb (((n + 1 : Nat) : Int) * (i : Int) + (n : Int)) 2800 := by rw [ix_c]; omega
    have hfr : MFr σ (sA σ 7 ((n + 1) * i + n) (tcol s d i)) := MFr.rf.sA rfl
    obtain ⟨σ', k1, k2⟩ := M_t41 hF hI k22 hn hd ha k m (sA σ 7 ((n + 1) * i + n) (tcol s d i)) (i + 1) (MV_fr hV hfr) h25 h26 (by omega) (by omega) (MB_set hM (by omega) (by (try dsimp only); rw [if_neg (by omega), if_pos (by omega)]) (fun r c h1 h2 h3 => by
      (try dsimp only)
      by_cases e : c < n
      · rw [if_pos e, if_pos e]
      · rw [if_neg e, if_neg e]
        by_cases e2 : r < i
        · rw [if_pos e2, if_pos (by omega)]
        · rw [if_neg e2, if_neg (fun z => h3 ⟨by omega, by omega⟩)]))
    refine ⟨σ', ?_, hfr.tr k2⟩
    simp only [l_M_smoothSeen_41, b_M_smoothSeen_41, bv, bs]
    rw [gd_t (by omega), if_neg (by omega), M_waveOf hI hV (by omega) (by omega), bnd_s]
    simp only [h25, t1]
    rw [gd_t g1]
    exact k1
theorem M_t22 (hF : 3000 ≤ F) {s : Nat → Int} (hI : MI s) {n : Nat} (hn : n ≤ (s 1).toNat) : ∀ (k m : Nat) (σ : St) (d acc : Nat), MV σ s → k < m → d + k = (s 0).toNat → acc < 2 ^ 60 → ∃ σ', l_M_smoothSeen_22 F m σ (n : Nat) (acc : Nat) (d : Nat) = some (((btS (fun d => mdB (PR (s 0)) n n (QX s n (tcol s d))) k d acc : Nat) : Int), σ') ∧ MFr σ σ'
  | _, 0, _, _, _, _, h, _, _ => by omega
  | 0, m + 1, σ, d, acc, hV, _, hk, ha => by
    have i0 := hI.1
    have v0 := hV.1 0
    refine ⟨σ, ?_, MFr.rf⟩
    simp only [l_M_smoothSeen_22, b_M_smoothSeen_22, bv, bs, Int.reduceToNat]
    rw [gd_t (by decide), gd_t (by omega), if_pos (by omega)]; rfl
  | k + 1, m + 1, σ, d, acc, hV, hm, hk, ha => by
    have i0 := hI.1
    have i1 := hI.2.1
    have v0 := hV.1 0
    have hl := lor_pow ha (show d < 60 by omega)
    obtain ⟨m1, n1, o1, p1, q1, r1, t1⟩ := M_smooth (F := F) (by omega) hI hV hn
    have hfr1 : MFr σ m1 := ⟨fun q hq => r1 q (by intro e; subst e; cases hq) (by intro e; subst e; cases hq), fun a ha i => t1 a (by intro e; subst e; cases ha) i⟩
    obtain ⟨m2, n2, o2⟩ := M_t41 (F := F) hF hI (l_M_smoothSeen_22 F m) (n := n) (d := d) (acc := acc) (by omega) (by omega) ha n F m1 0 (MV_fr hV hfr1) p1 q1 (by omega) (by omega) (fun r c h1 h2 => by
      rw [o1 r c h1 h2]
      (try dsimp only)
      unfold QM
      by_cases e : c < n
      · rw [if_pos e, if_pos e]
      · rw [if_neg e, if_neg e, if_neg (by omega)])
    obtain ⟨σ', k1, k2⟩ := M_t22 hF hI hn k m m2 (d + 1) (if mdB (PR (s 0)) n n (QX s n (tcol s d)) then acc ||| 2 ^ d else acc) (MV_fr hV (hfr1.tr o2)) (by omega) (by omega) (by split; exact hl.2; exact ha)
    refine ⟨σ', ?_, (hfr1.tr o2).tr k2⟩
    simp only [l_M_smoothSeen_22, b_M_smoothSeen_22, bv, bs, Int.reduceToNat]
    rw [gd_t (by decide), gd_t (by omega), if_neg (by omega), n1, bnd_s]
    exact n2.trans k1
theorem s_smoothSeen (hF : 3000 ≤ F) : Sp_smoothSeen F RR := by
  intro x σ1 σ2 p0 hR h0
  obtain ⟨hI, hW, hV⟩ := RR_view hR
  have i0 := hI.1
  have i1 := hI.2.1
  refine sp1 ?_
  have hz : RR x σ1 (sF σ2 0 0) := RR_fr hR WFr.rf (MFr.sF rfl MFr.rf)
  have hV0 := MV_0 (v := 0) hV
  unfold f_W_smoothSeen f_M_smoothSeen
  refine ev_be (W_canS (by omega) hI hW h0) ?_
  cases c : (decide (1 ≤ p0 ∧ p0 ≤ svw σ2 1) && evS (svw σ2)) with
  | false =>
    refine ev_g (by decide) ?_
    rw [if_pos (by decide)]
    refine ev_s (ev_bs (ev_be (M_isS (by omega) hI hV0 h0) ?_))
    rw [c]
    refine ev_g (by decide) ?_
    rw [if_pos (by decide)]
    exact ev_s ⟨rfl, hz⟩
  | true =>
    have hc : 1 ≤ p0 ∧ p0 ≤ svw σ2 1 := by
      rw [Bool.and_eq_true] at c
      exact of_decide_eq_true c.1
    obtain ⟨n, hn⟩ := Int.eq_ofNat_of_zero_le (show 0 ≤ p0 by omega)
    subst hn
    obtain ⟨a1, b1, c1, d1⟩ := W_fillCover (F := F) (by omega) hI hW (n := n) (by omega)
    obtain ⟨a2, b2, c2⟩ := W_t19 (F := F) (by omega) hI (n := n) (by omega) n F a1 0 (WV_fr hW d1.W) (by omega) (by omega) (fun r k h1 h2 h3 => by
      have e : k < n := by omega
      rw [c1 r k h1 e]; unfold QW; rw [if_pos e])
    obtain ⟨m1, n1, o1⟩ := M_t22 (F := F) hF hI (n := n) (by omega) (svw σ2 0).toNat F (sF σ2 0 0) 0 0 hV0 (by omega) (by omega) (by omega)
    refine ev_g (by decide) ?_
    rw [if_neg (by decide)]
    refine ev_be b1 (ev_e b2 (ev_bs (ev_be (M_isS (by omega) hI hV0 h0) ?_)))
    rw [c]
    refine ev_g (by decide) ?_
    rw [if_neg (by decide)]
    refine ev_e n1 ⟨rfl, ?_⟩
    exact RR_fr hz (d1.W.tr c2.W) o1
end
