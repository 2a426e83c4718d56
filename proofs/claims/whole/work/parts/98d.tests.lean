/-! PURE PART: what is asked of a token, both -/
def TPd (L : Nat) (b : Nat → Int) (σ1 σ2 : St) : Prop := TBt L b σ1 σ2 ∧ (gF σ1 198 = gF σ2 11 ∧ 0 ≤ gF σ2 11 ∧ gF σ2 11 ≤ 940) ∧ ∃ j : Nat, j ≤ L ∧ gF σ1 196 = (j : Nat) ∧ gF σ2 4 = (j : Nat)
def FTd (s1 s2 : St) : Prop := gF s1 193 = gF s2 14 ∧ gF s1 192 = gF s2 15 ∧ 0 ≤ gF s2 15 ∧ gF s2 15 ≤ 940
def fpF (q : Nat) : Bool := (Nat.ble 192 q && Nat.ble q 202) || q == 5122 || q == 5123 || q == 5126 || q == 2048 || q == 2051
def dAr (a : Nat) : Bool := [4, 5, 36, 40, 44, 48, 52, 56, 60, 64, 68, 72, 76].contains a
def fqF (q : Nat) : Bool := q == 4 || (Nat.ble 10 q && Nat.ble q 17) || q == 19
def FPd (σ σ' : St) : Prop := (∀ q, fpF q = false → gF σ' q = gF σ q) ∧ ∀ a, dAr a = false → ∀ i, gA σ' a i = gA σ a i
def FQd (σ σ' : St) : Prop := (∀ q, fqF q = false → gF σ' q = gF σ q) ∧ ∀ a, a ≠ 3 → a ≠ 4 → ∀ i, gA σ' a i = gA σ a i
theorem FPd.rf {σ : St} : FPd σ σ := ⟨fun _ _ => rfl, fun _ _ _ => rfl⟩
theorem FQd.rf {σ : St} : FQd σ σ := ⟨fun _ _ => rfl, fun _ _ _ _ => rfl⟩
theorem FPd.tr {a b c : St} (h : FPd a b) (g : FPd b c) : FPd a c := ⟨fun q hq => (g.1 q hq).trans (h.1 q hq), fun x hx i => (g.2 x hx i).trans (h.2 x hx i)⟩
theorem FQd.tr {a b c : St} (h : FQd a b) (g : FQd b c) : FQd a c := ⟨fun q hq => (g.1 q hq).trans (h.1 q hq), fun x h1 h2 i => (g.2 x h1 h2 i).trans (h.2 x h1 h2 i)⟩
theorem FPd.sF {σ σ' : St} {k : Nat} {v : Int} (hk : fpF k = true) (h : FPd σ σ') : FPd σ (sF σ' k v) := ⟨fun q hq => by rw [gF_sF, if_neg (by intro e; subst e; rw [hk] at hq; cases hq)]; exact h.1 q hq, h.2⟩
theorem FPd.sA {σ σ' : St} {k i : Nat} {v : Int} (hk : dAr k = true) (h : FPd σ σ') : FPd σ (sA σ' k i v) := ⟨h.1, fun a ha j => by rw [gA_sA, if_neg (by rintro ⟨e, -⟩; subst e; rw [hk] at ha; cases ha)]; exact h.2 a ha j⟩
theorem FQd.sF {σ σ' : St} {k : Nat} {v : Int} (hk : fqF k = true) (h : FQd σ σ') : FQd σ (sF σ' k v) := ⟨fun q hq => by rw [gF_sF, if_neg (by intro e; subst e; rw [hk] at hq; cases hq)]; exact h.1 q hq, h.2⟩
theorem FQd.sA {σ σ' : St} {k i : Nat} {v : Int} (hk : k = 3 ∨ k = 4) (h : FQd σ σ') : FQd σ (sA σ' k i v) := ⟨h.1, fun a h1 h2 j => by rw [gA_sA, if_neg (by omega)]; exact h.2 a h1 h2 j⟩
theorem TF1.P {a b : St} (h : TF1 a b) : FPd a b := by
  refine ⟨fun q hq => h.1 q ?_ ?_ ?_ ?_ ?_, fun x _ i => h.2 x i⟩ <;> (intro e; subst e; cases hq)
theorem TF2.Q {a b : St} (h : TF2 a b) : FQd a b := by
  refine ⟨fun q hq => h.1 q ?_ ?_ ?_ ?_ ?_ ?_, fun x _ _ i => h.2 x i⟩ <;> (intro e; subst e; cases hq)
theorem TPd_c {L : Nat} {b : Nat → Int} {σ1 σ2 s1 s2 : St} (h : TPd L b σ1 σ2) (h5 : gF s1 195 = gF σ1 195) (h6 : gF s1 196 = gF σ1 196) (h8 : gF s1 198 = gF σ1 198) (ha : ∀ i, gA s1 2 i = gA σ1 2 i) (g3 : gF s2 3 = gF σ2 3) (g4 : gF s2 4 = gF σ2 4) (g5 : gF s2 5 = gF σ2 5) (g11 : gF s2 11 = gF σ2 11) (gb : ∀ i, gA s2 1 i = gA σ2 1 i) : TPd L b s1 s2 := by
  unfold TPd TBt BYT at h ⊢
  simp only [h5, h6, h8, ha, g3, g4, g5, g11, gb]
  exact h
section
variable {F : Nat} {b : Nat → Int} {L : Nat} {σ1 σ2 : St}
theorem blame_e {σ : St} {k : Int} : f_Reader_blame F σ k = some (0, sF (sF σ 193 k) 192 (gF σ 198)) := by
  unfold f_Reader_blame
  rw [bs_s, bs_s, gF_sF, if_neg (by omega)]
theorem bad_e {σ : St} {k : Int} : f_M_bad F σ k = some (0, sF (sF σ 14 k) 15 (gF σ 11)) := by
  unfold f_M_bad
  rw [bs_s, bs_s, gF_sF, if_neg (by omega)]
theorem FTd_of (h : gF σ1 198 = gF σ2 11 ∧ 0 ≤ gF σ2 11 ∧ gF σ2 11 ≤ 940) (k : Int) : FTd (sF (sF σ1 193 k) 192 (gF σ1 198)) (sF (sF σ2 14 k) 15 (gF σ2 11)) := by
  unfold FTd
  rw [gF_sF, if_neg (by omega), gF_eq, gF_sF, if_neg (by omega), gF_eq, gF_eq, gF_eq]
  exact ⟨rfl, h⟩
theorem ADVp (hF : 2000 ≤ F) (hL : L ≤ 940) (hb0 : ∀ i, i < 940 → 0 ≤ b i ∧ b i ≤ 255) (h : TPd L b σ1 σ2) : ∃ s1 s2, f_Reader_advance F σ1 = some (0, s1) ∧ f_M_next F σ2 = some (0, s2) ∧ TBt L b s1 s2 ∧ TK L s1 s2 ∧ TF1 σ1 s1 ∧ TF2 σ2 s2 := by
  obtain ⟨h1, h2, j, hj, h6, h4⟩ := h
  obtain ⟨s1, s2, k1, k2, k3, k4, k5⟩ := ADV hF hL hb0 hj h1 h6 h4
  exact ⟨s1, s2, k1, k2, TBt_t h1 k4 k5, k3, k4, k5⟩
/-- the sorts of token -/
theorem TK_cases (hT : TBt L b σ1 σ2) (h : TK L σ1 σ2) : (gF σ1 197 = 2 ∧ gF σ2 10 = 1 ∧ gF σ1 199 = gF σ2 16 ∧ rng64 (gF σ2 16) ∧ TPd L b σ1 σ2) ∨ (gF σ1 197 = 3 ∧ gF σ2 10 = 2 ∧ gF σ1 200 = gF σ2 13 ∧ 0 ≤ gF σ2 13 ∧ gF σ2 13 ≤ 999 ∧ TPd L b σ1 σ2) ∨ (gF σ1 197 = 4 ∧ gF σ2 10 = 3 ∧ gF σ2 13 = 59 ∧ TPd L b σ1 σ2) ∨ (gF σ1 197 = 5 ∧ gF σ2 10 = 3 ∧ gF σ2 13 = 45 ∧ TPd L b σ1 σ2) ∨ (gF σ1 197 = 0 ∧ gF σ2 10 = 0 ∧ L ≤ 900) ∨ (((gF σ1 197 = 0 ∧ 900 < L ∧ gF σ1 198 = 900) ∨ gF σ1 197 = 1) ∧ gF σ2 10 = 4) := by
  obtain ⟨ha, h | ⟨h1, h2, h3, h4⟩ | ⟨j, hj, h6, h4, h⟩⟩ := h
  · exact Or.inr (Or.inr (Or.inr (Or.inr (Or.inl h))))
  · exact Or.inr (Or.inr (Or.inr (Or.inr (Or.inr ⟨Or.inl ⟨h1, h3, h4⟩, h2⟩))))
  · have hp : TPd L b σ1 σ2 := ⟨hT, ha, j, hj, h6, h4⟩
    rcases h with (⟨h1, h2⟩ | ⟨h1, h2, h3, h4⟩ | ⟨h1, h2, h3, h4, h5⟩) | ⟨h1, h2, h3⟩ | ⟨h1, h2, h3⟩
    · exact Or.inr (Or.inr (Or.inr (Or.inr (Or.inr ⟨Or.inr h1, h2⟩))))
    · exact Or.inl ⟨h1, h2, h3, h4, hp⟩
    · exact Or.inr (Or.inl ⟨h1, h2, h3, h4, h5, hp⟩)
    · exact Or.inr (Or.inr (Or.inl ⟨h1, h2, h3, hp⟩))
    · exact Or.inr (Or.inr (Or.inr (Or.inl ⟨h1, h2, h3, hp⟩)))
/-- is it that word -/
theorem T_word (hT : TBt L b σ1 σ2) (h : TK L σ1 σ2) {w : Int} (hw : rng64 w) : ∃ q : Bool, f_Reader_isWord F σ1 w = some (bi q, σ1) ∧ f_M_isWord F σ2 w = some (bi q, σ2) ∧ (q = true ↔ gF σ1 197 = 2 ∧ gF σ1 199 = w) ∧ (q = true → TPd L b σ1 σ2) := by
  have hk := TK_cases hT h
  by_cases c : gF σ1 197 = 2
  · obtain ⟨h1, h2, h3, h4, h5⟩ : gF σ1 197 = 2 ∧ gF σ2 10 = 1 ∧ gF σ1 199 = gF σ2 16 ∧ rng64 (gF σ2 16) ∧ TPd L b σ1 σ2 := by
      rcases hk with h | h | h | h | h | h
      · exact h
      · exact absurd (h.1.symm.trans c) (by decide)
      · exact absurd (h.1.symm.trans c) (by decide)
      · exact absurd (h.1.symm.trans c) (by decide)
      · exact absurd (h.1.symm.trans c) (by decide)
      · rcases h.1 with g | g
        · exact absurd (g.1.symm.trans c) (by decide)
        · exact absurd (g.symm.trans c) (by decide)
    refine ⟨decide (gF σ2 16 = w), ?_, ?_, ?_, fun _ => h5⟩
    · unfold f_Reader_isWord
      rw [h1, gd_t (by decide), if_pos rfl, h3, gd_t ⟨h4, hw⟩]
      by_cases z : gF σ2 16 = w
      · rw [if_pos z, show decide (gF σ2 16 = w) = true by simp [z]]; rfl
      · rw [if_neg z, show decide (gF σ2 16 = w) = false by simp [z]]; rfl
    · unfold f_M_isWord
      rw [h2, gd_t (by decide), if_pos rfl, gd_t ⟨h4, hw⟩]
      by_cases z : gF σ2 16 = w
      · rw [if_pos z, show decide (gF σ2 16 = w) = true by simp [z]]; rfl
      · rw [if_neg z, show decide (gF σ2 16 = w) = false by simp [z]]; rfl
    · rw [decide_eq_true_iff, h3]; exact ⟨fun z => ⟨c, z⟩, fun z => z.2⟩
  · obtain ⟨r1, n1, r2⟩ : rng (gF σ1 197) ∧ gF σ2 10 ≠ 1 ∧ rng (gF σ2 10) := by omega
    refine ⟨false, ?_, ?_, ⟨fun z => (by cases z), fun z => absurd z.1 c⟩, fun z => (by cases z)⟩
    · unfold f_Reader_isWord
      rw [gd_t (by omega), if_neg c]; rfl
    · unfold f_M_isWord
      rw [gd_t (by omega), if_neg n1]; rfl
/-- a number as told, or a fault -/
theorem T_num (hT : TBt L b σ1 σ2) (h : TK L σ1 σ2) {lo hi : Int} (hlo : rng lo) (hhi : rng hi) : (∃ s1 s2, f_Reader_isNumber F σ1 lo hi = some (0, s1) ∧ f_M_takes F σ2 lo hi = some (0, s2) ∧ FTd s1 s2 ∧ FPd σ1 s1 ∧ FQd σ2 s2) ∨ (∃ v, lo ≤ v ∧ v ≤ hi ∧ 0 ≤ v ∧ v ≤ 999 ∧ gF σ1 200 = v ∧ gF σ2 13 = v ∧ gF σ2 10 = 2 ∧ f_Reader_isNumber F σ1 lo hi = some (1, σ1) ∧ f_M_takes F σ2 lo hi = (bnd (f_M_next F (sF σ2 17 v)) fun _ σ5 => some (1, σ5)) ∧ TPd L b σ1 σ2) := by
  have hk := TK_cases hT h
  have hat := h.1
  by_cases c : gF σ1 197 = 3
  · obtain ⟨h1, h2, h3, h4, h5, h6⟩ : gF σ1 197 = 3 ∧ gF σ2 10 = 2 ∧ gF σ1 200 = gF σ2 13 ∧ 0 ≤ gF σ2 13 ∧ gF σ2 13 ≤ 999 ∧ TPd L b σ1 σ2 := by
      rcases hk with h | h | h | h | h | h
      · exact absurd (h.1.symm.trans c) (by decide)
      · exact h
      · exact absurd (h.1.symm.trans c) (by decide)
      · exact absurd (h.1.symm.trans c) (by decide)
      · exact absurd (h.1.symm.trans c) (by decide)
      · rcases h.1 with g | g
        · exact absurd (g.1.symm.trans c) (by decide)
        · exact absurd (g.symm.trans c) (by decide)
    generalize hv : gF σ2 13 = v at *
    have isin : f_M_isIn F σ2 v lo hi = if lo ≤ v ∧ v ≤ hi then some (1, σ2) else some (0, σ2) := by
      unfold f_M_isIn
      rw [gd_t (by omega)]
      by_cases z : v < lo
      · rw [if_pos z, if_neg (by omega)]
      · rw [if_neg z, gd_t (by omega)]
        by_cases z2 : hi < v
        · rw [if_pos z2, if_neg (by omega)]
        · rw [if_neg z2, if_pos (by omega)]
    by_cases z : lo ≤ v ∧ v ≤ hi
    · refine Or.inr ⟨v, z.1, z.2, h4, h5, h3, rfl, h2, ?_, ?_, h6⟩
      · unfold f_Reader_isNumber
        rw [h1, gd_t (by decide), if_pos rfl, h3, gd_t (by omega), if_neg (by omega), gd_t (by omega), if_pos z.2]
      · unfold f_M_takes
        rw [h2, gd_t (by decide), if_pos rfl, hv, isin, if_pos z, bnd_s, gd_t (by decide), if_neg (by decide), bs_s, hv]
    · refine Or.inl ⟨_, _, ?_, ?_, FTd_of hat 2, FPd.rf.sF rfl |>.sF rfl, FQd.rf.sF rfl |>.sF rfl⟩
      · unfold f_Reader_isNumber
        rw [h1, gd_t (by decide), if_pos rfl, h3, gd_t (by omega)]
        by_cases z1 : v < lo
        · rw [if_pos z1, blame_e, bnd_s, gd_t (by decide), if_pos rfl]
        · rw [if_neg z1, gd_t (by omega), if_neg (by omega), blame_e, bnd_s, gd_t (by decide), if_pos rfl]
      · unfold f_M_takes
        rw [h2, gd_t (by decide), if_pos rfl, hv, isin, if_neg z, bnd_s, gd_t (by decide), if_pos rfl, bad_e, bnd_s, gd_t (by decide)]
  · obtain ⟨r1, n1, r2⟩ : rng (gF σ1 197) ∧ gF σ2 10 ≠ 2 ∧ rng (gF σ2 10) := by omega
    refine Or.inl ⟨_, _, ?_, ?_, FTd_of hat 1, FPd.rf.sF rfl |>.sF rfl, FQd.rf.sF rfl |>.sF rfl⟩
    · unfold f_Reader_isNumber
      rw [gd_t (by omega), if_neg c, blame_e, bnd_s, gd_t (by decide)]
    · unfold f_M_takes
      rw [gd_t (by omega), if_neg n1, bad_e, bnd_s, gd_t (by decide)]
/-- the words of the language -/
def lgW (w : Int) : Bool := w == 30506450281915237 || w == 114784635872626 || w == 1734437230 || w == 126879480964466 || w == 110442557371507 || w == 1818848101 || w == 32497584235442030 || w == 27696016923389543
theorem M_nm16 {σ : St} {w : Int} (h16 : gF σ 16 = w) (hw : rng64 w) (h5 : ∀ j, j < 8 → rng64 (gA σ 5 j)) : ∀ (d m k : Nat) (q : Bool), d < m → k + d = 8 → l_M_isName_16 F m σ (bi q) (k : Nat) = some (bi (q && !((List.range d).any fun j => gA σ 5 (k + j) == w)), σ)
  | _, 0, _, _, h, _ => absurd h (Nat.not_lt_zero _)
  | 0, m + 1, k, q, _, hk => by
    show b_M_isName_16 F _ σ _ _ = _
    unfold b_M_isName_16
    rw [gd_t (by omega), if_pos (by omega), gd_t (by cases q <;> decide)]
    simp
  | d + 1, m + 1, k, q, hm, hk => by
    have ih : ∀ q, l_M_isName_16 F m σ (bi q) ((k + 1 : Nat) : Int) = some (bi (q && !((List.range d).any fun j => gA σ 5 (k + 1 + j) == w)), σ) := fun q => M_nm16 h16 hw h5 d m (k + 1) q (by omega) (by omega)
    have e : (List.range (d + 1)).any (fun j => gA σ 5 (k + j) == w) = ((gA σ 5 k == w) || (List.range d).any fun j => gA σ 5 (k + 1 + j) == w) := by
      rw [List.range_succ_eq_map, List.any_cons, List.any_map, Nat.add_zero]
      congr 1
      refine congrArg (fun f => (List.range d).any f) (funext fun j => ?_)
      show (gA σ 5 (k + (j + 1)) == w) = _
      rw [show k + (j + 1) = k + 1 + j by omega]
    rw [e]
    show b_M_isName_16 F _ σ _ _ = _
    unfold b_M_isName_16
    rw [gd_t (by omega), if_neg (by omega)]
    cases q with
    | false =>
      rw [gd_t (by decide), if_pos (show bi false = 0 from rfl), bv_s]
      exact ih false
    | true =>
      rw [gd_t (by decide), if_neg (by decide), gd_t (by omega), h16, Int.toNat_natCast, gd_t ⟨hw, h5 k (by omega)⟩]
      by_cases z : w = gA σ 5 k
      · rw [if_pos z, bv_s, show (gA σ 5 k == w) = true by rw [z]; simp, Bool.true_or]
        exact ih false
      · rw [if_neg z, bv_s, show (gA σ 5 k == w) = false by simpa using fun y => z y.symm, Bool.false_or]
        exact ih true
/-- is it a name -/
theorem T_name (hF : 100 ≤ F) (hR : RRes σ2) (hT : TBt L b σ1 σ2) (h : TK L σ1 σ2) : ∃ q : Bool, f_Reader_isName F σ1 = some (bi q, σ1) ∧ f_M_isName F σ2 = some (bi q, σ2) ∧ (q = true → gF σ1 199 = gF σ2 16 ∧ rng64 (gF σ2 16) ∧ TPd L b σ1 σ2) := by
  have hk := TK_cases hT h
  obtain ⟨e0, e1, e2, e3, e4, e5, e6, e7⟩ := hR
  have h5 : ∀ j, j < 8 → rng64 (gA σ2 5 j) := fun j hj => by
    rcases (show j = 0 ∨ j = 1 ∨ j = 2 ∨ j = 3 ∨ j = 4 ∨ j = 5 ∨ j = 6 ∨ j = 7 by omega) with r | r | r | r | r | r | r | r <;> subst r <;> omega
  by_cases c : gF σ1 197 = 2
  · obtain ⟨h1, h2, h3, h4, h6⟩ : gF σ1 197 = 2 ∧ gF σ2 10 = 1 ∧ gF σ1 199 = gF σ2 16 ∧ rng64 (gF σ2 16) ∧ TPd L b σ1 σ2 := by
      rcases hk with h | h | h | h | h | h
      · exact h
      · exact absurd (h.1.symm.trans c) (by decide)
      · exact absurd (h.1.symm.trans c) (by decide)
      · exact absurd (h.1.symm.trans c) (by decide)
      · exact absurd (h.1.symm.trans c) (by decide)
      · rcases h.1 with g | g
        · exact absurd (g.1.symm.trans c) (by decide)
        · exact absurd (g.symm.trans c) (by decide)
    have hm := M_nm16 (F := F) (σ := σ2) rfl h4 h5 8 F 0 true (by omega) rfl
    have hq : (true && !((List.range 8).any fun j => gA σ2 5 (0 + j) == gF σ2 16)) = !lgW (gF σ2 16) := by
      show (true && !((gA σ2 5 0 == gF σ2 16) || ((gA σ2 5 1 == gF σ2 16) || ((gA σ2 5 2 == gF σ2 16) || ((gA σ2 5 3 == gF σ2 16) || ((gA σ2 5 4 == gF σ2 16) || ((gA σ2 5 5 == gF σ2 16) || ((gA σ2 5 6 == gF σ2 16) || ((gA σ2 5 7 == gF σ2 16) || false))))))))) = _
      unfold lgW
      rw [e0, e1, e2, e3, e4, e5, e6, e7]
      have sy : ∀ x y : Int, (x == y) = (y == x) := fun x y => by
        by_cases h : x = y
        · rw [h]
        · rw [beq_eq_false_iff_ne.mpr h, beq_eq_false_iff_ne.mpr (fun e => h e.symm)]
      rw [sy _ (gF σ2 16), sy _ (gF σ2 16), sy _ (gF σ2 16), sy _ (gF σ2 16), sy _ (gF σ2 16), sy _ (gF σ2 16), sy _ (gF σ2 16), sy _ (gF σ2 16), Bool.or_false, Bool.true_and]
      simp only [Bool.or_assoc]
    rw [hq] at hm
    refine ⟨!lgW (gF σ2 16), ?_, ?_, fun _ => ⟨h3, h4, h6⟩⟩
    · unfold f_Reader_isName lgW
      rw [h1, gd_t (by decide), if_pos rfl, h3]
      generalize gF σ2 16 = w at *
      by_cases z0 : w = 30506450281915237
      · rw [gd_t (by omega), if_pos z0, z0]; rfl
      rw [gd_t (by omega), if_neg z0]
      by_cases z1 : w = 114784635872626
      · rw [gd_t (by omega), if_pos z1, z1]; rfl
      rw [gd_t (by omega), if_neg z1]
      by_cases z2 : w = 1734437230
      · rw [gd_t (by omega), if_pos z2, z2]; rfl
      rw [gd_t (by omega), if_neg z2]
      by_cases z3 : w = 126879480964466
      · rw [gd_t (by omega), if_pos z3, z3]; rfl
      rw [gd_t (by omega), if_neg z3]
      by_cases z4 : w = 110442557371507
      · rw [gd_t (by omega), if_pos z4, z4]; rfl
      rw [gd_t (by omega), if_neg z4]
      by_cases z5 : w = 1818848101
      · rw [gd_t (by omega), if_pos z5, z5]; rfl
      rw [gd_t (by omega), if_neg z5]
      by_cases z6 : w = 32497584235442030
      · rw [gd_t (by omega), if_pos z6, z6]; rfl
      rw [gd_t (by omega), if_neg z6]
      by_cases z7 : w = 27696016923389543
      · rw [gd_t (by omega), if_pos z7, z7]; rfl
      rw [gd_t (by omega), if_neg z7]
      have : (w == 30506450281915237 || w == 114784635872626 || w == 1734437230 || w == 126879480964466 || w == 110442557371507 || w == 1818848101 || w == 32497584235442030 || w == 27696016923389543) = false := by simp [z0, z1, z2, z3, z4, z5, z6, z7]
      rw [this]; rfl
    · unfold f_M_isName
      rw [h2, gd_t (by decide), if_pos rfl]; exact hm
  · obtain ⟨r1, n1, r2⟩ : rng (gF σ1 197) ∧ gF σ2 10 ≠ 1 ∧ rng (gF σ2 10) := by omega
    refine ⟨false, ?_, ?_, fun z => (by cases z)⟩
    · unfold f_Reader_isName
      rw [gd_t (by omega), if_neg c]; rfl
    · unfold f_M_isName
      rw [gd_t (by omega), if_neg n1]
      by_cases r64 : rng64 (gF σ2 16)
      · have hm := M_nm16 (F := F) (σ := σ2) rfl r64 h5 8 F 0 false (by omega) rfl
        exact hm
      · have hz : ∀ (d m k : Nat), d < m → k + d = 8 → l_M_isName_16 F m σ2 0 (k : Nat) = some (0, σ2) := by
          intro d
          induction d with
          | zero =>
            intro m k hm hk
            obtain ⟨m, rfl⟩ : ∃ e, m = e + 1 := ⟨m - 1, by omega⟩
            show b_M_isName_16 F _ σ2 _ _ = _
            unfold b_M_isName_16
            rw [gd_t (by omega), if_pos (by omega), gd_t (by decide)]
          | succ d ih =>
            intro m k hm hk
            obtain ⟨m, rfl⟩ : ∃ e, m = e + 1 := ⟨m - 1, by omega⟩
            show b_M_isName_16 F _ σ2 _ _ = _
            unfold b_M_isName_16
            rw [gd_t (by omega), if_neg (by omega), gd_t (by decide), if_pos rfl, bv_s]
            exact ih m (k + 1) (by omega) (by omega)
        exact hz 8 F 0 (by omega) rfl
/-- which of the told names it is -/
def fdN (f : Nat → Int) (w : Int) : Nat → Nat → Int
  | 0, _ => -1
  | d + 1, i => if f i = w then (i : Nat) else fdN f w d (i + 1)
theorem fdN_b (f : Nat → Int) (w : Int) : ∀ d i, fdN f w d i = -1 ∨ ((i : Int) ≤ fdN f w d i ∧ fdN f w d i < i + d)
  | 0, _ => Or.inl rfl
  | d + 1, i => by
    unfold fdN
    by_cases c : f i = w
    · rw [if_pos c]; omega
    · rw [if_neg c]
      rcases fdN_b f w d (i + 1) with h | h
      · exact Or.inl h
      · omega
theorem fdN_c {f g : Nat → Int} {w : Int} : ∀ d i, (∀ j, i ≤ j → j < i + d → f j = g j) → fdN f w d i = fdN g w d i
  | 0, _, _ => rfl
  | d + 1, i, h => by
    unfold fdN
    rw [h i (by omega) (by omega), fdN_c d (i + 1) (fun j h1 h2 => h j (by omega) (by omega))]
theorem M_fd {σ : St} {w : Int} {fr n : Nat} (h16 : gF σ 16 = w) (hw : rng64 w) (hfr : fr + n ≤ 20) (h4 : ∀ i, i < n → rng64 (gA σ 4 (fr + i))) : ∀ (d m i : Nat), d < m → i + d = n → l_M_find_2 F m σ (fr : Nat) (n : Nat) (i : Nat) = some (fdN (fun k => gA σ 4 (fr + k)) w d i, σ)
  | _, 0, _, h, _ => absurd h (Nat.not_lt_zero _)
  | 0, m + 1, i, _, hi => by
    show b_M_find_2 F _ σ _ _ _ = _
    unfold b_M_find_2
    rw [gd_t (by omega), if_pos (by omega)]; rfl
  | d + 1, m + 1, i, hm, hi => by
    show b_M_find_2 F _ σ _ _ _ = _
    unfold b_M_find_2 fdN
    rw [gd_t (by omega), if_neg (by omega), gd_t (by omega), show Int.toNat ((fr : Int) + (i : Int)) = fr + i by omega, h16, gd_t ⟨h4 i (by omega), hw⟩]
    by_cases c : gA σ 4 (fr + i) = w
    · rw [if_pos c, if_pos c]
    · rw [if_neg c, if_neg c, bv_s]
      exact M_fd h16 hw hfr h4 d m (i + 1) (by omega) (by omega)
theorem W_fds {σ : St} {w : Int} {n : Nat} (h9 : gF σ 199 = w) (hw : rng64 w) (hn : n ≤ 6) (h4 : ∀ i, i < n → rng64 (gA σ 4 i)) : ∀ (d m i : Nat), d < m → i + d = n → l_Reader_placeOf_senderName_2 F m σ (n : Nat) (i : Nat) = some (fdN (fun k => gA σ 4 k) w d i, σ)
  | _, 0, _, h, _ => absurd h (Nat.not_lt_zero _)
  | 0, m + 1, i, _, hi => by
    show b_Reader_placeOf_senderName_2 F _ σ _ _ = _
    unfold b_Reader_placeOf_senderName_2
    rw [gd_t (by omega), if_pos (by omega)]; rfl
  | d + 1, m + 1, i, hm, hi => by
    show b_Reader_placeOf_senderName_2 F _ σ _ _ = _
    unfold b_Reader_placeOf_senderName_2 fdN
    rw [gd_t (by omega), if_neg (by omega), gd_t (by omega), if_neg (by omega), gd_t (by omega), Int.toNat_natCast, h9, gd_t ⟨h4 i (by omega), hw⟩]
    by_cases c : gA σ 4 i = w
    · rw [if_pos c, if_pos c]
    · rw [if_neg c, if_neg c, bv_s]
      exact W_fds h9 hw hn h4 d m (i + 1) (by omega) (by omega)
theorem W_fdt {σ : St} {w : Int} {n : Nat} (h9 : gF σ 199 = w) (hw : rng64 w) (hn : n ≤ 4) (h4 : ∀ i, i < n → rng64 (gA σ 5 i)) : ∀ (d m i : Nat), d < m → i + d = n → l_Reader_placeOf_stationName_2 F m σ (n : Nat) (i : Nat) = some (fdN (fun k => gA σ 5 k) w d i, σ)
  | _, 0, _, h, _ => absurd h (Nat.not_lt_zero _)
  | 0, m + 1, i, _, hi => by
    show b_Reader_placeOf_stationName_2 F _ σ _ _ = _
    unfold b_Reader_placeOf_stationName_2
    rw [gd_t (by omega), if_pos (by omega)]; rfl
  | d + 1, m + 1, i, hm, hi => by
    show b_Reader_placeOf_stationName_2 F _ σ _ _ = _
    unfold b_Reader_placeOf_stationName_2 fdN
    rw [gd_t (by omega), if_neg (by omega), gd_t (by omega), if_neg (by omega), gd_t (by omega), Int.toNat_natCast, h9, gd_t ⟨h4 i (by omega), hw⟩]
    by_cases c : gA σ 5 i = w
    · rw [if_pos c, if_pos c]
    · rw [if_neg c, if_neg c, bv_s]
      exact W_fdt h9 hw hn h4 d m (i + 1) (by omega) (by omega)
/-- both find the same sender -/
theorem T_fds (hF : 100 ≤ F) (hD : DRd σ1 σ2) (h9 : gF σ1 199 = gF σ2 16) (hw : rng64 (gF σ2 16)) : ∃ r : Int, f_Reader_placeOf_senderName F σ1 (gA σ2 3 2) = some (r, σ1) ∧ f_M_find F σ2 10 (gA σ2 3 2) = some (r, σ2) ∧ (r = -1 ∨ (0 ≤ r ∧ r < gA σ2 3 2)) := by
  obtain ⟨-, -, ⟨-, s0, s6⟩, -, -, -, -, -, -, -, -, hn, -, -⟩ := hD
  obtain ⟨n, en⟩ := Int.eq_ofNat_of_zero_le s0
  rw [en] at hn s6 ⊢
  have e1 := W_fds (F := F) (σ := σ1) (n := n) h9 hw (by omega) (fun i hi => by rw [(hn i (by omega)).1]; exact (hn i (by omega)).2) n F 0 (by omega) (by omega)
  have e2 := M_fd (F := F) (σ := σ2) (fr := 10) (n := n) rfl hw (by omega) (fun i hi => (hn i (by omega)).2) n F 0 (by omega) (by omega)
  have ec : fdN (fun k => gA σ1 4 k) (gF σ2 16) n 0 = fdN (fun k => gA σ2 4 (10 + k)) (gF σ2 16) n 0 := fdN_c n 0 (fun j _ h2 => (hn j (by omega)).1)
  refine ⟨_, e1, by rw [ec]; exact e2, ?_⟩
  rcases fdN_b (fun k => gA σ1 4 k) (gF σ2 16) n 0 with h | h
  · exact Or.inl h
  · exact Or.inr (by omega)
theorem T_fdt (hF : 100 ≤ F) (hD : DRd σ1 σ2) (h9 : gF σ1 199 = gF σ2 16) (hw : rng64 (gF σ2 16)) : ∃ r : Int, f_Reader_placeOf_stationName F σ1 (gA σ2 3 3) = some (r, σ1) ∧ f_M_find F σ2 16 (gA σ2 3 3) = some (r, σ2) ∧ (r = -1 ∨ (0 ≤ r ∧ r < gA σ2 3 3)) := by
  obtain ⟨-, -, -, ⟨-, s0, s6⟩, -, -, -, -, -, -, -, -, hn, -⟩ := hD
  obtain ⟨n, en⟩ := Int.eq_ofNat_of_zero_le s0
  rw [en] at hn s6 ⊢
  have e1 := W_fdt (F := F) (σ := σ1) (n := n) h9 hw (by omega) (fun i hi => by rw [(hn i (by omega)).1]; exact (hn i (by omega)).2) n F 0 (by omega) (by omega)
  have e2 := M_fd (F := F) (σ := σ2) (fr := 16) (n := n) rfl hw (by omega) (fun i hi => (hn i (by omega)).2) n F 0 (by omega) (by omega)
  have ec : fdN (fun k => gA σ1 5 k) (gF σ2 16) n 0 = fdN (fun k => gA σ2 4 (16 + k)) (gF σ2 16) n 0 := fdN_c n 0 (fun j _ h2 => (hn j (by omega)).1)
  refine ⟨_, e1, by rw [ec]; exact e2, ?_⟩
  rcases fdN_b (fun k => gA σ1 5 k) (gF σ2 16) n 0 with h | h
  · exact Or.inl h
  · exact Or.inr (by omega)
end
