/-! PURE PART: fewest, the model's -/
def MQF (σ σ' : St) : Prop := (∀ q, q ≠ 25 → q ≠ 26 → q ≠ 27 → gF σ' q = gF σ q) ∧ ∀ a, a ≠ 7 → a ≠ 8 → a ≠ 14 → a ≠ 15 → a ≠ 16 → ∀ i, gA σ' a i = gA σ a i
theorem MQF.tr {a b c : St} (h : MQF a b) (g : MQF b c) : MQF a c := ⟨fun q h1 h2 h3 => (g.1 q h1 h2 h3).trans (h.1 q h1 h2 h3), fun x h1 h2 h3 h4 h5 i => (g.2 x h1 h2 h3 h4 h5 i).trans (h.2 x h1 h2 h3 h4 h5 i)⟩
theorem MPF.Q {a b : St} (h : MPF a b) : MQF a b := ⟨h.1, fun x h1 h2 h3 _ _ i => h.2 x h1 h2 h3 i⟩
/-- the numbers with which a set makes them -/
def byS (s g : Nat → Int) (x : List Nat) (i : Nat) : Int := shS (PR (s 0)) (cD (kmP 0) (s 1).toNat 0) x.length (KM s x.length 0 (pkx x) g) i
def ST2 (σ : St) (s g : Nat → Int) (z : Nat × List Nat) : Prop := 0 < z.1 → ∀ i, i < z.2.length → gA σ 15 i = (z.2.getD i 0 : Nat) ∧ gA σ 16 i = byS s g z.2 i
section
variable {F : Nat} {s : Nat → Int} {g : Nat → Int}
theorem M_f66 (hI : MI s) (k23 : St → Int → Option (Int × St)) (k36 : St → Int → Int → Int → Option (Int × St)) {x : List Nat} (hk : x.length ≤ 3) {sets : Int} : ∀ (d m : Nat) (σ : St) (c : Nat), d < m → c + d = x.length → gF σ 25 = ((x.length + 1 : Nat) : Int) → MB σ (cD (kmP 0) (s 1).toNat 0) (x.length + 1) (el (PR (s 0)) (cD (kmP 0) (s 1).toNat 0) x.length (KM s x.length 0 (pkx x) g)).2.1 → (∀ i, i < x.length → gA σ 8 i = (el (PR (s 0)) (cD (kmP 0) (s 1).toNat 0) x.length (KM s x.length 0 (pkx x) g)).2.2.1 i) → (∀ i, i < x.length → gA σ 14 i = (x.getD i 0 : Nat)) → (∀ i, i < c → gA σ 15 i = (x.getD i 0 : Nat) ∧ gA σ 16 i = byS s g x i) → ∃ σ', l_M_fewest_66 F k23 k36 m σ (x.length : Nat) sets (c : Nat) = (bnd (f_M_nextPick F σ' (x.length : Nat)) fun r12 σ13 => k36 σ13 (x.length : Nat) sets r12) ∧ (∀ i, i < x.length → gA σ' 15 i = (x.getD i 0 : Nat) ∧ gA σ' 16 i = byS s g x i) ∧ (∀ q, gF σ' q = gF σ q) ∧ ∀ a, a ≠ 15 → a ≠ 16 → ∀ i, gA σ' a i = gA σ a i
  | _, 0, _, _, h, _, _, _, _, _, _ => absurd h (Nat.not_lt_zero _)
  | 0, m + 1, σ, c, _, hc, h25, hM, h8, h14, h15 => by
    refine ⟨σ, ?_, fun i hi => h15 i (by omega), fun _ => rfl, fun _ _ _ _ => rfl⟩
    show b_M_fewest_66 F k23 k36 _ σ _ _ _ = _
    unfold b_M_fewest_66
    rw [gd_t (by omega), if_pos (by omega)]
  | d + 1, m + 1, σ, c, hm, hc, h25, hM, h8, h14, h15 => by
    have i1 := hI.2.1
    have hle := cD_le (kmP 0) (s 1).toNat 0
    have hsz : (x.length + 1) * cD (kmP 0) (s 1).toNat 0 ≤ 4 * 10 := Nat.mul_le_mul (by omega) (by omega)
    have hM1 : MB (sA σ 15 c (x.getD c 0 : Nat)) (cD (kmP 0) (s 1).toNat 0) (x.length + 1) (el (PR (s 0)) (cD (kmP 0) (s 1).toNat 0) x.length (KM s x.length 0 (pkx x) g)).2.1 := fun r k a b => by rw [gA_sA, if_neg (by omega)]; exact hM r k a b
    have sh := M_share (F := F) (σ := sA σ 15 c (x.getD c 0 : Nat)) hI.1 (high := cD (kmP 0) (s 1).toNat 0) (cols := x.length) (c := c) (A := KM s x.length 0 (pkx x) g) (by omega) (by omega) (by omega) h25 hM1 (fun i hi => by rw [gA_sA, if_neg (by omega)]; exact h8 i hi)
    obtain ⟨σ', k1, k2, k3, k4⟩ := M_f66 hI k23 k36 hk d m (sA (sA σ 15 c (x.getD c 0 : Nat)) 16 c (byS s g x c)) (c + 1) (by omega) (by omega) h25 (fun r k a b => by rw [gA_sA, if_neg (by omega)]; exact hM1 r k a b) (fun i hi => by rw [gA_sA, if_neg (by omega), gA_sA, if_neg (by omega)]; exact h8 i hi) (fun i hi => by rw [gA_sA, if_neg (by omega), gA_sA, if_neg (by omega)]; exact h14 i hi) (fun i hi => by
      rw [gA_sA, if_neg (by omega), gA_sA, gA_sA, gA_sA]
      by_cases w : i = c
      · rw [if_pos ⟨rfl, w⟩, if_pos ⟨rfl, w⟩, w]; exact ⟨rfl, rfl⟩
      · rw [if_neg (fun z => w z.2), if_neg (fun z => w z.2), if_neg (by omega)]; exact h15 i (by omega))
    refine ⟨σ', ?_, k2, k3, fun a h1 h2 i => by rw [k4 a h1 h2, gA_sA, if_neg (fun z => h2 z.1), gA_sA, if_neg (fun z => h1 z.1)]⟩
    rw [← k1]
    show b_M_fewest_66 F k23 k36 _ σ _ _ _ = _
    unfold b_M_fewest_66
    rw [gd_t (by omega), if_neg (by omega), gd_t (by omega), gd_t (by omega), bs_s, Int.toNat_natCast, h14 c (by omega), sh, bnd_s, gd_t (by omega), bs_s, bv_s]; rfl
theorem M_f36 (hF : 3000 ≤ F) (hI : MI s) (hg : ∀ h : Nat, (h : Int) < s 1 → 0 ≤ g h ∧ g h < PR (s 0)) (k23 : St → Int → Option (Int × St)) {k : Nat} (hk : k ≤ 3) (hkn : k ≤ (s 0).toNat) : ∀ (l : List (List Nat)) (m : Nat) (σ : St) (z : Nat × List Nat), l.length < m → Chn (s 0).toNat l none → (∀ x, x ∈ l → x.length = k ∧ ∀ i, i < x.length → x.getD i 0 < (s 0).toNat) → (∀ x l', l = x :: l' → ∀ i, i < k → gA σ 14 i = (x.getD i 0 : Nat)) → MV σ s → (∀ h : Nat, (h : Int) < s 1 → gA σ 12 h = g h) → ST2 σ s g z → z.1 + l.length ≤ 1000000000 → ∃ σ', l_M_fewest_36 F k23 m σ (k : Nat) (z.1 : Nat) (fl l) = (if (fol false (Gm s 0 g) z l).1 = 0 then k23 σ' ((k + 1 : Nat) : Int) else some ((k : Nat), sF (sF σ' 41 (k : Nat)) 42 ((fol false (Gm s 0 g) z l).1 : Nat))) ∧ ST2 σ' s g (fol false (Gm s 0 g) z l) ∧ MQF σ σ' ∧ ((fol false (Gm s 0 g) z l).1 = 0 → ∀ a, a = 15 ∨ a = 16 → ∀ i, gA σ' a i = gA σ a i)
  | _, 0, _, _, h, _, _, _, _, _, _, _ => absurd h (Nat.not_lt_zero _)
  | [], m + 1, σ, z, _, _, _, _, hV, _, hS, hz => by
    refine ⟨σ, ?_, hS, ⟨fun _ _ _ _ => rfl, fun _ _ _ _ _ _ _ => rfl⟩, fun _ _ _ _ => rfl⟩
    rw [fol_nil]
    show b_M_fewest_36 F k23 _ σ _ _ 0 = _
    unfold b_M_fewest_36
    have hz' : z.1 ≤ 1000000000 := by rw [List.length_nil] at hz; omega
    rw [gd_t (by decide), if_pos rfl, gd_t (by omega)]
    by_cases c : z.1 = 0
    · rw [if_pos (by omega), if_pos c, bv_s]; rfl
    · rw [if_neg (by omega), if_neg c, bs_s, bs_s]
  | x :: l, m + 1, σ, z, hm, hC, hl, hp, hV, h12, hS, hz => by
    obtain ⟨x1, x2⟩ := hl x List.mem_cons_self
    obtain ⟨f1, f2⟩ := fl_nx hC
    rw [List.length_cons] at hz hm
    have p0 := hp x l rfl
    obtain ⟨s1, a1, a2, a3, a4, a5, a6⟩ := M_makesx (F := F) hF hI (S := 0) (by omega) hg (x := x) (by omega) x2 hV (fun i hi => p0 i (by omega)) h12
    have hV1 : MV s1 s := MV_of hV (a5 20 (by omega) (by omega) (by omega)) (a5 21 (by omega) (by omega) (by omega)) (fun i => a6 2 (by omega) (by omega) i) (fun i => a6 6 (by omega) (by omega) i)
    have m1 : MQF σ s1 := ⟨a5, fun a h1 h2 h3 h4 h5 i => a6 a h1 h2 i⟩
    have p1 : ∀ i, i < x.length → gA s1 14 i = (x.getD i 0 : Nat) := fun i hi => by rw [a6 14 (by omega) (by omega)]; exact p0 i (by omega)
    have h121 : ∀ h : Nat, (h : Int) < s 1 → gA s1 12 h = g h := fun h hh => by rw [a6 12 (by omega) (by omega)]; exact h12 h hh
    rw [fol_cons]
    have start : ∀ w : Int, l_M_fewest_36 F k23 (m + 1) σ (k : Nat) w 1 = bnd (f_M_makes F σ (k : Nat) 0) fun r9 σ10 => gd (rng r9) (if r9 = 0 then bnd (f_M_nextPick F σ10 (k : Nat)) fun r21 σ22 => l_M_fewest_36 F k23 m σ22 (k : Nat) w r21 else bv (w + 1) fun x2_11 => gd (rng x2_11 ∧ rng 1) (if x2_11 ≤ 1 then l_M_fewest_66 F k23 (l_M_fewest_36 F k23 m) F σ10 (k : Nat) x2_11 0 else bnd (f_M_nextPick F σ10 (k : Nat)) fun r19 σ20 => l_M_fewest_36 F k23 m σ20 (k : Nat) x2_11 r19)) := fun w => by
      show b_M_fewest_36 F k23 _ σ _ _ 1 = _
      unfold b_M_fewest_36
      rw [gd_t (by decide), if_neg (by decide)]
    have next : ∀ (s2 : St) (z' : Nat × List Nat), MV s2 s → (∀ i, i < x.length → gA s2 14 i = (x.getD i 0 : Nat)) → (∀ h : Nat, (h : Int) < s 1 → gA s2 12 h = g h) → ST2 s2 s g z' → z'.1 ≤ z.1 + 1 → ∃ σ', (bnd (f_M_nextPick F s2 (k : Nat)) fun r σ => l_M_fewest_36 F k23 m σ (k : Nat) (z'.1 : Nat) r) = (if (fol false (Gm s 0 g) z' l).1 = 0 then k23 σ' ((k + 1 : Nat) : Int) else some ((k : Nat), sF (sF σ' 41 (k : Nat)) 42 ((fol false (Gm s 0 g) z' l).1 : Nat))) ∧ ST2 σ' s g (fol false (Gm s 0 g) z' l) ∧ MQF s2 σ' ∧ ((fol false (Gm s 0 g) z' l).1 = 0 → ∀ a, a = 15 ∨ a = 16 → ∀ i, gA σ' a i = gA s2 a i) := fun s2 z' hV2 p2 h122 hS2 hz2 => by
      obtain ⟨s3, b1, b2, b3, b4⟩ := M_nextPick (F := F) hI (by omega) (x := x) (by omega) (by omega) x2 hV2 p2
      have m2 : MQF s2 s3 := ⟨fun q _ _ _ => b3 q, fun a h1 h2 h3 h4 h5 i => b4 a h3 i⟩
      obtain ⟨σ', k1, k2, k3, k4⟩ := M_f36 hF hI hg k23 hk hkn l m s3 z' (by omega) hC.2 (fun y hy => hl y (List.mem_cons_of_mem _ hy)) (fun y l' e i hi => b2 y (f2 y l' e) i (by omega)) (MV_of hV2 (b3 20) (b3 21) (fun i => b4 2 (by omega) i) (fun i => b4 6 (by omega) i)) (fun h hh => by rw [b4 12 (by omega)]; exact h122 h hh) (fun h i hi => by rw [b4 15 (by omega), b4 16 (by omega)]; exact hS2 h i hi) (by omega)
      refine ⟨σ', ?_, k2, m2.tr k3, fun h a ha i => by rw [k4 h a ha, b4 a (by omega)]⟩
      rw [x1, f1] at b1
      rw [b1, bnd_s, k1]
    rw [x1] at a1
    by_cases c : Gm s 0 g x = true
    · have e : stp false (Gm s 0 g) z x = (z.1 + 1, if z.1 = 0 then x else z.2) := by unfold stp; rw [if_neg (fun h => by cases h.1), if_pos c]
      rw [e]
      by_cases z0 : z.1 = 0
      · obtain ⟨s2, b1, b2, b3, b4⟩ := M_f66 (F := F) hI k23 (l_M_fewest_36 F k23 m) (x := x) (g := g) (sets := ((z.1 : Nat) : Int) + 1) (by omega) x.length F s1 0 (by omega) (by omega) a2 a3 a4 p1 (fun i h => by omega)
        have m2 : MQF s1 s2 := ⟨fun q _ _ _ => b3 q, fun a h1 h2 h3 h4 h5 i => b4 a h4 h5 i⟩
        obtain ⟨σ', k1, k2, k3, k4⟩ := next s2 (z.1 + 1, if z.1 = 0 then x else z.2) (MV_of hV1 (b3 20) (b3 21) (fun i => b4 2 (by omega) (by omega) i) (fun i => b4 6 (by omega) (by omega) i)) (fun i hi => by rw [b4 14 (by omega) (by omega)]; exact p1 i hi) (fun h hh => by rw [b4 12 (by omega) (by omega)]; exact h121 h hh) (fun _ i hi => by
          show gA s2 15 i = (((if z.1 = 0 then x else z.2).getD i 0 : Nat) : Int) ∧ gA s2 16 i = byS s g (if z.1 = 0 then x else z.2) i
          change i < (if z.1 = 0 then x else z.2).length at hi
          rw [if_pos z0] at hi ⊢
          exact b2 i hi) (by show z.1 + 1 ≤ z.1 + 1; omega)
        refine ⟨σ', ?_, k2, (m1.tr m2).tr k3, fun h => ?_⟩
        · rw [← k1]
          show l_M_fewest_36 F k23 (m + 1) σ (k : Nat) (z.1 : Nat) 1 = _
          rw [x1] at b1
          rw [start, show f_M_makes F σ (k : Nat) 0 = _ from a1, bnd_s, c, gd_t (by decide), if_neg (by decide), bv_s, gd_t (by omega), if_pos (by omega)]
          exact b1
        · exfalso
          have := (fol_le (one := false) (G := Gm s 0 g) l (z := (z.1 + 1, if z.1 = 0 then x else z.2))).1
          rw [h] at this
          change z.1 + 1 ≤ 0 at this
          omega
      · obtain ⟨σ', k1, k2, k3, k4⟩ := next s1 (z.1 + 1, if z.1 = 0 then x else z.2) hV1 p1 h121 (fun _ i hi => by
          show gA s1 15 i = (((if z.1 = 0 then x else z.2).getD i 0 : Nat) : Int) ∧ gA s1 16 i = byS s g (if z.1 = 0 then x else z.2) i
          change i < (if z.1 = 0 then x else z.2).length at hi
          rw [if_neg z0] at hi ⊢
          rw [a6 15 (by omega) (by omega), a6 16 (by omega) (by omega)]
          exact hS (by omega) i hi) (by show z.1 + 1 ≤ z.1 + 1; omega)
        refine ⟨σ', ?_, k2, m1.tr k3, fun h => ?_⟩
        · rw [← k1]
          show l_M_fewest_36 F k23 (m + 1) σ (k : Nat) (z.1 : Nat) 1 = _
          rw [start, show f_M_makes F σ (k : Nat) 0 = _ from a1, bnd_s, c, gd_t (by decide), if_neg (by decide), bv_s, gd_t (by omega), if_neg (by omega)]; rfl
        · exfalso
          have := (fol_le (one := false) (G := Gm s 0 g) l (z := (z.1 + 1, if z.1 = 0 then x else z.2))).1
          rw [h] at this
          change z.1 + 1 ≤ 0 at this
          omega
    · have c' : Gm s 0 g x = false := by simpa using c
      have e : stp false (Gm s 0 g) z x = z := by unfold stp; rw [if_neg (fun h => by cases h.1), if_neg c]
      rw [e]
      obtain ⟨σ', k1, k2, k3, k4⟩ := next s1 z hV1 p1 h121 (fun h i hi => by rw [a6 15 (by omega) (by omega), a6 16 (by omega) (by omega)]; exact hS h i hi) (by omega)
      refine ⟨σ', ?_, k2, m1.tr k3, fun h a ha i => by rw [k4 h a ha, a6 a (by omega) (by omega)]⟩
      rw [← k1]
      show l_M_fewest_36 F k23 (m + 1) σ (k : Nat) (z.1 : Nat) 1 = _
      rw [start, show f_M_makes F σ (k : Nat) 0 = _ from a1, bnd_s, c', gd_t (by decide), if_pos (show bi false = 0 from rfl)]
theorem cnt_len {one : Bool} {G : List Nat → Bool} {k : Nat} (h : 0 < (cntK s one G k).1) : (cntK s one G k).2 ∈ en (s 0).toNat k 0 ∧ G (cntK s one G k).2 = true := (fol_mem (en (s 0).toNat k 0) (z := (0, []))).2 rfl h
theorem M_f23 (hF : 300000 ≤ F) (hI : MI s) (hg : ∀ h : Nat, (h : Int) < s 1 → 0 ≤ g h ∧ g h < PR (s 0)) : ∀ (d m : Nat) (σ : St) (k : Nat), d < m → k + d = 4 → MV σ s → (∀ h : Nat, (h : Int) < s 1 → gA σ 12 h = g h) → (∀ j, j < k → (cntK s false (Gm s 0 g) j).1 = 0) → ∃ r σ', l_M_fewest_23 F m σ (k : Nat) = some (r, σ') ∧ (∀ q, q ≠ 25 → q ≠ 26 → q ≠ 27 → q ≠ 41 → q ≠ 42 → gF σ' q = gF σ q) ∧ (∀ a, a ≠ 7 → a ≠ 8 → a ≠ 14 → a ≠ 15 → a ≠ 16 → ∀ i, gA σ' a i = gA σ a i) ∧ ((∃ k' : Nat, k' ≤ 3 ∧ r = k' ∧ (∀ j, j < k' → (cntK s false (Gm s 0 g) j).1 = 0) ∧ 0 < (cntK s false (Gm s 0 g) k').1 ∧ gF σ' 41 = (k' : Nat) ∧ gF σ' 42 = ((cntK s false (Gm s 0 g) k').1 : Nat) ∧ ST2 σ' s g (cntK s false (Gm s 0 g) k')) ∨ (r = -1 ∧ (∀ j, j ≤ 3 → (cntK s false (Gm s 0 g) j).1 = 0) ∧ gF σ' 41 = gF σ 41 ∧ gF σ' 42 = gF σ 42 ∧ ∀ a, a = 15 ∨ a = 16 → ∀ i, gA σ' a i = gA σ a i))
  | _, 0, _, _, h, _, _, _, _ => absurd h (Nat.not_lt_zero _)
  | 0, m + 1, σ, k, _, hk, hV, _, hz => by
    refine ⟨-1, σ, ?_, fun _ _ _ _ _ _ => rfl, fun _ _ _ _ _ _ _ => rfl, Or.inr ⟨rfl, fun j hj => hz j (by omega), rfl, rfl, fun _ _ _ => rfl⟩⟩
    show b_M_fewest_23 F _ σ _ = _
    unfold b_M_fewest_23
    rw [gd_t (by omega), if_pos (by omega)]
  | d + 1, m + 1, σ, k, hm, hk, hV, h12, hz => by
    have i0 := hI.1
    have hb : (en (s 0).toNat k 0).length ≤ 226981 := by
      have h2 := en_len (s 0).toNat k 0
      have h3 : ((s 0).toNat + 1) ^ k ≤ 61 ^ k := Nat.pow_le_pow_left (by omega) k
      have h4 : 61 ^ k ≤ 61 ^ 3 := Nat.pow_le_pow_right (by omega) (by omega)
      omega
    obtain ⟨s1, a1, a2, a3, a4⟩ := M_fp2 (F := F) hI (k := k) (by omega) k F σ 0 (by omega) (by omega) hV (fun i h => by omega)
    have m1 : MQF σ s1 := ⟨fun q _ _ _ => a3 q, fun a h1 h2 h3 h4 h5 i => a4 a h3 i⟩
    have hV1 : MV s1 s := MV_of hV (a3 20) (a3 21) (fun i => a4 2 (by omega) i) (fun i => a4 6 (by omega) i)
    have h12' : ∀ h : Nat, (h : Int) < s 1 → gA s1 12 h = g h := fun h hh => by rw [a4 12 (by omega)]; exact h12 h hh
    have e : l_M_fewest_23 F (m + 1) σ (k : Nat) = l_M_fewest_36 F (l_M_fewest_23 F m) F s1 (k : Nat) 0 (fl (en (s 0).toNat k 0)) := by
      show b_M_fewest_23 F _ σ _ = _
      unfold b_M_fewest_23
      rw [gd_t (by omega), if_neg (by omega), show f_M_firstPick F σ (k : Nat) = _ from a1, bnd_s, fl_en]
    have lis : ∃ s2, l_M_fewest_36 F (l_M_fewest_23 F m) F s1 (k : Nat) 0 (fl (en (s 0).toNat k 0)) = (if (cntK s false (Gm s 0 g) k).1 = 0 then l_M_fewest_23 F m s2 ((k + 1 : Nat) : Int) else some ((k : Nat), sF (sF s2 41 (k : Nat)) 42 ((cntK s false (Gm s 0 g) k).1 : Nat))) ∧ ST2 s2 s g (cntK s false (Gm s 0 g) k) ∧ MQF s1 s2 ∧ ((cntK s false (Gm s 0 g) k).1 = 0 → ∀ a, a = 15 ∨ a = 16 → ∀ i, gA s2 a i = gA s1 a i) := by
      by_cases c : k ≤ (s 0).toNat
      · exact M_f36 (F := F) (by omega) hI hg (l_M_fewest_23 F m) (by omega) c (en (s 0).toNat k 0) F s1 (0, []) (by omega) (Chn_en _ _ _ (by omega)) (fun x hx => en_lt hx) (fun x l' e i hi => by rw [a2 i hi, en_pk e hi]) hV1 h12' (fun h => absurd h (Nat.lt_irrefl 0)) (by show 0 + _ ≤ _; omega)
      · have he : en (s 0).toNat k 0 = [] := by
          have := en_head (s 0).toNat k 0
          rw [if_neg c] at this
          exact List.head?_eq_none_iff.mp this
        have ce : cntK s false (Gm s 0 g) k = (0, []) := by unfold cntK; rw [he]; rfl
        rw [he, ce]
        refine ⟨s1, ?_, fun h => absurd h (Nat.lt_irrefl 0), ⟨fun _ _ _ _ => rfl, fun _ _ _ _ _ _ _ => rfl⟩, fun _ _ _ _ => rfl⟩
        obtain ⟨F', rfl⟩ : ∃ F', F = F' + 1 := ⟨F - 1, by omega⟩
        show b_M_fewest_36 _ _ _ s1 _ _ 0 = _
        unfold b_M_fewest_36
        rw [gd_t (by decide), if_pos rfl, gd_t (by decide), if_pos rfl, bv_s]; rfl
    obtain ⟨s2, b1, b2, b3, b4⟩ := lis
    rw [e, b1]
    by_cases c : (cntK s false (Gm s 0 g) k).1 = 0
    · rw [if_pos c]
      obtain ⟨r, σ', k1, k2, k3, k4⟩ := M_f23 hF hI hg d m s2 (k + 1) (by omega) (by omega) (MV_of hV1 (b3.1 20 (by omega) (by omega) (by omega)) (b3.1 21 (by omega) (by omega) (by omega)) (fun i => b3.2 2 (by omega) (by omega) (by omega) (by omega) (by omega) i) (fun i => b3.2 6 (by omega) (by omega) (by omega) (by omega) (by omega) i)) (fun h hh => by rw [b3.2 12 (by omega) (by omega) (by omega) (by omega) (by omega)]; exact h12' h hh) (fun j hj => by
        by_cases w : j = k
        · rw [w]; exact c
        · exact hz j (by omega))
      refine ⟨r, σ', k1, fun q h1 h2 h3 h4 h5 => by rw [k2 q h1 h2 h3 h4 h5, b3.1 q h1 h2 h3, a3], fun a h1 h2 h3 h4 h5 i => by rw [k3 a h1 h2 h3 h4 h5, b3.2 a h1 h2 h3 h4 h5, a4 a h3], ?_⟩
      rcases k4 with h | ⟨h1, h2, h3, h4, h5⟩
      · exact Or.inl h
      · refine Or.inr ⟨h1, h2, by rw [h3, b3.1 _ (by omega) (by omega) (by omega), a3], by rw [h4, b3.1 _ (by omega) (by omega) (by omega), a3], fun a ha i => by rw [h5 a ha, b4 c a ha, a4 a (by omega)]⟩
    · rw [if_neg c]
      refine ⟨(k : Nat), _, rfl, fun q h1 h2 h3 h4 h5 => by rw [gF_sF, if_neg h5, gF_sF, if_neg h4, b3.1 q h1 h2 h3, a3], fun a h1 h2 h3 h4 h5 i => by rw [gA_sF, gA_sF, b3.2 a h1 h2 h3 h4 h5, a4 a h3], Or.inl ⟨k, by omega, rfl, hz, by omega, by rw [gF_sF, if_neg (by omega), gF_eq], by rw [gF_eq], b2⟩⟩
end
