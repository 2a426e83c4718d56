/-! PURE PART: what makes the readings, the model's loops -/
def MPF (σ σ' : St) : Prop := (∀ q, q ≠ 25 → q ≠ 26 → q ≠ 27 → gF σ' q = gF σ q) ∧ ∀ a, a ≠ 7 → a ≠ 8 → a ≠ 14 → ∀ i, gA σ' a i = gA σ a i
theorem MPF.rf {σ : St} : MPF σ σ := ⟨fun _ _ _ _ => rfl, fun _ _ _ _ _ => rfl⟩
theorem MPF.tr {a b c : St} (h : MPF a b) (g : MPF b c) : MPF a c := ⟨fun q h1 h2 h3 => (g.1 q h1 h2 h3).trans (h.1 q h1 h2 h3), fun x h1 h2 h3 i => (g.2 x h1 h2 h3 i).trans (h.2 x h1 h2 h3 i)⟩
theorem MPF.M {a b : St} (h : MPF a b) : MFr a b := by
  refine ⟨fun q hq => h.1 q ?_ ?_ ?_, fun x hx i => h.2 x ?_ ?_ ?_ i⟩
  · intro e; subst e; cases hq
  · intro e; subst e; cases hq
  · intro e; subst e; cases hq
  · intro e; subst e; cases hx
  · intro e; subst e; cases hx
  · intro e; subst e; cases hx
def fl (l : List (List Nat)) : Int := if l.isEmpty = true then 0 else 1
section
variable {F : Nat} {s : Nat → Int} {S : Nat} {g : Nat → Int}
theorem M_mk14 (hF : 3000 ≤ F) (hI : MI s) {k : Nat} {pk : Nat → Int} (hk : k ≤ 3) (hS : S < 2147483648) (hpk : ∀ c, c < k → 0 ≤ pk c ∧ pk c < s 0) (hg : ∀ h : Nat, (h : Int) < s 1 → 0 ≤ g h ∧ g h < PR (s 0)) : ∀ (d m : Nat) (σ : St) (h r : Nat), d < m → (h : Int) + d = s 1 → r ≤ h → MV σ s → gF σ 25 = ((k + 1 : Nat) : Int) → gF σ 26 = (r : Nat) → (∀ c, c < k → gA σ 14 c = pk c) → (∀ h : Nat, (h : Int) < s 1 → gA σ 12 h = g h) → r + cD (kmP S) d h = cD (kmP S) (s 1).toNat 0 → (∀ j, rtA (kmP S) (s 1).toNat 0 (r + j) = rtA (kmP S) d h j) → PM σ (k + 1) r 0 (KM s k S pk g) → ∃ σ', l_M_makes_14 F m σ (k : Nat) (S : Nat) (h : Nat) = some (bi (mdB (PR (s 0)) (cD (kmP S) (s 1).toNat 0) k (KM s k S pk g)), σ') ∧ gF σ' 25 = ((k + 1 : Nat) : Int) ∧ MB σ' (cD (kmP S) (s 1).toNat 0) (k + 1) (el (PR (s 0)) (cD (kmP S) (s 1).toNat 0) k (KM s k S pk g)).2.1 ∧ (∀ i, i < k → gA σ' 8 i = (el (PR (s 0)) (cD (kmP S) (s 1).toNat 0) k (KM s k S pk g)).2.2.1 i) ∧ (∀ q, q ≠ 26 → q ≠ 27 → gF σ' q = gF σ q) ∧ ∀ a, a ≠ 7 → a ≠ 8 → ∀ i, gA σ' a i = gA σ a i
  | _, 0, _, _, _, h, _, _, _, _, _, _, _, _, _, _ => absurd h (Nat.not_lt_zero _)
  | 0, m + 1, σ, h, r, _, hh, hrh, hV, h25, h26, h14, h12, hc, hr, hP => by
    have i1 := hI.2.1
    have v1 : gA σ 2 (Int.toNat 1) = s 1 := hV.1 1
    have e : cD (kmP S) 0 h = 0 := rfl
    have er : r = cD (kmP S) (s 1).toNat 0 := by omega
    have hle := cD_le (kmP S) (s 1).toNat 0
    have hsz : (k + 1) * cD (kmP S) (s 1).toNat 0 ≤ 4 * 10 := Nat.mul_le_mul (by omega) (by omega)
    obtain ⟨σ1, k1, k2, k3, k4, k5, k6, k7⟩ := M_isMade (F := F) hF hI.1 (σ := σ) (high := cD (kmP S) (s 1).toNat 0) (cols := k) (A := KM s k S pk g) (by omega) (by omega) (by omega) h25 (by rw [h26, er]) hV.2.1 (fun r' k' h1 h2 => hP r' k' h2 (by omega)) (KM_can hI hg)
    refine ⟨σ1, ?_, by rw [k6 _ (by omega)]; exact h25, k2, k5, fun q h1 h2 => k6 q h2, fun a h1 h2 i => k7 a h1 h2 i⟩
    show b_M_makes_14 F _ σ _ _ _ = _
    unfold b_M_makes_14
    rw [gd_t (by decide), v1, gd_t (by omega), if_pos (by omega), k1, bnd_s, gd_t (by cases mdB (PR (s 0)) (cD (kmP S) (s 1).toNat 0) k (KM s k S pk g) <;> decide)]
  | d + 1, m + 1, σ, h, r, hm, hh, hrh, hV, h25, h26, h14, h12, hc, hr, hP => by
    have i1 := hI.2.1
    have v1 : gA σ 2 (Int.toNat 1) = s 1 := hV.1 1
    have hhas := M_has (F := F) (σ := σ) hS (k := h) (by omega)
    by_cases q : kmP S h = true
    · have hb : tb S h = false := by rw [tb_iff]; unfold kmP at q; simpa using q
      have ec : cD (kmP S) (d + 1) h = 1 + cD (kmP S) d (h + 1) := by
        show (if kmP S h = true then 1 else 0) + cD (kmP S) d (h + 1) = _
        rw [if_pos q]
      have er : ∀ j, rtA (kmP S) (d + 1) h j = if j = 0 then h else rtA (kmP S) d (h + 1) (j - 1) := fun j => by
        show (if kmP S h = true then (if j = 0 then h else rtA (kmP S) d (h + 1) (j - 1)) else _) = _
        rw [if_pos q]
      have r0 : rtA (kmP S) (s 1).toNat 0 r = h := by have := hr 0; rw [er, if_pos rfl] at this; exact this
      obtain ⟨s1, a1, a2, a3, a4, a5⟩ := M_k38 (F := F) hI (l_M_makes_14 F m) (k := k) (S := S) (r := r) (h := h) (pk := pk) (g := g) hk (by omega) (by omega) r0 hpk k F σ 0 hV h25 h26 h14 h12 (by omega) (by omega) hP
      obtain ⟨σ', k1, k2, k3, k4, k5, k6⟩ := M_mk14 hF hI hk hS hpk hg d m s1 (h + 1) (r + 1) (by omega) (by omega) (by omega) (MV_of hV (a4 20 (by omega)) (a4 21 (by omega)) (fun i => a5 2 (by omega) i) (fun i => a5 6 (by omega) i)) (by rw [a4 25 (by omega)]; exact h25) a3 (fun c hc => by rw [a5 14 (by omega)]; exact h14 c hc) (fun h hh => by rw [a5 12 (by omega)]; exact h12 h hh) (by omega) (fun j => by rw [show r + 1 + j = r + (j + 1) by omega, hr, er, if_neg (by omega)]; rfl) a2
      refine ⟨σ', ?_, k2, k3, k4, fun q h1 h2 => by rw [k5 q h1 h2, a4 q h1], fun a h1 h2 i => by rw [k6 a h1 h2, a5 a h1]⟩
      rw [← k1]
      show b_M_makes_14 F _ σ _ _ _ = _
      unfold b_M_makes_14
      rw [gd_t (by decide), v1, gd_t (by omega), if_neg (by omega), hhas, bnd_s, hb, gd_t (by decide), if_pos (show bi false = 0 from rfl)]
      exact a1
    · have hb : tb S h = true := by rw [tb_iff]; unfold kmP at q; simpa using q
      have ec : cD (kmP S) (d + 1) h = cD (kmP S) d (h + 1) := by
        show (if kmP S h = true then 1 else 0) + cD (kmP S) d (h + 1) = _
        rw [if_neg q, Nat.zero_add]
      have er : ∀ j, rtA (kmP S) (d + 1) h j = rtA (kmP S) d (h + 1) j := fun j => by
        show (if kmP S h = true then _ else rtA (kmP S) d (h + 1) j) = _
        rw [if_neg q]
      obtain ⟨σ', k1, k2⟩ := M_mk14 hF hI hk hS hpk hg d m σ (h + 1) r (by omega) (by omega) (by omega) hV h25 h26 h14 h12 (by omega) (fun j => by rw [hr, er]) hP
      refine ⟨σ', ?_, k2⟩
      rw [← k1]
      show b_M_makes_14 F _ σ _ _ _ = _
      unfold b_M_makes_14
      rw [gd_t (by decide), v1, gd_t (by omega), if_neg (by omega), hhas, bnd_s, hb, gd_t (by decide), if_neg (by decide), bv_s]; rfl
/-- makes -/
theorem M_makesx (hF : 3000 ≤ F) (hI : MI s) (hS : S < 2147483648) (hg : ∀ h : Nat, (h : Int) < s 1 → 0 ≤ g h ∧ g h < PR (s 0)) {x : List Nat} (hk : x.length ≤ 3) (hx : ∀ i, i < x.length → x.getD i 0 < (s 0).toNat) {σ : St} (hV : MV σ s) (h14 : ∀ i, i < x.length → gA σ 14 i = (x.getD i 0 : Nat)) (h12 : ∀ h : Nat, (h : Int) < s 1 → gA σ 12 h = g h) : ∃ σ', f_M_makes F σ (x.length : Nat) (S : Nat) = some (bi (Gm s S g x), σ') ∧ gF σ' 25 = ((x.length + 1 : Nat) : Int) ∧ MB σ' (cD (kmP S) (s 1).toNat 0) (x.length + 1) (el (PR (s 0)) (cD (kmP S) (s 1).toNat 0) x.length (KM s x.length S (pkx x) g)).2.1 ∧ (∀ i, i < x.length → gA σ' 8 i = (el (PR (s 0)) (cD (kmP S) (s 1).toNat 0) x.length (KM s x.length S (pkx x) g)).2.2.1 i) ∧ (∀ q, q ≠ 25 → q ≠ 26 → q ≠ 27 → gF σ' q = gF σ q) ∧ ∀ a, a ≠ 7 → a ≠ 8 → ∀ i, gA σ' a i = gA σ a i := by
  have i0 := hI.1
  have i1 := hI.2.1
  obtain ⟨σ', k1, k2, k3, k4, k5, k6⟩ := M_mk14 hF hI (S := S) (k := x.length) (pk := pkx x) hk hS (fun c hc => by have := hx c hc; unfold pkx; omega) hg (s 1).toNat F (sF (sF σ 25 ((x.length : Nat) + 1)) 26 0) 0 0 (by omega) (by omega) (by omega) (MV_of hV rfl rfl (fun _ => rfl) (fun _ => rfl)) (by rw [gF_sF, if_neg (by omega), gF_eq]; omega) rfl h14 h12 (by rw [Nat.zero_add]) (fun j => by rw [Nat.zero_add]) (fun r k h1 h2 => by omega)
  refine ⟨σ', ?_, k2, k3, k4, fun q h1 h2 h3 => by rw [k5 q h2 h3, gF_sF, if_neg h2, gF_sF, if_neg h1], fun a h1 h2 i => by rw [k6 a h1 h2]; rfl⟩
  unfold f_M_makes
  rw [bs_s, bs_s]
  exact k1
theorem fl_nx {n : Nat} {x : List Nat} {l : List (List Nat)} (h : Chn n (x :: l) none) : (if (nx n x).isSome = true then (1 : Int) else 0) = fl l ∧ ∀ y l', l = y :: l' → nx n x = some y := by
  rw [h.1]
  cases l with
  | nil => exact ⟨rfl, fun y l' e => (by cases e)⟩
  | cons y l => exact ⟨rfl, fun y' l' e => by cases e; rfl⟩
theorem fl_en {n k : Nat} : fl (en n k 0) = if k ≤ n then 1 else 0 := by
  have h := en_head n k 0
  by_cases c : k ≤ n
  · rw [if_pos c] at h ⊢
    cases e : en n k 0 with
    | nil => rw [e] at h; cases h
    | cons y l => rfl
  · rw [if_neg c] at h ⊢
    rw [List.head?_eq_none_iff.mp h]; rfl
theorem en_pk {n k : Nat} {y : List Nat} {l : List (List Nat)} (h : en n k 0 = y :: l) {i : Nat} (hi : i < k) : y.getD i 0 = i := by
  have h1 := en_head n k 0
  rw [h] at h1
  by_cases c : k ≤ n
  · rw [if_pos c] at h1
    cases h1
    rw [upL_at k 0 i hi, Nat.zero_add]
  · rw [if_neg c] at h1; cases h1
theorem en_lt {n k : Nat} {x : List Nat} (h : x ∈ en n k 0) : x.length = k ∧ ∀ i, i < x.length → x.getD i 0 < n := by
  obtain ⟨h1, h2, h3⟩ := en_in _ _ _ _ h
  refine ⟨h1, fun i hi => ?_⟩
  have hm : x.getD i 0 ∈ x := by
    rw [List.getD_eq_getElem?_getD, List.getElem?_eq_getElem hi]
    exact List.getElem_mem hi
  have := h3 _ hm
  omega
/-- isHonest's inner loop -/
theorem M_ih14 (hF : 3000 ≤ F) (hI : MI s) (hS : S < 2147483648) (hg : ∀ h : Nat, (h : Int) < s 1 → 0 ≤ g h ∧ g h < PR (s 0)) (k2 : St → Int → Int → Int → Option (Int × St)) {j k : Nat} (hj : j ≤ 3) (hjn : j ≤ (s 0).toNat) : ∀ (l : List (List Nat)) (m : Nat) (σ : St), l.length < m → Chn (s 0).toNat l none → (∀ x, x ∈ l → x.length = j ∧ ∀ i, i < x.length → x.getD i 0 < (s 0).toNat) → (∀ x l', l = x :: l' → ∀ i, i < j → gA σ 14 i = (x.getD i 0 : Nat)) → MV σ s → (∀ h : Nat, (h : Int) < s 1 → gA σ 12 h = g h) → ∃ σ', l_M_isHonest_14 F k2 m σ (k : Nat) (S : Nat) (j : Nat) (fl l) = (if l.any (Gm s S g) = true then some (1, σ') else k2 σ' (k : Nat) (S : Nat) ((j + 1 : Nat) : Int)) ∧ MPF σ σ'
  | _, 0, _, h, _, _, _, _, _ => absurd h (Nat.not_lt_zero _)
  | [], m + 1, σ, _, _, _, _, hV, _ => by
    refine ⟨σ, ?_, MPF.rf⟩
    show b_M_isHonest_14 F k2 _ σ _ _ _ 0 = _
    unfold b_M_isHonest_14
    rw [gd_t (by decide), if_pos rfl, bv_s]; rfl
  | x :: l, m + 1, σ, hm, hC, hl, hp, hV, h12 => by
    obtain ⟨x1, x2⟩ := hl x List.mem_cons_self
    obtain ⟨f1, f2⟩ := fl_nx hC
    have p0 := hp x l rfl
    obtain ⟨s1, a1, a2, a3, a4, a5, a6⟩ := M_makesx (F := F) hF hI hS hg (x := x) (by omega) x2 hV (fun i hi => p0 i (by omega)) h12
    have hV1 : MV s1 s := MV_of hV (a5 20 (by omega) (by omega) (by omega)) (a5 21 (by omega) (by omega) (by omega)) (fun i => a6 2 (by omega) (by omega) i) (fun i => a6 6 (by omega) (by omega) i)
    have m1 : MPF σ s1 := ⟨a5, fun a h1 h2 h3 i => a6 a h1 h2 i⟩
    rw [x1] at a1
    by_cases c : Gm s S g x = true
    · refine ⟨s1, ?_, m1⟩
      rw [List.any_cons, c]
      show b_M_isHonest_14 F k2 _ σ _ _ _ 1 = _
      unfold b_M_isHonest_14
      rw [gd_t (by decide), if_neg (by decide), a1, c, bnd_s, gd_t (by decide), if_neg (by decide)]; rfl
    · have c' : Gm s S g x = false := by simpa using c
      obtain ⟨s2, b1, b2, b3, b4⟩ := M_nextPick (F := F) hI (by omega) (x := x) (by omega) (by omega) x2 hV1 (fun i hi => by rw [a6 14 (by omega) (by omega)]; exact p0 i (by omega))
      have m2 : MPF s1 s2 := ⟨fun q _ _ _ => b3 q, fun a h1 h2 h3 i => b4 a h3 i⟩
      obtain ⟨σ', k1, k3⟩ := M_ih14 hF hI hS hg k2 hj hjn l m s2 (by rw [List.length_cons] at hm; omega) hC.2 (fun y hy => hl y (List.mem_cons_of_mem _ hy)) (fun y l' e i hi => b2 y (f2 y l' e) i (by omega)) (MV_of hV1 (b3 20) (b3 21) (fun i => b4 2 (by omega) i) (fun i => b4 6 (by omega) i)) (fun h hh => by rw [b4 12 (by omega), a6 12 (by omega) (by omega)]; exact h12 h hh)
      refine ⟨σ', ?_, (m1.tr m2).tr k3⟩
      rw [List.any_cons, c', Bool.false_or, ← k1]
      rw [x1, f1] at b1
      show b_M_isHonest_14 F k2 _ σ _ _ _ 1 = _
      unfold b_M_isHonest_14
      rw [gd_t (by decide), if_neg (by decide), a1, c', bnd_s, gd_t (by decide), if_pos (show bi false = 0 from rfl), b1, bnd_s]
theorem M_ih2 (hF : 300000 ≤ F) (hI : MI s) (hS : S < 2147483648) (hg : ∀ h : Nat, (h : Int) < s 1 → 0 ≤ g h ∧ g h < PR (s 0)) {k : Nat} (hk : k ≤ 2) : ∀ (d m : Nat) (σ : St) (j : Nat), d < m → j + d = k + 1 → MV σ s → (∀ h : Nat, (h : Int) < s 1 → gA σ 12 h = g h) → ∃ b σ', l_M_isHonest_2 F m σ (k : Nat) (S : Nat) (j : Nat) = some (bi b, σ') ∧ MPF σ σ' ∧ (b = true ↔ ∃ i, j ≤ i ∧ i ≤ k ∧ (en (s 0).toNat i 0).any (Gm s S g) = true)
  | _, 0, _, _, h, _, _, _ => absurd h (Nat.not_lt_zero _)
  | 0, m + 1, σ, j, _, hj, hV, _ => by
    refine ⟨false, σ, ?_, MPF.rf, fun h => (by cases h), fun ⟨i, h1, h2, _⟩ => by omega⟩
    show b_M_isHonest_2 F _ σ _ _ _ = _
    unfold b_M_isHonest_2
    rw [gd_t (by omega), if_pos (by omega)]; rfl
  | d + 1, m + 1, σ, j, hm, hj, hV, h12 => by
    have i0 := hI.1
    have hb : (en (s 0).toNat j 0).length < F := by
      have h2 := en_len (s 0).toNat j 0
      have h3 : ((s 0).toNat + 1) ^ j ≤ 61 ^ j := Nat.pow_le_pow_left (by omega) j
      have h4 : 61 ^ j ≤ 61 ^ 3 := Nat.pow_le_pow_right (by omega) (by omega)
      omega
    obtain ⟨s1, a1, a2, a3, a4⟩ := M_fp2 (F := F) hI (k := j) (by omega) j F σ 0 (by omega) (by omega) hV (fun i h => by omega)
    have m1 : MPF σ s1 := ⟨fun q _ _ _ => a3 q, fun a h1 h2 h3 i => a4 a h3 i⟩
    have hV1 : MV s1 s := MV_of hV (a3 20) (a3 21) (fun i => a4 2 (by omega) i) (fun i => a4 6 (by omega) i)
    have h12' : ∀ h : Nat, (h : Int) < s 1 → gA s1 12 h = g h := fun h hh => by rw [a4 12 (by omega)]; exact h12 h hh
    have e : l_M_isHonest_2 F (m + 1) σ (k : Nat) (S : Nat) (j : Nat) = l_M_isHonest_14 F (l_M_isHonest_2 F m) F s1 (k : Nat) (S : Nat) (j : Nat) (fl (en (s 0).toNat j 0)) := by
      show b_M_isHonest_2 F _ σ _ _ _ = _
      unfold b_M_isHonest_2
      rw [gd_t (by omega), if_neg (by omega), show f_M_firstPick F σ (j : Nat) = _ from a1, bnd_s, fl_en]
    rw [e]
    have lis : ∃ s2, l_M_isHonest_14 F (l_M_isHonest_2 F m) F s1 (k : Nat) (S : Nat) (j : Nat) (fl (en (s 0).toNat j 0)) = (if (en (s 0).toNat j 0).any (Gm s S g) = true then some (1, s2) else l_M_isHonest_2 F m s2 (k : Nat) (S : Nat) ((j + 1 : Nat) : Int)) ∧ MPF s1 s2 := by
      by_cases c : j ≤ (s 0).toNat
      · exact M_ih14 (F := F) (by omega) hI hS hg (l_M_isHonest_2 F m) (by omega) c (en (s 0).toNat j 0) F s1 hb (Chn_en _ _ _ (by omega)) (fun x hx => en_lt hx) (fun x l' e i hi => by rw [a2 i hi, en_pk e hi]) hV1 h12'
      · have he : en (s 0).toNat j 0 = [] := by
          have := en_head (s 0).toNat j 0
          rw [if_neg c] at this
          exact List.head?_eq_none_iff.mp this
        rw [he]
        refine ⟨s1, ?_, MPF.rf⟩
        obtain ⟨F', rfl⟩ : ∃ F', F = F' + 1 := ⟨F - 1, by omega⟩
        show b_M_isHonest_14 _ _ _ s1 _ _ _ 0 = _
        unfold b_M_isHonest_14
        rw [gd_t (by decide), if_pos rfl, bv_s]; rfl
    obtain ⟨s2, b1, b2⟩ := lis
    by_cases c : (en (s 0).toNat j 0).any (Gm s S g) = true
    · exact ⟨true, s2, by rw [b1, if_pos c]; rfl, m1.tr b2, fun _ => ⟨j, by omega, by omega, c⟩, fun _ => rfl⟩
    · obtain ⟨b, σ', k1, k2, k3⟩ := M_ih2 hF hI hS hg hk d m s2 (j + 1) (by omega) (by omega) (MV_fr hV1 b2.M) (fun h hh => by rw [b2.2 12 (by omega) (by omega) (by omega)]; exact h12' h hh)
      refine ⟨b, σ', by rw [b1, if_neg c, k1], (m1.tr b2).tr k2, ?_⟩
      rw [k3]
      constructor
      · rintro ⟨i, h1, h2, h3⟩; exact ⟨i, by omega, h2, h3⟩
      · rintro ⟨i, h1, h2, h3⟩
        refine ⟨i, ?_, h2, h3⟩
        by_cases w : i = j
        · rw [w] at h3; exact absurd h3 c
        · omega
/-- isHonest -/
theorem M_isHonest (hF : 300000 ≤ F) (hI : MI s) (hS : S < 2147483648) (hg : ∀ h : Nat, (h : Int) < s 1 → 0 ≤ g h ∧ g h < PR (s 0)) {k : Nat} (hk : k ≤ 2) {σ : St} (hV : MV σ s) (h12 : ∀ h : Nat, (h : Int) < s 1 → gA σ 12 h = g h) : ∃ b σ', f_M_isHonest F σ (k : Nat) (S : Nat) = some (bi b, σ') ∧ MPF σ σ' ∧ (b = true ↔ ∃ i, i ≤ k ∧ (en (s 0).toNat i 0).any (Gm s S g) = true) := by
  obtain ⟨b, σ', k1, k2, k3⟩ := M_ih2 hF hI hS hg hk (k + 1) F σ 0 (by omega) (by omega) hV h12
  refine ⟨b, σ', k1, k2, ?_⟩
  rw [k3]
  exact ⟨fun ⟨i, _, h⟩ => ⟨i, h⟩, fun ⟨i, h⟩ => ⟨i, by omega, h⟩⟩
end
