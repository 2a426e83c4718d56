/-! PURE PART: the draft, as both have it -/
def DRd (σ1 σ2 : St) : Prop :=
  (wayN (gA σ2 3 0) ∧ gF σ1 201 = gA σ2 3 0) ∧
  (gF σ1 5123 = gA σ2 3 1 ∧ 0 ≤ gA σ2 3 1 ∧ gA σ2 3 1 ≤ 10) ∧
  (gF σ1 5126 = gA σ2 3 2 ∧ 0 ≤ gA σ2 3 2 ∧ gA σ2 3 2 ≤ 6) ∧
  (gF σ1 2048 = gA σ2 3 3 ∧ 0 ≤ gA σ2 3 3 ∧ gA σ2 3 3 ≤ 4) ∧
  (gF σ1 2051 = gA σ2 3 4 ∧ 0 ≤ gA σ2 3 4 ∧ gA σ2 3 4 ≤ 8) ∧
  (gF σ1 5122 = 0 ∧ gA σ2 3 5 = 0) ∧
  (∀ h : Nat, (h : Int) < gA σ2 3 1 → gA σ1 56 h = gA σ2 3 (6 + 2 * h) ∧ (0 ≤ gA σ2 3 (6 + 2 * h) ∧ gA σ2 3 (6 + 2 * h) ≤ 99) ∧ gA σ1 60 h = gA σ2 3 (7 + 2 * h) ∧ 0 ≤ gA σ2 3 (7 + 2 * h) ∧ gA σ2 3 (7 + 2 * h) ≤ 999) ∧
  (∀ i j : Nat, i < j → (j : Int) < gA σ2 3 1 → gA σ2 3 (6 + 2 * i) ≠ gA σ2 3 (6 + 2 * j)) ∧
  (∀ s : Nat, (s : Int) < gA σ2 3 2 → (gA σ1 64 s = gA σ2 3 (26 + 4 * s) ∧ 0 ≤ gA σ2 3 (26 + 4 * s) ∧ gA σ2 3 (26 + 4 * s) < gA σ2 3 0) ∧ (gA σ1 68 s = gA σ2 3 (27 + 4 * s) ∧ 0 ≤ gA σ2 3 (27 + 4 * s) ∧ gA σ2 3 (27 + 4 * s) ≤ 999) ∧ (gA σ1 72 s = gA σ2 3 (28 + 4 * s) ∧ 0 ≤ gA σ2 3 (28 + 4 * s) ∧ gA σ2 3 (28 + 4 * s) < gA σ2 3 0) ∧ (gA σ1 76 s = gA σ2 3 (29 + 4 * s) ∧ 0 ≤ gA σ2 3 (29 + 4 * s) ∧ gA σ2 3 (29 + 4 * s) ≤ (s : Int))) ∧
  (∀ t : Nat, (t : Int) < gA σ2 3 3 → (gA σ1 36 t = gA σ2 3 (50 + 2 * t) ∧ -99 ≤ gA σ2 3 (50 + 2 * t) ∧ gA σ2 3 (50 + 2 * t) ≤ 99) ∧ (gA σ1 40 t = gA σ2 3 (51 + 2 * t) ∧ -99 ≤ gA σ2 3 (51 + 2 * t) ∧ gA σ2 3 (51 + 2 * t) ≤ 99)) ∧
  (∀ b : Nat, (b : Int) < gA σ2 3 4 → (gA σ1 44 b = gA σ2 3 (58 + 3 * b) ∧ 0 ≤ gA σ2 3 (58 + 3 * b) ∧ gA σ2 3 (58 + 3 * b) < gA σ2 3 3) ∧ (gA σ1 48 b = gA σ2 3 (59 + 3 * b) ∧ -99 ≤ gA σ2 3 (59 + 3 * b) ∧ gA σ2 3 (59 + 3 * b) ≤ 99) ∧ (gA σ1 52 b = gA σ2 3 (60 + 3 * b) ∧ -99 ≤ gA σ2 3 (60 + 3 * b) ∧ gA σ2 3 (60 + 3 * b) ≤ 99)) ∧
  (∀ i : Nat, (i : Int) < gA σ2 3 2 → gA σ1 4 i = gA σ2 4 (10 + i) ∧ rng64 (gA σ2 4 (10 + i))) ∧
  (∀ i : Nat, (i : Int) < gA σ2 3 3 → gA σ1 5 i = gA σ2 4 (16 + i) ∧ rng64 (gA σ2 4 (16 + i))) ∧
  (gF σ1 202 = gF σ2 19 ∧ isb (gF σ2 19))
section
variable {σ1 σ2 s1 s2 : St}
theorem DRd_c (h : DRd σ1 σ2) (hF : ∀ q, q = 201 ∨ q = 202 ∨ (2048 ≤ q ∧ q ≤ 5126) → gF s1 q = gF σ1 q) (hA : ∀ a, a ≤ 76 → a ≠ 2 → ∀ i, gA s1 a i = gA σ1 a i) (hM : ∀ i, gA s2 3 i = gA σ2 3 i) (hN : ∀ i, gA s2 4 i = gA σ2 4 i) (h19 : gF s2 19 = gF σ2 19) : DRd s1 s2 := by
  unfold DRd at h ⊢
  simp only [hM, hN, h19, hF 201 (by omega), hF 202 (by omega), hF 5123 (by omega), hF 5126 (by omega), hF 2048 (by omega), hF 2051 (by omega), hF 5122 (by omega), hA 56 (by omega) (by omega), hA 60 (by omega) (by omega), hA 64 (by omega) (by omega), hA 68 (by omega) (by omega), hA 72 (by omega) (by omega), hA 76 (by omega) (by omega), hA 36 (by omega) (by omega), hA 40 (by omega) (by omega), hA 44 (by omega) (by omega), hA 48 (by omega) (by omega), hA 52 (by omega) (by omega), hA 4 (by omega) (by omega), hA 5 (by omega) (by omega)]
  exact h
theorem DRd_t (h : DRd σ1 σ2) (h1 : TF1 σ1 s1) (h2 : TF2 σ2 s2) : DRd s1 s2 := DRd_c h (fun q hq => h1.1 q (by omega) (by omega) (by omega) (by omega) (by omega)) (fun a _ _ i => h1.2 a i) (fun i => h2.2 3 i) (fun i => h2.2 4 i) (h2.1 19 (by omega) (by omega) (by omega) (by omega) (by omega) (by omega))
/-- what lies behind the told ones doesn't count -/
theorem DRd_past (h : DRd σ1 σ2) (hF : ∀ q, q = 201 ∨ q = 202 ∨ (2048 ≤ q ∧ q ≤ 5126) → gF s1 q = gF σ1 q) (hA : ∀ a, a ≤ 76 → a ≠ 2 → a ≠ 4 → a ≠ 5 → ∀ i, gA s1 a i = gA σ1 a i) (hA4 : ∀ i : Nat, (i : Int) < gA σ2 3 2 → gA s1 4 i = gA σ1 4 i) (hA5 : ∀ i : Nat, (i : Int) < gA σ2 3 3 → gA s1 5 i = gA σ1 5 i) (hM0 : ∀ i, i < 6 → gA s2 3 i = gA σ2 3 i) (hM1 : ∀ h : Nat, (h : Int) < gA σ2 3 1 → gA s2 3 (6 + 2 * h) = gA σ2 3 (6 + 2 * h) ∧ gA s2 3 (7 + 2 * h) = gA σ2 3 (7 + 2 * h)) (hM2 : ∀ h : Nat, (h : Int) < gA σ2 3 2 → gA s2 3 (26 + 4 * h) = gA σ2 3 (26 + 4 * h) ∧ gA s2 3 (27 + 4 * h) = gA σ2 3 (27 + 4 * h) ∧ gA s2 3 (28 + 4 * h) = gA σ2 3 (28 + 4 * h) ∧ gA s2 3 (29 + 4 * h) = gA σ2 3 (29 + 4 * h)) (hM3 : ∀ h : Nat, (h : Int) < gA σ2 3 3 → gA s2 3 (50 + 2 * h) = gA σ2 3 (50 + 2 * h) ∧ gA s2 3 (51 + 2 * h) = gA σ2 3 (51 + 2 * h)) (hM4 : ∀ h : Nat, (h : Int) < gA σ2 3 4 → gA s2 3 (58 + 3 * h) = gA σ2 3 (58 + 3 * h) ∧ gA s2 3 (59 + 3 * h) = gA σ2 3 (59 + 3 * h) ∧ gA s2 3 (60 + 3 * h) = gA σ2 3 (60 + 3 * h)) (hN2 : ∀ i : Nat, (i : Int) < gA σ2 3 2 → gA s2 4 (10 + i) = gA σ2 4 (10 + i)) (hN3 : ∀ i : Nat, (i : Int) < gA σ2 3 3 → gA s2 4 (16 + i) = gA σ2 4 (16 + i)) (h19 : gF s2 19 = gF σ2 19) : DRd s1 s2 := by
  obtain ⟨c0, c1, c2, c3, c4, c5, c6, c7, c8, c9, d1, d2, d3, d4⟩ := h
  unfold DRd
  rw [hM0 0 (by omega), hM0 1 (by omega), hM0 2 (by omega), hM0 3 (by omega), hM0 4 (by omega), hM0 5 (by omega), h19, hF 201 (by omega), hF 202 (by omega), hF 5123 (by omega), hF 5126 (by omega), hF 2048 (by omega), hF 2051 (by omega), hF 5122 (by omega)]
  simp only [hA 56 (by omega) (by omega) (by omega) (by omega), hA 60 (by omega) (by omega) (by omega) (by omega), hA 64 (by omega) (by omega) (by omega) (by omega), hA 68 (by omega) (by omega) (by omega) (by omega), hA 72 (by omega) (by omega) (by omega) (by omega), hA 76 (by omega) (by omega) (by omega) (by omega), hA 36 (by omega) (by omega) (by omega) (by omega), hA 40 (by omega) (by omega) (by omega) (by omega), hA 44 (by omega) (by omega) (by omega) (by omega), hA 48 (by omega) (by omega) (by omega) (by omega), hA 52 (by omega) (by omega) (by omega) (by omega)]
  refine ⟨c0, c1, c2, c3, c4, c5, fun h hh => ?_, fun i j hij hj => ?_, fun s hs => ?_, fun t ht => ?_, fun b hb => ?_, fun i hi => ?_, fun i hi => ?_, d4⟩
  · rw [(hM1 h hh).1, (hM1 h hh).2]; exact c6 h hh
  · rw [(hM1 i (by omega)).1, (hM1 j hj).1]; exact c7 i j hij hj
  · obtain ⟨e1, e2, e3, e4⟩ := hM2 s hs
    rw [e1, e2, e3, e4]; exact c8 s hs
  · obtain ⟨e1, e2⟩ := hM3 t ht
    rw [e1, e2]; exact c9 t ht
  · obtain ⟨e1, e2, e3⟩ := hM4 b hb
    rw [e1, e2, e3]; exact d1 b hb
  · rw [hA4 i hi, hN2 i hi]; exact d2 i hi
  · rw [hA5 i hi, hN3 i hi]; exact d3 i hi
/-- a hearer more -/
theorem DRd_hear (h : DRd σ1 σ2) {k : Nat} {p g : Int} (hk : gA σ2 3 1 = (k : Nat)) (hk9 : k < 10) (hp : 0 ≤ p ∧ p ≤ 99) (hg : 0 ≤ g ∧ g ≤ 999) (hnew : ∀ i, i < k → gA σ2 3 (6 + 2 * i) ≠ p) (hF : ∀ q, q = 201 ∨ q = 202 ∨ (2048 ≤ q ∧ q ≤ 5126 ∧ q ≠ 5123) → gF s1 q = gF σ1 q) (hk1 : gF s1 5123 = ((k + 1 : Nat) : Int)) (hA : ∀ a, a ≤ 76 → a ≠ 2 → a ≠ 56 → a ≠ 60 → ∀ i, gA s1 a i = gA σ1 a i) (h56 : ∀ i, gA s1 56 i = if i = k then p else gA σ1 56 i) (h60 : ∀ i, gA s1 60 i = if i = k then g else gA σ1 60 i) (hM : ∀ i, i ≠ 1 → i ≠ 6 + 2 * k → i ≠ 7 + 2 * k → gA s2 3 i = gA σ2 3 i) (hM1 : gA s2 3 1 = ((k + 1 : Nat) : Int)) (hM6 : gA s2 3 (6 + 2 * k) = p) (hM7 : gA s2 3 (7 + 2 * k) = g) (hN : ∀ i, gA s2 4 i = gA σ2 4 i) (h19 : gF s2 19 = gF σ2 19) : DRd s1 s2 := by
  obtain ⟨c0, c1, c2, c3, c4, c5, c6, c7, c8, c9, d1, d2, d3, d4⟩ := h
  unfold DRd
  rw [hM 0 (by omega) (by omega) (by omega), hM1, hM 2 (by omega) (by omega) (by omega), hM 3 (by omega) (by omega) (by omega), hM 4 (by omega) (by omega) (by omega), hM 5 (by omega) (by omega) (by omega), h19, hF 201 (by omega), hF 202 (by omega), hk1, hF 5126 (by omega), hF 2048 (by omega), hF 2051 (by omega), hF 5122 (by omega)]
  simp only [hN, hA 64 (by omega) (by omega) (by omega) (by omega), hA 68 (by omega) (by omega) (by omega) (by omega), hA 72 (by omega) (by omega) (by omega) (by omega), hA 76 (by omega) (by omega) (by omega) (by omega), hA 36 (by omega) (by omega) (by omega) (by omega), hA 40 (by omega) (by omega) (by omega) (by omega), hA 44 (by omega) (by omega) (by omega) (by omega), hA 48 (by omega) (by omega) (by omega) (by omega), hA 52 (by omega) (by omega) (by omega) (by omega), hA 4 (by omega) (by omega) (by omega) (by omega), hA 5 (by omega) (by omega) (by omega) (by omega)]
  refine ⟨c0, ⟨trivial, by omega, by omega⟩, c2, c3, c4, c5, fun h hh => ?_, fun i j hij hj => ?_, fun s hs => ?_, fun t ht => ?_, fun b hb => ?_, d2, d3, d4⟩
  · rw [h56, h60]
    by_cases w : h = k
    · rw [if_pos w, if_pos w, w, hM6, hM7]; exact ⟨rfl, hp, rfl, hg⟩
    · rw [if_neg w, if_neg w, hM _ (by omega) (by omega) (by omega), hM _ (by omega) (by omega) (by omega)]
      exact c6 h (by omega)
  · rw [hM (6 + 2 * i) (by omega) (by omega) (by omega)]
    by_cases w : j = k
    · rw [w, hM6]; exact hnew i (by omega)
    · rw [hM (6 + 2 * j) (by omega) (by omega) (by omega)]; exact c7 i j hij (by omega)
  · rw [hM _ (by omega) (by omega) (by omega), hM _ (by omega) (by omega) (by omega), hM _ (by omega) (by omega) (by omega), hM _ (by omega) (by omega) (by omega)]; exact c8 s hs
  · rw [hM _ (by omega) (by omega) (by omega), hM _ (by omega) (by omega) (by omega)]; exact c9 t ht
  · rw [hM _ (by omega) (by omega) (by omega), hM _ (by omega) (by omega) (by omega), hM _ (by omega) (by omega) (by omega)]; exact d1 b hb
/-- a sender more -/
theorem DRd_send (h : DRd σ1 σ2) {k : Nat} {d a v l w : Int} (hk : gA σ2 3 2 = (k : Nat)) (hk9 : k < 6) (hd : 0 ≤ d ∧ d < gA σ2 3 0) (ha : 0 ≤ a ∧ a ≤ 999) (hv : 0 ≤ v ∧ v < gA σ2 3 0) (hl : 0 ≤ l ∧ l ≤ (k : Int)) (hw : rng64 w) (hF : ∀ q, q = 201 ∨ q = 202 ∨ (2048 ≤ q ∧ q ≤ 5126 ∧ q ≠ 5126) → gF s1 q = gF σ1 q) (hk1 : gF s1 5126 = ((k + 1 : Nat) : Int)) (hA : ∀ x, x ≤ 76 → x ≠ 2 → x ≠ 4 → x ≠ 64 → x ≠ 68 → x ≠ 72 → x ≠ 76 → ∀ i, gA s1 x i = gA σ1 x i) (h4 : ∀ i, gA s1 4 i = if i = k then w else gA σ1 4 i) (h64 : ∀ i, gA s1 64 i = if i = k then d else gA σ1 64 i) (h68 : ∀ i, gA s1 68 i = if i = k then a else gA σ1 68 i) (h72 : ∀ i, gA s1 72 i = if i = k then v else gA σ1 72 i) (h76 : ∀ i, gA s1 76 i = if i = k then l else gA σ1 76 i) (hM : ∀ i, i ≠ 2 → i ≠ 26 + 4 * k → i ≠ 27 + 4 * k → i ≠ 28 + 4 * k → i ≠ 29 + 4 * k → gA s2 3 i = gA σ2 3 i) (hM2 : gA s2 3 2 = ((k + 1 : Nat) : Int)) (m0 : gA s2 3 (26 + 4 * k) = d) (m1 : gA s2 3 (27 + 4 * k) = a) (m2 : gA s2 3 (28 + 4 * k) = v) (m3 : gA s2 3 (29 + 4 * k) = l) (hN : ∀ i, i ≠ 10 + k → gA s2 4 i = gA σ2 4 i) (hNk : gA s2 4 (10 + k) = w) (h19 : gF s2 19 = gF σ2 19) : DRd s1 s2 := by
  obtain ⟨c0, c1, c2, c3, c4, c5, c6, c7, c8, c9, d1, d2, d3, d4⟩ := h
  unfold DRd
  rw [hM 0 (by omega) (by omega) (by omega) (by omega) (by omega), hM 1 (by omega) (by omega) (by omega) (by omega) (by omega), hM2, hM 3 (by omega) (by omega) (by omega) (by omega) (by omega), hM 4 (by omega) (by omega) (by omega) (by omega) (by omega), hM 5 (by omega) (by omega) (by omega) (by omega) (by omega), h19, hF 201 (by omega), hF 202 (by omega), hk1, hF 5123 (by omega), hF 2048 (by omega), hF 2051 (by omega), hF 5122 (by omega)]
  simp only [hA 56 (by omega) (by omega) (by omega) (by omega) (by omega) (by omega) (by omega), hA 60 (by omega) (by omega) (by omega) (by omega) (by omega) (by omega) (by omega), hA 36 (by omega) (by omega) (by omega) (by omega) (by omega) (by omega) (by omega), hA 40 (by omega) (by omega) (by omega) (by omega) (by omega) (by omega) (by omega), hA 44 (by omega) (by omega) (by omega) (by omega) (by omega) (by omega) (by omega), hA 48 (by omega) (by omega) (by omega) (by omega) (by omega) (by omega) (by omega), hA 52 (by omega) (by omega) (by omega) (by omega) (by omega) (by omega) (by omega), hA 5 (by omega) (by omega) (by omega) (by omega) (by omega) (by omega) (by omega)]
  refine ⟨c0, c1, ⟨trivial, by omega, by omega⟩, c3, c4, c5, fun h hh => ?_, fun i j hij hj => ?_, fun s hs => ?_, fun t ht => ?_, fun b hb => ?_, fun i hi => ?_, fun i hi => ?_, d4⟩
  · rw [hM _ (by omega) (by omega) (by omega) (by omega) (by omega), hM _ (by omega) (by omega) (by omega) (by omega) (by omega)]; exact c6 h hh
  · rw [hM _ (by omega) (by omega) (by omega) (by omega) (by omega), hM _ (by omega) (by omega) (by omega) (by omega) (by omega)]; exact c7 i j hij hj
  · rw [h64, h68, h72, h76]
    by_cases z : s = k
    · rw [if_pos z, if_pos z, if_pos z, if_pos z, z, m0, m1, m2, m3]; exact ⟨⟨rfl, hd⟩, ⟨rfl, ha⟩, ⟨rfl, hv⟩, rfl, hl⟩
    · rw [if_neg z, if_neg z, if_neg z, if_neg z, hM _ (by omega) (by omega) (by omega) (by omega) (by omega), hM _ (by omega) (by omega) (by omega) (by omega) (by omega), hM _ (by omega) (by omega) (by omega) (by omega) (by omega), hM _ (by omega) (by omega) (by omega) (by omega) (by omega)]
      exact c8 s (by omega)
  · rw [hM _ (by omega) (by omega) (by omega) (by omega) (by omega), hM _ (by omega) (by omega) (by omega) (by omega) (by omega)]; exact c9 t ht
  · rw [hM _ (by omega) (by omega) (by omega) (by omega) (by omega), hM _ (by omega) (by omega) (by omega) (by omega) (by omega), hM _ (by omega) (by omega) (by omega) (by omega) (by omega)]; exact d1 b hb
  · rw [h4]
    by_cases z : i = k
    · rw [if_pos z, z, hNk]; exact ⟨rfl, hw⟩
    · rw [if_neg z, hN _ (by omega)]; exact d2 i (by omega)
  · rw [hN _ (by omega)]; exact d3 i hi
/-- a station more -/
theorem DRd_stat (h : DRd σ1 σ2) {k : Nat} {x y w : Int} (hk : gA σ2 3 3 = (k : Nat)) (hk9 : k < 4) (hx : -99 ≤ x ∧ x ≤ 99) (hy : -99 ≤ y ∧ y ≤ 99) (hw : rng64 w) (hF : ∀ q, q = 201 ∨ q = 202 ∨ (2048 < q ∧ q ≤ 5126) → gF s1 q = gF σ1 q) (hk1 : gF s1 2048 = ((k + 1 : Nat) : Int)) (hA : ∀ x, x ≤ 76 → x ≠ 2 → x ≠ 5 → x ≠ 36 → x ≠ 40 → ∀ i, gA s1 x i = gA σ1 x i) (h5 : ∀ i, gA s1 5 i = if i = k then w else gA σ1 5 i) (h36 : ∀ i, gA s1 36 i = if i = k then x else gA σ1 36 i) (h40 : ∀ i, gA s1 40 i = if i = k then y else gA σ1 40 i) (hM : ∀ i, i ≠ 3 → i ≠ 50 + 2 * k → i ≠ 51 + 2 * k → gA s2 3 i = gA σ2 3 i) (hM3 : gA s2 3 3 = ((k + 1 : Nat) : Int)) (m0 : gA s2 3 (50 + 2 * k) = x) (m1 : gA s2 3 (51 + 2 * k) = y) (hN : ∀ i, i ≠ 16 + k → gA s2 4 i = gA σ2 4 i) (hNk : gA s2 4 (16 + k) = w) (h19 : gF s2 19 = gF σ2 19) : DRd s1 s2 := by
  obtain ⟨c0, c1, c2, c3, c4, c5, c6, c7, c8, c9, d1, d2, d3, d4⟩ := h
  unfold DRd
  rw [hM 0 (by omega) (by omega) (by omega), hM 1 (by omega) (by omega) (by omega), hM 2 (by omega) (by omega) (by omega), hM3, hM 4 (by omega) (by omega) (by omega), hM 5 (by omega) (by omega) (by omega), h19, hF 201 (by omega), hF 202 (by omega), hk1, hF 5123 (by omega), hF 5126 (by omega), hF 2051 (by omega), hF 5122 (by omega)]
  simp only [hA 56 (by omega) (by omega) (by omega) (by omega) (by omega), hA 60 (by omega) (by omega) (by omega) (by omega) (by omega), hA 64 (by omega) (by omega) (by omega) (by omega) (by omega), hA 68 (by omega) (by omega) (by omega) (by omega) (by omega), hA 72 (by omega) (by omega) (by omega) (by omega) (by omega), hA 76 (by omega) (by omega) (by omega) (by omega) (by omega), hA 44 (by omega) (by omega) (by omega) (by omega) (by omega), hA 48 (by omega) (by omega) (by omega) (by omega) (by omega), hA 52 (by omega) (by omega) (by omega) (by omega) (by omega), hA 4 (by omega) (by omega) (by omega) (by omega) (by omega)]
  refine ⟨c0, c1, c2, ⟨trivial, by omega, by omega⟩, c4, c5, fun h hh => ?_, fun i j hij hj => ?_, fun s hs => ?_, fun t ht => ?_, fun b hb => ?_, fun i hi => ?_, fun i hi => ?_, d4⟩
  · rw [hM _ (by omega) (by omega) (by omega), hM _ (by omega) (by omega) (by omega)]; exact c6 h hh
  · rw [hM _ (by omega) (by omega) (by omega), hM _ (by omega) (by omega) (by omega)]; exact c7 i j hij hj
  · rw [hM _ (by omega) (by omega) (by omega), hM _ (by omega) (by omega) (by omega), hM _ (by omega) (by omega) (by omega), hM _ (by omega) (by omega) (by omega)]; exact c8 s hs
  · rw [h36, h40]
    by_cases z : t = k
    · rw [if_pos z, if_pos z, z, m0, m1]; exact ⟨⟨rfl, hx⟩, rfl, hy⟩
    · rw [if_neg z, if_neg z, hM _ (by omega) (by omega) (by omega), hM _ (by omega) (by omega) (by omega)]
      exact c9 t (by omega)
  · rw [hM _ (by omega) (by omega) (by omega), hM _ (by omega) (by omega) (by omega), hM _ (by omega) (by omega) (by omega)]
    have := d1 b hb
    exact ⟨⟨this.1.1, this.1.2.1, by omega⟩, this.2⟩
  · rw [hN _ (by omega)]; exact d2 i hi
  · rw [h5]
    by_cases z : i = k
    · rw [if_pos z, z, hNk]; exact ⟨rfl, hw⟩
    · rw [if_neg z, hN _ (by omega)]; exact d3 i (by omega)
/-- a bearing more -/
theorem DRd_bear (h : DRd σ1 σ2) {k : Nat} {o x y : Int} (hk : gA σ2 3 4 = (k : Nat)) (hk9 : k < 8) (ho : 0 ≤ o ∧ o < gA σ2 3 3) (hx : -99 ≤ x ∧ x ≤ 99) (hy : -99 ≤ y ∧ y ≤ 99) (hF : ∀ q, q = 201 ∨ q = 202 ∨ (2048 ≤ q ∧ q ≤ 5126 ∧ q ≠ 2051) → gF s1 q = gF σ1 q) (hk1 : gF s1 2051 = ((k + 1 : Nat) : Int)) (hA : ∀ x, x ≤ 76 → x ≠ 2 → x ≠ 44 → x ≠ 48 → x ≠ 52 → ∀ i, gA s1 x i = gA σ1 x i) (h44 : ∀ i, gA s1 44 i = if i = k then o else gA σ1 44 i) (h48 : ∀ i, gA s1 48 i = if i = k then x else gA σ1 48 i) (h52 : ∀ i, gA s1 52 i = if i = k then y else gA σ1 52 i) (hM : ∀ i, i ≠ 4 → i ≠ 58 + 3 * k → i ≠ 59 + 3 * k → i ≠ 60 + 3 * k → gA s2 3 i = gA σ2 3 i) (hM4 : gA s2 3 4 = ((k + 1 : Nat) : Int)) (m0 : gA s2 3 (58 + 3 * k) = o) (m1 : gA s2 3 (59 + 3 * k) = x) (m2 : gA s2 3 (60 + 3 * k) = y) (hN : ∀ i, gA s2 4 i = gA σ2 4 i) (h19 : gF s2 19 = gF σ2 19) : DRd s1 s2 := by
  obtain ⟨c0, c1, c2, c3, c4, c5, c6, c7, c8, c9, d1, d2, d3, d4⟩ := h
  unfold DRd
  rw [hM 0 (by omega) (by omega) (by omega) (by omega), hM 1 (by omega) (by omega) (by omega) (by omega), hM 2 (by omega) (by omega) (by omega) (by omega), hM 3 (by omega) (by omega) (by omega) (by omega), hM4, hM 5 (by omega) (by omega) (by omega) (by omega), h19, hF 201 (by omega), hF 202 (by omega), hk1, hF 5123 (by omega), hF 5126 (by omega), hF 2048 (by omega), hF 5122 (by omega)]
  simp only [hN, hA 56 (by omega) (by omega) (by omega) (by omega) (by omega), hA 60 (by omega) (by omega) (by omega) (by omega) (by omega), hA 64 (by omega) (by omega) (by omega) (by omega) (by omega), hA 68 (by omega) (by omega) (by omega) (by omega) (by omega), hA 72 (by omega) (by omega) (by omega) (by omega) (by omega), hA 76 (by omega) (by omega) (by omega) (by omega) (by omega), hA 36 (by omega) (by omega) (by omega) (by omega) (by omega), hA 40 (by omega) (by omega) (by omega) (by omega) (by omega), hA 4 (by omega) (by omega) (by omega) (by omega) (by omega), hA 5 (by omega) (by omega) (by omega) (by omega) (by omega)]
  refine ⟨c0, c1, c2, c3, ⟨trivial, by omega, by omega⟩, c5, fun h hh => ?_, fun i j hij hj => ?_, fun s hs => ?_, fun t ht => ?_, fun b hb => ?_, d2, d3, d4⟩
  · rw [hM _ (by omega) (by omega) (by omega) (by omega), hM _ (by omega) (by omega) (by omega) (by omega)]; exact c6 h hh
  · rw [hM _ (by omega) (by omega) (by omega) (by omega), hM _ (by omega) (by omega) (by omega) (by omega)]; exact c7 i j hij hj
  · rw [hM _ (by omega) (by omega) (by omega) (by omega), hM _ (by omega) (by omega) (by omega) (by omega), hM _ (by omega) (by omega) (by omega) (by omega), hM _ (by omega) (by omega) (by omega) (by omega)]; exact c8 s hs
  · rw [hM _ (by omega) (by omega) (by omega) (by omega), hM _ (by omega) (by omega) (by omega) (by omega)]; exact c9 t ht
  · rw [h44, h48, h52]
    by_cases z : b = k
    · rw [if_pos z, if_pos z, if_pos z, z, m0, m1, m2]; exact ⟨⟨rfl, ho⟩, ⟨rfl, hx⟩, rfl, hy⟩
    · rw [if_neg z, if_neg z, if_neg z, hM _ (by omega) (by omega) (by omega) (by omega), hM _ (by omega) (by omega) (by omega) (by omega), hM _ (by omega) (by omega) (by omega) (by omega)]
      exact d1 b (by omega)
/-- the lattice told -/
theorem DRd_latt (h : DRd σ1 σ2) {v : Int} (h0 : gA σ2 3 2 ≤ 0) (hv : wayN v) (hF : ∀ q, 2048 ≤ q ∧ q ≤ 5126 → gF s1 q = gF σ1 q) (h201 : gF s1 201 = v) (h202 : gF s1 202 = 1) (hA : ∀ x, x ≤ 76 → x ≠ 2 → ∀ i, gA s1 x i = gA σ1 x i) (hM : ∀ i, i ≠ 0 → gA s2 3 i = gA σ2 3 i) (hM0 : gA s2 3 0 = v) (hN : ∀ i, gA s2 4 i = gA σ2 4 i) (h19 : gF s2 19 = 1) : DRd s1 s2 := by
  obtain ⟨c0, c1, c2, c3, c4, c5, c6, c7, c8, c9, d1, d2, d3, d4⟩ := h
  unfold DRd
  rw [hM0, hM 1 (by omega), hM 2 (by omega), hM 3 (by omega), hM 4 (by omega), hM 5 (by omega), h19, h201, h202, hF 5123 (by omega), hF 5126 (by omega), hF 2048 (by omega), hF 2051 (by omega), hF 5122 (by omega)]
  simp only [hN, hA 56 (by omega) (by omega), hA 60 (by omega) (by omega), hA 64 (by omega) (by omega), hA 68 (by omega) (by omega), hA 72 (by omega) (by omega), hA 76 (by omega) (by omega), hA 36 (by omega) (by omega), hA 40 (by omega) (by omega), hA 44 (by omega) (by omega), hA 48 (by omega) (by omega), hA 52 (by omega) (by omega), hA 4 (by omega) (by omega), hA 5 (by omega) (by omega)]
  refine ⟨⟨hv, trivial⟩, c1, c2, c3, c4, c5, fun h hh => ?_, fun i j hij hj => ?_, fun s hs => by omega, fun t ht => ?_, fun b hb => ?_, d2, d3, trivial, Or.inr rfl⟩
  · rw [hM _ (by omega), hM _ (by omega)]; exact c6 h hh
  · rw [hM _ (by omega), hM _ (by omega)]; exact c7 i j hij hj
  · rw [hM _ (by omega), hM _ (by omega)]; exact c9 t ht
  · rw [hM _ (by omega), hM _ (by omega), hM _ (by omega)]; exact d1 b hb
end
