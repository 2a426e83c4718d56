/-! PURE PART: the scene of now, as a row of numbers s (the model's); both sides seen by it -/
def plS (s : Nat → Int) (a : Int) : Int := s (6 + 2 * a.toNat)
def gnS (s : Nat → Int) (a : Int) : Int := s (7 + 2 * a.toNat)
def stS (s : Nat → Int) (a : Int) : Int := s (26 + 4 * a.toNat)
def ldS (s : Nat → Int) (a : Int) : Int := s (27 + 4 * a.toNat)
def drS (s : Nat → Int) (a : Int) : Int := s (28 + 4 * a.toNat)
def flS (s : Nat → Int) (a : Int) : Int := s (29 + 4 * a.toNat)
def xS (s : Nat → Int) (a : Int) : Int := s (50 + 2 * a.toNat)
def yS (s : Nat → Int) (a : Int) : Int := s (51 + 2 * a.toNat)
def frS (s : Nat → Int) (a : Int) : Int := s (58 + 3 * a.toNat)
def dxS (s : Nat → Int) (a : Int) : Int := s (59 + 3 * a.toNat)
def dyS (s : Nat → Int) (a : Int) : Int := s (60 + 3 * a.toNat)
def dirS (s : Nat → Int) (a : Int) : Int := (stS s a + drS s a * s 5) % s 0
def wvS (s : Nat → Int) (d p : Int) : Int := PW (s 0) (d * p % s 0).toNat
def MI (s : Nat → Int) : Prop :=
  wayN (s 0) ∧ (0 ≤ s 1 ∧ s 1 ≤ 10) ∧ (0 ≤ s 2 ∧ s 2 ≤ 6) ∧ (0 ≤ s 3 ∧ s 3 ≤ 4) ∧ (0 ≤ s 4 ∧ s 4 ≤ 8) ∧ (0 ≤ s 5 ∧ s 5 ≤ 999) ∧
  (∀ a, 0 ≤ a → a < s 1 → (0 ≤ plS s a ∧ plS s a ≤ 99) ∧ 0 ≤ gnS s a ∧ gnS s a < PR (s 0)) ∧
  (∀ a b, 0 ≤ a → a < b → b < s 1 → plS s a ≠ plS s b) ∧
  (∀ a, 0 ≤ a → a < s 2 → (0 ≤ stS s a ∧ stS s a < s 0) ∧ (0 ≤ ldS s a ∧ ldS s a ≤ 999) ∧ (0 ≤ drS s a ∧ drS s a < s 0) ∧ 0 ≤ flS s a ∧ flS s a ≤ a) ∧
  (∀ a, 0 ≤ a → a < s 3 → (-99 ≤ xS s a ∧ xS s a ≤ 99) ∧ -99 ≤ yS s a ∧ yS s a ≤ 99) ∧
  (∀ a, 0 ≤ a → a < s 4 → (0 ≤ frS s a ∧ frS s a < s 3) ∧ (-99 ≤ dxS s a ∧ dxS s a ≤ 99) ∧ -99 ≤ dyS s a ∧ dyS s a ≤ 99)
def WV (σ : St) (s : Nat → Int) : Prop :=
  (gF σ 1472 = s 0 ∧ gF σ 1473 = PR (s 0) ∧ gF σ 1474 = RT (s 0) ∧ ∀ i, i < (s 0).toNat → gA σ 27 i = PW (s 0) i) ∧ gF σ 5059 = s 1 ∧ gF σ 5062 = s 2 ∧ gF σ 1984 = s 3 ∧ gF σ 1987 = s 4 ∧ gF σ 5058 = s 5 ∧
  (∀ a, 0 ≤ a → a < s 1 → gA σ 55 a.toNat = plS s a ∧ gA σ 59 a.toNat = gnS s a) ∧
  (∀ a, 0 ≤ a → a < s 2 → gA σ 63 a.toNat = stS s a ∧ gA σ 67 a.toNat = ldS s a ∧ gA σ 71 a.toNat = drS s a ∧ gA σ 75 a.toNat = flS s a) ∧
  (∀ a, 0 ≤ a → a < s 3 → gA σ 35 a.toNat = xS s a ∧ gA σ 39 a.toNat = yS s a) ∧
  (∀ a, 0 ≤ a → a < s 4 → gA σ 43 a.toNat = frS s a ∧ gA σ 47 a.toNat = dxS s a ∧ gA σ 51 a.toNat = dyS s a)
def MV (σ : St) (s : Nat → Int) : Prop := (∀ i, gA σ 2 i = s i) ∧ gF σ 20 = PR (s 0) ∧ gF σ 21 = RT (s 0) ∧ ∀ i, i < (s 0).toNat → gA σ 6 i = PW (s 0) i
def svw (σ : St) : Nat → Int := fun i => gA σ 2 i
theorem RR_view {x : Bool} {σ1 σ2 : St} (h : RR x σ1 σ2) : MI (svw σ2) ∧ WV σ1 (svw σ2) ∧ MV σ2 (svw σ2) := by
  obtain ⟨-, -, ⟨⟨c0, l⟩, c1, c2, c3, c4, c5, c6, c7, c8, c9, d1⟩, hM, -⟩ := h
  have z : ∀ a : Int, 0 ≤ a → ((a.toNat : Nat) : Int) = a := fun a h => by omega
  have e : ∀ i, svw σ2 i = gA σ2 2 i := fun _ => rfl
  refine ⟨⟨c0, c1.2, c2.2, c3.2, c4.2, c5.2, fun a h0 h1 => ?_, fun a b h0 h1 h2 => ?_, fun a h0 h1 => ?_, fun a h0 h1 => ?_, fun a h0 h1 => ?_⟩, ⟨l, c1.1, c2.1, c3.1, c4.1, c5.1, fun a h0 h1 => ?_, fun a h0 h1 => ?_, fun a h0 h1 => ?_, fun a h0 h1 => ?_⟩, fun _ => rfl, hM⟩
  · have := c6 a.toNat (by rw [z a h0]; exact h1)
    simp only [Nat.zero_add] at this
    exact ⟨this.2.1, this.2.2.2⟩
  · have := c7 a.toNat b.toNat (by omega) (by rw [z b (by omega)]; exact h2)
    simp only [Nat.zero_add] at this
    exact this
  · have := c8 a.toNat (by rw [z a h0]; exact h1)
    simp only [Nat.zero_add, z a h0] at this
    exact ⟨this.1.2, this.2.1.2, this.2.2.1.2, this.2.2.2.2⟩
  · have := c9 a.toNat (by rw [z a h0]; exact h1)
    simp only [Nat.zero_add] at this
    exact ⟨this.1.2, this.2.2⟩
  · have := d1 a.toNat (by rw [z a h0]; exact h1)
    simp only [Nat.zero_add] at this
    exact ⟨this.1.2, this.2.1.2, this.2.2.2⟩
  · have := c6 a.toNat (by rw [z a h0]; exact h1)
    simp only [Nat.zero_add] at this
    exact ⟨this.1, this.2.2.1⟩
  · have := c8 a.toNat (by rw [z a h0]; exact h1)
    simp only [Nat.zero_add] at this
    exact ⟨this.1.1, this.2.1.1, this.2.2.1.1, this.2.2.2.1⟩
  · have := c9 a.toNat (by rw [z a h0]; exact h1)
    simp only [Nat.zero_add] at this
    exact ⟨this.1.1, this.2.1⟩
  · have := d1 a.toNat (by rw [z a h0]; exact h1)
    simp only [Nat.zero_add] at this
    exact ⟨this.1.1, this.2.1.1, this.2.2.1⟩
theorem WV_fr {σ σ' : St} {s : Nat → Int} (h : WV σ s) (h1 : WFr σ σ') : WV σ' s := by
  unfold WV at h ⊢
  rw [h1.1 1472 rfl, h1.1 1473 rfl, h1.1 1474 rfl, h1.1 5059 rfl, h1.1 5062 rfl, h1.1 1984 rfl, h1.1 1987 rfl, h1.1 5058 rfl]
  simp only [h1.2 27 rfl, h1.2 55 rfl, h1.2 59 rfl, h1.2 63 rfl, h1.2 67 rfl, h1.2 71 rfl, h1.2 75 rfl, h1.2 35 rfl, h1.2 39 rfl, h1.2 43 rfl, h1.2 47 rfl, h1.2 51 rfl]
  exact h
theorem MV_fr {σ σ' : St} {s : Nat → Int} (h : MV σ s) (h1 : MFr σ σ') : MV σ' s := by
  unfold MV at h ⊢
  rw [h1.1 20 rfl, h1.1 21 rfl]
  simp only [h1.2 2 rfl, h1.2 6 rfl]
  exact h
/-- the length alone is gone -/
theorem WV_65 {σ : St} {s : Nat → Int} {v : Int} (h : WV σ s) : WV (sF σ 65 v) s := h
theorem MV_2 {σ : St} {s : Nat → Int} {v : Int} (h : MV σ s) : MV (sF σ 2 v) s := h
theorem MV_0 {σ : St} {s : Nat → Int} {v : Int} (h : MV σ s) : MV (sF σ 0 v) s := h
section
variable {F : Nat} {σ : St} {s : Nat → Int} {k : Int → St → Option (Int × St)} {Q : Int → St → Prop}
theorem dirS_b (hI : MI s) (a : Int) : 0 ≤ dirS s a ∧ dirS s a < s 0 := modb (by have := hI.1; omega)
theorem wvS_b (hI : MI s) (d p : Int) : 0 ≤ wvS s d p ∧ wvS s d p < PR (s 0) := PW_b hI.1 _
theorem ix_b (hI : MI s) (d p : Int) : (d * p % s 0).toNat < (s 0).toNat := by
  have := hI.1
  have := modb (a := d * p) (p := s 0) (by omega)
  omega
theorem M_waveOf (hI : MI s) (hV : MV σ s) {d p : Int} (hd : 0 ≤ d ∧ d ≤ 60) (hp : 0 ≤ p ∧ p ≤ 99) : f_M_waveOf F σ d p = some (wvS s d p, σ) := by
  have h0 := hI.1
  have hb := mulb hd.1 hd.2 hp.1 hp.2
  have hm := modb (a := d * p) (p := s 0) (by omega)
  unfold f_M_waveOf
  show gd _ (gd (rng (d * p) ∧ rng (gA σ 2 0) ∧ gA σ 2 0 ≠ 0) (bv (Int.tmod (d * p) (gA σ 2 0)) _)) = _
  rw [gd_t (by decide), hV.1 0, gd_t ⟨by omega, by omega, by omega⟩, tmE hb.1]
  show gd _ (some (gA σ 6 _, σ)) = _
  rw [gd_t (by omega), hV.2.2.2 _ (ix_b hI d p)]
  rfl
theorem W_waveAt (hI : MI s) (hV : WV σ s) {d p : Int} (hd : 0 ≤ d ∧ d ≤ 60) (hp : 0 ≤ p ∧ p ≤ 99) : f_Lattice_waveAt_lattice0 F σ d p = some (wvS s d p, σ) := by
  have h0 := hI.1
  have hb := mulb hd.1 hd.2 hp.1 hp.2
  have hm := modb (a := d * p) (p := s 0) (by omega)
  unfold f_Lattice_waveAt_lattice0
  rw [hV.1.1, gd_t ⟨by omega, by omega, by omega⟩, tmE hb.1]
  show gd _ (some (gA σ 27 _, σ)) = _
  rw [gd_t (by omega), hV.1.2.2.2 _ (ix_b hI d p)]
  rfl
theorem W_waveBack (hI : MI s) (hV : WV σ s) {d p : Int} (hd : 0 ≤ d ∧ d ≤ s 0) (hp : 0 ≤ p ∧ p ≤ 99) : f_Lattice_waveBack_lattice0 F σ d p = some (wvS s (s 0 - d) p, σ) := by
  have h0 := hI.1
  have hb := mulb (a := s 0 - d) (b := p) (A := 60) (B := 99) (by omega) (by omega) hp.1 hp.2
  have hm := modb (a := (s 0 - d) * p) (p := s 0) (by omega)
  unfold f_Lattice_waveBack_lattice0
  rw [hV.1.1, gd_t ⟨by omega, by omega, by omega⟩, tmE hb.1]
  show gd _ (some (gA σ 27 _, σ)) = _
  rw [gd_t (by omega), hV.1.2.2.2 _ (ix_b hI _ p)]
  rfl
theorem M_place (hI : MI s) (hV : MV σ s) {a : Int} (ha : 0 ≤ a ∧ a < 10) : f_M_place F σ a = some (plS s a, σ) := by
  unfold f_M_place
  rw [gd_t (by omega)]
  show some (gA σ 2 _, σ) = _
  rw [hV.1, show Int.toNat (6 + 2 * a) = 6 + 2 * a.toNat by omega]; rfl
theorem M_gain (hI : MI s) (hV : MV σ s) {a : Int} (ha : 0 ≤ a ∧ a < 10) : f_M_gain F σ a = some (gnS s a, σ) := by
  unfold f_M_gain
  rw [gd_t (by omega)]
  show some (gA σ 2 _, σ) = _
  rw [hV.1, show Int.toNat (6 + 2 * a + 1) = 7 + 2 * a.toNat by omega]; rfl
theorem dir_b (hI : MI s) {a : Int} (ha : 0 ≤ a ∧ a < s 2) : 0 ≤ stS s a + drS s a * s 5 ∧ stS s a + drS s a * s 5 ≤ 60000 := by
  obtain ⟨i0, -, -, -, -, i5, -, -, i8, -⟩ := hI
  have h8 := i8 a ha.1 ha.2
  have hb := mulb (a := drS s a) (b := s 5) (A := 59) (B := 999) (by omega) (by omega) (by omega) (by omega)
  omega
theorem M_wayOf (hI : MI s) (hV : MV σ s) {a : Int} (ha : 0 ≤ a ∧ a < s 2) : f_M_wayOf F σ a = some (dirS s a, σ) := by
  have hd := dir_b hI ha
  obtain ⟨i0, -, i2, -⟩ := hI
  unfold f_M_wayOf
  show gd _ (gd _ (gd _ (gd _ (gd (rng (gA σ 2 (Int.toNat (26 + 4 * a)) + gA σ 2 (Int.toNat (26 + 4 * a + 2)) * gA σ 2 5) ∧ rng (gA σ 2 0) ∧ gA σ 2 0 ≠ 0) (some (Int.tmod (gA σ 2 (Int.toNat (26 + 4 * a)) + gA σ 2 (Int.toNat (26 + 4 * a + 2)) * gA σ 2 5) (gA σ 2 0), σ)))))) = _
  have e1 : gA σ 2 (Int.toNat (26 + 4 * a)) = stS s a := by rw [hV.1, show Int.toNat (26 + 4 * a) = 26 + 4 * a.toNat by omega]; rfl
  have e2 : gA σ 2 (Int.toNat (26 + 4 * a + 2)) = drS s a := by rw [hV.1, show Int.toNat (26 + 4 * a + 2) = 28 + 4 * a.toNat by omega]; rfl
  rw [gd_t (by omega), gd_t (by omega), gd_t (by decide), gd_t (by decide), e1, e2, hV.1, hV.1, gd_t ⟨by omega, by omega, by omega⟩, tmE hd.1]
  rfl
theorem W_dirOf (hI : MI s) (hV : WV σ s) {a : Int} (ha : 0 ≤ a ∧ a < s 2) : f_Scene_directionOf_scene0 F σ a = some (dirS s a, σ) := by
  have hd := dir_b hI ha
  obtain ⟨i0, -, i2, -⟩ := hI
  have hs := hV.2.2.2.2.2.2.2.1 a ha.1 ha.2
  unfold f_Scene_directionOf_scene0
  rw [gd_t (by omega), gd_t (by omega)]
  show gd (rng (gA σ 63 a.toNat + gA σ 71 a.toNat * gF σ 5058) ∧ _ ∧ _) (some (Int.tmod (gA σ 63 a.toNat + gA σ 71 a.toNat * gF σ 5058) _, σ)) = _
  rw [hs.1, hs.2.2.1, hV.2.2.2.2.2.1, hV.1.1, gd_t ⟨by omega, by omega, by omega⟩, tmE hd.1]
  rfl
end
