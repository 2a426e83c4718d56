/-! PURE PART: bearings that cross -/
def sXS (s : Nat → Int) (a : Int) : Int := xS s (frS s a)
def sYS (s : Nat → Int) (a : Int) : Int := yS s (frS s a)
def tnS (s : Nat → Int) (a b : Int) : Int := dxS s a * dyS s b - dyS s a * dxS s b
def alA (s : Nat → Int) (a b : Int) : Int := (sXS s b - sXS s a) * dyS s b - (sYS s b - sYS s a) * dxS s b
def alB (s : Nat → Int) (a b : Int) : Int := (sXS s b - sXS s a) * dyS s a - (sYS s b - sYS s a) * dxS s a
def tT (s : Nat → Int) (a b : Int) : Int := if tnS s a b < 0 then -tnS s a b else tnS s a b
def aA (s : Nat → Int) (a b : Int) : Int := if tnS s a b < 0 then -alA s a b else alA s a b
def aB (s : Nat → Int) (a b : Int) : Int := if tnS s a b < 0 then -alB s a b else alB s a b
def pX (s : Nat → Int) (a b : Int) : Int := sXS s a * tT s a b + aA s a b * dxS s a
def pY (s : Nat → Int) (a b : Int) : Int := sYS s a * tT s a b + aA s a b * dyS s a
def crS (s : Nat → Int) (a b : Int) : Prop := frS s a ≠ frS s b ∧ tnS s a b ≠ 0 ∧ 0 < aA s a b ∧ 0 < aB s a b
theorem absb {x y A B : Int} (h1 : -A ≤ x ∧ x ≤ A) (h2 : -B ≤ y ∧ y ≤ B) : -(A * B) ≤ x * y ∧ x * y ≤ A * B := by
  have hA : 0 ≤ A := by omega
  have hB : 0 ≤ B := by omega
  rcases Int.le_total 0 x with hx | hx <;> rcases Int.le_total 0 y with hy | hy
  · have := mulb hx h1.2 hy h2.2
    have := Int.mul_nonneg hA hB
    omega
  · have := mulb (a := x) (b := -y) hx h1.2 (by omega) (show -y ≤ B by omega)
    rw [Int.mul_neg] at this
    have := Int.mul_nonneg hA hB
    omega
  · have := mulb (a := -x) (b := y) (by omega) (show -x ≤ A by omega) hy h2.2
    rw [Int.neg_mul] at this
    have := Int.mul_nonneg hA hB
    omega
  · have := mulb (a := -x) (b := -y) (by omega) (show -x ≤ A by omega) (by omega) (show -y ≤ B by omega)
    rw [Int.neg_mul_neg] at this
    have := Int.mul_nonneg hA hB
    omega
theorem ev_eq {o X : Option (Int × St)} (h : Ev o fun r s' => some (r, s') = X) : o = X := by
  obtain ⟨r, s', e, h⟩ := h
  rw [e, h]
section
variable {F : Nat} {σ : St} {s : Nat → Int} {k : Int → St → Option (Int × St)} {Q : Int → St → Prop}
theorem be_b (hI : MI s) {a : Int} (ha : 0 ≤ a ∧ a < s 4) : (0 ≤ a ∧ a < 8) ∧ (0 ≤ frS s a ∧ frS s a < 4) ∧ (-99 ≤ dxS s a ∧ dxS s a ≤ 99) ∧ (-99 ≤ dyS s a ∧ dyS s a ≤ 99) ∧ (-99 ≤ sXS s a ∧ sXS s a ≤ 99) ∧ (-99 ≤ sYS s a ∧ sYS s a ≤ 99) := by
  obtain ⟨-, -, -, i3, i4, -, -, -, -, i9, i10⟩ := hI
  have h := i10 a ha.1 ha.2
  have h2 := i9 (frS s a) h.1.1 h.1.2
  exact ⟨by omega, by omega, h.2.1, h.2.2, h2.1, h2.2⟩
theorem cr_b (hI : MI s) {a b : Int} (ha : 0 ≤ a ∧ a < s 4) (hb : 0 ≤ b ∧ b < s 4) : (-19602 ≤ tnS s a b ∧ tnS s a b ≤ 19602) ∧ (-39204 ≤ alA s a b ∧ alA s a b ≤ 39204) ∧ (-39204 ≤ alB s a b ∧ alB s a b ≤ 39204) := by
  obtain ⟨-, -, a1, a2, a3, a4⟩ := be_b hI ha
  obtain ⟨-, -, b1, b2, b3, b4⟩ := be_b hI hb
  have p1 := absb (x := dxS s a) (y := dyS s b) (A := 99) (B := 99) (by omega) (by omega)
  have p2 := absb (x := dyS s a) (y := dxS s b) (A := 99) (B := 99) (by omega) (by omega)
  have p3 := absb (x := sXS s b - sXS s a) (y := dyS s b) (A := 198) (B := 99) (by omega) (by omega)
  have p4 := absb (x := sYS s b - sYS s a) (y := dxS s b) (A := 198) (B := 99) (by omega) (by omega)
  have p5 := absb (x := sXS s b - sXS s a) (y := dyS s a) (A := 198) (B := 99) (by omega) (by omega)
  have p6 := absb (x := sYS s b - sYS s a) (y := dxS s a) (A := 198) (B := 99) (by omega) (by omega)
  unfold tnS alA alB
  exact ⟨by omega, by omega, by omega⟩
theorem pt_b (hI : MI s) {a b : Int} (ha : 0 ≤ a ∧ a < s 4) (hb : 0 ≤ b ∧ b < s 4) : (0 ≤ tT s a b ∧ tT s a b ≤ 19602) ∧ (-39204 ≤ aA s a b ∧ aA s a b ≤ 39204) ∧ (-39204 ≤ aB s a b ∧ aB s a b ≤ 39204) ∧ (-6000000 ≤ pX s a b ∧ pX s a b ≤ 6000000) ∧ (-6000000 ≤ pY s a b ∧ pY s a b ≤ 6000000) := by
  obtain ⟨c1, c2, c3⟩ := cr_b hI ha hb
  obtain ⟨-, -, a1, a2, a3, a4⟩ := be_b hI ha
  have t1 : 0 ≤ tT s a b ∧ tT s a b ≤ 19602 := by unfold tT; split <;> omega
  have t2 : -39204 ≤ aA s a b ∧ aA s a b ≤ 39204 := by unfold aA; split <;> omega
  have t3 : -39204 ≤ aB s a b ∧ aB s a b ≤ 39204 := by unfold aB; split <;> omega
  have p1 := absb (x := sXS s a) (y := tT s a b) (A := 99) (B := 19602) (by omega) (by omega)
  have p2 := absb (x := aA s a b) (y := dxS s a) (A := 39204) (B := 99) (by omega) (by omega)
  have p3 := absb (x := sYS s a) (y := tT s a b) (A := 99) (B := 19602) (by omega) (by omega)
  have p4 := absb (x := aA s a b) (y := dyS s a) (A := 39204) (B := 99) (by omega) (by omega)
  refine ⟨t1, t2, t3, ?_, ?_⟩
  · unfold pX; omega
  · unfold pY; omega
theorem M_startX (hI : MI s) (hV : ∀ i, gA σ 2 i = s i) {a : Int} (ha : 0 ≤ a ∧ a < s 4) : f_M_startX F σ a = some (sXS s a, σ) := by
  have hb := be_b hI ha
  have e : gA σ 2 (Int.toNat (58 + 3 * a)) = frS s a := by rw [hV, show Int.toNat (58 + 3 * a) = 58 + 3 * a.toNat by omega]; rfl
  unfold f_M_startX
  simp only [bv, e]
  rw [gd_t (by omega), gd_t (by omega), hV, show Int.toNat (50 + 2 * frS s a) = 50 + 2 * (frS s a).toNat by omega]
  rfl
theorem M_startY (hI : MI s) (hV : ∀ i, gA σ 2 i = s i) {a : Int} (ha : 0 ≤ a ∧ a < s 4) : f_M_startY F σ a = some (sYS s a, σ) := by
  have hb := be_b hI ha
  have e : gA σ 2 (Int.toNat (58 + 3 * a)) = frS s a := by rw [hV, show Int.toNat (58 + 3 * a) = 58 + 3 * a.toNat by omega]; rfl
  unfold f_M_startY
  simp only [bv, e]
  rw [gd_t (by omega), gd_t (by omega), hV, show Int.toNat (50 + 2 * frS s a + 1) = 51 + 2 * (frS s a).toNat by omega]
  rfl
theorem M_stepX (hI : MI s) (hV : ∀ i, gA σ 2 i = s i) {a : Int} (ha : 0 ≤ a ∧ a < s 4) : f_M_stepX F σ a = some (dxS s a, σ) := by
  have hb := be_b hI ha
  unfold f_M_stepX
  simp only [bv]
  rw [gd_t (by omega), hV, show Int.toNat (58 + 3 * a + 1) = 59 + 3 * a.toNat by omega]
  rfl
theorem M_stepY (hI : MI s) (hV : ∀ i, gA σ 2 i = s i) {a : Int} (ha : 0 ≤ a ∧ a < s 4) : f_M_stepY F σ a = some (dyS s a, σ) := by
  have hb := be_b hI ha
  unfold f_M_stepY
  simp only [bv]
  rw [gd_t (by omega), hV, show Int.toNat (58 + 3 * a + 2) = 60 + 3 * a.toNat by omega]
  rfl
def crM (σ : St) (s : Nat → Int) (a b : Int) : St := sF (sF (sF σ 50 (tT s a b)) 48 (pX s a b)) 49 (pY s a b)
def crW (σ : St) (s : Nat → Int) (a b : Int) : St := sF (sF (sF σ 1993 (tT s a b)) 1991 (pX s a b)) 1992 (pY s a b)
theorem M_cross1 (hI : MI s) (hV : ∀ i, gA σ 2 i = s i) {a b : Int} (ha : 0 ≤ a ∧ a < s 4) (hb : 0 ≤ b ∧ b < s 4) (h : crS s a b) : f_M_crosses F σ a b = some (1, crM σ s a b) := by
  obtain ⟨c1, c2, c3⟩ := cr_b hI ha hb
  obtain ⟨p1, p2, p3, p4, p5⟩ := pt_b hI ha hb
  have ba := be_b hI ha
  have bb := be_b hI hb
  obtain ⟨h1, h2, h3, h4⟩ := h
  have ea : gA σ 2 (Int.toNat (58 + 3 * a)) = frS s a := by rw [hV, show Int.toNat (58 + 3 * a) = 58 + 3 * a.toNat by omega]; rfl
  have eb : gA σ 2 (Int.toNat (58 + 3 * b)) = frS s b := by rw [hV, show Int.toNat (58 + 3 * b) = 58 + 3 * b.toNat by omega]; rfl
  have tn : dxS s a * dyS s b - dyS s a * dxS s b = tnS s a b := rfl
  have la : (sXS s b - sXS s a) * dyS s b - (sYS s b - sYS s a) * dxS s b = alA s a b := rfl
  have lb : (sXS s b - sXS s a) * dyS s a - (sYS s b - sYS s a) * dxS s a = alB s a b := rfl
  unfold f_M_crosses
  simp only [ea, eb, bv, bs]
  rw [gd_t (by omega), gd_t (by omega), gd_t (by omega), if_neg h1, M_stepX hI hV ha, bnd_s, M_stepY hI hV hb, bnd_s, M_stepY hI hV ha, bnd_s, M_stepX hI hV hb, bnd_s]
  simp only [tn]
  rw [gd_t (by omega), gd_t (by omega), if_neg h2, M_startX hI hV hb, bnd_s, M_startX hI hV ha, bnd_s, gd_t (by omega), M_startY hI hV hb, bnd_s, M_startY hI hV ha, bnd_s, gd_t (by omega), M_stepY hI hV hb, bnd_s, gd_t (by omega), M_stepX hI hV hb, bnd_s, gd_t (by omega), M_stepY hI hV ha, bnd_s, gd_t (by omega), M_stepX hI hV ha, bnd_s, gd_t (by omega)]
  simp only [la, lb]
  rw [gd_t (by omega)]
  by_cases c : tnS s a b < 0
  · have eT : tT s a b = -tnS s a b := if_pos c
    have eA : aA s a b = -alA s a b := if_pos c
    have eB : aB s a b = -alB s a b := if_pos c
    rw [if_neg (by omega), gd_t (by omega), if_neg (by omega), gd_t (by omega), if_pos (by omega)]
    have hV1 : ∀ i, gA (sF σ 50 (-tnS s a b)) 2 i = s i := hV
    rw [M_startX hI hV1 ha, bnd_s, gd_t (by omega), M_stepX hI hV1 ha, bnd_s, gd_t (by omega)]
    have hV2 : ∀ i, gA (sF (sF σ 50 (-tnS s a b)) 48 (sXS s a * -tnS s a b + -alA s a b * dxS s a)) 2 i = s i := hV
    rw [M_startY hI hV2 ha, bnd_s, gd_t (by omega), M_stepY hI hV2 ha, bnd_s, gd_t (by omega)]
    unfold crM pX pY
    rw [eT, eA]
  · have eT : tT s a b = tnS s a b := if_neg c
    have eA : aA s a b = alA s a b := if_neg c
    have eB : aB s a b = alB s a b := if_neg c
    rw [if_pos (by omega), gd_t (by omega), if_neg (by omega), gd_t (by omega), if_pos (by omega)]
    have hV1 : ∀ i, gA (sF σ 50 (tnS s a b)) 2 i = s i := hV
    rw [M_startX hI hV1 ha, bnd_s, gd_t (by omega), M_stepX hI hV1 ha, bnd_s, gd_t (by omega)]
    have hV2 : ∀ i, gA (sF (sF σ 50 (tnS s a b)) 48 (sXS s a * tnS s a b + alA s a b * dxS s a)) 2 i = s i := hV
    rw [M_startY hI hV2 ha, bnd_s, gd_t (by omega), M_stepY hI hV2 ha, bnd_s, gd_t (by omega)]
    unfold crM pX pY
    rw [eT, eA]
theorem M_cross0 (hI : MI s) (hV : ∀ i, gA σ 2 i = s i) {a b : Int} (ha : 0 ≤ a ∧ a < s 4) (hb : 0 ≤ b ∧ b < s 4) (h : ¬ crS s a b) : f_M_crosses F σ a b = some (0, σ) := by
  obtain ⟨c1, c2, c3⟩ := cr_b hI ha hb
  obtain ⟨p1, p2, p3, p4, p5⟩ := pt_b hI ha hb
  have ba := be_b hI ha
  have bb := be_b hI hb
  have ea : gA σ 2 (Int.toNat (58 + 3 * a)) = frS s a := by rw [hV, show Int.toNat (58 + 3 * a) = 58 + 3 * a.toNat by omega]; rfl
  have eb : gA σ 2 (Int.toNat (58 + 3 * b)) = frS s b := by rw [hV, show Int.toNat (58 + 3 * b) = 58 + 3 * b.toNat by omega]; rfl
  have tn : dxS s a * dyS s b - dyS s a * dxS s b = tnS s a b := rfl
  have la : (sXS s b - sXS s a) * dyS s b - (sYS s b - sYS s a) * dxS s b = alA s a b := rfl
  have lb : (sXS s b - sXS s a) * dyS s a - (sYS s b - sYS s a) * dxS s a = alB s a b := rfl
  unfold f_M_crosses
  simp only [ea, eb, bv, bs]
  rw [gd_t (by omega), gd_t (by omega), gd_t (by omega)]
  by_cases h1 : frS s a = frS s b
  · rw [if_pos h1]
  rw [if_neg h1, M_stepX hI hV ha, bnd_s, M_stepY hI hV hb, bnd_s, M_stepY hI hV ha, bnd_s, M_stepX hI hV hb, bnd_s]
  simp only [tn]
  rw [gd_t (by omega), gd_t (by omega)]
  by_cases h2 : tnS s a b = 0
  · rw [if_pos h2]
  rw [if_neg h2, M_startX hI hV hb, bnd_s, M_startX hI hV ha, bnd_s, gd_t (by omega), M_startY hI hV hb, bnd_s, M_startY hI hV ha, bnd_s, gd_t (by omega), M_stepY hI hV hb, bnd_s, gd_t (by omega), M_stepX hI hV hb, bnd_s, gd_t (by omega), M_stepY hI hV ha, bnd_s, gd_t (by omega), M_stepX hI hV ha, bnd_s, gd_t (by omega)]
  simp only [la, lb]
  rw [gd_t (by omega)]
  have h34 : ¬ (0 < aA s a b ∧ 0 < aB s a b) := fun z => h ⟨h1, h2, z.1, z.2⟩
  by_cases c : tnS s a b < 0
  · have eA : aA s a b = -alA s a b := if_pos c
    have eB : aB s a b = -alB s a b := if_pos c
    rw [if_neg (by omega), gd_t (by omega)]
    by_cases h3 : -alA s a b ≤ 0
    · rw [if_pos h3]
    · rw [if_neg h3, gd_t (by omega), if_neg (by omega)]
  · have eA : aA s a b = alA s a b := if_neg c
    have eB : aB s a b = alB s a b := if_neg c
    rw [if_pos (by omega), gd_t (by omega)]
    by_cases h3 : alA s a b ≤ 0
    · rw [if_pos h3]
    · rw [if_neg h3, gd_t (by omega), if_neg (by omega)]
theorem W_hasB1 {x : Int} (h : rng x ∧ gF σ 1987 ≤ 8) (hc : 0 ≤ x ∧ x < gF σ 1987) : f_Compass_hasBearing_compass0 F σ x = some (1, σ) := by
  unfold f_Compass_hasBearing_compass0
  rw [gd_t h.1, if_neg (by omega), gd_t (by omega), if_neg (by omega)]
theorem W_hasB0 {x : Int} (h : rng x ∧ 0 ≤ gF σ 1987 ∧ gF σ 1987 ≤ 8) (hc : ¬ (0 ≤ x ∧ x < gF σ 1987)) : f_Compass_hasBearing_compass0 F σ x = some (0, σ) := by
  unfold f_Compass_hasBearing_compass0
  rw [gd_t h.1]
  by_cases c : x < 0
  · rw [if_pos c]
  · rw [if_neg c, gd_t (by omega), if_pos (by omega)]
theorem W_meet0 (hI : MI s) (hV : WV σ s) {a b : Int} (h : rng a ∧ rng b) (hc : ¬ ((0 ≤ a ∧ a < s 4) ∧ 0 ≤ b ∧ b < s 4)) : f_Compass_meet_compass0 F σ a b = some (0, σ) := by
  have v4 := hV.2.2.2.2.1
  have i4 := hI.2.2.2.2.1
  unfold f_Compass_meet_compass0
  by_cases ca : 0 ≤ a ∧ a < s 4
  · rw [W_hasB1 (by omega) (by omega), bnd_s, gd_t (by decide), if_neg (by decide), W_hasB0 (by omega) (by omega), bnd_s, gd_t (by decide), if_pos rfl]
  · rw [W_hasB0 (by omega) (by omega), bnd_s, gd_t (by decide), if_pos rfl]
theorem W_meet (hI : MI s) (hV : WV σ s) {a b : Int} (ha : 0 ≤ a ∧ a < s 4) (hb : 0 ≤ b ∧ b < s 4) : (crS s a b → f_Compass_meet_compass0 F σ a b = some (1, crW σ s a b)) ∧ (¬ crS s a b → f_Compass_meet_compass0 F σ a b = some (0, σ)) := by
  have v4 := hV.2.2.2.2.1
  have i4 := hI.2.2.2.2.1
  obtain ⟨c1, c2, c3⟩ := cr_b hI ha hb
  obtain ⟨p1, p2, p3, p4, p5⟩ := pt_b hI ha hb
  have ba := be_b hI ha
  have bb := be_b hI hb
  obtain ⟨a1, a2, a3⟩ := hV.2.2.2.2.2.2.2.2.2 a ha.1 ha.2
  obtain ⟨b1, b2, b3⟩ := hV.2.2.2.2.2.2.2.2.2 b hb.1 hb.2
  have fa := hI.2.2.2.2.2.2.2.2.2.2 a ha.1 ha.2
  have fb := hI.2.2.2.2.2.2.2.2.2.2 b hb.1 hb.2
  obtain ⟨xa, ya⟩ := hV.2.2.2.2.2.2.2.2.1 (frS s a) fa.1.1 fa.1.2
  obtain ⟨xb, yb⟩ := hV.2.2.2.2.2.2.2.2.1 (frS s b) fb.1.1 fb.1.2
  have xa' : gA σ 35 (frS s a).toNat = sXS s a := xa
  have ya' : gA σ 39 (frS s a).toNat = sYS s a := ya
  have xb' : gA σ 35 (frS s b).toNat = sXS s b := xb
  have yb' : gA σ 39 (frS s b).toNat = sYS s b := yb
  have tn : dxS s a * dyS s b - dyS s a * dxS s b = tnS s a b := rfl
  have la : (sXS s b - sXS s a) * dyS s b - (sYS s b - sYS s a) * dxS s b = alA s a b := rfl
  have lb : (sXS s b - sXS s a) * dyS s a - (sYS s b - sYS s a) * dxS s a = alB s a b := rfl
  have key : f_Compass_meet_compass0 F σ a b = if frS s a = frS s b then some (0, σ) else if tnS s a b = 0 then some (0, σ) else if aA s a b ≤ 0 then some (0, σ) else if 0 < aB s a b then some (1, crW σ s a b) else some (0, σ) := by
    unfold f_Compass_meet_compass0
    rw [W_hasB1 (by omega) (by omega), bnd_s, gd_t (by decide), if_neg (by decide), W_hasB1 (by omega) (by omega), bnd_s, gd_t (by decide), if_neg (by decide)]
    simp only [bv, bs, gA_sF, a1, a2, a3, b1, b2, b3, xa', ya', xb', yb', tn, la, lb]
    rw [gd_t (by omega), gd_t (by omega), gd_t (by omega)]
    by_cases h1 : frS s a = frS s b
    · rw [if_pos h1, if_pos h1]
    rw [if_neg h1, if_neg h1]
    repeat rw [gd_t (by omega)]
    by_cases c : tnS s a b < 0
    · have eT : tT s a b = -tnS s a b := if_pos c
      have eA : aA s a b = -alA s a b := if_pos c
      have eB : aB s a b = -alB s a b := if_pos c
      rw [if_neg (show ¬ (0 : Int) ≤ tnS s a b by omega), if_neg (show ¬ -tnS s a b = 0 by omega), if_neg (show ¬ tnS s a b = 0 by omega), eA, eB]
      by_cases h3 : -alA s a b ≤ 0
      · rw [if_pos h3, if_pos h3]
      rw [if_neg h3, if_neg h3]
      by_cases h4 : 0 < -alB s a b
      · rw [if_pos h4, if_pos h4]
        unfold crW pX pY
        rw [eT, eA]
      · rw [if_neg h4, if_neg h4]
    · have eT : tT s a b = tnS s a b := if_neg c
      have eA : aA s a b = alA s a b := if_neg c
      have eB : aB s a b = alB s a b := if_neg c
      rw [if_pos (show (0 : Int) ≤ tnS s a b by omega), eA, eB]
      by_cases h2 : tnS s a b = 0
      · rw [if_pos h2, if_pos h2]
      rw [if_neg h2, if_neg h2]
      by_cases h3 : alA s a b ≤ 0
      · rw [if_pos h3, if_pos h3]
      rw [if_neg h3, if_neg h3]
      by_cases h4 : 0 < alB s a b
      · rw [if_pos h4, if_pos h4]
        unfold crW pX pY
        rw [eT, eA]
      · rw [if_neg h4, if_neg h4]
  rw [key]
  refine ⟨fun h => ?_, fun h => ?_⟩
  · rw [if_neg h.1, if_neg h.2.1, if_neg (by have := h.2.2.1; omega), if_pos h.2.2.2]
  · by_cases h1 : frS s a = frS s b
    · rw [if_pos h1]
    rw [if_neg h1]
    by_cases h2 : tnS s a b = 0
    · rw [if_pos h2]
    rw [if_neg h2]
    by_cases h3 : aA s a b ≤ 0
    · rw [if_pos h3]
    rw [if_neg h3, if_neg (fun h4 => h ⟨h1, h2, by omega, h4⟩)]
end
