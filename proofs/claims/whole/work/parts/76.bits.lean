/-! PURE PART: bits of 64 -/
theorem and_cut {a b c d : Nat} (ha : a < 256) (hc : c < 256) : (a + 256 * b) &&& (c + 256 * d) = (a &&& c) + 256 * (b &&& d) := by
  have h1 := Nat.and_mod_two_pow (a := a + 256 * b) (b := c + 256 * d) (n := 8)
  have h2 := Nat.and_div_two_pow (a := a + 256 * b) (b := c + 256 * d) (n := 8)
  rw [show (a + 256 * b) % 2 ^ 8 = a by omega, show (c + 256 * d) % 2 ^ 8 = c by omega] at h1
  rw [show (a + 256 * b) / 2 ^ 8 = b by omega, show (c + 256 * d) / 2 ^ 8 = d by omega] at h2
  omega
def mk (m : Nat) : Nat → Nat
  | 0 => 0
  | n + 1 => m + 256 * mk m n
def g1 (b : Nat) : Nat := b - ((b / 2) &&& 85)
def g2 (b : Nat) : Nat := (b &&& 51) + ((b / 4) &&& 51)
def g3 (b : Nat) : Nat := (b + b / 16) &&& 15
theorem g_dec0 : ∀ h l : Fin 16, g1 (16 * h.val + l.val) < 256 ∧ g2 (g1 (16 * h.val + l.val)) < 256 ∧ g2 (g1 (16 * h.val + l.val)) % 16 ≤ 4 ∧ g2 (g1 (16 * h.val + l.val)) / 16 ≤ 4 ∧ g3 (g2 (g1 (16 * h.val + l.val))) = pcN 8 (16 * h.val + l.val) := by decide
theorem g_dec (b : Fin 256) : g1 b.val < 256 ∧ g2 (g1 b.val) < 256 ∧ g2 (g1 b.val) % 16 ≤ 4 ∧ g2 (g1 b.val) / 16 ≤ 4 ∧ g3 (g2 (g1 b.val)) = pcN 8 b.val := by
  have hb := b.isLt
  have h := g_dec0 ⟨b.val / 16, by omega⟩ ⟨b.val % 16, by omega⟩
  dsimp only at h
  rw [show 16 * (b.val / 16) + b.val % 16 = b.val by omega] at h
  exact h
theorem g_85 : ∀ u : Fin 128, (u.val + 128) &&& 85 = u.val &&& 85 := by decide
theorem g_51 : ∀ u : Fin 64, ∀ j : Fin 4, (u.val + 64 * j.val) &&& 51 = u.val &&& 51 := by decide
def z1 (n x : Nat) : Nat := x - ((x / 2) &&& mk 85 n)
def z2 (n y : Nat) : Nat := (y &&& mk 51 n) + ((y / 4) &&& mk 51 n)
def z3 (n y : Nat) : Nat := (y + y / 16) &&& mk 15 n
theorem z1_s (n x : Nat) : z1 (n + 1) x = g1 (x % 256) + 256 * z1 n (x / 256) := by
  unfold z1 g1
  have e : x / 2 = (x / 2) % 256 + 256 * (x / 256 / 2) := by omega
  have h := and_cut (a := (x / 2) % 256) (b := x / 256 / 2) (c := 85) (d := mk 85 n) (by omega) (by omega)
  rw [← e] at h
  have h2 : ((x / 2) % 256) &&& 85 = (x % 256 / 2) &&& 85 := by
    by_cases c : (x / 2) % 256 < 128
    · congr 1; omega
    · have := g_85 ⟨x % 256 / 2, by omega⟩
      rw [← this]
      congr 1
      show _ = x % 256 / 2 + 128
      omega
  show x - ((x / 2) &&& (85 + 256 * mk 85 n)) = _
  rw [h, h2]
  have l1 : (x % 256 / 2) &&& 85 ≤ x % 256 / 2 := Nat.and_le_left
  have l2 : (x / 256 / 2) &&& mk 85 n ≤ x / 256 / 2 := Nat.and_le_left
  omega
theorem z2_s (n a y : Nat) (ha : a < 256) : z2 (n + 1) (a + 256 * y) = g2 a + 256 * z2 n y := by
  unfold z2 g2
  have h := and_cut (a := a) (b := y) (c := 51) (d := mk 51 n) ha (by omega)
  have e : (a + 256 * y) / 4 = (a / 4 + 64 * (y % 4)) + 256 * (y / 4) := by omega
  have h2 := and_cut (a := a / 4 + 64 * (y % 4)) (b := y / 4) (c := 51) (d := mk 51 n) (by omega) (by omega)
  have h3 := g_51 ⟨a / 4, by omega⟩ ⟨y % 4, by omega⟩
  have h3' : (a / 4 + 64 * (y % 4)) &&& 51 = a / 4 &&& 51 := h3
  show ((a + 256 * y) &&& (51 + 256 * mk 51 n)) + ((a + 256 * y) / 4 &&& (51 + 256 * mk 51 n)) = _
  rw [h, e, h2, h3']
  omega
theorem and15 (x : Nat) : x &&& 15 = x % 16 := Nat.and_two_pow_sub_one_eq_mod x 4
theorem z3_s (n a y : Nat) (ha : a < 256) (h1 : a % 16 ≤ 4) (h2 : a / 16 ≤ 4) (h3 : y % 16 ≤ 4) : z3 (n + 1) (a + 256 * y) = g3 a + 256 * z3 n y := by
  unfold z3 g3
  have e : a + 256 * y + (a + 256 * y) / 16 = (a + a / 16 + 16 * (y % 16)) + 256 * (y + y / 16) := by omega
  have h := and_cut (a := a + a / 16 + 16 * (y % 16)) (b := y + y / 16) (c := 15) (d := mk 15 n) (by omega) (by omega)
  show (a + 256 * y + (a + 256 * y) / 16) &&& (15 + 256 * mk 15 n) = _
  rw [e, h, and15, and15]
  omega
theorem z_all : ∀ (n x : Nat), z2 n (z1 n x) % 16 ≤ 4 ∧ (z3 (n + 1) (z2 (n + 1) (z1 (n + 1) x)) = pcN 8 (x % 256) + 256 * z3 n (z2 n (z1 n (x / 256))))
  | 0, x => by
    have d := g_dec ⟨x % 256, by omega⟩
    have e0 : ∀ y, z2 0 y = 0 := fun y => by
      show (y &&& 0) + (y / 4 &&& 0) = 0
      rw [Nat.and_zero, Nat.and_zero]
    refine ⟨by rw [e0]; omega, ?_⟩
    rw [z1_s, z2_s _ _ _ d.1, z3_s _ _ _ d.2.1 d.2.2.1 d.2.2.2.1 (by rw [e0]; omega)]
    rw [d.2.2.2.2]
  | n + 1, x => by
    have d := g_dec ⟨x % 256, by omega⟩
    have d' := g_dec ⟨x / 256 % 256, by omega⟩
    have hz : ∀ y, z2 (n + 1) (z1 (n + 1) y) % 16 ≤ 4 := fun y => by
      have dy := g_dec ⟨y % 256, by omega⟩
      rw [z1_s, z2_s _ _ _ dy.1]
      have := dy.2.2.1
      have := dy.2.1
      dsimp only at *
      omega
    refine ⟨hz x, ?_⟩
    rw [z1_s (n + 1), z2_s _ _ _ d.1, z3_s _ _ _ d.2.1 d.2.2.1 d.2.2.2.1 (hz _)]
    rw [d.2.2.2.2]
theorem pcB_8 (x : Nat) : ∀ k, pcN k x ≤ k
  | 0 => Nat.le_refl 0
  | k + 1 => by
    have := pcB_8 (x / 2) k
    unfold pcN
    omega
theorem pcB_add : ∀ (k l x : Nat), pcN (k + l) x = pcN k x + pcN l (x / 2 ^ k)
  | 0, l, x => by
    rw [Nat.zero_add, Nat.pow_zero, Nat.div_one]
    show _ = 0 + _
    omega
  | k + 1, l, x => by
    rw [show k + 1 + l = (k + l) + 1 by omega]
    show x % 2 + pcN (k + l) (x / 2) = (x % 2 + pcN k (x / 2)) + pcN l (x / 2 ^ (k + 1))
    rw [pcB_add k l (x / 2), Nat.div_div_eq_div_mul, show 2 * 2 ^ k = 2 ^ (k + 1) by rw [Nat.pow_succ]; omega]
    omega
theorem pcB_mod : ∀ (k x m : Nat), k ≤ m → pcN k (x % 2 ^ m) = pcN k x
  | 0, _, _, _ => rfl
  | k + 1, x, m, h => by
    obtain ⟨m', rfl⟩ : ∃ m', m = m' + 1 := ⟨m - 1, by omega⟩
    show x % 2 ^ (m' + 1) % 2 + pcN k (x % 2 ^ (m' + 1) / 2) = x % 2 + pcN k (x / 2)
    have e1 : x % 2 ^ (m' + 1) % 2 = x % 2 := Nat.mod_mod_of_dvd x ⟨2 ^ m', by rw [Nat.pow_succ]; omega⟩
    have e2 : x % 2 ^ (m' + 1) / 2 = x / 2 % 2 ^ m' := by
      rw [Nat.pow_succ, Nat.mul_comm (2 ^ m') 2, Nat.mod_mul_right_div_self]
    rw [e1, e2, pcB_mod k (x / 2) m' (by omega)]
theorem z8 (x : Nat) : ∃ p0 p1 p2 p3 p4 p5 p6 p7 : Nat, z3 8 (z2 8 (z1 8 x)) = p0 + 256 * (p1 + 256 * (p2 + 256 * (p3 + 256 * (p4 + 256 * (p5 + 256 * (p6 + 256 * p7)))))) ∧ p0 ≤ 8 ∧ p1 ≤ 8 ∧ p2 ≤ 8 ∧ p3 ≤ 8 ∧ p4 ≤ 8 ∧ p5 ≤ 8 ∧ p6 ≤ 8 ∧ p7 ≤ 8 ∧ pcN 64 x = p0 + p1 + p2 + p3 + p4 + p5 + p6 + p7 := by
  have e0 : ∀ y, z3 0 y = 0 := fun y => Nat.and_zero _
  have hb : ∀ y, pcN 8 (y % 256) ≤ 8 := fun y => pcB_8 _ 8
  have hp : ∀ y, pcN 8 (y % 256) = pcN 8 y := fun y => pcB_mod 8 y 8 (Nat.le_refl 8)
  have hs : ∀ l y, pcN (8 + l) y = pcN 8 y + pcN l (y / 256) := fun l y => pcB_add 8 l y
  refine ⟨pcN 8 (x % 256), pcN 8 (x / 256 % 256), pcN 8 (x / 256 / 256 % 256), pcN 8 (x / 256 / 256 / 256 % 256), pcN 8 (x / 256 / 256 / 256 / 256 % 256), pcN 8 (x / 256 / 256 / 256 / 256 / 256 % 256), pcN 8 (x / 256 / 256 / 256 / 256 / 256 / 256 % 256), pcN 8 (x / 256 / 256 / 256 / 256 / 256 / 256 / 256 % 256), ?_, hb _, hb _, hb _, hb _, hb _, hb _, hb _, hb _, ?_⟩
  · rw [(z_all 7 _).2, (z_all 6 _).2, (z_all 5 _).2, (z_all 4 _).2, (z_all 3 _).2, (z_all 2 _).2, (z_all 1 _).2, (z_all 0 _).2, e0, Nat.mul_zero, Nat.add_zero]
  · rw [show (64 : Nat) = 8 + (8 + (8 + (8 + (8 + (8 + (8 + 8)))))) from rfl, hs, hs, hs, hs, hs, hs, hs]
    simp only [hp]
    omega
