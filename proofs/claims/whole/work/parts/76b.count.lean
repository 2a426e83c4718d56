/-! PURE PART: bits of 64, the count -/
theorem d2 {S : Nat} (h : S < 2 ^ 62) : (S : Int) % 18446744073709551616 / 2 ^ (Int.toNat 1) = ((S / 2 : Nat) : Int) := by
  rw [show (2 : Int) ^ (Int.toNat 1) = 2 from rfl]; omega
theorem d4 {S : Nat} (h : S < 2 ^ 62) : (S : Int) % 18446744073709551616 / 2 ^ (Int.toNat 2) = ((S / 4 : Nat) : Int) := by
  rw [show (2 : Int) ^ (Int.toNat 2) = 4 from rfl]; omega
theorem d16 {S : Nat} (h : S < 2 ^ 62) : (S : Int) % 18446744073709551616 / 2 ^ (Int.toNat 4) = ((S / 16 : Nat) : Int) := by
  rw [show (2 : Int) ^ (Int.toNat 4) = 16 from rfl]; omega
theorem d256 {S : Nat} (h : S < 2 ^ 62) : (S : Int) % 18446744073709551616 / 2 ^ (Int.toNat 8) = ((S / 256 : Nat) : Int) := by
  rw [show (2 : Int) ^ (Int.toNat 8) = 256 from rfl]; omega
theorem d65536 {S : Nat} (h : S < 2 ^ 62) : (S : Int) % 18446744073709551616 / 2 ^ (Int.toNat 16) = ((S / 65536 : Nat) : Int) := by
  rw [show (2 : Int) ^ (Int.toNat 16) = 65536 from rfl]; omega
theorem d32 {S : Nat} (h : S < 2 ^ 62) : (S : Int) % 18446744073709551616 / 2 ^ (Int.toNat 32) = ((S / 4294967296 : Nat) : Int) := by
  rw [show (2 : Int) ^ (Int.toNat 32) = 4294967296 from rfl]; omega
theorem sm {a b : Nat} : (a : Int) + (b : Nat) = ((a + b : Nat) : Int) := rfl
theorem fold1 {S p0 p1 Q2 p2 Q3 : Nat} (hS : S = p0 + 256 * (p1 + 256 * Q2)) (h2 : Q2 = p2 + 256 * Q3) (b0 : p0 ≤ 8) (b1 : p1 ≤ 8) (b2 : p2 ≤ 8) : S + S / 256 = p0 + p1 + 256 * (p1 + p2) + 65536 * (Q2 + Q3) ∧ (S + S / 256) / 65536 = Q2 + Q3 := by
  have h1 : S / 256 = p1 + 256 * Q2 := by omega
  rw [h1]
  omega
theorem fold2 {T U p0 p1 p2 p3 p4 p5 p6 p7 Q2 Q3 Q4 Q5 Q6 : Nat} (hT : T = p0 + p1 + 256 * (p1 + p2) + 65536 * (Q2 + Q3)) (hU : U = T + (Q2 + Q3)) (h23 : Q2 + Q3 = (p2 + p3) + 256 * (p3 + p4) + 65536 * (Q4 + Q5)) (h45 : Q4 + Q5 = (p4 + p5) + 256 * (p5 + p6) + 65536 * (Q6 + p7)) (b0 : p0 ≤ 8) (b1 : p1 ≤ 8) (b2 : p2 ≤ 8) (b3 : p3 ≤ 8) (b4 : p4 ≤ 8) (b5 : p5 ≤ 8) (b6 : p6 ≤ 8) : U = (p0 + p1 + p2 + p3) + 256 * (p1 + p2 + p3 + p4) + 65536 * (p2 + p3 + p4 + p5) + 16777216 * (p3 + p4 + p5 + p6) + 4294967296 * (Q4 + Q5 + (Q6 + p7)) := by
  subst hU
  rw [hT, h23, h45]
  omega
theorem fold3 {U a b c d H : Nat} (hU : U = a + 256 * b + 65536 * c + 16777216 * d + 4294967296 * H) (ha : a ≤ 32) (hb : b ≤ 32) (hc : c ≤ 32) (hd : d ≤ 32) : U / 4294967296 = H := by omega
theorem JL_1 {F : Nat} {σ : St} {x A B S : Nat} (hx : x < 2 ^ 60) (hA : z1 8 x = A) (hB : z2 8 A = B) (hS : z3 8 B = S) (lA : A < 2 ^ 61) (lB : B < 2 ^ 61) (lS : S < 2 ^ 61) (l4 : S + S / 256 < 2 ^ 61) (l5 : (S + S / 256) + (S + S / 256) / 65536 < 2 ^ 61) : f_JL_bitCount F σ (x : Nat) = some (iandI ((((S + S / 256) + (S + S / 256) / 65536) + ((S + S / 256) + (S + S / 256) / 65536) / 4294967296 : Nat) : Int) 127, σ) := by
  have m5 : mk 85 8 = 6148914691236517205 := by decide
  have m3 : mk 51 8 = 3689348814741910323 := by decide
  have mf : mk 15 8 = 1085102592571150095 := by decide
  have q1 : landI ((x / 2 : Nat) : Int) 6148914691236517205 = (((x / 2) &&& 6148914691236517205 : Nat) : Int) := landN (x / 2) 6148914691236517205 (by omega) (by omega)
  have e1 : (x : Int) - (((x / 2) &&& 6148914691236517205 : Nat) : Int) = ((A : Nat) : Int) := by
    have l1 : (x / 2) &&& 6148914691236517205 ≤ x / 2 := Nat.and_le_left
    rw [← hA]
    unfold z1
    rw [m5]; omega
  have q2 : landI (A : Int) 3689348814741910323 = ((A &&& 3689348814741910323 : Nat) : Int) := landN A 3689348814741910323 (by omega) (by omega)
  have q3 : landI ((A / 4 : Nat) : Int) 3689348814741910323 = ((A / 4 &&& 3689348814741910323 : Nat) : Int) := landN (A / 4) 3689348814741910323 (by omega) (by omega)
  have e2 : ((A &&& 3689348814741910323 : Nat) : Int) + ((A / 4 &&& 3689348814741910323 : Nat) : Int) = ((B : Nat) : Int) := by
    rw [← hB]; unfold z2; rw [m3]; rfl
  have q4 : landI ((B : Int) + ((B / 16 : Nat) : Int)) 1085102592571150095 = ((S : Nat) : Int) := by
    rw [← hS, sm]; unfold z3; rw [mf]
    exact landN (B + B / 16) 1085102592571150095 (by omega) (by omega)
  unfold f_JL_bitCount
  rw [gd_t (by decide), bv_s, d2 (by omega), q1, bv_s, e1, gd_t (by decide), bv_s, d4 (by omega), q2, q3, bv_s, e2, gd_t (by decide), bv_s, d16 (by omega), bv_s, q4, gd_t (by decide), bv_s, d256 (by omega), bv_s, sm, gd_t (by decide), bv_s, d65536 (by omega), bv_s, sm, gd_t (by decide), bv_s, d32 (by omega), bv_s, sm]
theorem JL_bit {F : Nat} {σ : St} {x : Nat} (hx : x < 2 ^ 60) : f_JL_bitCount F σ (x : Nat) = some (((pcN 64 x : Nat) : Int), σ) := by
  have lA : z1 8 x < 2 ^ 60 := by
    unfold z1
    omega
  have lB : z2 8 (z1 8 x) < 2 ^ 61 := by
    have l2 : z1 8 x &&& mk 51 8 ≤ z1 8 x := Nat.and_le_left
    have l3 : (z1 8 x / 4) &&& mk 51 8 ≤ z1 8 x / 4 := Nat.and_le_left
    unfold z2
    omega
  have lS : z3 8 (z2 8 (z1 8 x)) < 2 ^ 60 := by
    have l3 : (z2 8 (z1 8 x) + z2 8 (z1 8 x) / 16) &&& mk 15 8 ≤ mk 15 8 := Nat.and_le_right
    have mf : mk 15 8 = 1085102592571150095 := by decide
    unfold z3
    omega
  rw [JL_1 (F := F) (σ := σ) hx rfl rfl rfl (by omega) lB (by omega) (by omega) (by omega)]
  obtain ⟨p0, p1, p2, p3, p4, p5, p6, p7, hz, b0, b1, b2, b3, b4, b5, b6, b7, hp⟩ := z8 x
  obtain ⟨f1, f2⟩ := fold1 (S := z3 8 (z2 8 (z1 8 x))) (p0 := p0) (p1 := p1) (p2 := p2) (Q2 := p2 + 256 * (p3 + 256 * (p4 + 256 * (p5 + 256 * (p6 + 256 * p7))))) (Q3 := p3 + 256 * (p4 + 256 * (p5 + 256 * (p6 + 256 * p7)))) hz rfl b0 b1 b2
  have f3 := fold2 (U := (z3 8 (z2 8 (z1 8 x)) + z3 8 (z2 8 (z1 8 x)) / 256) + (z3 8 (z2 8 (z1 8 x)) + z3 8 (z2 8 (z1 8 x)) / 256) / 65536) (p3 := p3) (p4 := p4) (p5 := p5) (p6 := p6) (p7 := p7) (Q4 := p4 + 256 * (p5 + 256 * (p6 + 256 * p7))) (Q5 := p5 + 256 * (p6 + 256 * p7)) (Q6 := p6 + 256 * p7) f1 (by rw [f2]) (by clear hz f1 f2 lA lB lS hp; omega) (by clear hz f1 f2 lA lB lS hp; omega) b0 b1 b2 b3 b4 b5 b6
  have f4 := fold3 f3 (by clear hz f1 f2 f3 lA lB lS hp; omega) (by clear hz f1 f2 f3 lA lB lS hp; omega) (by clear hz f1 f2 f3 lA lB lS hp; omega) (by clear hz f1 f2 f3 lA lB lS hp; omega)
  rw [f4, f3, hp]
  clear hz f1 f2 f3 f4 lA lB lS hp
  have := iand_mask ((((p0 + p1 + p2 + p3) + 256 * (p1 + p2 + p3 + p4) + 65536 * (p2 + p3 + p4 + p5) + 16777216 * (p3 + p4 + p5 + p6) + 4294967296 * ((p4 + 256 * (p5 + 256 * (p6 + 256 * p7))) + (p5 + 256 * (p6 + 256 * p7)) + ((p6 + 256 * p7) + p7)) + ((p4 + 256 * (p5 + 256 * (p6 + 256 * p7))) + (p5 + 256 * (p6 + 256 * p7)) + ((p6 + 256 * p7) + p7)) : Nat)) : Int) 7 (by omega)
  rw [show ((2 ^ 7 - 1 : Nat) : Int) = 127 from rfl, show ((2 ^ 7 : Nat) : Int) = 128 from rfl] at this
  rw [this]
  congr 2
  omega
