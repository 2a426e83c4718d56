/-! PURE PART, base: what a computation ends with, cells, bits -/
def Ev (o : Option (Int × St)) (Q : Int → St → Prop) : Prop := ∃ r s, o = some (r, s) ∧ Q r s
theorem ev_s {r : Int} {s : St} {Q : Int → St → Prop} (h : Q r s) : Ev (some (r, s)) Q := ⟨r, s, rfl, h⟩
theorem ev_g {g : Prop} [Decidable g] {o : Option (Int × St)} {Q : Int → St → Prop} (h : g) (k : Ev o Q) : Ev (gd g o) Q := by rw [gd_t h]; exact k
theorem ev_b {o : Option (Int × St)} {k : Int → St → Option (Int × St)} {Q : Int → St → Prop} (h : Ev o fun r s => Ev (k r s) Q) : Ev (bnd o k) Q := by
  obtain ⟨r, s, rfl, h⟩ := h
  exact h
theorem ev_bv {e : Int} {k : Int → Option (Int × St)} {Q : Int → St → Prop} (h : Ev (k e) Q) : Ev (bv e k) Q := h
theorem ev_bs {e : St} {k : St → Option (Int × St)} {Q : Int → St → Prop} (h : Ev (k e) Q) : Ev (bs e k) Q := h
theorem ev_if {c : Prop} [Decidable c] {a b : Option (Int × St)} {Q : Int → St → Prop} (h1 : c → Ev a Q) (h2 : ¬ c → Ev b Q) : Ev (if c then a else b) Q := by
  by_cases h : c
  · rw [if_pos h]; exact h1 h
  · rw [if_neg h]; exact h2 h
theorem ev_m {o : Option (Int × St)} {P Q : Int → St → Prop} (h : Ev o P) (hpq : ∀ r s, P r s → Q r s) : Ev o Q := by
  obtain ⟨r, s, e, h⟩ := h
  exact ⟨r, s, e, hpq r s h⟩
theorem ev_e {o : Option (Int × St)} {r : Int} {s : St} {Q : Int → St → Prop} (e : o = some (r, s)) (h : Q r s) : Ev o Q := ⟨r, s, e, h⟩
theorem ev_be {o : Option (Int × St)} {r : Int} {s : St} {k : Int → St → Option (Int × St)} {Q : Int → St → Prop} (e : o = some (r, s)) (h : Ev (k r s) Q) : Ev (bnd o k) Q := by subst e; exact h
theorem gF_sF {σ : St} {k j : Nat} {v : Int} : gF (sF σ k v) j = if j = k then v else gF σ j := rfl
theorem gF_sA {σ : St} {k i j : Nat} {v : Int} : gF (sA σ k i v) j = gF σ j := rfl
theorem gA_sF {σ : St} {k a i : Nat} {v : Int} : gA (sF σ k v) a i = gA σ a i := rfl
theorem gA_sA {σ : St} {k i a j : Nat} {v : Int} : gA (sA σ k i v) a j = if a = k ∧ j = i then v else gA σ a j := rfl
theorem sF_sF {σ : St} {k : Nat} {v w : Int} : sF (sF σ k v) k w = sF σ k w := by
  unfold sF
  refine Prod.ext ?_ rfl
  funext j
  by_cases h : j = k <;> simp [h]
theorem tmE {a b : Int} (h : 0 ≤ a) : Int.tmod a b = a % b := Int.tmod_eq_emod_of_nonneg h
theorem mulb {a b A B : Int} (h1 : 0 ≤ a) (h2 : a ≤ A) (h3 : 0 ≤ b) (h4 : b ≤ B) : 0 ≤ a * b ∧ a * b ≤ A * B := ⟨Int.mul_nonneg h1 h3, Int.mul_le_mul h2 h4 h3 (Int.le_trans h1 h2)⟩
theorem modb {a p : Int} (h : 0 < p) : 0 ≤ a % p ∧ a % p < p := ⟨Int.emod_nonneg a (by omega), Int.emod_lt_of_pos a h⟩
theorem iandN (a b : Nat) (ha : a < 2147483648) (hb : b < 2147483648) : iandI (a : Int) (b : Int) = ((a &&& b : Nat) : Int) := by
  unfold iandI
  have hab : a &&& b < 2147483648 := Nat.lt_of_le_of_lt Nat.and_le_left ha
  show ((Int32.ofInt (a : Int)).toBitVec &&& (Int32.ofInt (b : Int)).toBitVec).toInt = _
  rw [BitVec.toInt_eq_toNat_of_lt]
  · rw [BitVec.toNat_and]
    show (((BitVec.ofInt 32 (a : Int)).toNat &&& (BitVec.ofInt 32 (b : Int)).toNat : Nat) : Int) = _
    rw [BitVec.toNat_ofInt, BitVec.toNat_ofInt]
    congr 2 <;> omega
  · rw [BitVec.toNat_and]
    show 2 * ((BitVec.ofInt 32 (a : Int)).toNat &&& (BitVec.ofInt 32 (b : Int)).toNat) < _
    rw [BitVec.toNat_ofInt, BitVec.toNat_ofInt, show ((a : Int) % ↑(2 ^ 32 : Nat)).toNat = a by omega, show ((b : Int) % ↑(2 ^ 32 : Nat)).toNat = b by omega]
    omega
theorem iorN (a b : Nat) (ha : a < 2147483648) (hb : b < 2147483648) : iorI (a : Int) (b : Int) = ((a ||| b : Nat) : Int) := by
  unfold iorI
  have hab : a ||| b < 2 ^ 31 := Nat.or_lt_two_pow ha hb
  show ((Int32.ofInt (a : Int)).toBitVec ||| (Int32.ofInt (b : Int)).toBitVec).toInt = _
  rw [BitVec.toInt_eq_toNat_of_lt]
  · rw [BitVec.toNat_or]
    show (((BitVec.ofInt 32 (a : Int)).toNat ||| (BitVec.ofInt 32 (b : Int)).toNat : Nat) : Int) = _
    rw [BitVec.toNat_ofInt, BitVec.toNat_ofInt]
    congr 2 <;> omega
  · rw [BitVec.toNat_or]
    show 2 * ((BitVec.ofInt 32 (a : Int)).toNat ||| (BitVec.ofInt 32 (b : Int)).toNat) < _
    rw [BitVec.toNat_ofInt, BitVec.toNat_ofInt, show ((a : Int) % ↑(2 ^ 32 : Nat)).toNat = a by omega, show ((b : Int) % ↑(2 ^ 32 : Nat)).toNat = b by omega]
    omega
theorem lorN (a b : Nat) (ha : a < 2 ^ 63) (hb : b < 2 ^ 63) : lorI (a : Int) (b : Int) = ((a ||| b : Nat) : Int) := by
  unfold lorI
  have hab : a ||| b < 2 ^ 63 := Nat.or_lt_two_pow ha hb
  show ((Int64.ofInt (a : Int)).toBitVec ||| (Int64.ofInt (b : Int)).toBitVec).toInt = _
  rw [BitVec.toInt_eq_toNat_of_lt]
  · rw [BitVec.toNat_or]
    show (((BitVec.ofInt 64 (a : Int)).toNat ||| (BitVec.ofInt 64 (b : Int)).toNat : Nat) : Int) = _
    rw [BitVec.toNat_ofInt, BitVec.toNat_ofInt]
    congr 2 <;> omega
  · rw [BitVec.toNat_or]
    show 2 * ((BitVec.ofInt 64 (a : Int)).toNat ||| (BitVec.ofInt 64 (b : Int)).toNat) < _
    rw [BitVec.toNat_ofInt, BitVec.toNat_ofInt, show ((a : Int) % ↑(2 ^ 64 : Nat)).toNat = a by omega, show ((b : Int) % ↑(2 ^ 64 : Nat)).toNat = b by omega]
    omega
theorem landN (a b : Nat) (ha : a < 2 ^ 63) (hb : b < 2 ^ 63) : landI (a : Int) (b : Int) = ((a &&& b : Nat) : Int) := by
  unfold landI
  have hab : a &&& b < 2 ^ 63 := Nat.lt_of_le_of_lt Nat.and_le_left ha
  show ((Int64.ofInt (a : Int)).toBitVec &&& (Int64.ofInt (b : Int)).toBitVec).toInt = _
  rw [BitVec.toInt_eq_toNat_of_lt]
  · rw [BitVec.toNat_and]
    show (((BitVec.ofInt 64 (a : Int)).toNat &&& (BitVec.ofInt 64 (b : Int)).toNat : Nat) : Int) = _
    rw [BitVec.toNat_ofInt, BitVec.toNat_ofInt]
    congr 2 <;> omega
  · rw [BitVec.toNat_and]
    show 2 * ((BitVec.ofInt 64 (a : Int)).toNat &&& (BitVec.ofInt 64 (b : Int)).toNat) < _
    rw [BitVec.toNat_ofInt, BitVec.toNat_ofInt, show ((a : Int) % ↑(2 ^ 64 : Nat)).toNat = a by omega, show ((b : Int) % ↑(2 ^ 64 : Nat)).toNat = b by omega]
    omega
theorem iand_mask (x : Int) (k : Nat) (hk : k < 31) : iandI x ((2 ^ k - 1 : Nat) : Int) = x % (2 ^ k : Nat) := by
  have hp : 2 ^ k < 2 ^ 31 := Nat.pow_lt_pow_right (by omega) hk
  have h1 : 0 < 2 ^ k := Nat.pow_pos (by omega)
  have hM : ((x % ↑(2 ^ 32 : Nat)).toNat : Int) = x % 4294967296 := by omega
  have e : iandI x ((2 ^ k - 1 : Nat) : Int) = (((x % ↑(2 ^ 32 : Nat)).toNat &&& (2 ^ k - 1) : Nat) : Int) := by
    unfold iandI
    show ((Int32.ofInt x).toBitVec &&& (Int32.ofInt ((2 ^ k - 1 : Nat) : Int)).toBitVec).toInt = _
    have hb : ((Int32.ofInt ((2 ^ k - 1 : Nat) : Int)).toBitVec).toNat = 2 ^ k - 1 := by
      show (BitVec.ofInt 32 ((2 ^ k - 1 : Nat) : Int)).toNat = _
      rw [BitVec.toNat_ofInt]; omega
    have ha : ((Int32.ofInt x).toBitVec).toNat = (x % ↑(2 ^ 32 : Nat)).toNat := by
      show (BitVec.ofInt 32 x).toNat = _
      rw [BitVec.toNat_ofInt]
    have hle : (x % ↑(2 ^ 32 : Nat)).toNat &&& (2 ^ k - 1) ≤ 2 ^ k - 1 := Nat.and_le_right
    rw [BitVec.toInt_eq_toNat_of_lt]
    · rw [BitVec.toNat_and, ha, hb]
    · rw [BitVec.toNat_and, ha, hb]; omega
  rw [e, Nat.and_two_pow_sub_one_eq_mod]
  have hd : ((2 ^ k : Nat) : Int) ∣ 4294967296 := by
    have : (2 ^ k : Nat) ∣ 2 ^ 32 := Nat.pow_dvd_pow 2 (by omega)
    have h2 := Int.natCast_dvd_natCast.mpr this
    simpa using h2
  rw [Int.natCast_emod, hM, Int.emod_emod_of_dvd x hd]
theorem iand1 (x : Int) : iandI x 1 = x % 2 := iand_mask x 1 (by omega)
theorem iand255 (x : Int) : iandI x 255 = x % 256 := iand_mask x 8 (by omega)
