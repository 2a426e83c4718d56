abbrev rng (x : Int) : Prop := -2147483648 ≤ x ∧ x ≤ 2147483647
abbrev rng64 (x : Int) : Prop := -9223372036854775808 ≤ x ∧ x ≤ 9223372036854775807
def gd (g : Prop) [Decidable g] (o : Option (Int × St)) : Option (Int × St) := if g then o else none
def bv (e : Int) (k : Int → Option (Int × St)) : Option (Int × St) := k e
def bs (e : St) (k : St → Option (Int × St)) : Option (Int × St) := k e
def bnd (e : Option (Int × St)) (k : Int → St → Option (Int × St)) : Option (Int × St) := match e with
  | some (r, s) => k r s
  | none => none
theorem gd_t {g : Prop} [Decidable g] {o : Option (Int × St)} (h : g) : gd g o = o := if_pos h
theorem bnd_s {r : Int} {s : St} {k : Int → St → Option (Int × St)} : bnd (some (r, s)) k = k r s := rfl
abbrev inb (i : Int) (n : Nat) : Prop := 0 ≤ i ∧ i < n
abbrev sh5 (i : Int) : Prop := 0 ≤ i ∧ i < 32
abbrev sh6 (i : Int) : Prop := 0 ≤ i ∧ i < 64
abbrev isb (x : Int) : Prop := x = 0 ∨ x = 1
theorem wi {x : Int} (h : rng x) : (Int32.ofInt x).toInt = x := Int32.toInt_ofInt_of_le (by have := h.1; omega) (by have := h.2; omega)
theorem wj {x : Int} (h : rng64 x) : (Int64.ofInt x).toInt = x := Int64.toInt_ofInt_of_le (by have := h.1; omega) (by have := h.2; omega)
theorem w_lt {x y : Int} (h : rng x ∧ rng y) : (Int32.ofInt x < Int32.ofInt y) ↔ x < y := by rw [Int32.lt_iff_toInt_lt, wi h.1, wi h.2]
theorem w_le {x y : Int} (h : rng x ∧ rng y) : (Int32.ofInt x ≤ Int32.ofInt y) ↔ x ≤ y := by rw [Int32.le_iff_toInt_le, wi h.1, wi h.2]
theorem w_eq {x y : Int} (h : rng x ∧ rng y) : (Int32.ofInt x = Int32.ofInt y) ↔ x = y := by rw [← Int32.toInt_inj, wi h.1, wi h.2]
theorem w0 {x : Int} (h : rng x) : rng x ∧ rng 0 := ⟨h, by decide⟩
theorem v_in {i : Int} {n : Nat} (h : inb i n) (hn : n < 2147483648) : vp_in (Int32.ofInt i) n := by
  rw [vp_in_iff, wi ⟨by have := h.1; omega, by have := h.2; omega⟩]; exact h
theorem v_ix {i : Int} {n : Nat} (h : inb i n) (hn : n < 2147483648) : (Int32.ofInt i).toNatClampNeg = i.toNat := by
  show (Int32.ofInt i).toInt.toNat = _
  rw [wi ⟨by have := h.1; omega, by have := h.2; omega⟩]
theorem w_div {x y : Int} (hx : rng x) (hy : rng y) : Int32.ofInt (x.tdiv y) = Int32.ofInt x / Int32.ofInt y := Int32.ofInt_tdiv hx.1 hx.2 hy.1 hy.2
theorem w_rem {x y : Int} (hx : rng x) (hy : rng y) : Int32.ofInt (x.tmod y) = Int32.ofInt x - Int32.ofInt x / Int32.ofInt y * Int32.ofInt y := by
  rw [← w_div hx hy, ← Int32.ofInt_mul, ← Int32.ofInt_sub]
  congr 1
  have := Int.mul_tdiv_add_tmod x y
  rw [Int.mul_comm] at this
  omega
theorem w_ne0 {y : Int} (hy : rng y) (h : y ≠ 0) : ¬ Int32.ofInt y = 0 := fun q => h ((w_eq (w0 hy)).mp q)
theorem x_lt {x y : Int} (h : rng64 x ∧ rng64 y) : (Int64.ofInt x < Int64.ofInt y) ↔ x < y := by rw [Int64.lt_iff_toInt_lt, wj h.1, wj h.2]
theorem x_eq {x y : Int} (h : rng64 x ∧ rng64 y) : (Int64.ofInt x = Int64.ofInt y) ↔ x = y := by rw [← Int64.toInt_inj, wj h.1, wj h.2]
theorem x_div {x y : Int} (hx : rng64 x) (hy : rng64 y) : Int64.ofInt (x.tdiv y) = Int64.ofInt x / Int64.ofInt y := Int64.ofInt_tdiv hx.1 hx.2 hy.1 hy.2
theorem x_rem {x y : Int} (hx : rng64 x) (hy : rng64 y) : Int64.ofInt (x.tmod y) = Int64.ofInt x - Int64.ofInt x / Int64.ofInt y * Int64.ofInt y := by
  rw [← x_div hx hy, ← Int64.ofInt_mul, ← Int64.ofInt_sub]
  congr 1
  have := Int.mul_tdiv_add_tmod x y
  rw [Int.mul_comm] at this
  omega
theorem x_ne0 {y : Int} (hy : rng64 y) (h : y ≠ 0) : ¬ Int64.ofInt y = 0 := fun q => h ((x_eq ⟨hy, by decide⟩).mp q)
def iandI (x y : Int) : Int := (Int32.ofInt x &&& Int32.ofInt y).toInt
def iorI (x y : Int) : Int := (Int32.ofInt x ||| Int32.ofInt y).toInt
def ixorI (x y : Int) : Int := (Int32.ofInt x ^^^ Int32.ofInt y).toInt
def landI (x y : Int) : Int := (Int64.ofInt x &&& Int64.ofInt y).toInt
def lorI (x y : Int) : Int := (Int64.ofInt x ||| Int64.ofInt y).toInt
theorem w_hi {x : Int32} : Int32.ofInt x.toInt = x := Int32.ofInt_toInt x
theorem sh5_n {i : Int} (h : sh5 i) : ∃ n : Nat, n < 32 ∧ i = n := ⟨i.toNat, by have := h.1; have := h.2; omega, by have := h.1; omega⟩
theorem sh6_n {i : Int} (h : sh6 i) : ∃ n : Nat, n < 64 ∧ i = n := ⟨i.toNat, by have := h.1; have := h.2; omega, by have := h.1; omega⟩
theorem sh_a : ∀ n, n < 32 → ((Int32.ofInt (n : Nat) &&& 31).toBitVec.smod 32).toNat = n := by decide
theorem sh_b : ∀ n, n < 32 → (((Int32.ofInt (n : Nat)).toUInt32 &&& Int32.toUInt32 31).toBitVec % 32).toNat = n := by decide
theorem sh_c : ∀ n, n < 64 → (((Int32.ofInt (n : Nat)).toInt64 &&& 63).toBitVec.smod 64).toNat = n := by decide
theorem bv_ofInt32 (z : Int) : (Int32.ofInt z).toBitVec.toNat = (z % 4294967296).toNat := by
  show (BitVec.ofInt 32 z).toNat = _
  rw [BitVec.toNat_ofInt]
  rfl
theorem bv_ofInt64 (z : Int) : (Int64.ofInt z).toBitVec.toNat = (z % 18446744073709551616).toNat := by
  show (BitVec.ofInt 64 z).toNat = _
  rw [BitVec.toNat_ofInt]
  rfl
theorem mod_pow (x : Int) (n : Nat) (M : Nat) (hM : 0 < M) : ((x * 2 ^ n) % (M : Int)).toNat = (x % (M : Int)).toNat * 2 ^ n % M := by
  have h0 : 0 ≤ x % (M : Int) := Int.emod_nonneg _ (by omega)
  obtain ⟨r, hr⟩ := Int.eq_ofNat_of_zero_le h0
  have : (x * 2 ^ n) % (M : Int) = ((r * 2 ^ n % M : Nat) : Int) := by
    have hrm : (r : Int) % (M : Int) = r := by rw [← hr]; exact Int.emod_emod_of_dvd x (Int.dvd_refl _)
    have e2 : ((r * 2 ^ n % M : Nat) : Int) = ((r : Int) * 2 ^ n) % (M : Int) := by push_cast; rfl
    rw [e2, Int.mul_emod, Int.mul_emod (r : Int), hr, hrm]
  rw [this, hr]
  rfl
theorem w_shl {x i : Int} (h : sh5 i) : Int32.ofInt x <<< (Int32.ofInt i &&& 31) = Int32.ofInt (x * 2 ^ i.toNat) := by
  obtain ⟨n, hn, rfl⟩ := sh5_n h
  apply Int32.toBitVec_inj.mp
  apply BitVec.eq_of_toNat_eq
  rw [pk_shl _ _ n (sh_a n hn), bv_ofInt32, bv_ofInt32, Int.toNat_natCast]
  exact (mod_pow x n 4294967296 (by decide)).symm
theorem w_shr {x i : Int} (hx : rng x) (h : sh5 i) : Int32.ofInt x >>> (Int32.ofInt i &&& 31) = Int32.ofInt (x / 2 ^ i.toNat) := by
  obtain ⟨n, hn, rfl⟩ := sh5_n h
  rw [← Int32.toInt_inj, pk_shr _ _ n (sh_a n hn), wi hx, Int.shiftRight_eq_div_pow, Int.toNat_natCast]
  have hp : (0 : Int) < 2 ^ n := Int.pow_pos (by decide)
  have h1 : -2147483648 ≤ x / 2 ^ n ∧ x / 2 ^ n ≤ 2147483647 := by
    have e : (1 : Int) ≤ 2 ^ n := hp
    constructor
    · apply Int.le_ediv_of_mul_le hp
      have h9 := hx.1
      generalize (2 : Int) ^ n = P at e ⊢
      omega
    · by_cases hx0 : 0 ≤ x
      · exact Int.le_trans (Int.ediv_le_self _ hx0) hx.2
      · have : x / 2 ^ n < 0 := Int.ediv_neg_of_neg_of_pos (by omega) hp
        omega
  rw [wi h1]
  norm_cast
theorem w_ushr {x i : Int} (h : sh5 i) : ((Int32.ofInt x).toUInt32 >>> ((Int32.ofInt i).toUInt32 &&& Int32.toUInt32 31)).toInt32 = Int32.ofInt (x % 4294967296 / 2 ^ i.toNat) := by
  obtain ⟨n, hn, rfl⟩ := sh5_n h
  apply Int32.toBitVec_inj.mp
  apply BitVec.eq_of_toNat_eq
  rw [pk_ushr _ _ n (sh_b n hn), bv_ofInt32, bv_ofInt32, Int.toNat_natCast]
  have h0 : 0 ≤ x % 4294967296 := Int.emod_nonneg _ (by decide)
  have h1 : x % 4294967296 < 4294967296 := Int.emod_lt_of_pos _ (by decide)
  obtain ⟨r, hr⟩ := Int.eq_ofNat_of_zero_le h0
  rw [hr] at h1 ⊢
  have h2 : (r : Int) / 2 ^ n = ((r / 2 ^ n : Nat) : Int) := by push_cast; rfl
  rw [h2]
  have h3 : r / 2 ^ n ≤ r := Nat.div_le_self _ _
  have h4 : ∀ q : Nat, q ≤ r → ((q : Nat) : Int) % 4294967296 = q := fun q hq => Int.emod_eq_of_lt (by omega) (by omega)
  rw [h4 _ h3, Int.toNat_natCast, Int.toNat_natCast]
theorem x_shl {x i : Int} (h : sh6 i) : Int64.ofInt x <<< ((Int32.ofInt i).toInt64 &&& 63) = Int64.ofInt (x * 2 ^ i.toNat) := by
  obtain ⟨n, hn, rfl⟩ := sh6_n h
  apply Int64.toBitVec_inj.mp
  apply BitVec.eq_of_toNat_eq
  show ((Int64.ofInt x).toBitVec <<< (((Int32.ofInt (n : Nat)).toInt64 &&& 63).toBitVec.smod 64)).toNat = _
  rw [BitVec.shiftLeft_eq', sh_c n hn, BitVec.toNat_shiftLeft, Nat.shiftLeft_eq, bv_ofInt64, bv_ofInt64, Int.toNat_natCast]
  exact (mod_pow x n 18446744073709551616 (by decide)).symm
theorem x_shr {x i : Int} (hx : rng64 x) (h : sh6 i) : Int64.ofInt x >>> ((Int32.ofInt i).toInt64 &&& 63) = Int64.ofInt (x / 2 ^ i.toNat) := by
  obtain ⟨n, hn, rfl⟩ := sh6_n h
  have hp : (0 : Int) < 2 ^ n := Int.pow_pos (by decide)
  have h1 : -9223372036854775808 ≤ x / 2 ^ n ∧ x / 2 ^ n ≤ 9223372036854775807 := by
    have e : (1 : Int) ≤ 2 ^ n := hp
    constructor
    · apply Int.le_ediv_of_mul_le hp
      have h9 := hx.1
      generalize (2 : Int) ^ n = P at e ⊢
      omega
    · by_cases hx0 : 0 ≤ x
      · exact Int.le_trans (Int.ediv_le_self _ hx0) hx.2
      · have : x / 2 ^ n < 0 := Int.ediv_neg_of_neg_of_pos (by omega) hp
        omega
  rw [← Int64.toInt_inj, Int.toNat_natCast, wj h1]
  show ((Int64.ofInt x).toBitVec.sshiftRight (((Int32.ofInt (n : Nat)).toInt64 &&& 63).toBitVec.smod 64).toNat).toInt = _
  rw [sh_c n hn, BitVec.toInt_sshiftRight, Int.shiftRight_eq_div_pow]
  show (Int64.ofInt x).toInt / _ = _
  rw [wj hx]
  norm_cast
theorem sh_d : ∀ n, n < 64 → (((Int32.ofInt (n : Nat)).toInt64.toUInt64 &&& Int64.toUInt64 63).toBitVec % 64).toNat = n := by decide
theorem x_ushr {x i : Int} (h : sh6 i) : ((Int64.ofInt x).toUInt64 >>> ((Int32.ofInt i).toInt64.toUInt64 &&& Int64.toUInt64 63)).toInt64 = Int64.ofInt (x % 18446744073709551616 / 2 ^ i.toNat) := by
  obtain ⟨n, hn, rfl⟩ := sh6_n h
  apply Int64.toBitVec_inj.mp
  apply BitVec.eq_of_toNat_eq
  have e1 : ((Int64.ofInt x).toUInt64 >>> ((Int32.ofInt (n : Nat)).toInt64.toUInt64 &&& Int64.toUInt64 63)).toInt64.toBitVec = (Int64.ofInt x).toBitVec >>> (((Int32.ofInt (n : Nat)).toInt64.toUInt64 &&& Int64.toUInt64 63).toBitVec % 64) := rfl
  rw [e1, BitVec.ushiftRight_eq', sh_d n hn, BitVec.toNat_ushiftRight, Nat.shiftRight_eq_div_pow, bv_ofInt64, bv_ofInt64, Int.toNat_natCast]
  have h0 : 0 ≤ x % 18446744073709551616 := Int.emod_nonneg _ (by decide)
  have h1 : x % 18446744073709551616 < 18446744073709551616 := Int.emod_lt_of_pos _ (by decide)
  obtain ⟨r, hr⟩ := Int.eq_ofNat_of_zero_le h0
  rw [hr] at h1 ⊢
  have h2 : (r : Int) / 2 ^ n = ((r / 2 ^ n : Nat) : Int) := by push_cast; rfl
  rw [h2]
  have h3 : r / 2 ^ n ≤ r := Nat.div_le_self _ _
  have h4 : ∀ q : Nat, q ≤ r → ((q : Nat) : Int) % 18446744073709551616 = q := fun q hq => Int.emod_eq_of_lt (by omega) (by omega)
  rw [h4 _ h3, Int.toNat_natCast, Int.toNat_natCast]
section WAr
variable {d kp kd : Nat} {cc : ByteArray} {own : String} {nL : Nat} {ret : Option FieldType} {LY LYe : List Sh} {K : KX} {pc : Nat} {L : List (Option Value)} {st : List Value} {σ : St} {o : Option (Int × St)}
theorem a_none : WA d kp kd cc own nL ret LY LYe K pc L st σ none := fun _ _ _ h => by cases h
theorem a_gd {g : Prop} [Decidable g] (kk : g → WA d kp kd cc own nL ret LY LYe K pc L st σ o) : WA d kp kd cc own nL ret LY LYe K pc L st σ (gd g o) := by
  by_cases h : g
  · rw [gd_t h]; exact kk h
  · rw [gd, if_neg h]; exact a_none
theorem a_bv {e : Int} {k : Int → Option (Int × St)} (kk : ∀ x, x = e → WA d kp kd cc own nL ret LY LYe K pc L st σ (k x)) : WA d kp kd cc own nL ret LY LYe K pc L st σ (bv e k) := kk e rfl
theorem a_if {c : Prop} [Decidable c] {o1 o2 : Option (Int × St)} (k1 : c → WA d kp kd cc own nL ret LY LYe K pc L st σ o1) (k2 : ¬ c → WA d kp kd cc own nL ret LY LYe K pc L st σ o2) : WA d kp kd cc own nL ret LY LYe K pc L st σ (if c then o1 else o2) := by
  by_cases h : c
  · rw [if_pos h]; exact k1 h
  · rw [if_neg h]; exact k2 h
theorem a_L {L' : List (Option Value)} (h : ∀ i v, lget L' i = some v → lget L i = some v) (kk : WA d kp kd cc own nL ret LY LYe K pc L' st σ o) : WA d kp kd cc own nL ret LY LYe K pc L st σ o := by
  intro hK r0 σ0 ho
  obtain ⟨⟨p, l, e, s, m, args⟩, ⟨below, meth, c⟩, ⟨ad0, tc, D⟩⟩ := K
  obtain ⟨hx, hb, hml, hown, hts, hlk, hret, hKK, hok⟩ := id hK.1
  intro ad hA H locs ls hP hS hl
  exact kk hK r0 σ0 ho ad hA H locs ls hP hS ⟨hl.1, hl.2.1, fun i v q => hl.2.2 i v (h i v q)⟩
def lsub : List (Option Value) → List (Option Value) → Prop
  | [], _ => True
  | none :: t, [] => lsub t []
  | some _ :: _, [] => False
  | none :: t, _ :: r => lsub t r
  | some v :: t, x :: r => x = some v ∧ lsub t r
theorem lsub_get : ∀ {A B : List (Option Value)}, lsub A B → ∀ i v, lget A i = some v → lget B i = some v
  | [], _, _, i, v, h => by simp [lget] at h
  | none :: t, [], hh, 0, v, h => by simp [lget] at h
  | none :: t, [], hh, i + 1, v, h => by have := lsub_get (A := t) (B := []) hh i v h; simp [lget] at this
  | some _ :: _, [], hh, _, _, _ => hh.elim
  | none :: t, x :: r, hh, 0, v, h => by simp [lget] at h
  | none :: t, x :: r, hh, i + 1, v, h => lsub_get (A := t) (B := r) hh i v h
  | some w :: t, x :: r, hh, 0, v, h => by rw [show lget (x :: r) 0 = x from rfl, hh.1]; exact h
  | some w :: t, x :: r, hh, i + 1, v, h => lsub_get (A := t) (B := r) hh.2 i v h
theorem a_iconst {n : Int} (hd : decode cc pc = .ok (.iconst n, 1)) (kk : WA d kp kd cc own nL ret LY LYe K (pc + 1) L (vi n :: st) σ o) : WA d kp kd cc own nL ret LY LYe K pc L st σ o := by
  intro hK r0 σ0 ho
  obtain ⟨⟨p, l, e, s, m, args⟩, ⟨below, meth, c⟩, ⟨ad0, tc, D⟩⟩ := K
  obtain ⟨hx, hb, hml, hown, hts, hlk, hret, hKK, hok⟩ := id hK.1
  intro ad hA H locs ls hP hS hl
  have kk := kk hK r0 σ0 ho ad hA H locs ls hP hS hl
  exact lv_iconst hx hb hd rfl kk
theorem a_bipush {n : Int} (hd : decode cc pc = .ok (.bipush n, 2)) (hv : (Int8.ofInt n).toInt32 = Int32.ofInt n) (kk : WA d kp kd cc own nL ret LY LYe K (pc + 2) L (vi n :: st) σ o) : WA d kp kd cc own nL ret LY LYe K pc L st σ o := by
  intro hK r0 σ0 ho
  obtain ⟨⟨p, l, e, s, m, args⟩, ⟨below, meth, c⟩, ⟨ad0, tc, D⟩⟩ := K
  obtain ⟨hx, hb, hml, hown, hts, hlk, hret, hKK, hok⟩ := id hK.1
  intro ad hA H locs ls hP hS hl
  have kk := kk hK r0 σ0 ho ad hA H locs ls hP hS hl
  exact lv_bipush hx hb hd hv kk
theorem a_sipush {n : Int} (hd : decode cc pc = .ok (.sipush n, 3)) (hv : (Int16.ofInt n).toInt32 = Int32.ofInt n) (kk : WA d kp kd cc own nL ret LY LYe K (pc + 3) L (vi n :: st) σ o) : WA d kp kd cc own nL ret LY LYe K pc L st σ o := by
  intro hK r0 σ0 ho
  obtain ⟨⟨p, l, e, s, m, args⟩, ⟨below, meth, c⟩, ⟨ad0, tc, D⟩⟩ := K
  obtain ⟨hx, hb, hml, hown, hts, hlk, hret, hKK, hok⟩ := id hK.1
  intro ad hA H locs ls hP hS hl
  have kk := kk hK r0 σ0 ho ad hA H locs ls hP hS hl
  exact lv_sipush hx hb hd hv kk
theorem a_lconst {n : Fin 2} {v : Int} (hd : decode cc pc = .ok (.lconst n, 1)) (hv : Int64.ofNat (n : Nat) = Int64.ofInt v) (kk : WA d kp kd cc own nL ret LY LYe K (pc + 1) L (vl v :: st) σ o) : WA d kp kd cc own nL ret LY LYe K pc L st σ o := by
  intro hK r0 σ0 ho
  obtain ⟨⟨p, l, e, s, m, args⟩, ⟨below, meth, c⟩, ⟨ad0, tc, D⟩⟩ := K
  obtain ⟨hx, hb, hml, hown, hts, hlk, hret, hKK, hok⟩ := id hK.1
  intro ad hA H locs ls hP hS hl
  have kk := kk hK r0 σ0 ho ad hA H locs ls hP hS hl
  exact lv_lconst hx hb hd hv kk
theorem a_ldc {idx : Nat} {w : Int32} {v : Int} (hc : Cond.constant own idx w ∈ lw_g) (hv : w = Int32.ofInt v) (hd : decode cc pc = .ok (.ldc idx, 2)) (kk : WA d kp kd cc own nL ret LY LYe K (pc + 2) L (vi v :: st) σ o) : WA d kp kd cc own nL ret LY LYe K pc L st σ o := by
  intro hK r0 σ0 ho
  obtain ⟨⟨p, l, e, s, m, args⟩, ⟨below, meth, c⟩, ⟨ad0, tc, D⟩⟩ := K
  obtain ⟨hx, hb, hml, hown, hts, hlk, hret, hKK, hok⟩ := id hK.1
  intro ad hA H locs ls hP hS hl
  have kk := kk hK r0 σ0 ho ad hA H locs ls hP hS hl
  subst hv
  exact lv_ldc hx hb hown (hts _ hc) hd kk
theorem a_ldc_w {idx : Nat} {w : Int32} {v : Int} (hc : Cond.constant own idx w ∈ lw_g) (hv : w = Int32.ofInt v) (hd : decode cc pc = .ok (.ldc_w idx, 3)) (kk : WA d kp kd cc own nL ret LY LYe K (pc + 3) L (vi v :: st) σ o) : WA d kp kd cc own nL ret LY LYe K pc L st σ o := by
  intro hK r0 σ0 ho
  obtain ⟨⟨p, l, e, s, m, args⟩, ⟨below, meth, c⟩, ⟨ad0, tc, D⟩⟩ := K
  obtain ⟨hx, hb, hml, hown, hts, hlk, hret, hKK, hok⟩ := id hK.1
  intro ad hA H locs ls hP hS hl
  have kk := kk hK r0 σ0 ho ad hA H locs ls hP hS hl
  subst hv
  exact lv_ldcw hx hb hown (hts _ hc) hd kk
theorem a_ldc2 {idx : Nat} {w : Int64} {v : Int} (hc : Cond.constantLong own idx w ∈ lw_g) (hv : w = Int64.ofInt v) (hd : decode cc pc = .ok (.ldc2_w idx, 3)) (kk : WA d kp kd cc own nL ret LY LYe K (pc + 3) L (vl v :: st) σ o) : WA d kp kd cc own nL ret LY LYe K pc L st σ o := by
  intro hK r0 σ0 ho
  obtain ⟨⟨p, l, e, s, m, args⟩, ⟨below, meth, c⟩, ⟨ad0, tc, D⟩⟩ := K
  obtain ⟨hx, hb, hml, hown, hts, hlk, hret, hKK, hok⟩ := id hK.1
  intro ad hA H locs ls hP hS hl
  have kk := kk hK r0 σ0 ho ad hA H locs ls hP hS hl
  subst hv
  exact lv_ldc2 hx hb hown (hts _ hc) hd kk
theorem a_iload_n {k : Fin 4} {x : Int} (hd : decode cc pc = .ok (.iload_n k, 1)) (hg : lget L k.val = some (vi x)) (kk : WA d kp kd cc own nL ret LY LYe K (pc + 1) L (vi x :: st) σ o) : WA d kp kd cc own nL ret LY LYe K pc L st σ o := by
  intro hK r0 σ0 ho
  obtain ⟨⟨p, l, e, s, m, args⟩, ⟨below, meth, c⟩, ⟨ad0, tc, D⟩⟩ := K
  obtain ⟨hx, hb, hml, hown, hts, hlk, hret, hKK, hok⟩ := id hK.1
  intro ad hA H locs ls hP hS hl
  have kk := kk hK r0 σ0 ho ad hA H locs ls hP hS hl
  exact lv_iload_n hx hb hd rfl (hl.2.2 _ _ hg) kk
theorem a_iload {i : Nat} {x : Int} (hd : decode cc pc = .ok (.iload i, 2)) (hg : lget L i = some (vi x)) (kk : WA d kp kd cc own nL ret LY LYe K (pc + 2) L (vi x :: st) σ o) : WA d kp kd cc own nL ret LY LYe K pc L st σ o := by
  intro hK r0 σ0 ho
  obtain ⟨⟨p, l, e, s, m, args⟩, ⟨below, meth, c⟩, ⟨ad0, tc, D⟩⟩ := K
  obtain ⟨hx, hb, hml, hown, hts, hlk, hret, hKK, hok⟩ := id hK.1
  intro ad hA H locs ls hP hS hl
  have kk := kk hK r0 σ0 ho ad hA H locs ls hP hS hl
  exact lv_iload hx hb hd (hl.2.2 _ _ hg) kk
theorem a_lload_n {k : Fin 4} {x : Int} (hd : decode cc pc = .ok (.lload_n k, 1)) (hg : lget L k.val = some (vl x)) (kk : WA d kp kd cc own nL ret LY LYe K (pc + 1) L (vl x :: st) σ o) : WA d kp kd cc own nL ret LY LYe K pc L st σ o := by
  intro hK r0 σ0 ho
  obtain ⟨⟨p, l, e, s, m, args⟩, ⟨below, meth, c⟩, ⟨ad0, tc, D⟩⟩ := K
  obtain ⟨hx, hb, hml, hown, hts, hlk, hret, hKK, hok⟩ := id hK.1
  intro ad hA H locs ls hP hS hl
  have kk := kk hK r0 σ0 ho ad hA H locs ls hP hS hl
  exact lv_lload_n hx hb hd rfl (hl.2.2 _ _ hg) kk
theorem a_lload {i : Nat} {x : Int} (hd : decode cc pc = .ok (.lload i, 2)) (hg : lget L i = some (vl x)) (kk : WA d kp kd cc own nL ret LY LYe K (pc + 2) L (vl x :: st) σ o) : WA d kp kd cc own nL ret LY LYe K pc L st σ o := by
  intro hK r0 σ0 ho
  obtain ⟨⟨p, l, e, s, m, args⟩, ⟨below, meth, c⟩, ⟨ad0, tc, D⟩⟩ := K
  obtain ⟨hx, hb, hml, hown, hts, hlk, hret, hKK, hok⟩ := id hK.1
  intro ad hA H locs ls hP hS hl
  have kk := kk hK r0 σ0 ho ad hA H locs ls hP hS hl
  exact lv_lload hx hb hd (hl.2.2 _ _ hg) kk
theorem a_aload_n {k : Fin 4} {x : Nat} (hd : decode cc pc = .ok (.aload_n k, 1)) (hg : lget L k.val = some (.ref x)) (kk : WA d kp kd cc own nL ret LY LYe K (pc + 1) L (.ref x :: st) σ o) : WA d kp kd cc own nL ret LY LYe K pc L st σ o := by
  intro hK r0 σ0 ho
  obtain ⟨⟨p, l, e, s, m, args⟩, ⟨below, meth, c⟩, ⟨ad0, tc, D⟩⟩ := K
  obtain ⟨hx, hb, hml, hown, hts, hlk, hret, hKK, hok⟩ := id hK.1
  intro ad hA H locs ls hP hS hl
  have kk := kk hK r0 σ0 ho ad hA H locs ls hP hS hl
  exact lv_aload_n hx hb hd rfl (hl.2.2 _ _ hg) kk
theorem a_aload {i : Nat} {x : Nat} (hd : decode cc pc = .ok (.aload i, 2)) (hg : lget L i = some (.ref x)) (kk : WA d kp kd cc own nL ret LY LYe K (pc + 2) L (.ref x :: st) σ o) : WA d kp kd cc own nL ret LY LYe K pc L st σ o := by
  intro hK r0 σ0 ho
  obtain ⟨⟨p, l, e, s, m, args⟩, ⟨below, meth, c⟩, ⟨ad0, tc, D⟩⟩ := K
  obtain ⟨hx, hb, hml, hown, hts, hlk, hret, hKK, hok⟩ := id hK.1
  intro ad hA H locs ls hP hS hl
  have kk := kk hK r0 σ0 ho ad hA H locs ls hP hS hl
  exact lv_aload hx hb hd (hl.2.2 _ _ hg) kk
theorem a_istore_n {k : Fin 4} {x y : Int} {L' : List (Option Value)} (hd : decode cc pc = .ok (.istore_n k, 1)) (hy : y = x) (hn : Nat.blt k.val nL = true) (hc : nolong L k.val = true) (hL : lset L k.val (vi y) = L') (kk : WA d kp kd cc own nL ret LY LYe K (pc + 1) L' st σ o) : WA d kp kd cc own nL ret LY LYe K pc L (vi x :: st) σ o := by
  intro hK r0 σ0 ho
  obtain ⟨⟨p, l, e, s, m, args⟩, ⟨below, meth, c⟩, ⟨ad0, tc, D⟩⟩ := K
  obtain ⟨hx, hb, hml, hown, hts, hlk, hret, hKK, hok⟩ := id hK.1
  intro ad hA H locs ls hP hS hl
  subst hy; subst hL
  refine lv_istore_n hx hb hd rfl (LR.has hl) (Nat.le_of_ble_eq_true hn) rfl fun ls2 h2 => ?_
  exact kk hK r0 σ0 ho ad hA H locs ls2 hP hS (LR.st1 hc h2)
theorem a_istore {i : Nat} {x y : Int} {L' : List (Option Value)} (hd : decode cc pc = .ok (.istore i, 2)) (hy : y = x) (hn : Nat.blt i nL = true) (hc : nolong L i = true) (hL : lset L i (vi y) = L') (kk : WA d kp kd cc own nL ret LY LYe K (pc + 2) L' st σ o) : WA d kp kd cc own nL ret LY LYe K pc L (vi x :: st) σ o := by
  intro hK r0 σ0 ho
  obtain ⟨⟨p, l, e, s, m, args⟩, ⟨below, meth, c⟩, ⟨ad0, tc, D⟩⟩ := K
  obtain ⟨hx, hb, hml, hown, hts, hlk, hret, hKK, hok⟩ := id hK.1
  intro ad hA H locs ls hP hS hl
  subst hy; subst hL
  refine lv_istore hx hb hd (LR.has hl) (Nat.le_of_ble_eq_true hn) rfl fun ls2 h2 => ?_
  exact kk hK r0 σ0 ho ad hA H locs ls2 hP hS (LR.st1 hc h2)
theorem a_astore_n {k : Fin 4} {x y : Nat} {L' : List (Option Value)} (hd : decode cc pc = .ok (.astore_n k, 1)) (hy : y = x) (hn : Nat.blt k.val nL = true) (hc : nolong L k.val = true) (hL : lset L k.val (.ref y) = L') (kk : WA d kp kd cc own nL ret LY LYe K (pc + 1) L' st σ o) : WA d kp kd cc own nL ret LY LYe K pc L (.ref x :: st) σ o := by
  intro hK r0 σ0 ho
  obtain ⟨⟨p, l, e, s, m, args⟩, ⟨below, meth, c⟩, ⟨ad0, tc, D⟩⟩ := K
  obtain ⟨hx, hb, hml, hown, hts, hlk, hret, hKK, hok⟩ := id hK.1
  intro ad hA H locs ls hP hS hl
  subst hy; subst hL
  refine lv_astore_n hx hb hd rfl (LR.has hl) (Nat.le_of_ble_eq_true hn) rfl fun ls2 h2 => ?_
  exact kk hK r0 σ0 ho ad hA H locs ls2 hP hS (LR.st1 hc h2)
theorem a_astore {i : Nat} {x y : Nat} {L' : List (Option Value)} (hd : decode cc pc = .ok (.astore i, 2)) (hy : y = x) (hn : Nat.blt i nL = true) (hc : nolong L i = true) (hL : lset L i (.ref y) = L') (kk : WA d kp kd cc own nL ret LY LYe K (pc + 2) L' st σ o) : WA d kp kd cc own nL ret LY LYe K pc L (.ref x :: st) σ o := by
  intro hK r0 σ0 ho
  obtain ⟨⟨p, l, e, s, m, args⟩, ⟨below, meth, c⟩, ⟨ad0, tc, D⟩⟩ := K
  obtain ⟨hx, hb, hml, hown, hts, hlk, hret, hKK, hok⟩ := id hK.1
  intro ad hA H locs ls hP hS hl
  subst hy; subst hL
  refine lv_astore hx hb hd (LR.has hl) (Nat.le_of_ble_eq_true hn) rfl fun ls2 h2 => ?_
  exact kk hK r0 σ0 ho ad hA H locs ls2 hP hS (LR.st1 hc h2)
theorem a_lstore_n {k : Fin 4} {x y : Int} {L' : List (Option Value)} (hd : decode cc pc = .ok (.lstore_n k, 1)) (hy : y = x) (hn : Nat.blt (k.val + 1) nL = true) (hc : nolong L k.val = true) (hL : lclr (lset L k.val (vl y)) (k.val + 1) = L') (kk : WA d kp kd cc own nL ret LY LYe K (pc + 1) L' st σ o) : WA d kp kd cc own nL ret LY LYe K pc L (vl x :: st) σ o := by
  intro hK r0 σ0 ho
  obtain ⟨⟨p, l, e, s, m, args⟩, ⟨below, meth, c⟩, ⟨ad0, tc, D⟩⟩ := K
  obtain ⟨hx, hb, hml, hown, hts, hlk, hret, hKK, hok⟩ := id hK.1
  intro ad hA H locs ls hP hS hl
  subst hy; subst hL
  refine lv_lstore_n hx hb hd rfl (LR.has hl) (Nat.le_of_ble_eq_true hn) rfl fun ls2 h2 => ?_
  exact kk hK r0 σ0 ho ad hA H locs ls2 hP hS (LR.st2 hc h2)
theorem a_lstore {i : Nat} {x y : Int} {L' : List (Option Value)} (hd : decode cc pc = .ok (.lstore i, 2)) (hy : y = x) (hn : Nat.blt (i + 1) nL = true) (hc : nolong L i = true) (hL : lclr (lset L i (vl y)) (i + 1) = L') (kk : WA d kp kd cc own nL ret LY LYe K (pc + 2) L' st σ o) : WA d kp kd cc own nL ret LY LYe K pc L (vl x :: st) σ o := by
  intro hK r0 σ0 ho
  obtain ⟨⟨p, l, e, s, m, args⟩, ⟨below, meth, c⟩, ⟨ad0, tc, D⟩⟩ := K
  obtain ⟨hx, hb, hml, hown, hts, hlk, hret, hKK, hok⟩ := id hK.1
  intro ad hA H locs ls hP hS hl
  subst hy; subst hL
  refine lv_lstore hx hb hd (LR.has hl) (Nat.le_of_ble_eq_true hn) rfl fun ls2 h2 => ?_
  exact kk hK r0 σ0 ho ad hA H locs ls2 hP hS (LR.st2 hc h2)
theorem a_iinc {i : Nat} {n x y : Int} {L' : List (Option Value)} (hd : decode cc pc = .ok (.iinc i n, 3)) (hg : lget L i = some (vi x)) (hy : y = x + n) (hn : Nat.blt i nL = true) (hc : nolong L i = true) (hL : lset L i (vi y) = L') (kk : WA d kp kd cc own nL ret LY LYe K (pc + 3) L' st σ o) : WA d kp kd cc own nL ret LY LYe K pc L st σ o := by
  intro hK r0 σ0 ho
  obtain ⟨⟨p, l, e, s, m, args⟩, ⟨below, meth, c⟩, ⟨ad0, tc, D⟩⟩ := K
  obtain ⟨hx, hb, hml, hown, hts, hlk, hret, hKK, hok⟩ := id hK.1
  intro ad hA H locs ls hP hS hl
  subst hL
  have hm : (i, cv ad (vi x)) ∈ lsts ad L := lsts_mem.mpr ⟨vi x, hg, rfl⟩
  obtain ⟨k, hk⟩ := List.mem_iff_getElem?.mp hm
  refine lv_iinc (v := Int32.ofInt y) hx hb hd (LR.has hl) hk (by rw [hy, Int32.ofInt_add]) (Nat.le_of_ble_eq_true hn) rfl fun ls2 h2 => ?_
  exact kk hK r0 σ0 ho ad hA H locs ls2 hP hS (LR.st1 hc h2)
theorem a_iadd {x y : Int} (hd : decode cc pc = .ok (.iadd, 1)) (kk : WA d kp kd cc own nL ret LY LYe K (pc + 1) L (vi (x + y) :: st) σ o) : WA d kp kd cc own nL ret LY LYe K pc L (vi y :: vi x :: st) σ o := by
  intro hK r0 σ0 ho
  obtain ⟨⟨p, l, e, s, m, args⟩, ⟨below, meth, c⟩, ⟨ad0, tc, D⟩⟩ := K
  obtain ⟨hx, hb, hml, hown, hts, hlk, hret, hKK, hok⟩ := id hK.1
  intro ad hA H locs ls hP hS hl
  have kk := kk hK r0 σ0 ho ad hA H locs ls hP hS hl
  rw [List.map_cons, show cv ad (vi (x + y)) = .int (Int32.ofInt x + Int32.ofInt y) by rw [← Int32.ofInt_add]; rfl] at kk
  exact lv_iadd hx hb hd kk
theorem a_isub {x y : Int} (hd : decode cc pc = .ok (.isub, 1)) (kk : WA d kp kd cc own nL ret LY LYe K (pc + 1) L (vi (x - y) :: st) σ o) : WA d kp kd cc own nL ret LY LYe K pc L (vi y :: vi x :: st) σ o := by
  intro hK r0 σ0 ho
  obtain ⟨⟨p, l, e, s, m, args⟩, ⟨below, meth, c⟩, ⟨ad0, tc, D⟩⟩ := K
  obtain ⟨hx, hb, hml, hown, hts, hlk, hret, hKK, hok⟩ := id hK.1
  intro ad hA H locs ls hP hS hl
  have kk := kk hK r0 σ0 ho ad hA H locs ls hP hS hl
  rw [List.map_cons, show cv ad (vi (x - y)) = .int (Int32.ofInt x - Int32.ofInt y) by rw [← Int32.ofInt_sub]; rfl] at kk
  exact lv_isub hx hb hd kk
theorem a_imul {x y : Int} (hd : decode cc pc = .ok (.imul, 1)) (kk : WA d kp kd cc own nL ret LY LYe K (pc + 1) L (vi (x * y) :: st) σ o) : WA d kp kd cc own nL ret LY LYe K pc L (vi y :: vi x :: st) σ o := by
  intro hK r0 σ0 ho
  obtain ⟨⟨p, l, e, s, m, args⟩, ⟨below, meth, c⟩, ⟨ad0, tc, D⟩⟩ := K
  obtain ⟨hx, hb, hml, hown, hts, hlk, hret, hKK, hok⟩ := id hK.1
  intro ad hA H locs ls hP hS hl
  have kk := kk hK r0 σ0 ho ad hA H locs ls hP hS hl
  rw [List.map_cons, show cv ad (vi (x * y)) = .int (Int32.ofInt x * Int32.ofInt y) by rw [← Int32.ofInt_mul]; rfl] at kk
  exact lv_imul hx hb hd kk
theorem a_iand {x y : Int} (hd : decode cc pc = .ok (.iand, 1)) (kk : WA d kp kd cc own nL ret LY LYe K (pc + 1) L (vi (iandI x y) :: st) σ o) : WA d kp kd cc own nL ret LY LYe K pc L (vi y :: vi x :: st) σ o := by
  intro hK r0 σ0 ho
  obtain ⟨⟨p, l, e, s, m, args⟩, ⟨below, meth, c⟩, ⟨ad0, tc, D⟩⟩ := K
  obtain ⟨hx, hb, hml, hown, hts, hlk, hret, hKK, hok⟩ := id hK.1
  intro ad hA H locs ls hP hS hl
  have kk := kk hK r0 σ0 ho ad hA H locs ls hP hS hl
  rw [List.map_cons, show cv ad (vi (iandI x y)) = .int (Int32.ofInt x &&& Int32.ofInt y) by rw [iandI, vi, w_hi]; rfl] at kk
  exact lv_iand hx hb hd kk
theorem a_ior {x y : Int} (hd : decode cc pc = .ok (.ior, 1)) (kk : WA d kp kd cc own nL ret LY LYe K (pc + 1) L (vi (iorI x y) :: st) σ o) : WA d kp kd cc own nL ret LY LYe K pc L (vi y :: vi x :: st) σ o := by
  intro hK r0 σ0 ho
  obtain ⟨⟨p, l, e, s, m, args⟩, ⟨below, meth, c⟩, ⟨ad0, tc, D⟩⟩ := K
  obtain ⟨hx, hb, hml, hown, hts, hlk, hret, hKK, hok⟩ := id hK.1
  intro ad hA H locs ls hP hS hl
  have kk := kk hK r0 σ0 ho ad hA H locs ls hP hS hl
  rw [List.map_cons, show cv ad (vi (iorI x y)) = .int (Int32.ofInt x ||| Int32.ofInt y) by rw [iorI, vi, w_hi]; rfl] at kk
  exact lv_ior hx hb hd kk
theorem a_ixor {x y : Int} (hd : decode cc pc = .ok (.ixor, 1)) (kk : WA d kp kd cc own nL ret LY LYe K (pc + 1) L (vi (ixorI x y) :: st) σ o) : WA d kp kd cc own nL ret LY LYe K pc L (vi y :: vi x :: st) σ o := by
  intro hK r0 σ0 ho
  obtain ⟨⟨p, l, e, s, m, args⟩, ⟨below, meth, c⟩, ⟨ad0, tc, D⟩⟩ := K
  obtain ⟨hx, hb, hml, hown, hts, hlk, hret, hKK, hok⟩ := id hK.1
  intro ad hA H locs ls hP hS hl
  have kk := kk hK r0 σ0 ho ad hA H locs ls hP hS hl
  rw [List.map_cons, show cv ad (vi (ixorI x y)) = .int (Int32.ofInt x ^^^ Int32.ofInt y) by rw [ixorI, vi, w_hi]; rfl] at kk
  exact lv_ixor hx hb hd kk
theorem a_ineg {x : Int} (hd : decode cc pc = .ok (.ineg, 1)) (kk : WA d kp kd cc own nL ret LY LYe K (pc + 1) L (vi (-x) :: st) σ o) : WA d kp kd cc own nL ret LY LYe K pc L (vi x :: st) σ o := by
  intro hK r0 σ0 ho
  obtain ⟨⟨p, l, e, s, m, args⟩, ⟨below, meth, c⟩, ⟨ad0, tc, D⟩⟩ := K
  obtain ⟨hx, hb, hml, hown, hts, hlk, hret, hKK, hok⟩ := id hK.1
  intro ad hA H locs ls hP hS hl
  have kk := kk hK r0 σ0 ho ad hA H locs ls hP hS hl
  rw [List.map_cons, show cv ad (vi (-x)) = .int (-Int32.ofInt x) by rw [← Int32.ofInt_neg]; rfl] at kk
  exact lv_ineg hx hb hd kk
theorem a_ladd {x y : Int} (hd : decode cc pc = .ok (.ladd, 1)) (kk : WA d kp kd cc own nL ret LY LYe K (pc + 1) L (vl (x + y) :: st) σ o) : WA d kp kd cc own nL ret LY LYe K pc L (vl y :: vl x :: st) σ o := by
  intro hK r0 σ0 ho
  obtain ⟨⟨p, l, e, s, m, args⟩, ⟨below, meth, c⟩, ⟨ad0, tc, D⟩⟩ := K
  obtain ⟨hx, hb, hml, hown, hts, hlk, hret, hKK, hok⟩ := id hK.1
  intro ad hA H locs ls hP hS hl
  have kk := kk hK r0 σ0 ho ad hA H locs ls hP hS hl
  rw [List.map_cons, show cv ad (vl (x + y)) = .long (Int64.ofInt x + Int64.ofInt y) by rw [← Int64.ofInt_add]; rfl] at kk
  exact lv_ladd hx hb hd kk
theorem a_lsub {x y : Int} (hd : decode cc pc = .ok (.lsub, 1)) (kk : WA d kp kd cc own nL ret LY LYe K (pc + 1) L (vl (x - y) :: st) σ o) : WA d kp kd cc own nL ret LY LYe K pc L (vl y :: vl x :: st) σ o := by
  intro hK r0 σ0 ho
  obtain ⟨⟨p, l, e, s, m, args⟩, ⟨below, meth, c⟩, ⟨ad0, tc, D⟩⟩ := K
  obtain ⟨hx, hb, hml, hown, hts, hlk, hret, hKK, hok⟩ := id hK.1
  intro ad hA H locs ls hP hS hl
  have kk := kk hK r0 σ0 ho ad hA H locs ls hP hS hl
  rw [List.map_cons, show cv ad (vl (x - y)) = .long (Int64.ofInt x - Int64.ofInt y) by rw [← Int64.ofInt_sub]; rfl] at kk
  exact lv_lsub hx hb hd kk
theorem a_lmul {x y : Int} (hd : decode cc pc = .ok (.lmul, 1)) (kk : WA d kp kd cc own nL ret LY LYe K (pc + 1) L (vl (x * y) :: st) σ o) : WA d kp kd cc own nL ret LY LYe K pc L (vl y :: vl x :: st) σ o := by
  intro hK r0 σ0 ho
  obtain ⟨⟨p, l, e, s, m, args⟩, ⟨below, meth, c⟩, ⟨ad0, tc, D⟩⟩ := K
  obtain ⟨hx, hb, hml, hown, hts, hlk, hret, hKK, hok⟩ := id hK.1
  intro ad hA H locs ls hP hS hl
  have kk := kk hK r0 σ0 ho ad hA H locs ls hP hS hl
  rw [List.map_cons, show cv ad (vl (x * y)) = .long (Int64.ofInt x * Int64.ofInt y) by rw [← Int64.ofInt_mul]; rfl] at kk
  exact lv_lmul hx hb hd kk
theorem a_land {x y : Int} (hd : decode cc pc = .ok (.land, 1)) (kk : WA d kp kd cc own nL ret LY LYe K (pc + 1) L (vl (landI x y) :: st) σ o) : WA d kp kd cc own nL ret LY LYe K pc L (vl y :: vl x :: st) σ o := by
  intro hK r0 σ0 ho
  obtain ⟨⟨p, l, e, s, m, args⟩, ⟨below, meth, c⟩, ⟨ad0, tc, D⟩⟩ := K
  obtain ⟨hx, hb, hml, hown, hts, hlk, hret, hKK, hok⟩ := id hK.1
  intro ad hA H locs ls hP hS hl
  have kk := kk hK r0 σ0 ho ad hA H locs ls hP hS hl
  rw [List.map_cons, show cv ad (vl (landI x y)) = .long (Int64.ofInt x &&& Int64.ofInt y) by rw [landI, vl, Int64.ofInt_toInt]; rfl] at kk
  exact lv_land hx hb hd kk
theorem a_lor {x y : Int} (hd : decode cc pc = .ok (.lor, 1)) (kk : WA d kp kd cc own nL ret LY LYe K (pc + 1) L (vl (lorI x y) :: st) σ o) : WA d kp kd cc own nL ret LY LYe K pc L (vl y :: vl x :: st) σ o := by
  intro hK r0 σ0 ho
  obtain ⟨⟨p, l, e, s, m, args⟩, ⟨below, meth, c⟩, ⟨ad0, tc, D⟩⟩ := K
  obtain ⟨hx, hb, hml, hown, hts, hlk, hret, hKK, hok⟩ := id hK.1
  intro ad hA H locs ls hP hS hl
  have kk := kk hK r0 σ0 ho ad hA H locs ls hP hS hl
  rw [List.map_cons, show cv ad (vl (lorI x y)) = .long (Int64.ofInt x ||| Int64.ofInt y) by rw [lorI, vl, Int64.ofInt_toInt]; rfl] at kk
  exact lv_lor hx hb hd kk
theorem a_lneg {x : Int} (hd : decode cc pc = .ok (.lneg, 1)) (kk : WA d kp kd cc own nL ret LY LYe K (pc + 1) L (vl (-x) :: st) σ o) : WA d kp kd cc own nL ret LY LYe K pc L (vl x :: st) σ o := by
  intro hK r0 σ0 ho
  obtain ⟨⟨p, l, e, s, m, args⟩, ⟨below, meth, c⟩, ⟨ad0, tc, D⟩⟩ := K
  obtain ⟨hx, hb, hml, hown, hts, hlk, hret, hKK, hok⟩ := id hK.1
  intro ad hA H locs ls hP hS hl
  have kk := kk hK r0 σ0 ho ad hA H locs ls hP hS hl
  rw [List.map_cons, show cv ad (vl (-x)) = .long (-Int64.ofInt x) by rw [← Int64.ofInt_neg]; rfl] at kk
  exact lv_lneg hx hb hd kk
theorem a_idiv {x y : Int} (hd : decode cc pc = .ok (.idiv, 1)) (kk : rng x ∧ rng y ∧ y ≠ 0 → WA d kp kd cc own nL ret LY LYe K (pc + 1) L (vi (x.tdiv y) :: st) σ o) : WA d kp kd cc own nL ret LY LYe K pc L (vi y :: vi x :: st) σ (gd (rng x ∧ rng y ∧ y ≠ 0) o) := by
  refine a_gd fun hg => ?_
  have kk := kk hg
  intro hK r0 σ0 ho
  obtain ⟨⟨p, l, e, s, m, args⟩, ⟨below, meth, c⟩, ⟨ad0, tc, D⟩⟩ := K
  obtain ⟨hx, hb, hml, hown, hts, hlk, hret, hKK, hok⟩ := id hK.1
  intro ad hA H locs ls hP hS hl
  have kk := kk hK r0 σ0 ho ad hA H locs ls hP hS hl
  rw [List.map_cons, show cv ad (vi (x.tdiv y)) = .int (Int32.ofInt x / Int32.ofInt y) by rw [← w_div hg.1 hg.2.1]; rfl] at kk
  exact lv_idiv hx hb hd (w_ne0 hg.2.1 hg.2.2) kk
theorem a_irem {x y : Int} (hd : decode cc pc = .ok (.irem, 1)) (kk : rng x ∧ rng y ∧ y ≠ 0 → WA d kp kd cc own nL ret LY LYe K (pc + 1) L (vi (x.tmod y) :: st) σ o) : WA d kp kd cc own nL ret LY LYe K pc L (vi y :: vi x :: st) σ (gd (rng x ∧ rng y ∧ y ≠ 0) o) := by
  refine a_gd fun hg => ?_
  have kk := kk hg
  intro hK r0 σ0 ho
  obtain ⟨⟨p, l, e, s, m, args⟩, ⟨below, meth, c⟩, ⟨ad0, tc, D⟩⟩ := K
  obtain ⟨hx, hb, hml, hown, hts, hlk, hret, hKK, hok⟩ := id hK.1
  intro ad hA H locs ls hP hS hl
  have kk := kk hK r0 σ0 ho ad hA H locs ls hP hS hl
  rw [List.map_cons, show cv ad (vi (x.tmod y)) = .int (Int32.ofInt x - Int32.ofInt x / Int32.ofInt y * Int32.ofInt y) by rw [← w_rem hg.1 hg.2.1]; rfl] at kk
  exact lv_irem hx hb hd (w_ne0 hg.2.1 hg.2.2) kk
theorem a_ldiv {x y : Int} (hd : decode cc pc = .ok (.ldiv, 1)) (kk : rng64 x ∧ rng64 y ∧ y ≠ 0 → WA d kp kd cc own nL ret LY LYe K (pc + 1) L (vl (x.tdiv y) :: st) σ o) : WA d kp kd cc own nL ret LY LYe K pc L (vl y :: vl x :: st) σ (gd (rng64 x ∧ rng64 y ∧ y ≠ 0) o) := by
  refine a_gd fun hg => ?_
  have kk := kk hg
  intro hK r0 σ0 ho
  obtain ⟨⟨p, l, e, s, m, args⟩, ⟨below, meth, c⟩, ⟨ad0, tc, D⟩⟩ := K
  obtain ⟨hx, hb, hml, hown, hts, hlk, hret, hKK, hok⟩ := id hK.1
  intro ad hA H locs ls hP hS hl
  have kk := kk hK r0 σ0 ho ad hA H locs ls hP hS hl
  rw [List.map_cons, show cv ad (vl (x.tdiv y)) = .long (Int64.ofInt x / Int64.ofInt y) by rw [← x_div hg.1 hg.2.1]; rfl] at kk
  exact lv_ldiv hx hb hd (x_ne0 hg.2.1 hg.2.2) kk
theorem a_lrem {x y : Int} (hd : decode cc pc = .ok (.lrem, 1)) (kk : rng64 x ∧ rng64 y ∧ y ≠ 0 → WA d kp kd cc own nL ret LY LYe K (pc + 1) L (vl (x.tmod y) :: st) σ o) : WA d kp kd cc own nL ret LY LYe K pc L (vl y :: vl x :: st) σ (gd (rng64 x ∧ rng64 y ∧ y ≠ 0) o) := by
  refine a_gd fun hg => ?_
  have kk := kk hg
  intro hK r0 σ0 ho
  obtain ⟨⟨p, l, e, s, m, args⟩, ⟨below, meth, c⟩, ⟨ad0, tc, D⟩⟩ := K
  obtain ⟨hx, hb, hml, hown, hts, hlk, hret, hKK, hok⟩ := id hK.1
  intro ad hA H locs ls hP hS hl
  have kk := kk hK r0 σ0 ho ad hA H locs ls hP hS hl
  rw [List.map_cons, show cv ad (vl (x.tmod y)) = .long (Int64.ofInt x - Int64.ofInt x / Int64.ofInt y * Int64.ofInt y) by rw [← x_rem hg.1 hg.2.1]; rfl] at kk
  exact lv_lrem hx hb hd (x_ne0 hg.2.1 hg.2.2) kk
theorem a_ishl {x y : Int} (hd : decode cc pc = .ok (.ishl, 1)) (kk : sh5 y → WA d kp kd cc own nL ret LY LYe K (pc + 1) L (vi (x * 2 ^ y.toNat) :: st) σ o) : WA d kp kd cc own nL ret LY LYe K pc L (vi y :: vi x :: st) σ (gd (sh5 y) o) := by
  refine a_gd fun hg => ?_
  have kk := kk hg
  intro hK r0 σ0 ho
  obtain ⟨⟨p, l, e, s, m, args⟩, ⟨below, meth, c⟩, ⟨ad0, tc, D⟩⟩ := K
  obtain ⟨hx, hb, hml, hown, hts, hlk, hret, hKK, hok⟩ := id hK.1
  intro ad hA H locs ls hP hS hl
  have kk := kk hK r0 σ0 ho ad hA H locs ls hP hS hl
  rw [List.map_cons, show cv ad (vi (x * 2 ^ y.toNat)) = .int (Int32.ofInt x <<< (Int32.ofInt y &&& 31)) by rw [w_shl hg]; rfl] at kk
  exact lv_ishl hx hb hd kk
theorem a_ishr {x y : Int} (hd : decode cc pc = .ok (.ishr, 1)) (kk : rng x ∧ sh5 y → WA d kp kd cc own nL ret LY LYe K (pc + 1) L (vi (x / 2 ^ y.toNat) :: st) σ o) : WA d kp kd cc own nL ret LY LYe K pc L (vi y :: vi x :: st) σ (gd (rng x ∧ sh5 y) o) := by
  refine a_gd fun hg => ?_
  have kk := kk hg
  intro hK r0 σ0 ho
  obtain ⟨⟨p, l, e, s, m, args⟩, ⟨below, meth, c⟩, ⟨ad0, tc, D⟩⟩ := K
  obtain ⟨hx, hb, hml, hown, hts, hlk, hret, hKK, hok⟩ := id hK.1
  intro ad hA H locs ls hP hS hl
  have kk := kk hK r0 σ0 ho ad hA H locs ls hP hS hl
  rw [List.map_cons, show cv ad (vi (x / 2 ^ y.toNat)) = .int (Int32.ofInt x >>> (Int32.ofInt y &&& 31)) by rw [w_shr hg.1 hg.2]; rfl] at kk
  exact lv_ishr hx hb hd kk
theorem a_iushr {x y : Int} (hd : decode cc pc = .ok (.iushr, 1)) (kk : sh5 y → WA d kp kd cc own nL ret LY LYe K (pc + 1) L (vi (x % 4294967296 / 2 ^ y.toNat) :: st) σ o) : WA d kp kd cc own nL ret LY LYe K pc L (vi y :: vi x :: st) σ (gd (sh5 y) o) := by
  refine a_gd fun hg => ?_
  have kk := kk hg
  intro hK r0 σ0 ho
  obtain ⟨⟨p, l, e, s, m, args⟩, ⟨below, meth, c⟩, ⟨ad0, tc, D⟩⟩ := K
  obtain ⟨hx, hb, hml, hown, hts, hlk, hret, hKK, hok⟩ := id hK.1
  intro ad hA H locs ls hP hS hl
  have kk := kk hK r0 σ0 ho ad hA H locs ls hP hS hl
  exact lv_iushr hx hb hd (w_ushr hg) kk
theorem a_lshl {x y : Int} (hd : decode cc pc = .ok (.lshl, 1)) (kk : sh6 y → WA d kp kd cc own nL ret LY LYe K (pc + 1) L (vl (x * 2 ^ y.toNat) :: st) σ o) : WA d kp kd cc own nL ret LY LYe K pc L (vi y :: vl x :: st) σ (gd (sh6 y) o) := by
  refine a_gd fun hg => ?_
  have kk := kk hg
  intro hK r0 σ0 ho
  obtain ⟨⟨p, l, e, s, m, args⟩, ⟨below, meth, c⟩, ⟨ad0, tc, D⟩⟩ := K
  obtain ⟨hx, hb, hml, hown, hts, hlk, hret, hKK, hok⟩ := id hK.1
  intro ad hA H locs ls hP hS hl
  have kk := kk hK r0 σ0 ho ad hA H locs ls hP hS hl
  exact lv_lshl hx hb hd (x_shl hg) kk
theorem a_lshr {x y : Int} (hd : decode cc pc = .ok (.lshr, 1)) (kk : rng64 x ∧ sh6 y → WA d kp kd cc own nL ret LY LYe K (pc + 1) L (vl (x / 2 ^ y.toNat) :: st) σ o) : WA d kp kd cc own nL ret LY LYe K pc L (vi y :: vl x :: st) σ (gd (rng64 x ∧ sh6 y) o) := by
  refine a_gd fun hg => ?_
  have kk := kk hg
  intro hK r0 σ0 ho
  obtain ⟨⟨p, l, e, s, m, args⟩, ⟨below, meth, c⟩, ⟨ad0, tc, D⟩⟩ := K
  obtain ⟨hx, hb, hml, hown, hts, hlk, hret, hKK, hok⟩ := id hK.1
  intro ad hA H locs ls hP hS hl
  have kk := kk hK r0 σ0 ho ad hA H locs ls hP hS hl
  exact lv_lshr hx hb hd (x_shr hg.1 hg.2) kk
theorem a_lushr {x y : Int} (hd : decode cc pc = .ok (.lushr, 1)) (kk : sh6 y → WA d kp kd cc own nL ret LY LYe K (pc + 1) L (vl (x % 18446744073709551616 / 2 ^ y.toNat) :: st) σ o) : WA d kp kd cc own nL ret LY LYe K pc L (vi y :: vl x :: st) σ (gd (sh6 y) o) := by
  refine a_gd fun hg => ?_
  have kk := kk hg
  intro hK r0 σ0 ho
  obtain ⟨⟨p, l, e, s, m, args⟩, ⟨below, meth, c⟩, ⟨ad0, tc, D⟩⟩ := K
  obtain ⟨hx, hb, hml, hown, hts, hlk, hret, hKK, hok⟩ := id hK.1
  intro ad hA H locs ls hP hS hl
  have kk := kk hK r0 σ0 ho ad hA H locs ls hP hS hl
  exact lv_lushr hx hb hd (x_ushr hg) kk
theorem a_i2l {x : Int} (hd : decode cc pc = .ok (.i2l, 1)) (kk : rng x → WA d kp kd cc own nL ret LY LYe K (pc + 1) L (vl x :: st) σ o) : WA d kp kd cc own nL ret LY LYe K pc L (vi x :: st) σ (gd (rng x) o) := by
  refine a_gd fun hg => ?_
  have kk := kk hg
  intro hK r0 σ0 ho
  obtain ⟨⟨p, l, e, s, m, args⟩, ⟨below, meth, c⟩, ⟨ad0, tc, D⟩⟩ := K
  obtain ⟨hx, hb, hml, hown, hts, hlk, hret, hKK, hok⟩ := id hK.1
  intro ad hA H locs ls hP hS hl
  have kk := kk hK r0 σ0 ho ad hA H locs ls hP hS hl
  exact lv_i2l hx hb hd (Int32.toInt64_ofInt hg.1 hg.2) kk
theorem a_l2i {x : Int} (hd : decode cc pc = .ok (.l2i, 1)) (kk : WA d kp kd cc own nL ret LY LYe K (pc + 1) L (vi x :: st) σ o) : WA d kp kd cc own nL ret LY LYe K pc L (vl x :: st) σ o := by
  intro hK r0 σ0 ho
  obtain ⟨⟨p, l, e, s, m, args⟩, ⟨below, meth, c⟩, ⟨ad0, tc, D⟩⟩ := K
  obtain ⟨hx, hb, hml, hown, hts, hlk, hret, hKK, hok⟩ := id hK.1
  intro ad hA H locs ls hP hS hl
  have kk := kk hK r0 σ0 ho ad hA H locs ls hP hS hl
  exact lv_l2i hx hb hd Int64.toInt32_ofInt kk
theorem a_i2b {x : Int} (hd : decode cc pc = .ok (.i2b, 1)) (kk : WA d kp kd cc own nL ret LY LYe K (pc + 1) L (vi (x.bmod 256) :: st) σ o) : WA d kp kd cc own nL ret LY LYe K pc L (vi x :: st) σ o := by
  intro hK r0 σ0 ho
  obtain ⟨⟨p, l, e, s, m, args⟩, ⟨below, meth, c⟩, ⟨ad0, tc, D⟩⟩ := K
  obtain ⟨hx, hb, hml, hown, hts, hlk, hret, hKK, hok⟩ := id hK.1
  intro ad hA H locs ls hP hS hl
  have kk := kk hK r0 σ0 ho ad hA H locs ls hP hS hl
  exact lv_i2b hx hb hd (by rw [Int32.toInt8_ofInt, ← Int32.toInt_inj, Int8.toInt_toInt32, Int8.toInt_ofInt, Int32.toInt_ofInt]; show x.bmod 256 = (x.bmod 256).bmod 4294967296; have h1 := Int.bmod_lt (x := x) (m := 256) (by decide); have h2 := Int.le_bmod (x := x) (m := 256) (by decide); exact (Int.bmod_eq_of_le (by omega) (by omega)).symm) kk
theorem a_dup {v : Value} (hd : decode cc pc = .ok (.dup, 1)) (hc : v.category = 1) (kk : WA d kp kd cc own nL ret LY LYe K (pc + 1) L (v :: v :: st) σ o) : WA d kp kd cc own nL ret LY LYe K pc L (v :: st) σ o := by
  intro hK r0 σ0 ho
  obtain ⟨⟨p, l, e, s, m, args⟩, ⟨below, meth, c⟩, ⟨ad0, tc, D⟩⟩ := K
  obtain ⟨hx, hb, hml, hown, hts, hlk, hret, hKK, hok⟩ := id hK.1
  intro ad hA H locs ls hP hS hl
  have kk := kk hK r0 σ0 ho ad hA H locs ls hP hS hl
  exact lv_dup hx hb hd (by rw [cv_cat]; exact hc) kk
theorem a_pop {v : Value} (hd : decode cc pc = .ok (.pop, 1)) (hc : v.category = 1) (kk : WA d kp kd cc own nL ret LY LYe K (pc + 1) L st σ o) : WA d kp kd cc own nL ret LY LYe K pc L (v :: st) σ o := by
  intro hK r0 σ0 ho
  obtain ⟨⟨p, l, e, s, m, args⟩, ⟨below, meth, c⟩, ⟨ad0, tc, D⟩⟩ := K
  obtain ⟨hx, hb, hml, hown, hts, hlk, hret, hKK, hok⟩ := id hK.1
  intro ad hA H locs ls hP hS hl
  have kk := kk hK r0 σ0 ho ad hA H locs ls hP hS hl
  exact lv_pop hx hb hd (by rw [cv_cat]; exact hc) kk
theorem a_dup2 {v w : Value} (hd : decode cc pc = .ok (.dup2, 1)) (hc : v.category = 1) (hc2 : w.category = 1) (kk : WA d kp kd cc own nL ret LY LYe K (pc + 1) L (v :: w :: v :: w :: st) σ o) : WA d kp kd cc own nL ret LY LYe K pc L (v :: w :: st) σ o := by
  intro hK r0 σ0 ho
  obtain ⟨⟨p, l, e, s, m, args⟩, ⟨below, meth, c⟩, ⟨ad0, tc, D⟩⟩ := K
  obtain ⟨hx, hb, hml, hown, hts, hlk, hret, hKK, hok⟩ := id hK.1
  intro ad hA H locs ls hP hS hl
  have kk := kk hK r0 σ0 ho ad hA H locs ls hP hS hl
  exact lv_dup2_11 hx hb hd (by rw [cv_cat]; exact hc) (by rw [cv_cat]; exact hc2) kk
theorem a_goto {off : Int} {tgt : Nat} (hd : decode cc pc = .ok (.goto off, 3)) (ht : (pc : Int) + off = (tgt : Int)) (kk : WA d kp kd cc own nL ret LY LYe K tgt L st σ o) : WA d kp kd cc own nL ret LY LYe K pc L st σ o := by
  intro hK r0 σ0 ho
  obtain ⟨⟨p, l, e, s, m, args⟩, ⟨below, meth, c⟩, ⟨ad0, tc, D⟩⟩ := K
  obtain ⟨hx, hb, hml, hown, hts, hlk, hret, hKK, hok⟩ := id hK.1
  intro ad hA H locs ls hP hS hl
  have kk := kk hK r0 σ0 ho ad hA H locs ls hP hS hl
  exact lv_goto hx hb hd ht kk
theorem a_icmp_lt {x y off : Int} {tgt : Nat} {o1 o2 : Option (Int × St)} (hd : decode cc pc = .ok (.if_icmp .lt off, 3)) (ht : (pc : Int) + off = (tgt : Int)) (k1 : (x < y) → WA d kp kd cc own nL ret LY LYe K tgt L st σ o1) (k2 : ¬ (x < y) → WA d kp kd cc own nL ret LY LYe K (pc + 3) L st σ o2) : WA d kp kd cc own nL ret LY LYe K pc L (vi y :: vi x :: st) σ (gd (rng x ∧ rng y) (if x < y then o1 else o2)) := by
  refine a_gd fun hg => ?_
  intro hK r0 σ0 ho
  obtain ⟨⟨p, l, e, s, m, args⟩, ⟨below, meth, c⟩, ⟨ad0, tc, D⟩⟩ := K
  obtain ⟨hx, hb, hml, hown, hts, hlk, hret, hKK, hok⟩ := id hK.1
  intro ad hA H locs ls hP hS hl
  refine lv_icmp_lt hx hb hd ht (fun q => ?_) (fun q => ?_)
  · have q := (w_lt hg).mp q
    rw [if_pos q] at ho
    exact k1 q hK r0 σ0 ho ad hA H locs ls hP hS hl
  · have q : ¬ (x < y) := fun z => q ((w_lt hg).mpr z)
    rw [if_neg q] at ho
    exact k2 q hK r0 σ0 ho ad hA H locs ls hP hS hl
theorem a_if_lt {x off : Int} {tgt : Nat} {o1 o2 : Option (Int × St)} (hd : decode cc pc = .ok (.ifCond .lt off, 3)) (ht : (pc : Int) + off = (tgt : Int)) (k1 : (x < 0) → WA d kp kd cc own nL ret LY LYe K tgt L st σ o1) (k2 : ¬ (x < 0) → WA d kp kd cc own nL ret LY LYe K (pc + 3) L st σ o2) : WA d kp kd cc own nL ret LY LYe K pc L (vi x :: st) σ (gd (rng x) (if x < 0 then o1 else o2)) := by
  refine a_gd fun hg => ?_
  intro hK r0 σ0 ho
  obtain ⟨⟨p, l, e, s, m, args⟩, ⟨below, meth, c⟩, ⟨ad0, tc, D⟩⟩ := K
  obtain ⟨hx, hb, hml, hown, hts, hlk, hret, hKK, hok⟩ := id hK.1
  intro ad hA H locs ls hP hS hl
  refine lv_if_lt hx hb hd ht (fun q => ?_) (fun q => ?_)
  · have q := (w_lt (w0 hg)).mp q
    rw [if_pos q] at ho
    exact k1 q hK r0 σ0 ho ad hA H locs ls hP hS hl
  · have q : ¬ (x < 0) := fun z => q ((w_lt (w0 hg)).mpr z)
    rw [if_neg q] at ho
    exact k2 q hK r0 σ0 ho ad hA H locs ls hP hS hl
theorem a_icmp_ge {x y off : Int} {tgt : Nat} {o1 o2 : Option (Int × St)} (hd : decode cc pc = .ok (.if_icmp .ge off, 3)) (ht : (pc : Int) + off = (tgt : Int)) (k1 : (y ≤ x) → WA d kp kd cc own nL ret LY LYe K tgt L st σ o1) (k2 : ¬ (y ≤ x) → WA d kp kd cc own nL ret LY LYe K (pc + 3) L st σ o2) : WA d kp kd cc own nL ret LY LYe K pc L (vi y :: vi x :: st) σ (gd (rng x ∧ rng y) (if y ≤ x then o1 else o2)) := by
  refine a_gd fun hg => ?_
  intro hK r0 σ0 ho
  obtain ⟨⟨p, l, e, s, m, args⟩, ⟨below, meth, c⟩, ⟨ad0, tc, D⟩⟩ := K
  obtain ⟨hx, hb, hml, hown, hts, hlk, hret, hKK, hok⟩ := id hK.1
  intro ad hA H locs ls hP hS hl
  refine lv_icmp_ge hx hb hd ht (fun q => ?_) (fun q => ?_)
  · have q := (w_le ⟨hg.2, hg.1⟩).mp q
    rw [if_pos q] at ho
    exact k1 q hK r0 σ0 ho ad hA H locs ls hP hS hl
  · have q : ¬ (y ≤ x) := fun z => q ((w_le ⟨hg.2, hg.1⟩).mpr z)
    rw [if_neg q] at ho
    exact k2 q hK r0 σ0 ho ad hA H locs ls hP hS hl
theorem a_if_ge {x off : Int} {tgt : Nat} {o1 o2 : Option (Int × St)} (hd : decode cc pc = .ok (.ifCond .ge off, 3)) (ht : (pc : Int) + off = (tgt : Int)) (k1 : (0 ≤ x) → WA d kp kd cc own nL ret LY LYe K tgt L st σ o1) (k2 : ¬ (0 ≤ x) → WA d kp kd cc own nL ret LY LYe K (pc + 3) L st σ o2) : WA d kp kd cc own nL ret LY LYe K pc L (vi x :: st) σ (gd (rng x) (if 0 ≤ x then o1 else o2)) := by
  refine a_gd fun hg => ?_
  intro hK r0 σ0 ho
  obtain ⟨⟨p, l, e, s, m, args⟩, ⟨below, meth, c⟩, ⟨ad0, tc, D⟩⟩ := K
  obtain ⟨hx, hb, hml, hown, hts, hlk, hret, hKK, hok⟩ := id hK.1
  intro ad hA H locs ls hP hS hl
  refine lv_if_ge hx hb hd ht (fun q => ?_) (fun q => ?_)
  · have q := (w_le (x := 0) ⟨by decide, hg⟩).mp q
    rw [if_pos q] at ho
    exact k1 q hK r0 σ0 ho ad hA H locs ls hP hS hl
  · have q : ¬ (0 ≤ x) := fun z => q ((w_le (x := 0) ⟨by decide, hg⟩).mpr z)
    rw [if_neg q] at ho
    exact k2 q hK r0 σ0 ho ad hA H locs ls hP hS hl
theorem a_icmp_gt {x y off : Int} {tgt : Nat} {o1 o2 : Option (Int × St)} (hd : decode cc pc = .ok (.if_icmp .gt off, 3)) (ht : (pc : Int) + off = (tgt : Int)) (k1 : (y < x) → WA d kp kd cc own nL ret LY LYe K tgt L st σ o1) (k2 : ¬ (y < x) → WA d kp kd cc own nL ret LY LYe K (pc + 3) L st σ o2) : WA d kp kd cc own nL ret LY LYe K pc L (vi y :: vi x :: st) σ (gd (rng x ∧ rng y) (if y < x then o1 else o2)) := by
  refine a_gd fun hg => ?_
  intro hK r0 σ0 ho
  obtain ⟨⟨p, l, e, s, m, args⟩, ⟨below, meth, c⟩, ⟨ad0, tc, D⟩⟩ := K
  obtain ⟨hx, hb, hml, hown, hts, hlk, hret, hKK, hok⟩ := id hK.1
  intro ad hA H locs ls hP hS hl
  refine lv_icmp_gt hx hb hd ht (fun q => ?_) (fun q => ?_)
  · have q := (w_lt ⟨hg.2, hg.1⟩).mp q
    rw [if_pos q] at ho
    exact k1 q hK r0 σ0 ho ad hA H locs ls hP hS hl
  · have q : ¬ (y < x) := fun z => q ((w_lt ⟨hg.2, hg.1⟩).mpr z)
    rw [if_neg q] at ho
    exact k2 q hK r0 σ0 ho ad hA H locs ls hP hS hl
theorem a_if_gt {x off : Int} {tgt : Nat} {o1 o2 : Option (Int × St)} (hd : decode cc pc = .ok (.ifCond .gt off, 3)) (ht : (pc : Int) + off = (tgt : Int)) (k1 : (0 < x) → WA d kp kd cc own nL ret LY LYe K tgt L st σ o1) (k2 : ¬ (0 < x) → WA d kp kd cc own nL ret LY LYe K (pc + 3) L st σ o2) : WA d kp kd cc own nL ret LY LYe K pc L (vi x :: st) σ (gd (rng x) (if 0 < x then o1 else o2)) := by
  refine a_gd fun hg => ?_
  intro hK r0 σ0 ho
  obtain ⟨⟨p, l, e, s, m, args⟩, ⟨below, meth, c⟩, ⟨ad0, tc, D⟩⟩ := K
  obtain ⟨hx, hb, hml, hown, hts, hlk, hret, hKK, hok⟩ := id hK.1
  intro ad hA H locs ls hP hS hl
  refine lv_if_gt hx hb hd ht (fun q => ?_) (fun q => ?_)
  · have q := (w_lt (x := 0) ⟨by decide, hg⟩).mp q
    rw [if_pos q] at ho
    exact k1 q hK r0 σ0 ho ad hA H locs ls hP hS hl
  · have q : ¬ (0 < x) := fun z => q ((w_lt (x := 0) ⟨by decide, hg⟩).mpr z)
    rw [if_neg q] at ho
    exact k2 q hK r0 σ0 ho ad hA H locs ls hP hS hl
theorem a_icmp_le {x y off : Int} {tgt : Nat} {o1 o2 : Option (Int × St)} (hd : decode cc pc = .ok (.if_icmp .le off, 3)) (ht : (pc : Int) + off = (tgt : Int)) (k1 : (x ≤ y) → WA d kp kd cc own nL ret LY LYe K tgt L st σ o1) (k2 : ¬ (x ≤ y) → WA d kp kd cc own nL ret LY LYe K (pc + 3) L st σ o2) : WA d kp kd cc own nL ret LY LYe K pc L (vi y :: vi x :: st) σ (gd (rng x ∧ rng y) (if x ≤ y then o1 else o2)) := by
  refine a_gd fun hg => ?_
  intro hK r0 σ0 ho
  obtain ⟨⟨p, l, e, s, m, args⟩, ⟨below, meth, c⟩, ⟨ad0, tc, D⟩⟩ := K
  obtain ⟨hx, hb, hml, hown, hts, hlk, hret, hKK, hok⟩ := id hK.1
  intro ad hA H locs ls hP hS hl
  refine lv_icmp_le hx hb hd ht (fun q => ?_) (fun q => ?_)
  · have q := (w_le hg).mp q
    rw [if_pos q] at ho
    exact k1 q hK r0 σ0 ho ad hA H locs ls hP hS hl
  · have q : ¬ (x ≤ y) := fun z => q ((w_le hg).mpr z)
    rw [if_neg q] at ho
    exact k2 q hK r0 σ0 ho ad hA H locs ls hP hS hl
theorem a_if_le {x off : Int} {tgt : Nat} {o1 o2 : Option (Int × St)} (hd : decode cc pc = .ok (.ifCond .le off, 3)) (ht : (pc : Int) + off = (tgt : Int)) (k1 : (x ≤ 0) → WA d kp kd cc own nL ret LY LYe K tgt L st σ o1) (k2 : ¬ (x ≤ 0) → WA d kp kd cc own nL ret LY LYe K (pc + 3) L st σ o2) : WA d kp kd cc own nL ret LY LYe K pc L (vi x :: st) σ (gd (rng x) (if x ≤ 0 then o1 else o2)) := by
  refine a_gd fun hg => ?_
  intro hK r0 σ0 ho
  obtain ⟨⟨p, l, e, s, m, args⟩, ⟨below, meth, c⟩, ⟨ad0, tc, D⟩⟩ := K
  obtain ⟨hx, hb, hml, hown, hts, hlk, hret, hKK, hok⟩ := id hK.1
  intro ad hA H locs ls hP hS hl
  refine lv_if_le hx hb hd ht (fun q => ?_) (fun q => ?_)
  · have q := (w_le (w0 hg)).mp q
    rw [if_pos q] at ho
    exact k1 q hK r0 σ0 ho ad hA H locs ls hP hS hl
  · have q : ¬ (x ≤ 0) := fun z => q ((w_le (w0 hg)).mpr z)
    rw [if_neg q] at ho
    exact k2 q hK r0 σ0 ho ad hA H locs ls hP hS hl
theorem a_icmp_eq {x y off : Int} {tgt : Nat} {o1 o2 : Option (Int × St)} (hd : decode cc pc = .ok (.if_icmp .eq off, 3)) (ht : (pc : Int) + off = (tgt : Int)) (k1 : (x = y) → WA d kp kd cc own nL ret LY LYe K tgt L st σ o1) (k2 : ¬ (x = y) → WA d kp kd cc own nL ret LY LYe K (pc + 3) L st σ o2) : WA d kp kd cc own nL ret LY LYe K pc L (vi y :: vi x :: st) σ (gd (rng x ∧ rng y) (if x = y then o1 else o2)) := by
  refine a_gd fun hg => ?_
  intro hK r0 σ0 ho
  obtain ⟨⟨p, l, e, s, m, args⟩, ⟨below, meth, c⟩, ⟨ad0, tc, D⟩⟩ := K
  obtain ⟨hx, hb, hml, hown, hts, hlk, hret, hKK, hok⟩ := id hK.1
  intro ad hA H locs ls hP hS hl
  refine lv_icmp_eq hx hb hd ht (fun q => ?_) (fun q => ?_)
  · have q := (w_eq hg).mp q
    rw [if_pos q] at ho
    exact k1 q hK r0 σ0 ho ad hA H locs ls hP hS hl
  · have q : ¬ (x = y) := fun z => q ((w_eq hg).mpr z)
    rw [if_neg q] at ho
    exact k2 q hK r0 σ0 ho ad hA H locs ls hP hS hl
theorem a_if_eq {x off : Int} {tgt : Nat} {o1 o2 : Option (Int × St)} (hd : decode cc pc = .ok (.ifCond .eq off, 3)) (ht : (pc : Int) + off = (tgt : Int)) (k1 : (x = 0) → WA d kp kd cc own nL ret LY LYe K tgt L st σ o1) (k2 : ¬ (x = 0) → WA d kp kd cc own nL ret LY LYe K (pc + 3) L st σ o2) : WA d kp kd cc own nL ret LY LYe K pc L (vi x :: st) σ (gd (rng x) (if x = 0 then o1 else o2)) := by
  refine a_gd fun hg => ?_
  intro hK r0 σ0 ho
  obtain ⟨⟨p, l, e, s, m, args⟩, ⟨below, meth, c⟩, ⟨ad0, tc, D⟩⟩ := K
  obtain ⟨hx, hb, hml, hown, hts, hlk, hret, hKK, hok⟩ := id hK.1
  intro ad hA H locs ls hP hS hl
  refine lv_if_eq hx hb hd ht (fun q => ?_) (fun q => ?_)
  · have q := (w_eq (w0 hg)).mp q
    rw [if_pos q] at ho
    exact k1 q hK r0 σ0 ho ad hA H locs ls hP hS hl
  · have q : ¬ (x = 0) := fun z => q ((w_eq (w0 hg)).mpr z)
    rw [if_neg q] at ho
    exact k2 q hK r0 σ0 ho ad hA H locs ls hP hS hl
theorem a_icmp_ne {x y off : Int} {tgt : Nat} {o1 o2 : Option (Int × St)} (hd : decode cc pc = .ok (.if_icmp .ne off, 3)) (ht : (pc : Int) + off = (tgt : Int)) (k1 : ¬ x = y → WA d kp kd cc own nL ret LY LYe K tgt L st σ o1) (k2 : x = y → WA d kp kd cc own nL ret LY LYe K (pc + 3) L st σ o2) : WA d kp kd cc own nL ret LY LYe K pc L (vi y :: vi x :: st) σ (gd (rng x ∧ rng y) (if x = y then o2 else o1)) := by
  refine a_gd fun hg => ?_
  intro hK r0 σ0 ho
  obtain ⟨⟨p, l, e, s, m, args⟩, ⟨below, meth, c⟩, ⟨ad0, tc, D⟩⟩ := K
  obtain ⟨hx, hb, hml, hown, hts, hlk, hret, hKK, hok⟩ := id hK.1
  intro ad hA H locs ls hP hS hl
  refine lv_icmp_ne hx hb hd ht (fun q => ?_) (fun q => ?_)
  · have q : ¬ x = y := fun z => q ((w_eq hg).mpr z)
    rw [if_neg q] at ho
    exact k1 q hK r0 σ0 ho ad hA H locs ls hP hS hl
  · have q := (w_eq hg).mp q
    rw [if_pos q] at ho
    exact k2 q hK r0 σ0 ho ad hA H locs ls hP hS hl
theorem a_if_ne {x  off : Int} {tgt : Nat} {o1 o2 : Option (Int × St)} (hd : decode cc pc = .ok (.ifCond .ne off, 3)) (ht : (pc : Int) + off = (tgt : Int)) (k1 : ¬ x = 0 → WA d kp kd cc own nL ret LY LYe K tgt L st σ o1) (k2 : x = 0 → WA d kp kd cc own nL ret LY LYe K (pc + 3) L st σ o2) : WA d kp kd cc own nL ret LY LYe K pc L (vi x :: st) σ (gd (rng x) (if x = 0 then o2 else o1)) := by
  refine a_gd fun hg => ?_
  intro hK r0 σ0 ho
  obtain ⟨⟨p, l, e, s, m, args⟩, ⟨below, meth, c⟩, ⟨ad0, tc, D⟩⟩ := K
  obtain ⟨hx, hb, hml, hown, hts, hlk, hret, hKK, hok⟩ := id hK.1
  intro ad hA H locs ls hP hS hl
  refine lv_if_ne hx hb hd ht (fun q => ?_) (fun q => ?_)
  · have q : ¬ x = 0 := fun z => q ((w_eq (w0 hg)).mpr z)
    rw [if_neg q] at ho
    exact k1 q hK r0 σ0 ho ad hA H locs ls hP hS hl
  · have q := (w_eq (w0 hg)).mp q
    rw [if_pos q] at ho
    exact k2 q hK r0 σ0 ho ad hA H locs ls hP hS hl
end WAr
