/-! PURE PART, numbers: primes, roots, waves, inverses -/
def prT : List Nat := [0, 0, 1009, 1009, 1009, 1021, 1009, 1009, 1009, 1009, 1021, 1013, 1009, 1093, 1009, 1021, 1009, 1021, 1009, 1103, 1021, 1009, 1013, 1013, 1009, 1051, 1093, 1297, 1009, 1103, 1021, 1117, 1153, 1123, 1021, 1051, 1009, 1259, 1103, 1093, 1201, 1231, 1009, 1033, 1013, 1171, 1013, 1129, 1009, 1373, 1051, 1021, 1093, 1061, 1297, 1321, 1009, 1483, 1103, 1063, 1021]
def rtT : List Nat := [0, 0, 1008, 374, 469, 589, 375, 105, 192, 337, 26, 114, 160, 11, 74, 67, 62, 9, 58, 17, 226, 42, 173, 16, 169, 55, 192, 48, 139, 2, 320, 13, 194, 60, 3, 53, 41, 26, 307, 13, 15, 10, 24, 64, 65, 5, 4, 20, 13, 44, 128, 62, 111, 35, 27, 3, 14, 55, 79, 17, 110]
def prN (n : Nat) : Nat := prT.getD n 0
def rtN (n : Nat) : Nat := rtT.getD n 0
def pwN (r p : Nat) : Nat → Nat
  | 0 => 1
  | i + 1 => pwN r p i * r % p
def PR (n : Int) : Int := (prN n.toNat : Nat)
def RT (n : Int) : Int := (rtN n.toNat : Nat)
def PW (n : Int) (i : Nat) : Int := (pwN (rtN n.toNat) (prN n.toNat) i : Nat)
def bi (b : Bool) : Int := cond b 1 0
def ipN : Nat → Nat → Nat → Option Bool
  | 0, _, _ => none
  | k + 1, p, f => if p < f * f then some true else if p % f = 0 then some false else ipN k p (f + 1)
def pfN : Nat → Nat → Nat → Option Nat
  | 0, _, _ => none
  | k + 1, n, p => if (p - 1) % n = 0 then (if ipN 60 p 2 = some true then some p else if ipN 60 p 2 = some false then pfN k n (p + 1) else none) else pfN k n (p + 1)
/-- comes round: after how many steps from v (k done) -/
def crN : Nat → Nat → Nat → Nat → Nat → Nat → Option Bool
  | 0, _, _, _, _, _ => none
  | j + 1, w, n, p, v, k => if n < k then some false else if v * w % p = 1 then some (k == n) else crN j w n p (v * w % p) (k + 1)
def cwN : Nat → Nat → Nat → Nat → Nat → Nat → Option Bool
  | 0, _, _, _, _, _ => none
  | j + 1, w, n, p, v, k => if n ≤ k then some (v == 1) else if v = 1 then some false else cwN j w n p (v * w % p) (k + 1)
def rmN : Nat → Nat → Nat → Nat → Option Nat
  | 0, _, _, _ => none
  | j + 1, n, p, w => if crN 62 w n p 1 1 = some true then some w else if crN 62 w n p 1 1 = some false then rmN j n p (w + 1) else none
def rwN : Nat → Nat → Nat → Nat → Option Nat
  | 0, _, _, _ => none
  | j + 1, n, p, w => if p ≤ w then none else if cwN 62 w n p w 1 = some true then some w else if cwN 62 w n p w 1 = some false then rwN j n p (w + 1) else none
def ivN : Nat → Nat → Nat → Nat → Nat → Option Nat
  | 0, _, _, _, _ => none
  | j + 1, p, v, b, e => if e = 0 then some v else ivN j p (if e % 2 = 1 then v * b % p else v) (b * b % p) (e / 2)
theorem pr_all : ∀ n, n < 61 → 2 ≤ n → pfN 500 n 1001 = some (prN n) ∧ 1001 ≤ prN n ∧ prN n ≤ 1500 := by decide +kernel
theorem rm_all : ∀ n, n < 61 → 2 ≤ n → rmN 1010 n (prN n) 1 = some (rtN n) ∧ 2 ≤ rtN n ∧ rtN n ≤ 1010 := by decide +kernel
theorem rw_all : ∀ n, n < 61 → 2 ≤ n → rwN 1010 n (prN n) 2 = some (rtN n) := by decide +kernel
theorem pw_all : ∀ n, n < 61 → 2 ≤ n → pwN (rtN n) (prN n) n = 1 ∧ ∀ i, i < n → pwN (rtN n) (prN n) i = 1 → i = 0 := by decide +kernel
def ivOK (p : Nat) : Bool := (List.range p).all fun a => a == 0 || (match ivN 14 p 1 a (p - 2) with
  | some v => v * a % p == 1 && Nat.blt v p
  | none => false)
set_option maxRecDepth 100000 in
theorem iv_all : ∀ p ∈ [1009, 1013, 1021, 1033, 1051, 1061, 1063, 1093, 1103, 1117, 1123, 1129, 1153, 1171, 1201, 1231, 1259, 1297, 1321, 1373, 1483], ivOK p = true := by decide +kernel
theorem pr_in : ∀ n, n < 61 → 2 ≤ n → prN n ∈ [1009, 1013, 1021, 1033, 1051, 1061, 1063, 1093, 1103, 1117, 1123, 1129, 1153, 1171, 1201, 1231, 1259, 1297, 1321, 1373, 1483] := by decide +kernel
theorem iv_of {n : Nat} (h1 : 2 ≤ n) (h2 : n < 61) {a : Nat} (ha : a < prN n) (h0 : a ≠ 0) : ∃ v, ivN 14 (prN n) 1 a (prN n - 2) = some v ∧ v * a % prN n = 1 ∧ v < prN n := by
  have h := iv_all _ (pr_in n h2 h1)
  unfold ivOK at h
  have := List.all_eq_true.mp h a (List.mem_range.mpr ha)
  cases e : ivN 14 (prN n) 1 a (prN n - 2) with
  | none => rw [e] at this; simp [h0] at this
  | some v =>
    rw [e] at this
    simp [h0] at this
    exact ⟨v, rfl, this.1, this.2⟩
/-- the inverse, as both sides reckon it -/
def INV (p a : Int) : Int := ((ivN 14 p.toNat 1 a.toNat (p.toNat - 2)).getD 0 : Nat)
