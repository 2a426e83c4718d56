/-! PURE PART: fix -/
def DV (t : Nat → Nat) (fl : Nat) : Nat → Nat → Nat → Nat
  | 0, _, S => if S = fl then 0 else 1000000
  | r + 1, i, S => if DV t fl r (i + 1) S ≤ DV t fl r (i + 1) (S ||| t i) + 1 then DV t fl r (i + 1) S else DV t fl r (i + 1) (S ||| t i) + 1
def GV (t : Nat → Nat) (fl : Nat) : Nat → Nat → Nat → List Nat
  | 0, _, _ => []
  | r + 1, i, S => if S = fl then [] else if DV t fl r (i + 1) (S ||| t i) + 1 ≤ DV t fl (r + 1) i S then i :: GV t fl r (i + 1) (S ||| t i) else GV t fl r (i + 1) S
def TW (t : Nat → Nat) (fl : Nat) : Nat → Nat → Nat → Nat → Option (List Nat)
  | 0, j, _, S => if j = 0 then (if S = fl then some [] else none) else none
  | r + 1, j, i, S => if j = 0 then (if S = fl then some [] else none) else if S ||| t i = S then TW t fl r j (i + 1) S else (match TW t fl r (j - 1) (i + 1) (S ||| t i) with
    | some l => some (i :: l)
    | none => TW t fl r j (i + 1) S)
def orA (t : Nat → Nat) : Nat → Nat → Nat → Nat
  | 0, _, S => S
  | r + 1, i, S => orA t r (i + 1) (S ||| t i)
def mi : Nat → Nat → Nat
  | 0, _ => 0
  | n + 1, S => mi n S + (if S.testBit n = true then 0 else 1)
theorem TW_0 {t : Nat → Nat} {fl r i S : Nat} : TW t fl r 0 i S = if S = fl then some [] else none := by
  cases r
  · unfold TW; rw [if_pos rfl]
  · unfold TW; rw [if_pos rfl]
theorem mi_le (S t : Nat) : ∀ n, mi n (S ||| t) ≤ mi n S
  | 0 => Nat.le_refl 0
  | n + 1 => by
    have := mi_le S t n
    unfold mi
    rw [Nat.testBit_or]
    cases S.testBit n <;> cases t.testBit n <;> simp <;> omega
theorem mi_lt (S t : Nat) : ∀ n b, b < n → t.testBit b = true → S.testBit b = false → mi n (S ||| t) + 1 ≤ mi n S
  | 0, _, h, _, _ => by omega
  | n + 1, b, h, h1, h2 => by
    unfold mi
    rw [Nat.testBit_or]
    by_cases c : b = n
    · subst c
      have := mi_le S t b
      rw [h1, h2]; simp; omega
    · have := mi_lt S t n b (by omega) h1 h2
      cases S.testBit n <;> cases t.testBit n <;> simp <;> omega
theorem mi_8 (S : Nat) : ∀ n, mi n S ≤ n
  | 0 => Nat.le_refl 0
  | n + 1 => by
    have := mi_8 S n
    unfold mi
    split <;> omega
theorem new_bit {S t : Nat} (ht : t < 256) (h : S ||| t ≠ S) : ∃ b, b < 8 ∧ t.testBit b = true ∧ S.testBit b = false := by
  by_cases c : ∃ b, b < 8 ∧ t.testBit b = true ∧ S.testBit b = false
  · exact c
  · exfalso
    apply h
    refine Nat.eq_of_testBit_eq (fun i => ?_)
    rw [Nat.testBit_or]
    cases h1 : t.testBit i with
    | false => rw [Bool.or_false]
    | true =>
      have hi : i < 8 := by
        rcases Nat.lt_or_ge i 8 with q | q
        · exact q
        · rw [Nat.testBit_lt_two_pow (Nat.lt_of_lt_of_le ht (Nat.pow_le_pow_right (n := 2) (by omega) q))] at h1
          cases h1
      cases h2 : S.testBit i with
      | true => rfl
      | false => exact absurd ⟨i, hi, h1, h2⟩ c
theorem DV_le {t : Nat → Nat} {fl : Nat} (ht : ∀ q, t q < 256) : ∀ r i S, orA t r i S = fl → DV t fl r i S ≤ mi 8 S
  | 0, _, S, h => by
    unfold DV
    rw [if_pos (show S = fl from h)]; omega
  | r + 1, i, S, h => by
    have h' : orA t r (i + 1) (S ||| t i) = fl := h
    have k1 := DV_le ht r (i + 1) (S ||| t i) h'
    unfold DV
    by_cases c : S ||| t i = S
    · rw [c] at h' k1 ⊢
      split <;> omega
    · obtain ⟨b, b1, b2, b3⟩ := new_bit (ht i) c
      have := mi_lt S (t i) 8 b b1 b2 b3
      split <;> omega
theorem DV_0 {t : Nat → Nat} {fl : Nat} : ∀ r i S, DV t fl r i S = 0 ↔ S = fl
  | 0, i, S => by unfold DV; split <;> simp_all
  | r + 1, i, S => by
    have := DV_0 (t := t) (fl := fl) r (i + 1) S
    unfold DV
    constructor
    · intro h
      split at h
      · exact this.mp h
      · omega
    · intro h
      have := this.mpr h
      rw [if_pos (by omega)]
      exact this
theorem GV_fl {t : Nat → Nat} {fl r i : Nat} : GV t fl r i fl = [] := by
  cases r
  · rfl
  · unfold GV; rw [if_pos rfl]
/-- the first way of the class is the model's -/
theorem TW_GV {t : Nat → Nat} {fl : Nat} : ∀ r j i S, j ≤ 100 → j ≤ DV t fl r i S → TW t fl r j i S = if DV t fl r i S = j then some (GV t fl r i S) else none
  | r, 0, i, S, _, _ => by
    have h := DV_0 (t := t) (fl := fl) r i S
    rw [TW_0]
    by_cases c : S = fl
    · rw [if_pos c, if_pos (h.mpr c), c, GV_fl]
    · rw [if_neg c, if_neg (fun w => c (h.mp w))]
  | 0, j + 1, i, S, hj, h => by
    unfold TW
    rw [if_neg (by omega)]
    by_cases c : S = fl
    · unfold DV at h; rw [if_pos c] at h; omega
    · unfold DV at h ⊢
      rw [if_neg c] at h ⊢
      rw [if_neg (by omega)]
  | r + 1, j + 1, i, S, hj, h => by
    have hS : S ≠ fl := fun w => by rw [(DV_0 (r + 1) i S).mpr w] at h; omega
    have e1 : TW t fl (r + 1) (j + 1) i S = if S ||| t i = S then TW t fl r (j + 1) (i + 1) S else (match TW t fl r j (i + 1) (S ||| t i) with
      | some l => some (i :: l)
      | none => TW t fl r (j + 1) (i + 1) S) := by
      conv => lhs; unfold TW
      rw [if_neg (by omega)]
      rfl
    have e2 : GV t fl (r + 1) i S = if DV t fl r (i + 1) (S ||| t i) + 1 ≤ DV t fl (r + 1) i S then i :: GV t fl r (i + 1) (S ||| t i) else GV t fl r (i + 1) S := by
      conv => lhs; unfold GV
      rw [if_neg hS]
    have e3 : DV t fl (r + 1) i S = if DV t fl r (i + 1) S ≤ DV t fl r (i + 1) (S ||| t i) + 1 then DV t fl r (i + 1) S else DV t fl r (i + 1) (S ||| t i) + 1 := rfl
    rw [e1, e2]
    by_cases c : S ||| t i = S
    · rw [c] at e3 ⊢
      rw [if_pos (by omega)] at e3
      rw [if_pos rfl, e3, if_neg (show ¬ DV t fl r (i + 1) S + 1 ≤ DV t fl r (i + 1) S by omega), TW_GV r (j + 1) (i + 1) S hj (by omega)]
    · rw [if_neg c]
      have hA : j ≤ DV t fl r (i + 1) (S ||| t i) ∧ j + 1 ≤ DV t fl r (i + 1) S := by
        rw [e3] at h
        split at h <;> omega
      have k1 := TW_GV r j (i + 1) (S ||| t i) (by omega) hA.1
      have k2 := TW_GV r (j + 1) (i + 1) S hj hA.2
      rw [k1, k2]
      by_cases q : DV t fl r (i + 1) (S ||| t i) = j
      · have e4 : DV t fl (r + 1) i S = j + 1 := by rw [e3]; split <;> omega
        have hq2 : DV t fl r (i + 1) (S ||| t i) + 1 ≤ j + 1 := by omega
        rw [if_pos q, e4, if_pos rfl, if_pos hq2]
      · rw [if_neg q]
        have e5 : ¬ DV t fl r (i + 1) (S ||| t i) + 1 ≤ DV t fl (r + 1) i S ∨ DV t fl (r + 1) i S ≠ j + 1 := by rw [e3]; split <;> omega
        have e6 : DV t fl (r + 1) i S = j + 1 ↔ DV t fl r (i + 1) S = j + 1 := by rw [e3]; split <;> omega
        by_cases z : DV t fl r (i + 1) S = j + 1
        · have := e6.mpr z
          rw [if_pos z, if_pos this, if_neg (by rcases e5 with w | w; exact w; exact absurd this w)]
        · rw [if_neg z, if_neg (fun w => z (e6.mp w))]
theorem TW_len {t : Nat → Nat} {fl : Nat} : ∀ r j i S l, TW t fl r j i S = some l → l.length = j
  | r, 0, i, S, l, h => by
    rw [TW_0] at h
    split at h
    · cases h; rfl
    · cases h
  | 0, j + 1, i, S, l, h => by
    unfold TW at h
    rw [if_neg (by omega)] at h
    cases h
  | r + 1, j + 1, i, S, l, h => by
    unfold TW at h
    rw [if_neg (by omega)] at h
    split at h
    · exact TW_len r (j + 1) (i + 1) S l h
    · cases q : TW t fl r (j + 1 - 1) (i + 1) (S ||| t i) with
      | some l' =>
        rw [q] at h
        have := TW_len r j (i + 1) (S ||| t i) l' q
        cases h
        simp; omega
      | none =>
        rw [q] at h
        exact TW_len r (j + 1) (i + 1) S l h
theorem newV {S t : Nat} (hS : S < 256) (ht : t < 256) : iandI (t : Int) (ixorI (S : Int) (-1)) = ((t &&& (S ^^^ (2 ^ 32 - 1)) : Nat) : Int) := by
  unfold iandI ixorI
  rw [Int32.ofInt_toInt]
  have hb : t &&& (S ^^^ (2 ^ 32 - 1)) < 256 := Nat.lt_of_le_of_lt Nat.and_le_left ht
  have e1 : (BitVec.ofInt 32 (t : Int)).toNat = t := by rw [BitVec.toNat_ofInt]; omega
  have e2 : (BitVec.ofInt 32 (S : Int)).toNat = S := by rw [BitVec.toNat_ofInt]; omega
  have e3 : (BitVec.ofInt 32 (-1 : Int)).toNat = 2 ^ 32 - 1 := by decide
  show ((BitVec.ofInt 32 (t : Int)) &&& ((BitVec.ofInt 32 (S : Int)) ^^^ (BitVec.ofInt 32 (-1 : Int)))).toInt = _
  rw [BitVec.toInt_eq_toNat_of_lt]
  · rw [BitVec.toNat_and, BitVec.toNat_xor, e1, e2, e3]
  · rw [BitVec.toNat_and, BitVec.toNat_xor, e1, e2, e3]; omega
theorem new0 {S t : Nat} (ht : t < 256) : t &&& (S ^^^ (2 ^ 32 - 1)) = 0 ↔ S ||| t = S := by
  have hb : ∀ i, (t &&& (S ^^^ (2 ^ 32 - 1))).testBit i = (t.testBit i && !(S.testBit i)) := fun i => by
    rw [Nat.testBit_and, Nat.testBit_xor, Nat.testBit_two_pow_sub_one]
    by_cases c : i < 32
    · rw [decide_eq_true c]; cases S.testBit i <;> cases t.testBit i <;> rfl
    · rw [Nat.testBit_lt_two_pow (show t < 2 ^ i from Nat.lt_of_lt_of_le ht (Nat.pow_le_pow_right (n := 2) (show 2 > 0 by omega) (show 8 ≤ i by omega))), Bool.false_and, Bool.false_and]
  constructor
  · intro h
    refine Nat.eq_of_testBit_eq (fun i => ?_)
    have := hb i
    rw [h, Nat.zero_testBit] at this
    rw [Nat.testBit_or]
    revert this
    cases S.testBit i <;> cases t.testBit i <;> simp
  · intro h
    refine Nat.eq_of_testBit_eq (fun i => ?_)
    rw [hb i, Nat.zero_testBit]
    have : (S ||| t).testBit i = S.testBit i := by rw [h]
    rw [Nat.testBit_or] at this
    revert this
    cases S.testBit i <;> cases t.testBit i <;> simp
section
variable {F : Nat}
def RS (σ σ' : St) (dp : Nat) (o : Option (List Nat)) (r : Int) : Prop := (o = none → r = 0) ∧ (∀ l, o = some l → r = 1 ∧ ∀ q, q < l.length → gA σ' 93 (dp + q) = gA σ 91 (l.getD q 0)) ∧ (∀ q, gF σ' q = gF σ q) ∧ (∀ a, a ≠ 93 → ∀ i, gA σ' a i = gA σ a i) ∧ ∀ q, q < dp → gA σ' 93 q = gA σ 93 q
theorem W_ta (hF : 40 ≤ F) {t : Nat → Nat} {fl L : Nat} (hL : L ≤ 28) (ht : ∀ q, t q < 256) (hf : fl < 256) : ∀ r, (∀ (j m dep : Nat) (σ : St) (dp i S : Nat), gF σ 5633 = (L : Nat) → gF σ 5637 = (fl : Nat) → (∀ q, q < L → gA σ 92 q = (t q : Nat)) → dp + (j + 1) ≤ 8 → j < dep → r < m → i + r = L → S < 256 → ∃ v σ', l_Fixer_touchesAll_29 F (f_Fixer_touchesAll F dep) m σ (dp : Nat) ((dp + (j + 1) : Nat) : Int) (S : Nat) (i : Nat) = some (v, σ') ∧ RS σ σ' dp (TW t fl r (j + 1) i S) v) := by
  intro r
  induction r with
  | zero =>
    intro j m dep σ dp i S h1 h2 h3 h4 h5 h6 h7 h8
    obtain ⟨m', rfl⟩ : ∃ m', m = m' + 1 := ⟨m - 1, by omega⟩
    refine ⟨0, σ, ?_, fun _ => rfl, fun l hl => ?_, fun _ => rfl, fun _ _ _ => rfl, fun _ _ => rfl⟩
    · show b_Fixer_touchesAll_29 F _ _ σ _ _ _ _ = _
      unfold b_Fixer_touchesAll_29
      rw [gd_t (by omega), if_pos (by omega)]
    · unfold TW at hl
      rw [if_neg (by omega)] at hl
      cases hl
  | succ r ih =>
    intro j m dep σ dp i S h1 h2 h3 h4 h5 h6 h7 h8
    obtain ⟨m', rfl⟩ : ∃ m', m = m' + 1 := ⟨m - 1, by omega⟩
    obtain ⟨dep', rfl⟩ : ∃ dep', dep = dep' + 1 := ⟨dep - 1, by omega⟩
    have h92 := h3 i (by omega)
    have e0 : TW t fl (r + 1) (j + 1) i S = if S ||| t i = S then TW t fl r (j + 1) (i + 1) S else (match TW t fl r j (i + 1) (S ||| t i) with
      | some l => some (i :: l)
      | none => TW t fl r (j + 1) (i + 1) S) := by
      conv => lhs; unfold TW
      rw [if_neg (by omega)]
      rfl
    have eL : ∀ X : Prop, (b_Fixer_touchesAll_29 F (f_Fixer_touchesAll F (dep' + 1)) (l_Fixer_touchesAll_29 F (f_Fixer_touchesAll F (dep' + 1)) m') σ (dp : Nat) ((dp + (j + 1) : Nat) : Int) (S : Nat) (i : Nat) = l_Fixer_touchesAll_29 F (f_Fixer_touchesAll F (dep' + 1)) (m' + 1) σ (dp : Nat) ((dp + (j + 1) : Nat) : Int) (S : Nat) (i : Nat) → X) → X := fun X h => h rfl
    have nv := newV h8 (ht i)
    have n0 := new0 (S := S) (ht i)
    have hb : t i &&& (S ^^^ (2 ^ 32 - 1)) < 256 := Nat.lt_of_le_of_lt Nat.and_le_left (ht i)
    rw [e0]
    by_cases c : S ||| t i = S
    · rw [if_pos c]
      obtain ⟨v, σ', k1, k2⟩ := ih j m' (dep' + 1) σ dp (i + 1) S h1 h2 h3 h4 h5 (by omega) (by omega) h8
      refine ⟨v, σ', ?_, k2⟩
      show b_Fixer_touchesAll_29 F _ _ σ _ _ _ _ = _
      unfold b_Fixer_touchesAll_29
      rw [gd_t (by omega), if_neg (by omega), gd_t (by omega), Int.toNat_natCast, h92, nv, bv_s, gd_t (by omega), if_pos (by have := n0.mpr c; omega), bv_s]
      exact k1
    · rw [if_neg c]
      have hS2 : S ||| t i < 256 := Nat.or_lt_two_pow (n := 8) h8 (ht i)
      have hor : iorI (S : Int) (t i : Nat) = ((S ||| t i : Nat) : Int) := iorN S (t i) (by omega) (by have := ht i; omega)
      have hrec : ∃ v σ', f_Fixer_touchesAll F (dep' + 1) (sA σ 93 dp (gA σ 91 i)) ((dp : Int) + 1) ((i : Int) + 1) ((dp + (j + 1) : Nat) : Int) ((S ||| t i : Nat) : Int) = some (v, σ') ∧ RS (sA σ 93 dp (gA σ 91 i)) σ' (dp + 1) (TW t fl r j (i + 1) (S ||| t i)) v := by
        cases j with
        | zero =>
          refine ⟨if S ||| t i = fl then 1 else 0, sA σ 93 dp (gA σ 91 i), ?_, fun h => ?_, fun l h => ?_, fun _ => rfl, fun _ _ _ => rfl, fun _ _ => rfl⟩
          · show b_Fixer_touchesAll F _ _ _ _ _ _ = _
            unfold b_Fixer_touchesAll
            rw [gd_t (by omega), if_pos (by omega), show gF (sA σ 93 dp (gA σ 91 i)) 5637 = (fl : Nat) from h2, gd_t (by omega)]
            by_cases q : S ||| t i = fl
            · rw [if_pos (by omega), if_pos q]
            · rw [if_neg (by omega), if_neg q]
          · rw [TW_0] at h
            by_cases q : S ||| t i = fl
            · rw [if_pos q] at h; cases h
            · rw [if_neg q]
          · rw [TW_0] at h
            by_cases q : S ||| t i = fl
            · rw [if_pos q] at h ⊢
              cases h
              exact ⟨rfl, fun q hq => absurd hq (by simp)⟩
            · rw [if_neg q] at h; cases h
        | succ j' =>
          obtain ⟨v, σ', k1, k2⟩ := ih j' F dep' (sA σ 93 dp (gA σ 91 i)) (dp + 1) (i + 1) (S ||| t i) h1 h2 (fun q hq => by rw [gA_sA, if_neg (by omega)]; exact h3 q hq) (by omega) (by omega) (by omega) (by omega) hS2
          refine ⟨v, σ', ?_, k2⟩
          show b_Fixer_touchesAll F (f_Fixer_touchesAll F dep') _ _ _ _ _ = _
          unfold b_Fixer_touchesAll
          rw [gd_t (by omega), if_neg (by omega), gd_t (by omega), if_pos (by omega)]
          have e : ((dp + (j' + 1 + 1) : Nat) : Int) = ((dp + 1 + (j' + 1) : Nat) : Int) := by omega
          rw [e]
          exact k1
      obtain ⟨v, σ1, k1, q1, q2, q3, q4, q5⟩ := hrec
      have hstep : l_Fixer_touchesAll_29 F (f_Fixer_touchesAll F (dep' + 1)) (m' + 1) σ (dp : Nat) ((dp + (j + 1) : Nat) : Int) (S : Nat) (i : Nat) = gd (rng v) (if v = 0 then bv ((i : Int) + 1) fun x5_7 => l_Fixer_touchesAll_29 F (f_Fixer_touchesAll F (dep' + 1)) m' σ1 (dp : Nat) ((dp + (j + 1) : Nat) : Int) (S : Nat) x5_7 else some (1, σ1)) := by
        show b_Fixer_touchesAll_29 F _ _ σ _ _ _ _ = _
        unfold b_Fixer_touchesAll_29
        rw [gd_t (by omega), if_neg (by omega), gd_t (by omega), Int.toNat_natCast, h92, nv, bv_s, gd_t (by omega), if_neg (by have := n0.mp; omega), gd_t (by omega), gd_t (by omega), bs_s, gd_t (by omega), Int.toNat_natCast, show gA (sA σ 93 dp (gA σ 91 i)) 92 i = (t i : Nat) by rw [gA_sA, if_neg (by omega)]; exact h92, hor, bv_s, k1, bnd_s]
      cases o : TW t fl r j (i + 1) (S ||| t i) with
      | some l =>
        obtain ⟨rfl, w⟩ := q2 l o
        refine ⟨1, σ1, ?_, fun h => (by cases h), fun l' h => ?_, q3, fun a ha i' => by rw [q4 a ha i', gA_sA, if_neg (fun z => ha z.1)], fun q hq => by rw [q5 q (by omega), gA_sA, if_neg (by omega)]⟩
        · rw [hstep, gd_t (by decide), if_neg (by decide)]
        · cases h
          refine ⟨rfl, fun q hq => ?_⟩
          cases q with
          | zero =>
            rw [Nat.add_zero, q5 dp (by omega), gA_sA, if_pos ⟨rfl, rfl⟩]; rfl
          | succ q =>
            have := w q (by simp at hq; omega)
            rw [show dp + (q + 1) = dp + 1 + q by omega, this, gA_sA, if_neg (by omega)]; rfl
      | none =>
        have hv := q1 o
        subst hv
        obtain ⟨v, σ', g1, g2, g3, g4, g5, g6⟩ := ih j m' (dep' + 1) σ1 dp (i + 1) S (by rw [q3]; exact h1) (by rw [q3]; exact h2) (fun q hq => by rw [q4 92 (by omega), gA_sA, if_neg (by omega)]; exact h3 q hq) h4 h5 (by omega) (by omega) h8
        refine ⟨v, σ', ?_, g2, fun l hl => ⟨(g3 l hl).1, fun q hq => ?_⟩, fun q => (g4 q).trans (q3 q), fun a ha i' => by rw [g5 a ha, q4 a ha, gA_sA, if_neg (fun z => ha z.1)], fun q hq => by rw [g6 q hq, q5 q (by omega), gA_sA, if_neg (by omega)]⟩
        · rw [hstep, gd_t (by decide), if_pos rfl, bv_s]
          exact g1
        · rw [(g3 l hl).2 q hq, q4 91 (by omega), gA_sA, if_neg (by omega)]
end
section
variable {F : Nat}
theorem M_f56 {L fl : Nat} (hL : L ≤ 28) (hf : fl < 256) : ∀ (r m S : Nat) (σ : St), r < m → S + r = 256 → gF σ 55 = (L : Nat) → ∃ σ', l_M_fix_56 F m σ (fl : Nat) (S : Nat) = l_M_fix_103 F F σ' (fl : Nat) ((L : Int) - 1) ∧ (∀ q, gF σ' q = gF σ q) ∧ (∀ a, a ≠ 20 → ∀ i, gA σ' a i = gA σ a i) ∧ ∀ i, gA σ' 20 i = if 256 * L + S ≤ i ∧ i < 256 * L + 256 then (if i = 256 * L + fl then 0 else 1000000) else gA σ 20 i
  | _, 0, _, _, h, _, _ => by omega
  | 0, m + 1, S, σ, _, hS, h55 => by
    refine ⟨σ, ?_, fun _ => rfl, fun _ _ _ => rfl, fun i => by rw [if_neg (by omega)]⟩
    show b_M_fix_56 F _ σ _ _ = _
    unfold b_M_fix_56
    rw [gd_t (by omega), if_pos (by omega), bv_s, h55]
  | r + 1, m + 1, S, σ, hm, hS, h55 => by
    have e : Int.toNat ((256 * (L : Int)) + (S : Nat)) = 256 * L + S := by omega
    obtain ⟨σ', k1, k2, k3, k4⟩ := M_f56 hL hf r m (S + 1) (sA σ 20 (256 * L + S) (if S = fl then 0 else 1000000)) (by omega) (by omega) h55
    refine ⟨σ', ?_, k2, fun a ha i => by rw [k3 a ha i, gA_sA, if_neg (fun z => ha z.1)], fun i => ?_⟩
    · show b_M_fix_56 F _ σ _ _ = _
      unfold b_M_fix_56
      rw [gd_t (by omega), if_neg (by omega), gd_t (by omega)]
      by_cases q : S = fl
      · rw [if_pos q] at k1
        rw [if_pos (by omega), h55, gd_t (by omega), bs_s, bv_s, e]
        exact k1
      · rw [if_neg q] at k1
        rw [if_neg (by omega), h55, gd_t (by omega), bs_s, bv_s, e]
        exact k1
    · rw [k4 i]
      by_cases q : i = 256 * L + S
      · rw [if_neg (show ¬ (256 * L + (S + 1) ≤ i ∧ i < 256 * L + 256) by omega), gA_sA, if_pos ⟨rfl, q⟩, if_pos (show 256 * L + S ≤ i ∧ i < 256 * L + 256 by omega)]
        by_cases z : S = fl
        · rw [if_pos z, if_pos (by omega)]
        · rw [if_neg z, if_neg (by omega)]
      · by_cases z : 256 * L + (S + 1) ≤ i ∧ i < 256 * L + 256
        · rw [if_pos z, if_pos (show 256 * L + S ≤ i ∧ i < 256 * L + 256 by omega)]
        · rw [if_neg z, if_neg (show ¬ (256 * L + S ≤ i ∧ i < 256 * L + 256) by omega), gA_sA, if_neg (fun w => q w.2)]
theorem DV_b {t : Nat → Nat} {fl : Nat} : ∀ r i S, DV t fl r i S ≤ 1000000
  | 0, i, S => by unfold DV; split <;> omega
  | r + 1, i, S => by
    have := DV_b (t := t) (fl := fl) r (i + 1) S
    unfold DV
    split <;> omega
def TB (t : Nat → Nat) (fl L : Nat) (σ : St) (a : Nat) : Prop := ∀ S, S ≤ fl → gA σ 20 (256 * a + S) = (DV t fl (L - a) a S : Nat)
theorem M_f110 {t : Nat → Nat} {n fl L a : Nat} (hL : L ≤ 28) (hn : n ≤ 8) (hfl : fl + 1 = 2 ^ n) (ht : ∀ q, t q ≤ fl) (ha : a < L) (k103 : St → Int → Int → Option (Int × St)) : ∀ (r m S : Nat) (σ : St), r < m → S + r = fl + 1 → (∀ q, q < L → gA σ 19 q = (t q : Nat)) → TB t fl L σ (a + 1) → ∃ σ', l_M_fix_110 F k103 m σ (fl : Nat) (a : Nat) (S : Nat) = k103 σ' (fl : Nat) ((a : Int) + -1) ∧ (∀ q, gF σ' q = gF σ q) ∧ (∀ c, c ≠ 20 → ∀ i, gA σ' c i = gA σ c i) ∧ ∀ i, gA σ' 20 i = if 256 * a + S ≤ i ∧ i ≤ 256 * a + fl then ((DV t fl (L - a) a (i - 256 * a) : Nat) : Int) else gA σ 20 i
  | _, 0, _, _, h, _, _, _ => by omega
  | 0, m + 1, S, σ, _, hS, _, _ => by
    have hp : 2 ^ n ≤ 256 := Nat.pow_le_pow_right (n := 2) (by omega) hn
    refine ⟨σ, ?_, fun _ => rfl, fun _ _ _ => rfl, fun i => by rw [if_neg (by omega)]⟩
    show b_M_fix_110 F k103 _ σ _ _ _ = _
    unfold b_M_fix_110
    rw [gd_t (by omega), if_pos (by omega), bv_s]
  | r + 1, m + 1, S, σ, hm, hS, h19, hT => by
    have hp : 2 ^ n ≤ 256 := Nat.pow_le_pow_right (n := 2) (by omega) hn
    have hta := ht a
    have hor : iorI (S : Int) (t a : Nat) = ((S ||| t a : Nat) : Int) := iorN S (t a) (by omega) (by omega)
    have hlt : S ||| t a ≤ fl := by
      have := Nat.or_lt_two_pow (n := n) (show S < 2 ^ n by omega) (show t a < 2 ^ n by omega)
      omega
    have t1 := hT (S ||| t a) hlt
    have t2 := hT S (by omega)
    have b1 := DV_b (t := t) (fl := fl) (L - (a + 1)) (a + 1) (S ||| t a)
    have b2 := DV_b (t := t) (fl := fl) (L - (a + 1)) (a + 1) S
    have e1 : Int.toNat ((256 * ((a : Int) + 1)) + ((S ||| t a : Nat) : Int)) = 256 * (a + 1) + (S ||| t a) := by omega
    have e2 : Int.toNat ((256 * ((a : Int) + 1)) + ((S : Nat) : Int)) = 256 * (a + 1) + S := by omega
    have e3 : Int.toNat ((256 * (a : Int)) + ((S : Nat) : Int)) = 256 * a + S := by omega
    have hD : DV t fl (L - a) a S = if DV t fl (L - (a + 1)) (a + 1) S ≤ DV t fl (L - (a + 1)) (a + 1) (S ||| t a) + 1 then DV t fl (L - (a + 1)) (a + 1) S else DV t fl (L - (a + 1)) (a + 1) (S ||| t a) + 1 := by
      rw [show L - a = (L - (a + 1)) + 1 by omega]; rfl
    obtain ⟨σ', k1, k2, k3, k4⟩ := M_f110 hL hn hfl ht ha k103 r m (S + 1) (sA σ 20 (256 * a + S) ((DV t fl (L - a) a S : Nat) : Int)) (by omega) (by omega) (fun q hq => by rw [gA_sA, if_neg (by omega)]; exact h19 q hq) (fun S' hS' => by rw [gA_sA, if_neg (by omega)]; exact hT S' hS')
    refine ⟨σ', ?_, k2, fun c hc i => by rw [k3 c hc i, gA_sA, if_neg (fun z => hc z.1)], fun i => ?_⟩
    · show b_M_fix_110 F k103 _ σ _ _ _ = _
      unfold b_M_fix_110
      rw [gd_t (by omega), if_neg (by omega), gd_t (by omega), Int.toNat_natCast, h19 a ha, hor, bv_s, gd_t (by omega), e1, t1, bv_s, bv_s, gd_t (by omega), e2, t2, bv_s, gd_t (by omega)]
      by_cases q : DV t fl (L - (a + 1)) (a + 1) S ≤ DV t fl (L - (a + 1)) (a + 1) (S ||| t a) + 1
      · rw [if_pos q] at hD
        rw [hD] at k1
        rw [if_pos (by omega), gd_t (by omega), bs_s, bv_s, e3]
        exact k1
      · rw [if_neg q] at hD
        rw [hD] at k1
        rw [if_neg (by omega), gd_t (by omega), bs_s, bv_s, e3]
        exact k1
    · rw [k4 i]
      by_cases q : i = 256 * a + S
      · rw [if_neg (by omega), gA_sA, if_pos ⟨rfl, q⟩, if_pos (by omega), show i - 256 * a = S by omega]
      · by_cases z : 256 * a + (S + 1) ≤ i ∧ i ≤ 256 * a + fl
        · rw [if_pos z, if_pos (by omega)]
        · rw [if_neg z, if_neg (by omega), gA_sA, if_neg (fun w => q w.2)]
theorem M_f103 (hF : 300 ≤ F) {t : Nat → Nat} {n fl L : Nat} (hL : L ≤ 28) (hn : n ≤ 8) (hfl : fl + 1 = 2 ^ n) (ht : ∀ q, t q ≤ fl) : ∀ (a m : Nat) (σ : St), a < m → a ≤ L → (∀ q, q < L → gA σ 19 q = (t q : Nat)) → (∀ b, a ≤ b → b ≤ L → TB t fl L σ b) → ∃ σ', l_M_fix_103 F m σ (fl : Nat) ((a : Int) - 1) = l_M_fix_208 F F (sF σ' 56 0) (fl : Nat) 0 0 ∧ (∀ q, gF σ' q = gF σ q) ∧ (∀ c, c ≠ 20 → ∀ i, gA σ' c i = gA σ c i) ∧ ∀ b, b ≤ L → TB t fl L σ' b
  | _, 0, _, h, _, _, _ => by omega
  | 0, m + 1, σ, _, _, _, hT => by
    refine ⟨σ, ?_, fun _ => rfl, fun _ _ _ => rfl, fun b hb => hT b (by omega) hb⟩
    show b_M_fix_103 F _ σ _ _ = _
    unfold b_M_fix_103
    rw [gd_t (by omega), if_pos (by omega), bs_s]
  | a + 1, m + 1, σ, hm, ha, h19, hT => by
    have hp : 2 ^ n ≤ 256 := Nat.pow_le_pow_right (n := 2) (by omega) hn
    obtain ⟨s1, k1, k2, k3, k4⟩ := M_f110 (F := F) hL hn hfl ht (a := a) (by omega) (l_M_fix_103 F m) (fl + 1) F 0 σ (by omega) (by omega) h19 (hT (a + 1) (by omega) (by omega))
    obtain ⟨σ', j1, j2, j3, j4⟩ := M_f103 hF hL hn hfl ht a m s1 (by omega) (by omega) (fun q hq => by rw [k3 19 (by omega)]; exact h19 q hq) (fun b hb hbL => by
      intro S hS
      rw [k4]
      by_cases q : b = a
      · subst q
        rw [if_pos (by omega), show 256 * b + S - 256 * b = S by omega]
      · rw [if_neg (by omega)]
        exact hT b (by omega) hbL S hS)
    refine ⟨σ', ?_, fun q => (j2 q).trans (k2 q), fun c hc i => (j3 c hc i).trans (k3 c hc i), j4⟩
    rw [← j1]
    show b_M_fix_103 F _ σ _ _ = _
    unfold b_M_fix_103
    rw [gd_t (by omega), if_neg (by omega), show ((a + 1 : Nat) : Int) - 1 = (a : Nat) by omega]
    refine k1.trans ?_
    rw [show (a : Int) + -1 = (a : Int) - 1 by omega]
theorem M_f208 {t : Nat → Nat} {n fl L : Nat} (hL : L ≤ 28) (hn : n ≤ 8) (hfl : fl + 1 = 2 ^ n) (ht : ∀ q, t q ≤ fl) : ∀ (r m i S c : Nat) (σ : St), r < m → i + r = L → S ≤ fl → gF σ 55 = (L : Nat) → gF σ 56 = (c : Nat) → c + (GV t fl r i S).length ≤ 8 → (∀ q, q < L → gA σ 19 q = (t q : Nat)) → (∀ b, b ≤ L → TB t fl L σ b) → ∃ σ', l_M_fix_208 F m σ (fl : Nat) (S : Nat) (i : Nat) = some (((c + (GV t fl r i S).length : Nat) : Int), σ') ∧ gF σ' 56 = ((c + (GV t fl r i S).length : Nat) : Int) ∧ (∀ q, q ≠ 56 → gF σ' q = gF σ q) ∧ (∀ a, a ≠ 21 → ∀ i, gA σ' a i = gA σ a i) ∧ (∀ q, q < c → gA σ' 21 q = gA σ 21 q) ∧ ∀ q, q < (GV t fl r i S).length → gA σ' 21 (c + q) = gA σ 18 ((GV t fl r i S).getD q 0)
  | _, 0, _, _, _, _, h, _, _, _, _, _, _, _ => by omega
  | 0, m + 1, i, S, c, σ, _, hi, hS, h55, h56, hc, h19, hT => by
    refine ⟨σ, ?_, h56, fun _ _ => rfl, fun _ _ _ => rfl, fun _ _ => rfl, fun q hq => absurd hq (by show ¬ q < 0; omega)⟩
    show b_M_fix_208 F _ σ _ _ _ = _
    unfold b_M_fix_208
    rw [gd_t (by omega), if_pos (by omega), h56]; rfl
  | r + 1, m + 1, i, S, c, σ, hm, hi, hS, h55, h56, hc, h19, hT => by
    have hp : 2 ^ n ≤ 256 := Nat.pow_le_pow_right (n := 2) (by omega) hn
    have hta := ht i
    have hor : iorI (S : Int) (t i : Nat) = ((S ||| t i : Nat) : Int) := iorN S (t i) (by omega) (by omega)
    have hlt : S ||| t i ≤ fl := by
      have := Nat.or_lt_two_pow (n := n) (show S < 2 ^ n by omega) (show t i < 2 ^ n by omega)
      omega
    have t1 := hT (i + 1) (by omega) (S ||| t i) hlt
    have t2 := hT i (by omega) S hS
    rw [show L - (i + 1) = r by omega] at t1
    rw [show L - i = r + 1 by omega] at t2
    have b1 := DV_b (t := t) (fl := fl) r (i + 1) (S ||| t i)
    have b2 := DV_b (t := t) (fl := fl) (r + 1) i S
    have e1 : Int.toNat ((256 * ((i : Int) + 1)) + ((S ||| t i : Nat) : Int)) = 256 * (i + 1) + (S ||| t i) := by omega
    have e2 : Int.toNat ((256 * (i : Int)) + ((S : Nat) : Int)) = 256 * i + S := by omega
    by_cases z : S = fl
    · have hG : GV t fl (r + 1) i S = [] := by rw [z]; exact GV_fl
      rw [hG]
      refine ⟨σ, ?_, h56, fun _ _ => rfl, fun _ _ _ => rfl, fun _ _ => rfl, fun q hq => absurd hq (by show ¬ q < 0; omega)⟩
      show b_M_fix_208 F _ σ _ _ _ = _
      unfold b_M_fix_208
      rw [gd_t (by omega), if_neg (by omega), gd_t (by omega), if_pos (by omega), h56]; rfl
    · have hstep : l_M_fix_208 F (m + 1) σ (fl : Nat) (S : Nat) (i : Nat) = if DV t fl r (i + 1) (S ||| t i) + 1 ≤ DV t fl (r + 1) i S then gd (inb i 28) (gd (inb (gF σ 56) 8) (bs (sA σ 21 (Int.toNat (gF σ 56)) (gA σ 18 (Int.toNat i))) fun σ11 => bs (sF σ11 56 ((gF σ11 56) + 1)) fun σ12 => gd (inb i 28) (bv (iorI S (gA σ12 19 (Int.toNat i))) fun t13 => bv ((i : Int) + 1) fun x4_14 => l_M_fix_208 F m σ12 (fl : Nat) t13 x4_14))) else bv ((i : Int) + 1) fun x4_15 => l_M_fix_208 F m σ (fl : Nat) (S : Nat) x4_15 := by
        show b_M_fix_208 F _ σ _ _ _ = _
        unfold b_M_fix_208
        rw [gd_t (by omega), if_neg (by omega), gd_t (by omega), if_neg (by omega), gd_t (by omega), Int.toNat_natCast, h19 i (by omega), hor, bv_s, gd_t (by omega), e1, t1, bv_s, gd_t (by omega), e2, t2, bv_s, gd_t (by omega)]
        by_cases q : DV t fl r (i + 1) (S ||| t i) + 1 ≤ DV t fl (r + 1) i S
        · rw [if_pos (by omega), if_pos q]
        · rw [if_neg (by omega), if_neg q]
      have hG : GV t fl (r + 1) i S = if DV t fl r (i + 1) (S ||| t i) + 1 ≤ DV t fl (r + 1) i S then i :: GV t fl r (i + 1) (S ||| t i) else GV t fl r (i + 1) S := by
        conv => lhs; unfold GV
        rw [if_neg z]
      rw [hstep, hG]
      rw [hG] at hc
      by_cases q : DV t fl r (i + 1) (S ||| t i) + 1 ≤ DV t fl (r + 1) i S
      · rw [if_pos q] at hc ⊢
        rw [if_pos q]
        rw [List.length_cons] at hc ⊢
        obtain ⟨σ', k1, k2, k3, k4, k5, k6⟩ := M_f208 hL hn hfl ht r m (i + 1) (S ||| t i) (c + 1) (sF (sA σ 21 c (gA σ 18 i)) 56 ((c : Int) + 1)) (by omega) (by omega) hlt h55 (by rw [gF_sF, if_pos rfl]; omega) (by omega) (fun q hq => by rw [gA_sF, gA_sA, if_neg (by omega)]; exact h19 q hq) (fun b hb S' hS' => by rw [gA_sF, gA_sA, if_neg (by omega)]; exact hT b hb S' hS')
        refine ⟨σ', ?_, ?_, fun p hp' => by rw [k3 p hp', gF_sF, if_neg hp']; rfl, fun a ha i' => by rw [k4 a ha, gA_sF, gA_sA, if_neg (fun w => ha w.1)], fun p hp' => by rw [k5 p (by omega), gA_sF, gA_sA, if_neg (by omega)], fun p hp' => ?_⟩
        · rw [gd_t (by omega), gd_t (by omega), bs_s, h56, Int.toNat_natCast, Int.toNat_natCast, bs_s, gd_t (by omega), show gF (sA σ 21 c (gA σ 18 i)) 56 = (c : Nat) from h56, show gA (sF (sA σ 21 c (gA σ 18 i)) 56 (((c : Nat) : Int) + 1)) 19 i = (t i : Nat) by rw [gA_sF, gA_sA, if_neg (by omega)]; exact h19 i (by omega), hor, bv_s, bv_s]
          refine k1.trans ?_
          rw [show c + 1 + (GV t fl r (i + 1) (S ||| t i)).length = c + ((GV t fl r (i + 1) (S ||| t i)).length + 1) by omega]
        · rw [k2, show c + 1 + (GV t fl r (i + 1) (S ||| t i)).length = c + ((GV t fl r (i + 1) (S ||| t i)).length + 1) by omega]
        · cases p with
          | zero =>
            rw [Nat.add_zero, k5 c (by omega), gA_sF, gA_sA, if_pos ⟨rfl, rfl⟩]; rfl
          | succ p =>
            rw [show c + (p + 1) = c + 1 + p by omega, k6 p (by omega), gA_sF, gA_sA, if_neg (by omega)]; rfl
      · rw [if_neg q] at hc ⊢
        rw [if_neg q]
        obtain ⟨σ', k1, k2, k3, k4, k5, k6⟩ := M_f208 hL hn hfl ht r m (i + 1) S c σ (by omega) (by omega) hS h55 h56 hc h19 hT
        exact ⟨σ', k1, k2, k3, k4, k5, k6⟩
end
