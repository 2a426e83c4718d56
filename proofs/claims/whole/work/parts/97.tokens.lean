/-! PURE PART: tokens -/
def isS (c : Int) : Prop := 97 ≤ c ∧ c ≤ 122
def isD (c : Int) : Prop := 48 ≤ c ∧ c ≤ 57
def BYT (σ1 σ2 : St) (b : Nat → Int) : Prop := ∀ i, i < 940 → gA σ1 2 i = b i ∧ gA σ2 1 i % 256 = b i
/-- what reading a token changes -/
def TF1 (σ σ' : St) : Prop := (∀ q, q ≠ 196 → q ≠ 197 → q ≠ 198 → q ≠ 199 → q ≠ 200 → gF σ' q = gF σ q) ∧ ∀ a i, gA σ' a i = gA σ a i
def TF2 (σ σ' : St) : Prop := (∀ q, q ≠ 4 → q ≠ 10 → q ≠ 11 → q ≠ 12 → q ≠ 13 → q ≠ 16 → gF σ' q = gF σ q) ∧ ∀ a i, gA σ' a i = gA σ a i
theorem TF1.tr {a b c : St} (h : TF1 a b) (g : TF1 b c) : TF1 a c := ⟨fun q h1 h2 h3 h4 h5 => (g.1 q h1 h2 h3 h4 h5).trans (h.1 q h1 h2 h3 h4 h5), fun x i => (g.2 x i).trans (h.2 x i)⟩
theorem TF2.tr {a b c : St} (h : TF2 a b) (g : TF2 b c) : TF2 a c := ⟨fun q h1 h2 h3 h4 h5 h6 => (g.1 q h1 h2 h3 h4 h5 h6).trans (h.1 q h1 h2 h3 h4 h5 h6), fun x i => (g.2 x i).trans (h.2 x i)⟩
theorem TF1.rf {a : St} : TF1 a a := ⟨fun _ _ _ _ _ _ => rfl, fun _ _ => rfl⟩
theorem TF2.rf {a : St} : TF2 a a := ⟨fun _ _ _ _ _ _ _ => rfl, fun _ _ => rfl⟩
theorem BYT_t {σ1 σ2 σ1' σ2' : St} {b : Nat → Int} (h : BYT σ1 σ2 b) (h1 : TF1 σ1 σ1') (h2 : TF2 σ2 σ2') : BYT σ1' σ2' b := fun i hi => ⟨by rw [h1.2]; exact (h i hi).1, by rw [h2.2]; exact (h i hi).2⟩
theorem lor_b (x y : Int) : rng64 (lorI x y) := by
  unfold lorI
  have h1 := Int64.toInt_lt (Int64.ofInt x ||| Int64.ofInt y)
  have h2 := Int64.le_toInt (Int64.ofInt x ||| Int64.ofInt y)
  constructor <;> omega
section
variable {F : Nat} {b : Nat → Int} {L : Nat}
theorem M_peek {σ : St} {p : Nat} (hL : L ≤ 940) (h4 : gF σ 4 = (p : Nat)) (h3 : gF σ 3 = (L : Nat)) (hp : p ≤ 2000) (hb : ∀ i, i < 940 → gA σ 1 i % 256 = b i) : f_M_peek F σ = some (if p < L then b p else -1, σ) := by
  unfold f_M_peek
  rw [h4, h3, gd_t (by omega)]
  by_cases c : p < L
  · rw [if_neg (by omega), gd_t (by omega), bv_s, iand255, Int.toNat_natCast, hb p (by omega), if_pos c]
  · rw [if_pos (by omega), if_neg c]
theorem M_small {σ : St} {c : Int} (hc : rng c) : f_M_isSmall F σ c = some (if 97 ≤ c ∧ c ≤ 122 then 1 else 0, σ) := by
  unfold f_M_isSmall
  rw [gd_t (by omega)]
  by_cases h : c < 97
  · rw [if_pos h, if_neg (by omega)]
  · rw [if_neg h, gd_t (by omega)]
    by_cases h2 : 122 < c
    · rw [if_pos h2, if_neg (by omega)]
    · rw [if_neg h2, if_pos (by omega)]
theorem M_digit {σ : St} {c : Int} (hc : rng c) : f_M_isDigit F σ c = some (if 48 ≤ c ∧ c ≤ 57 then 1 else 0, σ) := by
  unfold f_M_isDigit
  rw [gd_t (by omega)]
  by_cases h : c < 48
  · rw [if_pos h, if_neg (by omega)]
  · rw [if_neg h, gd_t (by omega)]
    by_cases h2 : 57 < c
    · rw [if_pos h2, if_neg (by omega)]
    · rw [if_neg h2, if_pos (by omega)]
/-- a token with letters or digits, as both have it -/
def TK3 (σ1 σ2 : St) : Prop := (gF σ1 197 = 1 ∧ gF σ2 10 = 4) ∨ (gF σ1 197 = 2 ∧ gF σ2 10 = 1 ∧ gF σ1 199 = gF σ2 16 ∧ rng64 (gF σ2 16)) ∨ (gF σ1 197 = 3 ∧ gF σ2 10 = 2 ∧ gF σ1 200 = gF σ2 13 ∧ 0 ≤ gF σ2 13 ∧ gF σ2 13 ≤ 999)
/-- the class's end of a run -/
theorem W_run_end {σ : St} {la di : Nat} (h : la + di ≤ 2000) : ∃ k : Int, b_Reader_readRun_123 F σ (la : Nat) (di : Nat) = some (if la + di = 0 then 0 else 1, sF σ 197 k) ∧ k = if di = 0 ∧ la ≤ 7 then 2 else if la = 0 ∧ di ≤ 3 then 3 else 1 := by
  have h177 : ∀ s : St, b_Reader_readRun_177 F s (la : Nat) (di : Nat) = some (if la + di = 0 then 0 else 1, s) := fun s => by
    unfold b_Reader_readRun_177
    rw [gd_t (by omega)]
    by_cases c : la + di = 0
    · rw [if_pos (by omega), if_pos c]
    · rw [if_neg (by omega), if_neg c]
  have h155 : ∀ w n : Int, (w = 0 ∨ w = 1) → (n = 0 ∨ n = 1) → b_Reader_readRun_155 F σ (la : Nat) (di : Nat) w n = some (if la + di = 0 then 0 else 1, sF σ 197 (if w = 1 then 2 else if n = 1 then 3 else 1)) := fun w n hw hn => by
    unfold b_Reader_readRun_155
    have n01 : ¬ (0 : Int) = 1 := by decide
    have n10 : ¬ (1 : Int) = 0 := by decide
    rcases hw with rfl | rfl
    · rw [gd_t (by decide), if_pos rfl, if_neg n01]
      rcases hn with rfl | rfl
      · rw [gd_t (by decide), if_pos rfl, bs_s, h177, if_neg n01]
      · rw [gd_t (by decide), if_neg n10, bs_s, h177, if_pos (show (1 : Int) = 1 from rfl)]
    · rw [gd_t (by decide), if_neg n10, bs_s, h177, if_pos (show (1 : Int) = 1 from rfl)]
  have h139 : ∀ w : Int, (w = 0 ∨ w = 1) → b_Reader_readRun_139 F σ (la : Nat) (di : Nat) w = some (if la + di = 0 then 0 else 1, sF σ 197 (if w = 1 then 2 else if la = 0 ∧ di ≤ 3 then 3 else 1)) := fun w hw => by
    unfold b_Reader_readRun_139
    rw [gd_t (by omega)]
    by_cases c : la = 0
    · rw [if_pos (by omega), gd_t (by omega)]
      by_cases c2 : di ≤ 3
      · rw [if_neg (by omega), h155 w 1 hw (Or.inr rfl), if_pos rfl, if_pos (show la = 0 ∧ di ≤ 3 from ⟨c, c2⟩)]
      · rw [if_pos (by omega), h155 w 0 hw (Or.inl rfl), if_neg (show ¬ (0 : Int) = 1 by decide), if_neg (show ¬ (la = 0 ∧ di ≤ 3) from fun z => c2 z.2)]
    · rw [if_neg (by omega), h155 w 0 hw (Or.inl rfl), if_neg (show ¬ (0 : Int) = 1 by decide), if_neg (show ¬ (la = 0 ∧ di ≤ 3) from fun z => c z.1)]
  refine ⟨_, ?_, rfl⟩
  unfold b_Reader_readRun_123
  rw [gd_t (by omega)]
  by_cases c : di = 0
  · rw [if_pos (by omega), gd_t (by omega)]
    by_cases c2 : la ≤ 7
    · rw [if_neg (by omega), h139 1 (Or.inr rfl), if_pos rfl, if_pos (show di = 0 ∧ la ≤ 7 from ⟨c, c2⟩)]
    · rw [if_pos (by omega), h139 0 (Or.inl rfl), if_neg (show ¬ (0 : Int) = 1 by decide), if_neg (show ¬ (di = 0 ∧ la ≤ 7) from fun z => c2 z.2)]
  · rw [if_neg (by omega), h139 0 (Or.inl rfl), if_neg (show ¬ (0 : Int) = 1 by decide), if_neg (show ¬ (di = 0 ∧ la ≤ 7) from fun z => c z.1)]
/-- the model's end of a run -/
theorem M_run_end {σ : St} {n : Nat} {small all : Bool} (h12 : gF σ 12 = (n : Nat)) (hn : n ≤ 2000) : b_M_next_280 F σ (bi small) (bi all) = some (0, sF σ 10 (if all = true ∧ n ≤ (if small = true then 7 else 3) then (if small = true then 1 else 2) else 4)) := by
  unfold b_M_next_280
  cases all with
  | false => rw [gd_t (by decide), if_pos (show bi false = 0 from rfl), bs_s, if_neg (fun z => by cases z.1)]
  | true =>
    rw [gd_t (by decide), if_neg (by decide)]
    cases small with
    | false =>
      rw [gd_t (by decide), if_pos (show bi false = 0 from rfl), h12, gd_t (by omega), if_neg (show ¬ false = true by decide), if_neg (show ¬ false = true by decide)]
      by_cases c : n ≤ 3
      · rw [if_pos (by omega), gd_t (by decide), if_pos (show bi false = 0 from rfl), bs_s, if_pos ⟨rfl, c⟩]
      · rw [if_neg (by omega), bs_s, if_neg (fun z => c z.2)]
    | true =>
      rw [gd_t (by decide), if_neg (by decide), h12, gd_t (by omega), if_pos rfl, if_pos rfl]
      by_cases c : n ≤ 7
      · rw [if_pos (by omega), gd_t (by decide), if_neg (by decide), bs_s, if_pos ⟨rfl, c⟩]
      · rw [if_neg (by omega), bs_s, if_neg (fun z => c z.2)]
end
