/-! PURE PART: a run of letters and digits -/
def wS1 (σ : St) (i : Nat) (c : Int) : St := sF (sF σ 199 (lorI (gF σ 199 * 2 ^ (Int.toNat 8)) c)) 196 ((i : Int) + 1)
def wD1 (σ : St) (i di : Nat) (c : Int) : St := sF (sF σ 200 (if 3 < di + 1 then gF σ 200 else gF σ 200 * 10 + c - 48)) 196 ((i : Int) + 1)
def mA (σ : St) (n : Nat) (c : Int) : St := if 7 ≤ n then σ else sF σ 16 (lorI (gF σ 16 * 2 ^ (Int.toNat 8)) c)
def mB (σ : St) (n : Nat) (c : Int) : St := if 3 ≤ n then mA σ n c else sF (mA σ n c) 13 (10 * gF σ 13 + c - 48)
def mC (σ : St) (i n : Nat) (c : Int) : St := sF (sF (mB σ n c) 12 ((n : Int) + 1)) 4 ((i : Int) + 1)
section
variable {F : Nat} {b : Nat → Int} {L : Nat}
theorem W_r_end {σ : St} {i la di m : Nat} (hL : L ≤ 940) (hi : i ≤ 940) (h6 : gF σ 196 = (i : Nat)) (h5 : gF σ 195 = (L : Nat)) (hb : ∀ i, i < 940 → gA σ 2 i = b i ∧ 0 ≤ b i ∧ b i ≤ 255) (hc : L ≤ i ∨ (i < L ∧ ¬ (97 ≤ b i ∧ b i ≤ 122) ∧ ¬ (48 ≤ b i ∧ b i ≤ 57))) : l_Reader_readRun_14 F (m + 1) σ (la : Nat) (di : Nat) = b_Reader_readRun_123 F σ (la : Nat) (di : Nat) := by
  show b_Reader_readRun_14 F _ σ _ _ = _
  unfold b_Reader_readRun_14
  rw [h6, h5, gd_t (by omega)]
  rcases hc with h | ⟨h, h1, h2⟩
  · rw [if_pos (by omega)]
  · have hbi := hb i (by omega)
    rw [if_neg (by omega), gd_t (by omega), bv_s, Int.toNat_natCast, hbi.1, gd_t (by omega)]
    by_cases c : b i < 97
    · rw [if_pos c, gd_t (by omega)]
      by_cases c2 : b i < 48
      · rw [if_pos c2]
      · rw [if_neg c2, gd_t (by omega), if_pos (by omega)]
    · rw [if_neg c, gd_t (by omega), if_pos (by omega), gd_t (by omega), if_neg (by omega), gd_t (by omega), if_pos (by omega)]
theorem W_r_S {σ : St} {i la di m : Nat} (hL : L ≤ 940) (hi : i < L) (h6 : gF σ 196 = (i : Nat)) (h5 : gF σ 195 = (L : Nat)) (hb : ∀ i, i < 940 → gA σ 2 i = b i ∧ 0 ≤ b i ∧ b i ≤ 255) (hc : 97 ≤ b i ∧ b i ≤ 122) : l_Reader_readRun_14 F (m + 1) σ (la : Nat) (di : Nat) = l_Reader_readRun_14 F m (wS1 σ i (b i)) ((la + 1 : Nat) : Int) (di : Nat) := by
  have hbi := hb i (by omega)
  show b_Reader_readRun_14 F _ σ _ _ = _
  unfold b_Reader_readRun_14
  rw [h6, h5, gd_t (by omega), if_neg (by omega), gd_t (by omega), bv_s, Int.toNat_natCast, hbi.1, gd_t (by omega), if_neg (by omega), gd_t (by omega), if_neg (by omega), bv_s, gd_t (by decide), bv_s, gd_t (by omega), bs_s]
  unfold b_Reader_readRun_110
  rw [bs_s, gF_sF, if_neg (by omega), h6]; rfl
theorem W_r_D {σ : St} {i la di m : Nat} (hL : L ≤ 940) (hi : i < L) (hdi : di ≤ 2000) (h6 : gF σ 196 = (i : Nat)) (h5 : gF σ 195 = (L : Nat)) (hb : ∀ i, i < 940 → gA σ 2 i = b i ∧ 0 ≤ b i ∧ b i ≤ 255) (hc : 48 ≤ b i ∧ b i ≤ 57) : l_Reader_readRun_14 F (m + 1) σ (la : Nat) (di : Nat) = l_Reader_readRun_14 F m (wD1 σ i di (b i)) (la : Nat) ((di + 1 : Nat) : Int) := by
  have hbi := hb i (by omega)
  show b_Reader_readRun_14 F _ σ _ _ = _
  unfold b_Reader_readRun_14
  rw [h6, h5, gd_t (by omega), if_neg (by omega), gd_t (by omega), bv_s, Int.toNat_natCast, hbi.1, gd_t (by omega), if_pos (by omega), gd_t (by omega), if_neg (by omega), gd_t (by omega), if_neg (by omega), bv_s, gd_t (by omega)]
  unfold wD1
  by_cases c : 3 < di + 1
  · rw [if_pos (by omega), bs_s, if_pos c]
    unfold b_Reader_readRun_110
    rw [bs_s, gF_sF, if_neg (by omega), h6]; rfl
  · rw [if_neg (by omega), bv_s, bs_s, if_neg c]
    unfold b_Reader_readRun_110
    rw [bs_s, gF_sF, if_neg (by omega), h6]; rfl
theorem M_r_end {σ : St} {i m : Nat} {x2 x3 : Int} (hL : L ≤ 940) (hi : i ≤ 940) (h4 : gF σ 4 = (i : Nat)) (h3 : gF σ 3 = (L : Nat)) (hb : ∀ i, i < 940 → gA σ 1 i % 256 = b i ∧ 0 ≤ b i ∧ b i ≤ 255) (hc : L ≤ i ∨ (i < L ∧ ¬ (97 ≤ b i ∧ b i ≤ 122) ∧ ¬ (48 ≤ b i ∧ b i ≤ 57))) : l_M_next_163 F (m + 1) σ x2 x3 = b_M_next_280 F σ x2 x3 := by
  have pk := M_peek (F := F) (b := b) (p := i) hL h4 h3 (by omega) (fun j hj => (hb j hj).1)
  have hr : rng (if i < L then b i else -1) ∧ ¬ (97 ≤ (if i < L then b i else -1) ∧ (if i < L then b i else -1) ≤ 122) ∧ ¬ (48 ≤ (if i < L then b i else -1) ∧ (if i < L then b i else -1) ≤ 57) := by
    by_cases c : i < L
    · have := hb i (by omega)
      rw [if_pos c]
      rcases hc with h | ⟨h, h1, h2⟩
      · omega
      · exact ⟨by omega, h1, h2⟩
    · rw [if_neg c]; omega
  show b_M_next_163 F _ σ _ _ = _
  unfold b_M_next_163
  rw [pk, bnd_s, M_small hr.1, bnd_s, if_neg hr.2.1, gd_t (by decide), if_pos rfl, pk, bnd_s, M_digit hr.1, bnd_s, if_neg hr.2.2, gd_t (by decide), if_pos rfl]
theorem M_r_204 {σ : St} {i n m : Nat} {x2 x3 : Int} (hL : L ≤ 940) (hi : i < L) (hn : n ≤ 2000) (h4 : gF σ 4 = (i : Nat)) (h3 : gF σ 3 = (L : Nat)) (h12 : gF σ 12 = (n : Nat)) (hb : ∀ i, i < 940 → gA σ 1 i % 256 = b i ∧ 0 ≤ b i ∧ b i ≤ 255) : b_M_next_204 F (l_M_next_163 F m) σ x2 x3 = l_M_next_163 F m (mC σ i n (b i)) x2 x3 := by
  have hbi := hb i (by omega)
  have h257 : ∀ s : St, gF s 12 = (n : Nat) → gF s 4 = (i : Nat) → b_M_next_257 F (l_M_next_163 F m) s x2 x3 = l_M_next_163 F m (sF (sF s 12 ((n : Int) + 1)) 4 ((i : Int) + 1)) x2 x3 := fun s k1 k2 => by
    unfold b_M_next_257
    rw [bs_s, bs_s, gF_sF, if_neg (by omega), k1, k2]
  have h230 : ∀ s : St, gF s 12 = (n : Nat) → gF s 4 = (i : Nat) → gF s 3 = (L : Nat) → (∀ j, gA s 1 j = gA σ 1 j) → b_M_next_230 F (l_M_next_163 F m) s x2 x3 = l_M_next_163 F m (sF (sF (if 3 ≤ n then s else sF s 13 (10 * gF s 13 + b i - 48)) 12 ((n : Int) + 1)) 4 ((i : Int) + 1)) x2 x3 := fun s k1 k2 k3 k4 => by
    unfold b_M_next_230
    rw [k1, gd_t (by omega)]
    by_cases c : 3 ≤ n
    · rw [if_pos (by omega), if_pos c]; exact h257 s k1 k2
    · rw [if_neg (by omega), if_neg c, M_peek (F := F) (b := b) (p := i) hL k2 k3 (by omega) (fun j hj => by rw [k4]; exact (hb j hj).1), bnd_s, if_pos hi, bv_s, bs_s]
      exact h257 _ k1 k2
  unfold b_M_next_204
  rw [h12, gd_t (by omega)]
  unfold mC mB mA
  by_cases c : 7 ≤ n
  · rw [if_pos (by omega), if_pos c]
    exact h230 σ h12 h4 h3 (fun _ => rfl)
  · rw [if_neg (by omega), if_neg c, gd_t (by decide), bv_s, M_peek (F := F) (b := b) (p := i) hL h4 h3 (by omega) (fun j hj => (hb j hj).1), bnd_s, if_pos hi, gd_t (by omega), bs_s]
    exact h230 _ h12 h4 h3 (fun _ => rfl)
theorem M_r_go {σ : St} {i n m : Nat} {small all : Bool} (hL : L ≤ 940) (hi : i < L) (hn : n ≤ 2000) (h4 : gF σ 4 = (i : Nat)) (h3 : gF σ 3 = (L : Nat)) (h12 : gF σ 12 = (n : Nat)) (hb : ∀ i, i < 940 → gA σ 1 i % 256 = b i ∧ 0 ≤ b i ∧ b i ≤ 255) (hc : (97 ≤ b i ∧ b i ≤ 122) ∨ (48 ≤ b i ∧ b i ≤ 57)) : l_M_next_163 F (m + 1) σ (bi small) (bi all) = l_M_next_163 F m (mC σ i n (b i)) (bi small) (bi (all && (decide (97 ≤ b i ∧ b i ≤ 122) == small))) := by
  have hbi := hb i (by omega)
  have pk := M_peek (F := F) (b := b) (p := i) hL h4 h3 (by omega) (fun j hj => (hb j hj).1)
  rw [if_pos hi] at pk
  have sm := M_small (F := F) (σ := σ) (c := b i) (by omega)
  have h183 : b_M_next_183 F (l_M_next_163 F m) σ (bi small) (bi all) = l_M_next_163 F m (mC σ i n (b i)) (bi small) (bi (all && (decide (97 ≤ b i ∧ b i ≤ 122) == small))) := by
    unfold b_M_next_183
    cases all with
    | false =>
      rw [gd_t (by decide), if_pos (show bi false = 0 from rfl)]
      exact M_r_204 hL hi hn h4 h3 h12 hb
    | true =>
      rw [gd_t (by decide), if_neg (by decide), pk, bnd_s, sm, bnd_s]
      by_cases c : 97 ≤ b i ∧ b i ≤ 122
      · rw [if_pos c, show decide (97 ≤ b i ∧ b i ≤ 122) = true by simp [c]]
        cases small with
        | false =>
          rw [gd_t (by decide), if_neg (by decide)]
          exact M_r_204 hL hi hn h4 h3 h12 hb
        | true =>
          rw [gd_t (by decide), if_pos (by decide)]
          exact M_r_204 hL hi hn h4 h3 h12 hb
      · rw [if_neg c, show decide (97 ≤ b i ∧ b i ≤ 122) = false by simp only [decide_eq_false_iff_not]; exact c]
        cases small with
        | false =>
          rw [gd_t (by decide), if_pos (by decide)]
          exact M_r_204 hL hi hn h4 h3 h12 hb
        | true =>
          rw [gd_t (by decide), if_neg (by decide)]
          exact M_r_204 hL hi hn h4 h3 h12 hb
  rw [← h183]
  show b_M_next_163 F _ σ _ _ = _
  unfold b_M_next_163
  rw [pk, bnd_s, sm, bnd_s]
  by_cases c : 97 ≤ b i ∧ b i ≤ 122
  · rw [if_pos c, gd_t (by decide), if_neg (by decide)]
  · rw [if_neg c, gd_t (by decide), if_pos rfl, pk, bnd_s, M_digit (by omega), bnd_s, if_pos (by omega), gd_t (by decide), if_neg (by decide)]
/-- both read a run -/
theorem RUN (hL : L ≤ 940) (hb0 : ∀ i, i < 940 → 0 ≤ b i ∧ b i ≤ 255) : ∀ (d m m2 : Nat) (σ1 σ2 : St) (i la di : Nat) (small all : Bool), d < m → d < m2 → i + d = L → BYT σ1 σ2 b → gF σ1 196 = (i : Nat) → gF σ1 195 = (L : Nat) → gF σ2 4 = (i : Nat) → gF σ2 3 = (L : Nat) → gF σ2 12 = ((la + di : Nat) : Int) → la + di ≤ i → (la + di = 0 → i < L ∧ (small = true ↔ 97 ≤ b i ∧ b i ≤ 122) ∧ ((97 ≤ b i ∧ b i ≤ 122) ∨ (48 ≤ b i ∧ b i ≤ 57))) → (0 < la + di → if small = true then 0 < la else 0 < di) → (all = true ↔ if small = true then di = 0 else la = 0) → (di = 0 → la ≤ 7 → gF σ1 199 = gF σ2 16 ∧ rng64 (gF σ2 16)) → (la = 0 → di ≤ 3 → gF σ1 200 = gF σ2 13 ∧ 0 ≤ gF σ2 13 ∧ gF σ2 13 < ((10 ^ di : Nat) : Int)) → ∃ σ1' σ2' j, l_Reader_readRun_14 F m σ1 (la : Nat) (di : Nat) = some (1, σ1') ∧ l_M_next_163 F m2 σ2 (bi small) (bi all) = some (0, σ2') ∧ TK3 σ1' σ2' ∧ gF σ1' 196 = ((j : Nat) : Int) ∧ gF σ2' 4 = ((j : Nat) : Int) ∧ i ≤ j ∧ j ≤ L ∧ (∀ q, q ≠ 196 → q ≠ 197 → q ≠ 199 → q ≠ 200 → gF σ1' q = gF σ1 q) ∧ (∀ a k, gA σ1' a k = gA σ1 a k) ∧ (∀ q, q ≠ 4 → q ≠ 10 → q ≠ 12 → q ≠ 13 → q ≠ 16 → gF σ2' q = gF σ2 q) ∧ ∀ a k, gA σ2' a k = gA σ2 a k
  | _, 0, _, _, _, _, _, _, _, _, h, _, _, _, _, _, _, _, _, _, _, _, _, _, _ => absurd h (Nat.not_lt_zero _)
  | _, _ + 1, 0, _, _, _, _, _, _, _, _, h, _, _, _, _, _, _, _, _, _, _, _, _, _ => absurd h (Nat.not_lt_zero _)
  | d, m + 1, m2 + 1, σ1, σ2, i, la, di, small, all, hm, hm2, hd, hB, h6, h5, h4, h3, h12, hle, hst, hsm, hall, hw, hv => by
    have hbW : ∀ i, i < 940 → gA σ1 2 i = b i ∧ 0 ≤ b i ∧ b i ≤ 255 := fun i hi => ⟨(hB i hi).1, hb0 i hi⟩
    have hbM : ∀ i, i < 940 → gA σ2 1 i % 256 = b i ∧ 0 ≤ b i ∧ b i ≤ 255 := fun i hi => ⟨(hB i hi).2, hb0 i hi⟩
    by_cases hc : i < L ∧ ((97 ≤ b i ∧ b i ≤ 122) ∨ (48 ≤ b i ∧ b i ≤ 57))
    · obtain ⟨d, rfl⟩ : ∃ e, d = e + 1 := ⟨d - 1, by omega⟩
      have hbi := hb0 i (by omega)
      have go2 := M_r_go (F := F) (b := b) (m := m2) (small := small) (all := all) hL hc.1 (by omega) h4 h3 h12 hbM hc.2
      have c12 : gF (mC σ2 i (la + di) (b i)) 12 = ((la + di + 1 : Nat) : Int) := by unfold mC; rw [gF_sF, if_neg (by omega), gF_eq]; omega
      have c4 : gF (mC σ2 i (la + di) (b i)) 4 = ((i + 1 : Nat) : Int) := by unfold mC; rw [gF_eq]; omega
      have cF : ∀ q, q ≠ 4 → q ≠ 12 → q ≠ 13 → q ≠ 16 → gF (mC σ2 i (la + di) (b i)) q = gF σ2 q := fun q h1 h2 h3 h4 => by
        unfold mC mB mA
        rw [gF_sF, if_neg h1, gF_sF, if_neg h2]
        split <;> split <;> simp only [gF_sF, if_neg h3, if_neg h4]
      have cA : ∀ a k, gA (mC σ2 i (la + di) (b i)) a k = gA σ2 a k := fun a k => by
        unfold mC mB mA
        split <;> split <;> rfl
      have c16 : la + di < 7 → gF (mC σ2 i (la + di) (b i)) 16 = lorI (gF σ2 16 * 2 ^ (Int.toNat 8)) (b i) := fun h => by
        unfold mC mB mA
        rw [gF_sF, if_neg (by omega), gF_sF, if_neg (by omega)]
        split
        · rw [if_neg (by omega), gF_eq]
        · rw [if_neg (by omega), gF_sF, if_neg (by omega), gF_eq]
      have c13 : la + di < 3 → gF (mC σ2 i (la + di) (b i)) 13 = 10 * gF σ2 13 + b i - 48 := fun h => by
        unfold mC mB
        rw [gF_sF, if_neg (by omega), gF_sF, if_neg (by omega), if_neg (by omega), gF_eq]
      by_cases hS : 97 ≤ b i ∧ b i ≤ 122
      · have go1 := W_r_S (F := F) (b := b) (m := m) (la := la) (di := di) hL hc.1 h6 h5 hbW hS
        obtain ⟨σ1', σ2', j, k1, k2, k3, k4, k5, k6, k7, k8, k9, k10, k11⟩ := RUN hL hb0 d m m2 (wS1 σ1 i (b i)) (mC σ2 i (la + di) (b i)) (i + 1) (la + 1) di small (all && (decide (97 ≤ b i ∧ b i ≤ 122) == small)) (by omega) (by omega) (by omega) (fun k hk => ⟨(hB k hk).1, by rw [cA]; exact (hB k hk).2⟩) (by unfold wS1; rw [gF_eq]; omega) (by unfold wS1; rw [gF_sF, if_neg (by omega), gF_sF, if_neg (by omega)]; exact h5) c4 (by rw [cF 3 (by omega) (by omega) (by omega) (by omega)]; exact h3) (by rw [c12]; omega) (by omega) (fun h => by omega) (fun _ => by
          cases small with
          | true => rw [if_pos rfl]; omega
          | false =>
            rw [if_neg (by decide)]
            rcases Nat.eq_zero_or_pos (la + di) with q | q
            · have := (hst q).2.1.mpr hS; cases this
            · have := hsm q; rw [if_neg (by decide)] at this; exact this) (by
          rw [show decide (97 ≤ b i ∧ b i ≤ 122) = true by simp [hS]]
          cases small with
          | true =>
            rw [if_pos rfl] at hall ⊢
            rw [show (true == true) = true from rfl, Bool.and_true]; exact hall
          | false =>
            rw [if_neg (by decide)]
            rw [show (true == false) = false from rfl, Bool.and_false]
            exact ⟨fun h => (by cases h), fun h => by omega⟩) (fun hdi hla => by
          have hw' := hw hdi (by omega)
          rw [c16 (by omega)]
          unfold wS1
          rw [gF_sF, if_neg (by omega), gF_eq, hw'.1]
          exact ⟨rfl, lor_b _ _⟩) (fun h => by omega)
        refine ⟨σ1', σ2', j, go1.trans k1, go2.trans k2, k3, k4, k5, by omega, k7, fun q h1 h2 h3 h4 => ?_, fun a k => by rw [k9]; rfl, fun q h1 h2 h3 h4 h5 => by rw [k10 q h1 h2 h3 h4 h5, cF q h1 h3 h4 h5], fun a k => by rw [k11, cA]⟩
        rw [k8 q h1 h2 h3 h4]
        unfold wS1
        rw [gF_sF, if_neg h1, gF_sF, if_neg h3]
      · have hD : 48 ≤ b i ∧ b i ≤ 57 := by omega
        have go1 := W_r_D (F := F) (b := b) (m := m) (la := la) (di := di) hL hc.1 (by omega) h6 h5 hbW hD
        obtain ⟨σ1', σ2', j, k1, k2, k3, k4, k5, k6, k7, k8, k9, k10, k11⟩ := RUN hL hb0 d m m2 (wD1 σ1 i di (b i)) (mC σ2 i (la + di) (b i)) (i + 1) la (di + 1) small (all && (decide (97 ≤ b i ∧ b i ≤ 122) == small)) (by omega) (by omega) (by omega) (fun k hk => ⟨(hB k hk).1, by rw [cA]; exact (hB k hk).2⟩) (by unfold wD1; rw [gF_eq]; omega) (by unfold wD1; rw [gF_sF, if_neg (by omega), gF_sF, if_neg (by omega)]; exact h5) c4 (by rw [cF 3 (by omega) (by omega) (by omega) (by omega)]; exact h3) (by rw [c12]; omega) (by omega) (fun h => by omega) (fun _ => by
          cases small with
          | false => rw [if_neg (by decide)]; omega
          | true =>
            rw [if_pos rfl]
            rcases Nat.eq_zero_or_pos (la + di) with q | q
            · exact absurd ((hst q).2.1.mp rfl) hS
            · have := hsm q; rw [if_pos rfl] at this; exact this) (by
          rw [show decide (97 ≤ b i ∧ b i ≤ 122) = false by simp only [decide_eq_false_iff_not]; exact hS]
          cases small with
          | false =>
            rw [if_neg (by decide)] at hall ⊢
            rw [show (false == false) = true from rfl, Bool.and_true]; exact hall
          | true =>
            rw [if_pos rfl]
            rw [show (false == true) = false from rfl, Bool.and_false]
            exact ⟨fun h => (by cases h), fun h => by omega⟩) (fun h => by omega) (fun hla hdi => by
          have hv' := hv hla (by omega)
          have hpw : 10 ^ (di + 1) = 10 ^ di * 10 := Nat.pow_succ ..
          rw [c13 (by omega)]
          unfold wD1
          rw [gF_sF, if_neg (by omega), gF_eq, if_neg (by omega), hv'.1]
          exact ⟨by omega, by omega, by omega⟩)
        refine ⟨σ1', σ2', j, go1.trans k1, go2.trans k2, k3, k4, k5, by omega, k7, fun q h1 h2 h3 h4 => ?_, fun a k => by rw [k9]; rfl, fun q h1 h2 h3 h4 h5 => by rw [k10 q h1 h2 h3 h4 h5, cF q h1 h3 h4 h5], fun a k => by rw [k11, cA]⟩
        rw [k8 q h1 h2 h3 h4]
        unfold wD1
        rw [gF_sF, if_neg h1, gF_sF, if_neg h4]
    · have hpos : 0 < la + di := by
        rcases Nat.eq_zero_or_pos (la + di) with q | q
        · obtain ⟨h1, -, h2⟩ := hst q
          exact absurd ⟨h1, h2⟩ hc
        · exact q
      have hend : L ≤ i ∨ (i < L ∧ ¬ (97 ≤ b i ∧ b i ≤ 122) ∧ ¬ (48 ≤ b i ∧ b i ≤ 57)) := by omega
      obtain ⟨k, e1, e2⟩ := W_run_end (F := F) (σ := σ1) (la := la) (di := di) (by omega)
      obtain ⟨T, e3, hT⟩ : ∃ T, b_M_next_280 F σ2 (bi small) (bi all) = some (0, sF σ2 10 T) ∧ T = (if all = true ∧ la + di ≤ (if small = true then 7 else 3) then (if small = true then 1 else 2) else 4) := ⟨_, M_run_end (F := F) (σ := σ2) (n := la + di) (small := small) (all := all) h12 (by omega), rfl⟩
      have r1 := W_r_end (F := F) (b := b) (m := m) (la := la) (di := di) hL (by omega) h6 h5 hbW hend
      have r2 := M_r_end (F := F) (b := b) (m := m2) (x2 := bi small) (x3 := bi all) hL (by omega) h4 h3 hbM hend
      rw [if_neg (by omega)] at e1
      refine ⟨_, _, i, r1.trans e1, r2.trans e3, ?_, by rw [gF_sF, if_neg (by omega)]; exact h6, by rw [gF_sF, if_neg (by omega)]; exact h4, Nat.le_refl i, by omega, fun q h1 h2 h3 h4 => by rw [gF_sF, if_neg h2], fun _ _ => rfl, fun q h1 h2 h3 h4 h5 => by rw [gF_sF, if_neg h2], fun _ _ => rfl⟩
      have hs := hsm hpos
      have tk : (k = 1 ∧ T = 4) ∨ (k = 2 ∧ T = 1 ∧ gF σ1 199 = gF σ2 16 ∧ rng64 (gF σ2 16)) ∨ (k = 3 ∧ T = 2 ∧ gF σ1 200 = gF σ2 13 ∧ 0 ≤ gF σ2 13 ∧ gF σ2 13 ≤ 999) := by
        cases small with
        | true =>
          rw [if_pos rfl] at hs hall
          rw [if_pos rfl, if_pos rfl] at hT
          by_cases c : di = 0 ∧ la ≤ 7
          · have hw' := hw c.1 c.2
            rw [if_pos ⟨hall.mpr c.1, by omega⟩] at hT
            rw [if_pos c] at e2
            exact Or.inr (Or.inl ⟨e2, hT, hw'⟩)
          · rw [if_neg (fun z => c ⟨hall.mp z.1, by omega⟩)] at hT
            rw [if_neg c, if_neg (fun z => by omega)] at e2
            exact Or.inl ⟨e2, hT⟩
        | false =>
          have ff : ¬ false = true := by decide
          rw [if_neg ff] at hs hall
          rw [if_neg ff, if_neg ff] at hT
          by_cases c : la = 0 ∧ di ≤ 3
          · have hv' := hv c.1 c.2
            have hpw : 10 ^ di ≤ 10 ^ 3 := Nat.pow_le_pow_right (by omega) c.2
            rw [if_pos ⟨hall.mpr c.1, by omega⟩] at hT
            rw [if_neg (fun z => by omega), if_pos c] at e2
            exact Or.inr (Or.inr ⟨e2, hT, hv'.1, hv'.2.1, by omega⟩)
          · rw [if_neg (fun z => c ⟨hall.mp z.1, by omega⟩)] at hT
            rw [if_neg (fun z => by omega), if_neg c] at e2
            exact Or.inl ⟨e2, hT⟩
      have q1 : gF (sF σ1 197 k) 197 = k := gF_eq
      have q2 : gF (sF σ1 197 k) 199 = gF σ1 199 := by rw [gF_sF, if_neg (by omega)]
      have q3 : gF (sF σ1 197 k) 200 = gF σ1 200 := by rw [gF_sF, if_neg (by omega)]
      have q4 : gF (sF σ2 10 T) 10 = T := gF_eq
      have q5 : gF (sF σ2 10 T) 16 = gF σ2 16 := by rw [gF_sF, if_neg (by omega)]
      have q6 : gF (sF σ2 10 T) 13 = gF σ2 13 := by rw [gF_sF, if_neg (by omega)]
      unfold TK3
      rw [q1, q2, q3, q4, q5, q6]
      exact tk
end
