/-! PURE PART, numbers: the loops that find them -/
theorem M_ip {F : Nat} : ∀ k n, k ≤ n → ∀ (σ : St) (p f : Nat) (b : Bool), 0 < f → f + k ≤ 10000 → p ≤ 1000000 → ipN k p f = some b → l_M_isPrime_2 F n σ (p : Nat) (f : Nat) = some (bi b, σ)
  | 0, _, _, _, _, _, _, _, _, _, h => by simp [ipN] at h
  | k + 1, 0, hk, _, _, _, _, _, _, _, _ => by omega
  | k + 1, n + 1, hk, σ, p, f, b, hf, hb, hp, h => by
    have hff : f * f ≤ 10000 * 10000 := Nat.mul_le_mul (by omega) (by omega)
    have hfi : ((f * f : Nat) : Int) = (f : Int) * f := by simp
    simp only [l_M_isPrime_2, b_M_isPrime_2]
    rw [gd_t ⟨⟨by omega, by omega⟩, by omega, by omega⟩]
    unfold ipN at h
    by_cases c1 : p < f * f
    · rw [if_pos c1] at h
      cases h
      rw [if_pos (by omega)]; rfl
    · rw [if_neg c1] at h
      rw [if_neg (by omega), tmE (by omega), gd_t ⟨⟨by omega, by omega⟩, ⟨by omega, by omega⟩, by omega⟩]
      have hm : ((p % f : Nat) : Int) = (p : Int) % f := by simp
      have hml : p % f < f := Nat.mod_lt _ hf
      rw [← hm, gd_t ⟨by omega, by omega⟩]
      by_cases c2 : p % f = 0
      · rw [if_pos c2] at h
        cases h
        rw [if_pos (by omega)]; rfl
      · rw [if_neg c2] at h
        rw [if_neg (by omega)]
        exact M_ip k n (by omega) σ p (f + 1) b (by omega) (by omega) hp h
theorem W_ip {F : Nat} : ∀ k n, k ≤ n → ∀ (σ : St) (p f : Nat) (b : Bool), 0 < f → f + k ≤ 10000 → p ≤ 1000000 → ipN k p f = some b → l_Lattice_isPrime_2 F n σ (p : Nat) (f : Nat) = some (bi b, σ)
  | 0, _, _, _, _, _, _, _, _, _, h => by simp [ipN] at h
  | k + 1, 0, hk, _, _, _, _, _, _, _, _ => by omega
  | k + 1, n + 1, hk, σ, p, f, b, hf, hb, hp, h => by
    have hff : f * f ≤ 10000 * 10000 := Nat.mul_le_mul (by omega) (by omega)
    have hfi : ((f * f : Nat) : Int) = (f : Int) * f := by simp
    simp only [l_Lattice_isPrime_2, b_Lattice_isPrime_2]
    rw [gd_t ⟨⟨by omega, by omega⟩, by omega, by omega⟩]
    unfold ipN at h
    by_cases c1 : p < f * f
    · rw [if_pos c1] at h
      cases h
      rw [if_pos (by omega)]; rfl
    · rw [if_neg c1] at h
      rw [if_neg (by omega), tmE (by omega), gd_t ⟨⟨by omega, by omega⟩, ⟨by omega, by omega⟩, by omega⟩]
      have hm : ((p % f : Nat) : Int) = (p : Int) % f := by simp
      have hml : p % f < f := Nat.mod_lt _ hf
      rw [← hm, gd_t ⟨by omega, by omega⟩]
      by_cases c2 : p % f = 0
      · rw [if_pos c2] at h
        cases h
        rw [if_pos (by omega)]; rfl
      · rw [if_neg c2] at h
        rw [if_neg (by omega)]
        exact W_ip k n (by omega) σ p (f + 1) b (by omega) (by omega) hp h
theorem W_product {F : Nat} {σ : St} {a b p : Int} (ha : 0 ≤ a ∧ a ≤ 2147483647) (hb : 0 ≤ b ∧ b ≤ 2147483647) (hp : 0 < p ∧ p ≤ 2147483647) : f_W_product F σ a b p = some (a * b % p, σ) := by
  unfold f_W_product
  have h := mulb ha.1 ha.2 hb.1 hb.2
  rw [gd_t ⟨by omega, by omega⟩, gd_t ⟨by omega, by omega⟩, gd_t ⟨by omega, by omega⟩, gd_t ⟨⟨by omega, by omega⟩, ⟨by omega, by omega⟩, by omega⟩, tmE h.1]
theorem M_cr {F : Nat} : ∀ j n, j ≤ n → ∀ (σ : St) (w m p v k : Nat) (b : Bool), gF σ 20 = (p : Nat) → 0 < p → p ≤ 2000 → w ≤ 2000 → m ≤ 100 → v ≤ 2000 → k + j ≤ 10000 → crN j w m p v k = some b → l_M_comesRound_5 F n σ (w : Nat) (m : Nat) (v : Nat) (k : Nat) = some (bi b, σ)
  | 0, _, _, _, _, _, _, _, _, _, _, _, _, _, _, _, _, h => by simp [crN] at h
  | j + 1, 0, hk, _, _, _, _, _, _, _, _, _, _, _, _, _, _, _ => by omega
  | j + 1, n + 1, hk, σ, w, m, p, v, k, b, hg, hp0, hp, hw, hm, hv, hkj, h => by
    simp only [l_M_comesRound_5, b_M_comesRound_5]
    have hb := mulb (a := (v : Int)) (b := (w : Int)) (A := 2000) (B := 2000) (by omega) (by omega) (by omega) (by omega)
    unfold crN at h
    rw [gd_t ⟨⟨by omega, by omega⟩, by omega, by omega⟩]
    by_cases c1 : m < k
    · rw [if_pos c1] at h
      cases h
      rw [if_pos (by omega)]; rfl
    · rw [if_neg c1] at h
      rw [if_neg (by omega), hg, gd_t ⟨⟨by omega, by omega⟩, ⟨by omega, by omega⟩, by omega⟩, tmE hb.1]
      have hmod : ((v * w % p : Nat) : Int) = (v : Int) * w % p := by simp
      have hml : v * w % p < p := Nat.mod_lt _ hp0
      rw [← hmod]
      show gd _ _ = _
      rw [gd_t ⟨⟨by omega, by omega⟩, by omega, by omega⟩]
      by_cases c2 : v * w % p = 1
      · rw [if_pos c2] at h
        cases h
        rw [if_pos (by omega), gd_t ⟨⟨by omega, by omega⟩, by omega, by omega⟩]
        by_cases c3 : k = m
        · subst c3; simp [bi]
        · rw [if_neg (by omega), show (k == m) = false by simp [c3]]; rfl
      · rw [if_neg c2] at h
        rw [if_neg (by omega)]
        exact M_cr j n (by omega) σ w m p (v * w % p) (k + 1) b hg hp0 hp hw hm (by omega) (by omega) h
theorem W_cr {F : Nat} : ∀ j n, j ≤ n → ∀ (σ : St) (w m p v k : Nat) (b : Bool), 0 < p → p ≤ 2000 → w ≤ 2000 → m ≤ 100 → v ≤ 2000 → k + j ≤ 10000 → cwN j w m p v k = some b → l_Lattice_comesRoundFirstAt_5 F n σ (w : Nat) (m : Nat) (p : Nat) (v : Nat) (k : Nat) = some (bi b, σ)
  | 0, _, _, _, _, _, _, _, _, _, _, _, _, _, _, _, h => by simp [cwN] at h
  | j + 1, 0, hk, _, _, _, _, _, _, _, _, _, _, _, _, _, _ => by omega
  | j + 1, n + 1, hk, σ, w, m, p, v, k, b, hp0, hp, hw, hm, hv, hkj, h => by
    simp only [l_Lattice_comesRoundFirstAt_5, b_Lattice_comesRoundFirstAt_5]
    unfold cwN at h
    rw [gd_t ⟨⟨by omega, by omega⟩, by omega, by omega⟩]
    by_cases c1 : m ≤ k
    · rw [if_pos c1] at h
      cases h
      rw [if_pos (by omega), gd_t ⟨⟨by omega, by omega⟩, by omega, by omega⟩]
      by_cases c3 : v = 1
      · subst c3; simp [bi]
      · rw [if_neg (by omega), show (v == 1) = false by simp [c3]]; rfl
    · rw [if_neg c1] at h
      rw [if_neg (by omega), gd_t ⟨⟨by omega, by omega⟩, by omega, by omega⟩]
      by_cases c2 : v = 1
      · rw [if_pos c2] at h
        cases h
        rw [if_pos (by omega)]; rfl
      · rw [if_neg c2] at h
        rw [if_neg (by omega), W_product ⟨by omega, by omega⟩ ⟨by omega, by omega⟩ ⟨by omega, by omega⟩, bnd_s]
        have hmod : ((v * w % p : Nat) : Int) = (v : Int) * w % p := by simp
        have hml : v * w % p < p := Nat.mod_lt _ hp0
        rw [← hmod]
        exact W_cr j n (by omega) σ w m p (v * w % p) (k + 1) b hp0 hp hw hm (by omega) (by omega) h
theorem half (e : Nat) : (e : Int) / 2 ^ (Int.toNat 1) = ((e / 2 : Nat) : Int) := by
  show (e : Int) / 2 ^ 1 = _
  omega
theorem M_iv {F : Nat} : ∀ j n, j ≤ n → ∀ (σ : St) (p v b e r : Nat), gF σ 20 = (p : Nat) → 0 < p → p ≤ 2000 → v ≤ 2000 → b ≤ 2000 → e ≤ 2000 → ivN j p v b e = some r → l_M_inverse_12 F n σ (v : Nat) (b : Nat) (e : Nat) = some ((r : Int), σ)
  | 0, _, _, _, _, _, _, _, _, _, _, _, _, _, _, h => by simp [ivN] at h
  | j + 1, 0, hk, _, _, _, _, _, _, _, _, _, _, _, _, _ => by omega
  | j + 1, n + 1, hk, σ, p, v, b, e, r, hg, hp0, hp, hv, hb, he, h => by
    simp only [l_M_inverse_12, b_M_inverse_12]
    have m1 := mulb (a := (v : Int)) (b := (b : Int)) (A := 2000) (B := 2000) (by omega) (by omega) (by omega) (by omega)
    have m2 := mulb (a := (b : Int)) (b := (b : Int)) (A := 2000) (B := 2000) (by omega) (by omega) (by omega) (by omega)
    have e1 : ((v * b % p : Nat) : Int) = (v : Int) * b % p := by simp
    have e2 : ((b * b % p : Nat) : Int) = (b : Int) * b % p := by simp
    have l1 : v * b % p < p := Nat.mod_lt _ hp0
    have l2 : b * b % p < p := Nat.mod_lt _ hp0
    unfold ivN at h
    rw [gd_t ⟨by omega, by omega⟩]
    by_cases c1 : e = 0
    · rw [if_pos c1] at h
      cases h
      rw [if_pos (by omega)]
    · rw [if_neg c1] at h
      rw [if_neg (by omega), iand1, gd_t ⟨⟨by omega, by omega⟩, by omega, by omega⟩, hg]
      by_cases c2 : e % 2 = 1
      · rw [if_pos c2] at h
        rw [if_pos (by omega), gd_t ⟨⟨by omega, by omega⟩, ⟨by omega, by omega⟩, by omega⟩, tmE m1.1, ← e1]
        show gd _ _ = _
        rw [gd_t ⟨⟨by omega, by omega⟩, ⟨by omega, by omega⟩, by omega⟩, tmE m2.1, ← e2]
        show gd _ _ = _
        rw [gd_t ⟨⟨by omega, by omega⟩, by omega, by omega⟩, half]
        exact M_iv j n (by omega) σ p (v * b % p) (b * b % p) (e / 2) r hg hp0 hp (by omega) (by omega) (by omega) h
      · rw [if_neg c2] at h
        rw [if_neg (by omega), gd_t ⟨⟨by omega, by omega⟩, ⟨by omega, by omega⟩, by omega⟩, tmE m2.1, ← e2]
        show gd _ _ = _
        rw [gd_t ⟨⟨by omega, by omega⟩, by omega, by omega⟩, half]
        exact M_iv j n (by omega) σ p v (b * b % p) (e / 2) r hg hp0 hp (by omega) (by omega) (by omega) h
theorem W_iv {F : Nat} : ∀ j n, j ≤ n → ∀ (σ : St) (p v b e r : Nat), 0 < p → p ≤ 2000 → v ≤ 2000 → b ≤ 2000 → e ≤ 2000 → ivN j p v b e = some r → l_W_inverse_9 F n σ (p : Nat) (v : Nat) (b : Nat) (e : Nat) = some ((r : Int), σ)
  | 0, _, _, _, _, _, _, _, _, _, _, _, _, _, h => by simp [ivN] at h
  | j + 1, 0, hk, _, _, _, _, _, _, _, _, _, _, _, _ => by omega
  | j + 1, n + 1, hk, σ, p, v, b, e, r, hp0, hp, hv, hb, he, h => by
    simp only [l_W_inverse_9, b_W_inverse_9]
    have e1 : ((v * b % p : Nat) : Int) = (v : Int) * b % p := by simp
    have e2 : ((b * b % p : Nat) : Int) = (b : Int) * b % p := by simp
    have l1 : v * b % p < p := Nat.mod_lt _ hp0
    have l2 : b * b % p < p := Nat.mod_lt _ hp0
    unfold ivN at h
    rw [gd_t ⟨by omega, by omega⟩]
    by_cases c1 : e = 0
    · rw [if_pos c1] at h
      cases h
      rw [if_pos (by omega)]
    · rw [if_neg c1] at h
      rw [if_neg (by omega), iand1, gd_t ⟨⟨by omega, by omega⟩, by omega, by omega⟩]
      by_cases c2 : e % 2 = 1
      · rw [if_pos c2] at h
        rw [if_pos (by omega), W_product ⟨by omega, by omega⟩ ⟨by omega, by omega⟩ ⟨by omega, by omega⟩, bnd_s, W_product ⟨by omega, by omega⟩ ⟨by omega, by omega⟩ ⟨by omega, by omega⟩, bnd_s, ← e1, ← e2]
        rw [gd_t ⟨⟨by omega, by omega⟩, by omega, by omega⟩, half]
        exact W_iv j n (by omega) σ p (v * b % p) (b * b % p) (e / 2) r hp0 hp (by omega) (by omega) (by omega) h
      · rw [if_neg c2] at h
        rw [if_neg (by omega), W_product ⟨by omega, by omega⟩ ⟨by omega, by omega⟩ ⟨by omega, by omega⟩, bnd_s, ← e2]
        rw [gd_t ⟨⟨by omega, by omega⟩, by omega, by omega⟩, half]
        exact W_iv j n (by omega) σ p v (b * b % p) (e / 2) r hp0 hp (by omega) (by omega) (by omega) h
/-- n is a number of directions -/
abbrev wayN (n : Int) : Prop := 2 ≤ n ∧ n ≤ 60
theorem PR_b {n : Int} (h : wayN n) : 1001 ≤ PR n ∧ PR n ≤ 1500 := by
  have := pr_all n.toNat (by omega) (by omega)
  unfold PR; omega
theorem INV_zero {p : Int} (h : 3 ≤ p ∧ p ≤ 2000) : ∃ r, ivN 14 p.toNat 1 0 (p.toNat - 2) = some r := by
  have hz : ∀ (j e v : Nat), e < 2 ^ j → ∃ r, ivN (j + 1) p.toNat v 0 e = some r := by
    intro j
    induction j with
    | zero => intro e v he; exact ⟨v, by unfold ivN; rw [if_pos (by omega)]⟩
    | succ j ih =>
      intro e v he
      unfold ivN
      by_cases c : e = 0
      · exact ⟨v, by rw [if_pos c]⟩
      · rw [if_neg c, show 0 * 0 % p.toNat = 0 by simp]
        exact ih _ _ (by rw [Nat.pow_succ] at he; omega)
  exact hz 13 _ _ (by omega)
theorem INV_some {n a : Int} (h : wayN n) (ha : 0 ≤ a ∧ a < PR n) : ∃ r : Nat, ivN 14 (PR n).toNat 1 a.toNat ((PR n).toNat - 2) = some r ∧ INV (PR n) a = r := by
  have hp := PR_b h
  by_cases c : a = 0
  · subst c
    obtain ⟨r, hr⟩ := INV_zero (p := PR n) (by omega)
    exact ⟨r, hr, by unfold INV; rw [show Int.toNat 0 = 0 from rfl, hr]; rfl⟩
  · have hq : (PR n).toNat = prN n.toNat := by unfold PR; omega
    obtain ⟨v, hv, -⟩ := iv_of (n := n.toNat) (by omega) (by omega) (a := a.toNat) (by omega) (by omega)
    rw [← hq] at hv
    exact ⟨v, hv, by unfold INV; rw [hv]; rfl⟩
theorem INV_mul {n a : Int} (h : wayN n) (ha : 0 < a ∧ a < PR n) : INV (PR n) a * a % PR n = 1 ∧ 0 ≤ INV (PR n) a ∧ INV (PR n) a < PR n := by
  have hp := PR_b h
  have hq : (PR n).toNat = prN n.toNat := by unfold PR; omega
  obtain ⟨v, hv, h1, h2⟩ := iv_of (n := n.toNat) (by omega) (by omega) (a := a.toNat) (by omega) (by omega)
  have e : INV (PR n) a = v := by unfold INV; rw [hq, hv]; rfl
  rw [e]
  refine ⟨?_, by omega, by unfold PR; omega⟩
  have h3 : ((v * a.toNat % prN n.toNat : Nat) : Int) = 1 := by rw [h1]; rfl
  have h4 : ((a.toNat : Nat) : Int) = a := by omega
  unfold PR
  rw [← h4]
  simpa using h3
theorem M_inverse {F : Nat} {σ : St} {n a : Int} (hF : 100 ≤ F) (hn : wayN n) (hg : gF σ 20 = PR n) (ha : 0 ≤ a ∧ a < PR n) : f_M_inverse F σ a = some (INV (PR n) a, σ) := by
  have hp := PR_b hn
  obtain ⟨r, h1, h2⟩ := INV_some hn ha
  unfold f_M_inverse
  have h := M_iv (F := F) 14 F (by omega) σ (PR n).toNat 1 a.toNat ((PR n).toNat - 2) r (by omega) (by omega) (by omega) (by omega) (by omega) (by omega) h1
  show l_M_inverse_12 F F σ 1 a (gF σ 20 - 2) = _
  rw [hg, h2, ← h]
  congr 1 <;> omega
theorem W_inverse {F : Nat} {σ : St} {n a : Int} (hF : 100 ≤ F) (hn : wayN n) (ha : 0 ≤ a ∧ a < PR n) : f_W_inverse F σ a (PR n) = some (INV (PR n) a, σ) := by
  have hp := PR_b hn
  obtain ⟨r, h1, h2⟩ := INV_some hn ha
  unfold f_W_inverse
  have h := W_iv (F := F) 14 F (by omega) σ (PR n).toNat 1 a.toNat ((PR n).toNat - 2) r (by omega) (by omega) (by omega) (by omega) (by omega) h1
  show l_W_inverse_9 F F σ (PR n) 1 a (PR n - 2) = _
  rw [h2, ← h]
  congr 1 <;> omega
