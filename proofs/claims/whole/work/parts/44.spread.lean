/-! PURE PART, numbers: spread -/
theorem W_pf {F : Nat} (hF : 100 ≤ F) : ∀ j k, j ≤ k → ∀ (σ : St) (n p q : Nat), 2 ≤ n → n ≤ 60 → 1001 ≤ p → p + j ≤ 10000 → pfN j n p = some q → l_Lattice_primeFor_4 F k σ (n : Nat) (p : Nat) = some ((q : Int), σ)
  | 0, _, _, _, _, _, _, _, _, _, _, h => by simp [pfN] at h
  | j + 1, 0, hk, _, _, _, _, _, _, _, _, _ => by omega
  | j + 1, k + 1, hk, σ, n, p, q, hn, hn2, hp1, hp, h => by
    simp only [l_Lattice_primeFor_4, b_Lattice_primeFor_4]
    rw [gd_t ⟨⟨by omega, by omega⟩, by decide, by decide⟩, if_neg (by omega), gd_t ⟨⟨by omega, by omega⟩, ⟨by omega, by omega⟩, by omega⟩, tmE (by omega)]
    have e1 : (((p - 1) % n : Nat) : Int) = ((p : Int) - 1) % n := by simp [Int.natCast_sub (show 1 ≤ p by omega)]
    have l1 : (p - 1) % n < n := Nat.mod_lt _ (by omega)
    rw [← e1, gd_t ⟨by omega, by omega⟩]
    unfold pfN at h
    by_cases c1 : (p - 1) % n = 0
    · rw [if_pos c1] at h
      rw [if_pos (by omega)]
      by_cases c2 : ipN 60 p 2 = some true
      · rw [if_pos c2] at h
        have hq : p = q := Option.some.inj h
        subst hq
        have hi := W_ip (F := F) 60 F (by omega) σ p 2 true (by omega) (by omega) (by omega) c2
        unfold f_Lattice_isPrime
        rw [show (2 : Int) = ((2 : Nat) : Int) from rfl, hi, bnd_s, gd_t (by decide)]
        rw [if_neg (by decide)]
      · rw [if_neg c2] at h
        by_cases c3 : ipN 60 p 2 = some false
        · rw [if_pos c3] at h
          have hi := W_ip (F := F) 60 F (by omega) σ p 2 false (by omega) (by omega) (by omega) c3
          unfold f_Lattice_isPrime
          rw [show (2 : Int) = ((2 : Nat) : Int) from rfl, hi, bnd_s, gd_t (by decide), if_pos (by decide)]
          exact W_pf hF j k (by omega) σ n (p + 1) q hn hn2 (by omega) (by omega) h
        · rw [if_neg c3] at h; cases h
    · rw [if_neg c1] at h
      rw [if_neg (by omega)]
      exact W_pf hF j k (by omega) σ n (p + 1) q hn hn2 (by omega) (by omega) h
theorem W_rf {F : Nat} (hF : 100 ≤ F) : ∀ j k, j ≤ k → ∀ (σ : St) (n p w q : Nat), 2 ≤ n → n ≤ 60 → 1001 ≤ p → p ≤ 2000 → w + j ≤ 1500 → rwN j n p w = some q → l_Lattice_rootFor_2 F k σ (n : Nat) (p : Nat) (w : Nat) = some ((q : Int), σ)
  | 0, _, _, _, _, _, _, _, _, _, _, _, _, h => by simp [rwN] at h
  | j + 1, 0, hk, _, _, _, _, _, _, _, _, _, _, _ => by omega
  | j + 1, k + 1, hk, σ, n, p, w, q, hn, hn2, hp1, hp, hw, h => by
    simp only [l_Lattice_rootFor_2, b_Lattice_rootFor_2]
    unfold rwN at h
    unfold f_Lattice_comesRoundFirstAt
    by_cases c0 : p ≤ w
    · rw [if_pos c0] at h; cases h
    · rw [if_neg c0] at h
      rw [gd_t ⟨⟨by omega, by omega⟩, by omega, by omega⟩, if_neg (by omega)]
      have hc := fun b => W_cr (F := F) 62 F (by omega) σ w n p w 1 b (by omega) hp (by omega) (by omega) (by omega) (by omega)
      by_cases c1 : cwN 62 w n p w 1 = some true
      · rw [if_pos c1] at h
        have hq : w = q := Option.some.inj h
        subst hq
        have := hc true c1
        rw [show ((1 : Nat) : Int) = 1 from rfl] at this
        rw [this, bnd_s, gd_t (by decide), if_neg (by decide)]
      · rw [if_neg c1] at h
        by_cases c2 : cwN 62 w n p w 1 = some false
        · rw [if_pos c2] at h
          have := hc false c2
          rw [show ((1 : Nat) : Int) = 1 from rfl] at this
          rw [this, bnd_s, gd_t (by decide), if_pos (by decide)]
          exact W_rf hF j k (by omega) σ n p (w + 1) q hn hn2 hp1 hp (by omega) h
        · rw [if_neg c2] at h; cases h
theorem W_sp {F : Nat} : ∀ d k, d < k → ∀ (σ : St) (n p r i : Nat), n ≤ 60 → 1 < p → p ≤ 2000 → r ≤ 2000 → gF σ 1537 = (p : Nat) → gF σ 1538 = (r : Nat) → 1 ≤ i → i + d = n → gA σ 28 (i - 1) = ((pwN r p (i - 1) : Nat) : Int) → ∃ σ', l_Lattice_spread_lattice1_54 F k σ (n : Nat) (i : Nat) = some (0, σ') ∧ (∀ q, gF σ' q = gF σ q) ∧ (∀ a, a ≠ 28 → ∀ j, gA σ' a j = gA σ a j) ∧ ∀ j, gA σ' 28 j = if i ≤ j ∧ j < n then ((pwN r p j : Nat) : Int) else gA σ 28 j
  | d, 0, hk, _, _, _, _, _, _, _, _, _, _, _, _, _, _ => by omega
  | d, k + 1, hk, σ, n, p, r, i, hn, hp0, hp, hr, hg, hg2, hi, hd, hpw => by
    simp only [l_Lattice_spread_lattice1_54, b_Lattice_spread_lattice1_54]
    rw [gd_t ⟨⟨by omega, by omega⟩, by omega, by omega⟩]
    match d, hd with
    | 0, hd =>
      rw [if_pos (by omega)]
      exact ⟨σ, rfl, fun _ => rfl, fun _ _ _ => rfl, fun j => by rw [if_neg (by omega)]⟩
    | d + 1, hd =>
      have hl := pw_lt (r := r) hp0 (i - 1)
      have hpi : pwN r p (i - 1) * r % p = pwN r p i := by
        obtain ⟨i', rfl⟩ : ∃ i', i = i' + 1 := ⟨i - 1, by omega⟩
        rfl
      rw [if_neg (by omega), gd_t ⟨by omega, by omega⟩, show Int.toNat ((i : Int) - 1) = i - 1 by omega, hpw, hg, hg2, W_product ⟨by omega, by omega⟩ ⟨by omega, by omega⟩ ⟨by omega, by omega⟩, bnd_s, gd_t ⟨by omega, by omega⟩]
      have e : ((pwN r p i : Nat) : Int) = (pwN r p (i - 1) : Int) * r % p := by rw [← hpi]; simp
      rw [← e]
      obtain ⟨σ', h1, h2, h3, h4⟩ := W_sp (F := F) d k (by omega) (sA σ 28 i ((pwN r p i : Nat) : Int)) n p r (i + 1) hn hp0 hp hr (by rw [gF_sA]; exact hg) (by rw [gF_sA]; exact hg2) (by omega) (by omega) (by simp [gA_sA])
      refine ⟨σ', ?_, fun q => ?_, fun a ha j => ?_, fun j => ?_⟩
      · rw [← h1]
        show l_Lattice_spread_lattice1_54 F k (sA σ 28 (Int.toNat (i : Int)) _) _ ((i : Int) + 1) = _
        rfl
      · rw [h2, gF_sA]
      · rw [h3 a ha, gA_sA, if_neg (by omega)]
      · rw [h4]
        by_cases c : i + 1 ≤ j ∧ j < n
        · rw [if_pos c, if_pos (by omega)]
        · rw [if_neg c, gA_sA]
          by_cases c2 : j = i
          · subst c2
            rw [if_pos ⟨rfl, rfl⟩, if_pos (by omega)]
          · rw [if_neg (by omega), if_neg (by omega)]
/-- a lattice whose numbers are those of its directions: k = 0 now, 1 draft, 2 and 3 images -/
def LatW (σ : St) (k : Nat) (n : Int) : Prop := gF σ (1472 + 64 * k) = n ∧ gF σ (1473 + 64 * k) = PR n ∧ gF σ (1474 + 64 * k) = RT n ∧ ∀ i, i < n.toNat → gA σ (27 + k) i = PW n i
theorem W_spread {F : Nat} {σ : St} {n m : Int} (hF : 2000 ≤ F) (hn : wayN n) (hm : wayN m) (hL : LatW σ 1 m) : ∃ r σ', f_Lattice_spread_lattice1 F σ n = some (r, σ') ∧ LatW σ' 1 n ∧ (∀ k, k ≠ 1536 → k ≠ 1537 → k ≠ 1538 → gF σ' k = gF σ k) ∧ ∀ a, a ≠ 28 → ∀ i, gA σ' a i = gA σ a i := by
  obtain ⟨g1, g2, g3, g4⟩ := id hL
  unfold f_Lattice_spread_lattice1
  rw [show gF σ 1536 = m from g1, gd_t ⟨⟨by omega, by omega⟩, by omega, by omega⟩]
  by_cases c : n = m
  · subst c
    rw [if_pos rfl]
    exact ⟨0, σ, rfl, hL, fun _ _ _ _ => rfl, fun _ _ _ => rfl⟩
  rw [if_neg c, gd_t ⟨⟨by omega, by omega⟩, by decide⟩, if_neg (by omega), gd_t ⟨⟨by omega, by omega⟩, by decide⟩, if_pos hn.2]
  obtain ⟨m, rfl⟩ := Int.eq_ofNat_of_zero_le (show 0 ≤ n by omega)
  have hP := pr_all m (by omega) (by omega)
  have hR := rm_all m (by omega) (by omega)
  have hR2 := rw_all m (by omega) (by omega)
  show ∃ r σ', bnd (f_Lattice_primeFor F (sF σ 1536 (m : Nat)) (m : Nat)) _ = _ ∧ _
  unfold f_Lattice_primeFor
  rw [show (1001 : Int) = ((1001 : Nat) : Int) from rfl, W_pf (by omega) 500 F (by omega) _ m 1001 (prN m) (by omega) (by omega) (by omega) (by omega) hP.1, bnd_s]
  show ∃ r σ', bnd (f_Lattice_rootFor F (sF (sF σ 1536 (m : Nat)) 1537 ((prN m : Nat) : Int)) (m : Nat) ((prN m : Nat) : Int)) _ = _ ∧ _
  unfold f_Lattice_rootFor
  rw [show (2 : Int) = ((2 : Nat) : Int) from rfl, W_rf (by omega) 1010 F (by omega) _ m (prN m) 2 (rtN m) (by omega) (by omega) (by omega) (by omega) (by omega) hR2, bnd_s]
  show ∃ r σ', gd _ _ = _ ∧ _
  rw [gd_t ⟨by decide, by decide⟩]
  obtain ⟨σ', h1, h2, h3, h4⟩ := W_sp (F := F) (m - 1) F (by omega) (sA (sF (sF (sF σ 1536 (m : Nat)) 1537 ((prN m : Nat) : Int)) 1538 ((rtN m : Nat) : Int)) 28 0 1) m (prN m) (rtN m) 1 (by omega) (by omega) (by omega) (by omega) (by simp [gF_sA, gF_sF]) (by simp [gF_sA, gF_sF]) (by omega) (by omega) (by simp [gA_sA, pwN])
  refine ⟨0, σ', h1, ⟨?_, ?_, ?_, fun i hi => ?_⟩, fun k k1 k2 k3 => ?_, fun a ha i => ?_⟩
  · rw [h2]; simp [gF_sA, gF_sF]
  · rw [h2]; simp [gF_sA, gF_sF, PR]
  · rw [h2]; simp [gF_sA, gF_sF, RT]
  · show gA σ' 28 i = _
    rw [h4]
    by_cases c2 : i = 0
    · subst c2; simp [gA_sA, PW, pwN]
    · rw [if_pos (by omega)]; simp [PW]
  · rw [h2]; simp [gF_sA, gF_sF, k1, k2, k3]
  · rw [h3 a ha, gA_sA, if_neg (by omega)]; rfl
/-! the waves' own laws -/
theorem PW_b {n : Int} (h : wayN n) (i : Nat) : 0 ≤ PW n i ∧ PW n i < PR n := by
  have hP := pr_all n.toNat (by omega) (by omega)
  have := pw_lt (r := rtN n.toNat) (p := prN n.toNat) (by omega) i
  unfold PW PR
  omega
theorem pw_add (r p i j : Nat) : pwN r p (i + j) % p = pwN r p i * pwN r p j % p := by
  induction j with
  | zero => simp [pwN]
  | succ j ih =>
    show pwN r p (i + j) * r % p % p = pwN r p i * (pwN r p j * r % p) % p
    rw [Nat.mod_mod, Nat.mul_mod, ih, ← Nat.mul_mod, Nat.mul_mod (pwN r p i) (pwN r p j * r % p), Nat.mod_mod, ← Nat.mul_mod, Nat.mul_assoc]
theorem PW_add {n : Int} (h : wayN n) (i j : Nat) : PW n (i + j) = PW n i * PW n j % PR n := by
  have hP := pr_all n.toNat (by omega) (by omega)
  have h1 := pw_add (rtN n.toNat) (prN n.toNat) i j
  rw [Nat.mod_eq_of_lt (pw_lt (by omega) _)] at h1
  unfold PW PR
  rw [h1]; simp
theorem PW_0 {n : Int} : PW n 0 = 1 := rfl
theorem PW_n {n : Int} (h : wayN n) : PW n n.toNat = 1 := by
  unfold PW; rw [(pw_all n.toNat (by omega) (by omega)).1]; rfl
theorem PW_mod {n : Int} (h : wayN n) (i : Nat) : PW n (i % n.toNat) = PW n i := by
  have key : ∀ q r, PW n (r + q * n.toNat) = PW n r := by
    intro q
    induction q with
    | zero => intro r; simp
    | succ q ih =>
      intro r
      rw [show r + (q + 1) * n.toNat = (r + q * n.toNat) + n.toNat by rw [Nat.succ_mul]; omega, PW_add h, PW_n h, ih, Int.mul_one]
      exact Int.emod_eq_of_lt (PW_b h r).1 (PW_b h r).2
  have := key (i / n.toNat) (i % n.toNat)
  rw [← this]
  congr 1
  have := Nat.mod_add_div i n.toNat
  rw [Nat.mul_comm] at this
  exact this
theorem PW_one {n : Int} (h : wayN n) {i : Nat} (hi : i < n.toNat) (h1 : PW n i = 1) : i = 0 := by
  unfold PW at h1
  exact (pw_all n.toNat (by omega) (by omega)).2 i hi (by omega)
/-- what is 1 with one number is that number alone -/
theorem inv_uniq {p a b c : Int} (hb : 0 ≤ b ∧ b < p) (hc : 0 ≤ c ∧ c < p) (h1 : a * b % p = 1) (h2 : a * c % p = 1) (hp : 1 < p) : b = c := by
  have e : b * (a * c) % p = c * (a * b) % p := by
    congr 1
    rw [← Int.mul_assoc, Int.mul_comm b a, Int.mul_comm (a * b) c]
  rw [Int.mul_emod, h2, Int.mul_one, Int.emod_emod_of_dvd _ (Int.dvd_refl p), Int.emod_eq_of_lt hb.1 hb.2] at e
  rw [Int.mul_emod c, h1, Int.mul_one, Int.emod_emod_of_dvd _ (Int.dvd_refl p), Int.emod_eq_of_lt hc.1 hc.2] at e
  exact e
theorem PW_back {n : Int} (h : wayN n) {i : Nat} (hi : i ≤ n.toNat) : PW n i * PW n (n.toNat - i) % PR n = 1 := by
  rw [← PW_add h, show i + (n.toNat - i) = n.toNat by omega, PW_n h]
theorem PW_pos {n : Int} (h : wayN n) {i : Nat} (hi : i ≤ n.toNat) : 0 < PW n i := by
  have h1 := PW_back h hi
  have h2 := PW_b h i
  rcases Int.lt_or_eq_of_le h2.1 with h3 | h3
  · exact h3
  · rw [← h3] at h1; simp at h1
/-- unlike powers -/
theorem PW_inj {n : Int} (h : wayN n) {i j : Nat} (hi : i < n.toNat) (hj : j < n.toNat) (e : PW n i = PW n j) : i = j := by
  have h1 := PW_back h (Nat.le_of_lt hi)
  rw [e, ← PW_add h, ← PW_mod h] at h1
  have := PW_one h (Nat.mod_lt _ (by omega)) h1
  have hlt : j + (n.toNat - i) < 2 * n.toNat := by omega
  rcases Nat.lt_or_ge (j + (n.toNat - i)) n.toNat with c | c
  · rw [Nat.mod_eq_of_lt c] at this; omega
  · rw [Nat.mod_eq_sub_mod c, Nat.mod_eq_of_lt (by omega)] at this; omega
theorem INV_PW {n : Int} (h : wayN n) {i : Nat} (hi : i ≤ n.toNat) : INV (PR n) (PW n i) = PW n (n.toNat - i) := by
  have hp := PR_b h
  have h1 := INV_mul h ⟨PW_pos h hi, (PW_b h i).2⟩
  exact inv_uniq h1.2 (PW_b h _) (by rw [Int.mul_comm]; exact h1.1) (PW_back h hi) (by omega)
