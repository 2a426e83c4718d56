/-! PURE PART, numbers: settle and spread -/
theorem mod1 {p n : Nat} (hp : 1 ≤ p) (hn : 2 ≤ n) : (p - 1) % n = 0 ↔ p % n = 1 := by
  constructor
  · intro h
    have : (p - 1 + 1) % n = ((p - 1) % n + 1 % n) % n := Nat.add_mod _ _ _
    rw [h, Nat.mod_eq_of_lt (show 1 < n by omega), Nat.zero_add, Nat.mod_eq_of_lt (show 1 < n by omega)] at this
    rw [show p - 1 + 1 = p by omega] at this
    exact this
  · intro h
    exact Nat.sub_mod_eq_zero_of_mod_eq (by rw [h, Nat.mod_eq_of_lt (show 1 < n by omega)])
theorem sF_id {σ : St} {k : Nat} {v : Int} (h : gF σ k = v) : sF σ k v = σ := by
  unfold sF
  refine Prod.ext ?_ rfl
  funext j
  by_cases c : j = k
  · subst c; simp only [if_true]; exact h.symm
  · simp only [if_neg c]
theorem M_s14 {F : Nat} (hF : 100 ≤ F) : ∀ j k, j ≤ k → ∀ (σ : St) (n p q : Nat), 2 ≤ n → n ≤ 60 → 1001 ≤ p → p + j ≤ 10000 → gF σ 20 = (p : Nat) → pfN j n p = some q → l_M_settle_14 F k σ (n : Nat) = l_M_settle_54 F F (sF (sF σ 20 (q : Nat)) 21 1) (n : Nat)
  | 0, _, _, _, _, _, _, _, _, _, _, _, h => by simp [pfN] at h
  | j + 1, 0, hk, _, _, _, _, _, _, _, _, _, _ => by omega
  | j + 1, k + 1, hk, σ, n, p, q, hn, hn2, hp1, hp, hg, h => by
    simp only [l_M_settle_14, b_M_settle_14]
    rw [hg, gd_t ⟨⟨by omega, by omega⟩, ⟨by omega, by omega⟩, by omega⟩, gd_t ⟨⟨by omega, by omega⟩, ⟨by omega, by omega⟩, by omega⟩, tmE (by omega), tmE (by omega)]
    have e1 : ((p % n : Nat) : Int) = (p : Int) % n := by simp
    have e2 : (1 : Int) % n = 1 := Int.emod_eq_of_lt (by omega) (by omega)
    have l1 : p % n < n := Nat.mod_lt _ (by omega)
    rw [← e1, e2, gd_t ⟨⟨by omega, by omega⟩, by omega, by omega⟩]
    have hm := mod1 (p := p) (n := n) (by omega) hn
    have again : pfN j n (p + 1) = some q → l_M_settle_14 F k (sF σ 20 ((p : Int) + 1)) (n : Nat) = l_M_settle_54 F F (sF (sF σ 20 (q : Nat)) 21 1) (n : Nat) := by
      intro h
      have := M_s14 hF j k (by omega) (sF σ 20 ((p : Int) + 1)) n (p + 1) q hn hn2 (by omega) (by omega) (by simp [gF, sF]) h
      rw [this, sF_sF]
    unfold pfN at h
    by_cases c1 : (p - 1) % n = 0
    · rw [if_pos c1] at h
      rw [if_pos (by have := hm.mp c1; omega)]
      by_cases c2 : ipN 60 p 2 = some true
      · rw [if_pos c2] at h
        have hq : p = q := Option.some.inj h
        subst hq
        have hi := M_ip (F := F) 60 F (by omega) σ p 2 true (by omega) (by omega) (by omega) c2
        unfold f_M_isPrime
        rw [show (2 : Int) = ((2 : Nat) : Int) from rfl, hi, bnd_s, gd_t (by decide)]
        rw [if_neg (by decide), sF_id hg]; rfl
      · rw [if_neg c2] at h
        by_cases c3 : ipN 60 p 2 = some false
        · rw [if_pos c3] at h
          have hi := M_ip (F := F) 60 F (by omega) σ p 2 false (by omega) (by omega) (by omega) c3
          unfold f_M_isPrime
          rw [show (2 : Int) = ((2 : Nat) : Int) from rfl, hi, bnd_s, gd_t (by decide), if_pos (by decide), hg]
          exact again h
        · rw [if_neg c3] at h; cases h
    · rw [if_neg c1] at h
      have c1' : ¬ p % n = 1 := fun z => c1 (hm.mpr z)
      rw [if_neg (by omega)]
      exact again h
theorem M_s54 {F : Nat} (hF : 100 ≤ F) : ∀ j k, j ≤ k → ∀ (σ : St) (n p w q : Nat), 2 ≤ n → n ≤ 60 → 1001 ≤ p → p ≤ 2000 → w + j ≤ 1500 → gF σ 20 = (p : Nat) → gF σ 21 = (w : Nat) → rmN j n p w = some q → l_M_settle_54 F k σ (n : Nat) = l_M_settle_81 F F (sF σ 21 (q : Nat)) (n : Nat) 0
  | 0, _, _, _, _, _, _, _, _, _, _, _, _, _, _, h => by simp [rmN] at h
  | j + 1, 0, hk, _, _, _, _, _, _, _, _, _, _, _, _, _ => by omega
  | j + 1, k + 1, hk, σ, n, p, w, q, hn, hn2, hp1, hp, hw, hg, hg2, h => by
    simp only [l_M_settle_54, b_M_settle_54]
    unfold rmN at h
    unfold f_M_comesRound
    have hc := fun b => M_cr (F := F) 62 F (by omega) σ w n p 1 1 b hg (by omega) hp (by omega) (by omega) (by omega) (by omega)
    by_cases c1 : crN 62 w n p 1 1 = some true
    · rw [if_pos c1] at h
      cases h
      have := hc true c1
      rw [show ((1 : Nat) : Int) = 1 from rfl] at this
      rw [hg2, this, bnd_s, gd_t (by decide), if_neg (by decide), sF_id hg2]
    · rw [if_neg c1] at h
      by_cases c2 : crN 62 w n p 1 1 = some false
      · rw [if_pos c2] at h
        have := hc false c2
        rw [show ((1 : Nat) : Int) = 1 from rfl] at this
        rw [hg2, this, bnd_s, gd_t (by decide), if_pos (by decide), hg2]
        have := M_s54 hF j k (by omega) (sF σ 21 ((w : Int) + 1)) n p (w + 1) q hn hn2 hp1 hp (by omega) (by simp [gF_sF, hg]) (by simp [gF_sF]) h
        rw [sF_sF] at this
        exact this
      · rw [if_neg c2] at h; cases h
theorem pw_lt {r p : Nat} (hp : 1 < p) (i : Nat) : pwN r p i < p := by
  cases i with
  | zero => exact hp
  | succ i => exact Nat.mod_lt _ (by omega)
theorem M_power {F : Nat} : ∀ d n, d < n → ∀ (σ : St) (r p i k : Nat), gF σ 20 = (p : Nat) → 1 < p → p ≤ 2000 → r ≤ 2000 → k + d = i → i ≤ 100 → l_M_power_5 F n σ (r : Nat) (i : Nat) ((pwN r p k : Nat) : Int) (k : Nat) = some (((pwN r p i : Nat) : Int), σ)
  | d, 0, hk, _, _, _, _, _, _, _, _, _, _, _ => by omega
  | d, n + 1, hk, σ, r, p, i, k, hg, hp0, hp, hr, hki, hi => by
    simp only [l_M_power_5, b_M_power_5]
    rw [gd_t ⟨⟨by omega, by omega⟩, by omega, by omega⟩]
    have hl := pw_lt (r := r) hp0 k
    match d, hki with
    | 0, hki =>
      rw [if_pos (by omega), show k = i by omega]
    | d + 1, hki =>
      have m1 := mulb (a := (pwN r p k : Int)) (b := (r : Int)) (A := 2000) (B := 2000) (by omega) (by omega) (by omega) (by omega)
      rw [if_neg (by omega), hg, gd_t ⟨⟨by omega, by omega⟩, ⟨by omega, by omega⟩, by omega⟩, tmE m1.1]
      have := M_power (F := F) d n (by omega) σ r p i (k + 1) hg hp0 hp hr (by omega) hi
      rw [← this, show pwN r p (k + 1) = pwN r p k * r % p from rfl]
      simp [bv]
theorem M_s81 {F : Nat} (hF : 101 ≤ F) : ∀ d k, d < k → ∀ (σ : St) (n p r i : Nat), n ≤ 60 → 1 < p → p ≤ 2000 → r ≤ 2000 → gF σ 20 = (p : Nat) → gF σ 21 = (r : Nat) → i + d = n → ∃ σ', l_M_settle_81 F k σ (n : Nat) (i : Nat) = some (0, σ') ∧ (∀ q, gF σ' q = gF σ q) ∧ (∀ a, a ≠ 6 → ∀ j, gA σ' a j = gA σ a j) ∧ ∀ j, gA σ' 6 j = if i ≤ j ∧ j < n then ((pwN r p j : Nat) : Int) else gA σ 6 j
  | d, 0, hk, _, _, _, _, _, _, _, _, _, _, _, _ => by omega
  | d, k + 1, hk, σ, n, p, r, i, hn, hp0, hp, hr, hg, hg2, hd => by
    simp only [l_M_settle_81, b_M_settle_81]
    rw [gd_t ⟨⟨by omega, by omega⟩, by omega, by omega⟩]
    match d, hd with
    | 0, hd =>
      rw [if_pos (by omega)]
      exact ⟨σ, rfl, fun _ => rfl, fun _ _ _ => rfl, fun j => by rw [if_neg (by omega)]⟩
    | d + 1, hd =>
      rw [if_neg (by omega)]
      unfold f_M_power
      have hw := M_power (F := F) i F (by omega) σ r p i 0 hg hp0 hp hr (by omega) (by omega)
      rw [show ((pwN r p 0 : Nat) : Int) = 1 from rfl, show ((0 : Nat) : Int) = 0 from rfl] at hw
      rw [hg2, hw, bnd_s, gd_t ⟨by omega, by omega⟩]
      obtain ⟨σ', h1, h2, h3, h4⟩ := M_s81 hF d k (by omega) (sA σ 6 i ((pwN r p i : Nat) : Int)) n p r (i + 1) hn hp0 hp hr (by rw [gF_sA]; exact hg) (by rw [gF_sA]; exact hg2) (by omega)
      refine ⟨σ', ?_, fun q => ?_, fun a ha j => ?_, fun j => ?_⟩
      · rw [← h1]
        show l_M_settle_81 F k (sA σ 6 (Int.toNat (i : Int)) _) _ ((i : Int) + 1) = _
        rfl
      · rw [h2, gF_sA]
      · rw [h3 a ha, gA_sA, if_neg (by omega)]
      · rw [h4]
        by_cases c : i + 1 ≤ j ∧ j < n
        · rw [if_pos c, if_pos (by omega)]
        · rw [if_neg c, gA_sA]
          by_cases c2 : j = i
          · subst c2
            rw [if_pos ⟨rfl, rfl⟩, if_pos (by omega)]
          · rw [if_neg (by omega), if_neg (by omega)]
theorem M_settle {F : Nat} {σ : St} {n : Int} (hF : 2000 ≤ F) (hn : wayN n) (hs : gA σ 2 0 = n) : ∃ σ', f_M_settle F σ = some (0, σ') ∧ gF σ' 20 = PR n ∧ gF σ' 21 = RT n ∧ (∀ i, i < n.toNat → gA σ' 6 i = PW n i) ∧ (∀ k, k ≠ 20 → k ≠ 21 → gF σ' k = gF σ k) ∧ ∀ a, a ≠ 6 → ∀ i, gA σ' a i = gA σ a i := by
  obtain ⟨m, rfl⟩ := Int.eq_ofNat_of_zero_le (show 0 ≤ n by omega)
  have hP := pr_all m (by omega) (by omega)
  have hR := rm_all m (by omega) (by omega)
  unfold f_M_settle
  rw [gd_t ⟨by decide, by decide⟩]
  show ∃ σ', l_M_settle_14 F F (sF σ 20 1001) (gA σ 2 0) = _ ∧ _
  rw [hs, M_s14 (by omega) 500 F (by omega) (sF σ 20 1001) m 1001 (prN m) (by omega) (by omega) (by omega) (by omega) rfl hP.1, sF_sF]
  rw [M_s54 (by omega) 1010 F (by omega) (sF (sF σ 20 ((prN m : Nat) : Int)) 21 1) m (prN m) 1 (rtN m) (by omega) (by omega) (by omega) (by omega) (by omega) (by simp [gF_sF]) (by simp [gF_sF]) hR.1, sF_sF]
  obtain ⟨σ', h1, h2, h3, h4⟩ := M_s81 (F := F) (by omega) m F (by omega) (sF (sF σ 20 ((prN m : Nat) : Int)) 21 ((rtN m : Nat) : Int)) m (prN m) (rtN m) 0 (by omega) (by omega) (by omega) (by omega) (by simp [gF_sF]) (by simp [gF_sF]) (by omega)
  refine ⟨σ', h1, ?_, ?_, fun i hi => ?_, fun k hk hk2 => ?_, fun a ha i => ?_⟩
  · rw [h2]; simp [gF_sF, PR]
  · rw [h2]; simp [gF_sF, RT]
  · rw [h4, if_pos (by omega)]; simp [PW]
  · rw [h2]; simp [gF_sF, hk, hk2]
  · rw [h3 a ha]; rfl
