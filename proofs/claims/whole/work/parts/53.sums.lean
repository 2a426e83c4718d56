/-! PURE PART: sums, readings, covers -/
def sumS (f : Nat → Int) : Nat → Int
  | 0 => 0
  | n + 1 => sumS f n + f n
theorem em_add {p a b c d : Int} (h : a % p = b % p) (g : c % p = d % p) : (a + c) % p = (b + d) % p := by rw [Int.add_emod, h, g, ← Int.add_emod]
theorem em_mul {p a b c d : Int} (h : a % p = b % p) (g : c % p = d % p) : (a * c) % p = (b * d) % p := by rw [Int.mul_emod, h, g, ← Int.mul_emod]
theorem em_mod {p a : Int} : a % p % p = a % p := Int.emod_emod_of_dvd a (Int.dvd_refl p)
theorem sumS_congr {f g : Nat → Int} : ∀ {n : Nat}, (∀ i, i < n → f i = g i) → sumS f n = sumS g n
  | 0, _ => rfl
  | n + 1, h => by rw [sumS, sumS, sumS_congr (fun i hi => h i (by omega)), h n (by omega)]
theorem sumS_em {p : Int} {f g : Nat → Int} : ∀ {n : Nat}, (∀ i, i < n → f i % p = g i % p) → sumS f n % p = sumS g n % p
  | 0, _ => rfl
  | n + 1, h => by rw [sumS, sumS]; exact em_add (sumS_em (fun i hi => h i (by omega))) (h n (by omega))
theorem sumS_zero {f : Nat → Int} : ∀ {n : Nat}, (∀ i, i < n → f i = 0) → sumS f n = 0
  | 0, _ => rfl
  | n + 1, h => by rw [sumS, sumS_zero (fun i hi => h i (by omega)), h n (by omega)]; rfl
def tS (s : Nat → Int) (pl : Int) (i : Nat) : Int := ldS s i * wvS s (dirS s i) pl
def tB (s : Nat → Int) (pl : Int) (i : Nat) : Int := ldS s i * wvS s (s 0 - dirS s i) pl
def rdS (s : Nat → Int) (a : Int) : Int := sumS (tS s (plS s a)) (s 2).toNat * gnS s a % PR (s 0)
def foF (s : Nat → Int) (f : Nat) (pl : Int) (i : Nat) : Int := if flS s i = f then tS s pl i else 0
def fbF (s : Nat → Int) (f : Nat) (pl : Int) (i : Nat) : Int := if flS s i = f then tB s pl i else 0
def cvF (s : Nat → Int) (pl pq : Int) (f : Nat) : Int := if flS s f = f then sumS (foF s f pl) (s 2).toNat * sumS (fbF s f pq) (s 2).toNat else 0
def cvS (s : Nat → Int) (pl pq : Int) : Int := sumS (cvF s pl pq) (s 2).toNat % PR (s 0)
def coverS (s : Nat → Int) (i j : Int) : Int := cvS s (plS s i) (plS s j) * gnS s i % PR (s 0) * gnS s j % PR (s 0)
section
variable {F : Nat} {σ : St} {s : Nat → Int}
theorem sn_facts (hI : MI s) {i : Nat} (hi : i < (s 2).toNat) : (0 ≤ (i : Int) ∧ (i : Int) < s 2) ∧ (0 ≤ ldS s i ∧ ldS s i ≤ 999) ∧ (0 ≤ dirS s i ∧ dirS s i < s 0) ∧ (0 ≤ flS s i ∧ flS s i ≤ i) ∧ (2 ≤ s 0 ∧ s 0 ≤ 60) ∧ (0 ≤ s 2 ∧ s 2 ≤ 6) ∧ (1001 ≤ PR (s 0) ∧ PR (s 0) ≤ 1500) := by
  have h8 := hI.2.2.2.2.2.2.2.2.1 i (by omega) (by omega)
  have hd := dirS_b hI i
  have hp := PR_b hI.1
  exact ⟨by omega, h8.2.1, hd, h8.2.2.2, hI.1, hI.2.2.1, hp⟩
theorem tS_b (hI : MI s) {i : Nat} (hi : i < (s 2).toNat) (pl : Int) : 0 ≤ tS s pl i ∧ tS s pl i ≤ 1500000 := by
  have h := sn_facts hI hi
  have hw := wvS_b hI (dirS s i) pl
  have := mulb (a := ldS s i) (b := wvS s (dirS s i) pl) (A := 999) (B := 1500) (by omega) (by omega) (by omega) (by omega)
  unfold tS
  omega
theorem tB_b (hI : MI s) {i : Nat} (hi : i < (s 2).toNat) (pl : Int) : 0 ≤ tB s pl i ∧ tB s pl i ≤ 1500000 := by
  have h := sn_facts hI hi
  have hw := wvS_b hI (s 0 - dirS s i) pl
  have := mulb (a := ldS s i) (b := wvS s (s 0 - dirS s i) pl) (A := 999) (B := 1500) (by omega) (by omega) (by omega) (by omega)
  unfold tB
  omega
theorem M_ld (hV : MV σ s) {i : Nat} : gA σ 2 (Int.toNat (26 + 4 * (i : Int) + 1)) = ldS s i := by
  rw [hV.1, show Int.toNat (26 + 4 * (i : Int) + 1) = 27 + 4 * (i : Int).toNat by omega]; rfl
theorem M_fl (hV : MV σ s) {i : Nat} : gA σ 2 (Int.toNat (26 + 4 * (i : Int) + 3)) = flS s i := by
  rw [hV.1, show Int.toNat (26 + 4 * (i : Int) + 3) = 29 + 4 * (i : Int).toNat by omega]; rfl
theorem M_rd (hI : MI s) (hV : MV σ s) {a : Int} (ha : 0 ≤ a ∧ a < s 1) : ∀ (d n i : Nat), d < n → i + d = (s 2).toNat → l_M_readingOf_4 F n σ a (sumS (tS s (plS s a)) i % PR (s 0)) (i : Nat) = some (rdS s a, σ)
  | _, 0, _, h, _ => by omega
  | 0, n + 1, i, _, hd => by
    have v2 := hV.1 2
    have i2 := hI.2.2.1
    have hp := PR_b hI.1
    have i1 := hI.2.1
    have hh := hI.2.2.2.2.2.2.1 a ha.1 ha.2
    have hm := modb (a := sumS (tS s (plS s a)) i) (p := PR (s 0)) (by omega)
    have hb := mulb (a := sumS (tS s (plS s a)) i % PR (s 0)) (b := gnS s a) (A := 1500) (B := 1500) (by omega) (by omega) (by omega) (by omega)
    simp only [l_M_readingOf_4, b_M_readingOf_4, bv, Int.reduceToNat]
    rw [gd_t (by decide), gd_t (by omega), if_pos (by omega), M_gain hI hV (by omega), bnd_s, hV.2.1, gd_t ⟨by omega, by omega, by omega⟩, tmE hb.1, show i = (s 2).toNat by omega]
    congr 2
    exact em_mul em_mod rfl
  | d + 1, n + 1, i, hn, hd => by
    have v2 := hV.1 2
    obtain ⟨h1, h2, h3, h4, h5, h6, h7⟩ := sn_facts hI (i := i) (by omega)
    have i1 := hI.2.1
    have hh := hI.2.2.2.2.2.2.1 a ha.1 ha.2
    have hm := modb (a := sumS (tS s (plS s a)) i) (p := PR (s 0)) (by omega)
    have ht := tS_b hI (i := i) (by omega) (plS s a)
    simp only [l_M_readingOf_4, b_M_readingOf_4, bv, Int.reduceToNat]
    rw [gd_t (by decide), gd_t (by omega), if_neg (by omega), gd_t (by omega), M_wayOf hI hV h1, bnd_s, M_place hI hV (by omega), bnd_s, M_waveOf hI hV (by omega) hh.1, bnd_s, M_ld hV, hV.2.1]
    have e : ldS s i * wvS s (dirS s i) (plS s a) = tS s (plS s a) i := rfl
    rw [e, gd_t ⟨by omega, by omega, by omega⟩, tmE (by omega)]
    have := M_rd hI hV ha d n (i + 1) (by omega) (by omega)
    rw [← this]
    congr 1
    rw [sumS]
    exact em_add em_mod rfl
theorem M_readingOf (hF : 10 ≤ F) (hI : MI s) (hV : MV σ s) {a : Int} (ha : 0 ≤ a ∧ a < s 1) : f_M_readingOf F σ a = some (rdS s a, σ) := by
  have i2 := hI.2.2.1
  have := M_rd (F := F) hI hV ha (s 2).toNat F 0 (by omega) (by omega)
  exact this
theorem W_rd (hI : MI s) (hV : WV σ s) {a : Int} (ha : 0 ≤ a ∧ a < s 1) : ∀ (d n i : Nat) (acc : Int), d < n → i + d = (s 2).toNat → acc % PR (s 0) = sumS (tS s (plS s a)) i % PR (s 0) → 0 ≤ acc ∧ acc ≤ 1500 * i → l_Scene_readingOf_scene0_4 F n σ a acc (i : Nat) = some (rdS s a, σ)
  | _, 0, _, _, h, _, _, _ => by omega
  | 0, n + 1, i, acc, _, hd, he, hb => by
    have v2 := hV.2.2.1
    have i2 := hI.2.2.1
    have hp := PR_b hI.1
    have i1 := hI.2.1
    have hh := hI.2.2.2.2.2.2.1 a ha.1 ha.2
    have hw := hV.2.2.2.2.2.2.1 a ha.1 ha.2
    simp only [l_Scene_readingOf_scene0_4, b_Scene_readingOf_scene0_4, bv]
    rw [gd_t (by omega), if_pos (by omega), gd_t (by omega), hw.2, hV.1.2.1, W_product (by omega) (by omega) (by omega), bnd_s]
    congr 2
    rw [Int.mul_comm]
    unfold rdS
    rw [← show i = (s 2).toNat by omega]
    exact em_mul he rfl
  | d + 1, n + 1, i, acc, hn, hd, he, hb => by
    have v2 := hV.2.2.1
    obtain ⟨h1, h2, h3, h4, h5, h6, h7⟩ := sn_facts hI (i := i) (by omega)
    have i1 := hI.2.1
    have hh := hI.2.2.2.2.2.2.1 a ha.1 ha.2
    have hw := hV.2.2.2.2.2.2.1 a ha.1 ha.2
    have hs := hV.2.2.2.2.2.2.2.1 i h1.1 h1.2
    have hwv := wvS_b hI (dirS s i) (plS s a)
    simp only [l_Scene_readingOf_scene0_4, b_Scene_readingOf_scene0_4, bv]
    rw [gd_t (by omega), if_neg (by omega), gd_t (by omega), W_dirOf hI hV h1, bnd_s, gd_t (by omega), hw.1, W_waveAt hI hV (by omega) hh.1, bnd_s, hs.2.1, hV.1.2.1, W_product (by omega) (by omega) (by omega), bnd_s]
    have hm := modb (a := ldS s i * wvS s (dirS s i) (plS s a)) (p := PR (s 0)) (by omega)
    exact W_rd hI hV ha d n (i + 1) _ (by omega) (by omega) (by rw [sumS]; exact em_add he em_mod) (by omega)
theorem W_readingOf (hF : 10 ≤ F) (hI : MI s) (hV : WV σ s) {a : Int} (ha : 0 ≤ a ∧ a < s 1) : f_Scene_readingOf_scene0 F σ a = some (rdS s a, σ) := by
  have i2 := hI.2.2.1
  exact W_rd (F := F) hI hV ha (s 2).toNat F 0 0 (by omega) (by omega) rfl (by omega)
/-! covers -/
theorem fo_b (hI : MI s) {i : Nat} (hi : i < (s 2).toNat) (f : Nat) (pl : Int) : 0 ≤ foF s f pl i ∧ foF s f pl i ≤ 1500000 := by
  have := tS_b hI hi pl
  unfold foF; split <;> omega
theorem M_cv (hI : MI s) (hV : MV σ s) {a b : Int} (ha : 0 ≤ a ∧ a < s 1) (hb : 0 ≤ b ∧ b < s 1) (k5 : St → Int → Int → Int → Int → Option (Int × St)) (x3 : Int) (hx3 : 0 ≤ x3 ∧ x3 < PR (s 0)) (f : Nat) (hf : f < (s 2).toNat) : ∀ (d n i : Nat), d < n → i + d = (s 2).toNat → l_M_coverOf_48 F k5 n σ a b x3 (f : Nat) (sumS (foF s f (plS s a)) i % PR (s 0)) (sumS (fbF s f (plS s b)) i % PR (s 0)) (i : Nat) = k5 σ a b ((x3 + (sumS (foF s f (plS s a)) (s 2).toNat % PR (s 0)) * (sumS (fbF s f (plS s b)) (s 2).toNat % PR (s 0))) % PR (s 0)) ((f : Int) + 1)
  | _, 0, _, h, _ => by omega
  | 0, n + 1, i, _, hd => by
    have v2 := hV.1 2
    have i2 := hI.2.2.1
    have hp := PR_b hI.1
    have hm := modb (a := sumS (foF s f (plS s a)) i) (p := PR (s 0)) (by omega)
    have hm2 := modb (a := sumS (fbF s f (plS s b)) i) (p := PR (s 0)) (by omega)
    have hq := mulb (a := sumS (foF s f (plS s a)) i % PR (s 0)) (b := sumS (fbF s f (plS s b)) i % PR (s 0)) (A := 1500) (B := 1500) (by omega) (by omega) (by omega) (by omega)
    simp only [l_M_coverOf_48, b_M_coverOf_48, bv, Int.reduceToNat]
    rw [gd_t (by decide), gd_t (by omega), if_pos (by omega), hV.2.1, gd_t ⟨by omega, by omega, by omega⟩, tmE (by omega), show i = (s 2).toNat by omega]
  | d + 1, n + 1, i, hn, hd => by
    have v2 := hV.1 2
    have v0 := hV.1 0
    obtain ⟨h1, h2, h3, h4, h5, h6, h7⟩ := sn_facts hI (i := i) (by omega)
    have i1 := hI.2.1
    have hha := hI.2.2.2.2.2.2.1 a ha.1 ha.2
    have hhb := hI.2.2.2.2.2.2.1 b hb.1 hb.2
    have hm := modb (a := sumS (foF s f (plS s a)) i) (p := PR (s 0)) (by omega)
    have hm2 := modb (a := sumS (fbF s f (plS s b)) i) (p := PR (s 0)) (by omega)
    have ht := tS_b hI (i := i) (by omega) (plS s a)
    have ht2 := tB_b hI (i := i) (by omega) (plS s b)
    have ih := M_cv hI hV ha hb k5 x3 hx3 f hf d n (i + 1) (by omega) (by omega)
    rw [sumS, sumS] at ih
    simp only [l_M_coverOf_48, b_M_coverOf_48, bv, Int.reduceToNat]
    rw [gd_t (by decide), gd_t (by omega), if_neg (by omega), gd_t (by omega), M_fl hV, gd_t (by omega)]
    by_cases c : flS s i = f
    · rw [if_pos c, M_wayOf hI hV h1, bnd_s, gd_t (by omega), M_place hI hV (by omega), bnd_s, M_waveOf hI hV (by omega) hha.1, bnd_s, M_ld hV, hV.2.1]
      have e : ldS s i * wvS s (dirS s i) (plS s a) = tS s (plS s a) i := rfl
      rw [e, gd_t ⟨by omega, by omega, by omega⟩, tmE (by omega), gd_t (by omega), gd_t (by decide), M_place hI hV (by omega), bnd_s, v0, M_waveOf hI hV (by omega) hhb.1, bnd_s, hV.2.1]
      have e2 : ldS s i * wvS s (s 0 - dirS s i) (plS s b) = tB s (plS s b) i := rfl
      rw [e2, gd_t ⟨by omega, by omega, by omega⟩, tmE (by omega)]
      rw [← ih]
      have e3 : foF s f (plS s a) i = tS s (plS s a) i := if_pos c
      have e4 : fbF s f (plS s b) i = tB s (plS s b) i := if_pos c
      rw [e3, e4]
      congr 1
      · exact em_add em_mod rfl
      · exact em_add em_mod rfl
    · rw [if_neg c]
      have e3 : foF s f (plS s a) i = 0 := if_neg c
      have e4 : fbF s f (plS s b) i = 0 := if_neg c
      rw [e3, e4, Int.add_zero, Int.add_zero] at ih
      exact ih
theorem fo_low (hI : MI s) {f : Nat} (hf : f < (s 2).toNat) (pl : Int) : sumS (foF s f pl) f = 0 ∧ sumS (fbF s f pl) f = 0 := by
  constructor <;> refine sumS_zero fun i hi => ?_
  · have := (sn_facts hI (i := i) (by omega)).2.2.2.1
    exact if_neg (by omega)
  · have := (sn_facts hI (i := i) (by omega)).2.2.2.1
    exact if_neg (by omega)
theorem M_co (hI : MI s) (hV : MV σ s) {a b : Int} (ha : 0 ≤ a ∧ a < s 1) (hb : 0 ≤ b ∧ b < s 1) (hF : 10 ≤ F) : ∀ (d n i : Nat), d < n → i + d = (s 2).toNat → l_M_coverOf_5 F n σ a b (sumS (cvF s (plS s a) (plS s b)) i % PR (s 0)) (i : Nat) = some (coverS s a b, σ)
  | _, 0, _, h, _ => by omega
  | 0, n + 1, i, _, hd => by
    have v2 := hV.1 2
    have i2 := hI.2.2.1
    have i1 := hI.2.1
    have hp := PR_b hI.1
    have hha := hI.2.2.2.2.2.2.1 a ha.1 ha.2
    have hhb := hI.2.2.2.2.2.2.1 b hb.1 hb.2
    have hm := modb (a := sumS (cvF s (plS s a) (plS s b)) i) (p := PR (s 0)) (by omega)
    have hq := mulb (a := sumS (cvF s (plS s a) (plS s b)) i % PR (s 0)) (b := gnS s a) (A := 1500) (B := 1500) (by omega) (by omega) (by omega) (by omega)
    have hm2 := modb (a := sumS (cvF s (plS s a) (plS s b)) i % PR (s 0) * gnS s a) (p := PR (s 0)) (by omega)
    have hq2 := mulb (a := sumS (cvF s (plS s a) (plS s b)) i % PR (s 0) * gnS s a % PR (s 0)) (b := gnS s b) (A := 1500) (B := 1500) (by omega) (by omega) (by omega) (by omega)
    simp only [l_M_coverOf_5, b_M_coverOf_5, bv, Int.reduceToNat]
    rw [gd_t (by decide), gd_t (by omega), if_pos (by omega), M_gain hI hV (by omega), bnd_s, hV.2.1, gd_t ⟨by omega, by omega, by omega⟩, tmE hq.1, M_gain hI hV (by omega), bnd_s, hV.2.1, gd_t ⟨by omega, by omega, by omega⟩, tmE hq2.1]
    unfold coverS cvS
    rw [show i = (s 2).toNat by omega]
  | d + 1, n + 1, i, hn, hd => by
    have v2 := hV.1 2
    obtain ⟨h1, h2, h3, h4, h5, h6, h7⟩ := sn_facts hI (i := i) (by omega)
    have hm := modb (a := sumS (cvF s (plS s a) (plS s b)) i) (p := PR (s 0)) (by omega)
    have ih := M_co hI hV ha hb hF d n (i + 1) (by omega) (by omega)
    rw [sumS] at ih
    simp only [l_M_coverOf_5, b_M_coverOf_5, bv, Int.reduceToNat]
    rw [gd_t (by decide), gd_t (by omega), if_neg (by omega), gd_t (by omega), M_fl hV, gd_t (by omega)]
    by_cases c : flS s i = i
    · rw [if_pos c]
      have hl := fo_low hI (f := i) (by omega) (plS s a)
      have hl2 := fo_low hI (f := i) (by omega) (plS s b)
      have hk := M_cv (F := F) hI hV ha hb (l_M_coverOf_5 F n) (sumS (cvF s (plS s a) (plS s b)) i % PR (s 0)) (by omega) i (by omega) (d + 1) F i (by omega) hd
      rw [hl.1, hl2.2, Int.zero_emod] at hk
      rw [hk, ← ih]
      have e3 : cvF s (plS s a) (plS s b) i = sumS (foF s i (plS s a)) (s 2).toNat * sumS (fbF s i (plS s b)) (s 2).toNat := if_pos c
      rw [e3]
      congr 1
      exact em_add em_mod (em_mul em_mod em_mod)
    · rw [if_neg c]
      have e3 : cvF s (plS s a) (plS s b) i = 0 := if_neg c
      rw [e3, Int.add_zero] at ih
      exact ih
theorem M_coverOf (hF : 10 ≤ F) (hI : MI s) (hV : MV σ s) {a b : Int} (ha : 0 ≤ a ∧ a < s 1) (hb : 0 ≤ b ∧ b < s 1) : f_M_coverOf F σ a b = some (coverS s a b, σ) := by
  have i2 := hI.2.2.1
  exact M_co (F := F) hI hV ha hb hF (s 2).toNat F 0 (by omega) (by omega)
theorem W_fc (hI : MI s) (hV : WV σ s) {pa pb : Int} (hpa : 0 ≤ pa ∧ pa ≤ 99) (hpb : 0 ≤ pb ∧ pb ≤ 99) (f : Nat) (hf : f < (s 2).toNat) : ∀ (d n i : Nat) (x4 x5 : Int), d < n → i + d = (s 2).toNat → x4 % PR (s 0) = sumS (foF s f pa) i % PR (s 0) → x5 % PR (s 0) = sumS (fbF s f pb) i % PR (s 0) → (0 ≤ x4 ∧ x4 ≤ 1500 * i) → (0 ≤ x5 ∧ x5 ≤ 1500 * i) → l_Scene_flockCover_scene0_9 F n σ (f : Nat) pa pb x4 x5 (i : Nat) = some (sumS (foF s f pa) (s 2).toNat * sumS (fbF s f pb) (s 2).toNat % PR (s 0), σ)
  | _, 0, _, _, _, h, _, _, _, _, _ => by omega
  | 0, n + 1, i, x4, x5, _, hd, he, he2, hb, hb2 => by
    have v2 := hV.2.2.1
    have i2 := hI.2.2.1
    have hp := PR_b hI.1
    simp only [l_Scene_flockCover_scene0_9, b_Scene_flockCover_scene0_9, bv]
    rw [gd_t (by omega), if_pos (by omega), hV.1.2.1, W_product (by omega) (by omega) (by omega), bnd_s, em_mul he he2, show i = (s 2).toNat by omega]
  | d + 1, n + 1, i, x4, x5, hn, hd, he, he2, hb, hb2 => by
    have v2 := hV.2.2.1
    obtain ⟨h1, h2, h3, h4, h5, h6, h7⟩ := sn_facts hI (i := i) (by omega)
    have hs := hV.2.2.2.2.2.2.2.1 i h1.1 h1.2
    have hwv := wvS_b hI (dirS s i) pa
    have hwv2 := wvS_b hI (s 0 - dirS s i) pb
    simp only [l_Scene_flockCover_scene0_9, b_Scene_flockCover_scene0_9, bv]
    rw [gd_t (by omega), if_neg (by omega), gd_t (by omega), hs.2.2.2, gd_t (by omega)]
    by_cases c : flS s i = f
    · have e3 : foF s f pa i = ldS s i * wvS s (dirS s i) pa := if_pos c
      have e4 : fbF s f pb i = ldS s i * wvS s (s 0 - dirS s i) pb := if_pos c
      have hm := modb (a := ldS s i * wvS s (dirS s i) pa) (p := PR (s 0)) (by omega)
      have hm2 := modb (a := ldS s i * wvS s (s 0 - dirS s i) pb) (p := PR (s 0)) (by omega)
      rw [if_pos c, W_dirOf hI hV h1, bnd_s, gd_t (by omega), W_waveAt hI hV (by omega) hpa, bnd_s, hs.2.1, hV.1.2.1, W_product (by omega) (by omega) (by omega), bnd_s, gd_t (by omega), W_waveBack hI hV (by omega) hpb, bnd_s, hs.2.1, hV.1.2.1, W_product (by omega) (by omega) (by omega), bnd_s]
      exact W_fc hI hV hpa hpb f hf d n (i + 1) _ _ (by omega) (by omega) (by rw [sumS, e3]; exact em_add he em_mod) (by rw [sumS, e4]; exact em_add he2 em_mod) (by omega) (by omega)
    · have e3 : foF s f pa i = 0 := if_neg c
      have e4 : fbF s f pb i = 0 := if_neg c
      rw [if_neg c]
      exact W_fc hI hV hpa hpb f hf d n (i + 1) _ _ (by omega) (by omega) (by rw [sumS, e3, Int.add_zero]; exact he) (by rw [sumS, e4, Int.add_zero]; exact he2) (by omega) (by omega)
theorem W_cg (hF : 10 ≤ F) (hI : MI s) (hV : WV σ s) {pa pb : Int} (hpa : 0 ≤ pa ∧ pa ≤ 99) (hpb : 0 ≤ pb ∧ pb ≤ 99) : ∀ (d n i : Nat) (x3 : Int), d < n → i + d = (s 2).toNat → x3 % PR (s 0) = sumS (cvF s pa pb) i % PR (s 0) → (0 ≤ x3 ∧ x3 ≤ 1500 * i) → l_Scene_coverWithoutGains_scene0_5 F n σ pa pb x3 (i : Nat) = some (cvS s pa pb, σ)
  | _, 0, _, _, h, _, _, _ => by omega
  | 0, n + 1, i, x3, _, hd, he, hb => by
    have v2 := hV.2.2.1
    have i2 := hI.2.2.1
    have hp := PR_b hI.1
    simp only [l_Scene_coverWithoutGains_scene0_5, b_Scene_coverWithoutGains_scene0_5, bv]
    rw [gd_t (by omega), if_pos (by omega), hV.1.2.1, gd_t ⟨by omega, by omega, by omega⟩, tmE hb.1, he, show i = (s 2).toNat by omega]
    rfl
  | d + 1, n + 1, i, x3, hn, hd, he, hb => by
    have v2 := hV.2.2.1
    obtain ⟨h1, h2, h3, h4, h5, h6, h7⟩ := sn_facts hI (i := i) (by omega)
    have hs := hV.2.2.2.2.2.2.2.1 i h1.1 h1.2
    simp only [l_Scene_coverWithoutGains_scene0_5, b_Scene_coverWithoutGains_scene0_5, bv]
    rw [gd_t (by omega), if_neg (by omega), gd_t (by omega), hs.2.2.2, gd_t (by omega)]
    by_cases c : flS s i = i
    · have hl := fo_low hI (f := i) (by omega) pa
      have hl2 := fo_low hI (f := i) (by omega) pb
      have hk := W_fc (F := F) hI hV hpa hpb i (by omega) (d + 1) F i 0 0 (by omega) hd (by rw [hl.1]) (by rw [hl2.2]) (by omega) (by omega)
      have e3 : cvF s pa pb i = sumS (foF s i pa) (s 2).toNat * sumS (fbF s i pb) (s 2).toNat := if_pos c
      have hm := modb (a := sumS (foF s i pa) (s 2).toNat * sumS (fbF s i pb) (s 2).toNat) (p := PR (s 0)) (by omega)
      rw [if_pos c]
      unfold f_Scene_flockCover_scene0
      rw [hk, bnd_s]
      exact W_cg hF hI hV hpa hpb d n (i + 1) _ (by omega) (by omega) (by rw [sumS, e3]; exact em_add he em_mod) (by omega)
    · have e3 : cvF s pa pb i = 0 := if_neg c
      rw [if_neg c]
      exact W_cg hF hI hV hpa hpb d n (i + 1) _ (by omega) (by omega) (by rw [sumS, e3, Int.add_zero]; exact he) (by omega)
theorem W_cover0 (hF : 10 ≤ F) (hI : MI s) (hV : WV σ s) {pa pb : Int} (hpa : 0 ≤ pa ∧ pa ≤ 99) (hpb : 0 ≤ pb ∧ pb ≤ 99) : f_Scene_coverWithoutGains_scene0 F σ pa pb = some (cvS s pa pb, σ) := by
  have i2 := hI.2.2.1
  exact W_cg (F := F) hF hI hV hpa hpb (s 2).toNat F 0 0 (by omega) (by omega) rfl (by omega)
theorem cvS_b (hI : MI s) (pa pb : Int) : 0 ≤ cvS s pa pb ∧ cvS s pa pb < PR (s 0) := modb (by have := PR_b hI.1; omega)
theorem coverS_b (hI : MI s) (a b : Int) : 0 ≤ coverS s a b ∧ coverS s a b < PR (s 0) := modb (by have := PR_b hI.1; omega)
theorem rdS_b (hI : MI s) (a : Int) : 0 ≤ rdS s a ∧ rdS s a < PR (s 0) := modb (by have := PR_b hI.1; omega)
theorem W_coverOf (hF : 10 ≤ F) (hI : MI s) (hV : WV σ s) {a b : Int} (ha : 0 ≤ a ∧ a < s 1) (hb : 0 ≤ b ∧ b < s 1) : f_Scene_coverOf_scene0 F σ a b = some (coverS s a b, σ) := by
  have i1 := hI.2.1
  have hp := PR_b hI.1
  have hha := hI.2.2.2.2.2.2.1 a ha.1 ha.2
  have hhb := hI.2.2.2.2.2.2.1 b hb.1 hb.2
  have hwa := hV.2.2.2.2.2.2.1 a ha.1 ha.2
  have hwb := hV.2.2.2.2.2.2.1 b hb.1 hb.2
  have hc := cvS_b hI (plS s a) (plS s b)
  have hm := modb (a := gnS s a * gnS s b) (p := PR (s 0)) (by omega)
  unfold f_Scene_coverOf_scene0
  rw [gd_t (by omega), gd_t (by omega), hwa.2, hwb.2, hV.1.2.1, W_product (by omega) (by omega) (by omega), bnd_s, gd_t (by omega), gd_t (by omega), hwa.1, hwb.1, W_cover0 hF hI hV hha.1 hhb.1, bnd_s, hV.1.2.1, W_product (by omega) (by omega) (by omega), bnd_s]
  congr 2
  unfold coverS
  rw [em_mul (a := gnS s a * gnS s b % PR (s 0)) (b := gnS s a * gnS s b) em_mod rfl, em_mul (a := cvS s (plS s a) (plS s b) * gnS s a % PR (s 0)) (b := cvS s (plS s a) (plS s b) * gnS s a) em_mod (rfl : gnS s b % _ = _)]
  congr 1
  grind
end
section
variable {F : Nat}
theorem s_reading (hF : 10 ≤ F) : Sp_reading F RR := by
  intro x σ1 σ2 p0 hR h0
  obtain ⟨hI, hW, hV⟩ := RR_view hR
  have i1 := hI.2.1
  refine sp1 ?_
  have hz : RR x σ1 (sF σ2 0 0) := RR_fr hR WFr.rf (MFr.sF rfl MFr.rf)
  have hV0 := MV_0 (v := 0) hV
  unfold f_W_reading f_M_reading
  by_cases c : 0 ≤ p0 ∧ p0 < svw σ2 1
  · repeat' (first | (exfalso; omega) | (refine ev_bs ?_; try simp (disch := decide) only [gF_eq, gF_ne, gF_sA, gA_sF, gA_ne, gA_eq, Int.reduceToNat]) | refine ev_bv ?_ | refine ev_g (by omega) ?_ | refine ev_hasH' hW.2.1 (by omega) (fun hc => ?_) (fun hc => ?_) | refine ev_isHearer' (hV0.1 1) (by omega) (fun hc => ?_) (fun hc => ?_) | refine ev_be (W_readingOf hF hI hW c) ?_ | refine ev_be (M_readingOf hF hI hV0 c) ?_ | (refine ev_s ?_; try dsimp only; try simp (disch := decide) only [gF_eq, gF_ne, gF_sA, gA_sF, gA_ne, gA_eq, Int.reduceToNat]) | refine ev_if (fun hc => ?_) (fun hc => ?_))
    all_goals exact ⟨rfl, hz⟩
  · repeat' (first | (exfalso; omega) | (refine ev_bs ?_; try simp (disch := decide) only [gF_eq, gF_ne, gF_sA, gA_sF, gA_ne, gA_eq, Int.reduceToNat]) | refine ev_bv ?_ | refine ev_g (by omega) ?_ | refine ev_hasH' hW.2.1 (by omega) (fun hc => ?_) (fun hc => ?_) | refine ev_isHearer' (hV0.1 1) (by omega) (fun hc => ?_) (fun hc => ?_) | (refine ev_s ?_; try dsimp only; try simp (disch := decide) only [gF_eq, gF_ne, gF_sA, gA_sF, gA_ne, gA_eq, Int.reduceToNat]) | refine ev_if (fun hc => ?_) (fun hc => ?_))
    all_goals exact ⟨rfl, hz⟩
theorem s_cover (hF : 10 ≤ F) : Sp_cover F RR := by
  intro x σ1 σ2 p0 p1 hR h0 h1
  obtain ⟨hI, hW, hV⟩ := RR_view hR
  have i1 := hI.2.1
  refine sp1 ?_
  have hz : RR x σ1 (sF σ2 0 0) := RR_fr hR WFr.rf (MFr.sF rfl MFr.rf)
  have hV0 := MV_0 (v := 0) hV
  unfold f_W_cover f_M_cover
  by_cases c : (0 ≤ p0 ∧ p0 < svw σ2 1) ∧ 0 ≤ p1 ∧ p1 < svw σ2 1
  · repeat' (first | (exfalso; omega) | (refine ev_bs ?_; try simp (disch := decide) only [gF_eq, gF_ne, gF_sA, gA_sF, gA_ne, gA_eq, Int.reduceToNat]) | refine ev_bv ?_ | refine ev_g (by omega) ?_ | refine ev_hasH' hW.2.1 (by omega) (fun hc => ?_) (fun hc => ?_) | refine ev_isHearer' (hV0.1 1) (by omega) (fun hc => ?_) (fun hc => ?_) | refine ev_be (W_coverOf hF hI hW c.1 c.2) ?_ | refine ev_be (M_coverOf hF hI hV0 c.1 c.2) ?_ | (refine ev_s ?_; try dsimp only; try simp (disch := decide) only [gF_eq, gF_ne, gF_sA, gA_sF, gA_ne, gA_eq, Int.reduceToNat]) | refine ev_if (fun hc => ?_) (fun hc => ?_))
    all_goals exact ⟨rfl, hz⟩
  · repeat' (first | (exfalso; omega) | (refine ev_bs ?_; try simp (disch := decide) only [gF_eq, gF_ne, gF_sA, gA_sF, gA_ne, gA_eq, Int.reduceToNat]) | refine ev_bv ?_ | refine ev_g (by omega) ?_ | refine ev_hasH' hW.2.1 (by omega) (fun hc => ?_) (fun hc => ?_) | refine ev_isHearer' (hV0.1 1) (by omega) (fun hc => ?_) (fun hc => ?_) | (refine ev_s ?_; try dsimp only; try simp (disch := decide) only [gF_eq, gF_ne, gF_sA, gA_sF, gA_ne, gA_eq, Int.reduceToNat]) | refine ev_if (fun hc => ?_) (fun hc => ?_))
    all_goals exact ⟨rfl, hz⟩
end
