/-! PURE PART: twins, enough -/
/-- the bits of what P says of e and on -/
def btS (P : Nat → Bool) : Nat → Nat → Nat → Nat
  | 0, _, acc => acc
  | d + 1, e, acc => btS P d (e + 1) (if P e then acc ||| 2 ^ e else acc)
theorem btS_congr {P Q : Nat → Bool} : ∀ d e acc, (∀ i, e ≤ i → i < e + d → P i = Q i) → btS P d e acc = btS Q d e acc
  | 0, _, _, _ => rfl
  | d + 1, e, acc, h => by
    rw [btS, btS, h e (by omega) (by omega), btS_congr d (e + 1) _ (fun i h1 h2 => h i (by omega) (by omega))]
theorem lor_pow {acc e : Nat} (ha : acc < 2 ^ 60) (he : e < 60) : lorI (acc : Int) (1 * 2 ^ e) = ((acc ||| 2 ^ e : Nat) : Int) ∧ acc ||| 2 ^ e < 2 ^ 60 := by
  have h1 : 2 ^ e < 2 ^ 60 := Nat.pow_lt_pow_right (by omega) he
  have h2 : acc ||| 2 ^ e < 2 ^ 60 := Nat.or_lt_two_pow ha h1
  have h3 : (1 : Int) * 2 ^ e = ((2 ^ e : Nat) : Int) := by simp
  rw [h3, lorN acc (2 ^ e) (by omega) (by omega)]
  exact ⟨rfl, h2⟩
theorem lor_0 {acc : Nat} (ha : acc < 2 ^ 60) : lorI (acc : Int) 0 = acc := by
  have := lorN acc 0 (by omega) (by omega)
  rw [Nat.or_zero] at this
  exact this
def tb (S k : Nat) : Bool := S / 2 ^ k % 2 == 1
/-- the wave of ap at hearer k's place -/
def twv (s : Nat → Int) (ap : Int) (k : Nat) : Int := wvS s ap (plS s k)
def atF (s : Nat → Int) (ap : Int) (S : Nat) : Nat → Nat → Int → Bool
  | 0, _, _ => true
  | d + 1, k, f => if tb S k then (if f < 0 then atF s ap S d (k + 1) (twv s ap k) else if twv s ap k = f then atF s ap S d (k + 1) (twv s ap k) else false) else atF s ap S d (k + 1) f
theorem atF_iff {s : Nat → Int} (hI : MI s) {ap : Int} {S : Nat} : ∀ d k f, atF s ap S d k f = true ↔ (∀ i j, k ≤ i → i < k + d → k ≤ j → j < k + d → tb S i = true → tb S j = true → twv s ap i = twv s ap j) ∧ (0 ≤ f → ∀ i, k ≤ i → i < k + d → tb S i = true → twv s ap i = f)
  | 0, k, f => ⟨fun _ => ⟨fun i j h1 h2 => by omega, fun _ i h1 h2 => by omega⟩, fun _ => rfl⟩
  | d + 1, k, f => by
    have hw : 0 ≤ twv s ap k := (wvS_b hI ap (plS s k)).1
    unfold atF
    by_cases c : tb S k = true
    · rw [if_pos c]
      by_cases c1 : f < 0
      · rw [if_pos c1, atF_iff hI d (k + 1)]
        constructor
        · rintro ⟨h1, h2⟩
          have h2 := h2 hw
          refine ⟨fun i j a1 a2 a3 a4 a5 a6 => ?_, fun h => by omega⟩
          by_cases e1 : i = k
          · by_cases e2 : j = k
            · rw [e1, e2]
            · rw [e1]; exact (h2 j (by omega) (by omega) a6).symm
          · by_cases e2 : j = k
            · rw [e2]; exact h2 i (by omega) (by omega) a5
            · exact h1 i j (by omega) (by omega) (by omega) (by omega) a5 a6
        · rintro ⟨h1, -⟩
          exact ⟨fun i j a1 a2 a3 a4 a5 a6 => h1 i j (by omega) (by omega) (by omega) (by omega) a5 a6, fun _ i a1 a2 a3 => h1 i k (by omega) (by omega) (by omega) (by omega) a3 c⟩
      · rw [if_neg c1]
        by_cases c2 : twv s ap k = f
        · rw [if_pos c2, atF_iff hI d (k + 1)]
          constructor
          · rintro ⟨h1, h2⟩
            have h2 := h2 hw
            have hall : ∀ i, k ≤ i → i < k + (d + 1) → tb S i = true → twv s ap i = f := fun i a1 a2 a3 => by
              by_cases e1 : i = k
              · rw [e1]; exact c2
              · exact (h2 i (by omega) (by omega) a3).trans c2
            exact ⟨fun i j a1 a2 a3 a4 a5 a6 => (hall i a1 a2 a5).trans (hall j a3 a4 a6).symm, fun _ => hall⟩
          · rintro ⟨h1, h2⟩
            exact ⟨fun i j a1 a2 a3 a4 a5 a6 => h1 i j (by omega) (by omega) (by omega) (by omega) a5 a6, fun _ i a1 a2 a3 => h1 i k (by omega) (by omega) (by omega) (by omega) a3 c⟩
        · rw [if_neg c2]
          refine ⟨fun h => by simp at h, fun h => absurd (h.2 (by omega) k (by omega) (by omega) c) c2⟩
    · rw [if_neg c, atF_iff hI d (k + 1)]
      constructor
      · rintro ⟨h1, h2⟩
        refine ⟨fun i j a1 a2 a3 a4 a5 a6 => ?_, fun hf i a1 a2 a3 => ?_⟩
        · have e1 : i ≠ k := by intro e; rw [e] at a5; exact c a5
          have e2 : j ≠ k := by intro e; rw [e] at a6; exact c a6
          exact h1 i j (by omega) (by omega) (by omega) (by omega) a5 a6
        · have e1 : i ≠ k := by intro e; rw [e] at a3; exact c a3
          exact h2 hf i (by omega) (by omega) a3
      · rintro ⟨h1, h2⟩
        exact ⟨fun i j a1 a2 a3 a4 a5 a6 => h1 i j (by omega) (by omega) (by omega) (by omega) a5 a6, fun hf i a1 a2 a3 => h2 hf i (by omega) (by omega) a3⟩
/-- whether all hearers of S hear ap alike -/
def atS (s : Nat → Int) (ap : Int) (S : Nat) : Bool := atF s ap S (s 1).toNat 0 (-1)
theorem twv_iff {s : Nat → Int} (hI : MI s) {ap : Int} {i j : Nat} : twv s ap i = twv s ap j ↔ s 0 ∣ ap * (plS s i - plS s j) := by
  have h0 := hI.1
  have hi := modb (a := ap * plS s i) (p := s 0) (by omega)
  have hj := modb (a := ap * plS s j) (p := s 0) (by omega)
  have e : ap * (plS s i - plS s j) = ap * plS s i - ap * plS s j := by grind
  rw [e, Int.dvd_iff_emod_eq_zero, ← Int.emod_eq_emod_iff_emod_sub_eq_zero]
  unfold twv wvS
  constructor
  · intro h
    have := PW_inj h0 (i := (ap * plS s i % s 0).toNat) (j := (ap * plS s j % s 0).toNat) (by omega) (by omega) h
    omega
  · intro h
    rw [h]
theorem atS_iff {s : Nat → Int} (hI : MI s) {ap : Int} {S : Nat} : atS s ap S = true ↔ ∀ i j : Nat, (i : Int) < s 1 → (j : Int) < s 1 → tb S i = true → tb S j = true → s 0 ∣ ap * (plS s i - plS s j) := by
  have i1 := hI.2.1
  unfold atS
  rw [atF_iff hI]
  constructor
  · rintro ⟨h, -⟩ i j a1 a2 a3 a4
    exact (twv_iff hI).mp (h i j (by omega) (by omega) (by omega) (by omega) a3 a4)
  · intro h
    exact ⟨fun i j a1 a2 a3 a4 a5 a6 => (twv_iff hI).mpr (h i j (by omega) (by omega) a5 a6), fun h => by omega⟩
def nhF (s : Nat → Int) (t : Int) : Nat → Nat → Bool
  | 0, _ => true
  | d + 1, h => if t * (plS s h - plS s 0) % s 0 = 0 then nhF s t d (h + 1) else false
def nhS (s : Nat → Int) (t : Int) : Bool := nhF s t ((s 1).toNat - 1) 1
theorem nhF_iff {s : Nat → Int} {t : Int} : ∀ d h, nhF s t d h = true ↔ ∀ k : Nat, h ≤ k → k < h + d → s 0 ∣ t * (plS s k - plS s 0)
  | 0, h => ⟨fun _ k h1 h2 => by omega, fun _ => rfl⟩
  | d + 1, h => by
    unfold nhF
    by_cases c : t * (plS s h - plS s 0) % s 0 = 0
    · rw [if_pos c, nhF_iff d (h + 1)]
      refine ⟨fun g k h1 h2 => ?_, fun g k h1 h2 => g k (by omega) (by omega)⟩
      by_cases e : k = h
      · rw [e]; exact Int.dvd_of_emod_eq_zero c
      · exact g k (by omega) (by omega)
    · rw [if_neg c]
      exact ⟨fun g => (by cases g), fun g => absurd (Int.emod_eq_zero_of_dvd (g h (by omega) (by omega))) c⟩
theorem dv_ap {n a t x : Int} (h : n ∣ a - t) : n ∣ a * x ↔ n ∣ t * x := by
  obtain ⟨k, hk⟩ := h
  constructor
  · rintro ⟨m, hm⟩
    exact ⟨m - k * x, by grind⟩
  · rintro ⟨m, hm⟩
    exact ⟨m + k * x, by grind⟩
theorem dv_abs {n t x : Int} : n ∣ iabs t * x ↔ n ∣ t * x := by
  unfold iabs
  split
  · exact Iff.rfl
  · constructor
    · rintro ⟨m, hm⟩
      exact ⟨-m, by grind⟩
    · rintro ⟨m, hm⟩
      exact ⟨-m, by grind⟩
theorem tb1023 : ∀ k, k < 10 → tb 1023 k = true := by decide
theorem twin_eq {s : Nat → Int} (hI : MI s) {d e : Int} (hd : 0 ≤ d ∧ d < s 0) (he : 0 ≤ e ∧ e < s 0) : nhS s (iabs (e - d)) = atS s ((e + s 0 - d) % s 0) 1023 := by
  have i1 := hI.2.1
  have h0 := hI.1
  have hm : s 0 ∣ (e + s 0 - d) % s 0 - (e - d) := by
    have := Int.emod_add_mul_ediv (e + s 0 - d) (s 0)
    exact ⟨1 - (e + s 0 - d) / s 0, by grind⟩
  rw [Bool.eq_iff_iff]
  unfold nhS
  rw [nhF_iff, atS_iff hI]
  constructor
  · intro h i j a1 a2 _ _
    rw [dv_ap hm]
    have key : ∀ k : Nat, (k : Int) < s 1 → s 0 ∣ (e - d) * (plS s k - plS s 0) := fun k hk => by
      by_cases c : k = 0
      · rw [c]; exact ⟨0, by simp⟩
      · rw [← dv_abs]; exact h k (by omega) (by omega)
    obtain ⟨x, hx⟩ := key i a1
    obtain ⟨y, hy⟩ := key j a2
    exact ⟨x - y, by grind⟩
  · intro h k h1 h2
    rw [dv_abs, ← dv_ap hm]
    exact h k 0 (by omega) (by omega) (tb1023 k (by omega)) (tb1023 0 (by omega))
section
variable {F : Nat} {σ : St} {s : Nat → Int}
theorem M_has {S k : Nat} (hS : S < 2147483648) (hk : k < 32) : f_M_has F σ (S : Nat) (k : Nat) = some (bi (tb S k), σ) := by
  have e : ((S : Int) / 2 ^ k) = ((S / 2 ^ k : Nat) : Int) := by simp
  have hle : S / 2 ^ k ≤ S := Nat.div_le_self _ _
  unfold f_M_has tb
  rw [gd_t (by omega), show Int.toNat ((k : Nat) : Int) = k by omega, e]
  show gd _ _ = _
  rw [iand1, gd_t (by omega)]
  by_cases c : S / 2 ^ k % 2 = 1
  · rw [if_pos (by omega), c]; rfl
  · rw [if_neg (by omega), show (S / 2 ^ k % 2 == 1) = false by simpa using c]; rfl
theorem M_at (hI : MI s) (hV : MV σ s) {ap : Int} (hap : 0 ≤ ap ∧ ap < s 0) {S : Nat} (hS : S < 1024) : ∀ (d n k : Nat) (f : Int), d < n → k + d = (s 1).toNat → (-1 ≤ f ∧ f ≤ 1500) → l_M_areTwins_25 F n σ (S : Nat) f ap (k : Nat) = some (bi (atF s ap S d k f), σ)
  | _, 0, _, _, h, _, _ => by omega
  | 0, n + 1, k, f, _, hd, hf => by
    have v1 := hV.1 1
    have i1 := hI.2.1
    simp only [l_M_areTwins_25, b_M_areTwins_25, bv, Int.reduceToNat]
    rw [gd_t (by decide), gd_t (by omega), if_pos (by omega)]; rfl
  | d + 1, n + 1, k, f, hn, hd, hf => by
    have v1 := hV.1 1
    have i0 := hI.1
    have i1 := hI.2.1
    have bi' := hI.2.2.2.2.2.2.1 k (by omega) (by omega)
    have hp := PR_b hI.1
    have hw : 0 ≤ twv s ap k ∧ twv s ap k < PR (s 0) := wvS_b hI ap (plS s k)
    simp only [l_M_areTwins_25, b_M_areTwins_25, bv, Int.reduceToNat]
    rw [gd_t (by decide), gd_t (by omega), if_neg (by omega), M_has (by omega) (by omega), bnd_s]
    unfold atF
    by_cases c : tb S k = true
    · rw [c, if_pos rfl, gd_t (by decide), if_neg (by decide), M_place hI hV (by omega), bnd_s, M_waveOf hI hV (by omega) bi'.1, bnd_s, gd_t (by omega)]
      by_cases c1 : f < 0
      · rw [if_pos c1, if_pos c1]
        exact M_at hI hV hap hS d n (k + 1) _ (by omega) (by omega) (by unfold twv at hw; omega)
      · rw [if_neg c1, if_neg c1, gd_t (by unfold twv at hw; omega)]
        by_cases c2 : twv s ap k = f
        · rw [if_pos c2]
          have c3 : wvS s ap (plS s k) = f := c2
          rw [if_pos c3]
          exact M_at hI hV hap hS d n (k + 1) _ (by omega) (by omega) (by unfold twv at hw; omega)
        · rw [if_neg c2]
          have c3 : ¬ wvS s ap (plS s k) = f := c2
          rw [if_neg c3]; rfl
    · have c' : tb S k = false := by simpa using c
      rw [c', gd_t (by decide), if_pos (by decide), if_neg (by decide)]
      exact M_at hI hV hap hS d n (k + 1) f (by omega) (by omega) hf
theorem M_areTwins (hF : 20 ≤ F) (hI : MI s) (hV : MV σ s) {d e : Int} (hd : 0 ≤ d ∧ d < s 0) (he : 0 ≤ e ∧ e < s 0) {S : Nat} (hS : S < 1024) : f_M_areTwins F σ d e (S : Nat) = some (bi (atS s ((e + s 0 - d) % s 0) S), σ) := by
  have i0 := hI.1
  have i1 := hI.2.1
  have v0 := hV.1 0
  have hm := modb (a := e + s 0 - d) (p := s 0) (by omega)
  unfold f_M_areTwins
  simp only [bv, Int.reduceToNat]
  rw [gd_t (by decide), gd_t (by decide), gd_t ⟨by omega, by omega, by omega⟩, tmE (by omega), v0]
  exact M_at (F := F) hI hV hm hS (s 1).toNat F 0 (-1) (by omega) (by omega) (by omega)
theorem W_nh (hI : MI s) (hV : WV σ s) {t : Int} (ht : 0 ≤ t ∧ t ≤ 60) : ∀ (d n h : Nat), d < n → 1 ≤ h → h + d = (s 1).toNat ∨ (d = 0 ∧ (s 1).toNat ≤ h ∧ h ≤ 20) → l_Scene_noHearerParts_scene0_2 F n σ t (h : Nat) = some (bi (nhF s t d h), σ)
  | _, 0, _, h, _, _ => by omega
  | 0, n + 1, h, _, _, hd => by
    have v1 := hV.2.1
    have i1 := hI.2.1
    simp only [l_Scene_noHearerParts_scene0_2, b_Scene_noHearerParts_scene0_2, bv]
    rw [gd_t (by omega), if_pos (by omega)]; rfl
  | d + 1, n + 1, h, hn, h1, hd => by
    have v1 := hV.2.1
    have v0 := hV.1.1
    have i0 := hI.1
    have i1 := hI.2.1
    have hh := hV.2.2.2.2.2.2.1 h (by omega) (by omega)
    have hz := hV.2.2.2.2.2.2.1 0 (by omega) (by omega)
    have bh := hI.2.2.2.2.2.2.1 h (by omega) (by omega)
    have bz := hI.2.2.2.2.2.2.1 0 (by omega) (by omega)
    have hm1 := mulb (a := t) (b := plS s h) (A := 60) (B := 99) (by omega) (by omega) (by omega) (by omega)
    have hm2 := mulb (a := t) (b := plS s 0) (A := 60) (B := 99) (by omega) (by omega) (by omega) (by omega)
    have he : t * (plS s h - plS s 0) = t * plS s h - t * plS s 0 := by grind
    have hr : -60 < Int.tmod (t * (plS s h - plS s 0)) (s 0) ∧ Int.tmod (t * (plS s h - plS s 0)) (s 0) < 60 := by
      have a1 := Int.tmod_lt_of_pos (t * (plS s h - plS s 0)) (show 0 < s 0 by omega)
      have a2 := Int.tmod_lt_of_pos (-(t * (plS s h - plS s 0))) (show 0 < s 0 by omega)
      rw [Int.neg_tmod] at a2
      omega
    simp only [l_Scene_noHearerParts_scene0_2, b_Scene_noHearerParts_scene0_2, bv, Int.reduceToNat]
    rw [gd_t (by omega), if_neg (by omega), gd_t (by omega), gd_t (by decide)]
    simp only [hh.1, show gA σ 55 0 = plS s 0 from hz.1, v0]
    rw [gd_t ⟨by omega, by omega, by omega⟩, gd_t (by omega)]
    unfold nhF
    by_cases c : t * (plS s h - plS s 0) % s 0 = 0
    · rw [if_pos c, if_pos (Int.tmod_eq_zero_of_dvd (Int.dvd_of_emod_eq_zero c))]
      exact W_nh hI hV ht d n (h + 1) (by omega) (by omega) (by omega)
    · rw [if_neg c, if_neg (fun z => c (Int.emod_eq_zero_of_dvd (Int.dvd_of_tmod_eq_zero z)))]; rfl
theorem W_noParts (hF : 100 ≤ F) (hI : MI s) (hV : WV σ s) {t : Int} (ht : 0 ≤ t ∧ t ≤ 60) : f_Scene_noHearerParts_scene0 F σ t = some (bi (nhS s t), σ) := by
  have i1 := hI.2.1
  exact W_nh (F := F) hI hV ht ((s 1).toNat - 1) F 1 (by omega) (by omega) (by omega)
def twP (s : Nat → Int) (d : Int) (e : Nat) : Bool := if (e : Int) = d then false else nhS s (iabs (e - d))
theorem iabs_b {x B : Int} (h : -B ≤ x ∧ x ≤ B) : 0 ≤ iabs x ∧ iabs x ≤ B := by
  unfold iabs
  split <;> omega
theorem W_tw (hF : 100 ≤ F) (hI : MI s) (hV : WV σ s) {d : Int} (hd : 0 ≤ d ∧ d < s 0) : ∀ (k n e acc : Nat), k < n → e + k = (s 0).toNat → acc < 2 ^ 60 → l_Scene_twinsOf_scene0_5 F n σ d (acc : Nat) (e : Nat) = some (((btS (twP s d) k e acc : Nat) : Int), σ)
  | _, 0, _, _, h, _, _ => by omega
  | 0, n + 1, e, acc, _, hk, ha => by
    have i0 := hI.1
    have v0 := hV.1.1
    simp only [l_Scene_twinsOf_scene0_5, b_Scene_twinsOf_scene0_5, bv]
    rw [gd_t (by omega), if_pos (by omega)]; rfl
  | k + 1, n + 1, e, acc, hn, hk, ha => by
    have i0 := hI.1
    have v0 := hV.1.1
    have hl := lor_pow ha (show e < 60 by omega)
    simp only [l_Scene_twinsOf_scene0_5, b_Scene_twinsOf_scene0_5, bv]
    rw [gd_t (by omega), if_neg (by omega), gd_t (by omega)]
    unfold btS
    by_cases c : (e : Int) = d
    · have hP : twP s d e = false := if_pos c
      rw [if_pos c, hP, if_neg (by decide)]
      exact W_tw hF hI hV hd k n (e + 1) acc (by omega) (by omega) ha
    · have hP : twP s d e = nhS s (iabs (e - d)) := if_neg c
      rw [if_neg c, hP, gd_t (by omega), W_noParts hF hI hV (iabs_b (by omega)), bnd_s]
      by_cases c2 : nhS s (iabs (e - d)) = true
      · rw [c2, if_pos rfl, gd_t (by decide), if_neg (by decide), gd_t (by omega), show Int.toNat ((e : Nat) : Int) = e by omega, hl.1]
        exact W_tw hF hI hV hd k n (e + 1) (acc ||| 2 ^ e) (by omega) (by omega) hl.2
      · have c3 : nhS s (iabs (e - d)) = false := by simpa using c2
        rw [c3, gd_t (by decide), if_pos (by decide), if_neg (by decide)]
        exact W_tw hF hI hV hd k n (e + 1) acc (by omega) (by omega) ha
theorem M_tw (hF : 100 ≤ F) (hI : MI s) (hV : MV σ s) {d : Int} (hd : 0 ≤ d ∧ d < s 0) : ∀ (k n e acc : Nat), k < n → e + k = (s 0).toNat → acc < 2 ^ 60 → l_M_twins_22 F n σ d (acc : Nat) (e : Nat) = some (((btS (twP s d) k e acc : Nat) : Int), σ)
  | _, 0, _, _, h, _, _ => by omega
  | 0, n + 1, e, acc, _, hk, ha => by
    have i0 := hI.1
    have v0 := hV.1 0
    simp only [l_M_twins_22, b_M_twins_22, bv, Int.reduceToNat]
    rw [gd_t (by decide), gd_t (by omega), if_pos (by omega)]; rfl
  | k + 1, n + 1, e, acc, hn, hk, ha => by
    have i0 := hI.1
    have v0 := hV.1 0
    have hl := lor_pow ha (show e < 60 by omega)
    simp only [l_M_twins_22, b_M_twins_22, bv, Int.reduceToNat]
    rw [gd_t (by decide), gd_t (by omega), if_neg (by omega), gd_t (by omega)]
    unfold btS
    by_cases c : (e : Int) = d
    · have hP : twP s d e = false := if_pos c
      rw [if_pos c, hP, if_neg (by decide), lor_0 ha]
      exact M_tw hF hI hV hd k n (e + 1) acc (by omega) (by omega) ha
    · have hP : twP s d e = nhS s (iabs (e - d)) := if_neg c
      have ht := M_areTwins (F := F) (by omega) hI hV hd (e := e) (by omega) (S := 1023) (by omega)
      rw [← twin_eq hI hd (by omega)] at ht
      rw [if_neg c, hP, show (1023 : Int) = ((1023 : Nat) : Int) from rfl, ht, bnd_s]
      by_cases c2 : nhS s (iabs (e - d)) = true
      · rw [c2, if_pos rfl, gd_t (by decide), if_neg (by decide), gd_t (by omega), show Int.toNat ((e : Nat) : Int) = e by omega, hl.1]
        exact M_tw hF hI hV hd k n (e + 1) (acc ||| 2 ^ e) (by omega) (by omega) hl.2
      · have c3 : nhS s (iabs (e - d)) = false := by simpa using c2
        rw [c3, gd_t (by decide), if_pos (by decide), if_neg (by decide), lor_0 ha]
        exact M_tw hF hI hV hd k n (e + 1) acc (by omega) (by omega) ha
end
section
variable {F : Nat}
theorem s_twins (hF : 100 ≤ F) : Sp_twins F RR := by
  intro x σ1 σ2 p0 hR h0
  obtain ⟨hI, hW, hV⟩ := RR_view hR
  have i0 := hI.1
  refine sp1 ?_
  have hz : RR x σ1 (sF σ2 0 0) := RR_fr hR WFr.rf (MFr.sF rfl MFr.rf)
  have hV0 := MV_0 (v := 0) hV
  unfold f_W_twins f_M_twins f_Scene_twinsOf_scene0
  by_cases c : 0 ≤ p0 ∧ p0 < svw σ2 0
  · refine ev_has' hW.1.1 (by omega) (fun _ => ?_) (fun h => absurd c h)
    refine ev_g (by decide) ?_
    rw [if_neg (by decide)]
    refine ev_be (W_tw hF hI hW c (svw σ2 0).toNat F 0 0 (by omega) (by omega) (by omega)) (ev_s (ev_bs ?_))
    refine ev_isWay' (hV0.1 0) (by omega) (fun _ => ?_) (fun h => absurd c h)
    refine ev_g (by decide) ?_
    rw [if_neg (by decide)]
    exact ev_e (M_tw hF hI hV0 c (svw σ2 0).toNat F 0 0 (by omega) (by omega) (by omega)) ⟨rfl, hz⟩
  · refine ev_has' hW.1.1 (by omega) (fun h => absurd h c) (fun _ => ?_)
    refine ev_g (by decide) ?_
    rw [if_pos rfl]
    refine ev_s (ev_bs ?_)
    refine ev_isWay' (hV0.1 0) (by omega) (fun h => absurd h c) (fun _ => ?_)
    refine ev_g (by decide) ?_
    rw [if_pos rfl]
    exact ev_s ⟨rfl, hz⟩
end
