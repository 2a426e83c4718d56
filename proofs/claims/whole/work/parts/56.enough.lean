/-! PURE PART: common measures, enough -/
section
variable {F : Nat} {σ : St}
theorem W_cm : ∀ (k n x y : Nat) (i : Nat), y < 2 ^ k → 2 * k + 1 < n → i + 2 * k + 1 ≤ 200 → x < 2 ^ 62 → y < 2 ^ 62 → l_W_commonMeasure_12 F n σ (x : Nat) (y : Nat) (i : Nat) = some (((Nat.gcd x y : Nat) : Int), σ)
  | _, 0, _, _, _, _, h, _, _, _ => by omega
  | 0, n + 1, x, y, i, hy, hn, hi, hx, hy2 => by
    simp only [l_W_commonMeasure_12, b_W_commonMeasure_12, bv]
    have : y = 0 := by simpa using hy
    subst this
    rw [gd_t (by omega), if_neg (by omega), gd_t (by omega), if_pos (by omega), Nat.gcd_zero_right]
  | k + 1, n + 1, x, y, i, hy, hn, hi, hx, hy2 => by
    simp only [l_W_commonMeasure_12, b_W_commonMeasure_12, bv]
    rw [gd_t (by omega), if_neg (by omega), gd_t (by omega)]
    by_cases c : y = 0
    · subst c
      rw [if_pos (by omega), Nat.gcd_zero_right]
    · have e : Int.tmod (x : Int) y = ((x % y : Nat) : Int) := by rw [tmE (by omega)]; simp
      have hl : x % y < y := Nat.mod_lt _ (by omega)
      rw [if_neg (by omega), gd_t ⟨by omega, by omega, by omega⟩, e]
      rw [show Nat.gcd x y = Nat.gcd y (x % y) by rw [Nat.gcd_comm x y, Nat.gcd_rec y x, Nat.gcd_comm]]
      match n, hn with
      | 0, hn => omega
      | n + 1, hn =>
        simp only [l_W_commonMeasure_12, b_W_commonMeasure_12, bv]
        rw [gd_t (by omega), if_neg (by omega), gd_t (by omega)]
        by_cases c2 : x % y = 0
        · rw [c2, if_pos (by omega), Nat.gcd_zero_right]
        · have e2 : Int.tmod (y : Int) ((x % y : Nat) : Int) = ((y % (x % y) : Nat) : Int) := by rw [tmE (by omega)]; simp
          have hl2 : y % (x % y) < x % y := Nat.mod_lt _ (by omega)
          have hh : 2 * (y % (x % y)) < y := by
            have hdm := Nat.div_add_mod y (x % y)
            have hq : 1 ≤ y / (x % y) := (Nat.le_div_iff_mul_le (by omega)).mpr (by omega)
            have := Nat.mul_le_mul_left (x % y) hq
            omega
          rw [if_neg (by omega), gd_t ⟨by omega, by omega, by omega⟩, e2]
          rw [show Nat.gcd y (x % y) = Nat.gcd (x % y) (y % (x % y)) by rw [Nat.gcd_comm y (x % y), Nat.gcd_rec (x % y) y, Nat.gcd_comm]]
          exact W_cm k n (x % y) (y % (x % y)) (i + 1 + 1) (by rw [Nat.pow_succ] at hy; omega) (by omega) (by omega) (by omega) (by omega)
theorem labs_n (a : Int) : labs a = (a.natAbs : Nat) := by
  unfold labs
  split <;> omega
theorem W_common (hF : 200 ≤ F) {a : Int} {b : Nat} (ha : a.natAbs < 2 ^ 62) (hb : b < 2 ^ 62) : f_W_commonMeasure F σ a (b : Nat) = some (((Nat.gcd a.natAbs b : Nat) : Int), σ) := by
  unfold f_W_commonMeasure
  simp only [bv]
  rw [gd_t (by omega), labs_n]
  exact W_cm (F := F) 62 F a.natAbs b 0 hb (by omega) (by omega) ha hb
end
def gcF (s : Nat → Int) (S f : Nat) : Nat → Nat → Nat → Nat
  | 0, _, m => m
  | d + 1, h, m => gcF s S f d (h + 1) (if tb S h then Nat.gcd (plS s h - plS s f).natAbs m else m)
theorem gcF_iff {s : Nat → Int} {S f n e : Nat} : ∀ d h m, n ∣ e * gcF s S f d h m ↔ n ∣ e * m ∧ ∀ k, h ≤ k → k < h + d → tb S k = true → n ∣ e * (plS s k - plS s f).natAbs
  | 0, h, m => ⟨fun g => ⟨g, fun k h1 h2 => by omega⟩, fun g => g.1⟩
  | d + 1, h, m => by
    rw [gcF, gcF_iff d (h + 1)]
    by_cases c : tb S h = true
    · rw [if_pos c]
      have key : n ∣ e * Nat.gcd (plS s h - plS s f).natAbs m ↔ n ∣ e * (plS s h - plS s f).natAbs ∧ n ∣ e * m := by
        constructor
        · intro g
          exact ⟨Nat.dvd_trans g (Nat.mul_dvd_mul_left e (Nat.gcd_dvd_left _ _)), Nat.dvd_trans g (Nat.mul_dvd_mul_left e (Nat.gcd_dvd_right _ _))⟩
        · rintro ⟨g1, g2⟩
          rw [← Nat.gcd_mul_left]
          exact Nat.dvd_gcd g1 g2
      rw [key]
      constructor
      · rintro ⟨⟨g1, g2⟩, g3⟩
        refine ⟨g2, fun k h1 h2 h3 => ?_⟩
        by_cases q : k = h
        · rw [q]; exact g1
        · exact g3 k (by omega) (by omega) h3
      · rintro ⟨g1, g2⟩
        exact ⟨⟨g2 h (by omega) (by omega) c, g1⟩, fun k h1 h2 h3 => g2 k (by omega) (by omega) h3⟩
    · rw [if_neg c]
      constructor
      · rintro ⟨g1, g2⟩
        refine ⟨g1, fun k h1 h2 h3 => ?_⟩
        by_cases q : k = h
        · rw [q] at h3; exact absurd h3 c
        · exact g2 k (by omega) (by omega) h3
      · rintro ⟨g1, g2⟩
        exact ⟨g1, fun k h1 h2 h3 => g2 k (by omega) (by omega) h3⟩
theorem gcF_dvd {s : Nat → Int} {S f : Nat} : ∀ d h m, gcF s S f d h m ∣ m
  | 0, h, m => Nat.dvd_refl m
  | d + 1, h, m => by
    rw [gcF]
    refine Nat.dvd_trans (gcF_dvd d (h + 1) _) ?_
    split
    · exact Nat.gcd_dvd_right _ _
    · exact Nat.dvd_refl m
def pcN : Nat → Nat → Nat
  | 0, _ => 0
  | k + 1, x => x % 2 + pcN k (x / 2)
def pc (x : Nat) : Nat := pcN 10 x
def tzN : Nat → Nat → Nat
  | 0, x => if x % 2 = 1 then 0 else 32
  | k + 1, x => if x % 2 = 1 then 0 else tzN k (x / 2) + 1
def tz (x : Nat) : Nat := if x = 0 then 32 else tzN 10 x
theorem tz_all : ∀ x, x < 1024 → x ≠ 0 → tb x (tz x) = true ∧ tz x < 10 ∧ ∀ i, i < tz x → tb x i = false := by decide +kernel
def bcE (x : Nat) : Int := ((f_JI_bitCount 0 σz (x : Int)).getD (0, σz)).1
def ntE (x : Nat) : Int := ((f_JI_numberOfTrailingZeros 0 σz (x : Int)).getD (0, σz)).1
theorem bc_all : ∀ x, x < 1024 → bcE x = (pc x : Int) ∧ (f_JI_bitCount 0 σz (x : Int)).isSome = true := by decide +kernel
theorem nt_all : ∀ x, x < 1024 → ntE x = (tz x : Int) ∧ (f_JI_numberOfTrailingZeros 0 σz (x : Int)).isSome = true := by decide +kernel
theorem gd_map {g : Prop} [Decidable g] {o : Option (Int × St)} {f : Int × St → Int × St} : (gd g o).map f = gd g (o.map f) := by
  unfold gd
  split <;> rfl
theorem bc_any {F : Nat} {σ : St} (x : Int) : f_JI_bitCount F σ x = (f_JI_bitCount 0 σz x).map (fun z => (z.1, σ)) := by
  unfold f_JI_bitCount
  simp only [bv, gd_map, Option.map_some]
theorem nt_any {F : Nat} {σ : St} (x : Int) : f_JI_numberOfTrailingZeros F σ x = (f_JI_numberOfTrailingZeros 0 σz x).map (fun z => (z.1, σ)) := by
  unfold f_JI_numberOfTrailingZeros
  simp only [bv, gd_map, apply_ite (Option.map _), Option.map_some]
theorem JI_bc {F : Nat} {σ : St} {x : Nat} (hx : x < 1024) : f_JI_bitCount F σ (x : Nat) = some ((pc x : Int), σ) := by
  have h := bc_all x hx
  rw [bc_any]
  unfold bcE at h
  cases e : f_JI_bitCount 0 σz (x : Int) with
  | none => rw [e] at h; simp at h
  | some z => rw [e] at h; simp at h; rw [Option.map_some, h]
theorem JI_nt {F : Nat} {σ : St} {x : Nat} (hx : x < 1024) : f_JI_numberOfTrailingZeros F σ (x : Nat) = some ((tz x : Int), σ) := by
  have h := nt_all x hx
  rw [nt_any]
  unfold ntE at h
  cases e : f_JI_numberOfTrailingZeros 0 σz (x : Int) with
  | none => rw [e] at h; simp at h
  | some z => rw [e] at h; simp at h; rw [Option.map_some, h]
theorem clr_all : ∀ x, x < 1024 → x ≠ 0 → x &&& (x - 1) < x ∧ pc x = pc (x &&& (x - 1)) + 1 := by decide +kernel
theorem pc_b : ∀ x, x < 1024 → pc x ≤ 10 := by decide +kernel
section
variable {F : Nat} {σ : St} {s : Nat → Int}
theorem M_bits_l : ∀ (k n x : Nat) (acc : Int), pc x = k → x < 1024 → k < n → l_M_bits_4 F n σ acc (x : Nat) = some (acc + (k : Int), σ)
  | _, 0, _, _, _, _, h => by omega
  | k, n + 1, x, acc, hk, hx, hn => by
    simp only [l_M_bits_4, b_M_bits_4, bv]
    rw [gd_t (by omega)]
    by_cases c : x = 0
    · subst c
      have : k = 0 := by rw [← hk]; rfl
      rw [if_pos (by omega), this]; simp
    · have h := clr_all x hx c
      have e : iandI (x : Int) ((x : Int) - 1) = ((x &&& (x - 1) : Nat) : Int) := by
        rw [show (x : Int) - 1 = ((x - 1 : Nat) : Int) by omega]
        exact iandN x (x - 1) (by omega) (by omega)
      rw [if_neg (by omega), e]
      match k, hk, hn with
      | 0, hk, _ => omega
      | k + 1, hk, hn =>
        rw [M_bits_l k n (x &&& (x - 1)) (acc + 1) (by omega) (by omega) (by omega)]
        congr 2
        omega
theorem M_bits (hF : 20 ≤ F) {x : Nat} (hx : x < 1024) : f_M_bits F σ (x : Nat) = some ((pc x : Int), σ) := by
  have h := M_bits_l (F := F) (σ := σ) (pc x) F x 0 rfl hx (by have := pc_b x hx; omega)
  rw [Int.zero_add] at h
  exact h
theorem W_parts (hF : 200 ≤ F) (hI : MI s) (hV : WV σ s) {S f : Nat} (hS : S < 1024) (hf : (f : Int) < s 1 ∨ (s 1).toNat ≤ f) : ∀ (d n h m : Nat), d < n → (h + d = (s 1).toNat ∧ (f : Int) < s 1) ∨ (d = 0 ∧ (s 1).toNat ≤ h ∧ h ≤ 40) → (0 < m ∧ m ≤ 60) → l_Scene_partsAll_scene0_19 F n σ (S : Nat) (f : Nat) (m : Nat) (h : Nat) = some (bi (gcF s S f d h m == 1), σ)
  | _, 0, _, _, h, _, _ => by omega
  | 0, n + 1, h, m, _, hd, hm => by
    have v1 := hV.2.1
    have i1 := hI.2.1
    simp only [l_Scene_partsAll_scene0_19, b_Scene_partsAll_scene0_19, bv]
    rw [gd_t (by omega), if_pos (by omega), gd_t (by omega)]
    by_cases c : m = 1
    · subst c; rfl
    · rw [if_neg (by omega), show gcF s S f 0 h m = m from rfl, show (m == 1) = false by simpa using c]; rfl
  | d + 1, n + 1, h, m, hn, hd, hm => by
    have v1 := hV.2.1
    have i1 := hI.2.1
    have hh := hV.2.2.2.2.2.2.1 h (by omega) (by omega)
    have hff := hV.2.2.2.2.2.2.1 f (by omega) (by omega)
    have bh := hI.2.2.2.2.2.2.1 h (by omega) (by omega)
    have bf := hI.2.2.2.2.2.2.1 f (by omega) (by omega)
    have e : ((S : Int) / 2 ^ h) = ((S / 2 ^ h : Nat) : Int) := by simp
    have hle : S / 2 ^ h ≤ S := Nat.div_le_self _ _
    simp only [l_Scene_partsAll_scene0_19, b_Scene_partsAll_scene0_19, bv]
    rw [gd_t (by omega), if_neg (by omega), gd_t (by omega), show Int.toNat ((h : Nat) : Int) = h by omega, e, iand1, gd_t (by omega)]
    unfold gcF
    by_cases c : tb S h = true
    · have c' : S / 2 ^ h % 2 = 1 := by unfold tb at c; simpa using c
      have hg : Nat.gcd (plS s h - plS s f).natAbs m ≤ 99 := by
        by_cases z : (plS s h - plS s f).natAbs = 0
        · rw [z, Nat.gcd_zero_left]; omega
        · have := Nat.gcd_le_left m (show 0 < (plS s h - plS s f).natAbs by omega); omega
      have hg2 : Nat.gcd (plS s h - plS s f).natAbs m ≤ 60 ∧ 0 < Nat.gcd (plS s h - plS s f).natAbs m := ⟨by have := Nat.gcd_le_right (n := m) (plS s h - plS s f).natAbs (show 0 < m by omega); omega, Nat.gcd_pos_of_pos_right _ (by omega)⟩
      have h5 := hh.1
      rw [show Int.toNat ((h : Nat) : Int) = h by omega] at h5
      rw [if_pos (by omega), c, if_pos rfl, gd_t (by omega), gd_t (by omega), h5, hff.1, gd_t (by omega), W_common hF (by omega) (by omega), bnd_s]
      exact W_parts hF hI hV hS hf d n (h + 1) _ (by omega) (by omega) (by omega)
    · have c' : ¬ S / 2 ^ h % 2 = 1 := by unfold tb at c; simpa using c
      rw [if_neg (by omega), if_neg c]
      exact W_parts hF hI hV hS hf d n (h + 1) m (by omega) (by omega) hm
end
