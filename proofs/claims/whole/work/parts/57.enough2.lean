/-! PURE PART: enough -/
def paS (s : Nat → Int) (S : Nat) : Bool := if S = 0 then false else gcF s S (tz S) ((s 1).toNat - (tz S + 1)) (tz S + 1) (s 0).toNat == 1
def enF (s : Nat → Int) (S : Nat) : Nat → Nat → Bool
  | 0, _ => true
  | d + 1, e => if atS s e S then false else enF s S d (e + 1)
def enS (s : Nat → Int) (S : Nat) : Bool := enF s S ((s 0).toNat - 1) 1
theorem enF_iff {s : Nat → Int} {S : Nat} : ∀ d e, enF s S d e = true ↔ ∀ k : Nat, e ≤ k → k < e + d → atS s k S = false
  | 0, e => ⟨fun _ k h1 h2 => by omega, fun _ => rfl⟩
  | d + 1, e => by
    unfold enF
    by_cases c : atS s e S = true
    · rw [if_pos c]
      exact ⟨fun g => (by cases g), fun g => (by have := g e (by omega) (by omega); rw [c] at this; cases this)⟩
    · rw [if_neg c, enF_iff d (e + 1)]
      refine ⟨fun g k h1 h2 => ?_, fun g k h1 h2 => g k (by omega) (by omega)⟩
      by_cases q : k = e
      · rw [q]; simpa using c
      · exact g k (by omega) (by omega)
theorem nat_dvd {n : Int} {e : Nat} {x : Int} (hn : 0 ≤ n) : n ∣ (e : Int) * x ↔ n.toNat ∣ e * x.natAbs := by
  rw [← Int.natAbs_dvd_natAbs, Int.natAbs_mul]
  have h1 : n.natAbs = n.toNat := by omega
  rw [h1]
  exact Iff.rfl
theorem tz_lt {S H : Nat} (hS : S < 1024) (h0 : S ≠ 0) (h : S < 2 ^ H) : tz S < H := by
  have ht := (tz_all S hS h0).1
  unfold tb at ht
  have h1 : 1 ≤ S / 2 ^ tz S := by
    rcases Nat.eq_zero_or_pos (S / 2 ^ tz S) with z | z
    · rw [z] at ht; simp at ht
    · exact z
  have h2 : 2 ^ tz S ≤ S := by
    have := (Nat.le_div_iff_mul_le (Nat.pow_pos (by omega))).mp h1
    omega
  exact (Nat.pow_lt_pow_iff_right (by omega : 1 < 2)).mp (Nat.lt_of_le_of_lt h2 h)
theorem pa_en {s : Nat → Int} (hI : MI s) {S : Nat} (hS : S < 1024) (hH : S < 2 ^ (s 1).toNat) : paS s S = enS s S := by
  have i0 := hI.1
  have i1 := hI.2.1
  rw [Bool.eq_iff_iff]
  unfold enS
  rw [enF_iff]
  unfold paS
  by_cases c : S = 0
  · subst c
    rw [if_pos rfl]
    refine ⟨fun g => (by cases g), fun g => ?_⟩
    have h1 := g 1 (by omega) (by omega)
    have h2 : atS s ((1 : Nat) : Int) 0 = true := (atS_iff hI).mpr fun i j _ _ h _ => by unfold tb at h; simp at h
    rw [h2] at h1; cases h1
  · rw [if_neg c]
    obtain ⟨t1, t2, t3⟩ := tz_all S hS c
    have tH := tz_lt hS c hH
    have hat : ∀ e : Nat, atS s e S = true ↔ (s 0).toNat ∣ e * gcF s S (tz S) ((s 1).toNat - (tz S + 1)) (tz S + 1) (s 0).toNat := by
      intro e
      rw [gcF_iff, atS_iff hI]
      constructor
      · intro h
        refine ⟨⟨e, Nat.mul_comm _ _⟩, fun k h1 h2 h3 => ?_⟩
        rw [← nat_dvd (by omega)]
        exact h k (tz S) (by omega) (by omega) h3 t1
      · rintro ⟨-, h⟩ i j h1 h2 h3 h4
        have key : ∀ k : Nat, (k : Int) < s 1 → tb S k = true → s 0 ∣ (e : Int) * (plS s k - plS s (tz S)) := fun k g1 g2 => by
          by_cases q : k = tz S
          · rw [q]; exact ⟨0, by simp⟩
          · have : tz S < k := by
              rcases Nat.lt_or_ge k (tz S) with z | z
              · rw [t3 k z] at g2; cases g2
              · omega
            rw [nat_dvd (by omega)]
            exact h k (by omega) (by omega) g2
        obtain ⟨x, hx⟩ := key i h1 h3
        obtain ⟨y, hy⟩ := key j h2 h4
        exact ⟨x - y, by grind⟩
    have hgd := gcF_dvd (s := s) (S := S) (f := tz S) ((s 1).toNat - (tz S + 1)) (tz S + 1) (s 0).toNat
    generalize gcF s S (tz S) ((s 1).toNat - (tz S + 1)) (tz S + 1) (s 0).toNat = g at hat hgd
    constructor
    · intro h k h1 h2
      have h : g = 1 := by simpa using h
      cases q : atS s k S with
      | false => rfl
      | true =>
        have := (hat k).mp q
        rw [h, Nat.mul_one] at this
        have := Nat.le_of_dvd (by omega) this
        omega
    · intro h
      obtain ⟨q, hq⟩ := hgd
      have hq0 : 0 < q := by
        rcases Nat.eq_zero_or_pos q with z | z
        · rw [z] at hq; omega
        · exact z
      have hg0 : 0 < g := by
        rcases Nat.eq_zero_or_pos g with z | z
        · rw [z] at hq; omega
        · exact z
      have h1 : ¬ atS s q S = false := by
        rw [(hat q).mpr ⟨1, by rw [hq]; grind⟩]; simp
      rcases Nat.lt_or_ge 1 g with z | z
      · exfalso
        refine h1 (h q (by omega) ?_)
        have : 2 * q ≤ g * q := Nat.mul_le_mul_right q z
        omega
      · have : g = 1 := by omega
        simp [this]
section
variable {F : Nat} {σ : St} {s : Nat → Int}
theorem W_partsAll (hF : 200 ≤ F) (hI : MI s) (hV : WV σ s) {S : Nat} (hS : S < 1024) (hH : S < 2 ^ (s 1).toNat) : f_Scene_partsAll_scene0 F σ (S : Nat) = some (bi (paS s S), σ) := by
  have i0 := hI.1
  have i1 := hI.2.1
  have v0 := hV.1.1
  unfold f_Scene_partsAll_scene0
  rw [JI_nt hS, bnd_s]
  simp only [bv]
  rw [gd_t (by omega), v0, show s 0 = ((s 0).toNat : Int) by omega]
  unfold paS
  by_cases c : S = 0
  · subst c
    rw [if_pos rfl]
    have h := W_parts (F := F) hF hI hV (S := 0) (f := 32) (by omega) (by omega) 0 F 33 (s 0).toNat (by omega) (by omega) (by omega)
    refine h.trans ?_
    rw [show gcF s 0 32 0 33 (s 0).toNat = (s 0).toNat from rfl, show ((s 0).toNat == 1) = false by simp; omega]
  · rw [if_neg c]
    have tH := tz_lt hS c hH
    exact W_parts (F := F) hF hI hV hS (f := tz S) (by omega) ((s 1).toNat - (tz S + 1)) F (tz S + 1) (s 0).toNat (by omega) (by omega) (by omega)
theorem M_en (hF : 100 ≤ F) (hI : MI s) (hV : MV σ s) {S : Nat} (hS : S < 1024) : ∀ (d n e : Nat), d < n → 1 ≤ e → e + d = (s 0).toNat → l_M_isEnough_2 F n σ (S : Nat) (e : Nat) = some (bi (enF s S d e), σ)
  | _, 0, _, h, _, _ => by omega
  | 0, n + 1, e, _, _, hd => by
    have v0 := hV.1 0
    have i0 := hI.1
    simp only [l_M_isEnough_2, b_M_isEnough_2, bv, Int.reduceToNat]
    rw [gd_t (by decide), gd_t (by omega), if_pos (by omega)]; rfl
  | d + 1, n + 1, e, hn, h1, hd => by
    have v0 := hV.1 0
    have i0 := hI.1
    have ht := M_areTwins (F := F) (by omega) hI hV (d := 0) (e := e) (by omega) (by omega) hS
    rw [show ((e : Int) + s 0 - 0) % s 0 = e by rw [Int.sub_zero, Int.add_emod_right, Int.emod_eq_of_lt (by omega) (by omega)]] at ht
    simp only [l_M_isEnough_2, b_M_isEnough_2, bv, Int.reduceToNat]
    rw [gd_t (by decide), gd_t (by omega), if_neg (by omega), ht, bnd_s]
    unfold enF
    cases c : atS s e S with
    | true => rw [gd_t (by decide), if_neg (by decide), if_pos rfl]; rfl
    | false =>
      rw [gd_t (by decide), if_pos (by decide), if_neg (by decide)]
      exact M_en hF hI hV hS d n (e + 1) (by omega) (by omega) (by omega)
theorem M_isEnough (hF : 100 ≤ F) (hI : MI s) (hV : MV σ s) {S : Nat} (hS : S < 1024) : f_M_isEnough F σ (S : Nat) = some (bi (enS s S), σ) := by
  have i0 := hI.1
  exact M_en (F := F) hF hI hV hS ((s 0).toNat - 1) F 1 (by omega) (by omega) (by omega)
theorem pow_H (hI : MI s) : 2 ^ (s 1).toNat ≤ 1024 := by
  have i1 := hI.2.1
  exact Nat.le_trans (Nat.pow_le_pow_right (by omega) (show (s 1).toNat ≤ 10 by omega)) (by decide)
theorem en_both {σ2 : St} (hF : 2000 ≤ F) (hI : MI s) (hW : WV σ s) (hV : MV σ2 s) : ∀ (d n m x : Nat) (b f : Int), d < n → d < m → x + d = 2 ^ (s 1).toNat → ((b = -1 ∧ f = 11) ∨ ∃ c : Nat, c < 1024 ∧ b = c ∧ f = pc c) → ∃ r, l_W_enough_7 F n σ b f (x : Nat) = some (r, σ) ∧ l_M_enough_9 F m σ2 b (x : Nat) = some (r, σ2)
  | _, 0, _, _, _, _, h, _, _, _ => by omega
  | _, _ + 1, 0, _, _, _, _, h, _, _ => by omega
  | 0, n + 1, m + 1, x, b, f, _, _, hd, hb => by
    have i1 := hI.2.1
    have v1 := hW.2.1
    have w1 := hV.1 1
    have hp := pow_H hI
    have e : (1 : Int) * 2 ^ (s 1).toNat = ((2 ^ (s 1).toNat : Nat) : Int) := by simp
    refine ⟨b, ?_, ?_⟩
    · simp only [l_W_enough_7, b_W_enough_7, bv]
      rw [gd_t (by omega), v1, e, gd_t (by omega), if_pos (by omega)]
    · simp only [l_M_enough_9, b_M_enough_9, bv, Int.reduceToNat]
      rw [gd_t (by decide), gd_t (by omega)]
      simp only [w1, e]
      rw [gd_t (by omega), if_pos (by omega)]
  | d + 1, n + 1, m + 1, x, b, f, hn, hm, hd, hb => by
    have i1 := hI.2.1
    have v1 := hW.2.1
    have w1 := hV.1 1
    have hp := pow_H hI
    have e : (1 : Int) * 2 ^ (s 1).toNat = ((2 ^ (s 1).toNat : Nat) : Int) := by simp
    have hpx := pc_b x (by omega)
    have ih := fun b f hb => en_both hF hI hW hV d n m (x + 1) b f (by omega) (by omega) (by omega) hb
    have hnew : ∃ c : Nat, c < 1024 ∧ (x : Int) = c ∧ (pc x : Int) = pc c := ⟨x, by omega, rfl, rfl⟩
    simp only [l_W_enough_7, b_W_enough_7, l_M_enough_9, b_M_enough_9, bv, Int.reduceToNat]
    rw [gd_t (show sh5 (gF σ 5059) by omega), gd_t (show inb 1 82 by decide), gd_t (show sh5 (gA σ2 2 1) by omega)]
    simp only [v1, w1, e]
    rw [gd_t (show rng (x : Int) ∧ rng ((2 ^ (s 1).toNat : Nat) : Int) by omega), gd_t (show rng (x : Int) ∧ rng ((2 ^ (s 1).toNat : Nat) : Int) by omega)]
    rw [if_neg (show ¬ ((2 ^ (s 1).toNat : Nat) : Int) ≤ x by omega), if_neg (show ¬ ((2 ^ (s 1).toNat : Nat) : Int) ≤ x by omega), JI_bc (by omega), bnd_s]
    have hpa := W_partsAll (F := F) (by omega) hI hW (S := x) (by omega) (by omega)
    rw [pa_en hI (by omega) (by omega)] at hpa
    have hen := M_isEnough (F := F) (by omega) hI hV (S := x) (by omega)
    rcases hb with ⟨rfl, rfl⟩ | ⟨c, hc, rfl, rfl⟩
    · rw [gd_t (show rng (pc x : Int) ∧ rng 11 by omega), if_neg (show ¬ (11 : Int) ≤ pc x by omega), hpa, bnd_s, gd_t (show rng (-1) by decide), if_pos (show (-1 : Int) < 0 by decide), hen, bnd_s]
      cases q : enS s x with
      | true =>
        rw [gd_t (show rng (bi true) by decide), gd_t (show rng (bi true) by decide), if_neg (show ¬ bi true = 0 by decide), if_neg (show ¬ bi true = 0 by decide)]
        exact ih x (pc x) (Or.inr hnew)
      | false =>
        rw [gd_t (show rng (bi false) by decide), gd_t (show rng (bi false) by decide), if_pos (show bi false = 0 by decide), if_pos (show bi false = 0 by decide)]
        exact ih (-1) 11 (Or.inl ⟨rfl, rfl⟩)
    · have hpc := pc_b c hc
      rw [gd_t (show rng (pc x : Int) ∧ rng (pc c : Int) by omega), gd_t (show rng (c : Int) by omega), if_neg (show ¬ (c : Int) < 0 by omega), M_bits (by omega) (by omega), bnd_s, M_bits (by omega) hc, bnd_s, gd_t (show rng (pc x : Int) ∧ rng (pc c : Int) by omega)]
      by_cases z : (pc c : Int) ≤ pc x
      · rw [if_pos z, if_pos z]
        exact ih c (pc c) (Or.inr ⟨c, hc, rfl, rfl⟩)
      · rw [if_neg z, if_neg z, hpa, bnd_s, hen, bnd_s]
        cases q : enS s x with
        | true =>
          rw [gd_t (show rng (bi true) by decide), gd_t (show rng (bi true) by decide), if_neg (show ¬ bi true = 0 by decide), if_neg (show ¬ bi true = 0 by decide)]
          exact ih x (pc x) (Or.inr hnew)
        | false =>
          rw [gd_t (show rng (bi false) by decide), gd_t (show rng (bi false) by decide), if_pos (show bi false = 0 by decide), if_pos (show bi false = 0 by decide)]
          exact ih c (pc c) (Or.inr ⟨c, hc, rfl, rfl⟩)
end
section
variable {F : Nat}
theorem s_enough (hF : 2000 ≤ F) : Sp_enough F RR := by
  intro x σ1 σ2 hR
  obtain ⟨hI, hW, hV⟩ := RR_view hR
  have hz : RR x σ1 (sF σ2 0 0) := RR_fr hR WFr.rf (MFr.sF rfl MFr.rf)
  have hV0 := MV_0 (v := 0) hV
  have hp := pow_H hI
  obtain ⟨r, h1, h2⟩ := en_both (F := F) hF hI hW hV0 (2 ^ (svw σ2 1).toNat) F F 0 (-1) 11 (by omega) (by omega) (by omega) (Or.inl ⟨rfl, rfl⟩)
  exact ⟨r, σ1, sF σ2 0 0, h1, h2, hz⟩
end
