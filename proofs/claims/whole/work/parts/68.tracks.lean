/-! PURE PART: tracks -/
def setT (σ : St) (v d st : Int) : St := sF (sA (sA (sA σ 13 0 v) 13 1 d) 13 2 st) 37 1
def allF (e g : Nat → Int) : Nat → Nat → Bool
  | 0, _ => true
  | r + 1, t => if e t = g t then allF e g r (t + 1) else false
def cD (fit : Nat → Bool) : Nat → Nat → Nat
  | 0, _ => 0
  | r + 1, i => (if fit i = true then 1 else 0) + cD fit r (i + 1)
def ffD (fit : Nat → Bool) : Nat → Nat → Int
  | 0, _ => -1
  | r + 1, i => if fit i = true then (i : Int) else ffD fit r (i + 1)
theorem cD_le (fit : Nat → Bool) : ∀ r i, cD fit r i ≤ r
  | 0, _ => Nat.le_refl 0
  | r + 1, i => by
    have := cD_le fit r (i + 1)
    unfold cD
    split <;> omega
theorem ffD_b (fit : Nat → Bool) : ∀ r i, cD fit r i ≠ 0 → (i : Int) ≤ ffD fit r i ∧ ffD fit r i < i + r
  | 0, _, h => absurd rfl h
  | r + 1, i, h => by
    unfold cD at h
    unfold ffD
    by_cases c : fit i = true
    · rw [if_pos c]; omega
    · rw [if_neg c] at h ⊢
      have := ffD_b fit r (i + 1) (by omega)
      omega
section
variable {F : Nat} {s : Nat → Int}
theorem MV_setT {σ : St} {v d st : Int} (h : MV σ s) : MV (setT σ v d st) s := by
  refine ⟨fun i => ?_, h.2.1, h.2.2.1, fun i hi => ?_⟩
  · exact h.1 i
  · exact h.2.2.2 i hi
theorem setT_12 {σ : St} {v d st : Int} {i : Nat} : gA (setT σ v d st) 12 i = gA σ 12 i := rfl
theorem wv_mod (a p : Int) : wvS s (a % s 0) p = wvS s a p := by
  unfold wvS
  rw [Int.mul_emod, em_mod, ← Int.mul_emod]
theorem wv_add (hI : MI s) (a b p : Int) : wvS s (a + b) p = wvS s a p * wvS s b p % PR (s 0) := by
  have i0 := hI.1
  have ha := modb (a := a * p) (p := s 0) (by omega)
  have hb := modb (a := b * p) (p := s 0) (by omega)
  have e : ((a + b) * p % s 0).toNat = ((a * p % s 0).toNat + (b * p % s 0).toNat) % (s 0).toNat := by
    have h1 : (a + b) * p % s 0 = (a * p % s 0 + b * p % s 0) % s 0 := by rw [Int.add_mul, Int.add_emod]
    rw [h1]
    have h2 : a * p % s 0 + b * p % s 0 = (((a * p % s 0).toNat + (b * p % s 0).toNat : Nat) : Int) := by omega
    have h3 : s 0 = ((s 0).toNat : Int) := by omega
    rw [h2]
    generalize (a * p % s 0).toNat = X
    generalize (b * p % s 0).toNat = Y
    have h4 : ((X + Y : Nat) : Int) % s 0 = (((X + Y) % (s 0).toNat : Nat) : Int) := by rw [Int.natCast_emod, ← h3]
    rw [h4, Int.toNat_natCast]
  unfold wvS
  rw [e, PW_mod i0, PW_add i0]
theorem wv_0 (p : Int) : wvS s 0 p = 1 := by
  unfold wvS
  rw [Int.zero_mul, Int.zero_emod]; exact PW_0
theorem wv_pos (hI : MI s) (a p : Int) : 0 < wvS s a p := by
  unfold wvS
  have i0 := hI.1
  have := modb (a := a * p) (p := s 0) (by omega)
  exact PW_pos i0 (by omega)
/-- the strength that the first reading asks for -/
def stT (s : Nat → Int) (h g0 v : Int) : Int := if gnS s h * wvS s v (plS s h) % PR (s 0) = 0 then 0 else g0 * INV (PR (s 0)) (gnS s h * wvS s v (plS s h) % PR (s 0)) % PR (s 0)
/-- the reading that a track gives -/
def eT (s : Nat → Int) (h g0 v : Int) (d : Int) (t : Nat) : Int := (gnS s h * stT s h g0 v % PR (s 0)) * wvS s (v + d * t) (plS s h) % PR (s 0)
theorem eT_eq (hI : MI s) {h g0 v d : Int} {t : Nat} (hg : 0 < gnS s h ∧ gnS s h < PR (s 0)) : eT s h g0 v d t = g0 * wvS s (d * t) (plS s h) % PR (s 0) := by
  have i0 := hI.1
  have hp := PR_b i0
  have hw := wvS_b hI v (plS s h)
  have hw0 := wv_pos hI v (plS s h)
  have hq : gnS s h * wvS s v (plS s h) % PR (s 0) ≠ 0 := nzd i0 hg ⟨hw0, hw.2⟩
  have hqb := modb (a := gnS s h * wvS s v (plS s h)) (p := PR (s 0)) (by omega)
  have hinv := (INV_mul i0 (a := gnS s h * wvS s v (plS s h) % PR (s 0)) ⟨by omega, hqb.2⟩).1
  unfold eT stT
  rw [if_neg hq, wv_add hI]
  generalize gnS s h = gn at *
  generalize wvS s v (plS s h) = w at *
  generalize wvS s (d * t) (plS s h) = W at *
  generalize INV (PR (s 0)) (gn * w % PR (s 0)) = I at *
  generalize PR (s 0) = p at *
  have a1 : (gn * (g0 * I % p) % p) % p = (gn * (g0 * I)) % p := by rw [em_mod]; exact em_mul rfl em_mod
  have a2 : (gn * (g0 * I % p) % p) * (w * W % p) % p = (gn * (g0 * I)) * (w * W) % p := em_mul a1 em_mod
  have a3 : (gn * (g0 * I)) * (w * W) = (I * (gn * w)) * (g0 * W) := by grind
  have a4 : (I * (gn * w)) % p = 1 % p := by
    rw [Int.emod_eq_of_lt (a := 1) (by omega) (by omega), ← hinv]
    exact (em_mul rfl em_mod).symm
  rw [a2, a3, em_mul a4 rfl, Int.one_mul]
theorem eT_deaf {h g0 v d : Int} {t : Nat} (hg : gnS s h = 0) : eT s h g0 v d t = 0 := by
  unfold eT
  rw [hg]; simp
theorem stT_b (hI : MI s) {h g0 v : Int} : 0 ≤ stT s h g0 v ∧ stT s h g0 v < PR (s 0) := by
  have hp := PR_b hI.1
  unfold stT
  split
  · omega
  · exact modb (by omega)
theorem M_tr119z {σ : St} {h st f : Int} (hf : f = 0) (k35 : St → Int → Int → Int → Int → Option (Int × St)) (k49 : St → Int → Int → Int → Int → Int → Option (Int × St)) {n c v d m : Nat} (hn : n ≤ 8) (hm : 0 < m) (t : Nat) (ht : t ≤ 8) : l_M_tracks_119 F k35 k49 m σ h (n : Nat) (c : Nat) (v : Nat) (d : Nat) st f (t : Nat) = k49 σ h (n : Nat) (c : Nat) (v : Nat) ((d + 1 : Nat) : Int) := by
  obtain ⟨m', rfl⟩ : ∃ m', m = m' + 1 := ⟨m - 1, by omega⟩
  show b_M_tracks_119 F k35 k49 (l_M_tracks_119 F k35 k49 m') σ h (n : Nat) (c : Nat) (v : Nat) (d : Nat) st f (t : Nat) = k49 σ h (n : Nat) (c : Nat) (v : Nat) ((d + 1 : Nat) : Int)
  unfold b_M_tracks_119
  rw [gd_t (by omega)]
  by_cases y : (n : Int) ≤ (t : Int)
  · rw [if_pos y, gd_t (by omega), if_pos hf]; rfl
  · rw [if_neg y, gd_t (by omega), if_pos hf, gd_t (by omega), if_pos hf]; rfl
theorem bv_s {e : Int} {k : Int → Option (Int × St)} : bv e k = k e := rfl
theorem bs_s {e : St} {k : St → Option (Int × St)} : bs e k = k e := rfl
theorem M_tr119 (hI : MI s) {σ : St} (hV : MV σ s) {h : Int} (hh : 0 ≤ h ∧ h < s 1) (k35 : St → Int → Int → Int → Int → Option (Int × St)) (k49 : St → Int → Int → Int → Int → Int → Option (Int × St)) {g : Nat → Int} {n : Nat} (hn : n ≤ 8) (hg : ∀ t, t < n → gA σ 12 t = g t ∧ 0 ≤ g t ∧ g t < PR (s 0)) {c v d : Nat} (hc : c ≤ 4000) (hv : (v : Int) < s 0) (hd : (d : Int) < s 0) : ∀ (r m t : Nat) (f : Int), f = 1 → r + 1 < m → t + r = n → l_M_tracks_119 F k35 k49 m σ h (n : Nat) (c : Nat) (v : Nat) (d : Nat) (stT s h (g 0) v) f (t : Nat) = if allF (eT s h (g 0) v d) g r t = true then k49 (if c = 0 then setT σ v d (stT s h (g 0) v) else σ) h (n : Nat) ((c + 1 : Nat) : Int) (v : Nat) ((d + 1 : Nat) : Int) else k49 σ h (n : Nat) (c : Nat) (v : Nat) ((d + 1 : Nat) : Int)
  | _, 0, _, _, _, hm, _ => by omega
  | 0, m + 1, t, f, hf, _, hr => by
    have i0 := hI.1
    have st := stT_b hI (h := h) (g0 := g 0) (v := (v : Int))
    show b_M_tracks_119 F k35 k49 (l_M_tracks_119 F k35 k49 m) σ h (n : Nat) (c : Nat) (v : Nat) (d : Nat) (stT s h (g 0) v) f (t : Nat) = _
    unfold b_M_tracks_119
    rw [gd_t (by omega), if_pos (by omega), gd_t (by omega), if_neg (by omega), show allF (eT s h (g 0) v d) g 0 t = true from rfl, if_pos rfl, bv_s, gd_t (by omega)]
    by_cases z : c = 0
    · rw [if_pos (by omega), if_pos z, gd_t (by decide), bs_s, gd_t (by decide), bs_s, gd_t (by decide), bs_s, gd_t (by decide), bs_s, bv_s]
      rfl
    · rw [if_neg (by omega), if_neg z]
      rfl
  | r + 1, m + 1, t, f, hf, hm, hr => by
    have i0 := hI.1
    have i1 := hI.2.1
    have hp := PR_b i0
    have st := stT_b hI (h := h) (g0 := g 0) (v := (v : Int))
    have b := hI.2.2.2.2.2.2.1 h (by omega) (by omega)
    obtain ⟨g1, g2⟩ := hg t (by omega)
    have q1 := mulb (a := gnS s h) (b := stT s h (g 0) v) (A := 1500) (B := 1500) (by omega) (by omega) (by omega) (by omega)
    have m1 := modb (a := gnS s h * stT s h (g 0) v) (p := PR (s 0)) (by omega)
    have q2 := mulb (a := (d : Int)) (b := (t : Int)) (A := 60) (B := 8) (by omega) (by omega) (by omega) (by omega)
    have m2 := modb (a := (v : Int) + d * t) (p := s 0) (by omega)
    have hw := wvS_b hI ((v : Int) + d * t) (plS s h)
    have q3 := mulb (a := gnS s h * stT s h (g 0) v % PR (s 0)) (b := wvS s ((v : Int) + d * t) (plS s h)) (A := 1500) (B := 1500) (by omega) (by omega) (by omega) (by omega)
    have he : (gnS s h * stT s h (g 0) v % PR (s 0)) * wvS s ((v : Int) + d * t) (plS s h) % PR (s 0) = eT s h (g 0) v d t := rfl
    have hb : 0 ≤ eT s h (g 0) v d t ∧ eT s h (g 0) v d t < PR (s 0) := modb (by omega)
    have v0 : gA σ 2 (Int.toNat 0) = s 0 := hV.1 0
    have v20 := hV.2.1
    show b_M_tracks_119 F k35 k49 (l_M_tracks_119 F k35 k49 m) σ h (n : Nat) (c : Nat) (v : Nat) (d : Nat) (stT s h (g 0) v) f (t : Nat) = _
    unfold b_M_tracks_119
    rw [gd_t (by omega), if_neg (by omega), gd_t (by omega), if_neg (by omega), M_gain hI hV (by omega), bnd_s, gd_t ⟨by omega, by omega, by omega⟩, v20, tmE q1.1, bv_s, gd_t (by decide), gd_t ⟨by omega, by omega, by omega⟩, v0, tmE (by omega), bv_s, M_place hI hV (by omega), bnd_s, M_waveOf hI hV (by omega) b.1, bnd_s, wv_mod, gd_t ⟨by omega, by omega, by omega⟩, v20, tmE q3.1, he, bv_s, gd_t (by omega), Int.toNat_natCast, g1, gd_t (by omega)]
    unfold allF
    by_cases z : eT s h (g 0) v d t = g t
    · rw [if_pos z, if_pos z]
      exact M_tr119 hI hV hh k35 k49 hn hg hc hv hd r m (t + 1) 1 rfl (by omega) (by omega)
    · rw [if_neg z, if_neg z, if_neg (by decide)]
      exact M_tr119z rfl k35 k49 hn (by omega) (t + 1) (by omega)
theorem M_tr49 (hF : 200 ≤ F) (hI : MI s) {h : Int} (hh : 0 ≤ h ∧ h < s 1) (k35 : St → Int → Int → Int → Int → Option (Int × St)) {g : Nat → Int} {n : Nat} (hn : n ≤ 8) (hn1 : 1 ≤ n) {v : Nat} (hv : (v : Int) < s 0) {fit : Nat → Bool} (hfit : ∀ d : Nat, (d : Int) < s 0 → allF (eT s h (g 0) v d) g n 0 = fit d) : ∀ (r m d c : Nat) (σ : St), MV σ s → (∀ t, t < n → gA σ 12 t = g t ∧ 0 ≤ g t ∧ g t < PR (s 0)) → c + r ≤ 4000 → r < m → (d : Int) + r = s 0 → l_M_tracks_49 F k35 m σ h (n : Nat) (c : Nat) (v : Nat) (d : Nat) = k35 (if c = 0 ∧ cD fit r d ≠ 0 then setT σ v (ffD fit r d) (stT s h (g 0) v) else σ) h (n : Nat) ((c + cD fit r d : Nat) : Int) ((v + 1 : Nat) : Int)
  | _, 0, _, _, _, _, _, _, hm, _ => by omega
  | 0, m + 1, d, c, σ, hV, hg, hc, _, hr => by
    have i0 := hI.1
    have v0 := hV.1 0
    simp only [l_M_tracks_49, b_M_tracks_49, bv, Int.reduceToNat]
    rw [gd_t (by decide), gd_t (by omega), if_pos (by omega), if_neg (by rintro ⟨_, h⟩; exact h rfl)]
    rfl
  | r + 1, m + 1, d, c, σ, hV, hg, hc, hm, hr => by
    have i0 := hI.1
    have i1 := hI.2.1
    have hp := PR_b i0
    have v0 := hV.1 0
    have v20 := hV.2.1
    have b := hI.2.2.2.2.2.2.1 h (by omega) (by omega)
    have hw := wvS_b hI (v : Int) (plS s h)
    have q1 := mulb (a := gnS s h) (b := wvS s (v : Int) (plS s h)) (A := 1500) (B := 1500) (by omega) (by omega) (by omega) (by omega)
    have m1 := modb (a := gnS s h * wvS s (v : Int) (plS s h)) (p := PR (s 0)) (by omega)
    have g0 := hg 0 (by omega)
    have ib := INV_b i0 m1
    have q2 := mulb (a := g 0) (b := INV (PR (s 0)) (gnS s h * wvS s (v : Int) (plS s h) % PR (s 0))) (A := 1500) (B := 1500) (by omega) (by omega) (by omega) (by omega)
    have key := M_tr119 (F := F) hI hV hh k35 (l_M_tracks_49 F k35 m) hn hg (c := c) (v := v) (d := d) (by omega) hv (by omega) n F 0 1 rfl (by omega) (by omega)
    rw [hfit d (by omega)] at key
    have hst : (if gnS s h * wvS s (v : Int) (plS s h) % PR (s 0) = 0 then 0 else g 0 * INV (PR (s 0)) (gnS s h * wvS s (v : Int) (plS s h) % PR (s 0)) % PR (s 0)) = stT s h (g 0) v := rfl
    have step : l_M_tracks_49 F k35 (m + 1) σ h (n : Nat) (c : Nat) (v : Nat) (d : Nat) = l_M_tracks_119 F k35 (l_M_tracks_49 F k35 m) F σ h (n : Nat) (c : Nat) (v : Nat) (d : Nat) (stT s h (g 0) v) 1 ((0 : Nat) : Int) := by
      simp only [l_M_tracks_49, b_M_tracks_49, bv, Int.reduceToNat]
      rw [gd_t (by decide), gd_t (by omega), if_neg (by omega), M_gain hI hV (by omega), bnd_s, M_place hI hV (by omega), bnd_s, M_waveOf hI hV (by omega) b.1, bnd_s, gd_t ⟨by omega, by omega, by omega⟩, v20, tmE q1.1, gd_t (by omega), ← hst]
      by_cases z : gnS s h * wvS s (v : Int) (plS s h) % PR (s 0) = 0
      · rw [if_pos z, if_pos z]; rfl
      · rw [if_neg z, if_neg z, gd_t (by decide), M_inverse (by omega) i0 v20 m1, bnd_s, gd_t ⟨by rw [g0.1]; omega, by omega, by omega⟩, g0.1, v20, tmE q2.1]; rfl
    rw [step, key]
    have hcd : cD fit (r + 1) d = (if fit d = true then 1 else 0) + cD fit r (d + 1) := rfl
    have hff : ffD fit (r + 1) d = if fit d = true then (d : Int) else ffD fit r (d + 1) := rfl
    rw [hcd, hff]
    by_cases z : fit d = true
    · rw [if_pos z, if_pos z, if_pos z]
      by_cases y : c = 0
      · rw [if_pos y, if_pos ⟨y, by omega⟩, M_tr49 hF hI hh k35 hn hn1 hv hfit r m (d + 1) (c + 1) _ (MV_setT hV) (fun t ht => hg t ht) (by omega) (by omega) (by omega), if_neg (by omega), Nat.add_assoc]
      · rw [if_neg y, if_neg (fun w => y w.1), M_tr49 hF hI hh k35 hn hn1 hv hfit r m (d + 1) (c + 1) σ hV hg (by omega) (by omega) (by omega), if_neg (by omega), Nat.add_assoc]
    · rw [if_neg z, if_neg z, if_neg z, M_tr49 hF hI hh k35 hn hn1 hv hfit r m (d + 1) c σ hV hg (by omega) (by omega) (by omega), Nat.zero_add]
theorem M_tr35 (hF : 200 ≤ F) (hI : MI s) {h : Int} (hh : 0 ≤ h ∧ h < s 1) {g : Nat → Int} {n : Nat} (hn : n ≤ 8) (hn1 : 1 ≤ n) {fit : Nat → Bool} (hfit : ∀ v d : Nat, (v : Int) < s 0 → (d : Int) < s 0 → allF (eT s h (g 0) v d) g n 0 = fit d) : ∀ (r m v c : Nat) (σ : St), MV σ s → (∀ t, t < n → gA σ 12 t = g t ∧ 0 ≤ g t ∧ g t < PR (s 0)) → c + 60 * r ≤ 4000 → (c ≠ 0 ∨ v = 0 ∨ cD fit (s 0).toNat 0 = 0) → r < m → (v : Int) + r = s 0 → l_M_tracks_35 F m σ h (n : Nat) (c : Nat) (v : Nat) = some (((c + r * cD fit (s 0).toNat 0 : Nat) : Int), if c = 0 ∧ r * cD fit (s 0).toNat 0 ≠ 0 then setT σ v (ffD fit (s 0).toNat 0) (stT s h (g 0) v) else σ)
  | _, 0, _, _, _, _, _, _, _, hm, _ => by omega
  | 0, m + 1, v, c, σ, hV, hg, hc, _, _, hr => by
    have i0 := hI.1
    have v0 := hV.1 0
    simp only [l_M_tracks_35, b_M_tracks_35, bv, Int.reduceToNat]
    rw [gd_t (by decide), gd_t (by omega), if_pos (by omega), Nat.zero_mul, if_neg (by omega)]
    rfl
  | r + 1, m + 1, v, c, σ, hV, hg, hc, h0, hm, hr => by
    have i0 := hI.1
    have v0 := hV.1 0
    have hle := cD_le fit (s 0).toNat 0
    have key := M_tr49 hF hI hh (l_M_tracks_35 F m) hn hn1 (v := v) (by omega) (fun d hd => hfit v d (by omega) hd) (s 0).toNat F 0 c σ hV hg (by omega) (by omega) (by omega)
    have step : l_M_tracks_35 F (m + 1) σ h (n : Nat) (c : Nat) (v : Nat) = l_M_tracks_49 F (l_M_tracks_35 F m) F σ h (n : Nat) (c : Nat) (v : Nat) ((0 : Nat) : Int) := by
      simp only [l_M_tracks_35, b_M_tracks_35, bv, Int.reduceToNat]
      rw [gd_t (by decide), gd_t (by omega), if_neg (by omega)]
      rfl
    rw [step, key]
    have e : (r + 1) * cD fit (s 0).toNat 0 = cD fit (s 0).toNat 0 + r * cD fit (s 0).toNat 0 := by rw [Nat.succ_mul, Nat.add_comm]
    rw [e]
    generalize hT : cD fit (s 0).toNat 0 = T at *
    by_cases z : T = 0
    · subst z
      rw [if_neg (fun w => w.2 rfl), Nat.mul_zero, M_tr35 hF hI hh hn hn1 hfit r m (v + 1) (c + 0) σ hV hg (by omega) (Or.inr (Or.inr hT)) (by omega) (by omega), hT, Nat.mul_zero, if_neg (by omega), if_neg (by omega)]
    · by_cases y : c = 0
      · rw [if_pos ⟨y, z⟩, M_tr35 hF hI hh hn hn1 hfit r m (v + 1) (c + T) _ (MV_setT hV) (fun t ht => hg t ht) (by omega) (Or.inl (by omega)) (by omega) (by omega), hT, if_neg (by omega), if_pos ⟨y, by omega⟩, Nat.add_assoc]
      · rw [if_neg (fun w => y w.1), M_tr35 hF hI hh hn hn1 hfit r m (v + 1) (c + T) σ hV hg (by omega) (Or.inl (by omega)) (by omega) (by omega), hT, if_neg (by omega), if_neg (fun w => y w.1), Nat.add_assoc]
def setTW (σ : St) (d st : Int) : St := sA (sA (sA (sF σ 833 3) 14 0 0) 14 1 d) 14 2 st
theorem W_tell {σ : St} {d st : Int} : f_W_tellTrack F σ d st = some (0, setTW σ d st) := rfl
theorem W_dr (hI : MI s) {σ : St} (hV : WV σ s) {h : Int} (hh : 0 ≤ h ∧ h < s 1) {g : Nat → Int} {n : Nat} (hn : n ≤ 8) (hn1 : 1 ≤ n) (hg : ∀ t, t < n → gA σ 94 t = g t ∧ 0 ≤ g t ∧ g t < PR (s 0)) {d : Nat} (hd : (d : Int) < s 0) : ∀ (r m t : Nat), r < m → t + r = n → l_W_driftFits_12 F m σ (d : Nat) (plS s h) (n : Nat) (t : Nat) = some (bi (allF (fun t => g 0 * wvS s ((d : Int) * t) (plS s h) % PR (s 0)) g r t), σ)
  | _, 0, _, hm, _ => by omega
  | 0, m + 1, t, _, hr => by
    simp only [l_W_driftFits_12, b_W_driftFits_12, bv]
    rw [gd_t (by omega), if_pos (by omega)]
    rfl
  | r + 1, m + 1, t, hm, hr => by
    have i0 := hI.1
    have i1 := hI.2.1
    have hp := PR_b i0
    have b := hI.2.2.2.2.2.2.1 h (by omega) (by omega)
    have q2 := mulb (a := (d : Int)) (b := (t : Int)) (A := 60) (B := 8) (by omega) (by omega) (by omega) (by omega)
    have m2 := modb (a := (d : Int) * t) (p := s 0) (by omega)
    have hw := wvS_b hI ((d : Int) * t) (plS s h)
    have g0 := hg 0 (by omega)
    have gt := hg t (by omega)
    have hb := modb (a := g 0 * wvS s ((d : Int) * t) (plS s h)) (p := PR (s 0)) (by omega)
    have w0 := hV.1.1
    have w1 := hV.1.2.1
    simp only [l_W_driftFits_12, b_W_driftFits_12, bv, Int.reduceToNat]
    rw [gd_t (by omega), if_neg (by omega), gd_t ⟨by omega, by omega, by omega⟩, w0, tmE q2.1, W_waveAt hI hV (by omega) b.1, bnd_s, wv_mod, gd_t (by omega), gd_t (by decide), g0.1, w1, W_product (by omega) (by omega) (by omega), bnd_s, Int.toNat_natCast, gt.1, gd_t (by omega)]
    unfold allF
    try dsimp only
    by_cases z : g t = g 0 * wvS s ((d : Int) * t) (plS s h) % PR (s 0)
    · rw [if_pos z, if_pos z.symm]
      exact W_dr hI hV hh hn hn1 hg hd r m (t + 1) (by omega) (by omega)
    · rw [if_neg z, if_neg (fun w => z w.symm)]
      rfl
theorem W_tr64 (hF : 100 ≤ F) (hI : MI s) {σ : St} (hV : WV σ s) {h : Int} (hh : 0 ≤ h ∧ h < s 1) (hgn : 0 < gnS s h) {g : Nat → Int} {n : Nat} (hn : n ≤ 8) (hn1 : 1 ≤ n) (hg : ∀ t, t < n → gA σ 94 t = g t ∧ 0 ≤ g t ∧ g t < PR (s 0)) {fit : Nat → Bool} (hfit : ∀ d : Nat, (d : Int) < s 0 → allF (fun t => g 0 * wvS s ((d : Int) * t) (plS s h) % PR (s 0)) g (n - 1) 1 = fit d) : ∀ (r m i c : Nat) (f : Int), c + r ≤ 4000 → (c = 0 → f = -1) → (c ≠ 0 → 0 ≤ f ∧ f ≤ 60) → r < m → (i : Int) + r = s 0 → l_W_tracks_64 F m σ h (n : Nat) (c : Nat) f (i : Nat) = some (((c + cD fit r i : Nat) : Int) * s 0, if c + cD fit r i ≠ 0 then setTW σ (if c = 0 then ffD fit r i else f) (g 0 * INV (PR (s 0)) (gnS s h) % PR (s 0)) else σ)
  | _, 0, _, _, _, _, _, _, hm, _ => by omega
  | 0, m + 1, i, c, f, hc, h1, h2, _, hr => by
    have i0 := hI.1
    have i1 := hI.2.1
    have hp := PR_b i0
    have b := hI.2.2.2.2.2.2.1 h (by omega) (by omega)
    have w0 := hV.1.1
    have w1 := hV.1.2.1
    have wh := hV.2.2.2.2.2.2.1 h (by omega) (by omega)
    have g0 := hg 0 (by omega)
    have ib := INV_b i0 (a := gnS s h) ⟨by omega, b.2.2⟩
    simp only [l_W_tracks_64, b_W_tracks_64, bv, Int.reduceToNat]
    rw [gd_t (by omega), if_pos (by omega), gd_t (by omega)]
    have e : cD fit 0 i = 0 := rfl
    rw [e, Nat.add_zero]
    by_cases z : c = 0
    · rw [if_pos (by omega), if_neg (by omega), w0]
    · rw [if_neg (by omega), gd_t (by decide), gd_t (by omega), wh.2, w1, W_inverse (by omega) i0 ⟨by omega, b.2.2⟩, bnd_s, g0.1, w1, W_product (by omega) (by omega) (by omega), bnd_s, W_tell, bnd_s, if_pos z, if_neg z, show gF (setTW σ f (g 0 * INV (PR (s 0)) (gnS s h) % PR (s 0))) 1472 = s 0 from w0]
  | r + 1, m + 1, i, c, f, hc, h1, h2, hm, hr => by
    have i0 := hI.1
    have i1 := hI.2.1
    have w0 := hV.1.1
    have wh := hV.2.2.2.2.2.2.1 h (by omega) (by omega)
    have hd := W_dr (F := F) hI hV hh hn hn1 hg (d := i) (by omega) (n - 1) F 1 (by omega) (by omega)
    rw [hfit i (by omega)] at hd
    have hcd : cD fit (r + 1) i = (if fit i = true then 1 else 0) + cD fit r (i + 1) := rfl
    have hff : ffD fit (r + 1) i = if fit i = true then (i : Int) else ffD fit r (i + 1) := rfl
    simp only [l_W_tracks_64, b_W_tracks_64, bv]
    rw [gd_t (by omega), if_neg (by omega), gd_t (by omega), wh.1]
    unfold f_W_driftFits
    rw [show (1 : Int) = ((1 : Nat) : Int) from rfl, hd, bnd_s, hcd, hff]
    cases z : fit i with
    | false =>
      rw [show bi false = 0 from rfl, gd_t (by decide), if_pos rfl, if_neg Bool.false_ne_true, if_neg Bool.false_ne_true, Nat.zero_add]
      exact W_tr64 hF hI hV hh hgn hn hn1 hg hfit r m (i + 1) c f (by omega) h1 h2 (by omega) (by omega)
    | true =>
      rw [show bi true = 1 from rfl, gd_t (by decide), if_neg (by decide), gd_t (by by_cases y : c = 0 <;> simp [y] at h1 h2 <;> omega), if_pos rfl, if_pos rfl, ← Nat.add_assoc]
      by_cases y : c = 0
      · rw [if_pos (show f = -((1 : Nat) : Int) from h1 y), if_pos y]
        have := W_tr64 hF hI hV hh hgn hn hn1 hg hfit r m (i + 1) (c + 1) i (by omega) (by omega) (by omega) (by omega) (by omega)
        rw [if_neg (show ¬ c + 1 = 0 by omega)] at this
        exact this
      · rw [if_neg (show ¬ f = -((1 : Nat) : Int) by have := h2 y; omega), if_neg y]
        have := W_tr64 hF hI hV hh hgn hn hn1 hg hfit r m (i + 1) (c + 1) f (by omega) (by omega) (by omega) (by omega) (by omega)
        rw [if_neg (show ¬ c + 1 = 0 by omega)] at this
        exact this
theorem W_deaf {σ : St} {m0 : Int} (hm : gF σ 1472 = m0) {g : Nat → Int} {n : Nat} (hn : n ≤ 8) (hg : ∀ t, t < n → gA σ 94 t = g t ∧ 0 ≤ g t ∧ g t ≤ 1500) : ∀ (r m t : Nat), r < m → t + r = n → l_W_tracksOfDeaf_2 F m σ (n : Nat) (t : Nat) = if allF (fun _ => 0) g r t = true then some (m0 * m0, setTW σ 0 0) else some (0, σ)
  | _, 0, _, hm, _ => by omega
  | 0, m + 1, t, _, hr => by
    simp only [l_W_tracksOfDeaf_2, b_W_tracksOfDeaf_2, bv]
    rw [gd_t (by omega), if_pos (by omega), W_tell, bnd_s, show gF (setTW σ 0 0) 1472 = m0 from hm]
    rfl
  | r + 1, m + 1, t, _, hr => by
    have gt := hg t (by omega)
    simp only [l_W_tracksOfDeaf_2, b_W_tracksOfDeaf_2, bv]
    rw [gd_t (by omega), if_neg (by omega), gd_t (by omega), Int.toNat_natCast, gt.1, gd_t (by omega)]
    have e : allF (fun _ => 0) g (r + 1) t = if 0 = g t then allF (fun _ => 0) g r (t + 1) else false := rfl
    rw [e]
    by_cases z : g t = 0
    · rw [if_pos z, if_pos z.symm]
      exact W_deaf hm hn hg r m (t + 1) (by omega) (by omega)
    · rw [if_neg z, if_neg (show ¬ 0 = g t from fun w => z w.symm), if_neg Bool.false_ne_true]
theorem allF_congr {e e' g : Nat → Int} {n : Nat} (h : ∀ t, t < n → e t = e' t) : ∀ r t, t + r ≤ n → allF e g r t = allF e' g r t
  | 0, _, _ => rfl
  | r + 1, t, hr => by
    unfold allF
    rw [h t (by omega), allF_congr h r (t + 1) (by omega)]
theorem cD_const (b : Bool) : ∀ r i, cD (fun _ => b) r i = if b = true then r else 0
  | 0, i => by cases b <;> rfl
  | r + 1, i => by
    unfold cD
    rw [cD_const b r (i + 1)]
    cases b <;> simp <;> omega
theorem RR_track {x : Bool} {a1 a2 : St} (hz : RR x a1 a2) {d st v : Int} (hv : v = 0) : RR x (setTW a1 d st) (setT a2 v d st) := by
  subst hv
  have g := RR_mix (σ1' := setTW a1 d st) (σ2' := setT a2 0 d st) (fun q => q == 833) (fun a => a == 14) (fun q => q == 37) (fun a => a == 13) hz (fun q hq _ => by
    show gF (sF a1 833 3) q = _
    rw [gF_sF, if_neg (by intro e; subst e; cases hq)]) (fun a ha _ i => by
    unfold setTW
    rw [gA_sA, if_neg (by rintro ⟨e, -⟩; subst e; cases ha), gA_sA, if_neg (by rintro ⟨e, -⟩; subst e; cases ha), gA_sA, if_neg (by rintro ⟨e, -⟩; subst e; cases ha)]; rfl) (fun q hq _ => by
    unfold setT
    rw [gF_sF, if_neg (by intro e; subst e; cases hq)]; rfl) (fun a ha _ i => by
    unfold setT
    rw [gA_sF, gA_sA, if_neg (by rintro ⟨e, -⟩; subst e; cases ha), gA_sA, if_neg (by rintro ⟨e, -⟩; subst e; cases ha), gA_sA, if_neg (by rintro ⟨e, -⟩; subst e; cases ha)])
  have hN : RTrack (setTW a1 d st) (setT a2 0 d st) := by
    refine ⟨show isb (1 : Int) by decide, rfl, fun _ i hi => ?_⟩
    rcases (by omega : i = 0 ∨ i = 1 ∨ i = 2) with rfl | rfl | rfl <;> rfl
  exact ⟨g.1, g.2.1, g.2.2.1, g.2.2.2.1, g.2.2.2.2.1, g.2.2.2.2.2.1, g.2.2.2.2.2.2.1, ⟨g.2.2.2.2.2.2.2.1.1, hN, g.2.2.2.2.2.2.2.1.2.2⟩, g.2.2.2.2.2.2.2.2⟩
theorem s_tracks (hF : 1000 ≤ F) : Sp_tracks F RR := by
  intro x σ1 σ2 p0 hR h0
  obtain ⟨hI, hW, hV⟩ := RR_view hR
  have i0 := hI.1
  have i1 := hI.2.1
  have hp := PR_b hI.1
  refine sp1 ?_
  obtain ⟨r1, r2, a1, a2, t1, t2, f1, f2, hh⟩ := take_both (F := F) hF hR
  have hz : RR x a1 a2 := RR_take hR f1 f2
  have hWa : WV a1 (svw σ2) := WV_fr (WV_65 hW) f1
  have hVa : MV a2 (svw σ2) := MV_fr (MV_2 hV) f2
  unfold f_W_tracks
  refine ev_be t1 ?_
  have hM : ∀ Q : Int → St → Prop, Ev (bnd (f_M_isHearer F a2 p0) fun r4 σ5 => gd (rng r4) (if r4 = 0 then some ((-1), σ5) else bnd (f_M_isIn F σ5 r2 1 8) fun r6 σ7 => gd (rng r6) (if r6 = 0 then some ((-1), σ7) else l_M_tracks_35 F F σ7 p0 r2 0 0))) Q → Ev (f_M_tracks F σ2 p0) Q := fun Q h => ev_bs (ev_be t2 h)
  have rr : rng r1 ∧ rng r2 := by rcases hh with ⟨⟨rfl, _, _⟩, _⟩ | ⟨rfl, h⟩ <;> omega
  by_cases c : 0 ≤ p0 ∧ p0 < svw σ2 1
  · refine ev_hasH' hWa.2.1 (by omega) (fun _ => ?_) (fun h => absurd c h)
    refine ev_g (by decide) ?_
    rw [if_neg (by decide)]
    refine ev_g (by omega) ?_
    have hM1 : ∀ Q : Int → St → Prop, Ev (bnd (f_M_isIn F a2 r2 1 8) fun r6 σ7 => gd (rng r6) (if r6 = 0 then some ((-1), σ7) else l_M_tracks_35 F F σ7 p0 r2 0 0)) Q → Ev (f_M_tracks F σ2 p0) Q := by
      intro Q h
      refine hM Q (ev_isHearer' (hVa.1 1) (by omega) (fun _ => ?_) (fun h => absurd c h))
      refine ev_g (by decide) ?_
      rw [if_neg (by decide)]
      exact h
    by_cases c1 : r1 < 1 ∨ 8 < r1
    · have hMn : Ev (f_M_tracks F σ2 p0) fun r2 s2 => -1 = r2 ∧ RR x a1 s2 := by
        refine hM1 _ (ev_isIn (by omega) (fun h => ?_) (fun _ => ?_))
        · exfalso
          rcases hh with ⟨⟨rfl, _, _⟩, _⟩ | ⟨rfl, h⟩ <;> omega
        · refine ev_g (by decide) ?_
          rw [if_pos rfl]
          exact ev_s ⟨rfl, hz⟩
      by_cases c2 : r1 < 1
      · rw [if_pos c2]; exact ev_s hMn
      · rw [if_neg c2]
        refine ev_g (by omega) ?_
        rw [if_neg (by omega)]; exact ev_s hMn
    · rw [if_neg (by omega)]
      refine ev_g (by omega) ?_
      rw [if_pos (by omega)]
      have hh' : (r1 = r2 ∧ 0 ≤ r1 ∧ r1 ≤ 10) ∧ ∀ k : Nat, (k : Int) < r1 → gA a1 94 k = gA a2 12 k ∧ 0 ≤ gA a2 12 k ∧ gA a2 12 k < PR (svw σ2 0) := by
        rcases hh with h | ⟨h, _⟩
        · exact h
        · exfalso; omega
      obtain ⟨⟨rfl, hr0, hr1⟩, hA⟩ := hh'
      obtain ⟨n, hn⟩ := Int.eq_ofNat_of_zero_le hr0
      subst hn
      have hn8 : n ≤ 8 := by omega
      have hn1 : 1 ≤ n := by omega
      have hgW : ∀ t, t < n → gA a1 94 t = gA a2 12 t ∧ 0 ≤ gA a2 12 t ∧ gA a2 12 t < PR (svw σ2 0) := fun t ht => hA t (by omega)
      have hgM : ∀ t, t < n → gA a2 12 t = gA a2 12 t ∧ 0 ≤ gA a2 12 t ∧ gA a2 12 t < PR (svw σ2 0) := fun t ht => ⟨rfl, (hA t (by omega)).2⟩
      have b := hI.2.2.2.2.2.2.1 p0 (by omega) (by omega)
      have wh := hWa.2.2.2.2.2.2.1 p0 (by omega) (by omega)
      have hM2 : ∀ Q : Int → St → Prop, Ev (l_M_tracks_35 F F a2 p0 (n : Nat) 0 0) Q → Ev (f_M_tracks F σ2 p0) Q := by
        intro Q h
        refine hM1 Q (ev_isIn (by omega) (fun _ => ?_) (fun h => absurd (by omega) h))
        refine ev_g (by decide) ?_
        rw [if_neg (by decide)]
        exact h
      refine ev_g (by omega) ?_
      rw [wh.2]
      refine ev_g (by omega) ?_
      by_cases c3 : gnS (svw σ2) p0 = 0
      · rw [if_pos c3]
        have kM := M_tr35 (F := F) (by omega) hI c hn8 hn1 (g := gA a2 12) (fit := fun _ => allF (fun _ => 0) (gA a2 12) n 0) (fun v d hv hd => allF_congr (n := n) (fun t ht => eT_deaf c3) n 0 (by omega)) (svw σ2 0).toNat F 0 0 a2 hVa hgM (by omega) (Or.inr (Or.inl rfl)) (by omega) (by omega)
        have kW := W_deaf (F := F) hWa.1.1 hn8 (g := gA a2 12) (fun t ht => by have := hgW t ht; omega) n F 0 (by omega) (by omega)
        rw [cD_const] at kM
        have hst : stT (svw σ2) p0 (gA a2 12 0) ((0 : Nat) : Int) = 0 := by unfold stT; rw [c3]; simp
        unfold f_W_tracksOfDeaf
        cases z : allF (fun _ => 0) (gA a2 12) n 0 with
        | false =>
          rw [z, if_neg (by decide)] at kW
          refine ev_be kW (ev_s (hM2 _ (ev_e kM ?_)))
          rw [z]
          simp
          exact hz
        | true =>
          rw [z, if_pos rfl] at kW
          refine ev_be kW (ev_s (hM2 _ (ev_e kM ?_)))
          rw [z, if_pos rfl, Nat.zero_add, hst]
          have hpos : (svw σ2 0).toNat * (svw σ2 0).toNat ≠ 0 := by
            have : 0 < (svw σ2 0).toNat := by omega
            exact Nat.ne_of_gt (Nat.mul_pos this this)
          rw [if_pos ⟨rfl, hpos⟩]
          have hff : ffD (fun _ => true) (svw σ2 0).toNat 0 = 0 := by
            obtain ⟨k, hk⟩ : ∃ k, (svw σ2 0).toNat = k + 1 := ⟨(svw σ2 0).toNat - 1, by omega⟩
            rw [hk]; rfl
          rw [hff]
          refine ⟨?_, RR_track hz rfl⟩
          rw [Int.natCast_mul]
          congr 1 <;> omega
      · rw [if_neg c3]
        have hgn : 0 < gnS (svw σ2) p0 ∧ gnS (svw σ2) p0 < PR (svw σ2 0) := by omega
        have hfm : ∀ d : Nat, allF (fun t => gA a2 12 0 * wvS (svw σ2) ((d : Int) * t) (plS (svw σ2) p0) % PR (svw σ2 0)) (gA a2 12) n 0 = allF (fun t => gA a2 12 0 * wvS (svw σ2) ((d : Int) * t) (plS (svw σ2) p0) % PR (svw σ2 0)) (gA a2 12) (n - 1) 1 := by
          intro d
          obtain ⟨k, hk⟩ : ∃ k, n = k + 1 := ⟨n - 1, by omega⟩
          have g0 := hgM 0 (by omega)
          rw [hk, Nat.add_sub_cancel]
          conv => lhs; unfold allF
          rw [if_pos (by rw [show ((0 : Nat) : Int) = 0 from rfl, Int.mul_zero, wv_0, Int.mul_one]; exact Int.emod_eq_of_lt g0.2.1 g0.2.2)]
        have kM := M_tr35 (F := F) (by omega) hI c hn8 hn1 (g := gA a2 12) (fit := fun d => allF (fun t => gA a2 12 0 * wvS (svw σ2) ((d : Int) * t) (plS (svw σ2) p0) % PR (svw σ2 0)) (gA a2 12) (n - 1) 1) (fun v d hv hd => by rw [← hfm]; exact allF_congr (n := n) (fun t ht => eT_eq hI hgn) n 0 (by omega)) (svw σ2 0).toNat F 0 0 a2 hVa hgM (by omega) (Or.inr (Or.inl rfl)) (by omega) (by omega)
        have kW := W_tr64 (F := F) (by omega) hI hWa c hgn.1 hn8 hn1 hgW (fit := fun d => allF (fun t => gA a2 12 0 * wvS (svw σ2) ((d : Int) * t) (plS (svw σ2) p0) % PR (svw σ2 0)) (gA a2 12) (n - 1) 1) (fun d hd => rfl) (svw σ2 0).toNat F 0 0 (-1) (by omega) (fun _ => rfl) (fun h => absurd rfl h) (by omega) (by omega)
        have hst : stT (svw σ2) p0 (gA a2 12 0) ((0 : Nat) : Int) = gA a2 12 0 * INV (PR (svw σ2 0)) (gnS (svw σ2) p0) % PR (svw σ2 0) := by
          have e : gnS (svw σ2) p0 * wvS (svw σ2) ((0 : Nat) : Int) (plS (svw σ2) p0) % PR (svw σ2 0) = gnS (svw σ2) p0 := by
            rw [show ((0 : Nat) : Int) = 0 from rfl, wv_0, Int.mul_one]; exact Int.emod_eq_of_lt (by omega) hgn.2
          unfold stT
          rw [e, if_neg c3]
        refine ev_e kW (hM2 _ (ev_e kM ?_))
        generalize cD (fun d => allF (fun t => gA a2 12 0 * wvS (svw σ2) ((d : Int) * t) (plS (svw σ2) p0) % PR (svw σ2 0)) (gA a2 12) (n - 1) 1) (svw σ2 0).toNat 0 = T
        generalize ffD (fun d => allF (fun t => gA a2 12 0 * wvS (svw σ2) ((d : Int) * t) (plS (svw σ2) p0) % PR (svw σ2 0)) (gA a2 12) (n - 1) 1) (svw σ2 0).toNat 0 = fd
        rw [Nat.zero_add, Nat.zero_add, hst]
        refine ⟨?_, ?_⟩
        · rw [Int.natCast_mul, Int.mul_comm]
          congr 1; omega
        · by_cases z : T = 0
          · rw [if_neg (by omega), if_neg (by rw [z]; omega)]
            exact hz
          · have : 0 < (svw σ2 0).toNat := by omega
            rw [if_pos z, if_pos rfl, if_pos ⟨rfl, Nat.ne_of_gt (Nat.mul_pos this (by omega))⟩]
            exact RR_track hz rfl
  · refine ev_hasH' hWa.2.1 (by omega) (fun h => absurd h c) (fun _ => ?_)
    refine ev_g (by decide) ?_
    rw [if_pos rfl]
    refine ev_s (hM _ (ev_isHearer' (hVa.1 1) (by omega) (fun h => absurd h c) (fun _ => ?_)))
    refine ev_g (by decide) ?_
    rw [if_pos rfl]
    exact ev_s ⟨rfl, hz⟩
end
