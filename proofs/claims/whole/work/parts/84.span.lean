/-! PURE PART: what is made of columns -/
/-- v is made of the columns of x, at the places of H -/
def MkL (p : Int) (H : Nat → Prop) (col : Nat → Nat → Int) : List Nat → (Nat → Int) → Prop
  | [], v => ∀ h, H h → v h % p = 0
  | d :: x, v => ∃ c : Int, MkL p H col x (fun h => v h - c * col d h)
section
variable {p : Int} {H : Nat → Prop} {col : Nat → Nat → Int}
theorem Mk_congr : ∀ (x : List Nat) {u v : Nat → Int}, (∀ h, H h → u h % p = v h % p) → MkL p H col x u → MkL p H col x v
  | [], u, v, e, h => fun k hk => by rw [← e k hk]; exact h k hk
  | d :: x, u, v, e, h => by
    obtain ⟨c, h⟩ := h
    exact ⟨c, Mk_congr x (fun k hk => em_sub (e k hk) rfl) h⟩
theorem Mk_zero : ∀ (x : List Nat) {v : Nat → Int}, (∀ h, H h → v h % p = 0) → MkL p H col x v
  | [], v, e => e
  | d :: x, v, e => ⟨0, Mk_congr x (u := v) (fun k hk => by rw [show v k - 0 * col d k = v k by simp]) (Mk_zero x e)⟩
theorem Mk_lin (c : Int) : ∀ (x : List Nat) {u v : Nat → Int}, MkL p H col x u → MkL p H col x v → MkL p H col x (fun h => u h + c * v h)
  | [], u, v, h, g => fun k hk => by
    show (u k + c * v k) % p = 0
    rw [show (u k + c * v k) % p = (0 + c * 0) % p from em_add (by rw [h k hk, Int.zero_emod]) (em_mul rfl (by rw [g k hk, Int.zero_emod]))]; simp
  | d :: x, u, v, h, g => by
    obtain ⟨a, h⟩ := h
    obtain ⟨b, g⟩ := g
    refine ⟨a + c * b, Mk_congr x (fun k _ => ?_) (Mk_lin c x h g)⟩
    congr 1; grind
theorem Mk_left (b : List Nat) : ∀ (a : List Nat) {v : Nat → Int}, MkL p H col a v → MkL p H col (a ++ b) v
  | [], v, h => Mk_zero b h
  | d :: a, v, h => by
    obtain ⟨c, h⟩ := h
    exact ⟨c, Mk_left b a h⟩
theorem Mk_mid (d : Nat) (y : List Nat) : ∀ (a : List Nat) {v : Nat → Int}, MkL p H col (a ++ d :: y) v ↔ ∃ c, MkL p H col (a ++ y) (fun h => v h - c * col d h)
  | [], v => Iff.rfl
  | e :: a, v => by
    constructor
    · rintro ⟨c, h⟩
      obtain ⟨c', h⟩ := (Mk_mid d y a).mp h
      exact ⟨c', c, Mk_congr _ (fun k _ => by congr 1; grind) h⟩
    · rintro ⟨c', c, h⟩
      exact ⟨c, (Mk_mid d y a).mpr ⟨c', Mk_congr _ (fun k _ => by congr 1; grind) h⟩⟩
/-- a column that is made of those ahead isn't wanted -/
theorem Mk_ins {d : Nat} {y a : List Nat} {v : Nat → Int} (h : MkL p H col (a ++ d :: y) v) (g : MkL p H col a (col d)) : MkL p H col (a ++ y) v := by
  obtain ⟨c, h⟩ := (Mk_mid d y a).mp h
  exact Mk_congr _ (fun k _ => by congr 1; grind) (Mk_lin c _ h (Mk_left y a g))
def lst (ds : Nat → Nat) (L : Nat) : List Nat := (List.range L).map ds
theorem lst_succ {ds : Nat → Nat} {L : Nat} : lst ds (L + 1) = lst ds L ++ [ds L] := by
  unfold lst
  rw [List.range_succ, List.map_append]; rfl
theorem lst_len {ds : Nat → Nat} {L : Nat} : (lst ds L).length = L := by unfold lst; simp
theorem lst_congr {ds es : Nat → Nat} {L : Nat} (h : ∀ i, i < L → ds i = es i) : lst ds L = lst es L := by
  unfold lst
  refine List.map_congr_left (fun i hi => h i (List.mem_range.mp hi))
/-- what is left of v when the chosen columns are taken off, each by its place -/
def RD (p : Int) (col : Nat → Nat → Int) (ds A : Nat → Nat) : Nat → (Nat → Int) → Nat → Int
  | 0, v, h => v h
  | L + 1, v, h => (RD p col ds A L v h - RD p col ds A L v (A L) * (RD p col ds A L (col (ds L)) h * INV p (RD p col ds A L (col (ds L)) (A L)) % p)) % p
/-- the base's column -/
def BS (p : Int) (col : Nat → Nat → Int) (ds A : Nat → Nat) (i h : Nat) : Int := RD p col ds A i (col (ds i)) h * INV p (RD p col ds A i (col (ds i)) (A i)) % p
theorem RD_succ {ds A : Nat → Nat} {L h : Nat} {v : Nat → Int} : RD p col ds A (L + 1) v h = (RD p col ds A L v h - RD p col ds A L v (A L) * BS p col ds A L h) % p := rfl
theorem RD_congr {ds A ds' A' : Nat → Nat} : ∀ (L : Nat) {v : Nat → Int} {h : Nat}, (∀ i, i < L → ds' i = ds i) → (∀ i, i < L → A' i = A i) → RD p col ds' A' L v h = RD p col ds A L v h
  | 0, v, h, _, _ => rfl
  | L + 1, v, h, h1, h2 => by
    have e : ∀ (v : Nat → Int) (h : Nat), RD p col ds' A' L v h = RD p col ds A L v h := fun v h => RD_congr L (fun i hi => h1 i (by omega)) (fun i hi => h2 i (by omega))
    unfold RD
    rw [h1 L (by omega), h2 L (by omega), e, e, e, e]
theorem BS_congr {ds A ds' A' : Nat → Nat} {i h : Nat} (h1 : ∀ j, j ≤ i → ds' j = ds j) (h2 : ∀ j, j ≤ i → A' j = A j) : BS p col ds' A' i h = BS p col ds A i h := by
  unfold BS
  rw [h1 i (by omega), h2 i (by omega), RD_congr i (fun j hj => h1 j (by omega)) (fun j hj => h2 j (by omega)), RD_congr i (fun j hj => h1 j (by omega)) (fun j hj => h2 j (by omega))]
theorem RD_lin {ds A : Nat → Nat} (c : Int) : ∀ (L : Nat) {u v : Nat → Int} {h : Nat}, RD p col ds A L (fun k => v k - c * u k) h % p = (RD p col ds A L v h - c * RD p col ds A L u h) % p
  | 0, u, v, h => rfl
  | L + 1, u, v, h => by
    have e : ∀ h, RD p col ds A L (fun k => v k - c * u k) h % p = (RD p col ds A L v h - c * RD p col ds A L u h) % p := fun h => RD_lin c L
    rw [RD_succ, RD_succ, RD_succ, em_mod]
    rw [show (RD p col ds A L (fun k => v k - c * u k) h - RD p col ds A L (fun k => v k - c * u k) (A L) * BS p col ds A L h) % p = ((RD p col ds A L v h - c * RD p col ds A L u h) - (RD p col ds A L v (A L) - c * RD p col ds A L u (A L)) * BS p col ds A L h) % p from em_sub (e h) (em_mul (e (A L)) rfl)]
    rw [show ((RD p col ds A L v h - RD p col ds A L v (A L) * BS p col ds A L h) % p - c * ((RD p col ds A L u h - RD p col ds A L u (A L) * BS p col ds A L h) % p)) % p = ((RD p col ds A L v h - RD p col ds A L v (A L) * BS p col ds A L h) - c * (RD p col ds A L u h - RD p col ds A L u (A L) * BS p col ds A L h)) % p from em_sub em_mod (em_mul rfl em_mod)]
    congr 1; grind
theorem RD_can (hp : 0 < p) {ds A : Nat → Nat} {v : Nat → Int} {h : Nat} (hv : 0 ≤ v h ∧ v h < p) : ∀ L, 0 ≤ RD p col ds A L v h ∧ RD p col ds A L v h < p
  | 0 => hv
  | L + 1 => modb hp
end
section
variable {n : Int} {H : Nat → Prop} {col : Nat → Nat → Int} {ds A : Nat → Nat}
theorem BS_one (hn : wayN n) {i : Nat} (h : 0 < RD (PR n) col ds A i (col (ds i)) (A i) ∧ RD (PR n) col ds A i (col (ds i)) (A i) < PR n) : BS (PR n) col ds A i (A i) = 1 := by
  unfold BS
  rw [Int.mul_comm]; exact (INV_mul hn h).1
/-- the places of the chosen ones are done -/
theorem RD_z (hn : wayN n) : ∀ (L : Nat) {v : Nat → Int} {j : Nat}, (∀ i, i < L → 0 < RD (PR n) col ds A i (col (ds i)) (A i) ∧ RD (PR n) col ds A i (col (ds i)) (A i) < PR n) → j < L → RD (PR n) col ds A L v (A j) % PR n = 0
  | 0, _, _, _, h => by omega
  | L + 1, v, j, hb, hj => by
    rw [RD_succ, em_mod]
    by_cases c : j = L
    · rw [c, BS_one hn (hb L (by omega)), Int.mul_one, Int.sub_self, Int.zero_emod]
    · have e1 := RD_z hn L (v := v) (fun i hi => hb i (by omega)) (show j < L by omega)
      have e2 := RD_z hn L (v := col (ds L)) (fun i hi => hb i (by omega)) (show j < L by omega)
      have e3 : BS (PR n) col ds A L (A j) % PR n = 0 % PR n := by
        unfold BS
        rw [em_mod, show (RD (PR n) col ds A L (col (ds L)) (A j) * INV (PR n) (RD (PR n) col ds A L (col (ds L)) (A L))) % PR n = (0 * INV (PR n) (RD (PR n) col ds A L (col (ds L)) (A L))) % PR n from em_mul (by rw [e2, Int.zero_emod]) rfl, Int.zero_mul]
      rw [show (RD (PR n) col ds A L v (A j) - RD (PR n) col ds A L v (A L) * BS (PR n) col ds A L (A j)) % PR n = (0 - RD (PR n) col ds A L v (A L) * 0) % PR n from em_sub (by rw [e1, Int.zero_emod]) (em_mul rfl e3)]
      simp
theorem mk_core {p R Rh Ra E e s c B : Int} (h1 : (Rh - c * E) % p = 0) (h2 : (Ra - c * e) % p = 0) (h3 : s * e % p = 1 % p) (hB : B % p = E * s % p) (hR : R = Rh) : (R - Ra * B) % p = 0 := by
  subst hR
  rw [show (R - Ra * B) % p = (R - Ra * (E * s)) % p from em_sub rfl (em_mul rfl hB)]
  obtain ⟨k1, h1⟩ := Int.dvd_of_emod_eq_zero h1
  obtain ⟨k2, h2⟩ := Int.dvd_of_emod_eq_zero h2
  obtain ⟨k3, h3⟩ := Int.dvd_of_emod_eq_zero (Int.emod_eq_emod_iff_emod_sub_eq_zero.mp h3)
  refine Int.emod_eq_zero_of_dvd ⟨k1 - c * k3 * E - k2 * E * s, ?_⟩
  have r1 : R = c * E + p * k1 := by omega
  have r2 : Ra = c * e + p * k2 := by omega
  have r3 : s * e = 1 + p * k3 := by omega
  rw [r1, r2]
  grind
theorem Mk_RD (hn : wayN n) : ∀ (L : Nat) {v : Nat → Int}, (∀ i, i < L → 0 < RD (PR n) col ds A i (col (ds i)) (A i) ∧ RD (PR n) col ds A i (col (ds i)) (A i) < PR n) → (∀ i, i < L → H (A i)) → (MkL (PR n) H col (lst ds L) v ↔ ∀ h, H h → RD (PR n) col ds A L v h % PR n = 0)
  | 0, v, _, _ => Iff.rfl
  | L + 1, v, hb, hA => by
    have ih : ∀ v : Nat → Int, MkL (PR n) H col (lst ds L) v ↔ ∀ h, H h → RD (PR n) col ds A L v h % PR n = 0 := fun v => Mk_RD hn L (fun i hi => hb i (by omega)) (fun i hi => hA i (by omega))
    have hs := (INV_mul hn (hb L (by omega))).1
    rw [lst_succ, Mk_mid, List.append_nil]
    constructor
    · rintro ⟨c, h⟩ k hk
      rw [ih] at h
      have h1 := h k hk
      have h2 := h (A L) (hA L (by omega))
      rw [RD_lin] at h1 h2
      rw [RD_succ, em_mod]
      exact mk_core h1 h2 (by rw [hs]; have := PR_b hn; exact (Int.emod_eq_of_lt (by omega) (by omega)).symm) em_mod rfl
    · intro h
      refine ⟨RD (PR n) col ds A L v (A L) * INV (PR n) (RD (PR n) col ds A L (col (ds L)) (A L)), (ih _).mpr (fun k hk => ?_)⟩
      have h1 := h k hk
      rw [RD_succ, em_mod] at h1
      rw [RD_lin, ← h1]
      refine em_sub rfl ?_
      rw [Int.mul_assoc]
      refine em_mul rfl ?_
      unfold BS
      rw [em_mod, Int.mul_comm]
/-- what the last column must be -/
theorem Mk_last (hn : wayN n) {L d : Nat} {v : Nat → Int} (hb : ∀ i, i < L → 0 < RD (PR n) col ds A i (col (ds i)) (A i) ∧ RD (PR n) col ds A i (col (ds i)) (A i) < PR n) (hA : ∀ i, i < L → H (A i)) (ha : H (A L)) (h0 : 0 < RD (PR n) col ds A L v (A L) ∧ RD (PR n) col ds A L v (A L) < PR n) (hc : 0 ≤ RD (PR n) col ds A L (col d) (A L) ∧ RD (PR n) col ds A L (col d) (A L) < PR n) : MkL (PR n) H col (lst ds L ++ [d]) v ↔ RD (PR n) col ds A L (col d) (A L) ≠ 0 ∧ ∀ h, H h → (RD (PR n) col ds A L (col d) h * RD (PR n) col ds A L v (A L)) % PR n = (RD (PR n) col ds A L (col d) (A L) * RD (PR n) col ds A L v h) % PR n := by
  have hp := PR_b hn
  rw [Mk_mid, List.append_nil]
  constructor
  · rintro ⟨c, h⟩
    rw [Mk_RD hn L hb hA] at h
    have h2 := h (A L) ha
    rw [RD_lin] at h2
    refine ⟨fun z => ?_, fun k hk => ?_⟩
    · rw [z, Int.mul_zero, Int.sub_zero, Int.emod_eq_of_lt (by omega) (by omega)] at h2
      omega
    · have h1 := h k hk
      rw [RD_lin] at h1
      obtain ⟨k1, h1⟩ := Int.dvd_of_emod_eq_zero h1
      obtain ⟨k2, h2⟩ := Int.dvd_of_emod_eq_zero h2
      refine Int.emod_eq_emod_iff_emod_sub_eq_zero.mpr (Int.emod_eq_zero_of_dvd ⟨RD (PR n) col ds A L (col d) k * k2 - RD (PR n) col ds A L (col d) (A L) * k1, ?_⟩)
      generalize RD (PR n) col ds A L (col d) k = E at *
      generalize RD (PR n) col ds A L (col d) (A L) = e at *
      generalize RD (PR n) col ds A L v k = R at *
      generalize RD (PR n) col ds A L v (A L) = Ra at *
      have r1 : R = c * E + PR n * k1 := by omega
      have r2 : Ra = c * e + PR n * k2 := by omega
      rw [r1, r2]
      grind
  · rintro ⟨z, h⟩
    have hs := (INV_mul hn (a := RD (PR n) col ds A L (col d) (A L)) (by omega)).1
    refine ⟨RD (PR n) col ds A L v (A L) * INV (PR n) (RD (PR n) col ds A L (col d) (A L)), (Mk_RD hn L hb hA).mpr (fun k hk => ?_)⟩
    have h1 := h k hk
    rw [RD_lin]
    generalize RD (PR n) col ds A L (col d) k = E at *
    generalize INV (PR n) (RD (PR n) col ds A L (col d) (A L)) = s at *
    generalize RD (PR n) col ds A L (col d) (A L) = e at *
    generalize RD (PR n) col ds A L v k = R at *
    generalize RD (PR n) col ds A L v (A L) = Ra at *
    obtain ⟨k1, h1⟩ := Int.dvd_of_emod_eq_zero (Int.emod_eq_emod_iff_emod_sub_eq_zero.mp h1)
    have h3 : s * e % PR n = 1 % PR n := by rw [hs]; exact (Int.emod_eq_of_lt (by omega) (by omega)).symm
    obtain ⟨k3, h3⟩ := Int.dvd_of_emod_eq_zero (Int.emod_eq_emod_iff_emod_sub_eq_zero.mp h3)
    refine Int.emod_eq_zero_of_dvd ⟨- k3 * R - s * k1, ?_⟩
    have r1 : E * Ra = e * R + PR n * k1 := by omega
    have r3 : s * e = 1 + PR n * k3 := by omega
    grind
end
