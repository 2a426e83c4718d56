/-! PURE PART: liars -/
def hoP (s g : Nat → Int) (k S : Nat) : Prop := ∃ i, i ≤ k ∧ (en (s 0).toNat i 0).any (Gm s S g) = true
def lyS (n a b : Nat) : Nat := if n = 0 then 0 else 2 ^ a ||| 2 ^ b
/-- what the search for liars changes -/
def WLF (σ σ' : St) : Prop := (∀ q, q ≠ 6080 → q ≠ 6086 → q ≠ 6092 → q ≠ 1217 → gF σ' q = gF σ q) ∧ ∀ a, a ≠ 20 → a ≠ 96 → a ≠ 98 → a ≠ 101 → a ≠ 102 → a < 209 ∨ a = 212 ∨ 215 ≤ a → ∀ i, gA σ' a i = gA σ a i
theorem WLF.rf {σ : St} : WLF σ σ := ⟨fun _ _ _ _ _ => rfl, fun _ _ _ _ _ _ _ _ => rfl⟩
theorem WLF.tr {a b c : St} (h : WLF a b) (g : WLF b c) : WLF a c := ⟨fun q h1 h2 h3 h4 => (g.1 q h1 h2 h3 h4).trans (h.1 q h1 h2 h3 h4), fun x h0 h1 h2 h3 h4 h5 i => (g.2 x h0 h1 h2 h3 h4 h5 i).trans (h.2 x h0 h1 h2 h3 h4 h5 i)⟩
theorem SKF.L {a b : St} (h : SKF a b) : WLF a b := ⟨fun q h1 h2 h3 _ => h.1 q h1 h2 h3, fun x _ h1 h2 h3 h4 h5 i => h.2 x h1 h2 h3 h4 h5 i⟩
def TLs (σ0 σ : St) (n c : Nat) (f : Int) : Prop := (c = 0 → gF σ 1217 = gF σ0 1217 ∧ ∀ i, gA σ 20 i = gA σ0 20 i) ∧ (0 < c → gF σ 1217 = (n : Nat) ∧ (1 ≤ n → gA σ 20 0 = f / 10) ∧ (2 ≤ n → gA σ 20 1 = f % 10) ∧ 0 ≤ f ∧ f ≤ 99)
def JL (s g : Nat → Int) (σ0 τ0 σ1 σ2 : St) (n c : Nat) (f : Int) : Prop := KR σ1 s g ∧ gF σ1 5059 = s 1 ∧ MV σ2 s ∧ (∀ h : Nat, (h : Int) < s 1 → gA σ2 12 h = g h) ∧ TLs σ0 σ1 n c f ∧ WLF σ0 σ1 ∧ MPF τ0 σ2
section
variable {F : Nat} {s : Nat → Int} {g : Nat → Int}
theorem ho_fu {S k : Nat} {r : Int} (h : (∃ k' : Nat, k' ≤ k ∧ r = k' ∧ (∀ j, j < k' → (cntK s true (Gm s S g) j).1 = 0) ∧ 0 < (cntK s true (Gm s S g) k').1) ∨ (r = -1 ∧ ∀ j, j ≤ k → (cntK s true (Gm s S g) j).1 = 0)) : (r = -1 ∧ ¬ hoP s g k S) ∨ (0 ≤ r ∧ r ≤ k ∧ hoP s g k S) := by
  rcases h with ⟨k', h1, h2, h3, h4⟩ | ⟨h1, h2⟩
  · obtain ⟨g1, g2⟩ := cnt_len h4
    exact Or.inr ⟨by omega, by omega, k', h1, List.any_eq_true.mpr ⟨_, g1, g2⟩⟩
  · refine Or.inl ⟨h1, ?_⟩
    rintro ⟨i, hi, ha⟩
    obtain ⟨x, hx, hG⟩ := List.any_eq_true.mp ha
    have := (fol_zero (one := true) (G := Gm s S g) (en (s 0).toNat i 0) (z := (0, [])) rfl).mp (h2 i hi) x hx
    rw [this] at hG
    cases hG
theorem ly_km {n a b h : Nat} (ha : a < 10) (hb : b < 10) : kmP (lyS n a b) h = true ↔ (n = 0 ∨ (h ≠ a ∧ h ≠ b)) := by
  unfold kmP lyS
  by_cases c : n = 0
  · rw [if_pos c]; simp [c]
  · rw [if_neg c, Nat.testBit_or, Nat.testBit_two_pow, Nat.testBit_two_pow]
    have e : (!(decide (a = h) || decide (b = h))) = true ↔ ¬ (a = h ∨ b = h) := by simp
    rw [e]
    omega
theorem ly_lt {n a b : Nat} (ha : a < 10) (hb : b < 10) : lyS n a b < 1024 := by
  unfold lyS
  split
  · omega
  · have h1 : 2 ^ a < 2 ^ 10 := Nat.pow_lt_pow_right (by omega) ha
    have h2 : 2 ^ b < 2 ^ 10 := Nat.pow_lt_pow_right (by omega) hb
    have := Nat.or_lt_two_pow h1 h2
    omega
/-- one try of the class's -/
theorem W_l56s (hF : 200 ≤ F) (hI : MI s) (hg : ∀ h : Nat, (h : Int) < s 1 → 0 ≤ g h ∧ g h < PR (s 0)) (k22 : St → Int → Int → Int → Int → Int → Option (Int × St)) {n k c a z y m : Nat} {x4 x6 : Int} (hn : n ≤ 2) (hk : k ≤ 2) (ha : a < 10) (hz : z < 11) (hx6 : (z : Int) < x6 ∧ x6 ≤ 20) (hc : c ≤ 1000) (hy : (n = 2 → y = z ∧ y < 10) ∧ (n = 1 → y = a) ∧ (n = 0 → y = 0)) {σ : St} (hK : KR σ s g) : ∃ b σ', (b = true ↔ hoP s g k (lyS n a y)) ∧ KR σ' s g ∧ WLF σ σ' ∧ l_W_findLiars_56 F k22 (m + 1) σ (n : Nat) (k : Nat) (c : Nat) x4 (a : Nat) x6 (z : Nat) = l_W_findLiars_56 F k22 m σ' (n : Nat) (k : Nat) ((if b = true then c + 1 else c : Nat) : Int) x4 (a : Nat) x6 ((z + 1 : Nat) : Int) ∧ ((b = true ∧ c = 0) → gF σ' 1217 = (n : Nat) ∧ gA σ' 20 0 = (a : Nat) ∧ gA σ' 20 1 = (z : Nat)) ∧ (¬ (b = true ∧ c = 0) → gF σ' 1217 = gF σ 1217 ∧ ∀ i, gA σ' 20 i = gA σ 20 i) := by
  have hG : ∀ x : List Nat, x.length ≤ 3 → (Gm s (lyS n a y) g x = true ↔ MkL (PR (s 0)) (HH s (lyS n a y)) (clS s) x g) := fun x _ => Gm_iff hI hg x
  have hy10 : y < 10 := by omega
  have try1 : ∀ pa pb : Int, rng pa ∧ rng pb → (∀ h : Nat, h < 10 → ((n = 0 ∨ (h ≠ a ∧ h ≠ y)) ↔ (h : Int) ≠ pa ∧ (h : Int) ≠ pb)) → ∃ r s1 s2, f_Makers_hearAllBut F σ pa pb = some (0, s1) ∧ f_Makers_fewestUpTo F s1 (k : Nat) 1 = some (r, s2) ∧ KR s2 s g ∧ SKF σ s2 ∧ ((r = -1 ∧ ¬ hoP s g k (lyS n a y)) ∨ (0 ≤ r ∧ r ≤ k ∧ hoP s g k (lyS n a y))) := fun pa pb hab hS => by
    obtain ⟨s1, c1, c2, c3, c4, c5⟩ := W_hab (F := F) (S := lyS n a y) hI (by omega) hab (fun h hh => (ly_km ha hy10).trans (hS h hh)) hK
    obtain ⟨r, s2, d1, d2, d3, d4⟩ := W_fu (F := F) (S := lyS n a y) (one := true) (most := k) hI hF (by omega) (fun h hh => hg h hh.1) hG c2 c4 c5
    refine ⟨r, s1, s2, c1, d1, d2, c3.tr d3, ho_fu ?_⟩
    rcases d4 with ⟨k', q1, q2, q3, q4, -⟩ | h
    · exact Or.inl ⟨k', q1, q2, q3, q4⟩
    · exact Or.inr h
  have tell : ∀ s2 : St, f_W_tellLiars F s2 (n : Nat) (a : Nat) (z : Nat) = some (0, sA (sA (sF s2 1217 (n : Nat)) 20 0 (a : Nat)) 20 1 (z : Nat)) := fun s2 => by
    unfold f_W_tellLiars
    rw [bs_s, gd_t (by decide), bs_s, gd_t (by decide), bs_s]; rfl
  have fin : ∀ (pa pb : Int), (∃ r s1 s2, f_Makers_hearAllBut F σ pa pb = some (0, s1) ∧ f_Makers_fewestUpTo F s1 (k : Nat) 1 = some (r, s2) ∧ KR s2 s g ∧ SKF σ s2 ∧ ((r = -1 ∧ ¬ hoP s g k (lyS n a y)) ∨ (0 ≤ r ∧ r ≤ k ∧ hoP s g k (lyS n a y)))) → (l_W_findLiars_56 F k22 (m + 1) σ (n : Nat) (k : Nat) (c : Nat) x4 (a : Nat) x6 (z : Nat) = bnd (f_Makers_hearAllBut F σ pa pb) fun r5 σ6 => bnd (f_Makers_fewestUpTo F σ6 (k : Nat) 1) fun r7 σ8 => gd (rng r7 ∧ rng (-1)) (if r7 = (-1) then bv ((z : Int) + 1) fun x7_9 => l_W_findLiars_56 F k22 m σ8 (n : Nat) (k : Nat) (c : Nat) x4 (a : Nat) x6 x7_9 else bv (((c : Nat) : Int) + 1) fun x3_10 => gd (rng x3_10 ∧ rng 1) (if x3_10 = 1 then bnd (f_W_tellLiars F σ8 (n : Nat) (a : Nat) (z : Nat)) fun r12 σ13 => bv ((z : Int) + 1) fun x7_14 => l_W_findLiars_56 F k22 m σ13 (n : Nat) (k : Nat) x3_10 x4 (a : Nat) x6 x7_14 else bv ((z : Int) + 1) fun x7_11 => l_W_findLiars_56 F k22 m σ8 (n : Nat) (k : Nat) x3_10 x4 (a : Nat) x6 x7_11))) → ∃ b σ', (b = true ↔ hoP s g k (lyS n a y)) ∧ KR σ' s g ∧ WLF σ σ' ∧ l_W_findLiars_56 F k22 (m + 1) σ (n : Nat) (k : Nat) (c : Nat) x4 (a : Nat) x6 (z : Nat) = l_W_findLiars_56 F k22 m σ' (n : Nat) (k : Nat) ((if b = true then c + 1 else c : Nat) : Int) x4 (a : Nat) x6 ((z + 1 : Nat) : Int) ∧ ((b = true ∧ c = 0) → gF σ' 1217 = (n : Nat) ∧ gA σ' 20 0 = (a : Nat) ∧ gA σ' 20 1 = (z : Nat)) ∧ (¬ (b = true ∧ c = 0) → gF σ' 1217 = gF σ 1217 ∧ ∀ i, gA σ' 20 i = gA σ 20 i) := by
    rintro pa pb ⟨r, s1, s2, e1, e2, e3, e4, e5⟩ e
    rw [e, e1, bnd_s, e2, bnd_s]
    have u1 : gF s2 1217 = gF σ 1217 := e4.1 _ (by omega) (by omega) (by omega)
    have u2 : ∀ i, gA s2 20 i = gA σ 20 i := fun i => e4.2 20 (by omega) (by omega) (by omega) (by omega) (by omega) i
    rcases e5 with ⟨q1, q2⟩ | ⟨q1, q2, q3⟩
    · refine ⟨false, s2, ⟨fun h => (by cases h), fun h => absurd h q2⟩, e3, e4.L, ?_, fun h => (by cases h.1), fun _ => ⟨u1, u2⟩⟩
      rw [gd_t (by omega), if_pos q1, bv_s]; rfl
    · rw [gd_t (by omega), if_neg (by omega), bv_s, gd_t (by omega)]
      by_cases c0 : c = 0
      · rw [if_pos (by omega), tell, bnd_s, bv_s]
        have w : WLF s2 (sA (sA (sF s2 1217 (n : Nat)) 20 0 (a : Nat)) 20 1 (z : Nat)) := ⟨fun q _ _ _ h => by rw [gF_sA, gF_sA, gF_sF, if_neg h], fun x h _ _ _ _ _ i => by rw [gA_sA, if_neg (fun w => h w.1), gA_sA, if_neg (fun w => h w.1)]; rfl⟩
        refine ⟨true, _, ⟨fun _ => q3, fun _ => rfl⟩, ?_, e4.L.tr w, ?_, fun _ => ⟨by rw [gF_sA, gF_sA, gF_eq], by rw [gA_sA, if_neg (by omega), gA_sA, if_pos ⟨rfl, rfl⟩], by rw [gA_sA, if_pos ⟨rfl, rfl⟩]⟩, fun h => absurd ⟨rfl, c0⟩ h⟩
        · refine ⟨e3.1, e3.2.1, e3.2.2.1, fun d h h1 h2 => ?_, fun h h1 => ?_⟩
          · rw [gA_sA, if_neg (by omega), gA_sA, if_neg (by omega)]; exact e3.2.2.2.1 d h h1 h2
          · rw [gA_sA, if_neg (by omega), gA_sA, if_neg (by omega)]; exact e3.2.2.2.2 h h1
        · rw [if_pos rfl]; rfl
      · rw [if_neg (by omega), bv_s]
        refine ⟨true, s2, ⟨fun _ => q3, fun _ => rfl⟩, e3, e4.L, ?_, fun h => absurd h.2 c0, fun _ => ⟨u1, u2⟩⟩
        rw [if_pos rfl]; rfl
  rcases (show n = 0 ∨ n = 1 ∨ n = 2 by omega) with h | h | h
  · refine fin (-1) (-1) (try1 _ _ (by omega) (fun h' hh => ⟨fun _ => by omega, fun _ => Or.inl h⟩)) ?_
    show b_W_findLiars_56 F k22 _ σ _ _ _ _ _ _ _ = _
    unfold b_W_findLiars_56
    rw [gd_t (by omega), if_neg (by omega), gd_t (by omega), if_pos (by omega), gd_t (by omega), if_pos (by omega)]
  · have := hy.2.1 h
    refine fin (a : Nat) (-1) (try1 _ _ (by omega) (fun h' hh => by omega)) ?_
    show b_W_findLiars_56 F k22 _ σ _ _ _ _ _ _ _ = _
    unfold b_W_findLiars_56
    rw [gd_t (by omega), if_neg (by omega), gd_t (by omega), if_neg (by omega), gd_t (by omega), if_pos (by omega)]
  · have := hy.1 h
    refine fin (a : Nat) (z : Nat) (try1 _ _ (by omega) (fun h' hh => by omega)) ?_
    show b_W_findLiars_56 F k22 _ σ _ _ _ _ _ _ _ = _
    unfold b_W_findLiars_56
    rw [gd_t (by omega), if_neg (by omega), gd_t (by omega), if_neg (by omega), gd_t (by omega), if_neg (by omega)]
/-- one try of the model's -/
theorem M_l94s (hF : 300000 ≤ F) (hI : MI s) (hg : ∀ h : Nat, (h : Int) < s 1 → 0 ≤ g h ∧ g h < PR (s 0)) (k32 : St → Int → Int → Option (Int × St)) (k63 : St → Int → Int → Int → Int → Int → Int → Option (Int × St)) {n k c a y m : Nat} {f : Int} (hn : n ≤ 2) (hk : k ≤ 2) (ha : a < 10) (hy : y < 10) (hy0 : n = 0 → y = 0) (hy1 : n = 1 → y = a) (hy2 : n = 2 → (y : Int) < s 1) (hc : c ≤ 1000) {σ : St} (hV : MV σ s) (h12 : ∀ h : Nat, (h : Int) < s 1 → gA σ 12 h = g h) : ∃ b σ', (b = true ↔ hoP s g k (lyS n a y)) ∧ MPF σ σ' ∧ l_M_liars_94 F k32 k63 (m + 1) σ (k : Nat) (n : Nat) (c : Nat) f (s 1) (a : Nat) (y : Nat) = l_M_liars_94 F k32 k63 m σ' (k : Nat) (n : Nat) ((if b = true then c + 1 else c : Nat) : Int) (if b = true ∧ c = 0 then 10 * (a : Int) + (y : Int) else f) (s 1) (a : Nat) ((y + 1 : Nat) : Int) := by
  have i1 := hI.2.1
  have hS := ly_lt (n := n) ha hy
  obtain ⟨b, σ', k1, k2, k3⟩ := M_isHonest (F := F) (S := lyS n a y) hF hI (by omega) hg hk hV h12
  refine ⟨b, σ', k3, k2, ?_⟩
  have hp : ∀ e : Nat, e < 10 → 2 ^ e < 2147483648 := fun e he => by
    have : 2 ^ e < 2 ^ 10 := Nat.pow_lt_pow_right (by omega) he
    omega
  have hc2 : ∀ e : Nat, (1 : Int) * 2 ^ (Int.toNat (e : Nat)) = ((2 ^ e : Nat) : Int) := fun e => by rw [Int.toNat_natCast, Int.one_mul]; simp
  have fin : (gd (rng (bi b)) (if bi b = 0 then bv ((y : Int) + 1) fun x7_65 => l_M_liars_94 F k32 k63 m σ' (k : Nat) (n : Nat) (c : Nat) f (s 1) (a : Nat) x7_65 else gd (rng ((c : Nat) : Int)) (if ((c : Nat) : Int) = 0 then bv ((10 * (a : Int)) + (y : Int)) fun x4_62 => bv (((c : Nat) : Int) + 1) fun x3_63 => bv ((y : Int) + 1) fun x7_64 => l_M_liars_94 F k32 k63 m σ' (k : Nat) (n : Nat) x3_63 x4_62 (s 1) (a : Nat) x7_64 else bv (((c : Nat) : Int) + 1) fun x3_60 => bv ((y : Int) + 1) fun x7_61 => l_M_liars_94 F k32 k63 m σ' (k : Nat) (n : Nat) x3_60 f (s 1) (a : Nat) x7_61))) = l_M_liars_94 F k32 k63 m σ' (k : Nat) (n : Nat) ((if b = true then c + 1 else c : Nat) : Int) (if b = true ∧ c = 0 then 10 * (a : Int) + (y : Int) else f) (s 1) (a : Nat) ((y + 1 : Nat) : Int) := by
    cases b with
    | false => rw [gd_t (by decide), if_pos (show bi false = 0 from rfl), bv_s]; rfl
    | true =>
      rw [gd_t (by decide), if_neg (by decide), gd_t (by omega)]
      by_cases c0 : c = 0
      · rw [if_pos (by omega), bv_s, bv_s, bv_s, if_pos rfl, if_pos ⟨rfl, c0⟩]; rfl
      · rw [if_neg (by omega), bv_s, bv_s, if_pos rfl, if_neg (fun h => c0 h.2)]; rfl
  rw [← fin]
  show b_M_liars_94 F k32 k63 _ σ _ _ _ _ _ _ _ = _
  unfold b_M_liars_94
  rcases (show n = 0 ∨ n = 1 ∨ n = 2 by omega) with h | h | h
  · have hz : lyS n a y = 0 := by unfold lyS; rw [if_pos h]
    rw [hz] at k1
    rw [gd_t (by omega), if_pos (by omega), gd_t (by omega), if_neg (by omega), gd_t (by omega), if_pos (by omega), show f_M_isHonest F σ (k : Nat) 0 = _ from k1, bnd_s]
  · have hz : lyS n a y = 2 ^ a ||| 2 ^ y := by unfold lyS; rw [if_neg (by omega)]
    rw [hz] at k1
    have := hy1 h
    rw [gd_t (by omega), if_neg (by omega), gd_t (by omega), if_pos (by omega), gd_t (by omega), if_neg (by omega), gd_t (by omega), if_neg (by omega), gd_t (by omega), gd_t (by omega), bv_s, hc2, hc2, iorN _ _ (hp a ha) (hp y hy), k1, bnd_s]
  · have hz : lyS n a y = 2 ^ a ||| 2 ^ y := by unfold lyS; rw [if_neg (by omega)]
    rw [hz] at k1
    have := hy2 h
    rw [gd_t (by omega), if_neg (by omega), gd_t (by omega), if_neg (by omega), gd_t (by omega), if_neg (by omega), gd_t (by omega), if_neg (by omega), gd_t (by omega), gd_t (by omega), bv_s, hc2, hc2, iorN _ _ (hp a ha) (hp y hy), k1, bnd_s]
end
