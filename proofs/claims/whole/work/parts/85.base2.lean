/-! PURE PART: what makes the readings, the class's base -/
def clS (s : Nat → Int) (d h : Nat) : Int := gnS s h * wvS s d (plS s h) % PR (s 0)
def HH (s : Nat → Int) (S : Nat) : Nat → Prop := fun h => (h : Int) < s 1 ∧ kmP S h = true
/-- the heard ones in some order -/
def KP (s : Nat → Int) (S cnt : Nat) (A : Nat → Nat) : Prop := cnt ≤ 10 ∧ (∀ i, i < cnt → HH s S (A i)) ∧ (∀ i j, i < j → j < cnt → A i ≠ A j) ∧ ∀ h, HH s S h → ∃ i, i < cnt ∧ A i = h
def KCm (σ : St) (s : Nat → Int) (cnt : Nat) : Prop := gF σ 6082 = PR (s 0) ∧ gF σ 6083 = s 0 ∧ gF σ 6086 = (cnt : Nat) ∧ ∀ d h : Nat, (d : Int) < s 0 → (h : Int) < s 1 → gA σ (149 + d) h = clS s d h
def RDs (s : Nat → Int) (ds A : Nat → Nat) (L : Nat) (v : Nat → Int) (h : Nat) : Int := RD (PR (s 0)) (clS s) ds A L v h
def BSs (s : Nat → Int) (ds A : Nat → Nat) (i h : Nat) : Int := BS (PR (s 0)) (clS s) ds A i h
/-- the hearers' order, the base, what is left of the readings -/
def HBm (σ : St) (s : Nat → Int) (cnt : Nat) (g : Nat → Int) (ds A : Nat → Nat) (L : Nat) : Prop := (∀ i, i < cnt → gA σ 98 i = (A i : Nat)) ∧ (∀ i j, i < L → i ≤ j → j < cnt → gA σ (209 + i) (A j) = BSs s ds A i (A j)) ∧ ∀ i j, i ≤ L → i ≤ j → j < cnt → gA σ (212 + i) (A j) = RDs s ds A i g (A j)
def NZ (s : Nat → Int) (ds A : Nat → Nat) (L : Nat) : Prop := ∀ i, i < L → 0 < RDs s ds A i (clS s (ds i)) (A i) ∧ RDs s ds A i (clS s (ds i)) (A i) < PR (s 0)
def TKF (σ σ' : St) : Prop := (∀ q, gF σ' q = gF σ q) ∧ ∀ a, a ≠ 98 → a ≠ 101 → a < 209 ∨ a = 212 ∨ 215 ≤ a → ∀ i, gA σ' a i = gA σ a i
theorem TKF.rf {σ : St} : TKF σ σ := ⟨fun _ => rfl, fun _ _ _ _ _ => rfl⟩
theorem TKF.tr {a b c : St} (h : TKF a b) (g : TKF b c) : TKF a c := ⟨fun q => (g.1 q).trans (h.1 q), fun x h1 h2 h3 i => (g.2 x h1 h2 h3 i).trans (h.2 x h1 h2 h3 i)⟩
def upN (f : Nat → Nat) (i v : Nat) : Nat → Nat := fun j => if j = i then v else f j
def tau (a b k : Nat) : Nat := if k = a then b else if k = b then a else k
section
variable {F : Nat} {s : Nat → Int} {S cnt : Nat} {g : Nat → Int} {ds A : Nat → Nat}
theorem clS_b (hI : MI s) (d h : Nat) : 0 ≤ clS s d h ∧ clS s d h < PR (s 0) := modb (by have := PR_b hI.1; omega)
theorem RDs_c (hI : MI s) {L d h : Nat} : 0 ≤ RDs s ds A L (clS s d) h ∧ RDs s ds A L (clS s d) h < PR (s 0) := RD_can (by have := PR_b hI.1; omega) (clS_b hI d h) L
theorem RDs_g (hI : MI s) {L h : Nat} (hg : 0 ≤ g h ∧ g h < PR (s 0)) : 0 ≤ RDs s ds A L g h ∧ RDs s ds A L g h < PR (s 0) := RD_can (by have := PR_b hI.1; omega) hg L
theorem BSs_b (hI : MI s) {i h : Nat} : 0 ≤ BSs s ds A i h ∧ BSs s ds A i h < PR (s 0) := modb (by have := PR_b hI.1; omega)
theorem KC_tk (hI : MI s) {σ σ' : St} (h : KCm σ s cnt) (g : TKF σ σ') : KCm σ' s cnt := ⟨by rw [g.1]; exact h.1, by rw [g.1]; exact h.2.1, by rw [g.1]; exact h.2.2.1, fun d h' h1 h2 => by
  have := hI.1
  rw [g.2 _ (by omega) (by omega) (by omega)]; exact h.2.2.2 d h' h1 h2⟩
theorem KP_lt (hI : MI s) (hK : KP s S cnt A) {i : Nat} (hi : i < cnt) : A i < 10 := by
  have := (hK.2.1 i hi).1
  have := hI.2.1
  omega
theorem tau_lt {a b k : Nat} (ha : a < cnt) (hb : b < cnt) (hk : k < cnt) : tau a b k < cnt := by unfold tau; split <;> (try split) <;> omega
theorem tau_ge {a b k i : Nat} (hi : i ≤ a) (hab : a ≤ b) (hk : i ≤ k) : i ≤ tau a b k := by unfold tau; split <;> (try split) <;> omega
theorem tau_low {a b k : Nat} (hab : a ≤ b) (hk : k < a) : tau a b k = k := by unfold tau; rw [if_neg (by omega), if_neg (by omega)]
theorem tau_tau {a b k : Nat} : tau a b (tau a b k) = k := by unfold tau; grind
theorem KP_sw {a b : Nat} (hK : KP s S cnt A) (ha : a < cnt) (hb : b < cnt) : KP s S cnt (fun k => A (tau a b k)) := by
  obtain ⟨k1, k2, k3, k4⟩ := hK
  have inj : ∀ i j, i < cnt → j < cnt → i ≠ j → A i ≠ A j := fun i j hi hj hne => by
    rcases Nat.lt_or_gt_of_ne hne with q | q
    · exact k3 i j q hj
    · exact fun e => k3 j i q hi e.symm
  refine ⟨k1, fun i hi => k2 _ (tau_lt ha hb hi), fun i j hij hj => inj _ _ (tau_lt ha hb (by omega)) (tau_lt ha hb hj) (fun e => ?_), fun h hh => ?_⟩
  · have := congrArg (tau a b) e
    rw [tau_tau, tau_tau] at this
    omega
  · obtain ⟨i, hi, e⟩ := k4 h hh
    exact ⟨tau a b i, tau_lt ha hb hi, by show A (tau a b (tau a b i)) = h; rw [tau_tau]; exact e⟩
theorem HB_sw {σ : St} {L j : Nat} (h : HBm σ s cnt g ds A L) (hLj : L ≤ j) (hj : j < cnt) : HBm (sA (sA σ 98 j (A L : Nat)) 98 L (A j : Nat)) s cnt g ds (fun k => A (tau L j k)) L := by
  obtain ⟨h1, h2, h3⟩ := h
  refine ⟨fun i hi => ?_, fun i k hi hk hk2 => ?_, fun i k hi hk hk2 => ?_⟩
  · rw [gA_sA, gA_sA]
    show _ = ((A (tau L j i) : Nat) : Int)
    unfold tau
    by_cases c : i = L
    · rw [if_pos ⟨rfl, c⟩, if_pos c]
    · rw [if_neg (fun z => c z.2), if_neg c]
      by_cases c2 : i = j
      · rw [if_pos ⟨rfl, c2⟩, if_pos c2]
      · rw [if_neg (fun z => c2 z.2), if_neg c2]; exact h1 i hi
  · rw [gA_sA, if_neg (by omega), gA_sA, if_neg (by omega)]
    rw [h2 i _ hi (tau_ge (by omega) hLj hk) (tau_lt (by omega) hj hk2)]
    exact (BS_congr (fun _ _ => rfl) (fun q hq => by show A (tau L j q) = A q; rw [tau_low hLj (by omega)])).symm
  · rw [gA_sA, if_neg (by omega), gA_sA, if_neg (by omega)]
    rw [h3 i _ hi (tau_ge (by omega) hLj hk) (tau_lt (by omega) hj hk2)]
    exact (RD_congr i (fun _ _ => rfl) (fun q hq => by show A (tau L j q) = A q; rw [tau_low hLj (by omega)])).symm
/-- lessBase -/
theorem W_lb (hI : MI s) {dd h L : Nat} (hL : L ≤ 2) (hh : h < 10) {σ : St} (h82 : gF σ 6082 = PR (s 0)) (ht : ∀ i, i < L → gA σ 101 i = RDs s ds A i (clS s dd) (A i)) (hb : ∀ i, i < L → gA σ (209 + i) h = BSs s ds A i h) : ∀ (d m i : Nat) (acc : Int), d < m → i + d = L → acc % PR (s 0) = RDs s ds A i (clS s dd) h % PR (s 0) → 0 ≤ acc → acc ≤ 1500 + 2250000 * (i : Int) → l_Makers_lessBase_13 F m σ (L : Nat) (h : Nat) acc (i : Nat) = some (RDs s ds A L (clS s dd) h, σ)
  | _, 0, _, _, h, _, _, _, _ => absurd h (Nat.not_lt_zero _)
  | 0, m + 1, i, acc, _, hi, he, h0, h1 => by
    have hp := PR_b hI.1
    have hc := RDs_c hI (ds := ds) (A := A) (L := L) (d := dd) (h := h)
    have : i = L := by omega
    subst this
    show b_Makers_lessBase_13 F _ σ _ _ _ _ = _
    unfold b_Makers_lessBase_13
    rw [gd_t (by omega), if_pos (by omega), h82, gd_t ⟨by omega, by omega, by omega⟩, tmE h0, he, Int.emod_eq_of_lt hc.1 hc.2]
  | d + 1, m + 1, i, acc, hm, hi, he, h0, h1 => by
    have hp := PR_b hI.1
    have hc := RDs_c hI (ds := ds) (A := A) (L := i) (d := dd) (h := A i)
    have hbb := BSs_b hI (ds := ds) (A := A) (i := i) (h := h)
    have hm2 := mulb (a := PR (s 0) - RDs s ds A i (clS s dd) (A i)) (b := BSs s ds A i h) (A := 1500) (B := 1500) (by omega) (by omega) (by omega) (by omega)
    have e1 : (acc + (PR (s 0) - RDs s ds A i (clS s dd) (A i)) * BSs s ds A i h) % PR (s 0) = RDs s ds A (i + 1) (clS s dd) h % PR (s 0) := by
      show _ = ((RDs s ds A i (clS s dd) h - RDs s ds A i (clS s dd) (A i) * BSs s ds A i h) % PR (s 0)) % PR (s 0)
      rw [em_mod, show acc + (PR (s 0) - RDs s ds A i (clS s dd) (A i)) * BSs s ds A i h = (acc - RDs s ds A i (clS s dd) (A i) * BSs s ds A i h) + PR (s 0) * BSs s ds A i h by grind, Int.add_mul_emod_self_left]
      exact em_sub he rfl
    have ih := W_lb hI hL hh h82 ht hb d m (i + 1) _ (by omega) (by omega) e1 (by omega) (by omega)
    show b_Makers_lessBase_13 F _ σ _ _ _ _ = _
    unfold b_Makers_lessBase_13
    rw [gd_t (by omega), if_neg (by omega), gd_t (by omega), bv_s, gd_t (by omega), gd_t (by omega), bv_s, bv_s, bv_s, Int.toNat_natCast, Int.toNat_natCast, ht i (by omega), hb i (by omega), h82]
    exact ih
theorem W_less (hI : MI s) (hF : 10 ≤ F) {dd h L : Nat} (hL : L ≤ 2) (hh : (h : Int) < s 1) (hd : (dd : Int) < s 0) {σ : St} (hC : KCm σ s cnt) (ht : ∀ i, i < L → gA σ 101 i = RDs s ds A i (clS s dd) (A i)) (hb : ∀ i, i < L → gA σ (209 + i) h = BSs s ds A i h) : f_Makers_lessBase F σ (L : Nat) (dd : Nat) (h : Nat) = some (RDs s ds A L (clS s dd) h, σ) := by
  have i0 := hI.1
  have i1 := hI.2.1
  have hc := clS_b hI dd h
  have hp := PR_b hI.1
  unfold f_Makers_lessBase
  rw [gd_t (by omega), gd_t (by omega), bv_s, Int.toNat_natCast, Int.toNat_natCast, hC.2.2.2 dd h hd hh]
  exact W_lb (F := F) hI hL (by omega) hC.1 ht hb L F 0 (clS s dd h) (by omega) (by omega) rfl hc.1 (by omega)
/-- findTimes -/
theorem W_ft (hI : MI s) (hF : 10 ≤ F) {dd L : Nat} (hL : L ≤ 2) (hLc : L ≤ cnt) (hd : (dd : Int) < s 0) (hK : KP s S cnt A) : ∀ (d m : Nat) (σ : St) (i : Nat), d < m → i + d = L → KCm σ s cnt → HBm σ s cnt g ds A L → (∀ j, j < i → gA σ 101 j = RDs s ds A j (clS s dd) (A j)) → ∃ σ', l_Makers_findTimes_2 F m σ (L : Nat) (dd : Nat) (i : Nat) = some (0, σ') ∧ (∀ j, j < L → gA σ' 101 j = RDs s ds A j (clS s dd) (A j)) ∧ (∀ q, gF σ' q = gF σ q) ∧ ∀ a, a ≠ 101 → ∀ i, gA σ' a i = gA σ a i
  | _, 0, _, _, h, _, _, _, _ => by omega
  | 0, m + 1, σ, i, _, hi, hC, hB, ht => by
    refine ⟨σ, ?_, fun j hj => ht j (by omega), fun _ => rfl, fun _ _ _ => rfl⟩
    show b_Makers_findTimes_2 F _ σ _ _ _ = _
    unfold b_Makers_findTimes_2
    rw [gd_t (by omega), if_pos (by omega)]
  | d + 1, m + 1, σ, i, hm, hi, hC, hB, ht => by
    have h1 := hK.2.1 i (by omega)
    have hl := W_less (cnt := cnt) (ds := ds) (A := A) hI hF (dd := dd) (h := A i) (L := i) (by omega) h1.1 hd hC (fun j hj => ht j hj) (fun j hj => hB.2.1 j i (by omega) (by omega) (by omega))
    obtain ⟨σ', k1, k2, k3, k4⟩ := W_ft hI hF hL hLc hd hK d m (sA σ 101 i (RDs s ds A i (clS s dd) (A i))) (i + 1) (by omega) (by omega) ⟨hC.1, hC.2.1, hC.2.2.1, fun d' h' a b => by rw [gA_sA, if_neg (by omega)]; exact hC.2.2.2 d' h' a b⟩ ⟨fun j hj => by rw [gA_sA, if_neg (by omega)]; exact hB.1 j hj, fun j k a b c => by rw [gA_sA, if_neg (by omega)]; exact hB.2.1 j k a b c, fun j k a b c => by rw [gA_sA, if_neg (by omega)]; exact hB.2.2 j k a b c⟩ (fun j hj => by
      rw [gA_sA]
      by_cases q : j = i
      · rw [if_pos ⟨rfl, q⟩, q]
      · rw [if_neg (fun z => q z.2)]; exact ht j (by omega))
    refine ⟨σ', ?_, k2, k3, fun a ha j => by rw [k4 a ha, gA_sA, if_neg (fun z => ha z.1)]⟩
    show b_Makers_findTimes_2 F _ σ _ _ _ = _
    unfold b_Makers_findTimes_2
    rw [gd_t (by omega), if_neg (by omega), gd_t (by omega), Int.toNat_natCast, hB.1 i (by omega), hl, bnd_s, gd_t (by omega), bs_s, bv_s]
    exact k1
/-- bringForward -/
theorem W_bf {σ : St} {fr : Nat} {v : Nat → Int} {a1 : Nat} (hc : cnt ≤ 10) (ha1 : a1 ≠ 98) (h86 : gF σ 6086 = (cnt : Nat)) (hA : ∀ i, i < cnt → gA σ 98 i = (A i : Nat) ∧ A i < 10) (hv : ∀ j, fr ≤ j → j < cnt → gA σ a1 (A j) = v (A j) ∧ 0 ≤ v (A j) ∧ v (A j) ≤ 2000) : ∀ (d m x : Nat), d < m → x + d = cnt → fr ≤ x → (∀ j, fr ≤ j → j < x → v (A j) = 0) → ((∀ j, fr ≤ j → j < cnt → v (A j) = 0) ∧ l_Makers_bringForward_2 F a1 m σ (fr : Nat) (x : Nat) = some (0, σ)) ∨ ∃ j, fr ≤ j ∧ j < cnt ∧ v (A j) ≠ 0 ∧ l_Makers_bringForward_2 F a1 m σ (fr : Nat) (x : Nat) = some (v (A j), sA (sA σ 98 j (A fr : Nat)) 98 fr (A j : Nat))
  | _, 0, _, h, _, _, _ => by omega
  | 0, m + 1, x, _, hx, hf, hz => by
    refine Or.inl ⟨fun j h1 h2 => hz j h1 (by omega), ?_⟩
    show b_Makers_bringForward_2 F a1 _ σ _ _ = _
    unfold b_Makers_bringForward_2
    rw [h86, gd_t (by omega), if_pos (by omega)]
  | d + 1, m + 1, x, hm, hx, hf, hz => by
    have hax := hA x (by omega)
    have haf := hA fr (by omega)
    have hvx := hv x hf (by omega)
    by_cases c : v (A x) = 0
    · have ih := W_bf hc ha1 h86 hA hv d m (x + 1) (by omega) (by omega) (by omega) (fun j h1 h2 => by
        by_cases q : j = x
        · rw [q]; exact c
        · exact hz j h1 (by omega))
      have e : l_Makers_bringForward_2 F a1 (m + 1) σ (fr : Nat) (x : Nat) = l_Makers_bringForward_2 F a1 m σ (fr : Nat) ((x + 1 : Nat) : Int) := by
        show b_Makers_bringForward_2 F a1 _ σ _ _ = _
        unfold b_Makers_bringForward_2
        rw [h86, gd_t (by omega), if_neg (by omega), gd_t (by omega), bv_s, Int.toNat_natCast, hax.1, gd_t (by omega), Int.toNat_natCast, hvx.1, gd_t (by omega), if_pos c]; rfl
      rw [e]; exact ih
    · refine Or.inr ⟨x, hf, by omega, c, ?_⟩
      show b_Makers_bringForward_2 F a1 _ σ _ _ = _
      unfold b_Makers_bringForward_2
      rw [h86, gd_t (by omega), if_neg (by omega), gd_t (by omega), bv_s, Int.toNat_natCast, hax.1, gd_t (by omega), Int.toNat_natCast, hvx.1, gd_t (by omega), if_neg c, gd_t (by omega), gd_t (by omega), bs_s, gd_t (by omega), bs_s, gd_t (by omega), Int.toNat_natCast, haf.1, gA_sA, if_neg (by omega), gA_sA, if_neg (by omega), hvx.1]
end
