/-! PURE PART: the class chooses -/
def MKF (σ σ' : St) : Prop := (∀ q, q ≠ 6080 → gF σ' q = gF σ q) ∧ ∀ a, a ≠ 96 → a ≠ 98 → a ≠ 101 → a ≠ 102 → a < 209 ∨ a = 212 ∨ 215 ≤ a → ∀ i, gA σ' a i = gA σ a i
theorem MKF.rf {σ : St} : MKF σ σ := ⟨fun _ _ => rfl, fun _ _ _ _ _ _ _ => rfl⟩
theorem MKF.tr {a b c : St} (h : MKF a b) (g : MKF b c) : MKF a c := ⟨fun q hq => (g.1 q hq).trans (h.1 q hq), fun x h1 h2 h3 h4 h5 i => (g.2 x h1 h2 h3 h4 h5 i).trans (h.2 x h1 h2 h3 h4 h5 i)⟩
theorem TKF.mk {a b : St} (h : TKF a b) : MKF a b := ⟨fun q _ => h.1 q, fun x _ h2 h3 _ h5 i => h.2 x h2 h3 h5 i⟩
theorem gA_cp {σ : St} {q0 sp q1 dp n a j : Nat} : gA (cpA σ q0 sp q1 dp n) a j = if a = q1 ∧ dp ≤ j ∧ j < dp + n then gA σ q0 (sp + (j - dp)) else gA σ a j := rfl
def STk (σ : St) (z : Nat × List Nat) (k : Nat) : Prop := gF σ 6080 = (z.1 : Nat) ∧ (0 < z.1 → ∀ i, i < k → gA σ 96 i = (z.2.getD i 0 : Nat))
def CI (σ : St) (s : Nat → Int) (S cnt : Nat) (g : Nat → Int) (ds A : Nat → Nat) (L : Nat) (z : Nat × List Nat) (k : Nat) (one : Bool) : Prop := KP s S cnt A ∧ KCm σ s cnt ∧ HBm σ s cnt g ds A L ∧ NZ s ds A L ∧ L ≤ cnt ∧ (∀ i, i < L → gA σ 102 i = (ds i : Nat)) ∧ STk σ z k ∧ gF σ 6092 = bi one
section
variable {F : Nat} {s : Nat → Int} {S cnt k : Nat} {g : Nat → Int} {ds A : Nat → Nat} {one : Bool} {G : List Nat → Bool}
theorem KC_mk (hI : MI s) {σ σ' : St} (h : KCm σ s cnt) (g : MKF σ σ') : KCm σ' s cnt := ⟨by rw [g.1 _ (by omega)]; exact h.1, by rw [g.1 _ (by omega)]; exact h.2.1, by rw [g.1 _ (by omega)]; exact h.2.2.1, fun d h' h1 h2 => by
  have := hI.1
  rw [g.2 _ (by omega) (by omega) (by omega) (by omega) (by omega)]; exact h.2.2.2 d h' h1 h2⟩
theorem W_isDone {σ : St} {z : Nat × List Nat} (h1 : gF σ 6092 = bi one) (h2 : gF σ 6080 = (z.1 : Nat)) (hz : z.1 ≤ 1000000000) : f_Makers_isDone F σ = some (if one = true ∧ 0 < z.1 then 1 else 0, σ) := by
  unfold f_Makers_isDone
  rw [h1, h2]
  cases one
  · rw [gd_t (by decide), if_pos (show bi false = 0 from rfl), if_neg (fun h => by cases h.1)]
  · rw [gd_t (by decide), if_neg (by decide), gd_t (by omega)]
    by_cases c : 0 < z.1
    · rw [if_neg (by omega), if_pos ⟨rfl, c⟩]
    · rw [if_pos (by omega), if_neg (fun h => c h.2)]
theorem W_mr44 (hI : MI s) (hF : 10 ≤ F) {dd L : Nat} {own wanted : Int} (hL : L ≤ 2) (hd : (dd : Int) < s 0) (hg : ∀ h, HH s S h → 0 ≤ g h ∧ g h < PR (s 0)) (hK : KP s S cnt A) {σ : St} (hC : KCm σ s cnt) (hB : HBm σ s cnt g ds A L) (ht : ∀ j, j < L → gA σ 101 j = RDs s ds A j (clS s dd) (A j)) (ho : 0 ≤ own ∧ own < PR (s 0)) (hw : 0 ≤ wanted ∧ wanted < PR (s 0)) : ∀ (d m i : Nat), d < m → i + d = cnt → L ≤ i → ∃ b, l_Makers_makesRest_44 F m σ (L : Nat) (dd : Nat) own wanted (i : Nat) = some (bi b, σ) ∧ (b = true ↔ ∀ j, i ≤ j → j < cnt → RDs s ds A L (clS s dd) (A j) * wanted % PR (s 0) = own * RDs s ds A L g (A j) % PR (s 0))
  | _, 0, _, h, _, _ => absurd h (Nat.not_lt_zero _)
  | 0, m + 1, i, _, hi, hLi => by
    have := hK.1
    refine ⟨true, ?_, fun _ j h1 h2 => by omega, fun _ => rfl⟩
    show b_Makers_makesRest_44 F _ σ _ _ _ _ _ = _
    unfold b_Makers_makesRest_44
    rw [hC.2.2.1, gd_t (by omega), if_pos (by omega)]; rfl
  | d + 1, m + 1, i, hm, hi, hLi => by
    have := hK.1
    have hp := PR_b hI.1
    have h1 := hK.2.1 i (by omega)
    have hA10 := KP_lt hI hK (i := i) (by omega)
    have hl := W_less (cnt := cnt) (ds := ds) (A := A) hI hF (dd := dd) (h := A i) (L := L) (by omega) h1.1 hd hC ht (fun j hj => hB.2.1 j i hj (by omega) (by omega))
    have c1 := RDs_c hI (ds := ds) (A := A) (L := L) (d := dd) (h := A i)
    have c2 := RDs_g hI (ds := ds) (A := A) (L := L) (hg _ h1)
    have r1 := modb (a := RDs s ds A L (clS s dd) (A i) * wanted) (p := PR (s 0)) (by omega)
    have r2 := modb (a := own * RDs s ds A L g (A i)) (p := PR (s 0)) (by omega)
    obtain ⟨b, k1, k2⟩ := W_mr44 hI hF hL hd hg hK hC hB ht ho hw d m (i + 1) (by omega) (by omega) (by omega)
    have e : l_Makers_makesRest_44 F (m + 1) σ (L : Nat) (dd : Nat) own wanted (i : Nat) = if RDs s ds A L (clS s dd) (A i) * wanted % PR (s 0) = own * RDs s ds A L g (A i) % PR (s 0) then some (bi b, σ) else some (0, σ) := by
      rw [← k1]
      show b_Makers_makesRest_44 F _ σ _ _ _ _ _ = _
      unfold b_Makers_makesRest_44
      rw [hC.2.2.1, gd_t (by omega), if_neg (by omega), gd_t (by omega), bv_s, Int.toNat_natCast, hB.1 i (by omega), hl, bnd_s, hC.1, W_product (by omega) (by omega) (by omega), bnd_s, gd_t (by omega), gd_t (by omega), bv_s, Int.toNat_natCast, Int.toNat_natCast, hB.2.2 L i (by omega) hLi (by omega), hC.1, W_product (by omega) (by omega) (by omega), bnd_s, gd_t (by omega)]; rfl
    by_cases c : RDs s ds A L (clS s dd) (A i) * wanted % PR (s 0) = own * RDs s ds A L g (A i) % PR (s 0)
    · refine ⟨b, by rw [e, if_pos c], ?_⟩
      rw [k2]
      constructor
      · intro h j h1 h2
        by_cases q : j = i
        · rw [q]; exact c
        · exact h j (by omega) h2
      · intro h j h1 h2; exact h j (by omega) h2
    · refine ⟨false, by rw [e, if_neg c]; rfl, fun h => (by cases h), fun h => absurd (h i (by omega) (by omega)) c⟩
/-- makesRest -/
theorem W_mr (hI : MI s) (hF : 10 ≤ F) {dd L : Nat} (hL : L ≤ 2) (hLc : L < cnt) (hd : (dd : Int) < s 0) (hg : ∀ h, HH s S h → 0 ≤ g h ∧ g h < PR (s 0)) (hK : KP s S cnt A) {σ : St} (hC : KCm σ s cnt) (hB : HBm σ s cnt g ds A L) (hN : NZ s ds A L) (h0 : RDs s ds A L g (A L) ≠ 0) : ∃ b σ', f_Makers_makesRest F σ (L : Nat) (dd : Nat) = some (bi b, σ') ∧ TKF σ σ' ∧ HBm σ' s cnt g ds A L ∧ (b = true ↔ MkL (PR (s 0)) (HH s S) (clS s) (lst ds L ++ [dd]) g) := by
  have hp := PR_b hI.1
  have c10 := hK.1
  have h1 := hK.2.1 L hLc
  have hA10 := KP_lt hI hK (i := L) (by omega)
  obtain ⟨s1, a1, a2, a3, a4⟩ := W_ft hI (F := F) (by omega) (dd := dd) (L := L) (by omega) (by omega) hd hK L F σ 0 (by omega) (by omega) hC hB (fun j hj => by omega)
  have t1 : TKF σ s1 := ⟨a3, fun a h1 h2 h3 i => a4 a h2 i⟩
  have C1 := KC_tk hI hC t1
  have B1 : HBm s1 s cnt g ds A L := HB_tk hB (fun i => a4 98 (by omega) i) (fun i hi j => a4 _ (by omega) j) (fun i hi j => a4 _ (by omega) j)
  have hl := W_less (F := F) (cnt := cnt) (ds := ds) (A := A) hI (by omega) (dd := dd) (h := A L) (L := L) (by omega) h1.1 hd C1 a2 (fun j hj => B1.2.1 j L hj (by omega) (by omega))
  have c1 := RDs_c hI (ds := ds) (A := A) (L := L) (d := dd) (h := A L)
  have c2 := RDs_g hI (ds := ds) (A := A) (L := L) (hg _ h1)
  have ml := Mk_last (col := clS s) (ds := ds) (A := A) (H := HH s S) hI.1 (d := dd) (v := g) hN (fun i hi => hK.2.1 i (by omega)) h1 ⟨by show 0 < RDs s ds A L g (A L); omega, c2.2⟩ c1
  have e : f_Makers_makesRest F σ (L : Nat) (dd : Nat) = if RDs s ds A L (clS s dd) (A L) = 0 then some (0, s1) else l_Makers_makesRest_44 F F s1 (L : Nat) (dd : Nat) (RDs s ds A L (clS s dd) (A L)) (RDs s ds A L g (A L)) ((L + 1 : Nat) : Int) := by
    unfold f_Makers_makesRest
    rw [show f_Makers_findTimes F σ (L : Nat) (dd : Nat) = some (0, s1) from a1, bnd_s, gd_t (by omega), bv_s, Int.toNat_natCast, B1.1 L hLc, hl, bnd_s, gd_t (by omega), gd_t (by omega), gd_t (by omega), bv_s, bv_s, Int.toNat_natCast, B1.2.2 L L (by omega) (by omega) hLc]; rfl
  rw [e]
  by_cases z : RDs s ds A L (clS s dd) (A L) = 0
  · refine ⟨false, s1, by rw [if_pos z]; rfl, t1, B1, fun h => (by cases h), fun h => absurd z (ml.mp h).1⟩
  · obtain ⟨b, k1, k2⟩ := W_mr44 (F := F) hI hF hL hd hg hK C1 B1 a2 c1 c2 (cnt - (L + 1)) F (L + 1) (by omega) (by omega) (by omega)
    refine ⟨b, s1, by rw [if_neg z]; exact k1, t1, B1, ?_⟩
    rw [k2, ml]
    constructor
    · intro h
      refine ⟨z, fun h' hh => ?_⟩
      obtain ⟨i, hi, rfl⟩ := hK.2.2.2 h' hh
      by_cases q : i < L
      · have z1 : RD (PR (s 0)) (clS s) ds A L (clS s dd) (A i) % PR (s 0) = 0 := RD_z hI.1 L hN q
        have z2 : RD (PR (s 0)) (clS s) ds A L g (A i) % PR (s 0) = 0 := RD_z hI.1 L hN q
        rw [Int.mul_emod, z1, Int.mul_emod (RD (PR (s 0)) (clS s) ds A L (clS s dd) (A L)), z2]; simp
      · by_cases q2 : i = L
        · rw [q2]
        · exact h i (by omega) hi
    · rintro ⟨-, h⟩ j h1 h2
      exact h _ (hK.2.1 j h2)
/-- the last of them -/
theorem W_cl17 (hI : MI s) (hF : 200 ≤ F) {L : Nat} (hL : L ≤ 2) (hk : L + 1 = k) (hg : ∀ h, HH s S h → 0 ≤ g h ∧ g h < PR (s 0)) (hG : ∀ x, x.length = k → (G x = true ↔ MkL (PR (s 0)) (HH s S) (clS s) x g)) : ∀ (d m : Nat) (σ : St) (x : Nat) (z : Nat × List Nat), d < m → x + d = (s 0).toNat → CI σ s S cnt g ds A L z k one → L < cnt → RDs s ds A L g (A L) ≠ 0 → z.1 + d ≤ 1000000000 → ∃ σ', l_Makers_chooseLast_17 F m σ (L : Nat) (x : Nat) = some (0, σ') ∧ CI σ' s S cnt g ds A L (fol one G z ((en d 1 x).map (lst ds L ++ ·))) k one ∧ MKF σ σ'
  | _, 0, _, _, _, h, _, _, _, _, _ => absurd h (Nat.not_lt_zero _)
  | 0, m + 1, σ, x, z, _, hx, hC, hLc, h0, hz => by
    have i0 := hI.1
    refine ⟨σ, ?_, hC, MKF.rf⟩
    show b_Makers_chooseLast_17 F _ σ _ _ = _
    unfold b_Makers_chooseLast_17
    rw [hC.2.1.2.1, gd_t (by omega), if_pos (by omega)]
  | d + 1, m + 1, σ, x, z, hm, hx, hC, hLc, h0, hz => by
    have i0 := hI.1
    obtain ⟨c1, c2, c3, c4, c5, c6, c7, c8⟩ := id hC
    have hdn := W_isDone (F := F) c8 c7.1 (by omega)
    rw [en_one, List.map_cons]
    by_cases dn : one = true ∧ 0 < z.1
    · refine ⟨σ, ?_, by rw [fol_done dn.1 _ dn.2]; exact hC, MKF.rf⟩
      show b_Makers_chooseLast_17 F _ σ _ _ = _
      unfold b_Makers_chooseLast_17
      rw [c2.2.1, gd_t (by omega), if_neg (by omega), hdn, bnd_s, if_pos dn, gd_t (by omega), if_neg (by omega)]
    · obtain ⟨b, s1, k1, k2, k3, k4⟩ := W_mr (F := F) hI (by omega) hL hLc (dd := x) (by omega) hg c1 c2 c3 c4 h0
      have hGb : G (lst ds L ++ [x]) = true ↔ b = true := by rw [k4]; exact hG _ (by rw [List.length_append, lst_len]; exact hk)
      have K1 := KC_tk hI c2 k2
      have S1 : STk s1 z k := ⟨by rw [k2.1]; exact c7.1, fun h i hi => by rw [k2.2 96 (by omega) (by omega) (by omega)]; exact c7.2 h i hi⟩
      have ch1 : ∀ i, i < L → gA s1 102 i = (ds i : Nat) := fun i hi => by rw [k2.2 102 (by omega) (by omega) (by omega)]; exact c6 i hi
      have o1 : gF s1 6092 = bi one := by rw [k2.1]; exact c8
      rw [fol_cons]
      cases b with
      | false =>
        have e : stp one G z (lst ds L ++ [x]) = z := by
          unfold stp
          rw [if_neg dn, if_neg (by rw [hGb]; decide)]
        obtain ⟨σ', j1, j2, j3⟩ := W_cl17 hI hF hL hk hg hG d m s1 (x + 1) z (by omega) (by omega) ⟨c1, K1, k3, c4, c5, ch1, S1, o1⟩ hLc h0 (by omega)
        refine ⟨σ', ?_, by rw [e]; exact j2, k2.mk.tr j3⟩
        show b_Makers_chooseLast_17 F _ σ _ _ = _
        unfold b_Makers_chooseLast_17
        rw [c2.2.1, gd_t (by omega), if_neg (by omega), hdn, bnd_s, if_neg dn, gd_t (by omega), if_pos rfl, k1, bnd_s, gd_t (by decide), if_pos (show bi false = 0 from rfl), bv_s]
        exact j1
      | true =>
        have e : stp one G z (lst ds L ++ [x]) = (z.1 + 1, if z.1 = 0 then lst ds L ++ [x] else z.2) := by
          unfold stp
          rw [if_neg dn, if_pos (by rw [hGb])]
        have ih : ∀ s2 : St, CI s2 s S cnt g ds A L (z.1 + 1, if z.1 = 0 then lst ds L ++ [x] else z.2) k one → ∃ σ', l_Makers_chooseLast_17 F m s2 (L : Nat) ((x + 1 : Nat) : Int) = some (0, σ') ∧ CI σ' s S cnt g ds A L (fol one G (z.1 + 1, if z.1 = 0 then lst ds L ++ [x] else z.2) ((en d 1 (x + 1)).map (lst ds L ++ ·))) k one ∧ MKF s2 σ' := fun s2 h2 => W_cl17 hI hF hL hk hg hG d m s2 (x + 1) _ (by omega) (by omega) h2 hLc h0 (by show z.1 + 1 + d ≤ _; omega)
        rw [e]
        have h80 : gF s1 6080 = (z.1 : Nat) := S1.1
        by_cases z0 : z.1 = 0
        · have m2 : MKF s1 (sF (cpA (sA s1 102 L (x : Nat)) 102 0 96 0 (L + 1)) 6080 ((z.1 : Int) + 1)) := ⟨fun q hq => by rw [gF_sF, if_neg hq]; rfl, fun a q1 q2 q3 q4 q5 i => by
            rw [gA_sF, gA_cp, if_neg (fun w => q1 w.1), gA_sA, if_neg (fun w => q4 w.1)]⟩
          have A2 : ∀ a, a ≠ 96 → a ≠ 102 → ∀ i, gA (sF (cpA (sA s1 102 L (x : Nat)) 102 0 96 0 (L + 1)) 6080 ((z.1 : Int) + 1)) a i = gA s1 a i := fun a q1 q4 i => by
            rw [gA_sF, gA_cp, if_neg (fun w => q1 w.1), gA_sA, if_neg (fun w => q4 w.1)]
          obtain ⟨σ', j1, j2, j3⟩ := ih (sF (cpA (sA s1 102 L (x : Nat)) 102 0 96 0 (L + 1)) 6080 ((z.1 : Int) + 1)) ⟨c1, KC_mk hI K1 m2, HB_tk k3 (fun i => A2 98 (by omega) (by omega) i) (fun i hi j => A2 _ (by omega) (by omega) j) (fun i hi j => A2 _ (by omega) (by omega) j), c4, c5, fun i hi => by
            rw [gA_sF, gA_cp, if_neg (fun w => by have := w.1; omega), gA_sA, if_neg (by omega)]; exact ch1 i hi, ⟨by rw [gF_eq]; show (z.1 : Int) + 1 = ((z.1 + 1 : Nat) : Int); omega, fun _ i hi => by
            rw [gA_sF, gA_cp, if_pos ⟨rfl, by omega, by omega⟩, gA_sA]
            show _ = (((if z.1 = 0 then lst ds L ++ [x] else z.2).getD i 0 : Nat) : Int)
            rw [if_pos z0, ← lst_upN, lst_getD (by omega)]
            unfold upN
            by_cases w : i = L
            · rw [if_pos ⟨rfl, by omega⟩, if_pos w]
            · rw [if_neg (by omega), if_neg w, show 0 + (i - 0) = i by omega]; exact ch1 i (by omega)⟩, by rw [m2.1 _ (by omega)]; exact o1⟩
          refine ⟨σ', ?_, j2, (k2.mk.tr m2).tr j3⟩
          rw [← j1]
          show b_Makers_chooseLast_17 F _ σ _ _ = _
          unfold b_Makers_chooseLast_17
          rw [c2.2.1, gd_t (by omega), if_neg (by omega), hdn, bnd_s, if_neg dn, gd_t (by omega), if_pos rfl, k1, bnd_s, gd_t (by decide), if_neg (by decide), gd_t (by omega), bs_s, Int.toNat_natCast, show gF (sA s1 102 L (x : Nat)) 6080 = (z.1 : Nat) from h80, gd_t (by omega), if_pos (by omega), gd_t ⟨by omega, by omega, by omega, by omega, by omega⟩, bs_s, bs_s, bv_s, show Int.toNat ((L : Int) + 1) = L + 1 by omega, show gF (cpA (sA s1 102 L (x : Nat)) 102 (Int.toNat 0) 96 (Int.toNat 0) (L + 1)) 6080 = (z.1 : Nat) from h80]; rfl
        · have m2 : MKF s1 (sF (sA s1 102 L (x : Nat)) 6080 ((z.1 : Int) + 1)) := ⟨fun q hq => by rw [gF_sF, if_neg hq]; rfl, fun a q1 q2 q3 q4 q5 i => by rw [gA_sF, gA_sA, if_neg (fun w => q4 w.1)]⟩
          have A2 : ∀ a, a ≠ 102 → ∀ i, gA (sF (sA s1 102 L (x : Nat)) 6080 ((z.1 : Int) + 1)) a i = gA s1 a i := fun a q4 i => by rw [gA_sF, gA_sA, if_neg (fun w => q4 w.1)]
          obtain ⟨σ', j1, j2, j3⟩ := ih (sF (sA s1 102 L (x : Nat)) 6080 ((z.1 : Int) + 1)) ⟨c1, KC_mk hI K1 m2, HB_tk k3 (fun i => A2 98 (by omega) i) (fun i hi j => A2 _ (by omega) j) (fun i hi j => A2 _ (by omega) j), c4, c5, fun i hi => by
            rw [gA_sF, gA_sA, if_neg (by omega)]; exact ch1 i hi, ⟨by rw [gF_eq]; show (z.1 : Int) + 1 = ((z.1 + 1 : Nat) : Int); omega, fun _ i hi => by
            rw [A2 96 (by omega)]
            show _ = (((if z.1 = 0 then lst ds L ++ [x] else z.2).getD i 0 : Nat) : Int)
            rw [if_neg z0]; exact S1.2 (by omega) i hi⟩, by rw [m2.1 _ (by omega)]; exact o1⟩
          refine ⟨σ', ?_, j2, (k2.mk.tr m2).tr j3⟩
          rw [← j1]
          show b_Makers_chooseLast_17 F _ σ _ _ = _
          unfold b_Makers_chooseLast_17
          rw [c2.2.1, gd_t (by omega), if_neg (by omega), hdn, bnd_s, if_neg dn, gd_t (by omega), if_pos rfl, k1, bnd_s, gd_t (by decide), if_neg (by decide), gd_t (by omega), bs_s, Int.toNat_natCast, show gF (sA s1 102 L (x : Nat)) 6080 = (z.1 : Nat) from h80, gd_t (by omega), if_neg (by omega), bs_s, bv_s]; rfl
end
