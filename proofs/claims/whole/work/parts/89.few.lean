/-! PURE PART: the class chooses all; the fewest up to -/
def CSp (F : Nat) (s : Nat → Int) (S cnt : Nat) (g : Nat → Int) (k : Nat) (one : Bool) (G : List Nat → Bool) (rec : St → Int → Int → Int → Option (Int × St)) (r : Nat) : Prop := ∀ (σ : St) (ds A : Nat → Nat) (z : Nat × List Nat) (L f : Nat), L + r + 1 = k → f ≤ (s 0).toNat → CI σ s S cnt g ds A L z k one → (lst ds L).Pairwise (· < ·) → (∀ i, i < L → ds i < f) → z.1 + (en ((s 0).toNat - f) (r + 1) f).length ≤ 1000000000 → ∃ σ' A', rec σ (L : Nat) (f : Nat) (k : Nat) = some (0, σ') ∧ CI σ' s S cnt g ds A' L (fol one G z ((en ((s 0).toNat - f) (r + 1) f).map (lst ds L ++ ·))) k one ∧ (∀ i, i < L → A' i = A i) ∧ MKF σ σ'
section
variable {F : Nat} {s : Nat → Int} {S cnt k : Nat} {g : Nat → Int} {ds A : Nat → Nat} {one : Bool} {G : List Nat → Bool}
theorem en_len1 : ∀ (m f : Nat), (en m 1 f).length = m
  | 0, _ => rfl
  | m + 1, f => by rw [en_one, List.length_cons, en_len1 m]
theorem lst_mem {a L : Nat} (h : a ∈ lst ds L) : ∃ i, i < L ∧ ds i = a := by
  unfold lst at h
  obtain ⟨i, hi, e⟩ := List.mem_map.mp h
  exact ⟨i, List.mem_range.mp hi, e⟩
theorem CI_sw {σ : St} {L j : Nat} {z : Nat × List Nat} (hI : MI s) (h : CI σ s S cnt g ds A L z k one) (hLj : L ≤ j) (hj : j < cnt) : CI (sA (sA σ 98 j (A L : Nat)) 98 L (A j : Nat)) s S cnt g ds (fun k => A (tau L j k)) L z k one := by
  obtain ⟨c1, c2, c3, c4, c5, c6, c7, c8⟩ := h
  refine ⟨KP_sw c1 (by omega) hj, KC_tk hI c2 ⟨fun _ => rfl, fun a h1 h2 h3 i => by rw [gA_sA, if_neg (fun z => h1 z.1), gA_sA, if_neg (fun z => h1 z.1)]⟩, HB_sw c3 hLj hj, NZ_c c4 (fun i hi => by show A (tau L j i) = A i; rw [tau_low hLj hi]), c5, fun i hi => by rw [gA_sA, if_neg (by omega), gA_sA, if_neg (by omega)]; exact c6 i hi, ⟨c7.1, fun h i hi => by rw [gA_sA, if_neg (by omega), gA_sA, if_neg (by omega)]; exact c7.2 h i hi⟩, c8⟩
/-- chooseLast -/
theorem W_cl (hI : MI s) (hF : 200 ≤ F) (hk : k ≤ 3) (hg : ∀ h, HH s S h → 0 ≤ g h ∧ g h < PR (s 0)) (hG : ∀ x, x.length = k → (G x = true ↔ MkL (PR (s 0)) (HH s S) (clS s) x g)) (hno : ∀ x, x.length + 1 = k → Inc (s 0).toNat x → ¬ MkL (PR (s 0)) (HH s S) (clS s) x g) {σ : St} {z : Nat × List Nat} {L f : Nat} (hL : L + 1 = k) (hf : f ≤ (s 0).toNat) (hC : CI σ s S cnt g ds A L z k one) (hpw : (lst ds L).Pairwise (· < ·)) (hlt : ∀ i, i < L → ds i < f) (hz : z.1 + ((s 0).toNat - f) ≤ 1000000000) : ∃ σ' A', f_Makers_chooseLast F σ (L : Nat) (f : Nat) = some (0, σ') ∧ CI σ' s S cnt g ds A' L (fol one G z ((en ((s 0).toNat - f) 1 f).map (lst ds L ++ ·))) k one ∧ (∀ i, i < L → A' i = A i) ∧ MKF σ σ' := by
  have hp := PR_b hI.1
  have i0 := hI.1
  obtain ⟨c1, c2, c3, c4, c5, c6, c7, c8⟩ := id hC
  have c10 := c1.1
  have hrr : ∀ j, L ≤ j → j < cnt → gA σ (212 + L) (A j) = RDs s ds A L g (A j) ∧ 0 ≤ RDs s ds A L g (A j) ∧ RDs s ds A L g (A j) ≤ 2000 := fun j h1 h2 => by
    have := RDs_g hI (ds := ds) (A := A) (L := L) (hg _ (c1.2.1 j h2))
    exact ⟨c3.2.2 L j (by omega) h1 h2, by omega, by omega⟩
  unfold f_Makers_chooseLast
  rw [gd_t (by omega), Int.toNat_natCast]
  rcases W_bf (F := F) (σ := σ) (fr := L) (v := RDs s ds A L g) (a1 := 212 + L) c10 (by omega) c2.2.2.1 (fun i hi => ⟨c3.1 i hi, KP_lt hI c1 hi⟩) hrr (cnt - L) F L (by omega) (by omega) (by omega) (fun j h1 h2 => by omega) with ⟨q, e⟩ | ⟨j, h1, h2, h0, e⟩
  · exfalso
    refine hno (lst ds L) (by rw [lst_len]; exact hL) ⟨hpw, fun a ha => ?_⟩ ((Mk_RD hI.1 L c4 (fun i hi => c1.2.1 i (by omega))).mpr (fun h hh => ?_))
    · obtain ⟨i, hi, rfl⟩ := lst_mem ha
      have := hlt i hi
      omega
    · obtain ⟨i, hi, rfl⟩ := c1.2.2.2 h hh
      by_cases w : L ≤ i
      · show RDs s ds A L g (A i) % _ = 0
        rw [q i w hi, Int.zero_emod]
      · exact RD_z hI.1 L c4 (by omega)
  · have C' := CI_sw hI hC h1 h2
    have eL : (fun k => A (tau L j k)) L = A j := by show A (tau L j L) = A j; unfold tau; rw [if_pos rfl]
    have hlow : ∀ i, i < L → (fun k => A (tau L j k)) i = A i := fun i hi => by show A (tau L j i) = A i; rw [tau_low h1 hi]
    have hrd : ∀ h, RDs s ds (fun k => A (tau L j k)) L g h = RDs s ds A L g h := fun h => RD_congr L (fun _ _ => rfl) (fun q hq => hlow q hq)
    obtain ⟨σ', k1, k2, k3⟩ := W_cl17 (F := F) hI hF (L := L) (by omega) hL hg hG ((s 0).toNat - f) F _ f z (by omega) (by omega) C' (by omega) (by rw [hrd]; show RDs s ds A L g ((fun k => A (tau L j k)) L) ≠ 0; rw [eL]; exact h0) hz
    have tk : TKF σ (sA (sA σ 98 j (A L : Nat)) 98 L (A j : Nat)) := ⟨fun _ => rfl, fun a h1 h2 h3 i => by rw [gA_sA, if_neg (fun z => h1 z.1), gA_sA, if_neg (fun z => h1 z.1)]⟩
    refine ⟨σ', _, ?_, k2, hlow, MKF.tr tk.mk k3⟩
    have := (hrr j h1 h2).2
    rw [show f_Makers_bringForward F (212 + L) σ (L : Nat) = some (RDs s ds A L g (A j), _) from e, bnd_s, gd_t (by omega), if_neg h0]
    exact k1
theorem HB_drop {σ : St} {L d : Nat} (h : HBm σ s cnt g (upN ds L d) A (L + 1)) : HBm σ s cnt g ds A L := ⟨h.1, fun i j h1 h2 h3 => by
  rw [h.2.1 i j (by omega) h2 h3]
  exact BS_congr (fun q hq => by unfold upN; rw [if_neg (by omega)]) (fun _ _ => rfl), fun i j h1 h2 h3 => by
  rw [h.2.2 i j (by omega) h2 h3]
  exact RD_congr i (fun q hq => by unfold upN; rw [if_neg (by omega)]) (fun _ _ => rfl)⟩
/-- choose's loop -/
theorem W_ch17 (hI : MI s) (hF : 200 ≤ F) (hk : k ≤ 3) {r : Nat} {rec : St → Int → Int → Int → Option (Int × St)} (hrec : CSp F s S cnt g k one G rec r) (hg : ∀ h, HH s S h → 0 ≤ g h ∧ g h < PR (s 0)) (hG : ∀ x, x.length = k → (G x = true ↔ MkL (PR (s 0)) (HH s S) (clS s) x g)) (hno : ∀ x, x.length + 1 = k → Inc (s 0).toNat x → ¬ MkL (PR (s 0)) (HH s S) (clS s) x g) {L : Nat} (hL : L + (r + 1) + 1 = k) (hpw : (lst ds L).Pairwise (· < ·)) : ∀ (d m : Nat) (σ : St) (A : Nat → Nat) (z : Nat × List Nat) (x : Nat), d < m → x + d = (s 0).toNat → CI σ s S cnt g ds A L z k one → (∀ i, i < L → ds i < x) → z.1 + (en d (r + 2) x).length ≤ 1000000000 → ∃ σ' A', l_Makers_choose_17 F rec m σ (L : Nat) (k : Nat) (x : Nat) = some (0, σ') ∧ CI σ' s S cnt g ds A' L (fol one G z ((en d (r + 2) x).map (lst ds L ++ ·))) k one ∧ (∀ i, i < L → A' i = A i) ∧ MKF σ σ'
  | _, 0, _, _, _, _, h, _, _, _, _ => absurd h (Nat.not_lt_zero _)
  | 0, m + 1, σ, A, z, x, _, hx, hC, hlt, hz => by
    have i0 := hI.1
    refine ⟨σ, A, ?_, hC, fun _ _ => rfl, MKF.rf⟩
    show b_Makers_choose_17 F rec _ σ _ _ _ = _
    unfold b_Makers_choose_17
    rw [hC.2.1.2.1, gd_t (by omega), if_pos (by omega)]
  | d + 1, m + 1, σ, A, z, x, hm, hx, hC, hlt, hz => by
    have i0 := hI.1
    obtain ⟨c1, c2, c3, c4, c5, c6, c7, c8⟩ := id hC
    have en2 : en (d + 1) (r + 2) x = (en d (r + 1) (x + 1)).map (x :: ·) ++ en d (r + 2) (x + 1) := rfl
    have hz' := hz
    rw [en2, List.length_append, List.length_map] at hz'
    have hdn := W_isDone (F := F) c8 c7.1 (by omega)
    by_cases dn : one = true ∧ 0 < z.1
    · refine ⟨σ, A, ?_, by rw [fol_done dn.1 _ dn.2]; exact hC, fun _ _ => rfl, MKF.rf⟩
      show b_Makers_choose_17 F rec _ σ _ _ _ = _
      unfold b_Makers_choose_17
      rw [c2.2.1, gd_t (by omega), if_neg (by omega), hdn, bnd_s, if_pos dn, gd_t (by omega), if_neg (by omega)]
    · rw [en2, List.map_append, fol_app]
      obtain ⟨s1, t1, ⟨e1, z1, b1⟩ | ⟨A1, e1, p1, l1, lc, b1, n1⟩⟩ := W_tib (F := F) hI hF (dd := x) (L := L) (by omega) c5 (by omega) hg c1 c2 c3 c4
      · have hmk : MkL (PR (s 0)) (HH s S) (clS s) (lst ds L) (clS s x) := (Mk_RD hI.1 L c4 (fun i hi => c1.2.1 i (by omega))).mpr z1
        have skip : fol one G z (((en d (r + 1) (x + 1)).map (x :: ·)).map (lst ds L ++ ·)) = z := by
          refine fol_skip _ (fun y hy => ?_)
          obtain ⟨y1, hy1, rfl⟩ := List.mem_map.mp hy
          obtain ⟨y2, hy2, rfl⟩ := List.mem_map.mp hy1
          obtain ⟨q1, q2, q3⟩ := en_in _ _ _ _ hy2
          rw [Bool.eq_false_iff]
          intro hGt
          have h1 := (hG (lst ds L ++ x :: y2) (by rw [List.length_append, lst_len, List.length_cons, q1]; omega)).mp hGt
          refine hno (lst ds L ++ y2) (by rw [List.length_append, lst_len, q1]; omega) ⟨?_, fun a ha => ?_⟩ (Mk_ins h1 hmk)
          · refine List.pairwise_append.mpr ⟨hpw, q2, fun a ha b hb => ?_⟩
            obtain ⟨i, hi, rfl⟩ := lst_mem ha
            have := hlt i hi
            have := q3 b hb
            omega
          · rcases List.mem_append.mp ha with ha | ha
            · obtain ⟨i, hi, rfl⟩ := lst_mem ha
              have := hlt i hi
              omega
            · have := q3 a ha
              omega
        rw [skip]
        obtain ⟨σ', A', j1, j2, j3, j4⟩ := W_ch17 hI hF hk hrec hg hG hno hL hpw d m s1 A z (x + 1) (by omega) (by omega) ⟨c1, KC_tk hI c2 t1, b1, c4, c5, fun i hi => by rw [t1.2 102 (by omega) (by omega) (by omega)]; exact c6 i hi, ⟨by rw [t1.1]; exact c7.1, fun h i hi => by rw [t1.2 96 (by omega) (by omega) (by omega)]; exact c7.2 h i hi⟩, by rw [t1.1]; exact c8⟩ (fun i hi => by have := hlt i hi; omega) (by omega)
        refine ⟨σ', A', ?_, j2, j3, t1.mk.tr j4⟩
        rw [← j1]
        show b_Makers_choose_17 F rec _ σ _ _ _ = _
        unfold b_Makers_choose_17
        rw [c2.2.1, gd_t (by omega), if_neg (by omega), hdn, bnd_s, if_neg dn, gd_t (by omega), if_pos rfl, e1, bnd_s, gd_t (by omega), if_pos rfl, bv_s]; rfl
      · have A2 : ∀ a, a ≠ 102 → ∀ i, gA (sA s1 102 L (x : Nat)) a i = gA s1 a i := fun a q4 i => by rw [gA_sA, if_neg (fun w => q4 w.1)]
        have m2 : MKF s1 (sA s1 102 L (x : Nat)) := ⟨fun q hq => rfl, fun a q1 q2 q3 q4 q5 i => A2 a q4 i⟩
        have lu : lst (upN ds L x) (L + 1) = lst ds L ++ [x] := lst_upN
        obtain ⟨s2, A'', j1, j2, j3, j4⟩ := hrec (sA s1 102 L (x : Nat)) (upN ds L x) A1 z (L + 1) (x + 1) (by omega) (by omega) ⟨p1, KC_mk hI (KC_tk hI c2 t1) m2, HB_tk b1 (fun i => A2 98 (by omega) i) (fun i hi j => A2 _ (by omega) j) (fun i hi j => A2 _ (by omega) j), n1, by omega, fun i hi => by
          rw [gA_sA]
          unfold upN
          by_cases w : i = L
          · rw [if_pos ⟨rfl, w⟩, if_pos w]
          · rw [if_neg (fun q => w q.2), if_neg w, t1.2 102 (by omega) (by omega) (by omega)]; exact c6 i (by omega), ⟨by show gF s1 6080 = _; rw [t1.1]; exact c7.1, fun h i hi => by rw [A2 96 (by omega), t1.2 96 (by omega) (by omega) (by omega)]; exact c7.2 h i hi⟩, by show gF s1 6092 = _; rw [t1.1]; exact c8⟩ (by
          rw [lu]
          refine List.pairwise_append.mpr ⟨hpw, List.pairwise_singleton _ _, fun a ha b hb => ?_⟩
          obtain ⟨i, hi, rfl⟩ := lst_mem ha
          obtain rfl := List.mem_singleton.mp hb
          exact hlt i hi) (fun i hi => by
          unfold upN
          split
          · omega
          · have := hlt i (by omega); omega) (by rw [show (s 0).toNat - (x + 1) = d by omega]; omega)
        have em : (en ((s 0).toNat - (x + 1)) (r + 1) (x + 1)).map (lst (upN ds L x) (L + 1) ++ ·) = ((en d (r + 1) (x + 1)).map (x :: ·)).map (lst ds L ++ ·) := by
          rw [show (s 0).toNat - (x + 1) = d by omega, List.map_map]
          refine List.map_congr_left (fun y _ => ?_)
          show lst (upN ds L x) (L + 1) ++ y = lst ds L ++ (x :: y)
          rw [lu, List.append_assoc]; rfl
        rw [em] at j2
        obtain ⟨d1, d2, d3, d4, d5, d6, d7, d8⟩ := j2
        have hle := (fol_le (one := one) (G := G) (((en d (r + 1) (x + 1)).map (x :: ·)).map (lst ds L ++ ·)) (z := z)).2
        rw [List.length_map, List.length_map] at hle
        obtain ⟨σ', A', k1, k2, k3, k4⟩ := W_ch17 hI hF hk hrec hg hG hno hL hpw d m s2 A'' _ (x + 1) (by omega) (by omega) ⟨d1, d2, HB_drop d3, fun i hi => by
          have := d4 i (by omega)
          have hu : ∀ (v : Nat → Int) (h : Nat), RDs s (upN ds L x) A'' i v h = RDs s ds A'' i v h := fun v h => RD_congr i (fun q hq => by unfold upN; rw [if_neg (by omega)]) (fun _ _ => rfl)
          rw [hu, show upN ds L x i = ds i by unfold upN; rw [if_neg (by omega)]] at this
          exact this, c5, fun i hi => by
          rw [d6 i (by omega)]
          unfold upN
          rw [if_neg (by omega)], d7, d8⟩ (fun i hi => by have := hlt i hi; omega) (by omega)
        refine ⟨σ', A', ?_, k2, fun i hi => by rw [k3 i hi, j3 i (by omega), l1 i hi], ((t1.mk.tr m2).tr j4).tr k4⟩
        rw [← k1]
        show b_Makers_choose_17 F rec _ σ _ _ _ = _
        unfold b_Makers_choose_17
        rw [c2.2.1, gd_t (by omega), if_neg (by omega), hdn, bnd_s, if_neg dn, gd_t (by omega), if_pos rfl, e1, bnd_s, gd_t (by omega), if_neg (by omega), gd_t (by omega), bs_s, Int.toNat_natCast, show rec (sA s1 102 L (x : Nat)) ((L : Int) + 1) ((x : Int) + 1) (k : Nat) = some (0, s2) from j1, bnd_s, bv_s]; rfl
/-- choose -/
theorem W_ch (hI : MI s) (hF : 200 ≤ F) (hk : k ≤ 3) (hg : ∀ h, HH s S h → 0 ≤ g h ∧ g h < PR (s 0)) (hG : ∀ x, x.length = k → (G x = true ↔ MkL (PR (s 0)) (HH s S) (clS s) x g)) (hno : ∀ x, x.length + 1 = k → Inc (s 0).toNat x → ¬ MkL (PR (s 0)) (HH s S) (clS s) x g) : ∀ (r fuel : Nat), r < fuel → CSp F s S cnt g k one G (f_Makers_choose F fuel) r
  | _, 0, h => absurd h (Nat.not_lt_zero _)
  | 0, fuel + 1, _ => by
    intro σ ds A z L f hL hf hC hpw hlt hz
    rw [en_len1] at hz
    obtain ⟨σ', A', k1, k2⟩ := W_cl (F := F) hI hF hk hg hG hno (L := L) (f := f) (by omega) hf hC hpw hlt hz
    refine ⟨σ', A', ?_, k2⟩
    show b_Makers_choose F _ σ _ _ _ = _
    unfold b_Makers_choose
    rw [gd_t (by omega), if_neg (by omega), k1, bnd_s]
  | r + 1, fuel + 1, h => by
    have i0 := hI.1
    intro σ ds A z L f hL hf hC hpw hlt hz
    obtain ⟨σ', A', k1, k2⟩ := W_ch17 (F := F) hI hF hk (W_ch hI hF hk hg hG hno r fuel (by omega)) hg hG hno hL hpw ((s 0).toNat - f) F σ A z f (by omega) (by omega) hC hlt hz
    refine ⟨σ', A', ?_, k2⟩
    show b_Makers_choose F _ σ _ _ _ = _
    unfold b_Makers_choose
    rw [gd_t (by omega), if_pos (by omega)]
    exact k1
end
