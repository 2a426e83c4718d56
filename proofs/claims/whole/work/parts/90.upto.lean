/-! PURE PART: who is heard; the fewest up to a number -/
theorem rtA_P (P : Nat → Bool) : ∀ d e c, c < cD P d e → P (rtA P d e c) = true
  | 0, _, _, h => by unfold cD at h; omega
  | d + 1, e, c, h => by
    unfold cD at h
    unfold rtA
    by_cases q : P e = true
    · rw [if_pos q] at h ⊢
      by_cases z : c = 0
      · rw [if_pos z]; exact q
      · rw [if_neg z]; exact rtA_P P d (e + 1) (c - 1) (by omega)
    · rw [if_neg q] at h ⊢
      exact rtA_P P d (e + 1) c (by omega)
theorem rtA_on (P : Nat → Bool) : ∀ d e h, e ≤ h → h < e + d → P h = true → ∃ c, c < cD P d e ∧ rtA P d e c = h
  | 0, _, _, h1, h2, _ => by omega
  | d + 1, e, h, h1, h2, hP => by
    unfold cD rtA
    by_cases q : P e = true
    · by_cases z : h = e
      · exact ⟨0, by rw [if_pos q]; omega, by rw [if_pos q, if_pos rfl, z]⟩
      · obtain ⟨c, k1, k2⟩ := rtA_on P d (e + 1) h (by omega) (by omega) hP
        exact ⟨c + 1, by rw [if_pos q]; omega, by rw [if_pos q, if_neg (by omega)]; exact k2⟩
    · have z : h ≠ e := fun z => q (z ▸ hP)
      obtain ⟨c, k1, k2⟩ := rtA_on P d (e + 1) h (by omega) (by omega) hP
      exact ⟨c, by rw [if_neg q]; omega, by rw [if_neg q]; exact k2⟩
theorem KP_rt {s : Nat → Int} (hI : MI s) (S : Nat) : KP s S (cD (kmP S) (s 1).toNat 0) (rtA (kmP S) (s 1).toNat 0) := by
  have i1 := hI.2.1
  refine ⟨by have := cD_le (kmP S) (s 1).toNat 0; omega, fun i hi => ⟨?_, rtA_P _ _ _ _ hi⟩, fun i j hij hj e => ?_, fun h hh => ?_⟩
  · have := rtA_b (kmP S) (s 1).toNat 0 i hi
    omega
  · have := rtA_lt (kmP S) (s 1).toNat 0 i j hij hj
    omega
  · have h1 : (h : Int) < s 1 := hh.1
    exact rtA_on _ _ _ h (by omega) (by omega) hh.2
/-- hearers, columns and readings as they were taken over -/
def KR (σ : St) (s g : Nat → Int) : Prop := gF σ 6082 = PR (s 0) ∧ gF σ 6083 = s 0 ∧ gF σ 6084 = s 1 ∧ (∀ d h : Nat, (d : Int) < s 0 → (h : Int) < s 1 → gA σ (149 + d) h = clS s d h) ∧ ∀ h : Nat, (h : Int) < s 1 → gA σ 212 h = g h
/-- what a search changes -/
def SKF (σ σ' : St) : Prop := (∀ q, q ≠ 6080 → q ≠ 6086 → q ≠ 6092 → gF σ' q = gF σ q) ∧ ∀ a, a ≠ 96 → a ≠ 98 → a ≠ 101 → a ≠ 102 → a < 209 ∨ a = 212 ∨ 215 ≤ a → ∀ i, gA σ' a i = gA σ a i
theorem SKF.rf {σ : St} : SKF σ σ := ⟨fun _ _ _ _ => rfl, fun _ _ _ _ _ _ _ => rfl⟩
theorem SKF.tr {a b c : St} (h : SKF a b) (g : SKF b c) : SKF a c := ⟨fun q h1 h2 h3 => (g.1 q h1 h2 h3).trans (h.1 q h1 h2 h3), fun x h1 h2 h3 h4 h5 i => (g.2 x h1 h2 h3 h4 h5 i).trans (h.2 x h1 h2 h3 h4 h5 i)⟩
theorem MKF.sk {a b : St} (h : MKF a b) : SKF a b := ⟨fun q h1 _ _ => h.1 q h1, h.2⟩
theorem SKF.W {a b : St} (h : SKF a b) : WFr a b := by
  refine ⟨fun q hq => h.1 q ?_ ?_ ?_, fun x hx i => ?_⟩
  · intro e; subst e; cases hq
  · intro e; subst e; cases hq
  · intro e; subst e; cases hq
  · have : ¬ 91 ≤ x := fun w => by rw [wSA_hi w] at hx; cases hx
    exact h.2 x (by omega) (by omega) (by omega) (by omega) (by omega) i
section
variable {F : Nat} {s : Nat → Int} {S : Nat} {g : Nat → Int} {one : Bool} {G : List Nat → Bool}
theorem KR_sk (hI : MI s) {σ σ' : St} (h : KR σ s g) (k : SKF σ σ') : KR σ' s g := by
  have i0 := hI.1
  refine ⟨by rw [k.1 _ (by omega) (by omega) (by omega)]; exact h.1, by rw [k.1 _ (by omega) (by omega) (by omega)]; exact h.2.1, by rw [k.1 _ (by omega) (by omega) (by omega)]; exact h.2.2.1, fun d h' h1 h2 => ?_, fun h' h1 => ?_⟩
  · rw [k.2 _ (by omega) (by omega) (by omega) (by omega) (by omega)]; exact h.2.2.2.1 d h' h1 h2
  · rw [k.2 _ (by omega) (by omega) (by omega) (by omega) (by omega)]; exact h.2.2.2.2 h' h1
/-- hear -/
theorem W_h54 (hI : MI s) (k32 : St → Int → Option (Int × St)) {h : Nat} (hh : (h : Int) < s 1) : ∀ (d m : Nat) (σ : St) (x : Nat), d < m → (x : Int) + d = s 0 → WV σ s → gF σ 6083 = s 0 → (∀ x' : Nat, x' < x → gA σ (149 + x') h = clS s x' h) → ∃ σ', l_Makers_hear_scene0_readings_54 F k32 m σ (h : Nat) (x : Nat) = k32 σ' ((h + 1 : Nat) : Int) ∧ (∀ x' : Nat, (x' : Int) < s 0 → gA σ' (149 + x') h = clS s x' h) ∧ (∀ q, gF σ' q = gF σ q) ∧ (∀ a, a < 149 ∨ 209 ≤ a → ∀ i, gA σ' a i = gA σ a i) ∧ ∀ a i, i ≠ h → gA σ' a i = gA σ a i
  | _, 0, _, _, h, _, _, _, _ => absurd h (Nat.not_lt_zero _)
  | 0, m + 1, σ, x, _, hx, hV, h83, hc => by
    have i0 := hI.1
    have i1 := hI.2.1
    refine ⟨σ, ?_, fun x' hx' => hc x' (by omega), fun _ => rfl, fun _ _ _ => rfl, fun _ _ _ => rfl⟩
    show b_Makers_hear_scene0_readings_54 F k32 _ σ _ _ = _
    unfold b_Makers_hear_scene0_readings_54
    rw [h83, gd_t (by omega), if_pos (by omega), bv_s]; rfl
  | d + 1, m + 1, σ, x, hm, hx, hV, h83, hc => by
    have i0 := hI.1
    have i1 := hI.2.1
    have hV' : WV (sA σ (149 + x) h (clS s x h)) s := WV_of hV (fun _ _ => rfl) (fun a h1 h2 i => by rw [gA_sA, if_neg (by omega)])
    obtain ⟨σ', k1, k2, k3, k4, k5⟩ := W_h54 hI k32 hh d m (sA σ (149 + x) h (clS s x h)) (x + 1) (by omega) (by omega) hV' h83 (fun x' hx' => by
      rw [gA_sA]
      by_cases w : x' = x
      · rw [if_pos ⟨by rw [w], rfl⟩, w]
      · rw [if_neg (by omega)]; exact hc x' (by omega))
    refine ⟨σ', ?_, k2, k3, fun a ha i => by rw [k4 a ha, gA_sA, if_neg (by omega)], fun a i hi => by rw [k5 a i hi, gA_sA, if_neg (fun w => hi w.2)]⟩
    rw [← k1]
    have hg := W_gained (F := F) hI hV (h := h) (d := x) (by omega) (by omega)
    show b_Makers_hear_scene0_readings_54 F k32 _ σ _ _ = _
    unfold b_Makers_hear_scene0_readings_54
    rw [h83, gd_t (by omega), if_neg (by omega), gd_t (by omega), hg, bnd_s, gd_t (by omega), bs_s, bv_s, Int.toNat_natCast, Int.toNat_natCast]; rfl
theorem W_h32 (hI : MI s) (hF : 100 ≤ F) : ∀ (d m : Nat) (σ : St) (h : Nat), d < m → (h : Int) + d = s 1 → WV σ s → gF σ 6083 = s 0 → gF σ 6084 = s 1 → (∀ i : Nat, (i : Int) < s 1 → gA σ 94 i = g i) → (∀ x' h' : Nat, (x' : Int) < s 0 → h' < h → gA σ (149 + x') h' = clS s x' h') → (∀ h', h' < h → gA σ 212 h' = g h') → ∃ σ', l_Makers_hear_scene0_readings_32 F m σ (h : Nat) = some (0, σ') ∧ (∀ x' h' : Nat, (x' : Int) < s 0 → (h' : Int) < s 1 → gA σ' (149 + x') h' = clS s x' h') ∧ (∀ h' : Nat, (h' : Int) < s 1 → gA σ' 212 h' = g h') ∧ (∀ q, gF σ' q = gF σ q) ∧ ∀ a, a < 149 ∨ (209 ≤ a ∧ a ≠ 212) → ∀ i, gA σ' a i = gA σ a i
  | _, 0, _, _, h, _, _, _, _, _, _, _ => absurd h (Nat.not_lt_zero _)
  | 0, m + 1, σ, h, _, hx, hV, h83, h84, h94, hc, hr => by
    have i1 := hI.2.1
    refine ⟨σ, ?_, fun x' h' h1 h2 => hc x' h' h1 (by omega), fun h' h1 => hr h' (by omega), fun _ => rfl, fun _ _ _ => rfl⟩
    show b_Makers_hear_scene0_readings_32 F _ σ _ = _
    unfold b_Makers_hear_scene0_readings_32
    rw [h84, gd_t (by omega), if_pos (by omega)]
  | d + 1, m + 1, σ, h, hm, hx, hV, h83, h84, h94, hc, hr => by
    have i0 := hI.1
    have i1 := hI.2.1
    have hV' : WV (sA σ 212 h (g h)) s := WV_of hV (fun _ _ => rfl) (fun a h1 h2 i => by rw [gA_sA, if_neg (by omega)])
    obtain ⟨s1, a1, a2, a3, a4, a5⟩ := W_h54 (F := F) hI (l_Makers_hear_scene0_readings_32 F m) (h := h) (by omega) (s 0).toNat F (sA σ 212 h (g h)) 0 (by omega) (by omega) hV' h83 (fun x' hx' => by omega)
    have hV1 : WV s1 s := WV_of hV' (fun q _ => a3 q) (fun a h1 h2 i => a4 a (by omega) i)
    obtain ⟨σ', k1, k2, k3, k4, k5⟩ := W_h32 hI hF d m s1 (h + 1) (by omega) (by omega) hV1 (by rw [a3]; exact h83) (by rw [a3]; exact h84) (fun i hi => by rw [a4 94 (by omega), gA_sA, if_neg (by omega)]; exact h94 i hi) (fun x' h' h1 h2 => by
      by_cases w : h' = h
      · rw [w]; exact a2 x' h1
      · rw [a5 _ h' w, gA_sA, if_neg (by omega)]; exact hc x' h' h1 (by omega)) (fun h' h1 => by
      rw [a4 212 (by omega), gA_sA]
      by_cases w : h' = h
      · rw [if_pos ⟨rfl, w⟩, w]
      · rw [if_neg (fun q => w q.2)]; exact hr h' (by omega))
    refine ⟨σ', ?_, k2, k3, fun q => by rw [k4, a3]; rfl, fun a ha i => by rw [k5 a ha, a4 a (by omega), gA_sA, if_neg (by omega)]⟩
    rw [← k1, ← a1]
    show b_Makers_hear_scene0_readings_32 F _ σ _ = _
    unfold b_Makers_hear_scene0_readings_32
    rw [h84, gd_t (by omega), if_neg (by omega), gd_t (by omega), gd_t (by omega), gd_t (by omega), bs_s, Int.toNat_natCast, h94 h (by omega)]; rfl
theorem W_hear (hI : MI s) (hF : 100 ≤ F) {σ : St} (hV : WV σ s) (h94 : ∀ i : Nat, (i : Int) < s 1 → gA σ 94 i = g i) : ∃ σ', f_Makers_hear_scene0_readings F σ = some (0, σ') ∧ KR σ' s g ∧ (∀ q, q ≠ 6082 → q ≠ 6083 → q ≠ 6084 → gF σ' q = gF σ q) ∧ ∀ a, a < 149 ∨ (209 ≤ a ∧ a ≠ 212) → ∀ i, gA σ' a i = gA σ a i := by
  have i1 := hI.2.1
  have w : WFr σ (sF (sF (sF σ 6082 (PR (s 0))) 6083 (s 0)) 6084 (s 1)) := WFr.sF rfl (WFr.sF rfl (WFr.sF rfl WFr.rf))
  obtain ⟨σ', k1, k2, k3, k4, k5⟩ := W_h32 (F := F) (g := g) hI hF (s 1).toNat F (sF (sF (sF σ 6082 (PR (s 0))) 6083 (s 0)) 6084 (s 1)) 0 (by omega) (by omega) (WV_fr hV w) rfl rfl h94 (fun x' h' _ h => by omega) (fun h' h => by omega)
  refine ⟨σ', ?_, ⟨by rw [k4]; rfl, by rw [k4]; rfl, by rw [k4]; rfl, k2, k3⟩, fun q h1 h2 h3 => by rw [k4, gF_sF, if_neg h3, gF_sF, if_neg h2, gF_sF, if_neg h1], k5⟩
  unfold f_Makers_hear_scene0_readings
  rw [bs_s, bs_s, bs_s, hV.1.2.1, show gF (sF σ 6082 (PR (s 0))) 1472 = s 0 from hV.1.1, show gF (sF (sF σ 6082 (PR (s 0))) 6083 (s 0)) 5059 = s 1 from hV.2.1]
  exact k1
/-- hearAllBut -/
theorem W_hab7 (hI : MI s) {a b : Int} (hab : rng a ∧ rng b) (hS : ∀ h : Nat, h < 10 → (kmP S h = true ↔ (h : Int) ≠ a ∧ (h : Int) ≠ b)) : ∀ (d m : Nat) (σ : St) (h c : Nat), d < m → (h : Int) + d = s 1 → gF σ 6084 = s 1 → gF σ 6086 = (c : Nat) → c ≤ h → c + cD (kmP S) d h = cD (kmP S) (s 1).toNat 0 → (∀ j, rtA (kmP S) (s 1).toNat 0 (c + j) = rtA (kmP S) d h j) → (∀ j, j < c → gA σ 98 j = (rtA (kmP S) (s 1).toNat 0 j : Nat)) → ∃ σ', l_Makers_hearAllBut_7 F m σ a b (h : Nat) = some (0, σ') ∧ gF σ' 6086 = (cD (kmP S) (s 1).toNat 0 : Nat) ∧ (∀ j, j < cD (kmP S) (s 1).toNat 0 → gA σ' 98 j = (rtA (kmP S) (s 1).toNat 0 j : Nat)) ∧ (∀ q, q ≠ 6086 → gF σ' q = gF σ q) ∧ ∀ a, a ≠ 98 → ∀ i, gA σ' a i = gA σ a i
  | _, 0, _, _, _, h, _, _, _, _, _, _, _ => absurd h (Nat.not_lt_zero _)
  | 0, m + 1, σ, h, c, _, hh, h84, h86, hch, hc, hr, hA => by
    have i1 := hI.2.1
    have e : cD (kmP S) 0 h = 0 := rfl
    refine ⟨σ, ?_, by rw [h86]; omega, fun j hj => hA j (by omega), fun _ _ => rfl, fun _ _ _ => rfl⟩
    show b_Makers_hearAllBut_7 F _ σ _ _ _ = _
    unfold b_Makers_hearAllBut_7
    rw [h84, gd_t (by omega), if_pos (by omega)]
  | d + 1, m + 1, σ, h, c, hm, hh, h84, h86, hch, hc, hr, hA => by
    have i1 := hI.2.1
    have hSh := hS h (by omega)
    by_cases q : kmP S h = true
    · have hn := hSh.mp q
      have ec : cD (kmP S) (d + 1) h = 1 + cD (kmP S) d (h + 1) := by
        show (if kmP S h = true then 1 else 0) + cD (kmP S) d (h + 1) = _
        rw [if_pos q]
      have er : ∀ j, rtA (kmP S) (d + 1) h j = if j = 0 then h else rtA (kmP S) d (h + 1) (j - 1) := fun j => by
        show (if kmP S h = true then (if j = 0 then h else rtA (kmP S) d (h + 1) (j - 1)) else _) = _
        rw [if_pos q]
      have r0 : rtA (kmP S) (s 1).toNat 0 c = h := by have := hr 0; rw [er, if_pos rfl] at this; exact this
      obtain ⟨σ', k1, k2, k3, k4, k5⟩ := W_hab7 hI hab hS d m (sF (sA σ 98 c (h : Nat)) 6086 ((c : Int) + 1)) (h + 1) (c + 1) (by omega) (by omega) h84 (by rw [gF_eq]; omega) (by omega) (by omega) (fun j => by rw [show c + 1 + j = c + (j + 1) by omega, hr, er, if_neg (by omega)]; rfl) (fun j hj => by
        rw [gA_sF, gA_sA]
        by_cases w : j = c
        · rw [if_pos ⟨rfl, w⟩, w, r0]
        · rw [if_neg (fun z => w z.2)]; exact hA j (by omega))
      refine ⟨σ', ?_, k2, k3, fun q hq => by rw [k4 q hq, gF_sF, if_neg hq]; rfl, fun a ha i => by rw [k5 a ha, gA_sF, gA_sA, if_neg (fun z => ha z.1)]⟩
      rw [← k1]
      show b_Makers_hearAllBut_7 F _ σ _ _ _ = _
      unfold b_Makers_hearAllBut_7
      rw [h84, gd_t (by omega), if_neg (by omega), gd_t ⟨by omega, hab.1⟩, if_neg hn.1, gd_t ⟨by omega, hab.2⟩, if_neg hn.2, h86, gd_t (by omega), bs_s, bs_s, bv_s, Int.toNat_natCast, show gF (sA σ 98 c (h : Nat)) 6086 = (c : Nat) from h86]; rfl
    · have ec : cD (kmP S) (d + 1) h = cD (kmP S) d (h + 1) := by
        show (if kmP S h = true then 1 else 0) + cD (kmP S) d (h + 1) = _
        rw [if_neg q, Nat.zero_add]
      have er : ∀ j, rtA (kmP S) (d + 1) h j = rtA (kmP S) d (h + 1) j := fun j => by
        show (if kmP S h = true then _ else rtA (kmP S) d (h + 1) j) = _
        rw [if_neg q]
      obtain ⟨σ', k1, k2⟩ := W_hab7 hI hab hS d m σ (h + 1) c (by omega) (by omega) h84 h86 (by omega) (by omega) (fun j => by rw [hr, er]) hA
      refine ⟨σ', ?_, k2⟩
      rw [← k1]
      show b_Makers_hearAllBut_7 F _ σ _ _ _ = _
      unfold b_Makers_hearAllBut_7
      rw [h84, gd_t (by omega), if_neg (by omega), gd_t ⟨by omega, hab.1⟩]
      by_cases w : (h : Int) = a
      · rw [if_pos w, bv_s]; rfl
      · have w2 : (h : Int) = b := by
          by_cases w2 : (h : Int) = b
          · exact w2
          · exact absurd (hSh.mpr ⟨w, w2⟩) q
        rw [if_neg w, gd_t ⟨by omega, hab.2⟩, if_pos w2, bv_s]; rfl
theorem W_hab (hI : MI s) (hF : 100 ≤ F) {a b : Int} (hab : rng a ∧ rng b) (hS : ∀ h : Nat, h < 10 → (kmP S h = true ↔ (h : Int) ≠ a ∧ (h : Int) ≠ b)) {σ : St} (hK : KR σ s g) : ∃ σ', f_Makers_hearAllBut F σ a b = some (0, σ') ∧ KR σ' s g ∧ SKF σ σ' ∧ gF σ' 6086 = (cD (kmP S) (s 1).toNat 0 : Nat) ∧ ∀ j, j < cD (kmP S) (s 1).toNat 0 → gA σ' 98 j = (rtA (kmP S) (s 1).toNat 0 j : Nat) := by
  have i1 := hI.2.1
  obtain ⟨σ', k1, k2, k3, k4, k5⟩ := W_hab7 (F := F) hI hab hS (s 1).toNat F (sF σ 6086 0) 0 0 (by omega) (by omega) hK.2.2.1 rfl (by omega) (by omega) (fun j => by rw [Nat.zero_add]) (fun j h => by omega)
  have sk : SKF σ σ' := ⟨fun q h1 h2 h3 => by rw [k4 q h2, gF_sF, if_neg h2], fun x h1 h2 h3 h4 h5 i => by rw [k5 x h2]; rfl⟩
  exact ⟨σ', k1, KR_sk hI hK sk, sk, k2, k3⟩
/-- of k directions: how many sets, the first -/
def cntK (s : Nat → Int) (one : Bool) (G : List Nat → Bool) (k : Nat) : Nat × List Nat := fol one G (0, []) (en (s 0).toNat k 0)
theorem cntK_no {k : Nat} (hG : ∀ x, x.length ≤ 3 → (G x = true ↔ MkL (PR (s 0)) (HH s S) (clS s) x g)) (hk : k ≤ 3) (h : (cntK s one G k).1 = 0) : ∀ x, x.length + 1 = k + 1 → Inc (s 0).toNat x → ¬ MkL (PR (s 0)) (HH s S) (clS s) x g := by
  intro x h1 h2 h3
  have h4 := (fol_zero (one := one) (G := G) (en (s 0).toNat k 0) (z := (0, [])) rfl).mp h x (in_en _ _ _ _ (by omega) h2.1 (fun a ha => by have := h2.2 a ha; omega))
  rw [(hG x (by omega)).mpr h3] at h4
  cases h4
theorem W_fu33 (hI : MI s) (hF : 200 ≤ F) {cnt most : Nat} (hmost : most ≤ 3) (hg : ∀ h, HH s S h → 0 ≤ g h ∧ g h < PR (s 0)) (hG : ∀ x, x.length ≤ 3 → (G x = true ↔ MkL (PR (s 0)) (HH s S) (clS s) x g)) {ds : Nat → Nat} : ∀ (d m : Nat) (σ : St) (A : Nat → Nat) (k : Nat) (z : List Nat), d < m → k + d = most + 1 → 1 ≤ k → CI σ s S cnt g ds A 0 (0, z) k one → (∀ j, j < k → (cntK s one G j).1 = 0) → ∃ r σ', l_Makers_fewestUpTo_33 F m σ (most : Nat) (k : Nat) = some (r, σ') ∧ MKF σ σ' ∧ ((∃ k' : Nat, k' ≤ most ∧ r = k' ∧ (∀ j, j < k' → (cntK s one G j).1 = 0) ∧ 0 < (cntK s one G k').1 ∧ STk σ' (cntK s one G k') k') ∨ (r = -1 ∧ ∀ j, j ≤ most → (cntK s one G j).1 = 0))
  | _, 0, _, _, _, _, h, _, _, _, _ => absurd h (Nat.not_lt_zero _)
  | 0, m + 1, σ, A, k, z, _, hk, h1, hC, hz => by
    refine ⟨-1, σ, ?_, MKF.rf, Or.inr ⟨rfl, fun j hj => hz j (by omega)⟩⟩
    show b_Makers_fewestUpTo_33 F _ σ _ _ = _
    unfold b_Makers_fewestUpTo_33
    rw [gd_t (by omega), if_pos (by omega)]
  | d + 1, m + 1, σ, A, k, z, hm, hk, h1, hC, hz => by
    have i0 := hI.1
    have hb : (en (s 0).toNat k 0).length ≤ 1000000000 := by
      have h2 := en_len (s 0).toNat k 0
      have h3 : ((s 0).toNat + 1) ^ k ≤ 61 ^ k := Nat.pow_le_pow_left (by omega) k
      have h4 : 61 ^ k ≤ 61 ^ 3 := Nat.pow_le_pow_right (by omega) (by omega)
      omega
    have hC0 : CI σ s S cnt g ds A 0 (0, []) k one := ⟨hC.1, hC.2.1, hC.2.2.1, hC.2.2.2.1, hC.2.2.2.2.1, hC.2.2.2.2.2.1, ⟨hC.2.2.2.2.2.2.1.1, fun h => absurd h (by decide)⟩, hC.2.2.2.2.2.2.2⟩
    have hno := cntK_no (k := k - 1) hG (by omega) (hz (k - 1) (by omega))
    rw [show k - 1 + 1 = k by omega] at hno
    obtain ⟨s1, A1, a1, a2, a3, a4⟩ := W_ch (F := F) (k := k) (one := one) (G := G) hI hF (by omega) hg (fun x hx => hG x (by omega)) hno (k - 1) 4 (by omega) σ ds A (0, []) 0 0 (by omega) (by omega) hC0 List.Pairwise.nil (fun i h => by omega) (by rw [show k - 1 + 1 = k by omega]; show 0 + _ ≤ _; rw [Nat.zero_add]; exact hb)
    have em : fol one G (0, []) ((en ((s 0).toNat - 0) (k - 1 + 1) 0).map (lst ds 0 ++ ·)) = cntK s one G k := by
      unfold cntK
      rw [show k - 1 + 1 = k by omega, Nat.sub_zero]
      congr 1
      exact List.map_id' _
    rw [em] at a2
    have hS := a2.2.2.2.2.2.2.1
    have hle := (fol_le (one := one) (G := G) (en (s 0).toNat k 0) (z := (0, []))).2
    have hle2 : (cntK s one G k).1 ≤ 1000000000 := by
      have : (cntK s one G k).1 ≤ 0 + (en (s 0).toNat k 0).length := hle
      omega
    by_cases c : (cntK s one G k).1 = 0
    · obtain ⟨r, σ', k1, k2, k3⟩ := W_fu33 hI hF hmost hg hG d m s1 A1 (k + 1) (cntK s one G k).2 (by omega) (by omega) (by omega) ⟨a2.1, a2.2.1, a2.2.2.1, a2.2.2.2.1, a2.2.2.2.2.1, a2.2.2.2.2.2.1, ⟨by rw [hS.1, c], fun h => absurd h (by omega)⟩, a2.2.2.2.2.2.2.2⟩ (fun j hj => by
        by_cases w : j = k
        · rw [w]; exact c
        · exact hz j (by omega))
      refine ⟨r, σ', ?_, a4.tr k2, k3⟩
      rw [← k1]
      show b_Makers_fewestUpTo_33 F _ σ _ _ = _
      unfold b_Makers_fewestUpTo_33
      rw [gd_t (by omega), if_neg (by omega), show f_Makers_choose F 4 σ 0 0 (k : Nat) = some (0, s1) from a1, bnd_s, hS.1, gd_t (by omega), if_pos (by omega), bv_s]; rfl
    · refine ⟨(k : Nat), s1, ?_, a4, Or.inl ⟨k, by omega, rfl, hz, by omega, hS⟩⟩
      show b_Makers_fewestUpTo_33 F _ σ _ _ = _
      unfold b_Makers_fewestUpTo_33
      rw [gd_t (by omega), if_neg (by omega), show f_Makers_choose F 4 σ 0 0 (k : Nat) = some (0, s1) from a1, bnd_s, hS.1, gd_t (by omega), if_neg (by omega)]
/-- fewestUpTo -/
theorem W_fu (hI : MI s) (hF : 200 ≤ F) {most : Nat} (hmost : most ≤ 3) (hg : ∀ h, HH s S h → 0 ≤ g h ∧ g h < PR (s 0)) (hG : ∀ x, x.length ≤ 3 → (G x = true ↔ MkL (PR (s 0)) (HH s S) (clS s) x g)) {σ : St} (hK : KR σ s g) (h86 : gF σ 6086 = (cD (kmP S) (s 1).toNat 0 : Nat)) (h98 : ∀ j, j < cD (kmP S) (s 1).toNat 0 → gA σ 98 j = (rtA (kmP S) (s 1).toNat 0 j : Nat)) : ∃ r σ', f_Makers_fewestUpTo F σ (most : Nat) (bi one) = some (r, σ') ∧ KR σ' s g ∧ SKF σ σ' ∧ ((∃ k' : Nat, k' ≤ most ∧ r = k' ∧ (∀ j, j < k' → (cntK s one G j).1 = 0) ∧ 0 < (cntK s one G k').1 ∧ STk σ' (cntK s one G k') k') ∨ (r = -1 ∧ ∀ j, j ≤ most → (cntK s one G j).1 = 0)) := by
  have hp := PR_b hI.1
  have i1 := hI.2.1
  have hKP := KP_rt hI S
  have b1 : isb (bi one) := by cases one <;> decide
  have sk : SKF σ (sF (sF σ 6092 (bi one)) 6080 0) := ⟨fun q h1 h2 h3 => by rw [gF_sF, if_neg h1, gF_sF, if_neg h3], fun _ _ _ _ _ _ _ => rfl⟩
  have hK2 := KR_sk hI hK sk
  generalize hs2 : sF (sF σ 6092 (bi one)) 6080 0 = s2 at *
  have e86 : gF s2 6086 = (cD (kmP S) (s 1).toNat 0 : Nat) := by rw [← hs2, gF_sF, if_neg (by omega), gF_sF, if_neg (by omega)]; exact h86
  have e98 : ∀ j, j < cD (kmP S) (s 1).toNat 0 → gA s2 98 j = (rtA (kmP S) (s 1).toNat 0 j : Nat) := fun j hj => by rw [← hs2]; exact h98 j hj
  have e80 : gF s2 6080 = 0 := by rw [← hs2]; rfl
  have e92 : gF s2 6092 = bi one := by rw [← hs2]; rfl
  have hrr : ∀ j, 0 ≤ j → j < cD (kmP S) (s 1).toNat 0 → gA s2 212 (rtA (kmP S) (s 1).toNat 0 j) = g (rtA (kmP S) (s 1).toNat 0 j) ∧ 0 ≤ g (rtA (kmP S) (s 1).toNat 0 j) ∧ g (rtA (kmP S) (s 1).toNat 0 j) ≤ 2000 := fun j _ h2 => by
    have h3 := hKP.2.1 j h2
    have := hg _ h3
    exact ⟨hK2.2.2.2.2 _ h3.1, by omega, by omega⟩
  have e : f_Makers_fewestUpTo F σ (most : Nat) (bi one) = bnd (f_Makers_bringForward F 212 s2 0) fun r4 σ5 => gd (rng r4) (if r4 = 0 then bs (sF σ5 6080 1) fun σ9 => some (0, σ9) else l_Makers_fewestUpTo_33 F F σ5 (most : Nat) 1) := by
    unfold f_Makers_fewestUpTo
    rw [gd_t b1, bs_s, bs_s, hs2, gd_t (by omega)]; rfl
  rw [e]
  have c0 : (cntK s one G 0) = if G [] = true then (1, []) else (0, []) := by
    unfold cntK
    rw [en_zero, fol_cons, fol_nil]
    unfold stp
    rw [if_neg (fun h => absurd h.2 (Nat.lt_irrefl 0))]
    by_cases w : G [] = true
    · rw [if_pos w, if_pos w]; rfl
    · rw [if_neg w, if_neg w]
  rcases W_bf (F := F) (σ := s2) (A := rtA (kmP S) (s 1).toNat 0) (fr := 0) (v := g) (a1 := 212) hKP.1 (by omega) e86 (fun i hi => ⟨e98 i hi, KP_lt hI hKP hi⟩) hrr (cD (kmP S) (s 1).toNat 0) F 0 (by have := hKP.1; omega) (by omega) (by omega) (fun j h1 h2 => by omega) with ⟨q, e1⟩ | ⟨j, h1, h2, h0, e1⟩
  · have hm : MkL (PR (s 0)) (HH s S) (clS s) [] g := fun h hh => by
      obtain ⟨i, hi, rfl⟩ := hKP.2.2.2 h hh
      rw [q i (by omega) hi, Int.zero_emod]
    have c1 : cntK s one G 0 = (1, []) := by rw [c0, if_pos ((hG [] (by show 0 ≤ 3; omega)).mpr hm)]
    have sk2 : SKF s2 (sF s2 6080 1) := ⟨fun q h1 h2 h3 => by rw [gF_sF, if_neg h1], fun _ _ _ _ _ _ _ => rfl⟩
    refine ⟨0, sF s2 6080 1, ?_, KR_sk hI hK2 sk2, sk.tr sk2, Or.inl ⟨0, by omega, rfl, fun j h => by omega, by rw [c1]; show 0 < 1; omega, by rw [c1]; exact ⟨rfl, fun _ i h => by omega⟩⟩⟩
    rw [show f_Makers_bringForward F 212 s2 0 = some (0, s2) from e1, bnd_s, gd_t (by omega), if_pos rfl, bs_s]
  · have hno : ¬ MkL (PR (s 0)) (HH s S) (clS s) [] g := fun h => by
      have h3 := h _ (hKP.2.1 j h2)
      have := hg _ (hKP.2.1 j h2)
      rw [Int.emod_eq_of_lt (by omega) (by omega)] at h3
      omega
    have c1 : (cntK s one G 0).1 = 0 := by rw [c0, if_neg (fun h => hno ((hG [] (by show 0 ≤ 3; omega)).mp h))]
    have hC : CI s2 s S (cD (kmP S) (s 1).toNat 0) g (fun _ => 0) (rtA (kmP S) (s 1).toNat 0) 0 (0, []) 1 one := ⟨hKP, ⟨hK2.1, hK2.2.1, e86, hK2.2.2.2.1⟩, ⟨e98, fun i j h => by omega, fun i j h3 h4 h5 => by
      rw [show i = 0 by omega]; exact (hrr j (by omega) h5).1⟩, fun i h => by omega, by omega, fun i h => by omega, ⟨e80, fun h => absurd h (Nat.lt_irrefl 0)⟩, e92⟩
    have C' := CI_sw hI hC (by omega) h2
    obtain ⟨r, σ', k1, k2, k3⟩ := W_fu33 (F := F) (one := one) (G := G) hI hF hmost hg hG most F _ _ 1 [] (by omega) (by omega) (by omega) C' (fun j hj => by rw [show j = 0 by omega]; exact c1)
    have tk : TKF s2 (sA (sA s2 98 j (rtA (kmP S) (s 1).toNat 0 0 : Nat)) 98 0 (rtA (kmP S) (s 1).toNat 0 j : Nat)) := ⟨fun _ => rfl, fun a h1 h2 h3 i => by rw [gA_sA, if_neg (fun z => h1 z.1), gA_sA, if_neg (fun z => h1 z.1)]⟩
    have hsk := (tk.mk.tr k2).sk
    refine ⟨r, σ', ?_, KR_sk hI hK2 hsk, sk.tr hsk, k3⟩
    have := (hrr j h1 h2).2
    rw [show f_Makers_bringForward F 212 s2 0 = some (g (rtA (kmP S) (s 1).toNat 0 j), _) from e1, bnd_s, gd_t (by omega), if_neg h0]
    exact k1
end
