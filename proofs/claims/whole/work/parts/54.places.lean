/-! PURE PART: places between places: apart, run, lag, even -/
def ptF (s : Nat → Int) (i : Nat) (l : Int) : Nat → Nat → Int
  | 0, _ => -1
  | d + 1, j => if plS s i - plS s j = l then j else ptF s i l d (j + 1)
def ptS (s : Nat → Int) (i : Nat) (l : Int) : Int := ptF s i l (s 1).toNat 0
def apS (s : Nat → Int) (l : Int) : Int := sumS (fun i => if ptS s i l = -1 then 0 else 1) (s 1).toNat
def lgF (s : Nat → Int) (l : Int) : Nat → Nat → Int
  | 0, _ => -1
  | d + 1, i => if ptS s i l = -1 then lgF s l d (i + 1) else if gnS s i = 0 then 0 else if gnS s (ptS s i l) = 0 then 0 else cvS s (plS s i) (plS s (ptS s i l))
def lgS (s : Nat → Int) (l : Int) : Int := lgF s l (s 1).toNat 0
def rnF (s : Nat → Int) : Nat → Nat → Int
  | 0, x => (x : Int) - 1
  | d + 1, x => if apS s x ≤ 0 then (x : Int) - 1 else rnF s d (x + 1)
def rnS (s : Nat → Int) : Int := rnF s 46 0
def evF (s : Nat → Int) : Nat → Nat → Bool
  | 0, _ => true
  | d + 1, i => if plS s i = plS s ((i : Int) - 1) + 1 then evF s d (i + 1) else false
def evS (s : Nat → Int) : Bool := evF s ((s 1).toNat - 1) 1
theorem ptF_b {s : Nat → Int} {i : Nat} {l : Int} : ∀ d j, ptF s i l d j = -1 ∨ ((j : Int) ≤ ptF s i l d j ∧ ptF s i l d j < j + d ∧ plS s i - plS s (ptF s i l d j) = l)
  | 0, _ => Or.inl rfl
  | d + 1, j => by
    unfold ptF
    by_cases c : plS s i - plS s j = l
    · rw [if_pos c]; exact Or.inr ⟨by omega, by omega, c⟩
    · rw [if_neg c]
      rcases ptF_b d (j + 1) with h | h
      · exact Or.inl h
      · exact Or.inr ⟨by omega, by omega, h.2.2⟩
theorem ptF_none {s : Nat → Int} {i : Nat} {l : Int} : ∀ d j, ptF s i l d j = -1 ↔ ∀ k, j ≤ k → k < j + d → plS s i - plS s k ≠ l
  | 0, j => ⟨fun _ k h1 h2 => by omega, fun _ => rfl⟩
  | d + 1, j => by
    unfold ptF
    by_cases c : plS s i - plS s j = l
    · rw [if_pos c]
      exact ⟨fun h => by omega, fun h => absurd c (h j (by omega) (by omega))⟩
    · rw [if_neg c, ptF_none d (j + 1)]
      refine ⟨fun h k h1 h2 => ?_, fun h k h1 h2 => h k (by omega) (by omega)⟩
      by_cases e : k = j
      · rw [e]; exact c
      · exact h k (by omega) (by omega)
theorem ptS_b {s : Nat → Int} (hI : MI s) (i : Nat) (l : Int) : ptS s i l = -1 ∨ (0 ≤ ptS s i l ∧ ptS s i l < s 1 ∧ plS s i - plS s (ptS s i l) = l) := by
  have i1 := hI.2.1
  rcases ptF_b (s := s) (i := i) (l := l) (s 1).toNat 0 with h | h
  · exact Or.inl h
  · exact Or.inr ⟨by unfold ptS; omega, by unfold ptS; omega, h.2.2⟩
theorem sumS_nn {f : Nat → Int} : ∀ {n : Nat}, (∀ i, i < n → 0 ≤ f i) → 0 ≤ sumS f n
  | 0, _ => Int.le_refl 0
  | n + 1, h => by have := sumS_nn (n := n) (fun i hi => h i (by omega)); have := h n (by omega); rw [sumS]; omega
theorem sumS_le {f g : Nat → Int} : ∀ {n : Nat}, (∀ i, i < n → f i ≤ g i) → sumS f n ≤ sumS g n
  | 0, _ => Int.le_refl 0
  | n + 1, h => by have := sumS_le (n := n) (fun i hi => h i (by omega)); have := h n (by omega); rw [sumS, sumS]; omega
theorem sumS_add {f g : Nat → Int} : ∀ {n : Nat}, sumS (fun i => f i + g i) n = sumS f n + sumS g n
  | 0 => rfl
  | n + 1 => by rw [sumS, sumS, sumS, sumS_add]; omega
theorem sumS_const {c : Int} : ∀ {n : Nat}, sumS (fun _ => c) n = c * n
  | 0 => by simp [sumS]
  | n + 1 => by rw [sumS, sumS_const]; grind
theorem sumS_comm {f : Nat → Nat → Int} {m : Nat} : ∀ {n : Nat}, sumS (fun i => sumS (fun j => f i j) m) n = sumS (fun j => sumS (fun i => f i j) n) m
  | 0 => by
    have : sumS (fun _ => (0 : Int)) m = 0 := sumS_zero fun _ _ => rfl
    exact this.symm
  | n + 1 => by
    rw [sumS, sumS_comm, ← sumS_add]; rfl
theorem sumS_ge1 {f : Nat → Int} : ∀ {n k : Nat}, k < n → (∀ i, i < n → 0 ≤ f i) → f k ≤ sumS f n
  | 0, k, h, _ => by omega
  | n + 1, k, h, hf => by
    rw [sumS]
    by_cases c : k = n
    · have := sumS_nn (n := n) (fun i hi => hf i (by omega)); rw [c]; omega
    · have := sumS_ge1 (n := n) (k := k) (by omega) (fun i hi => hf i (by omega)); have := hf n (by omega); omega
theorem apS_b {s : Nat → Int} (l : Int) : 0 ≤ apS s l ∧ apS s l ≤ (s 1).toNat := by
  constructor
  · exact sumS_nn fun i _ => by split <;> omega
  · have : apS s l ≤ sumS (fun _ => 1) (s 1).toNat := sumS_le fun i _ => by split <;> omega
    rw [sumS_const] at this; omega
/-- at most one hearer stands l places behind hearer i -/
theorem pt_le {s : Nat → Int} (l : Nat) (i : Nat) : (if ptS s i l = -1 then (0 : Int) else 1) ≤ sumS (fun j => if plS s i - plS s j = l then 1 else 0) (s 1).toNat := by
  by_cases c : ptS s i l = -1
  · rw [if_pos c]; exact sumS_nn fun j _ => by split <;> omega
  · rw [if_neg c]
    rcases ptF_b (s := s) (i := i) (l := l) (s 1).toNat 0 with h | h
    · exact absurd h c
    · have h2 := sumS_ge1 (f := fun j => if plS s i - plS s j = l then (1 : Int) else 0) (n := (s 1).toNat) (k := (ptF s i l (s 1).toNat 0).toNat) (by omega) (fun j _ => by split <;> omega)
      have e : ((ptF s i l (s 1).toNat 0).toNat : Int) = ptF s i l (s 1).toNat 0 := by omega
      rw [e, if_pos h.2.2] at h2
      exact h2
theorem ind46 (z : Int) : ∀ n : Nat, sumS (fun l => if z = ((l + 1 : Nat) : Int) then (1 : Int) else 0) n ≤ if 0 < z then 1 else 0 := by
  have key : ∀ n : Nat, sumS (fun l => if z = ((l + 1 : Nat) : Int) then (1 : Int) else 0) n = if 0 < z ∧ z ≤ n then 1 else 0 := by
    intro n
    induction n with
    | zero => rw [sumS, if_neg (by omega)]
    | succ n ih =>
      rw [sumS, ih]
      by_cases c : z = ((n + 1 : Nat) : Int)
      · rw [if_pos c, if_neg (by omega), if_pos (by omega)]; rfl
      · rw [if_neg c]
        by_cases c2 : 0 < z ∧ z ≤ n
        · rw [if_pos c2, if_pos (by omega)]; rfl
        · rw [if_neg c2, if_neg (by omega)]; rfl
  intro n
  rw [key]
  by_cases c : 0 < z
  · rw [if_pos c]; split <;> omega
  · rw [if_neg c, if_neg (by omega)]; omega
theorem pairs45 {s : Nat → Int} (hI : MI s) : sumS (fun l => apS s ((l + 1 : Nat) : Int)) 46 ≤ 45 := by
  have i1 := hI.2.1
  let H := (s 1).toNat
  have h1 : sumS (fun l => apS s ((l + 1 : Nat) : Int)) 46 ≤ sumS (fun l => sumS (fun i => sumS (fun j => if plS s i - plS s j = ((l + 1 : Nat) : Int) then 1 else 0) H) H) 46 := sumS_le fun l _ => sumS_le fun i _ => pt_le (l + 1) i
  have h2 : sumS (fun l => sumS (fun i => sumS (fun j => if plS s i - plS s j = ((l + 1 : Nat) : Int) then (1 : Int) else 0) H) H) 46 = sumS (fun i => sumS (fun j => sumS (fun l => if plS s i - plS s j = ((l + 1 : Nat) : Int) then (1 : Int) else 0) 46) H) H := by
    rw [sumS_comm]
    refine sumS_congr fun i _ => ?_
    rw [sumS_comm]
  have h3 : sumS (fun i => sumS (fun j => sumS (fun l => if plS s i - plS s j = ((l + 1 : Nat) : Int) then (1 : Int) else 0) 46) H) H ≤ sumS (fun i => sumS (fun j => if 0 < plS s i - plS s j then 1 else 0) H) H := sumS_le fun i _ => sumS_le fun j _ => ind46 _ _
  have h4 : sumS (fun i => sumS (fun j => if 0 < plS s i - plS s j then (1 : Int) else 0) H) H = sumS (fun i => sumS (fun j => if 0 < plS s j - plS s i then (1 : Int) else 0) H) H := sumS_comm
  have h5 : ∀ n : Nat, ((n : Nat) : Int) = sumS (fun i => if i < n then 1 else 0) n := by
    intro n
    have : sumS (fun i => if i < n then (1 : Int) else 0) n = sumS (fun _ => 1) n := sumS_congr fun i hi => if_pos hi
    rw [this, sumS_const]; omega
  have h6 : sumS (fun i => sumS (fun j => if 0 < plS s i - plS s j then (1 : Int) else 0) H) H + sumS (fun i => sumS (fun j => if 0 < plS s j - plS s i then (1 : Int) else 0) H) H + sumS (fun _ => 1) H ≤ sumS (fun _ => sumS (fun _ => (1 : Int)) H) H := by
    rw [← sumS_add, ← sumS_add]
    refine sumS_le fun i hi => ?_
    have e1 : sumS (fun j => if 0 < plS s i - plS s j then (1 : Int) else 0) H + sumS (fun j => if 0 < plS s j - plS s i then (1 : Int) else 0) H + sumS (fun j => if plS s i = plS s j then (1 : Int) else 0) H = sumS (fun _ => (1 : Int)) H := by
      rw [← sumS_add, ← sumS_add]
      refine sumS_congr fun j _ => ?_
      rcases Int.lt_trichotomy (plS s i) (plS s j) with c | c | c
      · rw [if_neg (by omega), if_pos (by omega), if_neg (by omega)]; rfl
      · rw [if_neg (by omega), if_neg (by omega), if_pos c]; rfl
      · rw [if_pos (by omega), if_neg (by omega), if_neg (by omega)]; rfl
    have e2 := sumS_ge1 (f := fun j => if plS s i = plS s j then (1 : Int) else 0) (n := H) (k := i) hi (fun j _ => by split <;> omega)
    simp only [if_true] at e2
    omega
  rw [sumS_const, sumS_const] at h6
  have h7 : (1 * (H : Int)) * H ≤ 10 * H := by
    have : (H : Int) ≤ 10 := by show ((s 1).toNat : Int) ≤ 10; omega
    exact Int.mul_le_mul_of_nonneg_right (by omega) (by omega)
  have h8 : (H : Int) ≤ 10 := by show ((s 1).toNat : Int) ≤ 10; omega
  have h9 : (1 * (H : Int)) * H - 1 * H ≤ 90 := by
    have : ∃ n : Nat, n ≤ 10 ∧ H = n := ⟨H, by omega, rfl⟩
    obtain ⟨n, hn, e⟩ := this
    rw [e]
    have : n = 0 ∨ n = 1 ∨ n = 2 ∨ n = 3 ∨ n = 4 ∨ n = 5 ∨ n = 6 ∨ n = 7 ∨ n = 8 ∨ n = 9 ∨ n = 10 := by omega
    rcases this with rfl | rfl | rfl | rfl | rfl | rfl | rfl | rfl | rfl | rfl | rfl <;> omega
  omega
theorem ap46 {s : Nat → Int} (hI : MI s) (h : ∀ l : Nat, 1 ≤ l → l ≤ 45 → 0 < apS s l) : apS s 46 ≤ 0 := by
  have h1 := pairs45 hI
  have h2 : sumS (fun _ => (1 : Int)) 45 ≤ sumS (fun l => apS s ((l + 1 : Nat) : Int)) 45 := sumS_le fun l hl => by have := h (l + 1) (by omega) (by omega); omega
  rw [sumS_const] at h2
  rw [sumS] at h1
  have e : apS s ((45 + 1 : Nat) : Int) = apS s 46 := rfl
  rw [e] at h1
  omega
section
variable {F : Nat} {σ : St} {s : Nat → Int}
theorem W_pt (hI : MI s) (hV : WV σ s) {i : Nat} (hi : (i : Int) < s 1) {l : Int} (hl : 0 ≤ l ∧ l ≤ 99) : ∀ (d n j : Nat), d < n → j + d = (s 1).toNat → l_Scene_partner_scene0_2 F n σ (i : Nat) l (j : Nat) = some (ptF s i l d j, σ)
  | _, 0, _, h, _ => by omega
  | 0, n + 1, j, _, hd => by
    have v1 := hV.2.1
    have i1 := hI.2.1
    simp only [l_Scene_partner_scene0_2, b_Scene_partner_scene0_2, bv]
    rw [gd_t (by omega), if_pos (by omega)]; rfl
  | d + 1, n + 1, j, hn, hd => by
    have v1 := hV.2.1
    have i1 := hI.2.1
    have hi' := hV.2.2.2.2.2.2.1 i (by omega) hi
    have hj' := hV.2.2.2.2.2.2.1 j (by omega) (by omega)
    have bi' := hI.2.2.2.2.2.2.1 i (by omega) hi
    have bj' := hI.2.2.2.2.2.2.1 j (by omega) (by omega)
    simp only [l_Scene_partner_scene0_2, b_Scene_partner_scene0_2, bv]
    rw [gd_t (by omega), if_neg (by omega), gd_t (by omega), gd_t (by omega), hi'.1, hj'.1, gd_t (by omega)]
    unfold ptF
    by_cases c : plS s i - plS s j = l
    · rw [if_pos c, if_pos c]
    · rw [if_neg c, if_neg c]
      exact W_pt hI hV hi hl d n (j + 1) (by omega) (by omega)
theorem W_partner (hF : 20 ≤ F) (hI : MI s) (hV : WV σ s) {i : Nat} (hi : (i : Int) < s 1) {l : Int} (hl : 0 ≤ l ∧ l ≤ 99) : f_Scene_partner_scene0 F σ (i : Nat) l = some (ptS s i l, σ) := by
  have i1 := hI.2.1
  exact W_pt (F := F) hI hV hi hl (s 1).toNat F 0 (by omega) (by omega)
theorem W_pa (hF : 20 ≤ F) (hI : MI s) (hV : WV σ s) {l : Int} (hl : 0 ≤ l ∧ l ≤ 99) : ∀ (d n i : Nat), d < n → i + d = (s 1).toNat → l_Scene_pairsApart_scene0_4 F n σ l (sumS (fun i => if ptS s i l = -1 then 0 else 1) i) (i : Nat) = some (apS s l, σ)
  | _, 0, _, h, _ => by omega
  | 0, n + 1, i, _, hd => by
    have v1 := hV.2.1
    have i1 := hI.2.1
    simp only [l_Scene_pairsApart_scene0_4, b_Scene_pairsApart_scene0_4, bv]
    rw [gd_t (by omega), if_pos (by omega)]
    unfold apS
    rw [show i = (s 1).toNat by omega]
  | d + 1, n + 1, i, hn, hd => by
    have v1 := hV.2.1
    have i1 := hI.2.1
    have hb := ptS_b hI i l
    have ih := W_pa hF hI hV hl d n (i + 1) (by omega) (by omega)
    rw [sumS] at ih
    simp only [l_Scene_pairsApart_scene0_4, b_Scene_pairsApart_scene0_4, bv]
    rw [gd_t (by omega), if_neg (by omega), W_partner hF hI hV (by omega) hl, bnd_s, gd_t (by omega)]
    by_cases c : ptS s i l = -1
    · rw [if_pos c]
      rw [if_pos c, Int.add_zero] at ih
      exact ih
    · rw [if_neg c]
      rw [if_neg c] at ih
      exact ih
theorem W_pairs (hF : 20 ≤ F) (hI : MI s) (hV : WV σ s) {l : Int} (hl : 0 ≤ l ∧ l ≤ 99) : f_Scene_pairsApart_scene0 F σ l = some (apS s l, σ) := by
  have i1 := hI.2.1
  exact W_pa (F := F) hF hI hV hl (s 1).toNat F 0 (by omega) (by omega)
theorem W_rn (hF : 20 ≤ F) (hI : MI s) (hV : WV σ s) : ∀ (d n x : Nat), d < n → x + d = 46 → l_Scene_longestRun_scene0_2 F n σ (x : Nat) = some (rnF s d x, σ)
  | _, 0, _, h, _ => by omega
  | 0, n + 1, x, _, hd => by
    simp only [l_Scene_longestRun_scene0_2, b_Scene_longestRun_scene0_2, bv]
    rw [gd_t (by omega), if_pos (by omega)]; rfl
  | d + 1, n + 1, x, hn, hd => by
    have hb := apS_b (s := s) x
    have i1 := hI.2.1
    simp only [l_Scene_longestRun_scene0_2, b_Scene_longestRun_scene0_2, bv]
    rw [gd_t (by omega), if_neg (by omega), W_pairs hF hI hV (by omega), bnd_s, gd_t (by omega)]
    unfold rnF
    by_cases c : apS s x ≤ 0
    · rw [if_pos c, if_pos c]
    · rw [if_neg c, if_neg c]
      exact W_rn hF hI hV d n (x + 1) (by omega) (by omega)
theorem W_run (hF : 100 ≤ F) (hI : MI s) (hV : WV σ s) : f_Scene_longestRun_scene0 F σ = some (rnS s, σ) := W_rn (F := F) (by omega) hI hV 46 F 0 (by omega) rfl
theorem W_lg (hF : 20 ≤ F) (hI : MI s) (hV : WV σ s) {l : Int} (hl : 0 ≤ l ∧ l ≤ 99) : ∀ (d n i : Nat), d < n → i + d = (s 1).toNat → l_Scene_lagOf_scene0_2 F n σ l (i : Nat) = some (lgF s l d i, σ)
  | _, 0, _, h, _ => by omega
  | 0, n + 1, i, _, hd => by
    have v1 := hV.2.1
    have i1 := hI.2.1
    simp only [l_Scene_lagOf_scene0_2, b_Scene_lagOf_scene0_2, bv]
    rw [gd_t (by omega), if_pos (by omega)]; rfl
  | d + 1, n + 1, i, hn, hd => by
    have v1 := hV.2.1
    have i1 := hI.2.1
    have hb := ptS_b hI i l
    have hi' := hV.2.2.2.2.2.2.1 i (by omega) (by omega)
    have bi' := hI.2.2.2.2.2.2.1 i (by omega) (by omega)
    have hp := PR_b hI.1
    simp only [l_Scene_lagOf_scene0_2, b_Scene_lagOf_scene0_2, bv]
    rw [gd_t (by omega), if_neg (by omega), W_partner hF hI hV (by omega) hl, bnd_s, gd_t (by omega)]
    unfold lgF
    by_cases c : ptS s i l = -1
    · rw [if_pos c, if_pos c]
      exact W_lg hF hI hV hl d n (i + 1) (by omega) (by omega)
    · have hj := hb.resolve_left c
      have hj' := hV.2.2.2.2.2.2.1 (ptS s i l) hj.1 hj.2.1
      have bj' := hI.2.2.2.2.2.2.1 (ptS s i l) hj.1 hj.2.1
      rw [if_neg c, if_neg c, gd_t (by omega), hi'.2, gd_t (by omega)]
      by_cases c1 : gnS s i = 0
      · rw [if_pos c1, if_pos c1]
      · rw [if_neg c1, if_neg c1, gd_t (by omega), hj'.2, gd_t (by omega)]
        by_cases c2 : gnS s (ptS s i l) = 0
        · rw [if_pos c2, if_pos c2]
        · rw [if_neg c2, if_neg c2, gd_t (by omega), gd_t (by omega), hi'.1, hj'.1, W_cover0 (by omega) hI hV bi'.1 bj'.1, bnd_s]
theorem W_lagOf (hF : 20 ≤ F) (hI : MI s) (hV : WV σ s) {l : Int} (hl : 0 ≤ l ∧ l ≤ 99) : f_Scene_lagOf_scene0 F σ l = some (lgS s l, σ) := by
  have i1 := hI.2.1
  exact W_lg (F := F) hF hI hV hl (s 1).toNat F 0 (by omega) (by omega)
theorem W_ev (hI : MI s) (hV : WV σ s) : ∀ (d n i : Nat), d < n → 1 ≤ i → i + d = (s 1).toNat ∨ (d = 0 ∧ (s 1).toNat ≤ i ∧ i ≤ 20) → l_Scene_standsEven_scene0_2 F n σ (i : Nat) = some (bi (evF s d i), σ)
  | _, 0, _, h, _, _ => by omega
  | 0, n + 1, i, _, _, hd => by
    have v1 := hV.2.1
    have i1 := hI.2.1
    simp only [l_Scene_standsEven_scene0_2, b_Scene_standsEven_scene0_2, bv]
    rw [gd_t (by omega), if_pos (by omega)]; rfl
  | d + 1, n + 1, i, hn, h1, hd => by
    have v1 := hV.2.1
    have i1 := hI.2.1
    have hi' := hV.2.2.2.2.2.2.1 i (by omega) (by omega)
    have hj' := hV.2.2.2.2.2.2.1 ((i : Int) - 1) (by omega) (by omega)
    have bi' := hI.2.2.2.2.2.2.1 i (by omega) (by omega)
    have bj' := hI.2.2.2.2.2.2.1 ((i : Int) - 1) (by omega) (by omega)
    simp only [l_Scene_standsEven_scene0_2, b_Scene_standsEven_scene0_2, bv]
    rw [gd_t (by omega), if_neg (by omega), gd_t (by omega), gd_t (by omega), hi'.1, hj'.1, gd_t (by omega)]
    unfold evF
    by_cases c : plS s i = plS s ((i : Int) - 1) + 1
    · rw [if_pos c, if_pos c]
      exact W_ev hI hV d n (i + 1) (by omega) (by omega) (by omega)
    · rw [if_neg c, if_neg c]; rfl
theorem W_even (hF : 100 ≤ F) (hI : MI s) (hV : WV σ s) : f_Scene_standsEven_scene0 F σ = some (bi (evS s), σ) := by
  have i1 := hI.2.1
  exact W_ev (F := F) hI hV ((s 1).toNat - 1) F 1 (by omega) (by omega) (by omega)
theorem M_ev (hI : MI s) (hV : MV σ s) : ∀ (d n i : Nat), d < n → 1 ≤ i → i + d = (s 1).toNat ∨ (d = 0 ∧ (s 1).toNat ≤ i ∧ i ≤ 20) → l_M_isEven_2 F n σ (i : Nat) = some (bi (evF s d i), σ)
  | _, 0, _, h, _, _ => by omega
  | 0, n + 1, i, _, _, hd => by
    have v1 := hV.1 1
    have i1 := hI.2.1
    simp only [l_M_isEven_2, b_M_isEven_2, bv, Int.reduceToNat]
    rw [gd_t (by decide), gd_t (by omega), if_pos (by omega)]; rfl
  | d + 1, n + 1, i, hn, h1, hd => by
    have v1 := hV.1 1
    have i1 := hI.2.1
    have bi' := hI.2.2.2.2.2.2.1 i (by omega) (by omega)
    have bj' := hI.2.2.2.2.2.2.1 ((i : Int) - 1) (by omega) (by omega)
    simp only [l_M_isEven_2, b_M_isEven_2, bv, Int.reduceToNat]
    rw [gd_t (by decide), gd_t (by omega), if_neg (by omega), M_place hI hV (by omega), bnd_s, M_place hI hV (by omega), bnd_s, gd_t (by omega)]
    unfold evF
    by_cases c : plS s i = plS s ((i : Int) - 1) + 1
    · rw [if_pos c, if_pos c]
      exact M_ev hI hV d n (i + 1) (by omega) (by omega) (by omega)
    · rw [if_neg c, if_neg c]; rfl
theorem M_even (hF : 100 ≤ F) (hI : MI s) (hV : MV σ s) : f_M_isEven F σ = some (bi (evS s), σ) := by
  have i1 := hI.2.1
  exact M_ev (F := F) hI hV ((s 1).toNat - 1) F 1 (by omega) (by omega) (by omega)
theorem M_ap (hI : MI s) (hV : MV σ s) (k4 : St → Int → Int → Int → Option (Int × St)) {i : Nat} (hi : (i : Int) < s 1) {l : Int} (hl : 0 ≤ l ∧ l ≤ 99) : ∀ (d n j : Nat) (acc : Int), d < n → j + d = (s 1).toNat → l_M_apartOf_17 F k4 n σ l acc (i : Nat) (j : Nat) = k4 σ l (acc + if ptF s i l d j = -1 then 0 else 1) ((i : Int) + 1)
  | _, 0, _, _, h, _ => by omega
  | 0, n + 1, j, acc, _, hd => by
    have v1 := hV.1 1
    have i1 := hI.2.1
    simp only [l_M_apartOf_17, b_M_apartOf_17, bv, Int.reduceToNat]
    rw [gd_t (by decide), gd_t (by omega), if_pos (by omega), show ptF s i l 0 j = -1 from rfl, if_pos rfl, Int.add_zero]
  | d + 1, n + 1, j, acc, hn, hd => by
    have v1 := hV.1 1
    have i1 := hI.2.1
    have bi' := hI.2.2.2.2.2.2.1 i (by omega) (by omega)
    have bj' := hI.2.2.2.2.2.2.1 j (by omega) (by omega)
    simp only [l_M_apartOf_17, b_M_apartOf_17, bv, Int.reduceToNat]
    rw [gd_t (by decide), gd_t (by omega), if_neg (by omega), M_place hI hV (by omega), bnd_s, M_place hI hV (by omega), bnd_s, gd_t (by omega)]
    by_cases c : plS s i - plS s j = l
    · have e : ptF s i l (d + 1) j = j := if_pos c
      rw [if_pos c, e, if_neg (by omega)]
      have hnone : ptF s i l d (j + 1) = -1 := by
        rw [ptF_none]
        intro k h1 h2 e2
        exact hI.2.2.2.2.2.2.2.1 j k (by omega) (by omega) (by omega) (by omega)
      have := M_ap hI hV k4 hi hl d n (j + 1) (acc + 1) (by omega) (by omega)
      rw [hnone, if_pos rfl, Int.add_zero] at this
      exact this
    · have e : ptF s i l (d + 1) j = ptF s i l d (j + 1) := if_neg c
      rw [if_neg c, e, Int.add_zero]
      exact M_ap hI hV k4 hi hl d n (j + 1) acc (by omega) (by omega)
theorem M_apo (hF : 20 ≤ F) (hI : MI s) (hV : MV σ s) {l : Int} (hl : 0 ≤ l ∧ l ≤ 99) : ∀ (d n i : Nat), d < n → i + d = (s 1).toNat → l_M_apartOf_4 F n σ l (sumS (fun i => if ptS s i l = -1 then 0 else 1) i) (i : Nat) = some (apS s l, σ)
  | _, 0, _, h, _ => by omega
  | 0, n + 1, i, _, hd => by
    have v1 := hV.1 1
    have i1 := hI.2.1
    simp only [l_M_apartOf_4, b_M_apartOf_4, bv, Int.reduceToNat]
    rw [gd_t (by decide), gd_t (by omega), if_pos (by omega)]
    unfold apS
    rw [show i = (s 1).toNat by omega]
  | d + 1, n + 1, i, hn, hd => by
    have v1 := hV.1 1
    have i1 := hI.2.1
    have ih := M_apo hF hI hV hl d n (i + 1) (by omega) (by omega)
    rw [sumS] at ih
    simp only [l_M_apartOf_4, b_M_apartOf_4, bv, Int.reduceToNat]
    have hk := M_ap (F := F) hI hV (l_M_apartOf_4 F n) (i := i) (by omega) hl (s 1).toNat F 0 (sumS (fun i => if ptS s i l = -1 then 0 else 1) i) (by omega) (by omega)
    rw [gd_t (by decide), gd_t (by omega), if_neg (by omega)]
    exact hk.trans ih
theorem M_apartOf (hF : 20 ≤ F) (hI : MI s) (hV : MV σ s) {l : Int} (hl : 0 ≤ l ∧ l ≤ 99) : f_M_apartOf F σ l = some (apS s l, σ) := by
  have i1 := hI.2.1
  exact M_apo (F := F) hF hI hV hl (s 1).toNat F 0 (by omega) (by omega)
theorem M_rn (hF : 20 ≤ F) (hI : MI s) (hV : MV σ s) : ∀ (d n x : Nat), d + 1 < n → x + d = 46 → (∀ l : Nat, l < x → 0 < apS s l) → l_M_runOf_2 F n σ ((x : Int) - 1) = some (rnF s d x, σ)
  | _, 0, _, h, _, _ => by omega
  | 0, n + 1, x, _, hd, hall => by
    have h46 := ap46 hI (fun l h1 h2 => hall l (by omega))
    have hb := apS_b (s := s) 46
    have i1 := hI.2.1
    have e : (x : Int) - 1 + 1 = 46 := by omega
    simp only [l_M_runOf_2, b_M_runOf_2, bv]
    rw [gd_t (by omega), if_neg (by omega), e, M_apartOf hF hI hV (by omega), bnd_s, gd_t (by omega), if_pos h46]
    rfl
  | d + 1, n + 1, x, hn, hd, hall => by
    have hb := apS_b (s := s) x
    have i1 := hI.2.1
    have e : (x : Int) - 1 + 1 = x := by omega
    simp only [l_M_runOf_2, b_M_runOf_2, bv]
    rw [gd_t (by omega), if_neg (by omega), e, M_apartOf hF hI hV (by omega), bnd_s, gd_t (by omega)]
    unfold rnF
    by_cases c : apS s x ≤ 0
    · rw [if_pos c, if_pos c]
    · rw [if_neg c, if_neg c]
      have := M_rn hF hI hV d n (x + 1) (by omega) (by omega) (fun l hl => by
        by_cases q : l = x
        · rw [q]; omega
        · exact hall l (by omega))
      rw [show ((x + 1 : Nat) : Int) - 1 = x by omega] at this
      exact this
theorem M_runOf (hF : 100 ≤ F) (hI : MI s) (hV : MV σ s) : f_M_runOf F σ = some (rnS s, σ) := M_rn (F := F) (by omega) hI hV 46 F 0 (by omega) rfl (fun l h => by omega)
/-- no zero comes of two numbers that aren't 0 -/
theorem nzd {n a b : Int} (hn : wayN n) (ha : 0 < a ∧ a < PR n) (hb : 0 < b ∧ b < PR n) : a * b % PR n ≠ 0 := by
  intro e
  have h := INV_mul hn ha
  have : INV (PR n) a * (a * b) % PR n = 0 := by rw [Int.mul_emod, e, Int.mul_zero, Int.zero_emod]
  rw [← Int.mul_assoc, Int.mul_emod, h.1, Int.one_mul, em_mod, Int.emod_eq_of_lt (by omega) hb.2] at this
  omega
theorem INV_b {n a : Int} (h : wayN n) (ha : 0 ≤ a ∧ a < PR n) : 0 ≤ INV (PR n) a ∧ INV (PR n) a ≤ 1500 := by
  have hp := PR_b h
  by_cases c : a = 0
  · obtain ⟨r, h1, h2⟩ := INV_some h ha
    subst c
    have key : ∀ (j e v : Nat) (r : Nat), v ≤ 1 → ivN j (PR n).toNat v 0 e = some r → r ≤ 1 := by
      intro j
      induction j with
      | zero => intro e v r _ h; simp [ivN] at h
      | succ j ih =>
        intro e v r hv h
        unfold ivN at h
        by_cases c : e = 0
        · rw [if_pos c] at h; cases h; exact hv
        · rw [if_neg c, show 0 * 0 % (PR n).toNat = 0 by simp] at h
          refine ih _ _ r ?_ h
          split
          · simp
          · exact hv
    have := key _ _ _ _ (by omega) h1
    omega
  · have := INV_mul h (a := a) (by omega)
    omega
theorem M_lg (hF : 20 ≤ F) (hFi : 100 ≤ F) (hI : MI s) (hV : MV σ s) (k2 : St → Int → Int → Option (Int × St)) {i : Nat} (hi : (i : Int) < s 1) {l : Int} (hl : 0 ≤ l ∧ l ≤ 99) : ∀ (d n j : Nat), d < n → j + d = (s 1).toNat → l_M_lagOf_14 F k2 n σ l (i : Nat) (j : Nat) = if ptF s i l d j = -1 then k2 σ l ((i : Int) + 1) else some (if gnS s i = 0 then 0 else if gnS s (ptF s i l d j) = 0 then 0 else cvS s (plS s i) (plS s (ptF s i l d j)), σ)
  | _, 0, _, h, _ => by omega
  | 0, n + 1, j, _, hd => by
    have v1 := hV.1 1
    have i1 := hI.2.1
    simp only [l_M_lagOf_14, b_M_lagOf_14, bv, Int.reduceToNat]
    rw [gd_t (by decide), gd_t (by omega), if_pos (by omega), show ptF s i l 0 j = -1 from rfl, if_pos rfl]
  | d + 1, n + 1, j, hn, hd => by
    have v1 := hV.1 1
    have i1 := hI.2.1
    have bi' := hI.2.2.2.2.2.2.1 i (by omega) (by omega)
    have bj' := hI.2.2.2.2.2.2.1 j (by omega) (by omega)
    have hp := PR_b hI.1
    simp only [l_M_lagOf_14, b_M_lagOf_14, bv, Int.reduceToNat]
    rw [gd_t (by decide), gd_t (by omega), if_neg (by omega), M_place hI hV (by omega), bnd_s, M_place hI hV (by omega), bnd_s, gd_t (by omega)]
    by_cases c : plS s i - plS s j = l
    · have e : ptF s i l (d + 1) j = j := if_pos c
      have hq := mulb (a := gnS s i) (b := gnS s j) (A := 1500) (B := 1500) (by omega) (by omega) (by omega) (by omega)
      have hm := modb (a := gnS s i * gnS s j) (p := PR (s 0)) (by omega)
      rw [if_pos c, e, if_neg (by omega), M_gain hI hV (by omega), bnd_s, M_gain hI hV (by omega), bnd_s, hV.2.1, gd_t ⟨by omega, by omega, by omega⟩, tmE hq.1, gd_t (by omega)]
      by_cases c1 : gnS s i = 0
      · rw [if_pos c1, if_pos (by rw [c1]; simp)]
      · rw [if_neg c1]
        by_cases c2 : gnS s j = 0
        · rw [if_pos c2, if_pos (by rw [c2]; simp)]
        · have hnz := nzd hI.1 (a := gnS s i) (b := gnS s j) (by omega) (by omega)
          have hiv := INV_mul hI.1 (a := gnS s i * gnS s j % PR (s 0)) (by omega)
          have hcb := coverS_b hI (i : Int) (j : Int)
          have hcv := cvS_b hI (plS s i) (plS s j)
          have hq2 := mulb (a := coverS s i j) (b := INV (PR (s 0)) (gnS s i * gnS s j % PR (s 0))) (A := 1500) (B := 1500) (by omega) (by omega) (by omega) (by omega)
          rw [if_neg c2, if_neg hnz, M_coverOf (by omega) hI hV (by omega) (by omega), bnd_s, M_inverse hFi hI.1 hV.2.1 (by omega), bnd_s, hV.2.1, gd_t ⟨by omega, by omega, by omega⟩, tmE hq2.1]
          congr 2
          have e1 : coverS s i j % PR (s 0) = cvS s (plS s i) (plS s j) * (gnS s i * gnS s j) % PR (s 0) := by
            unfold coverS
            rw [em_mod, em_mul (a := cvS s (plS s i) (plS s j) * gnS s i % PR (s 0)) (b := cvS s (plS s i) (plS s j) * gnS s i) em_mod (rfl : gnS s j % _ = _), Int.mul_assoc]
          have e2 : coverS s i j * INV (PR (s 0)) (gnS s i * gnS s j % PR (s 0)) % PR (s 0) = cvS s (plS s i) (plS s j) * (INV (PR (s 0)) (gnS s i * gnS s j % PR (s 0)) * (gnS s i * gnS s j % PR (s 0))) % PR (s 0) := by
            rw [em_mul e1 (rfl : INV (PR (s 0)) (gnS s i * gnS s j % PR (s 0)) % _ = _), Int.mul_assoc, Int.mul_comm (gnS s i * gnS s j)]
            exact em_mul rfl (em_mul rfl em_mod.symm)
          rw [e2, em_mul (rfl : cvS s (plS s i) (plS s j) % _ = _) (show INV (PR (s 0)) (gnS s i * gnS s j % PR (s 0)) * (gnS s i * gnS s j % PR (s 0)) % PR (s 0) = 1 % PR (s 0) by rw [hiv.1, Int.emod_eq_of_lt (by omega) (by omega)]), Int.mul_one, Int.emod_eq_of_lt hcv.1 hcv.2]
    · have e : ptF s i l (d + 1) j = ptF s i l d (j + 1) := if_neg c
      rw [if_neg c, e]
      exact M_lg hF hFi hI hV k2 hi hl d n (j + 1) (by omega) (by omega)
theorem M_lgo (hF : 100 ≤ F) (hI : MI s) (hV : MV σ s) {l : Int} (hl : 0 ≤ l ∧ l ≤ 99) : ∀ (d n i : Nat), d < n → i + d = (s 1).toNat → l_M_lagOf_2 F n σ l (i : Nat) = some (lgF s l d i, σ)
  | _, 0, _, h, _ => by omega
  | 0, n + 1, i, _, hd => by
    have v1 := hV.1 1
    have i1 := hI.2.1
    simp only [l_M_lagOf_2, b_M_lagOf_2, bv, Int.reduceToNat]
    rw [gd_t (by decide), gd_t (by omega), if_pos (by omega)]; rfl
  | d + 1, n + 1, i, hn, hd => by
    have v1 := hV.1 1
    have i1 := hI.2.1
    simp only [l_M_lagOf_2, b_M_lagOf_2, bv, Int.reduceToNat]
    have hk := M_lg (F := F) (by omega) hF hI hV (l_M_lagOf_2 F n) (i := i) (by omega) hl (s 1).toNat F 0 (by omega) (by omega)
    rw [gd_t (by decide), gd_t (by omega), if_neg (by omega)]
    refine hk.trans ?_
    unfold lgF
    show (if ptS s i l = -1 then _ else _) = _
    by_cases c : ptS s i l = -1
    · rw [if_pos c, if_pos c]
      exact M_lgo hF hI hV hl d n (i + 1) (by omega) (by omega)
    · rw [if_neg c, if_neg c]; rfl
theorem M_lagOf (hF : 100 ≤ F) (hI : MI s) (hV : MV σ s) {l : Int} (hl : 0 ≤ l ∧ l ≤ 99) : f_M_lagOf F σ l = some (lgS s l, σ) := by
  have i1 := hI.2.1
  exact M_lgo (F := F) hF hI hV hl (s 1).toNat F 0 (by omega) (by omega)
/-- no pair, no lag -/
theorem ap_lg {s : Nat → Int} {l : Int} (h : apS s l = 0) : lgS s l = -1 := by
  have hz : ∀ i, i < (s 1).toNat → ptS s i l = -1 := by
    intro i hi
    by_cases c : ptS s i l = -1
    · exact c
    · have := sumS_ge1 (f := fun i => if ptS s i l = -1 then (0 : Int) else 1) (n := (s 1).toNat) (k := i) hi (fun j _ => by split <;> omega)
      rw [if_neg c] at this
      unfold apS at h
      omega
  have key : ∀ d i, i + d = (s 1).toNat → lgF s l d i = -1 := by
    intro d
    induction d with
    | zero => intro i _; rfl
    | succ d ih =>
      intro i hd
      unfold lgF
      rw [if_pos (hz i (by omega))]
      exact ih (i + 1) (by omega)
  exact key _ 0 (by omega)
end
section
variable {F : Nat}
theorem s_apart (hF : 100 ≤ F) : Sp_apart F RR := by
  intro x σ1 σ2 p0 hR h0
  obtain ⟨hI, hW, hV⟩ := RR_view hR
  refine sp1 ?_
  have hz : RR x σ1 (sF σ2 0 0) := RR_fr hR WFr.rf (MFr.sF rfl MFr.rf)
  have hV0 := MV_0 (v := 0) hV
  unfold f_W_apart f_M_apart
  repeat' (first | (exfalso; omega) | (refine ev_bs ?_; try simp (disch := decide) only [gF_eq, gF_ne, gF_sA, gA_sF, gA_ne, gA_eq, Int.reduceToNat]) | refine ev_bv ?_ | refine ev_g (by omega) ?_ | refine ev_isIn (by omega) (fun hc => ?_) (fun hc => ?_) | refine ev_be (W_pairs (by omega) hI hW (by omega)) ?_ | refine ev_be (M_apartOf (by omega) hI hV0 (by omega)) ?_ | (refine ev_s ?_; try dsimp only; try simp (disch := decide) only [gF_eq, gF_ne, gF_sA, gA_sF, gA_ne, gA_eq, Int.reduceToNat]) | refine ev_if (fun hc => ?_) (fun hc => ?_))
  all_goals exact ⟨rfl, hz⟩
theorem s_run (hF : 100 ≤ F) : Sp_run F RR := by
  intro x σ1 σ2 hR
  obtain ⟨hI, hW, hV⟩ := RR_view hR
  refine sp1 ?_
  have hz : RR x σ1 (sF σ2 0 0) := RR_fr hR WFr.rf (MFr.sF rfl MFr.rf)
  have hV0 := MV_0 (v := 0) hV
  unfold f_W_run f_M_run
  exact ev_be (W_run hF hI hW) (ev_s (ev_bs (ev_be (M_runOf hF hI hV0) (ev_s ⟨rfl, hz⟩))))
theorem s_lag (hF : 100 ≤ F) : Sp_lag F RR := by
  intro x σ1 σ2 p0 hR h0
  obtain ⟨hI, hW, hV⟩ := RR_view hR
  refine sp1 ?_
  have hz : RR x σ1 (sF σ2 0 0) := RR_fr hR WFr.rf (MFr.sF rfl MFr.rf)
  have hV0 := MV_0 (v := 0) hV
  have hb := apS_b (s := svw σ2) p0
  have i1 := hI.2.1
  unfold f_W_lag f_M_lag
  repeat' (first | (exfalso; omega) | (refine ev_bs ?_; try simp (disch := decide) only [gF_eq, gF_ne, gF_sA, gA_sF, gA_ne, gA_eq, Int.reduceToNat]) | refine ev_bv ?_ | refine ev_g (by omega) ?_ | refine ev_isIn (by omega) (fun hc => ?_) (fun hc => ?_) | refine ev_be (W_pairs (by omega) hI hW (by omega)) ?_ | refine ev_be (W_lagOf (by omega) hI hW (by omega)) ?_ | refine ev_be (M_lagOf (by omega) hI hV0 (by omega)) ?_ | (refine ev_s ?_; try dsimp only; try simp (disch := decide) only [gF_eq, gF_ne, gF_sA, gA_sF, gA_ne, gA_eq, Int.reduceToNat]) | refine ev_if (fun hc => ?_) (fun hc => ?_))
  all_goals first | exact ⟨rfl, hz⟩ | exact ⟨(ap_lg (by assumption)).symm, hz⟩
end
