/-! PURE PART: sets of directions in order, and what is counted of them -/
def en : Nat → Nat → Nat → List (List Nat)
  | 0, 0, _ => [[]]
  | 0, _ + 1, _ => []
  | _ + 1, 0, _ => [[]]
  | m + 1, r + 1, f => (en m r (f + 1)).map (f :: ·) ++ en m (r + 1) (f + 1)
theorem en_zero : ∀ {m f : Nat}, en m 0 f = [[]]
  | 0, _ => rfl
  | _ + 1, _ => rfl
def Inc (n : Nat) (x : List Nat) : Prop := x.Pairwise (· < ·) ∧ ∀ a, a ∈ x → a < n
theorem en_in : ∀ (m r f : Nat) (x : List Nat), x ∈ en m r f → x.length = r ∧ x.Pairwise (· < ·) ∧ ∀ a, a ∈ x → f ≤ a ∧ a < f + m
  | m, 0, f, x, h => by
    rw [en_zero] at h
    obtain rfl := List.mem_singleton.mp h
    exact ⟨rfl, List.Pairwise.nil, fun a ha => by cases ha⟩
  | 0, r + 1, f, x, h => by unfold en at h; cases h
  | m + 1, r + 1, f, x, h => by
    unfold en at h
    rcases List.mem_append.mp h with h | h
    · obtain ⟨y, hy, rfl⟩ := List.mem_map.mp h
      obtain ⟨h1, h2, h3⟩ := en_in m r (f + 1) y hy
      refine ⟨by simp [h1], List.pairwise_cons.mpr ⟨fun a ha => by have := h3 a ha; omega, h2⟩, fun a ha => ?_⟩
      rcases List.mem_cons.mp ha with rfl | ha
      · omega
      · have := h3 a ha; omega
    · obtain ⟨h1, h2, h3⟩ := en_in m (r + 1) (f + 1) x h
      exact ⟨h1, h2, fun a ha => by have := h3 a ha; omega⟩
theorem in_en : ∀ (m r f : Nat) (x : List Nat), x.length = r → x.Pairwise (· < ·) → (∀ a, a ∈ x → f ≤ a ∧ a < f + m) → x ∈ en m r f
  | m, 0, f, x, h, _, _ => by
    rw [en_zero, List.length_eq_zero_iff.mp h]; exact List.mem_singleton.mpr rfl
  | 0, r + 1, f, [], h, _, _ => by cases h
  | 0, r + 1, f, a :: x, _, _, h => by have := h a List.mem_cons_self; omega
  | m + 1, r + 1, f, [], h, _, _ => by cases h
  | m + 1, r + 1, f, a :: x, h, hp, hb => by
    unfold en
    obtain ⟨p1, p2⟩ := List.pairwise_cons.mp hp
    have b := hb a List.mem_cons_self
    have hl : x.length = r := by simpa using h
    by_cases c : a = f
    · subst c
      refine List.mem_append_left _ (List.mem_map.mpr ⟨x, in_en m r (a + 1) x hl p2 (fun e he => ?_), rfl⟩)
      have := p1 e he
      have := hb e (List.mem_cons_of_mem _ he)
      omega
    · refine List.mem_append_right _ (in_en m (r + 1) (f + 1) (a :: x) h hp (fun e he => ?_))
      have := hb e he
      rcases List.mem_cons.mp he with rfl | he
      · omega
      · have := p1 e he; omega
theorem en_len : ∀ (m r f : Nat), (en m r f).length ≤ (m + 1) ^ r
  | m, 0, f => by rw [en_zero]; simp
  | 0, r + 1, f => by unfold en; simp
  | m + 1, r + 1, f => by
    unfold en
    rw [List.length_append, List.length_map]
    have h1 := en_len m r (f + 1)
    have h2 := en_len m (r + 1) (f + 1)
    have h3 : (m + 1) ^ r ≤ (m + 1 + 1) ^ r := Nat.pow_le_pow_left (by omega) r
    have h4 : (m + 1) ^ (r + 1) = (m + 1) ^ r * (m + 1) := Nat.pow_succ ..
    have h5 : (m + 1 + 1) ^ (r + 1) = (m + 1 + 1) ^ r * (m + 1 + 1) := Nat.pow_succ ..
    have h6 : (m + 1) ^ r * (m + 1) ≤ (m + 1 + 1) ^ r * (m + 1) := Nat.mul_le_mul_right _ h3
    have h7 : (m + 1 + 1) ^ r * (m + 1 + 1) = (m + 1 + 1) ^ r * (m + 1) + (m + 1 + 1) ^ r := Nat.mul_succ ..
    omega
theorem en_one {m f : Nat} : en (m + 1) 1 f = [f] :: en m 1 (f + 1) := by
  show (en m 0 (f + 1)).map (f :: ·) ++ en m 1 (f + 1) = _
  rw [en_zero]; rfl
/-- one set looked at -/
def stp (one : Bool) (G : List Nat → Bool) (z : Nat × List Nat) (x : List Nat) : Nat × List Nat := if one = true ∧ 0 < z.1 then z else if G x = true then (z.1 + 1, if z.1 = 0 then x else z.2) else z
def fol (one : Bool) (G : List Nat → Bool) (z : Nat × List Nat) (l : List (List Nat)) : Nat × List Nat := l.foldl (stp one G) z
section
variable {one : Bool} {G : List Nat → Bool}
theorem fol_nil {z : Nat × List Nat} : fol one G z [] = z := rfl
theorem fol_cons {z : Nat × List Nat} {x : List Nat} {l : List (List Nat)} : fol one G z (x :: l) = fol one G (stp one G z x) l := rfl
theorem fol_app {z : Nat × List Nat} {a b : List (List Nat)} : fol one G z (a ++ b) = fol one G (fol one G z a) b := by unfold fol; exact List.foldl_append ..
theorem fol_done (h1 : one = true) : ∀ (l : List (List Nat)) {z : Nat × List Nat}, 0 < z.1 → fol one G z l = z
  | [], _, _ => rfl
  | x :: l, z, h => by
    rw [fol_cons]
    have e : stp one G z x = z := by unfold stp; rw [if_pos ⟨h1, h⟩]
    rw [e]
    exact fol_done h1 l h
theorem fol_skip : ∀ (l : List (List Nat)) {z : Nat × List Nat}, (∀ x, x ∈ l → G x = false) → fol one G z l = z
  | [], _, _ => rfl
  | x :: l, z, h => by
    rw [fol_cons]
    have e : stp one G z x = z := by
      unfold stp
      split
      · rfl
      · rw [if_neg (by rw [h x List.mem_cons_self]; decide)]
    rw [e]
    exact fol_skip l (fun y hy => h y (List.mem_cons_of_mem _ hy))
theorem stp_le {z : Nat × List Nat} {x : List Nat} : z.1 ≤ (stp one G z x).1 ∧ (stp one G z x).1 ≤ z.1 + 1 := by
  unfold stp
  split
  · omega
  · split <;> (try dsimp only) <;> omega
theorem fol_le : ∀ (l : List (List Nat)) {z : Nat × List Nat}, z.1 ≤ (fol one G z l).1 ∧ (fol one G z l).1 ≤ z.1 + l.length
  | [], _ => ⟨Nat.le_refl _, Nat.le_refl _⟩
  | x :: l, z => by
    have h1 := stp_le (one := one) (G := G) (z := z) (x := x)
    have h2 := fol_le l (z := stp one G z x)
    rw [fol_cons, List.length_cons]
    omega
theorem fol_zero : ∀ (l : List (List Nat)) {z : Nat × List Nat}, z.1 = 0 → ((fol one G z l).1 = 0 ↔ ∀ x, x ∈ l → G x = false)
  | [], z, h => ⟨fun _ x hx => (by cases hx), fun _ => h⟩
  | x :: l, z, h => by
    rw [fol_cons]
    by_cases c : G x = true
    · have e : (stp one G z x).1 = 1 := by unfold stp; rw [if_neg (by omega), if_pos c, h]
      have := (fol_le (one := one) (G := G) l (z := stp one G z x)).1
      constructor
      · intro q; omega
      · intro q
        have := q x List.mem_cons_self
        rw [c] at this; cases this
    · have e : stp one G z x = z := by unfold stp; rw [if_neg (by omega), if_neg c]
      rw [e, fol_zero l h]
      constructor
      · intro q y hy
        rcases List.mem_cons.mp hy with rfl | hy
        · simpa using c
        · exact q y hy
      · intro q y hy; exact q y (List.mem_cons_of_mem _ hy)
/-- the first one is one of them -/
theorem fol_mem : ∀ (l : List (List Nat)) {z : Nat × List Nat}, (0 < z.1 → (fol one G z l).2 = z.2) ∧ (z.1 = 0 → 0 < (fol one G z l).1 → (fol one G z l).2 ∈ l ∧ G (fol one G z l).2 = true)
  | [], z => ⟨fun _ => rfl, fun h1 h2 => by rw [fol_nil] at h2; omega⟩
  | x :: l, z => by
    obtain ⟨a, b⟩ := fol_mem l (z := stp one G z x)
    rw [fol_cons]
    constructor
    · intro h
      have e : (stp one G z x).2 = z.2 := by
        unfold stp
        split
        · rfl
        · split
          · show (if z.1 = 0 then x else z.2) = z.2
            rw [if_neg (by omega)]
          · rfl
      have := (stp_le (one := one) (G := G) (z := z) (x := x)).1
      rw [a (by omega), e]
    · intro h1 h2
      by_cases c : G x = true
      · have e : stp one G z x = (z.1 + 1, x) := by unfold stp; rw [if_neg (by omega), if_pos c, if_pos h1]
        rw [e] at a ⊢
        rw [a (by show 0 < z.1 + 1; omega)]
        exact ⟨List.mem_cons_self, c⟩
      · have e : stp one G z x = z := by unfold stp; rw [if_neg (by omega), if_neg c]
        rw [e] at b h2 ⊢
        exact ⟨List.mem_cons_of_mem _ (b h1 h2).1, (b h1 h2).2⟩
end
theorem lst_getD {ds : Nat → Nat} {L i : Nat} (h : i < L) : (lst ds L).getD i 0 = ds i := by
  unfold lst
  rw [List.getD_eq_getElem?_getD, List.getElem?_map, List.getElem?_range h]; rfl
theorem lst_upN {ds : Nat → Nat} {L d : Nat} : lst (upN ds L d) (L + 1) = lst ds L ++ [d] := by
  rw [lst_succ, lst_congr (es := ds) (fun i hi => by unfold upN; rw [if_neg (by omega)])]
  unfold upN
  rw [if_pos rfl]
