/-! PURE PART: what joins the class's state and the model's -/
/-- scene k of the class is what the model's array a tells from o on -/
def SC (σ1 σ2 : St) (k a o : Nat) : Prop :=
  (wayN (gA σ2 a o) ∧ LatW σ1 k (gA σ2 a o)) ∧
  (gF σ1 (5059 + 64 * k) = gA σ2 a (o + 1) ∧ 0 ≤ gA σ2 a (o + 1) ∧ gA σ2 a (o + 1) ≤ 10) ∧
  (gF σ1 (5062 + 64 * k) = gA σ2 a (o + 2) ∧ 0 ≤ gA σ2 a (o + 2) ∧ gA σ2 a (o + 2) ≤ 6) ∧
  (gF σ1 (1984 + 64 * k) = gA σ2 a (o + 3) ∧ 0 ≤ gA σ2 a (o + 3) ∧ gA σ2 a (o + 3) ≤ 4) ∧
  (gF σ1 (1987 + 64 * k) = gA σ2 a (o + 4) ∧ 0 ≤ gA σ2 a (o + 4) ∧ gA σ2 a (o + 4) ≤ 8) ∧
  (gF σ1 (5058 + 64 * k) = gA σ2 a (o + 5) ∧ 0 ≤ gA σ2 a (o + 5) ∧ gA σ2 a (o + 5) ≤ 999) ∧
  (∀ h : Nat, (h : Int) < gA σ2 a (o + 1) → gA σ1 (55 + k) h = gA σ2 a (o + 6 + 2 * h) ∧ (0 ≤ gA σ2 a (o + 6 + 2 * h) ∧ gA σ2 a (o + 6 + 2 * h) ≤ 99) ∧ gA σ1 (59 + k) h = gA σ2 a (o + 7 + 2 * h) ∧ 0 ≤ gA σ2 a (o + 7 + 2 * h) ∧ gA σ2 a (o + 7 + 2 * h) < PR (gA σ2 a o)) ∧
  (∀ i j : Nat, i < j → (j : Int) < gA σ2 a (o + 1) → gA σ2 a (o + 6 + 2 * i) ≠ gA σ2 a (o + 6 + 2 * j)) ∧
  (∀ s : Nat, (s : Int) < gA σ2 a (o + 2) → (gA σ1 (63 + k) s = gA σ2 a (o + 26 + 4 * s) ∧ 0 ≤ gA σ2 a (o + 26 + 4 * s) ∧ gA σ2 a (o + 26 + 4 * s) < gA σ2 a o) ∧ (gA σ1 (67 + k) s = gA σ2 a (o + 27 + 4 * s) ∧ 0 ≤ gA σ2 a (o + 27 + 4 * s) ∧ gA σ2 a (o + 27 + 4 * s) ≤ 999) ∧ (gA σ1 (71 + k) s = gA σ2 a (o + 28 + 4 * s) ∧ 0 ≤ gA σ2 a (o + 28 + 4 * s) ∧ gA σ2 a (o + 28 + 4 * s) < gA σ2 a o) ∧ (gA σ1 (75 + k) s = gA σ2 a (o + 29 + 4 * s) ∧ 0 ≤ gA σ2 a (o + 29 + 4 * s) ∧ gA σ2 a (o + 29 + 4 * s) ≤ (s : Int))) ∧
  (∀ t : Nat, (t : Int) < gA σ2 a (o + 3) → (gA σ1 (35 + k) t = gA σ2 a (o + 50 + 2 * t) ∧ -99 ≤ gA σ2 a (o + 50 + 2 * t) ∧ gA σ2 a (o + 50 + 2 * t) ≤ 99) ∧ (gA σ1 (39 + k) t = gA σ2 a (o + 51 + 2 * t) ∧ -99 ≤ gA σ2 a (o + 51 + 2 * t) ∧ gA σ2 a (o + 51 + 2 * t) ≤ 99)) ∧
  (∀ b : Nat, (b : Int) < gA σ2 a (o + 4) → (gA σ1 (43 + k) b = gA σ2 a (o + 58 + 3 * b) ∧ 0 ≤ gA σ2 a (o + 58 + 3 * b) ∧ gA σ2 a (o + 58 + 3 * b) < gA σ2 a (o + 3)) ∧ (gA σ1 (47 + k) b = gA σ2 a (o + 59 + 3 * b) ∧ -99 ≤ gA σ2 a (o + 59 + 3 * b) ∧ gA σ2 a (o + 59 + 3 * b) ≤ 99) ∧ (gA σ1 (51 + k) b = gA σ2 a (o + 60 + 3 * b) ∧ -99 ≤ gA σ2 a (o + 60 + 3 * b) ∧ gA σ2 a (o + 60 + 3 * b) ≤ 99))
def scF (k q : Nat) : Prop := q = 1472 + 64 * k ∨ q = 1473 + 64 * k ∨ q = 1474 + 64 * k ∨ q = 5059 + 64 * k ∨ q = 5062 + 64 * k ∨ q = 1984 + 64 * k ∨ q = 1987 + 64 * k ∨ q = 5058 + 64 * k
def scA (k a : Nat) : Prop := a = 27 + k ∨ a = 35 + k ∨ a = 39 + k ∨ a = 43 + k ∨ a = 47 + k ∨ a = 51 + k ∨ a = 55 + k ∨ a = 59 + k ∨ a = 63 + k ∨ a = 67 + k ∨ a = 71 + k ∨ a = 75 + k
theorem SC_fr {σ1 σ2 σ1' σ2' : St} {k a o : Nat} (h : SC σ1 σ2 k a o) (hF : ∀ q, scF k q → gF σ1' q = gF σ1 q) (hA : ∀ b, scA k b → ∀ i, gA σ1' b i = gA σ1 b i) (hM : ∀ i, o ≤ i → i < o + 82 → gA σ2' a i = gA σ2 a i) : SC σ1' σ2' k a o := by
  have f1 := hF (1472 + 64 * k) (by unfold scF; omega)
  have f2 := hF (1473 + 64 * k) (by unfold scF; omega)
  have f3 := hF (1474 + 64 * k) (by unfold scF; omega)
  have f4 := hF (5059 + 64 * k) (by unfold scF; omega)
  have f5 := hF (5062 + 64 * k) (by unfold scF; omega)
  have f6 := hF (1984 + 64 * k) (by unfold scF; omega)
  have f7 := hF (1987 + 64 * k) (by unfold scF; omega)
  have f8 := hF (5058 + 64 * k) (by unfold scF; omega)
  have a1 := hA (27 + k) (by unfold scA; omega)
  have a2 := hA (35 + k) (by unfold scA; omega)
  have a3 := hA (39 + k) (by unfold scA; omega)
  have a4 := hA (43 + k) (by unfold scA; omega)
  have a5 := hA (47 + k) (by unfold scA; omega)
  have a6 := hA (51 + k) (by unfold scA; omega)
  have a7 := hA (55 + k) (by unfold scA; omega)
  have a8 := hA (59 + k) (by unfold scA; omega)
  have a9 := hA (63 + k) (by unfold scA; omega)
  have b1 := hA (67 + k) (by unfold scA; omega)
  have b2 := hA (71 + k) (by unfold scA; omega)
  have b3 := hA (75 + k) (by unfold scA; omega)
  have m0 := hM o (by omega) (by omega)
  have m1 := hM (o + 1) (by omega) (by omega)
  have m2 := hM (o + 2) (by omega) (by omega)
  have m3 := hM (o + 3) (by omega) (by omega)
  have m4 := hM (o + 4) (by omega) (by omega)
  have m5 := hM (o + 5) (by omega) (by omega)
  unfold SC LatW at h ⊢
  rw [m0, m1, m2, m3, m4, m5, f1, f2, f3, f4, f5, f6, f7, f8]
  simp only [a1, a2, a3, a4, a5, a6, a7, a8, a9, b1, b2, b3]
  obtain ⟨c0, c1, c2, c3, c4, c5, c6, c7, c8, c9, d1⟩ := h
  refine ⟨c0, c1, c2, c3, c4, c5, fun h hh => ?_, fun i j hij hj => ?_, fun s hs => ?_, fun t ht => ?_, fun b hb => ?_⟩
  · rw [hM _ (by omega) (by omega), hM _ (by omega) (by omega)]; exact c6 h hh
  · rw [hM _ (by omega) (by omega), hM _ (by omega) (by omega)]; exact c7 i j hij hj
  · rw [hM _ (by omega) (by omega), hM _ (by omega) (by omega), hM _ (by omega) (by omega), hM _ (by omega) (by omega)]; exact c8 s hs
  · rw [hM _ (by omega) (by omega), hM _ (by omega) (by omega)]; exact c9 t ht
  · rw [hM _ (by omega) (by omega), hM _ (by omega) (by omega), hM _ (by omega) (by omega)]; exact d1 b hb
def RTape (σ1 σ2 : St) : Prop := gF σ1 65 = gF σ2 2 ∧ 0 ≤ gF σ2 2 ∧ gF σ2 2 ≤ 940 ∧ ∀ i : Nat, i < 940 → gA σ1 2 i = gA σ2 1 i % 256
def RM (σ2 : St) : Prop := gF σ2 20 = PR (gA σ2 2 0) ∧ gF σ2 21 = RT (gA σ2 2 0) ∧ ∀ i, i < (gA σ2 2 0).toNat → gA σ2 6 i = PW (gA σ2 2 0) i
def RImg (σ1 σ2 : St) (j : Nat) : Prop := gA σ1 84 j = gA σ2 23 j ∧ isb (gA σ2 23 j) ∧ (gA σ2 23 j = 1 → SC σ1 σ2 (2 + j) 22 (82 * j))
def RRule (σ1 σ2 : St) : Prop := (gF σ1 577 = gF σ2 31 ∧ 0 ≤ gF σ2 31 ∧ gF σ2 31 ≤ 46) ∧ isb (gF σ2 34) ∧ (gF σ2 34 = 0 → gF σ2 31 = 0) ∧ (∀ i : Nat, (i : Int) < gF σ2 31 → gA σ1 10 i = gA σ2 10 (i + 1)) ∧ gF σ1 451 = gF σ2 33 ∧ (gF σ1 705 = gF σ2 32 ∧ 0 ≤ gF σ2 32 ∧ gF σ2 32 ≤ 46) ∧ ∀ i : Nat, (i : Int) < gF σ2 32 → gA σ1 12 i = gA σ2 11 i
def RTrack (σ1 σ2 : St) : Prop := isb (gF σ2 37) ∧ gF σ1 833 = 3 * gF σ2 37 ∧ (gF σ2 37 = 1 → ∀ i : Nat, i < 3 → gA σ1 14 i = gA σ2 13 i)
def RMake (σ1 σ2 : St) : Prop := (gF σ2 41 = -1 ∧ gF σ1 961 = 0 ∧ gF σ1 1089 = 0 ∧ gF σ1 14 = -1) ∨ ((0 ≤ gF σ2 41 ∧ gF σ2 41 ≤ 3) ∧ gF σ1 961 = gF σ2 41 ∧ gF σ1 1089 = gF σ2 41 ∧ gF σ1 14 = gF σ2 42 ∧ ∀ i : Nat, (i : Int) < gF σ2 41 → gA σ1 16 i = gA σ2 15 i ∧ gA σ1 18 i = gA σ2 16 i)
def RLiar (σ1 σ2 : St) : Prop := (gF σ2 43 = -1 ∧ gF σ1 1217 = 0 ∧ gF σ1 16 = -1) ∨ ((0 ≤ gF σ2 43 ∧ gF σ2 43 ≤ 2) ∧ gF σ1 1217 = gF σ2 43 ∧ gF σ1 16 = gF σ2 44 ∧ (0 ≤ gF σ2 45 ∧ gF σ2 45 ≤ 99) ∧ (1 ≤ gF σ2 43 → gA σ1 20 0 = gF σ2 45 / 10) ∧ (2 ≤ gF σ2 43 → gA σ1 20 1 = gF σ2 45 % 10))
def RNull (σ1 σ2 : St) : Prop := (gF σ2 47 = -1 ∧ gF σ1 1345 = 0) ∨ ((1 ≤ gF σ2 47 ∧ gF σ2 47 ≤ 10) ∧ gF σ1 1345 = gF σ2 47 ∧ ∀ i : Nat, (i : Int) < gF σ2 47 → gA σ1 22 i = gA σ2 17 i ∧ 0 ≤ gA σ2 17 i ∧ gA σ2 17 i ≤ 2000)
def RFix (σ1 σ2 : St) : Prop := (gF σ2 56 = -1 ∧ gF σ1 5697 = 0) ∨ ((0 ≤ gF σ2 56 ∧ gF σ2 56 ≤ 8) ∧ gF σ1 5697 = gF σ2 56 ∧ ∀ i : Nat, (i : Int) < gF σ2 56 → gA σ1 90 i = gA σ2 21 i)
def RRes (σ2 : St) : Prop := gA σ2 5 0 = 0x6c617474696365 ∧ gA σ2 5 1 = 0x686561726572 ∧ gA σ2 5 2 = 0x6761696e ∧ gA σ2 5 3 = 0x73656e646572 ∧ gA σ2 5 4 = 0x647269667473 ∧ gA σ2 5 5 = 0x6c696b65 ∧ gA σ2 5 6 = 0x73746174696f6e ∧ gA σ2 5 7 = 0x62656172696e67
/-- what calls told last -/
def RTold (σ1 σ2 : St) : Prop := RRule σ1 σ2 ∧ RTrack σ1 σ2 ∧ RMake σ1 σ2 ∧ RLiar σ1 σ2 ∧ RNull σ1 σ2 ∧ RFix σ1 σ2
def RR (_ : Bool) (σ1 σ2 : St) : Prop := RTape σ1 σ2 ∧ gF σ1 193 = gF σ2 14 ∧ SC σ1 σ2 0 2 0 ∧ RM σ2 ∧ (∃ m, wayN m ∧ LatW σ1 1 m) ∧ RImg σ1 σ2 0 ∧ RImg σ1 σ2 1 ∧ RTold σ1 σ2 ∧ RRes σ2
/-! what they don't speak of -/
def wFl : List Nat := [65, 193, 1472, 1473, 1474, 5059, 5062, 1984, 1987, 5058, 1536, 1537, 1538, 1600, 1601, 1602, 5187, 5190, 2112, 2115, 5186, 1664, 1665, 1666, 5251, 5254, 2176, 2179, 5250, 577, 451, 705, 833, 961, 1089, 14, 1217, 16, 1345, 5697]
def wSF (q : Nat) : Bool := !wFl.contains q
def wSA (a : Nat) : Bool := Nat.ble 91 a || [3, 4, 5, 6, 8, 83, 85, 86, 87, 88, 89].contains a
def mFl : List Nat := [2, 14, 20, 21, 31, 32, 33, 34, 37, 41, 42, 43, 44, 45, 47, 56]
def mSF (q : Nat) : Bool := !mFl.contains q
def mSA (a : Nat) : Bool := [3, 4, 7, 8, 9, 12, 14, 18, 19, 20].contains a
def WFr (σ σ' : St) : Prop := (∀ q, wSF q = false → gF σ' q = gF σ q) ∧ ∀ a, wSA a = false → ∀ i, gA σ' a i = gA σ a i
def MFr (σ σ' : St) : Prop := (∀ q, mSF q = false → gF σ' q = gF σ q) ∧ ∀ a, mSA a = false → ∀ i, gA σ' a i = gA σ a i
theorem WFr.rf {σ : St} : WFr σ σ := ⟨fun _ _ => rfl, fun _ _ _ => rfl⟩
theorem MFr.rf {σ : St} : MFr σ σ := ⟨fun _ _ => rfl, fun _ _ _ => rfl⟩
theorem WFr.tr {a b c : St} (h : WFr a b) (g : WFr b c) : WFr a c := ⟨fun q hq => (g.1 q hq).trans (h.1 q hq), fun q hq i => (g.2 q hq i).trans (h.2 q hq i)⟩
theorem MFr.tr {a b c : St} (h : MFr a b) (g : MFr b c) : MFr a c := ⟨fun q hq => (g.1 q hq).trans (h.1 q hq), fun q hq i => (g.2 q hq i).trans (h.2 q hq i)⟩
theorem WFr.sF {σ σ' : St} {k : Nat} {v : Int} (hk : wSF k = true) (h : WFr σ σ') : WFr σ (sF σ' k v) := ⟨fun q hq => by rw [gF_sF, if_neg (by intro e; subst e; rw [hk] at hq; cases hq)]; exact h.1 q hq, fun a ha i => h.2 a ha i⟩
theorem WFr.sA {σ σ' : St} {k i : Nat} {v : Int} (hk : wSA k = true) (h : WFr σ σ') : WFr σ (sA σ' k i v) := ⟨fun q hq => h.1 q hq, fun a ha j => by rw [gA_sA, if_neg (by rintro ⟨e, -⟩; subst e; rw [hk] at ha; cases ha)]; exact h.2 a ha j⟩
theorem MFr.sF {σ σ' : St} {k : Nat} {v : Int} (hk : mSF k = true) (h : MFr σ σ') : MFr σ (sF σ' k v) := ⟨fun q hq => by rw [gF_sF, if_neg (by intro e; subst e; rw [hk] at hq; cases hq)]; exact h.1 q hq, fun a ha i => h.2 a ha i⟩
theorem MFr.sA {σ σ' : St} {k i : Nat} {v : Int} (hk : mSA k = true) (h : MFr σ σ') : MFr σ (sA σ' k i v) := ⟨fun q hq => h.1 q hq, fun a ha j => by rw [gA_sA, if_neg (by rintro ⟨e, -⟩; subst e; rw [hk] at ha; cases ha)]; exact h.2 a ha j⟩
theorem wSA_hi {a : Nat} (h : 91 ≤ a) : wSA a = true := by
  unfold wSA
  rw [Nat.ble_eq_true_of_le h]; rfl
theorem RTape_fr {σ1 σ2 σ1' σ2' : St} (h : RTape σ1 σ2) (h1 : WFr σ1 σ1') (h2 : MFr σ2 σ2') : RTape σ1' σ2' := by
  unfold RTape
  rw [h1.1 65 rfl, h2.1 2 rfl]
  simp only [h1.2 2 rfl, h2.2 1 rfl]
  exact h
theorem RM_fr {σ2 σ2' : St} (h : RM σ2) (h2 : MFr σ2 σ2') : RM σ2' := by
  unfold RM
  rw [h2.1 20 rfl, h2.1 21 rfl, h2.2 2 rfl]
  simp only [h2.2 6 rfl]
  exact h
theorem SCk_fr {σ1 σ2 σ1' σ2' : St} {k a o : Nat} (hk : k = 0 ∨ k = 2 ∨ k = 3) (ha : mSA a = false) (h : SC σ1 σ2 k a o) (h1 : WFr σ1 σ1') (h2 : MFr σ2 σ2') : SC σ1' σ2' k a o := by
  refine SC_fr h (fun q hq => h1.1 q ?_) (fun b hb => h1.2 b ?_) (fun i _ _ => h2.2 a ha i)
  · rcases hk with rfl | rfl | rfl <;> rcases hq with rfl | rfl | rfl | rfl | rfl | rfl | rfl | rfl <;> rfl
  · rcases hk with rfl | rfl | rfl <;> rcases hb with rfl | rfl | rfl | rfl | rfl | rfl | rfl | rfl | rfl | rfl | rfl | rfl <;> rfl
theorem RImg_fr {σ1 σ2 σ1' σ2' : St} {j : Nat} (hj : j < 2) (h : RImg σ1 σ2 j) (h1 : WFr σ1 σ1') (h2 : MFr σ2 σ2') : RImg σ1' σ2' j := by
  unfold RImg at h ⊢
  rw [h1.2 84 rfl, h2.2 23 rfl]
  exact ⟨h.1, h.2.1, fun e => SCk_fr (by omega) rfl (h.2.2 e) h1 h2⟩
theorem RTold_fr {σ1 σ2 σ1' σ2' : St} (h : RTold σ1 σ2) (h1 : WFr σ1 σ1') (h2 : MFr σ2 σ2') : RTold σ1' σ2' := by
  unfold RTold RRule RTrack RMake RLiar RNull RFix at h ⊢
  rw [h1.1 577 rfl, h1.1 451 rfl, h1.1 705 rfl, h1.1 833 rfl, h1.1 961 rfl, h1.1 1089 rfl, h1.1 14 rfl, h1.1 1217 rfl, h1.1 16 rfl, h1.1 1345 rfl, h1.1 5697 rfl, h2.1 31 rfl, h2.1 32 rfl, h2.1 33 rfl, h2.1 34 rfl, h2.1 37 rfl, h2.1 41 rfl, h2.1 42 rfl, h2.1 43 rfl, h2.1 44 rfl, h2.1 45 rfl, h2.1 47 rfl, h2.1 56 rfl]
  simp only [h1.2 10 rfl, h1.2 12 rfl, h1.2 14 rfl, h1.2 16 rfl, h1.2 18 rfl, h1.2 20 rfl, h1.2 22 rfl, h1.2 90 rfl, h2.2 10 rfl, h2.2 11 rfl, h2.2 13 rfl, h2.2 15 rfl, h2.2 16 rfl, h2.2 17 rfl, h2.2 21 rfl]
  exact h
theorem RRes_fr {σ2 σ2' : St} (h : RRes σ2) (h2 : MFr σ2 σ2') : RRes σ2' := by
  unfold RRes
  simp only [h2.2 5 rfl]
  exact h
theorem LatD_fr {σ1 σ1' : St} (h : ∃ m, wayN m ∧ LatW σ1 1 m) (h1 : WFr σ1 σ1') : ∃ m, wayN m ∧ LatW σ1' 1 m := by
  obtain ⟨m, hm, hl⟩ := h
  refine ⟨m, hm, ?_⟩
  unfold LatW at hl ⊢
  rw [h1.1 (1472 + 64 * 1) rfl, h1.1 (1473 + 64 * 1) rfl, h1.1 (1474 + 64 * 1) rfl]
  simp only [h1.2 (27 + 1) rfl]
  exact hl
theorem RR_fr {x : Bool} {σ1 σ2 σ1' σ2' : St} (h : RR x σ1 σ2) (h1 : WFr σ1 σ1') (h2 : MFr σ2 σ2') : RR x σ1' σ2' := by
  obtain ⟨a1, a2, a3, a4, a5, a6, a7, a8, a9⟩ := h
  exact ⟨RTape_fr a1 h1 h2, by rw [h1.1 193 rfl, h2.1 14 rfl]; exact a2, SCk_fr (Or.inl rfl) rfl a3 h1 h2, RM_fr a4 h2, LatD_fr a5 h1, RImg_fr (by omega) a6 h1 h2, RImg_fr (by omega) a7 h1 h2, RTold_fr a8 h1 h2, RRes_fr a9 h2⟩
/-- the tape is taken -/
theorem RR_take {x : Bool} {σ1 σ2 σ1' σ2' : St} (h : RR x σ1 σ2) (h1 : WFr (sF σ1 65 0) σ1') (h2 : MFr (sF σ2 2 0) σ2') : RR x σ1' σ2' := by
  refine RR_fr (σ1 := sF σ1 65 0) (σ2 := sF σ2 2 0) ?_ h1 h2
  obtain ⟨a1, a2, a3, a4, a5, a6, a7, a8, a9⟩ := h
  refine ⟨⟨rfl, Int.le_refl 0, (show (0 : Int) ≤ 940 by decide), a1.2.2.2⟩, a2, SC_fr a3 (fun q hq => ?_) (fun _ _ _ => rfl) (fun _ _ _ => rfl), a4, a5, ?_, ?_, a8, a9⟩
  · rw [gF_sF, if_neg]
    rcases hq with rfl | rfl | rfl | rfl | rfl | rfl | rfl | rfl <;> decide
  · refine ⟨a6.1, a6.2.1, fun e => SC_fr (a6.2.2 e) (fun q hq => ?_) (fun _ _ _ => rfl) (fun _ _ _ => rfl)⟩
    rw [gF_sF, if_neg]
    rcases hq with rfl | rfl | rfl | rfl | rfl | rfl | rfl | rfl <;> decide
  · refine ⟨a7.1, a7.2.1, fun e => SC_fr (a7.2.2 e) (fun q hq => ?_) (fun _ _ _ => rfl) (fun _ _ _ => rfl)⟩
    rw [gF_sF, if_neg]
    rcases hq with rfl | rfl | rfl | rfl | rfl | rfl | rfl | rfl <;> decide
