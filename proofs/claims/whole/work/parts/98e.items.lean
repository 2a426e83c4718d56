/-! PURE PART: names, signed numbers, places, both -/
theorem TF1.f {a b : St} (h : TF1 a b) {q : Nat} (hq : q < 196 ∨ 200 < q) : gF b q = gF a q := h.1 q (by omega) (by omega) (by omega) (by omega) (by omega)
theorem TF2.f {a b : St} (h : TF2 a b) {q : Nat} (hq : q ≠ 4 ∧ (q < 10 ∨ (13 < q ∧ q ≠ 16))) : gF b q = gF a q := h.1 q (by omega) (by omega) (by omega) (by omega) (by omega) (by omega)
theorem TBt_c {L : Nat} {b : Nat → Int} {σ1 σ2 s1 s2 : St} (h : TBt L b σ1 σ2) (h5 : gF s1 195 = gF σ1 195) (ha : ∀ i, gA s1 2 i = gA σ1 2 i) (g3 : gF s2 3 = gF σ2 3) (g5 : gF s2 5 = gF σ2 5) (gb : ∀ i, gA s2 1 i = gA σ2 1 i) : TBt L b s1 s2 := by
  unfold TBt BYT at h ⊢
  simp only [h5, ha, g3, g5, gb]
  exact h
section
variable {F : Nat} {b : Nat → Int} {L : Nat} {σ1 σ2 : St}
/-- a new name -/
theorem T_new (hF : 100 ≤ F) (hR : RRes σ2) (hT : TBt L b σ1 σ2) (h : TK L σ1 σ2) (hD : DRd σ1 σ2) : (∃ s1 s2, f_Reader_isNewName F σ1 (gA σ2 3 2) (gA σ2 3 3) = some (0, s1) ∧ (∀ to : Nat, f_M_fresh F σ2 (to : Nat) = some (0, s2)) ∧ FTd s1 s2 ∧ FPd σ1 s1 ∧ FQd σ2 s2) ∨ (f_Reader_isNewName F σ1 (gA σ2 3 2) (gA σ2 3 3) = some (1, σ1) ∧ (∀ to : Nat, to < 20 → f_M_fresh F σ2 (to : Nat) = bnd (f_M_next F (sA σ2 4 to (gF σ2 16))) fun _ s => some (1, s)) ∧ gF σ1 199 = gF σ2 16 ∧ rng64 (gF σ2 16) ∧ TPd L b σ1 σ2) := by
  obtain ⟨q, n1, n2, n3⟩ := T_name (F := F) hF hR hT h
  have hat := h.1
  have c2 := hD.2.2.1
  have c3 := hD.2.2.2.1
  cases q with
  | false =>
    refine Or.inl ⟨_, _, ?_, fun to => ?_, FTd_of hat 1, FPd.rf.sF rfl |>.sF rfl, FQd.rf.sF rfl |>.sF rfl⟩
    · unfold f_Reader_isNewName
      rw [n1, bnd_s, gd_t (by decide), if_pos (show bi false = 0 from rfl), blame_e, bnd_s, gd_t (by decide)]
    · unfold f_M_fresh
      rw [n2, bnd_s, gd_t (by decide), if_pos (show bi false = 0 from rfl), bad_e, bnd_s, gd_t (by decide)]
  | true =>
    obtain ⟨w1, w2, w3⟩ := n3 rfl
    obtain ⟨r, e1, e2, e3⟩ := T_fds (F := F) hF hD w1 w2
    obtain ⟨t, g1, g2, g3⟩ := T_fdt (F := F) hF hD w1 w2
    by_cases c : r = -1
    · by_cases d : t = -1
      · refine Or.inr ⟨?_, fun to hto => ?_, w1, w2, w3⟩
        · unfold f_Reader_isNewName
          rw [n1, bnd_s, gd_t (by decide), if_neg (by decide), e1, bnd_s, gd_t (by omega), if_pos c, g1, bnd_s, gd_t (by omega), if_pos d, gd_t (by decide), if_pos rfl]
        · unfold f_M_fresh
          rw [n2, bnd_s, gd_t (by decide), if_neg (by decide), gd_t (by decide), show Int.toNat 2 = 2 from rfl, e2, bnd_s, gd_t (by omega), if_neg (by omega), gd_t (by decide), show Int.toNat 3 = 3 from rfl, g2, bnd_s, gd_t (by omega), if_pos (by omega), gd_t (by omega), bs_s, Int.toNat_natCast]
      · refine Or.inl ⟨_, _, ?_, fun to => ?_, FTd_of hat 3, FPd.rf.sF rfl |>.sF rfl, FQd.rf.sF rfl |>.sF rfl⟩
        · unfold f_Reader_isNewName
          rw [n1, bnd_s, gd_t (by decide), if_neg (by decide), e1, bnd_s, gd_t (by omega), if_pos c, g1, bnd_s, gd_t (by omega), if_neg d, gd_t (by decide), if_neg (by decide), blame_e, bnd_s, gd_t (by decide), if_pos rfl]
        · unfold f_M_fresh
          rw [n2, bnd_s, gd_t (by decide), if_neg (by decide), gd_t (by decide), show Int.toNat 2 = 2 from rfl, e2, bnd_s, gd_t (by omega), if_neg (by omega), gd_t (by decide), show Int.toNat 3 = 3 from rfl, g2, bnd_s, gd_t (by omega), if_neg (by omega), bad_e, bnd_s, gd_t (by decide)]
    · refine Or.inl ⟨_, _, ?_, fun to => ?_, FTd_of hat 3, FPd.rf.sF rfl |>.sF rfl, FQd.rf.sF rfl |>.sF rfl⟩
      · unfold f_Reader_isNewName
        rw [n1, bnd_s, gd_t (by decide), if_neg (by decide), e1, bnd_s, gd_t (by omega), if_neg c, gd_t (by decide), if_neg (by decide), blame_e, bnd_s, gd_t (by decide), if_pos rfl]
      · unfold f_M_fresh
        rw [n2, bnd_s, gd_t (by decide), if_neg (by decide), gd_t (by decide), show Int.toNat 2 = 2 from rfl, e2, bnd_s, gd_t (by omega), if_pos (by omega), bad_e, bnd_s, gd_t (by decide)]
/-- a sender told -/
theorem T_ones (hF : 100 ≤ F) (hR : RRes σ2) (hT : TBt L b σ1 σ2) (h : TK L σ1 σ2) (hD : DRd σ1 σ2) : (∃ s1 s2, f_Reader_namedOne_senderName F σ1 (gA σ2 3 2) = some (-1, s1) ∧ (∀ K : Int → St → Option (Int × St), (bnd (f_M_isName F σ2) fun r σ => gd (rng r) (if r = 0 then bnd (f_M_bad F σ 1) fun r5 σ6 => gd (isb r5) (some (r5, σ6)) else bnd (f_M_find F σ 10 (gA σ2 3 2)) fun r σ => gd (rng r) (if (0 : Int) ≤ r then K r σ else bnd (f_M_bad F σ 3) fun r5 σ6 => gd (isb r5) (some (r5, σ6))))) = some (0, s2)) ∧ FTd s1 s2 ∧ FPd σ1 s1 ∧ FQd σ2 s2) ∨ (∃ o, f_Reader_namedOne_senderName F σ1 (gA σ2 3 2) = some (o, σ1) ∧ (∀ K : Int → St → Option (Int × St), (bnd (f_M_isName F σ2) fun r σ => gd (rng r) (if r = 0 then bnd (f_M_bad F σ 1) fun r5 σ6 => gd (isb r5) (some (r5, σ6)) else bnd (f_M_find F σ 10 (gA σ2 3 2)) fun r σ => gd (rng r) (if (0 : Int) ≤ r then K r σ else bnd (f_M_bad F σ 3) fun r5 σ6 => gd (isb r5) (some (r5, σ6))))) = K o σ2) ∧ 0 ≤ o ∧ o < gA σ2 3 2 ∧ TPd L b σ1 σ2) := by
  obtain ⟨q, n1, n2, n3⟩ := T_name (F := F) hF hR hT h
  have hat := h.1
  have c2 := hD.2.2.1
  cases q with
  | false =>
    refine Or.inl ⟨_, _, ?_, fun K => ?_, FTd_of hat 1, FPd.rf.sF rfl |>.sF rfl, FQd.rf.sF rfl |>.sF rfl⟩
    · unfold f_Reader_namedOne_senderName
      rw [n1, bnd_s, gd_t (by decide), if_pos (show bi false = 0 from rfl), blame_e, bnd_s]
    · rw [n2, bnd_s, gd_t (by decide), if_pos (show bi false = 0 from rfl), bad_e, bnd_s, gd_t (by decide)]
  | true =>
    obtain ⟨w1, w2, w3⟩ := n3 rfl
    obtain ⟨r, e1, e2, e3⟩ := T_fds (F := F) hF hD w1 w2
    by_cases c : r = -1
    · refine Or.inl ⟨_, _, ?_, fun K => ?_, FTd_of hat 3, FPd.rf.sF rfl |>.sF rfl, FQd.rf.sF rfl |>.sF rfl⟩
      · unfold f_Reader_namedOne_senderName
        rw [n1, bnd_s, gd_t (by decide), if_neg (by decide), e1, bnd_s, gd_t (by omega), if_pos c, blame_e, bnd_s, c]
      · rw [n2, bnd_s, gd_t (by decide), if_neg (by decide), e2, bnd_s, gd_t (by omega), if_neg (by omega), bad_e, bnd_s, gd_t (by decide)]
    · refine Or.inr ⟨r, ?_, fun K => ?_, by omega, by omega, w3⟩
      · unfold f_Reader_namedOne_senderName
        rw [n1, bnd_s, gd_t (by decide), if_neg (by decide), e1, bnd_s, gd_t (by omega), if_neg c]
      · rw [n2, bnd_s, gd_t (by decide), if_neg (by decide), e2, bnd_s, gd_t (by omega), if_pos (by omega)]
/-- a station told -/
theorem T_onet (hF : 100 ≤ F) (hR : RRes σ2) (hT : TBt L b σ1 σ2) (h : TK L σ1 σ2) (hD : DRd σ1 σ2) : (∃ s1 s2, f_Reader_namedOne_stationName F σ1 (gA σ2 3 3) = some (-1, s1) ∧ (∀ K : Int → St → Option (Int × St), (bnd (f_M_isName F σ2) fun r σ => gd (rng r) (if r = 0 then bnd (f_M_bad F σ 1) fun r5 σ6 => gd (isb r5) (some (r5, σ6)) else gd (inb 3 82) (bnd (f_M_find F σ 16 (gA σ 3 (Int.toNat 3))) fun r σ => gd (rng r) (if (0 : Int) ≤ r then K r σ else bnd (f_M_bad F σ 3) fun r5 σ6 => gd (isb r5) (some (r5, σ6)))))) = some (0, s2)) ∧ FTd s1 s2 ∧ FPd σ1 s1 ∧ FQd σ2 s2) ∨ (∃ o, f_Reader_namedOne_stationName F σ1 (gA σ2 3 3) = some (o, σ1) ∧ (∀ K : Int → St → Option (Int × St), (bnd (f_M_isName F σ2) fun r σ => gd (rng r) (if r = 0 then bnd (f_M_bad F σ 1) fun r5 σ6 => gd (isb r5) (some (r5, σ6)) else gd (inb 3 82) (bnd (f_M_find F σ 16 (gA σ 3 (Int.toNat 3))) fun r σ => gd (rng r) (if (0 : Int) ≤ r then K r σ else bnd (f_M_bad F σ 3) fun r5 σ6 => gd (isb r5) (some (r5, σ6)))))) = K o σ2) ∧ 0 ≤ o ∧ o < gA σ2 3 3 ∧ TPd L b σ1 σ2) := by
  obtain ⟨q, n1, n2, n3⟩ := T_name (F := F) hF hR hT h
  have hat := h.1
  have c2 := hD.2.2.2.1
  cases q with
  | false =>
    refine Or.inl ⟨_, _, ?_, fun K => ?_, FTd_of hat 1, FPd.rf.sF rfl |>.sF rfl, FQd.rf.sF rfl |>.sF rfl⟩
    · unfold f_Reader_namedOne_stationName
      rw [n1, bnd_s, gd_t (by decide), if_pos (show bi false = 0 from rfl), blame_e, bnd_s]
    · rw [n2, bnd_s, gd_t (by decide), if_pos (show bi false = 0 from rfl), bad_e, bnd_s, gd_t (by decide)]
  | true =>
    obtain ⟨w1, w2, w3⟩ := n3 rfl
    obtain ⟨r, e1, e2, e3⟩ := T_fdt (F := F) hF hD w1 w2
    by_cases c : r = -1
    · refine Or.inl ⟨_, _, ?_, fun K => ?_, FTd_of hat 3, FPd.rf.sF rfl |>.sF rfl, FQd.rf.sF rfl |>.sF rfl⟩
      · unfold f_Reader_namedOne_stationName
        rw [n1, bnd_s, gd_t (by decide), if_neg (by decide), e1, bnd_s, gd_t (by omega), if_pos c, blame_e, bnd_s, c]
      · rw [n2, bnd_s, gd_t (by decide), if_neg (by decide), gd_t (by decide), show Int.toNat 3 = 3 from rfl, e2, bnd_s, gd_t (by omega), if_neg (by omega), bad_e, bnd_s, gd_t (by decide)]
    · refine Or.inr ⟨r, ?_, fun K => ?_, by omega, by omega, w3⟩
      · unfold f_Reader_namedOne_stationName
        rw [n1, bnd_s, gd_t (by decide), if_neg (by decide), e1, bnd_s, gd_t (by omega), if_neg c]
      · rw [n2, bnd_s, gd_t (by decide), if_neg (by decide), gd_t (by decide), show Int.toNat 3 = 3 from rfl, e2, bnd_s, gd_t (by omega), if_pos (by omega)]
/-- the number behind a sign, the model's -/
def sgM (F : Nat) (σ : St) (r1 x1 : Int) : Option (Int × St) := gd (rng (gF σ 10) ∧ rng 2) (if (gF σ 10) = 2 then gd (rng (gF σ 13) ∧ rng 99) (if (99 : Int) < (gF σ 13) then bnd (f_M_bad F σ 2) fun r23 σ24 => gd (isb r23) (some (r23, σ24)) else gd (rng x1) (if x1 = 0 then gd (rng r1) (if r1 = 0 then bs (sF σ 17 (gF σ 13)) fun σ25 => bnd (f_M_next F σ25) fun r26 σ27 => some (1, σ27) else bs (sF σ 17 (-(gF σ 13))) fun σ28 => bnd (f_M_next F σ28) fun r29 σ30 => some (1, σ30)) else gd (rng (gF σ 13)) (if (gF σ 13) = 0 then bnd (f_M_bad F σ 2) fun r37 σ38 => gd (isb r37) (some (r37, σ38)) else gd (rng r1) (if r1 = 0 then bs (sF σ 17 (gF σ 13)) fun σ31 => bnd (f_M_next F σ31) fun r32 σ33 => some (1, σ33) else bs (sF σ 17 (-(gF σ 13))) fun σ34 => bnd (f_M_next F σ34) fun r35 σ36 => some (1, σ36))))) else bnd (f_M_bad F σ 1) fun r39 σ40 => gd (isb r39) (some (r39, σ40)))
/-- 0 to 99, or a fault: the class's asking, and what the model does with any K -/
theorem T_p99 (hT : TBt L b σ1 σ2) (h : TK L σ1 σ2) : (∃ s1 k, f_Reader_isNumber F σ1 0 99 = some (0, s1) ∧ FTd s1 (sF (sF σ2 14 k) 15 (gF σ2 11)) ∧ FPd σ1 s1 ∧ ((gF σ2 10 = 2 ∧ 99 < gF σ2 13 ∧ gF σ2 13 ≤ 999 ∧ k = 2) ∨ (gF σ2 10 ≠ 2 ∧ rng (gF σ2 10) ∧ k = 1))) ∨ (∃ v, 0 ≤ v ∧ v ≤ 99 ∧ gF σ1 200 = v ∧ gF σ2 13 = v ∧ gF σ2 10 = 2 ∧ f_Reader_isNumber F σ1 0 99 = some (1, σ1) ∧ TPd L b σ1 σ2) := by
  have hk := TK_cases hT h
  have hat := h.1
  by_cases c : gF σ1 197 = 3
  · obtain ⟨h1, h2, h3, h4, h5, h6⟩ : gF σ1 197 = 3 ∧ gF σ2 10 = 2 ∧ gF σ1 200 = gF σ2 13 ∧ 0 ≤ gF σ2 13 ∧ gF σ2 13 ≤ 999 ∧ TPd L b σ1 σ2 := by
      rcases hk with h | h | h | h | h | h
      · exact absurd (h.1.symm.trans c) (by decide)
      · exact h
      · exact absurd (h.1.symm.trans c) (by decide)
      · exact absurd (h.1.symm.trans c) (by decide)
      · exact absurd (h.1.symm.trans c) (by decide)
      · rcases h.1 with g | g
        · exact absurd (g.1.symm.trans c) (by decide)
        · exact absurd (g.symm.trans c) (by decide)
    by_cases z : gF σ2 13 ≤ 99
    · refine Or.inr ⟨gF σ2 13, h4, z, h3, rfl, h2, ?_, h6⟩
      unfold f_Reader_isNumber
      rw [h1, gd_t (by decide), if_pos rfl, h3, gd_t (by omega), if_neg (by omega), gd_t (by omega), if_pos z]
    · refine Or.inl ⟨_, 2, ?_, FTd_of hat 2, FPd.rf.sF rfl |>.sF rfl, Or.inl ⟨h2, by omega, h5, rfl⟩⟩
      unfold f_Reader_isNumber
      rw [h1, gd_t (by decide), if_pos rfl, h3, gd_t (by omega), if_neg (by omega), gd_t (by omega), if_neg z, blame_e, bnd_s, gd_t (by decide), if_pos rfl]
  · obtain ⟨r1, n1, r2⟩ : rng (gF σ1 197) ∧ gF σ2 10 ≠ 2 ∧ rng (gF σ2 10) := by omega
    refine Or.inl ⟨_, 1, ?_, FTd_of hat 1, FPd.rf.sF rfl |>.sF rfl, Or.inr ⟨n1, r2, rfl⟩⟩
    unfold f_Reader_isNumber
    rw [gd_t (by omega), if_neg c, blame_e, bnd_s, gd_t (by decide)]
/-- a number with a sign or without -/
theorem T_sgn (hF : 2000 ≤ F) (hL : L ≤ 940) (hb0 : ∀ i, i < 940 → 0 ≤ b i ∧ b i ≤ 255) (hT : TBt L b σ1 σ2) (h : TK L σ1 σ2) : (∃ s1 s2, f_Reader_isSigned F σ1 = some (0, s1) ∧ (∀ x1 : Int, (x1 = 0 ∨ x1 = 1) → f_M_takesSigned F σ2 x1 = some (0, s2)) ∧ FTd s1 s2 ∧ FPd σ1 s1 ∧ FQd σ2 s2) ∨ (∃ s1 t v, -99 ≤ v ∧ v ≤ 99 ∧ f_Reader_isSigned F σ1 = some (1, s1) ∧ gF s1 200 = v ∧ TPd L b s1 t ∧ TF1 σ1 s1 ∧ TF2 σ2 t ∧ ∀ x1 : Int, (x1 = 0 ∨ x1 = 1) → f_M_takesSigned F σ2 x1 = if x1 = 1 ∧ v = 0 then some (0, sF (sF t 14 2) 15 (gF t 11)) else bnd (f_M_next F (sF t 17 v)) fun _ s => some (1, s)) := by
  have hk := TK_cases hT h
  -- the number behind the sign, of the state (u1, u2), a minus or none
  have core : ∀ (u1 u2 : St) (mi : Bool), TBt L b u1 u2 → TK L u1 u2 → (∃ s1 s2, (bnd (f_Reader_isNumber F u1 0 99) fun r17 σ18 => gd (rng r17) (if r17 = 0 then some (0, σ18) else gd (rng (bi mi)) (if (bi mi) = 0 then bs (sF σ18 200 (gF σ18 200)) fun σ19 => some (1, σ19) else bs (sF σ18 200 (-(gF σ18 200))) fun σ20 => some (1, σ20)))) = some (0, s1) ∧ (∀ x1 : Int, (x1 = 0 ∨ x1 = 1) → sgM F u2 (bi mi) x1 = some (0, s2)) ∧ FTd s1 s2 ∧ FPd u1 s1 ∧ FQd u2 s2) ∨ (∃ s1 v, -99 ≤ v ∧ v ≤ 99 ∧ (bnd (f_Reader_isNumber F u1 0 99) fun r17 σ18 => gd (rng r17) (if r17 = 0 then some (0, σ18) else gd (rng (bi mi)) (if (bi mi) = 0 then bs (sF σ18 200 (gF σ18 200)) fun σ19 => some (1, σ19) else bs (sF σ18 200 (-(gF σ18 200))) fun σ20 => some (1, σ20)))) = some (1, s1) ∧ gF s1 200 = v ∧ TPd L b s1 u2 ∧ TF1 u1 s1 ∧ ∀ x1 : Int, (x1 = 0 ∨ x1 = 1) → sgM F u2 (bi mi) x1 = if x1 = 1 ∧ v = 0 then some (0, sF (sF u2 14 2) 15 (gF u2 11)) else bnd (f_M_next F (sF u2 17 v)) fun _ s => some (1, s)) := by
    intro u1 u2 mi hT' h'
    have rmi : rng (bi mi) := by cases mi <;> decide
    rcases T_p99 (F := F) hT' h' with ⟨s1, k, a1, a2, a3, a4⟩ | ⟨v, v0, v1, a1, a2, a3, a4, a5⟩
    · refine Or.inl ⟨s1, _, ?_, fun x1 hx => ?_, a2, a3, FQd.rf.sF rfl |>.sF rfl⟩
      · rw [a1, bnd_s, gd_t (by decide), if_pos rfl]
      · unfold sgM
        rcases a4 with ⟨b1, b2, b3, b4⟩ | ⟨b1, b2, b3⟩
        · rw [b1, gd_t (by decide), if_pos rfl, gd_t (by omega), if_pos b2, bad_e, bnd_s, gd_t (by decide), b4]
        · rw [gd_t (by omega), if_neg b1, bad_e, bnd_s, gd_t (by decide), b3]
    · refine Or.inr ⟨sF u1 200 (if mi = true then -v else v), if mi = true then -v else v, by split <;> omega, by split <;> omega, ?_, gF_eq, TPd_c a5 rfl rfl rfl (fun _ => rfl) rfl rfl rfl rfl (fun _ => rfl), ⟨fun q _ _ _ _ h5 => by rw [gF_sF, if_neg h5], fun _ _ => rfl⟩, fun x1 hx => ?_⟩
      · rw [a4, bnd_s, gd_t (by decide), if_neg (by decide), a1]
        cases mi with
        | false => rw [gd_t (by decide), if_pos (show bi false = 0 from rfl), bs_s]; rfl
        | true => rw [gd_t (by decide), if_neg (by decide), bs_s]; rfl
      · unfold sgM
        rw [a3, gd_t (by decide), if_pos rfl, a2, gd_t (by omega), if_neg (by omega)]
        have fin : (gd (rng (bi mi)) (if (bi mi) = 0 then bs (sF u2 17 v) fun σ25 => bnd (f_M_next F σ25) fun _ σ27 => some (1, σ27) else bs (sF u2 17 (-v)) fun σ28 => bnd (f_M_next F σ28) fun _ σ30 => some (1, σ30))) = bnd (f_M_next F (sF u2 17 (if mi = true then -v else v))) fun _ s => some (1, s) := by
          cases mi with
          | false => rw [gd_t (by decide), if_pos (show bi false = 0 from rfl), bs_s]; rfl
          | true => rw [gd_t (by decide), if_neg (by decide), bs_s]; rfl
        rcases hx with rfl | rfl
        · rw [gd_t (by decide), if_pos rfl]
          refine Eq.trans fin ?_
          rw [if_neg (show ¬ ((0 : Int) = 1 ∧ (if mi = true then -v else v) = 0) from fun z => absurd z.1 (by decide))]
        · rw [gd_t (by decide), if_neg (by decide), gd_t (by omega)]
          by_cases z : v = 0
          · rw [if_pos z, bad_e, bnd_s, gd_t (by decide), if_pos ⟨rfl, by split <;> omega⟩]
          · rw [if_neg z]
            refine Eq.trans fin ?_
            rw [if_neg (show ¬ ((1 : Int) = 1 ∧ (if mi = true then -v else v) = 0) from fun y => z (by have := y.2; split at this <;> omega))]
  by_cases c : gF σ1 197 = 5
  · obtain ⟨h1, h2, h3, h6⟩ : gF σ1 197 = 5 ∧ gF σ2 10 = 3 ∧ gF σ2 13 = 45 ∧ TPd L b σ1 σ2 := by
      rcases hk with h | h | h | h | h | h
      · exact absurd (h.1.symm.trans c) (by decide)
      · exact absurd (h.1.symm.trans c) (by decide)
      · exact absurd (h.1.symm.trans c) (by decide)
      · exact h
      · exact absurd (h.1.symm.trans c) (by decide)
      · rcases h.1 with g | g
        · exact absurd (g.1.symm.trans c) (by decide)
        · exact absurd (g.symm.trans c) (by decide)
    obtain ⟨u1, u2, a1, a2, a3, a4, a5, a6⟩ := ADVp hF hL hb0 h6
    have e1 : f_Reader_isSigned F σ1 = bnd (f_Reader_isNumber F u1 0 99) fun r17 σ18 => gd (rng r17) (if r17 = 0 then some (0, σ18) else gd (rng (bi true)) (if (bi true) = 0 then bs (sF σ18 200 (gF σ18 200)) fun σ19 => some (1, σ19) else bs (sF σ18 200 (-(gF σ18 200))) fun σ20 => some (1, σ20))) := by
      unfold f_Reader_isSigned
      rw [h1, gd_t (by decide), if_pos rfl, gd_t (by decide), if_neg (by decide), a1, bnd_s]; rfl
    have e2 : ∀ x1, f_M_takesSigned F σ2 x1 = sgM F u2 (bi true) x1 := fun x1 => by
      unfold f_M_takesSigned
      have : f_M_isSign F σ2 45 = some (1, σ2) := by
        unfold f_M_isSign
        rw [h2, gd_t (by decide), if_pos rfl, h3, gd_t (by decide), if_pos rfl]
      rw [this, bnd_s, gd_t (by decide), if_neg (by decide), a2, bnd_s]; rfl
    rcases core u1 u2 true a3 a4 with ⟨s1, s2, k1, k2, k3, k4, k5⟩ | ⟨s1, v, v0, v1, k1, k2, k3, k4, k5⟩
    · exact Or.inl ⟨s1, s2, e1.trans k1, fun x1 hx => (e2 x1).trans (k2 x1 hx), k3, a5.P.tr k4, a6.Q.tr k5⟩
    · exact Or.inr ⟨s1, u2, v, v0, v1, e1.trans k1, k2, k3, a5.tr k4, a6, fun x1 hx => (e2 x1).trans (k5 x1 hx)⟩
  · have hr : rng (gF σ1 197) ∧ rng (gF σ2 10) := by omega
    have e1 : f_Reader_isSigned F σ1 = bnd (f_Reader_isNumber F σ1 0 99) fun r17 σ18 => gd (rng r17) (if r17 = 0 then some (0, σ18) else gd (rng (bi false)) (if (bi false) = 0 then bs (sF σ18 200 (gF σ18 200)) fun σ19 => some (1, σ19) else bs (sF σ18 200 (-(gF σ18 200))) fun σ20 => some (1, σ20))) := by
      unfold f_Reader_isSigned
      rw [gd_t (by omega), if_neg c, gd_t (by decide), if_pos rfl]; rfl
    have e2 : ∀ x1, f_M_takesSigned F σ2 x1 = sgM F σ2 (bi false) x1 := fun x1 => by
      unfold f_M_takesSigned
      have : f_M_isSign F σ2 45 = some (0, σ2) := by
        unfold f_M_isSign
        by_cases z : gF σ2 10 = 3
        · have : gF σ2 13 = 59 := by
            rcases hk with h | h | h | h | h | h
            · exact absurd (h.2.1.symm.trans z) (by decide)
            · exact absurd (h.2.1.symm.trans z) (by decide)
            · exact h.2.2.1
            · exact absurd h.1 c
            · exact absurd (h.2.1.symm.trans z) (by decide)
            · exact absurd (h.2.symm.trans z) (by decide)
          rw [z, gd_t (by decide), if_pos rfl, this, gd_t (by decide), if_neg (by decide)]
        · rw [gd_t (by omega), if_neg z]
      rw [this, bnd_s, gd_t (by decide), if_pos rfl]; rfl
    rcases core σ1 σ2 false hT h with ⟨s1, s2, k1, k2, k3, k4, k5⟩ | ⟨s1, v, v0, v1, k1, k2, k3, k4, k5⟩
    · exact Or.inl ⟨s1, s2, e1.trans k1, fun x1 hx => (e2 x1).trans (k2 x1 hx), k3, k4, k5⟩
    · exact Or.inr ⟨s1, σ2, v, v0, v1, e1.trans k1, k2, k3, k4, TF2.rf, fun x1 hx => (e2 x1).trans (k5 x1 hx)⟩
/-- a place that stands already -/
theorem W_hp {σ : St} {v : Int} {n : Nat} (hv : rng v) (hn : n ≤ 10) (h : gF σ 5123 = (n : Nat)) (hp : ∀ i, i < n → rng (gA σ 56 i)) : ∀ (d m i : Nat), d < m → i + d = n → l_Scene_hasPlace_scene1_2 F m σ v (i : Nat) = some (if fdN (fun k => gA σ 56 k) v d i = -1 then 0 else 1, σ)
  | _, 0, _, h, _ => absurd h (Nat.not_lt_zero _)
  | 0, m + 1, i, _, hi => by
    show b_Scene_hasPlace_scene1_2 F _ σ _ _ = _
    unfold b_Scene_hasPlace_scene1_2
    rw [h, gd_t (by omega), if_pos (by omega)]; rfl
  | d + 1, m + 1, i, hm, hi => by
    show b_Scene_hasPlace_scene1_2 F _ σ _ _ = _
    unfold b_Scene_hasPlace_scene1_2 fdN
    rw [h, gd_t (by omega), if_neg (by omega), gd_t (by omega), Int.toNat_natCast, gd_t ⟨hp i (by omega), hv⟩]
    by_cases c : gA σ 56 i = v
    · rw [if_pos c, if_pos c, if_neg (by omega)]
    · rw [if_neg c, if_neg c, bv_s]
      exact W_hp hv hn h hp d m (i + 1) (by omega) (by omega)
theorem M_h54 {σ : St} {n : Nat} (hn : n < 10) (hv : rng (gF σ 13)) (hp : ∀ i, i < n → rng (gA σ 3 (6 + 2 * i))) : ∀ (d m i : Nat), d < m → i + d = n → l_M_readHearer_54 F m σ (n : Nat) (i : Nat) = if fdN (fun k => gA σ 3 (6 + 2 * k)) (gF σ 13) d i = -1 then l_M_readHearer_54 F 1 σ (n : Nat) (n : Nat) else some (0, sF (sF σ 14 3) 15 (gF σ 11))
  | _, 0, _, h, _ => absurd h (Nat.not_lt_zero _)
  | 0, m + 1, i, _, hi => by
    have e : i = n := by omega
    subst e
    rw [if_pos (show fdN (fun k => gA σ 3 (6 + 2 * k)) (gF σ 13) 0 i = -1 from rfl)]
    show b_M_readHearer_54 F _ σ _ _ = b_M_readHearer_54 F _ σ _ _
    unfold b_M_readHearer_54
    rw [gd_t (by omega), if_pos (by omega), gd_t (by omega), if_pos (by omega), gd_t (by omega)]
  | d + 1, m + 1, i, hm, hi => by
    have ih := M_h54 hn hv hp d m (i + 1) (by omega) (by omega)
    have e : l_M_readHearer_54 F (m + 1) σ (n : Nat) (i : Nat) = if gA σ 3 (6 + 2 * i) = gF σ 13 then some (0, sF (sF σ 14 3) 15 (gF σ 11)) else l_M_readHearer_54 F m σ (n : Nat) ((i + 1 : Nat) : Int) := by
      show b_M_readHearer_54 F _ σ _ _ = _
      unfold b_M_readHearer_54
      rw [gd_t (by omega), if_neg (by omega), gd_t (by omega), show Int.toNat (6 + 2 * (i : Int)) = 6 + 2 * i by omega, bv_s, gd_t ⟨hp i (by omega), hv⟩]
      by_cases c : gA σ 3 (6 + 2 * i) = gF σ 13
      · rw [if_pos c, if_pos c, bad_e, bnd_s, gd_t (by decide)]
      · rw [if_neg c, if_neg c, bv_s]; rfl
    rw [e]
    unfold fdN
    by_cases c : gA σ 3 (6 + 2 * i) = gF σ 13
    · rw [if_pos c, if_pos c, if_neg (by omega)]
    · rw [if_neg c, if_neg c]; exact ih
end
