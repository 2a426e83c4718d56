/-! PURE PART: feed, lose, image, restore -/
theorem gF_cpA {σ : St} {a b c d n q : Nat} : gF (cpA σ a b c d n) q = gF σ q := rfl
theorem gA_cpA {σ : St} {q0 sp q1 dp n a j : Nat} : gA (cpA σ q0 sp q1 dp n) a j = if a = q1 ∧ dp ≤ j ∧ j < dp + n then gA σ q0 (sp + (j - dp)) else gA σ a j := rfl
/-- scene k' of σ' holds what scene k of σ holds -/
def SMv (σ σ' : St) (k k' : Nat) : Prop := (gF σ' (1472 + 64 * k') = gF σ (1472 + 64 * k) ∧ gF σ' (1473 + 64 * k') = gF σ (1473 + 64 * k) ∧ gF σ' (1474 + 64 * k') = gF σ (1474 + 64 * k) ∧ gF σ' (5059 + 64 * k') = gF σ (5059 + 64 * k) ∧ gF σ' (5062 + 64 * k') = gF σ (5062 + 64 * k) ∧ gF σ' (1984 + 64 * k') = gF σ (1984 + 64 * k) ∧ gF σ' (1987 + 64 * k') = gF σ (1987 + 64 * k) ∧ gF σ' (5058 + 64 * k') = gF σ (5058 + 64 * k)) ∧ (∀ i, i < 60 → gA σ' (27 + k') i = gA σ (27 + k) i) ∧ (∀ i, i < 4 → gA σ' (35 + k') i = gA σ (35 + k) i) ∧ (∀ i, i < 4 → gA σ' (39 + k') i = gA σ (39 + k) i) ∧ (∀ i, i < 8 → gA σ' (43 + k') i = gA σ (43 + k) i) ∧ (∀ i, i < 8 → gA σ' (47 + k') i = gA σ (47 + k) i) ∧ (∀ i, i < 8 → gA σ' (51 + k') i = gA σ (51 + k) i) ∧ (∀ i, i < 10 → gA σ' (55 + k') i = gA σ (55 + k) i) ∧ (∀ i, i < 10 → gA σ' (59 + k') i = gA σ (59 + k) i) ∧ (∀ i, i < 6 → gA σ' (63 + k') i = gA σ (63 + k) i) ∧ (∀ i, i < 6 → gA σ' (67 + k') i = gA σ (67 + k) i) ∧ (∀ i, i < 6 → gA σ' (71 + k') i = gA σ (71 + k) i) ∧ (∀ i, i < 6 → gA σ' (75 + k') i = gA σ (75 + k) i)
theorem SC_mv {σ1 σ2 σ1' σ2' : St} {k a o k' a' o' : Nat} (h : SC σ1 σ2 k a o) (hs : SMv σ1 σ1' k k') (hM : ∀ i, i < 82 → gA σ2' a' (o' + i) = gA σ2 a (o + i)) : SC σ1' σ2' k' a' o' := by
  obtain ⟨⟨f1, f2, f3, f4, f5, f6, f7, f8⟩, a1, a2, a3, a4, a5, a6, a7, a8, a9, b1, b2, b3⟩ := hs
  have m0 := hM 0 (by omega)
  have m1 := hM 1 (by omega)
  have m2 := hM 2 (by omega)
  have m3 := hM 3 (by omega)
  have m4 := hM 4 (by omega)
  have m5 := hM 5 (by omega)
  rw [Nat.add_zero, Nat.add_zero] at m0
  have mg : ∀ c t, c + t < 82 → gA σ2' a' (o' + c + t) = gA σ2 a (o + c + t) := fun c t h => by
    rw [Nat.add_assoc, Nat.add_assoc]; exact hM (c + t) h
  unfold SC LatW at h ⊢
  rw [m0, m1, m2, m3, m4, m5, f1, f2, f3, f4, f5, f6, f7, f8]
  obtain ⟨⟨c0, l⟩, c1, c2, c3, c4, c5, c6, c7, c8, c9, d1⟩ := h
  refine ⟨⟨c0, l.1, l.2.1, l.2.2.1, fun i hi => ?_⟩, c1, c2, c3, c4, c5, fun h hh => ?_, fun i j hij hj => ?_, fun s hs => ?_, fun t ht => ?_, fun b hb => ?_⟩
  · rw [a1 i (by omega)]; exact l.2.2.2 i hi
  · rw [a7 h (by omega), a8 h (by omega), mg 6 (2 * h) (by omega), mg 7 (2 * h) (by omega)]; exact c6 h hh
  · rw [mg 6 (2 * i) (by omega), mg 6 (2 * j) (by omega)]; exact c7 i j hij hj
  · rw [a9 s (by omega), b1 s (by omega), b2 s (by omega), b3 s (by omega), mg 26 (4 * s) (by omega), mg 27 (4 * s) (by omega), mg 28 (4 * s) (by omega), mg 29 (4 * s) (by omega)]; exact c8 s hs
  · rw [a2 t (by omega), a3 t (by omega), mg 50 (2 * t) (by omega), mg 51 (2 * t) (by omega)]; exact c9 t ht
  · rw [a4 b (by omega), a5 b (by omega), a6 b (by omega), mg 58 (3 * b) (by omega), mg 59 (3 * b) (by omega), mg 60 (3 * b) (by omega)]; exact d1 b hb
theorem cp_2_0 {F : Nat} {σ : St} : ∃ σ', f_Scene_copy_scene2_scene0 F σ = some (0, σ') ∧ SMv σ σ' 0 2 ∧ (∀ q, ¬ scF 2 q → gF σ' q = gF σ q) ∧ ∀ b, ¬ scA 2 b → ∀ i, gA σ' b i = gA σ b i := by
  refine ⟨_, rfl, ⟨⟨rfl, rfl, rfl, rfl, rfl, rfl, rfl, rfl⟩, fun i hi => ?_, fun i hi => ?_, fun i hi => ?_, fun i hi => ?_, fun i hi => ?_, fun i hi => ?_, fun i hi => ?_, fun i hi => ?_, fun i hi => ?_, fun i hi => ?_, fun i hi => ?_, fun i hi => ?_⟩, fun q hq => ?_, fun b hb i => ?_⟩
  · simp [gA_cpA, gA_sF, hi]
  · simp [gA_cpA, gA_sF, hi]
  · simp [gA_cpA, gA_sF, hi]
  · simp [gA_cpA, gA_sF, hi]
  · simp [gA_cpA, gA_sF, hi]
  · simp [gA_cpA, gA_sF, hi]
  · simp [gA_cpA, gA_sF, hi]
  · simp [gA_cpA, gA_sF, hi]
  · simp [gA_cpA, gA_sF, hi]
  · simp [gA_cpA, gA_sF, hi]
  · simp [gA_cpA, gA_sF, hi]
  · simp [gA_cpA, gA_sF, hi]
  · unfold scF at hq
    simp only [gF_sF, gF_cpA]
    repeat rw [if_neg (by omega)]
  · unfold scA at hb
    simp only [gA_sF, gA_cpA]
    repeat rw [if_neg (by omega)]
theorem cp_3_0 {F : Nat} {σ : St} : ∃ σ', f_Scene_copy_scene3_scene0 F σ = some (0, σ') ∧ SMv σ σ' 0 3 ∧ (∀ q, ¬ scF 3 q → gF σ' q = gF σ q) ∧ ∀ b, ¬ scA 3 b → ∀ i, gA σ' b i = gA σ b i := by
  refine ⟨_, rfl, ⟨⟨rfl, rfl, rfl, rfl, rfl, rfl, rfl, rfl⟩, fun i hi => ?_, fun i hi => ?_, fun i hi => ?_, fun i hi => ?_, fun i hi => ?_, fun i hi => ?_, fun i hi => ?_, fun i hi => ?_, fun i hi => ?_, fun i hi => ?_, fun i hi => ?_, fun i hi => ?_⟩, fun q hq => ?_, fun b hb i => ?_⟩
  · simp [gA_cpA, gA_sF, hi]
  · simp [gA_cpA, gA_sF, hi]
  · simp [gA_cpA, gA_sF, hi]
  · simp [gA_cpA, gA_sF, hi]
  · simp [gA_cpA, gA_sF, hi]
  · simp [gA_cpA, gA_sF, hi]
  · simp [gA_cpA, gA_sF, hi]
  · simp [gA_cpA, gA_sF, hi]
  · simp [gA_cpA, gA_sF, hi]
  · simp [gA_cpA, gA_sF, hi]
  · simp [gA_cpA, gA_sF, hi]
  · simp [gA_cpA, gA_sF, hi]
  · unfold scF at hq
    simp only [gF_sF, gF_cpA]
    repeat rw [if_neg (by omega)]
  · unfold scA at hb
    simp only [gA_sF, gA_cpA]
    repeat rw [if_neg (by omega)]
theorem cp_0_2 {F : Nat} {σ : St} : ∃ σ', f_Scene_copy_scene0_scene2 F σ = some (0, σ') ∧ SMv σ σ' 2 0 ∧ (∀ q, ¬ scF 0 q → gF σ' q = gF σ q) ∧ ∀ b, ¬ scA 0 b → ∀ i, gA σ' b i = gA σ b i := by
  refine ⟨_, rfl, ⟨⟨rfl, rfl, rfl, rfl, rfl, rfl, rfl, rfl⟩, fun i hi => ?_, fun i hi => ?_, fun i hi => ?_, fun i hi => ?_, fun i hi => ?_, fun i hi => ?_, fun i hi => ?_, fun i hi => ?_, fun i hi => ?_, fun i hi => ?_, fun i hi => ?_, fun i hi => ?_⟩, fun q hq => ?_, fun b hb i => ?_⟩
  · simp [gA_cpA, gA_sF, hi]
  · simp [gA_cpA, gA_sF, hi]
  · simp [gA_cpA, gA_sF, hi]
  · simp [gA_cpA, gA_sF, hi]
  · simp [gA_cpA, gA_sF, hi]
  · simp [gA_cpA, gA_sF, hi]
  · simp [gA_cpA, gA_sF, hi]
  · simp [gA_cpA, gA_sF, hi]
  · simp [gA_cpA, gA_sF, hi]
  · simp [gA_cpA, gA_sF, hi]
  · simp [gA_cpA, gA_sF, hi]
  · simp [gA_cpA, gA_sF, hi]
  · unfold scF at hq
    simp only [gF_sF, gF_cpA]
    repeat rw [if_neg (by omega)]
  · unfold scA at hb
    simp only [gA_sF, gA_cpA]
    repeat rw [if_neg (by omega)]
theorem cp_0_3 {F : Nat} {σ : St} : ∃ σ', f_Scene_copy_scene0_scene3 F σ = some (0, σ') ∧ SMv σ σ' 3 0 ∧ (∀ q, ¬ scF 0 q → gF σ' q = gF σ q) ∧ ∀ b, ¬ scA 0 b → ∀ i, gA σ' b i = gA σ b i := by
  refine ⟨_, rfl, ⟨⟨rfl, rfl, rfl, rfl, rfl, rfl, rfl, rfl⟩, fun i hi => ?_, fun i hi => ?_, fun i hi => ?_, fun i hi => ?_, fun i hi => ?_, fun i hi => ?_, fun i hi => ?_, fun i hi => ?_, fun i hi => ?_, fun i hi => ?_, fun i hi => ?_, fun i hi => ?_⟩, fun q hq => ?_, fun b hb i => ?_⟩
  · simp [gA_cpA, gA_sF, hi]
  · simp [gA_cpA, gA_sF, hi]
  · simp [gA_cpA, gA_sF, hi]
  · simp [gA_cpA, gA_sF, hi]
  · simp [gA_cpA, gA_sF, hi]
  · simp [gA_cpA, gA_sF, hi]
  · simp [gA_cpA, gA_sF, hi]
  · simp [gA_cpA, gA_sF, hi]
  · simp [gA_cpA, gA_sF, hi]
  · simp [gA_cpA, gA_sF, hi]
  · simp [gA_cpA, gA_sF, hi]
  · simp [gA_cpA, gA_sF, hi]
  · unfold scF at hq
    simp only [gF_sF, gF_cpA]
    repeat rw [if_neg (by omega)]
  · unfold scA at hb
    simp only [gA_sF, gA_cpA]
    repeat rw [if_neg (by omega)]
/-- what the tape alone changes -/
theorem RR_tape {x : Bool} {σ1 σ2 σ1' σ2' : St} (h : RR x σ1 σ2) (ht : RTape σ1' σ2') (f1 : ∀ q, q ≠ 65 → gF σ1' q = gF σ1 q) (a1 : ∀ a, a ≠ 2 → ∀ i, gA σ1' a i = gA σ1 a i) (f2 : ∀ q, q ≠ 2 → mSF q = false → gF σ2' q = gF σ2 q) (a2 : ∀ a, a ≠ 1 → ∀ i, gA σ2' a i = gA σ2 a i) : RR x σ1' σ2' := by
  have g : RR x (fun q => if q = 65 then gF σ1 65 else gF σ1' q, fun a i => if a = 2 then gA σ1 2 i else gA σ1' a i) (fun q => if q = 2 then gF σ2 2 else gF σ2' q, fun a i => if a = 1 then gA σ2 1 i else gA σ2' a i) := by
    refine RR_fr h ⟨fun q hq => ?_, fun a ha i => ?_⟩ ⟨fun q hq => ?_, fun a ha i => ?_⟩
    · show (if q = 65 then gF σ1 65 else gF σ1' q) = _
      by_cases c : q = 65
      · rw [if_pos c, c]
      · rw [if_neg c]; exact f1 q c
    · show (if a = 2 then gA σ1 2 i else gA σ1' a i) = _
      by_cases c : a = 2
      · rw [if_pos c, c]
      · rw [if_neg c]; exact a1 a c i
    · show (if q = 2 then gF σ2 2 else gF σ2' q) = _
      by_cases c : q = 2
      · rw [if_pos c, c]
      · rw [if_neg c]; exact f2 q c hq
    · show (if a = 1 then gA σ2 1 i else gA σ2' a i) = _
      by_cases c : a = 1
      · rw [if_pos c, c]
      · rw [if_neg c]; exact a2 a c i
  exact ⟨ht, g.2⟩
theorem bm {z : Int} : Int.bmod (Int.bmod z 256) 256 % 256 = z % 256 := by
  have h1 : ∀ y : Int, Int.bmod y 256 % 256 = y % 256 := fun y => by
    rw [Int.bmod_def]
    split <;> omega
  rw [h1, h1]
section
variable {F : Nat}
/-- four bytes come, one after the other -/
theorem four : ∀ (j n m : Nat) (σ1 σ2 : St) (v : Int), j ≤ 4 → j < n → j < m → rng v → RTape σ1 σ2 → gF σ2 2 + j ≤ 940 → ∃ σ1' σ2', l_Tape_put_3 F n σ1 v (8 * j - 8) = some (0, σ1') ∧ l_M_four_3 F m σ2 v (8 * j - 8) = some (0, σ2') ∧ RTape σ1' σ2' ∧ gF σ2' 2 = gF σ2 2 + j ∧ (∀ q, q ≠ 65 → gF σ1' q = gF σ1 q) ∧ (∀ a, a ≠ 2 → ∀ i, gA σ1' a i = gA σ1 a i) ∧ (∀ q, q ≠ 2 → gF σ2' q = gF σ2 q) ∧ (∀ a, a ≠ 1 → ∀ i, gA σ2' a i = gA σ2 a i)
  | _, 0, _, _, _, _, _, h, _, _, _, _ => by omega
  | _, _, 0, _, _, _, _, _, h, _, _, _ => by omega
  | 0, n + 1, m + 1, σ1, σ2, v, _, _, _, hv, ht, hl => by
    refine ⟨σ1, σ2, ?_, ?_, ht, by omega, fun _ _ => rfl, fun _ _ _ => rfl, fun _ _ => rfl, fun _ _ _ => rfl⟩
    · simp only [l_Tape_put_3, b_Tape_put_3]
      rw [gd_t (by omega), if_pos (by omega)]
    · simp only [l_M_four_3, b_M_four_3]
      rw [gd_t (by omega), if_pos (by omega)]
  | j + 1, n + 1, m + 1, σ1, σ2, v, hj, hn, hm, hv, ht, hl => by
    obtain ⟨t1, t2, t3, t4⟩ := id ht
    have hk : (8 * ((j + 1 : Nat) : Int) - 8) = 8 * (j : Int) := by omega
    have hpow : ∃ P : Int, (P = 1 ∨ P = 256 ∨ P = 65536 ∨ P = 16777216) ∧ (2 : Int) ^ (8 * (j : Int)).toNat = P := by
      have : j = 0 ∨ j = 1 ∨ j = 2 ∨ j = 3 := by omega
      rcases this with rfl | rfl | rfl | rfl
      · exact ⟨1, by omega, by decide⟩
      · exact ⟨256, by omega, by decide⟩
      · exact ⟨65536, by omega, by decide⟩
      · exact ⟨16777216, by omega, by decide⟩
    obtain ⟨P, hP, hPe⟩ := hpow
    have hq : v % 4294967296 / P % 256 = v / P % 256 := by rcases hP with rfl | rfl | rfl | rfl <;> omega
    have ht' : RTape (sF (sA σ1 2 (gF σ1 65).toNat (iandI (v % 4294967296 / P) 255)) 65 (gF σ1 65 + 1)) (sF (sA σ2 1 (gF σ2 2).toNat (Int.bmod (Int.bmod (v / P) 256) 256)) 2 (gF σ2 2 + 1)) := by
      refine ⟨by rw [gF_eq, gF_eq, t1], by rw [gF_eq]; omega, by rw [gF_eq]; omega, fun i hi => ?_⟩
      rw [gA_sF, gA_sF, gA_sA, gA_sA, t1, iand255, hq]
      by_cases c : i = (gF σ2 2).toNat
      · rw [if_pos ⟨rfl, c⟩, if_pos ⟨rfl, c⟩, bm]
      · rw [if_neg (fun e => c e.2), if_neg (fun e => c e.2)]; exact t4 i hi
    obtain ⟨σ1', σ2', e1, e2, e3, e4, e5, e6, e7, e8⟩ := four j n m _ _ v (by omega) (by omega) (by omega) hv ht' (by rw [gF_eq]; omega)
    refine ⟨σ1', σ2', ?_, ?_, e3, by rw [e4, gF_eq]; omega, fun q hq => ?_, fun a ha i => ?_, fun q hq => ?_, fun a ha i => ?_⟩
    · simp only [l_Tape_put_3, b_Tape_put_3, hk, bv, bs]
      rw [gd_t (by omega), if_neg (by omega), gd_t (by omega), if_neg (by omega), gd_t (by omega), gd_t (by omega), hPe, show 8 * (j : Int) + -8 = 8 * j - 8 by omega, gF_sA]
      exact e1
    · simp only [l_M_four_3, b_M_four_3, hk, bv, bs]
      rw [gd_t (by omega), if_neg (by omega), gd_t (by omega), gd_t (by omega), hPe, show 8 * (j : Int) + -8 = 8 * j - 8 by omega, gF_sA]
      exact e2
    · rw [e5 q hq, gF_sF, if_neg hq, gF_sA]
    · rw [e6 a ha, gA_sF, gA_sA, if_neg (fun e => ha e.1)]
    · rw [e7 q hq, gF_sF, if_neg hq, gF_sA]
    · rw [e8 a ha, gA_sF, gA_sA, if_neg (fun e => ha e.1)]
theorem s_feed (hF : 10 ≤ F) : Sp_feed F RR := by
  intro x σ1 σ2 p0 p1 p2 p3 p4 hR h0 h1 h2 h3 h4
  have hz : RR x σ1 (sF σ2 0 0) := RR_fr hR WFr.rf (MFr.sF rfl MFr.rf)
  obtain ⟨t1, t2, t3, t4⟩ := id hz.1
  have v2 : gF (sF σ2 0 0) 2 = gF σ2 2 := rfl
  refine sp1 ?_
  unfold f_W_feed f_M_feed f_Tape_hasRoom f_Tape_put f_M_four
  rw [gd_t (by omega)]
  by_cases c : gF σ1 65 + 20 ≤ 940
  · rw [if_neg (by omega), bnd_s, gd_t (by decide), if_neg (by decide)]
    obtain ⟨a1, b1, e1, g1, u1, l1, w1, x1, y1, z1⟩ := four 4 F F σ1 (sF σ2 0 0) p0 (by omega) (by omega) (by omega) h0 hz.1 (by omega)
    obtain ⟨a2, b2, e2, g2, u2, l2, w2, x2, y2, z2⟩ := four 4 F F a1 b1 p1 (by omega) (by omega) (by omega) h1 u1 (by omega)
    obtain ⟨a3, b3, e3, g3, u3, l3, w3, x3, y3, z3⟩ := four 4 F F a2 b2 p2 (by omega) (by omega) (by omega) h2 u2 (by omega)
    obtain ⟨a4, b4, e4, g4, u4, l4, w4, x4, y4, z4⟩ := four 4 F F a3 b3 p3 (by omega) (by omega) (by omega) h3 u3 (by omega)
    obtain ⟨a5, b5, e5, g5, u5, l5, w5, x5, y5, z5⟩ := four 4 F F a4 b4 p4 (by omega) (by omega) (by omega) h4 u4 (by omega)
    refine ev_be e1 (ev_be e2 (ev_be e3 (ev_be e4 (ev_be e5 (ev_s ?_)))))
    refine ev_bs ?_
    refine ev_g (by omega) ?_
    rw [if_pos (by omega)]
    refine ev_be g1 (ev_be g2 (ev_be g3 (ev_be g4 (ev_be g5 (ev_s ⟨u5.1, ?_⟩)))))
    refine RR_tape hz u5 (fun q hq => ?_) (fun a ha i => ?_) (fun q hq _ => ?_) (fun a ha i => ?_)
    · rw [w5 q hq, w4 q hq, w3 q hq, w2 q hq, w1 q hq]
    · rw [x5 a ha, x4 a ha, x3 a ha, x2 a ha, x1 a ha]
    · rw [y5 q hq, y4 q hq, y3 q hq, y2 q hq, y1 q hq]
    · rw [z5 a ha, z4 a ha, z3 a ha, z2 a ha, z1 a ha]
  · rw [if_pos (by omega), bnd_s, gd_t (by decide), if_pos rfl]
    refine ev_s (ev_bs (ev_g (by omega) ?_))
    rw [if_neg (by omega)]
    exact ev_s ⟨rfl, hz⟩
end
