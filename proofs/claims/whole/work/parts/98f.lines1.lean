/-! PURE PART: lines, both: lattice, hearer -/
/-- how many are told so far, the class's -/
def CNc (σ : St) : Int := gF σ 5123 + gF σ 5126 + gF σ 2048 + gF σ 2051 + gF σ 202
def POd (L : Nat) (b : Nat → Int) (σ1 σ2 : St) (o1 o2 : Option (Int × St)) : Prop := ∃ r s1 s2, o1 = some (r, s1) ∧ o2 = some (r, s2) ∧ FPd σ1 s1 ∧ FQd σ2 s2 ∧ ((r = 1 ∧ TBt L b s1 s2 ∧ TK L s1 s2 ∧ DRd s1 s2 ∧ CNc s1 = CNc σ1 + 1 ∧ gF s1 193 = gF σ1 193 ∧ gF s2 14 = gF σ2 14) ∨ (r = 0 ∧ FTd s1 s2))
theorem TK_c {L : Nat} {σ1 σ2 s1 s2 : St} (h : TK L σ1 σ2) (hF : ∀ q, 196 ≤ q → q ≤ 200 → gF s1 q = gF σ1 q) (hG : ∀ q, q = 4 ∨ q = 10 ∨ q = 11 ∨ q = 13 ∨ q = 16 → gF s2 q = gF σ2 q) : TK L s1 s2 := by
  unfold TK TK3 at h ⊢
  simp only [hF 196 (by omega) (by omega), hF 197 (by omega) (by omega), hF 198 (by omega) (by omega), hF 199 (by omega) (by omega), hF 200 (by omega) (by omega), hG 4 (by omega), hG 10 (by omega), hG 11 (by omega), hG 13 (by omega), hG 16 (by omega)]
  exact h
theorem RRes_q {σ2 s2 : St} (h : RRes σ2) (g : FQd σ2 s2) : RRes s2 := by
  unfold RRes
  simp only [g.2 5 (by omega) (by omega)]
  exact h
section
variable {F : Nat} {b : Nat → Int} {L : Nat} {σ1 σ2 : St}
theorem PO_fail {o1 o2 : Option (Int × St)} {s1 s2 : St} (e1 : o1 = some (0, s1)) (e2 : o2 = some (0, s2)) (h : FTd s1 s2) (f : FPd σ1 s1) (g : FQd σ2 s2) : POd L b σ1 σ2 o1 o2 := ⟨0, s1, s2, e1, e2, f, g, Or.inr ⟨rfl, h⟩⟩
def mLat (F : Nat) (σ2 : St) : Option (Int × St) := gd (rng (gF σ2 19)) (if (gF σ2 19) = 0 then gd (inb 2 82) (gd (rng (gA σ2 3 (Int.toNat 2))) (if (gA σ2 3 (Int.toNat 2)) ≤ 0 then gd (isb 1) (bs (sF σ2 19 1) fun σ35 => bnd (f_M_next F σ35) fun r36 σ37 => bnd (f_M_takes F σ37 2 60) fun r38 σ39 => gd (rng r38) (if r38 = 0 then some (0, σ39) else gd (inb 0 82) (bs (sA σ39 3 (Int.toNat 0) (gF σ39 17)) fun σ40 => some (1, σ40)))) else bnd (f_M_bad F σ2 3) fun r41 σ42 => gd (isb r41) (some (r41, σ42)))) else bnd (f_M_bad F σ2 3) fun r33 σ34 => gd (isb r33) (some (r33, σ34)))
theorem P_latt (hF : 2000 ≤ F) (hL : L ≤ 940) (hb0 : ∀ i, i < 940 → 0 ≤ b i ∧ b i ≤ 255) (hP : TPd L b σ1 σ2) (hD : DRd σ1 σ2) : POd L b σ1 σ2 (f_Reader_readLattice_scene1 F σ1) (mLat F σ2) := by
  obtain ⟨e202, eb⟩ := hD.2.2.2.2.2.2.2.2.2.2.2.2.2
  obtain ⟨c2, c2a, c2b⟩ := hD.2.2.1
  have hat := hP.2.1
  have bad3 : FTd (sF (sF σ1 193 3) 192 (gF σ1 198)) (sF (sF σ2 14 3) 15 (gF σ2 11)) := FTd_of hat 3
  by_cases c : gF σ2 19 = 0
  · by_cases c0 : gA σ2 3 2 ≤ 0
    · obtain ⟨s1, s2, a1, a2, a3, a4, a5, a6⟩ := ADVp (σ1 := σ1) (σ2 := sF σ2 19 1) hF hL hb0 (TPd_c hP rfl rfl rfl (fun _ => rfl) rfl rfl rfl rfl (fun _ => rfl))
      have ec : ∀ X : Option (Int × St), f_Reader_readLattice_scene1 F σ1 = bnd (f_Reader_isNumber F s1 2 60) fun r5 σ6 => gd (rng r5) (if r5 = 0 then some (0, σ6) else bs (sF σ6 201 (gF σ6 200)) fun σ7 => gd (isb 1) (bs (sF σ7 202 1) fun σ8 => bnd (f_Reader_advance F σ8) fun r9 σ10 => some (1, σ10))) := fun _ => by
        unfold f_Reader_readLattice_scene1
        rw [e202, c, gd_t (by decide), if_pos rfl, c2, gd_t (by omega), if_pos c0, a1, bnd_s]
      have em : mLat F σ2 = bnd (f_M_takes F s2 2 60) fun r38 σ39 => gd (rng r38) (if r38 = 0 then some (0, σ39) else gd (inb 0 82) (bs (sA σ39 3 (Int.toNat 0) (gF σ39 17)) fun σ40 => some (1, σ40))) := by
        unfold mLat
        rw [c, gd_t (by decide), if_pos rfl, gd_t (by decide), show Int.toNat 2 = 2 from rfl, gd_t (by omega), if_pos c0, gd_t (by decide), bs_s, a2, bnd_s]
      have q2 : FQd σ2 s2 := (FQd.rf.sF rfl).tr a6.Q
      rcases T_num (F := F) a3 a4 (lo := 2) (hi := 60) (by omega) (by omega) with ⟨t1, t2, k1, k2, k3, k4, k5⟩ | ⟨v, v0, v1, -, -, k1, k2, k2', k3, k4, k5⟩
      · refine PO_fail (s1 := t1) (s2 := t2) ?_ ?_ k3 (a5.P.tr k4) (q2.tr k5)
        · rw [ec none, k1, bnd_s, gd_t (by decide), if_pos rfl]
        · rw [em, k2, bnd_s, gd_t (by decide), if_pos rfl]
      · obtain ⟨t1, t2, b1, b2, b3, b4, b5, b6⟩ := ADVp (σ1 := sF (sF s1 201 v) 202 1) (σ2 := sF s2 17 v) hF hL hb0 (TPd_c k5 rfl rfl rfl (fun _ => rfl) rfl rfl rfl rfl (fun _ => rfl))
        have e17 : gF t2 17 = v := by rw [b6.f (by omega), gF_eq]
        refine ⟨1, t1, sA t2 3 0 v, ?_, ?_, ((a5.P.sF rfl).sF rfl).tr b5.P, ((q2.sF rfl).tr b6.Q).sA (Or.inl rfl), Or.inl ⟨rfl, TBt_c b3 rfl (fun _ => rfl) rfl rfl (fun i => by rw [gA_sA, if_neg (by omega)]), TK_c b4 (fun _ _ _ => rfl) (fun _ _ => rfl), ?_, ?_, ?_, ?_⟩⟩
        · rw [ec none, k3, bnd_s, gd_t (by decide), if_neg (by decide), bs_s, k1, gd_t (by decide), bs_s, b1, bnd_s]
        · rw [em, k4, b2, bnd_s, bnd_s, gd_t (by decide), if_neg (by decide), gd_t (by decide), bs_s, e17]; rfl
        · refine DRd_latt hD c0 ⟨v0, v1⟩ (fun q hq => ?_) ?_ ?_ (fun x _ _ i => ?_) (fun i hi => ?_) ?_ (fun i => ?_) ?_
          · rw [b5.f (by omega), gF_sF, if_neg (by omega), gF_sF, if_neg (by omega), a5.f (by omega)]
          · rw [b5.f (by omega), gF_sF, if_neg (by omega), gF_eq]
          · rw [b5.f (by omega), gF_eq]
          · rw [b5.2]
            show gA s1 x i = _
            rw [a5.2]
          · rw [gA_sA, if_neg (fun z => hi z.2), b6.2]
            show gA s2 3 i = _
            rw [a6.2]; rfl
          · rw [gA_sA, if_pos ⟨rfl, rfl⟩]
          · rw [gA_sA, if_neg (by omega), b6.2]
            show gA s2 4 i = _
            rw [a6.2]; rfl
          · show gF t2 19 = 1
            rw [b6.f (by omega), gF_sF, if_neg (by omega), a6.f (by omega), gF_eq]
        · have g : ∀ q, 2048 ≤ q ∧ q ≤ 5126 → gF t1 q = gF σ1 q := fun q hq => by rw [b5.f (by omega), gF_sF, if_neg (by omega), gF_sF, if_neg (by omega), a5.f (by omega)]
          have g2 : gF t1 202 = 1 := by rw [b5.f (by omega), gF_eq]
          unfold CNc
          rw [g 5123 (by omega), g 5126 (by omega), g 2048 (by omega), g 2051 (by omega), g2, e202, c]; omega
        · rw [b5.f (by omega), gF_sF, if_neg (by omega), gF_sF, if_neg (by omega), a5.f (by omega)]
        · show gF t2 14 = _
          rw [b6.f (by omega), gF_sF, if_neg (by omega), a6.f (by omega), gF_sF, if_neg (by omega)]
    · refine PO_fail ?_ ?_ bad3 (FPd.rf.sF rfl |>.sF rfl) (FQd.rf.sF rfl |>.sF rfl)
      · unfold f_Reader_readLattice_scene1
        rw [e202, c, gd_t (by decide), if_pos rfl, c2, gd_t (by omega), if_neg c0, blame_e, bnd_s, gd_t (by decide)]
      · unfold mLat
        rw [c, gd_t (by decide), if_pos rfl, gd_t (by decide), show Int.toNat 2 = 2 from rfl, gd_t (by omega), if_neg c0, bad_e, bnd_s, gd_t (by decide)]
  · have c' : gF σ2 19 = 1 := by rcases eb with h | h; exact absurd h c; exact h
    refine PO_fail ?_ ?_ bad3 (FPd.rf.sF rfl |>.sF rfl) (FQd.rf.sF rfl |>.sF rfl)
    · unfold f_Reader_readLattice_scene1
      rw [e202, c', gd_t (by decide), if_neg (by decide), blame_e, bnd_s, gd_t (by decide)]
    · unfold mLat
      rw [c', gd_t (by decide), if_neg (by decide), bad_e, bnd_s, gd_t (by decide)]
theorem P_hear (hF : 2000 ≤ F) (hL : L ≤ 940) (hb0 : ∀ i, i < 940 → 0 ≤ b i ∧ b i ≤ 255) (hP : TPd L b σ1 σ2) (hD : DRd σ1 σ2) : POd L b σ1 σ2 (f_Reader_readHearer_scene1 F σ1) (f_M_readHearer F σ2) := by
  obtain ⟨c1, c1a, c1b⟩ := hD.2.1
  have hhe := hD.2.2.2.2.2.2.1
  have hat := hP.2.1
  obtain ⟨k, ek⟩ := Int.eq_ofNat_of_zero_le c1a
  by_cases c10 : k = 10
  · refine PO_fail ?_ ?_ (FTd_of hat 4) (FPd.rf.sF rfl |>.sF rfl) (FQd.rf.sF rfl |>.sF rfl)
    · unfold f_Reader_readHearer_scene1
      rw [c1, gd_t (by omega), if_neg (by omega), blame_e, bnd_s, gd_t (by decide)]
    · unfold f_M_readHearer
      rw [gd_t (by decide), show Int.toNat 1 = 1 from rfl, bv_s, gd_t (by omega), if_pos (by omega), bad_e, bnd_s, gd_t (by decide)]
  · obtain ⟨s1, s2, a1, a2, a3, a4, a5, a6⟩ := ADVp (σ1 := σ1) (σ2 := σ2) hF hL hb0 hP
    have ec : ∀ X : Option (Int × St), f_Reader_readHearer_scene1 F σ1 = bnd (f_Reader_isNumber F s1 0 99) fun r3 σ4 => gd (rng r3) (if r3 = 0 then some (0, σ4) else bnd (f_Scene_hasPlace_scene1 F σ4 (gF σ4 200)) fun r5 σ6 => gd (rng r5) (if r5 = 0 then bv (gF σ6 200) fun x2_7 => bnd (f_Reader_advance F σ6) fun r8 σ9 => bnd (f_Reader_isWord F σ9 1734437230) fun r10 σ11 => gd (rng r10) (if r10 = 0 then bnd (f_Scene_addHearer_scene1 F σ11 x2_7 1) fun r12 σ13 => some (1, σ13) else bnd (f_Reader_advance F σ11) fun r14 σ15 => bnd (f_Reader_isNumber F σ15 1 999) fun r16 σ17 => gd (rng r16) (if r16 = 0 then some (0, σ17) else bv (gF σ17 200) fun x3_18 => bnd (f_Reader_advance F σ17) fun r19 σ20 => bnd (f_Scene_addHearer_scene1 F σ20 x2_7 x3_18) fun r21 σ22 => some (1, σ22))) else bnd (f_Reader_blame F σ6 3) fun r23 σ24 => gd (isb r23) (some (r23, σ24)))) := fun _ => by
      unfold f_Reader_readHearer_scene1
      rw [c1, gd_t (by omega), if_pos (by omega), a1, bnd_s]
    have em : ∀ X : Option (Int × St), f_M_readHearer F σ2 = gd (rng (gF s2 10) ∧ rng 2) (if (gF s2 10) = 2 then gd (rng (gF s2 13) ∧ rng 99) (if (gF s2 13) ≤ 99 then l_M_readHearer_54 F F s2 (k : Nat) 0 else bnd (f_M_bad F s2 2) fun r21 σ22 => gd (isb r21) (some (r21, σ22))) else bnd (f_M_bad F s2 1) fun r23 σ24 => gd (isb r23) (some (r23, σ24))) := fun _ => by
      unfold f_M_readHearer
      rw [gd_t (by decide), show Int.toNat 1 = 1 from rfl, bv_s, gd_t (by omega), if_neg (by omega), a2, bnd_s, ek]
    rcases T_p99 (F := F) a3 a4 with ⟨t1, kk, k1, k2, k3, k4⟩ | ⟨v, v0, v1, k1, k2, k3, k4, k5⟩
    · refine PO_fail (s1 := t1) ?_ ?_ k2 (a5.P.tr k3) (a6.Q.tr (FQd.rf.sF rfl |>.sF rfl))
      · rw [ec none, k1, bnd_s, gd_t (by decide), if_pos rfl]
      · rw [em none]
        rcases k4 with ⟨b1, b2, b3, b4⟩ | ⟨b1, b2, b3⟩
        · rw [b1, gd_t (by decide), if_pos rfl, gd_t (by omega), if_neg (by omega), bad_e, bnd_s, gd_t (by decide), b4]
        · rw [gd_t (by omega), if_neg b1, bad_e, bnd_s, gd_t (by decide), b3]
    · have hpl : ∀ i, i < k → gA s1 56 i = gA s2 3 (6 + 2 * i) ∧ rng (gA s2 3 (6 + 2 * i)) := fun i hi => by
        have := hhe i (by omega)
        rw [a5.2, a6.2]; exact ⟨this.1, by omega⟩
      have w1 := W_hp (F := F) (σ := s1) (v := v) (n := k) (by omega) (by omega) (by rw [a5.f (by omega), c1, ek]) (fun i hi => by rw [(hpl i hi).1]; exact (hpl i hi).2) k F 0 (by omega) (by omega)
      have w2 := M_h54 (F := F) (σ := s2) (n := k) (by omega) (by rw [k2]; omega) (fun i hi => (hpl i hi).2) k F 0 (by omega) (by omega)
      have wc : fdN (fun i => gA s1 56 i) v k 0 = fdN (fun i => gA s2 3 (6 + 2 * i)) v k 0 := fdN_c k 0 (fun j _ h2 => (hpl j (by omega)).1)
      rw [k2, ← wc] at w2
      have em2 : f_M_readHearer F σ2 = l_M_readHearer_54 F F s2 (k : Nat) 0 := by
        rw [em none, k3, gd_t (by decide), if_pos rfl, k2, gd_t (by omega), if_pos v1]
      by_cases cf : fdN (fun i => gA s1 56 i) v k 0 = -1
      · rw [if_pos cf] at w1 w2
        have hnew : ∀ i, i < k → gA σ2 3 (6 + 2 * i) ≠ v := by
          intro i hi e
          have hall : ∀ d j, fdN (fun i => gA s1 56 i) v d j = -1 → ∀ i, j ≤ i → i < j + d → gA s1 56 i ≠ v := by
            intro d
            induction d with
            | zero => intro j _ i h1 h2; omega
            | succ d ih =>
              intro j hj i h1 h2
              unfold fdN at hj
              by_cases z : gA s1 56 j = v
              · rw [if_pos z] at hj; omega
              · rw [if_neg z] at hj
                by_cases z2 : i = j
                · rw [z2]; exact z
                · exact ih (j + 1) hj i (by omega) (by omega)
          refine hall k 0 cf i (by omega) (by omega) ?_
          rw [(hpl i hi).1, a6.2]; exact e
        -- the place is told; what comes next
        have m54 : l_M_readHearer_54 F 1 s2 (k : Nat) (k : Nat) = bnd (f_M_next F (sA (sA s2 3 (6 + 2 * k) v) 3 (7 + 2 * k) 1)) fun r6 σ7 => bnd (f_M_isWord F σ7 1734437230) fun r8 σ9 => gd (rng r8) (if r8 = 0 then gd (inb 1 82) (gd (inb 1 82) (bs (sA σ9 3 (Int.toNat 1) ((gA σ9 3 (Int.toNat 1)) + 1)) fun σ10 => some (1, σ10))) else bnd (f_M_next F σ9) fun r11 σ12 => bnd (f_M_takes F σ12 1 999) fun r13 σ14 => gd (rng r13) (if r13 = 0 then some (0, σ14) else gd (inb ((6 + (2 * (k : Int))) + 1) 82) (bs (sA σ14 3 (Int.toNat ((6 + (2 * (k : Int))) + 1)) (gF σ14 17)) fun σ15 => gd (inb 1 82) (gd (inb 1 82) (bs (sA σ15 3 (Int.toNat 1) ((gA σ15 3 (Int.toNat 1)) + 1)) fun σ16 => some (1, σ16)))))) := by
          show b_M_readHearer_54 F _ s2 _ _ = _
          unfold b_M_readHearer_54
          rw [gd_t (by omega), if_pos (by omega), gd_t (by omega), bs_s, k2, gd_t (by omega), bs_s, show Int.toNat (6 + 2 * (k : Int)) = 6 + 2 * k by omega, show Int.toNat (6 + 2 * (k : Int) + 1) = 7 + 2 * k by omega]
        have ec2 : f_Reader_readHearer_scene1 F σ1 = bnd (f_Reader_advance F s1) fun r8 σ9 => bnd (f_Reader_isWord F σ9 1734437230) fun r10 σ11 => gd (rng r10) (if r10 = 0 then bnd (f_Scene_addHearer_scene1 F σ11 v 1) fun r12 σ13 => some (1, σ13) else bnd (f_Reader_advance F σ11) fun r14 σ15 => bnd (f_Reader_isNumber F σ15 1 999) fun r16 σ17 => gd (rng r16) (if r16 = 0 then some (0, σ17) else bv (gF σ17 200) fun x3_18 => bnd (f_Reader_advance F σ17) fun r19 σ20 => bnd (f_Scene_addHearer_scene1 F σ20 v x3_18) fun r21 σ22 => some (1, σ22))) := by
          rw [ec none, k4, bnd_s, gd_t (by decide), if_neg (by decide), k1, show f_Scene_hasPlace_scene1 F s1 v = some (0, s1) from w1, bnd_s, gd_t (by decide), if_pos rfl, bv_s, k1]
        have addH : ∀ (t : St) (g : Int), gF t 5123 = (k : Nat) → f_Scene_addHearer_scene1 F t v g = some (0, sF (sA (sA t 56 k v) 60 k g) 5123 (((k + 1 : Nat)) : Int)) := fun t g ht => by
          unfold f_Scene_addHearer_scene1
          have q1 : gF (sA t 56 k v) 5123 = (k : Nat) := ht
          have q2 : gF (sA (sA t 56 k v) 60 k g) 5123 = (k : Nat) := ht
          rw [ht, gd_t (by omega), if_neg (by omega), gd_t (by omega), bs_s, Int.toNat_natCast, q1, gd_t (by omega), bs_s, Int.toNat_natCast, q2, bs_s]; rfl
        obtain ⟨u1, u2, b1, b2, b3, b4, b5, b6⟩ := ADVp (σ1 := s1) (σ2 := sA (sA s2 3 (6 + 2 * k) v) 3 (7 + 2 * k) 1) hF hL hb0 (TPd_c k5 rfl rfl rfl (fun _ => rfl) rfl rfl rfl rfl (fun i => by rw [gA_sA, if_neg (by omega), gA_sA, if_neg (by omega)]))
        have q2 : FQd σ2 u2 := ((a6.Q.sA (Or.inl rfl)).sA (Or.inl rfl)).tr b6.Q
        have p1 : FPd σ1 u1 := a5.P.tr b5.P
        have m3 : ∀ i, gA u2 3 i = if i = 7 + 2 * k then 1 else if i = 6 + 2 * k then v else gA σ2 3 i := fun i => by
          rw [b6.2, gA_sA, gA_sA, a6.2]
          by_cases z : i = 7 + 2 * k
          · rw [if_pos ⟨rfl, z⟩, if_pos z]
          · rw [if_neg (fun y => z y.2), if_neg z]
            by_cases z2 : i = 6 + 2 * k
            · rw [if_pos ⟨rfl, z2⟩, if_pos z2]
            · rw [if_neg (fun y => z2 y.2), if_neg z2]
        have m4 : ∀ i, gA u2 4 i = gA σ2 4 i := fun i => by rw [b6.2, gA_sA, if_neg (by omega), gA_sA, if_neg (by omega), a6.2]
        have m14 : gF u2 14 = gF σ2 14 := by
          rw [b6.f (by omega)]
          show gF s2 14 = _
          rw [a6.f (by omega)]
        have m19 : gF u2 19 = gF σ2 19 := by
          rw [b6.f (by omega)]
          show gF s2 19 = _
          rw [a6.f (by omega)]
        have cF : ∀ q, q < 196 ∨ 200 < q → gF u1 q = gF σ1 q := fun q hq => by rw [b5.f hq, a5.f hq]
        have cA : ∀ a i, gA u1 a i = gA σ1 a i := fun a i => by rw [b5.2, a5.2]
        have cu : gF u1 5123 = (k : Nat) := by rw [cF _ (by omega), c1, ek]
        obtain ⟨q, g1, g2, -, g4⟩ := T_word (F := F) b3 b4 (w := 1734437230) (by decide)
        cases q with
        | false =>
          refine ⟨1, sF (sA (sA u1 56 k v) 60 k 1) 5123 (((k + 1 : Nat)) : Int), sA u2 3 1 (((k + 1 : Nat)) : Int), ?_, ?_, ((p1.sA rfl).sA rfl).sF rfl, q2.sA (Or.inl rfl), Or.inl ⟨rfl, TBt_c b3 rfl (fun i => by rw [gA_sF, gA_sA, if_neg (by omega), gA_sA, if_neg (by omega)]) rfl rfl (fun i => by rw [gA_sA, if_neg (by omega)]), TK_c b4 (fun q h1 h2 => by rw [gF_sF, if_neg (by omega)]; rfl) (fun q hq => rfl), ?_, ?_, ?_, ?_⟩⟩
          · rw [ec2, b1, bnd_s, g1, bnd_s, gd_t (by decide), if_pos (show bi false = 0 from rfl), addH u1 1 cu, bnd_s]
          · rw [em2, show l_M_readHearer_54 F F s2 (k : Nat) 0 = l_M_readHearer_54 F 1 s2 (k : Nat) (k : Nat) from w2, m54, b2, bnd_s, g2, bnd_s, gd_t (by decide), if_pos (show bi false = 0 from rfl), gd_t (by decide), gd_t (by decide), bs_s, show Int.toNat 1 = 1 from rfl, m3, if_neg (by omega), if_neg (by omega), ek]; rfl
          · refine DRd_hear hD (k := k) (p := v) (g := 1) ek (by omega) ⟨v0, v1⟩ (by omega) hnew (fun q hq => ?_) gF_eq (fun a h1 h2 h3 h4 i => ?_) (fun i => ?_) (fun i => ?_) (fun i h1 h2 h3 => ?_) ?_ ?_ ?_ (fun i => ?_) ?_
            · rw [gF_sF, if_neg (by omega)]; exact cF q (by omega)
            · rw [gA_sF, gA_sA, if_neg (fun z => h4 z.1), gA_sA, if_neg (fun z => h3 z.1), cA]
            · rw [gA_sF, gA_sA, if_neg (by omega), gA_sA, cA]
              by_cases z : i = k
              · rw [if_pos ⟨rfl, z⟩, if_pos z]
              · rw [if_neg (fun y => z y.2), if_neg z]
            · rw [gA_sF, gA_sA]
              by_cases z : i = k
              · rw [if_pos ⟨rfl, z⟩, if_pos z]
              · rw [if_neg (fun y => z y.2), if_neg z, gA_sA, if_neg (by omega), cA]
            · rw [gA_sA, if_neg (fun z => h1 z.2), m3, if_neg h3, if_neg h2]
            · rw [gA_sA, if_pos ⟨rfl, rfl⟩]
            · rw [gA_sA, if_neg (by omega), m3, if_neg (by omega), if_pos rfl]
            · rw [gA_sA, if_neg (by omega), m3, if_pos rfl]
            · rw [gA_sA, if_neg (by omega), m4]
            · exact m19
          · show ((k + 1 : Nat) : Int) + gF u1 5126 + gF u1 2048 + gF u1 2051 + gF u1 202 = gF σ1 5123 + gF σ1 5126 + gF σ1 2048 + gF σ1 2051 + gF σ1 202 + 1
            rw [cF 5126 (by omega), cF 2048 (by omega), cF 2051 (by omega), cF 202 (by omega), c1, ek]; omega
          · exact cF 193 (by omega)
          · exact m14
        | true =>
          obtain ⟨x1, x2, d1, d2, d3, d4, d5, d6⟩ := ADVp (σ1 := u1) (σ2 := u2) hF hL hb0 (g4 rfl)
          have ec3 : ∀ X : Option (Int × St), f_Reader_readHearer_scene1 F σ1 = bnd (f_Reader_isNumber F x1 1 999) fun r16 σ17 => gd (rng r16) (if r16 = 0 then some (0, σ17) else bv (gF σ17 200) fun x3_18 => bnd (f_Reader_advance F σ17) fun r19 σ20 => bnd (f_Scene_addHearer_scene1 F σ20 v x3_18) fun r21 σ22 => some (1, σ22)) := fun _ => by
            rw [ec2, b1, bnd_s, g1, bnd_s, gd_t (by decide), if_neg (by decide), d1, bnd_s]
          have em3 : ∀ X : Option (Int × St), f_M_readHearer F σ2 = bnd (f_M_takes F x2 1 999) fun r13 σ14 => gd (rng r13) (if r13 = 0 then some (0, σ14) else gd (inb ((6 + (2 * (k : Int))) + 1) 82) (bs (sA σ14 3 (Int.toNat ((6 + (2 * (k : Int))) + 1)) (gF σ14 17)) fun σ15 => gd (inb 1 82) (gd (inb 1 82) (bs (sA σ15 3 (Int.toNat 1) ((gA σ15 3 (Int.toNat 1)) + 1)) fun σ16 => some (1, σ16))))) := fun _ => by
            rw [em2, show l_M_readHearer_54 F F s2 (k : Nat) 0 = l_M_readHearer_54 F 1 s2 (k : Nat) (k : Nat) from w2, m54, b2, bnd_s, g2, bnd_s, gd_t (by decide), if_neg (by decide), d2, bnd_s]
          rcases T_num (F := F) d3 d4 (lo := 1) (hi := 999) (by omega) (by omega) with ⟨t1, t2, r1, r2, r3, r4, r5⟩ | ⟨g, g0, g9, -, -, r1, r2, r2', r3, r4, r5⟩
          · refine PO_fail (s1 := t1) (s2 := t2) ?_ ?_ r3 ((p1.tr d5.P).tr r4) ((q2.tr d6.Q).tr r5)
            · rw [ec3 none, r1, bnd_s, gd_t (by decide), if_pos rfl]
            · rw [em3 none, r2, bnd_s, gd_t (by decide), if_pos rfl]
          · obtain ⟨y1, y2, e1, e2, e3, e4, e5, e6⟩ := ADVp (σ1 := x1) (σ2 := sF x2 17 g) hF hL hb0 (TPd_c r5 rfl rfl rfl (fun _ => rfl) rfl rfl rfl rfl (fun _ => rfl))
            have e17 : gF y2 17 = g := by rw [e6.f (by omega), gF_eq]
            have y3 : ∀ i, gA y2 3 i = gA u2 3 i := fun i => by
              rw [e6.2]
              show gA x2 3 i = _
              rw [d6.2]
            have y4 : ∀ i, gA y2 4 i = gA u2 4 i := fun i => by
              rw [e6.2]
              show gA x2 4 i = _
              rw [d6.2]
            have y19 : gF y2 19 = gF u2 19 := by rw [e6.f (by omega), gF_sF, if_neg (by omega), d6.f (by omega)]
            have zF : ∀ q, q < 196 ∨ 200 < q → gF y1 q = gF σ1 q := fun q hq => by rw [e5.f hq, d5.f hq, cF q hq]
            have zA : ∀ a i, gA y1 a i = gA σ1 a i := fun a i => by rw [e5.2, d5.2, cA]
            have zu : gF y1 5123 = (k : Nat) := by rw [zF _ (by omega), c1, ek]
            refine ⟨1, sF (sA (sA y1 56 k v) 60 k g) 5123 (((k + 1 : Nat)) : Int), sA (sA y2 3 (7 + 2 * k) g) 3 1 (((k + 1 : Nat)) : Int), ?_, ?_, ((((p1.tr d5.P).tr e5.P).sA rfl).sA rfl).sF rfl, ((((q2.tr d6.Q).sF rfl).tr e6.Q).sA (Or.inl rfl)).sA (Or.inl rfl), Or.inl ⟨rfl, TBt_c e3 rfl (fun i => by rw [gA_sF, gA_sA, if_neg (by omega), gA_sA, if_neg (by omega)]) rfl rfl (fun i => by rw [gA_sA, if_neg (by omega), gA_sA, if_neg (by omega)]), TK_c e4 (fun q h1 h2 => by rw [gF_sF, if_neg (by omega)]; rfl) (fun q hq => rfl), ?_, ?_, ?_, ?_⟩⟩
            · rw [ec3 none, r3, bnd_s, gd_t (by decide), if_neg (by decide), bv_s, e1, bnd_s, r1, addH y1 g zu, bnd_s]
            · rw [em3 none, r4, e2, bnd_s, bnd_s, gd_t (by decide), if_neg (by decide), gd_t (by omega), bs_s, gd_t (by decide), gd_t (by decide), bs_s, e17, show Int.toNat (6 + 2 * (k : Int) + 1) = 7 + 2 * k by omega, show Int.toNat 1 = 1 from rfl, gA_sA, if_neg (by omega), y3, m3, if_neg (by omega), if_neg (by omega), ek]; rfl
            · refine DRd_hear hD (k := k) (p := v) (g := g) ek (by omega) ⟨v0, v1⟩ (by omega) hnew (fun q hq => ?_) gF_eq (fun a h1 h2 h3 h4 i => ?_) (fun i => ?_) (fun i => ?_) (fun i h1 h2 h3 => ?_) ?_ ?_ ?_ (fun i => ?_) ?_
              · rw [gF_sF, if_neg (by omega)]; exact zF q (by omega)
              · rw [gA_sF, gA_sA, if_neg (fun z => h4 z.1), gA_sA, if_neg (fun z => h3 z.1), zA]
              · rw [gA_sF, gA_sA, if_neg (by omega), gA_sA, zA]
                by_cases z : i = k
                · rw [if_pos ⟨rfl, z⟩, if_pos z]
                · rw [if_neg (fun y => z y.2), if_neg z]
              · rw [gA_sF, gA_sA]
                by_cases z : i = k
                · rw [if_pos ⟨rfl, z⟩, if_pos z]
                · rw [if_neg (fun y => z y.2), if_neg z, gA_sA, if_neg (by omega), zA]
              · rw [gA_sA, if_neg (fun z => h1 z.2), gA_sA, if_neg (fun z => h3 z.2), y3, m3, if_neg h3, if_neg h2]
              · rw [gA_sA, if_pos ⟨rfl, rfl⟩]
              · rw [gA_sA, if_neg (by omega), gA_sA, if_neg (by omega), y3, m3, if_neg (by omega), if_pos rfl]
              · rw [gA_sA, if_neg (by omega), gA_sA, if_pos ⟨rfl, rfl⟩]
              · rw [gA_sA, if_neg (by omega), gA_sA, if_neg (by omega), y4, m4]
              · show gF y2 19 = _
                rw [y19, m19]
            · show ((k + 1 : Nat) : Int) + gF y1 5126 + gF y1 2048 + gF y1 2051 + gF y1 202 = gF σ1 5123 + gF σ1 5126 + gF σ1 2048 + gF σ1 2051 + gF σ1 202 + 1
              rw [zF 5126 (by omega), zF 2048 (by omega), zF 2051 (by omega), zF 202 (by omega), c1, ek]; omega
            · exact zF 193 (by omega)
            · show gF y2 14 = _
              rw [e6.f (by omega), gF_sF, if_neg (by omega), d6.f (by omega), m14]
      · rw [if_neg cf] at w1 w2
        refine PO_fail ?_ ?_ (FTd_of a4.1 3) (a5.P.tr (FPd.rf.sF rfl |>.sF rfl)) (a6.Q.tr (FQd.rf.sF rfl |>.sF rfl))
        · rw [ec none, k4, bnd_s, gd_t (by decide), if_neg (by decide), k1, show f_Scene_hasPlace_scene1 F s1 v = some (1, s1) from w1, bnd_s, gd_t (by decide), if_neg (by decide), blame_e, bnd_s, gd_t (by decide)]
        · rw [em2]; exact w2
end
