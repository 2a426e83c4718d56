/-! PURE PART: lines, both: sender -/
section
variable {F : Nat} {b : Nat → Int} {L : Nat} {σ1 σ2 : St}
/-- a sender's numbers are told, it isn't counted yet -/
def PEs (σ1 σ2 u1 u2 : St) (k : Nat) (w d a v : Int) : Prop := (∀ q, q < 196 ∨ 200 < q → gF u1 q = gF σ1 q) ∧ (∀ x i, gA u1 x i = gA (sA σ1 4 k w) x i) ∧ (∀ i, gA u2 3 i = if i = 26 + 4 * k then d else if i = 27 + 4 * k then a else if i = 28 + 4 * k then v else if i = 29 + 4 * k then (k : Int) else gA σ2 3 i) ∧ (∀ i, gA u2 4 i = if i = 10 + k then w else gA σ2 4 i) ∧ gF u2 19 = gF σ2 19 ∧ gF u2 14 = gF σ2 14
theorem PEs_t {u1 u2 s1 s2 : St} {k : Nat} {w d a v : Int} (h : PEs σ1 σ2 u1 u2 k w d a v) (h1 : TF1 u1 s1) (h2 : TF2 u2 s2) : PEs σ1 σ2 s1 s2 k w d a v := ⟨fun q hq => by rw [h1.f hq]; exact h.1 q hq, fun x i => by rw [h1.2]; exact h.2.1 x i, fun i => by rw [h2.2]; exact h.2.2.1 i, fun i => by rw [h2.2]; exact h.2.2.2.1 i, by rw [h2.f (by omega)]; exact h.2.2.2.2.1, by rw [h2.f (by omega)]; exact h.2.2.2.2.2⟩
theorem PEs_D {u1 u2 : St} {k : Nat} {w d a v : Int} (hD : DRd σ1 σ2) (hk : gA σ2 3 2 = (k : Nat)) (hk6 : k < 6) (h : PEs σ1 σ2 u1 u2 k w d a v) : DRd u1 u2 := by
  obtain ⟨h1, h2, h3, h4, h5, -⟩ := h
  have c1 := hD.2.1
  have c3 := hD.2.2.2.1
  have c4 := hD.2.2.2.2.1
  have m : ∀ i, i ≠ 26 + 4 * k → i ≠ 27 + 4 * k → i ≠ 28 + 4 * k → i ≠ 29 + 4 * k → gA u2 3 i = gA σ2 3 i := fun i g1 g2 g3 g4 => by rw [h3, if_neg g1, if_neg g2, if_neg g3, if_neg g4]
  refine DRd_past hD (fun q hq => h1 q (by omega)) (fun x _ g2 g4 g5 i => by rw [h2, gA_sA, if_neg (fun z => g4 z.1)]) (fun i hi => by rw [h2, gA_sA, if_neg (by omega)]) (fun i hi => by rw [h2, gA_sA, if_neg (by omega)]) (fun i hi => m i (by omega) (by omega) (by omega) (by omega)) (fun i hi => ⟨m _ (by omega) (by omega) (by omega) (by omega), m _ (by omega) (by omega) (by omega) (by omega)⟩) (fun i hi => ⟨m _ (by omega) (by omega) (by omega) (by omega), m _ (by omega) (by omega) (by omega) (by omega), m _ (by omega) (by omega) (by omega) (by omega), m _ (by omega) (by omega) (by omega) (by omega)⟩) (fun i hi => ⟨m _ (by omega) (by omega) (by omega) (by omega), m _ (by omega) (by omega) (by omega) (by omega)⟩) (fun i hi => ⟨m _ (by omega) (by omega) (by omega) (by omega), m _ (by omega) (by omega) (by omega) (by omega), m _ (by omega) (by omega) (by omega) (by omega)⟩) (fun i hi => by rw [h4, if_neg (by omega)]) (fun i hi => by rw [h4, if_neg (by omega)]) h5
def cLk (F : Nat) (u1 : St) (d a v : Int) : Option (Int × St) := bnd (f_Reader_isWord F u1 1818848101) fun r3 σ4 => gd (rng r3) (if r3 = 0 then bnd (f_Scene_addSender_scene1 F σ4 d a v (-1)) fun r5 σ6 => some (1, σ6) else bnd (f_Reader_advance F σ4) fun r7 σ8 => bnd (f_Reader_namedOne_senderName F σ8 (gF σ8 5126)) fun r9 σ10 => gd (rng r9 ∧ rng (-1)) (if r9 = (-1) then some (0, σ10) else bnd (f_Reader_advance F σ10) fun r11 σ12 => bnd (f_Scene_addSender_scene1 F σ12 d a v r9) fun r13 σ14 => some (1, σ14)))
def mLk (F : Nat) (u2 : St) (x1_1 x2_6 : Int) : Option (Int × St) := bnd (f_M_isWord F u2 1818848101) fun r17 σ18 => gd (rng r17) (if r17 = 0 then gd (inb 2 82) (gd (inb 2 82) (bs (sA σ18 3 (Int.toNat 2) ((gA σ18 3 (Int.toNat 2)) + 1)) fun σ19 => some (1, σ19))) else bnd (f_M_next F σ18) fun r20 σ21 => bnd (f_M_isName F σ21) fun r22 σ23 => gd (rng r22) (if r22 = 0 then bnd (f_M_bad F σ23 1) fun r33 σ34 => gd (isb r33) (some (r33, σ34)) else bnd (f_M_find F σ23 10 x1_1) fun r24 σ25 => gd (rng r24) (if (0 : Int) ≤ r24 then gd (inb ((26 + (4 * r24)) + 3) 82) (bv (gA σ25 3 (Int.toNat ((26 + (4 * r24)) + 3))) fun t26 => gd (inb (x2_6 + 3) 82) (bs (sA σ25 3 (Int.toNat (x2_6 + 3)) t26) fun σ27 => bnd (f_M_next F σ27) fun r28 σ29 => gd (inb 2 82) (gd (inb 2 82) (bs (sA σ29 3 (Int.toNat 2) ((gA σ29 3 (Int.toNat 2)) + 1)) fun σ30 => some (1, σ30))))) else bnd (f_M_bad F σ25 3) fun r31 σ32 => gd (isb r31) (some (r31, σ32)))))
theorem addSe {t : St} {k : Nat} {d a v l : Int} (hk : k < 6) (ht : gF t 5126 = (k : Nat)) (hl : l = -1 ∨ (0 ≤ l ∧ l < (k : Int))) : f_Scene_addSender_scene1 F t d a v l = some (0, sF (sA (sA (sA (sA t 64 k d) 68 k a) 72 k v) 76 k (if l = -1 then (k : Int) else gA t 76 l.toNat)) 5126 (((k + 1 : Nat)) : Int)) := by
  unfold f_Scene_addSender_scene1
  have g1 : gF (sA t 64 k d) 5126 = (k : Nat) := ht
  have g2 : gF (sA (sA t 64 k d) 68 k a) 5126 = (k : Nat) := ht
  have g3 : gF (sA (sA (sA t 64 k d) 68 k a) 72 k v) 5126 = (k : Nat) := ht
  have g4 : ∀ x, gF (sA (sA (sA (sA t 64 k d) 68 k a) 72 k v) 76 k x) 5126 = (k : Nat) := fun _ => ht
  rw [ht, gd_t (by omega), if_neg (by omega), gd_t (by omega), bs_s, Int.toNat_natCast, g1, gd_t (by omega), bs_s, Int.toNat_natCast, g2, gd_t (by omega), bs_s, Int.toNat_natCast, gd_t (by omega)]
  rcases hl with h | h
  · rw [if_pos (by omega), g3, gd_t (by omega), bs_s, Int.toNat_natCast, g4, bs_s, if_pos h]; rfl
  · rw [if_neg (by omega), g3, gd_t (by omega), if_pos h.2, gd_t (by omega), gd_t (by omega), bs_s, Int.toNat_natCast, g4, bs_s, if_neg (by omega)]
    rw [gA_sA, if_neg (by omega), gA_sA, if_neg (by omega), gA_sA, if_neg (by omega)]; rfl
theorem P_like (hF : 2000 ≤ F) (hL : L ≤ 940) (hb0 : ∀ i, i < 940 → 0 ≤ b i ∧ b i ≤ 255) {u1 u2 : St} (hR : RRes u2) (hT : TBt L b u1 u2) (hK : TK L u1 u2) (hD : DRd σ1 σ2) {k : Nat} {w d a v : Int} (hk : gA σ2 3 2 = (k : Nat)) (hk6 : k < 6) (hP : PEs σ1 σ2 u1 u2 k w d a v) (hd : 0 ≤ d ∧ d < gA σ2 3 0) (ha : 0 ≤ a ∧ a ≤ 999) (hv : 0 ≤ v ∧ v < gA σ2 3 0) (hw : rng64 w) : POd L b u1 u2 (cLk F u1 d a v) (mLk F u2 (k : Nat) (26 + (4 * (k : Int)))) := by
  have hDu := PEs_D hD hk hk6 hP
  have c2 := hD.2.2.1.1
  have s7 := hD.2.2.2.2.2.2.2.2.1
  -- the draft when it is counted
  have last : ∀ (t1 t2 : St) (l : Int), PEs σ1 σ2 t1 t2 k w d a v → 0 ≤ l ∧ l ≤ (k : Int) → ∀ f2 : St, (∀ i, gA f2 3 i = if i = 2 then ((k + 1 : Nat) : Int) else if i = 29 + 4 * k then l else gA t2 3 i) → (∀ i, gA f2 4 i = gA t2 4 i) → gF f2 19 = gF t2 19 → DRd (sF (sA (sA (sA (sA t1 64 k d) 68 k a) 72 k v) 76 k l) 5126 (((k + 1 : Nat)) : Int)) f2 := by
    intro t1 t2 l ⟨h1, h2, h3, h4, h5, _⟩ hl f2 m3 m4 m19
    refine DRd_send hD (k := k) (d := d) (a := a) (v := v) (l := l) (w := w) hk hk6 hd ha hv hl hw (fun q hq => ?_) gF_eq (fun x g1 g2 g4 g64 g68 g72 g76 i => ?_) (fun i => ?_) (fun i => ?_) (fun i => ?_) (fun i => ?_) (fun i => ?_) (fun i g1 g2 g3 g4 g5 => ?_) ?_ ?_ ?_ ?_ ?_ (fun i hi => ?_) ?_ ?_
    · rw [gF_sF, if_neg (by omega)]; exact h1 q (by omega)
    · rw [gA_sF, gA_sA, if_neg (fun z => g76 z.1), gA_sA, if_neg (fun z => g72 z.1), gA_sA, if_neg (fun z => g68 z.1), gA_sA, if_neg (fun z => g64 z.1), h2, gA_sA, if_neg (fun z => g4 z.1)]
    · rw [gA_sF, gA_sA, if_neg (by omega), gA_sA, if_neg (by omega), gA_sA, if_neg (by omega), gA_sA, if_neg (by omega), h2, gA_sA]
      by_cases z : i = k
      · rw [if_pos ⟨rfl, z⟩, if_pos z]
      · rw [if_neg (fun y => z y.2), if_neg z]
    · rw [gA_sF, gA_sA, if_neg (by omega), gA_sA, if_neg (by omega), gA_sA, if_neg (by omega), gA_sA, h2, gA_sA, if_neg (show ¬ (64 = 4 ∧ i = k) by omega)]
      by_cases z : i = k
      · rw [if_pos ⟨rfl, z⟩, if_pos z]
      · rw [if_neg (fun y => z y.2), if_neg z]
    · rw [gA_sF, gA_sA, if_neg (by omega), gA_sA, if_neg (by omega), gA_sA]
      by_cases z : i = k
      · rw [if_pos ⟨rfl, z⟩, if_pos z]
      · rw [if_neg (fun y => z y.2), if_neg z, gA_sA, if_neg (by omega), h2, gA_sA, if_neg (by omega)]
    · rw [gA_sF, gA_sA, if_neg (by omega), gA_sA]
      by_cases z : i = k
      · rw [if_pos ⟨rfl, z⟩, if_pos z]
      · rw [if_neg (fun y => z y.2), if_neg z, gA_sA, if_neg (by omega), gA_sA, if_neg (by omega), h2, gA_sA, if_neg (by omega)]
    · rw [gA_sF, gA_sA]
      by_cases z : i = k
      · rw [if_pos ⟨rfl, z⟩, if_pos z]
      · rw [if_neg (fun y => z y.2), if_neg z, gA_sA, if_neg (by omega), gA_sA, if_neg (by omega), gA_sA, if_neg (by omega), h2, gA_sA, if_neg (by omega)]
    · rw [m3, if_neg g1, if_neg g5, h3, if_neg g2, if_neg g3, if_neg g4, if_neg g5]
    · rw [m3, if_pos rfl]
    · rw [m3, if_neg (by omega), if_neg (by omega), h3, if_pos rfl]
    · rw [m3, if_neg (by omega), if_neg (by omega), h3, if_neg (by omega), if_pos rfl]
    · rw [m3, if_neg (by omega), if_neg (by omega), h3, if_neg (by omega), if_neg (by omega), if_pos rfl]
    · rw [m3, if_neg (by omega), if_pos rfl]
    · rw [m4, h4, if_neg hi]
    · rw [m4, h4, if_pos rfl]
    · rw [m19, h5]
  have u26 : gF u1 5126 = (k : Nat) := by rw [hP.1 _ (by omega), c2, hk]
  obtain ⟨q, g1, g2, -, g4⟩ := T_word (F := F) hT hK (w := 1818848101) (by decide)
  cases q with
  | false =>
    have e2 : gA u2 3 2 = (k : Nat) := by rw [hP.2.2.1, if_neg (by omega), if_neg (by omega), if_neg (by omega), if_neg (by omega), hk]
    refine ⟨1, sF (sA (sA (sA (sA u1 64 k d) 68 k a) 72 k v) 76 k (k : Int)) 5126 (((k + 1 : Nat)) : Int), sA u2 3 2 (((k + 1 : Nat)) : Int), ?_, ?_, ((((FPd.rf.sA rfl).sA rfl).sA rfl).sA rfl).sF rfl, FQd.rf.sA (Or.inl rfl), Or.inl ⟨rfl, TBt_c hT rfl (fun i => by rw [gA_sF, gA_sA, if_neg (by omega), gA_sA, if_neg (by omega), gA_sA, if_neg (by omega), gA_sA, if_neg (by omega)]) rfl rfl (fun i => by rw [gA_sA, if_neg (by omega)]), TK_c hK (fun q h1 h2 => by rw [gF_sF, if_neg (by omega)]; rfl) (fun _ _ => rfl), last u1 u2 k hP (by omega) _ (fun i => ?_) (fun i => by rw [gA_sA, if_neg (by omega)]) rfl, ?_, ?_, ?_⟩⟩
    · unfold cLk
      rw [g1, bnd_s, gd_t (by decide), if_pos (show bi false = 0 from rfl), addSe hk6 u26 (Or.inl rfl), bnd_s, if_pos rfl]
    · unfold mLk
      rw [g2, bnd_s, gd_t (by decide), if_pos (show bi false = 0 from rfl), gd_t (by decide), gd_t (by decide), bs_s, show Int.toNat 2 = 2 from rfl, e2]; rfl
    · rw [gA_sA]
      by_cases z : i = 2
      · rw [if_pos ⟨rfl, z⟩, if_pos z]
      · rw [if_neg (fun y => z y.2), if_neg z]
        by_cases z2 : i = 29 + 4 * k
        · rw [if_pos z2, hP.2.2.1, if_neg (by omega), if_neg (by omega), if_neg (by omega), if_pos z2]
        · rw [if_neg z2]
    · show gF u1 5123 + ((k + 1 : Nat) : Int) + gF u1 2048 + gF u1 2051 + gF u1 202 = gF u1 5123 + gF u1 5126 + gF u1 2048 + gF u1 2051 + gF u1 202 + 1
      rw [u26]; omega
    · rw [gF_sF, if_neg (by omega)]; rfl
    · rfl
  | true =>
    obtain ⟨x1, x2, b1, b2, b3, b4, b5, b6⟩ := ADVp (σ1 := u1) (σ2 := u2) hF hL hb0 (g4 rfl)
    have hPx := PEs_t hP b5 b6
    have hDx := PEs_D hD hk hk6 hPx
    have e2 : gA x2 3 2 = (k : Nat) := by rw [hPx.2.2.1, if_neg (by omega), if_neg (by omega), if_neg (by omega), if_neg (by omega), hk]
    have e1 : gF x1 5126 = gA x2 3 2 := hDx.2.2.1.1
    have ec : ∀ X : Option (Int × St), cLk F u1 d a v = bnd (f_Reader_namedOne_senderName F x1 (gA x2 3 2)) fun r9 σ10 => gd (rng r9 ∧ rng (-1)) (if r9 = (-1) then some (0, σ10) else bnd (f_Reader_advance F σ10) fun r11 σ12 => bnd (f_Scene_addSender_scene1 F σ12 d a v r9) fun r13 σ14 => some (1, σ14)) := fun _ => by
      unfold cLk
      rw [g1, bnd_s, gd_t (by decide), if_neg (by decide), b1, bnd_s, e1]
    obtain ⟨K, em, hKK⟩ : ∃ K : Int → St → Option (Int × St), mLk F u2 (k : Nat) (26 + (4 * (k : Int))) = (bnd (f_M_isName F x2) fun r σ => gd (rng r) (if r = 0 then bnd (f_M_bad F σ 1) fun r5 σ6 => gd (isb r5) (some (r5, σ6)) else bnd (f_M_find F σ 10 (gA x2 3 2)) fun r σ => gd (rng r) (if (0 : Int) ≤ r then K r σ else bnd (f_M_bad F σ 3) fun r5 σ6 => gd (isb r5) (some (r5, σ6))))) ∧ K = fun r24 σ25 => gd (inb ((26 + (4 * r24)) + 3) 82) (bv (gA σ25 3 (Int.toNat ((26 + (4 * r24)) + 3))) fun t26 => gd (inb ((26 + (4 * (k : Int))) + 3) 82) (bs (sA σ25 3 (Int.toNat ((26 + (4 * (k : Int))) + 3)) t26) fun σ27 => bnd (f_M_next F σ27) fun r28 σ29 => gd (inb 2 82) (gd (inb 2 82) (bs (sA σ29 3 (Int.toNat 2) ((gA σ29 3 (Int.toNat 2)) + 1)) fun σ30 => some (1, σ30))))) := by
      refine ⟨_, ?_, rfl⟩
      unfold mLk
      rw [g2, bnd_s, gd_t (by decide), if_neg (by decide), b2, bnd_s, e2]
    rcases T_ones (F := F) (by omega) (RRes_q hR b6.Q) b3 b4 hDx with ⟨t1, t2, k1, k2, k3, k4, k5⟩ | ⟨o, k1, k2, k3, k4, k5⟩
    · refine PO_fail (s1 := t1) (s2 := t2) ?_ ?_ k3 (b5.P.tr k4) (b6.Q.tr k5)
      · rw [ec none, k1, bnd_s, gd_t (by decide), if_pos rfl]
      · rw [em]; exact k2 K
    · rw [e2] at k4
      obtain ⟨j, rfl⟩ := Int.eq_ofNat_of_zero_le k3
      have hj := s7 j (by omega)
      have fl : gA x2 3 (29 + 4 * j) = gA σ2 3 (29 + 4 * j) := by rw [hPx.2.2.1, if_neg (by omega), if_neg (by omega), if_neg (by omega), if_neg (by omega)]
      obtain ⟨y1, y2, d1, d2, d3, d4, d5, d6⟩ := ADVp (σ1 := x1) (σ2 := sA x2 3 (29 + 4 * k) (gA σ2 3 (29 + 4 * j))) hF hL hb0 (TPd_c k5 rfl rfl rfl (fun _ => rfl) rfl rfl rfl rfl (fun i => by rw [gA_sA, if_neg (by omega)]))
      have y26 : gF y1 5126 = (k : Nat) := by rw [d5.f (by omega), hPx.1 _ (by omega), c2, hk]
      have yfl : gA y1 76 j = gA σ2 3 (29 + 4 * j) := by rw [d5.2, hPx.2.1, gA_sA, if_neg (by omega)]; exact hj.2.2.2.1
      have y3 : ∀ i, gA y2 3 i = if i = 29 + 4 * k then gA σ2 3 (29 + 4 * j) else gA x2 3 i := fun i => by
        rw [d6.2, gA_sA]
        by_cases z : i = 29 + 4 * k
        · rw [if_pos ⟨rfl, z⟩, if_pos z]
        · rw [if_neg (fun y => z y.2), if_neg z]
      refine ⟨1, sF (sA (sA (sA (sA y1 64 k d) 68 k a) 72 k v) 76 k (gA σ2 3 (29 + 4 * j))) 5126 (((k + 1 : Nat)) : Int), sA y2 3 2 (((k + 1 : Nat)) : Int), ?_, ?_, (((((b5.P.tr d5.P).sA rfl).sA rfl).sA rfl).sA rfl).sF rfl, ((b6.Q.sA (Or.inl rfl)).tr d6.Q).sA (Or.inl rfl), Or.inl ⟨rfl, TBt_c d3 rfl (fun i => by rw [gA_sF, gA_sA, if_neg (by omega), gA_sA, if_neg (by omega), gA_sA, if_neg (by omega), gA_sA, if_neg (by omega)]) rfl rfl (fun i => by rw [gA_sA, if_neg (by omega)]), TK_c d4 (fun q h1 h2 => by rw [gF_sF, if_neg (by omega)]; rfl) (fun _ _ => rfl), last y1 x2 _ ⟨fun q hq => by rw [d5.f hq]; exact hPx.1 q hq, fun x i => by rw [d5.2]; exact hPx.2.1 x i, hPx.2.2.1, hPx.2.2.2.1, hPx.2.2.2.2⟩ (by omega) _ (fun i => ?_) (fun i => ?_) ?_, ?_, ?_, ?_⟩⟩
      · rw [ec none, k1, bnd_s, gd_t (by omega), if_neg (by omega), d1, bnd_s, addSe hk6 y26 (Or.inr ⟨by omega, k4⟩), bnd_s, if_neg (by omega), Int.toNat_natCast, yfl]
      · rw [em, k2 K, hKK]
        show gd (inb ((26 + (4 * (j : Int))) + 3) 82) _ = _
        rw [gd_t (by omega), show Int.toNat (26 + 4 * (j : Int) + 3) = 29 + 4 * j by omega, show Int.toNat (26 + 4 * (k : Int) + 3) = 29 + 4 * k by omega, bv_s, gd_t (by omega), bs_s, fl, d2, bnd_s, gd_t (by decide), gd_t (by decide), bs_s, show Int.toNat 2 = 2 from rfl, y3, if_neg (by omega), e2]; rfl
      · rw [gA_sA]
        by_cases z : i = 2
        · rw [if_pos ⟨rfl, z⟩, if_pos z]
        · rw [if_neg (fun y => z y.2), if_neg z, y3]
      · rw [gA_sA, if_neg (by omega), d6.2, gA_sA, if_neg (by omega)]
      · show gF y2 19 = _
        rw [d6.f (by omega)]; rfl
      · have g : ∀ q, q < 196 ∨ 200 < q → gF y1 q = gF u1 q := fun q hq => by rw [d5.f hq, b5.f hq]
        show gF y1 5123 + ((k + 1 : Nat) : Int) + gF y1 2048 + gF y1 2051 + gF y1 202 = gF u1 5123 + gF u1 5126 + gF u1 2048 + gF u1 2051 + gF u1 202 + 1
        rw [g 5123 (by omega), g 2048 (by omega), g 2051 (by omega), g 202 (by omega), u26]; omega
      · rw [gF_sF, if_neg (by omega)]
        show gF y1 193 = _
        rw [d5.f (by omega), b5.f (by omega)]
      · show gF y2 14 = _
        rw [d6.f (by omega)]
        show gF x2 14 = _
        rw [b6.f (by omega)]
theorem P_send (hF : 2000 ≤ F) (hL : L ≤ 940) (hb0 : ∀ i, i < 940 → 0 ≤ b i ∧ b i ≤ 255) (hR : RRes σ2) (hP : TPd L b σ1 σ2) (hD : DRd σ1 σ2) : POd L b σ1 σ2 (f_Reader_readSender_scene1 F σ1) (f_M_readSender F σ2) := by
  obtain ⟨c2, c2a, c2b⟩ := hD.2.2.1
  obtain ⟨c0, c0e⟩ := hD.1
  have hat := hP.2.1
  obtain ⟨k, ek⟩ := Int.eq_ofNat_of_zero_le c2a
  by_cases c6 : k = 6
  · refine PO_fail ?_ ?_ (FTd_of hat 4) (FPd.rf.sF rfl |>.sF rfl) (FQd.rf.sF rfl |>.sF rfl)
    · unfold f_Reader_readSender_scene1
      rw [c2, gd_t (by omega), if_neg (by omega), blame_e, bnd_s, gd_t (by decide)]
    · unfold f_M_readSender
      rw [gd_t (by decide), show Int.toNat 2 = 2 from rfl, bv_s, gd_t (by omega), if_pos (by omega), bad_e, bnd_s, gd_t (by decide)]
  · obtain ⟨s1, s2, a1, a2, a3, a4, a5, a6⟩ := ADVp (σ1 := σ1) (σ2 := σ2) hF hL hb0 hP
    have hD1 := DRd_t hD a5 a6
    have e2 : gF s1 5126 = gA s2 3 2 := hD1.2.2.1.1
    have e3 : gF s1 2048 = gA s2 3 3 := hD1.2.2.2.1.1
    have e2' : gF s1 5126 = (k : Nat) := by rw [e2, a6.2, ek]
    obtain ⟨C, ec, hC⟩ : ∃ C : Int → St → Option (Int × St), f_Reader_readSender_scene1 F σ1 = bnd (f_Reader_isNewName F s1 (gA s2 3 2) (gA s2 3 3)) C ∧ C = fun r3 σ4 => gd (rng r3) (if r3 = 0 then some (0, σ4) else gd (inb (gF σ4 5126) 6) (bs (sA σ4 4 (Int.toNat (gF σ4 5126)) (gF σ4 199)) fun σ5 => bnd (f_Reader_advance F σ5) fun r6 σ7 => bnd (f_Reader_isNumber F σ7 0 ((gF σ7 201) - 1)) fun r8 σ9 => gd (rng r8) (if r8 = 0 then some (0, σ9) else bv (gF σ9 200) fun x2_10 => bnd (f_Reader_advance F σ9) fun r11 σ12 => bnd (f_Reader_isNumber F σ12 1 999) fun r13 σ14 => gd (rng r13) (if r13 = 0 then some (0, σ14) else bv (gF σ14 200) fun x3_15 => bnd (f_Reader_advance F σ14) fun r16 σ17 => bnd (f_Reader_readSenderTail_scene1 F σ17 x2_10 x3_15) fun r18 σ19 => gd (isb r18) (some (r18, σ19)))))) := by
      refine ⟨_, ?_, rfl⟩
      unfold f_Reader_readSender_scene1
      rw [c2, gd_t (by omega), if_pos (by omega), a1, bnd_s, e2, e3]
    obtain ⟨M, em, hM⟩ : ∃ M : Int → St → Option (Int × St), f_M_readSender F σ2 = bnd (f_M_fresh F s2 ((10 + k : Nat) : Int)) M ∧ M = fun r4 σ5 => gd (rng r4) (if r4 = 0 then some (0, σ5) else bv (26 + (4 * (k : Int))) fun x2_6 => gd (inb 0 82) (bnd (f_M_takes F σ5 0 ((gA σ5 3 (Int.toNat 0)) - 1)) fun r7 σ8 => gd (rng r7) (if r7 = 0 then some (0, σ8) else gd (inb x2_6 82) (bs (sA σ8 3 (Int.toNat x2_6) (gF σ8 17)) fun σ9 => bnd (f_M_takes F σ9 1 999) fun r10 σ11 => gd (rng r10) (if r10 = 0 then some (0, σ11) else gd (inb (x2_6 + 1) 82) (bs (sA σ11 3 (Int.toNat (x2_6 + 1)) (gF σ11 17)) fun σ12 => gd (inb (x2_6 + 2) 82) (bs (sA σ12 3 (Int.toNat (x2_6 + 2)) 0) fun σ13 => gd (inb (x2_6 + 3) 82) (bs (sA σ13 3 (Int.toNat (x2_6 + 3)) (k : Nat)) fun σ14 => bnd (f_M_isWord F σ14 110442557371507) fun r15 σ16 => gd (rng r15) (if r15 = 0 then mLk F σ16 (k : Nat) x2_6 else bnd (f_M_next F σ16) fun r35 σ36 => gd (inb 0 82) (bnd (f_M_takes F σ36 0 ((gA σ36 3 (Int.toNat 0)) - 1)) fun r37 σ38 => gd (rng r37) (if r37 = 0 then some (0, σ38) else gd (inb (x2_6 + 2) 82) (bs (sA σ38 3 (Int.toNat (x2_6 + 2)) (gF σ38 17)) fun σ39 => mLk F σ39 (k : Nat) x2_6)))))))))))) := by
      refine ⟨_, ?_, rfl⟩
      unfold f_M_readSender mLk
      rw [gd_t (by decide), show Int.toNat 2 = 2 from rfl, bv_s, gd_t (by omega), if_neg (by omega), a2, bnd_s, ek, show (10 : Int) + (k : Int) = ((10 + k : Nat) : Int) by omega]
    rcases T_new (F := F) (by omega) (RRes_q hR a6.Q) a3 a4 hD1 with ⟨t1, t2, k1, k2, k3, k4, k5⟩ | ⟨k1, k2, k3, k4, k5⟩
    · refine PO_fail (s1 := t1) (s2 := t2) ?_ ?_ k3 (a5.P.tr k4) (a6.Q.tr k5)
      · rw [ec, k1, bnd_s, hC]
        show gd (rng 0) _ = _
        rw [gd_t (by decide), if_pos rfl]
      · rw [em, k2, bnd_s, hM]
        show gd (rng 0) _ = _
        rw [gd_t (by decide), if_pos rfl]
    · generalize hw : gF s2 16 = w at *
      obtain ⟨u1, u2, b1, b2, b3, b4, b5, b6⟩ := ADVp (σ1 := sA s1 4 k w) (σ2 := sA s2 4 (10 + k) w) hF hL hb0 (TPd_c k5 rfl rfl rfl (fun i => by rw [gA_sA, if_neg (by omega)]) rfl rfl rfl rfl (fun i => by rw [gA_sA, if_neg (by omega)]))
      have p1 : FPd σ1 u1 := (a5.P.sA rfl).tr b5.P
      have q1 : FQd σ2 u2 := (a6.Q.sA (Or.inr rfl)).tr b6.Q
      have u201 : gF u1 201 = gA σ2 3 0 := by
        rw [b5.f (by omega)]
        show gF s1 201 = _
        rw [a5.f (by omega), c0e]
      have u30 : gA u2 3 0 = gA σ2 3 0 := by rw [b6.2, gA_sA, if_neg (by omega), a6.2]
      have uF : ∀ q, q < 196 ∨ 200 < q → gF u1 q = gF σ1 q := fun q hq => by
        rw [b5.f hq]
        show gF s1 q = _
        rw [a5.f hq]
      have uA : ∀ x i, gA u1 x i = gA (sA σ1 4 k w) x i := fun x i => by rw [b5.2, gA_sA, gA_sA, a5.2]
      have u3 : ∀ i, gA u2 3 i = gA σ2 3 i := fun i => by rw [b6.2, gA_sA, if_neg (by omega), a6.2]
      have u4 : ∀ i, gA u2 4 i = if i = 10 + k then w else gA σ2 4 i := fun i => by
        rw [b6.2, gA_sA, a6.2]
        by_cases z : i = 10 + k
        · rw [if_pos ⟨rfl, z⟩, if_pos z]
        · rw [if_neg (fun y => z y.2), if_neg z]
      have u19 : gF u2 19 = gF σ2 19 := by
        rw [b6.f (by omega)]
        show gF s2 19 = _
        rw [a6.f (by omega)]
      have u14 : gF u2 14 = gF σ2 14 := by
        rw [b6.f (by omega)]
        show gF s2 14 = _
        rw [a6.f (by omega)]
      have ec1 : ∀ X : Option (Int × St), f_Reader_readSender_scene1 F σ1 = bnd (f_Reader_isNumber F u1 0 (gA σ2 3 0 - 1)) fun r8 σ9 => gd (rng r8) (if r8 = 0 then some (0, σ9) else bv (gF σ9 200) fun x2_10 => bnd (f_Reader_advance F σ9) fun r11 σ12 => bnd (f_Reader_isNumber F σ12 1 999) fun r13 σ14 => gd (rng r13) (if r13 = 0 then some (0, σ14) else bv (gF σ14 200) fun x3_15 => bnd (f_Reader_advance F σ14) fun r16 σ17 => bnd (f_Reader_readSenderTail_scene1 F σ17 x2_10 x3_15) fun r18 σ19 => gd (isb r18) (some (r18, σ19)))) := fun _ => by
        rw [ec, k1, bnd_s, hC]
        show gd (rng 1) _ = _
        rw [gd_t (by decide), if_neg (by decide), e2', gd_t (by omega), bs_s, Int.toNat_natCast, k3, b1, bnd_s, u201]
      obtain ⟨M1, em1, hM1⟩ : ∃ M1 : Int → St → Option (Int × St), f_M_readSender F σ2 = bnd (f_M_takes F u2 0 (gA σ2 3 0 - 1)) M1 ∧ M1 = fun r7 σ8 => gd (rng r7) (if r7 = 0 then some (0, σ8) else gd (inb (26 + (4 * (k : Int))) 82) (bs (sA σ8 3 (Int.toNat (26 + (4 * (k : Int)))) (gF σ8 17)) fun σ9 => bnd (f_M_takes F σ9 1 999) fun r10 σ11 => gd (rng r10) (if r10 = 0 then some (0, σ11) else gd (inb ((26 + (4 * (k : Int))) + 1) 82) (bs (sA σ11 3 (Int.toNat ((26 + (4 * (k : Int))) + 1)) (gF σ11 17)) fun σ12 => gd (inb ((26 + (4 * (k : Int))) + 2) 82) (bs (sA σ12 3 (Int.toNat ((26 + (4 * (k : Int))) + 2)) 0) fun σ13 => gd (inb ((26 + (4 * (k : Int))) + 3) 82) (bs (sA σ13 3 (Int.toNat ((26 + (4 * (k : Int))) + 3)) (k : Nat)) fun σ14 => bnd (f_M_isWord F σ14 110442557371507) fun r15 σ16 => gd (rng r15) (if r15 = 0 then mLk F σ16 (k : Nat) (26 + (4 * (k : Int))) else bnd (f_M_next F σ16) fun r35 σ36 => gd (inb 0 82) (bnd (f_M_takes F σ36 0 ((gA σ36 3 (Int.toNat 0)) - 1)) fun r37 σ38 => gd (rng r37) (if r37 = 0 then some (0, σ38) else gd (inb ((26 + (4 * (k : Int))) + 2) 82) (bs (sA σ38 3 (Int.toNat ((26 + (4 * (k : Int))) + 2)) (gF σ38 17)) fun σ39 => mLk F σ39 (k : Nat) (26 + (4 * (k : Int))))))))))))) := by
        refine ⟨_, ?_, rfl⟩
        rw [em, k2 (10 + k) (by omega), b2, bnd_s, bnd_s, hM]
        show gd (rng 1) _ = _
        rw [gd_t (by decide), if_neg (by decide), bv_s, gd_t (by decide), show Int.toNat 0 = 0 from rfl, u30]
      rcases T_num (F := F) b3 b4 (lo := 0) (hi := gA σ2 3 0 - 1) (by omega) (by omega) with ⟨t1, t2, l1, l2, l3, l4, l5⟩ | ⟨d, d0, d9, -, -, l1, l2, l2', l3, l4, l5⟩
      · refine PO_fail (s1 := t1) (s2 := t2) ?_ ?_ l3 (p1.tr l4) (q1.tr l5)
        · rw [ec1 none, l1, bnd_s, gd_t (by decide), if_pos rfl]
        · rw [em1, l2, bnd_s, hM1]
          show gd (rng 0) _ = _
          rw [gd_t (by decide), if_pos rfl]
      · obtain ⟨y1, y2, r1, r2, r3, r4, r5, r6⟩ := ADVp (σ1 := u1) (σ2 := sF u2 17 d) hF hL hb0 (TPd_c l5 rfl rfl rfl (fun _ => rfl) rfl rfl rfl rfl (fun _ => rfl))
        have r17 : gF y2 17 = d := by rw [r6.f (by omega), gF_eq]
        have p2 : FPd σ1 y1 := p1.tr r5.P
        have q2 : FQd σ2 (sA y2 3 (26 + 4 * k) d) := ((q1.sF rfl).tr r6.Q).sA (Or.inl rfl)
        have ec2 : ∀ X : Option (Int × St), f_Reader_readSender_scene1 F σ1 = bnd (f_Reader_isNumber F y1 1 999) fun r13 σ14 => gd (rng r13) (if r13 = 0 then some (0, σ14) else bv (gF σ14 200) fun x3_15 => bnd (f_Reader_advance F σ14) fun r16 σ17 => bnd (f_Reader_readSenderTail_scene1 F σ17 d x3_15) fun r18 σ19 => gd (isb r18) (some (r18, σ19))) := fun _ => by
          rw [ec1 none, l3, bnd_s, gd_t (by decide), if_neg (by decide), bv_s, r1, bnd_s, l1]
        obtain ⟨M2, em2, hM2⟩ : ∃ M2 : Int → St → Option (Int × St), f_M_readSender F σ2 = bnd (f_M_takes F (sA y2 3 (26 + 4 * k) d) 1 999) M2 ∧ M2 = fun r10 σ11 => gd (rng r10) (if r10 = 0 then some (0, σ11) else gd (inb ((26 + (4 * (k : Int))) + 1) 82) (bs (sA σ11 3 (Int.toNat ((26 + (4 * (k : Int))) + 1)) (gF σ11 17)) fun σ12 => gd (inb ((26 + (4 * (k : Int))) + 2) 82) (bs (sA σ12 3 (Int.toNat ((26 + (4 * (k : Int))) + 2)) 0) fun σ13 => gd (inb ((26 + (4 * (k : Int))) + 3) 82) (bs (sA σ13 3 (Int.toNat ((26 + (4 * (k : Int))) + 3)) (k : Nat)) fun σ14 => bnd (f_M_isWord F σ14 110442557371507) fun r15 σ16 => gd (rng r15) (if r15 = 0 then mLk F σ16 (k : Nat) (26 + (4 * (k : Int))) else bnd (f_M_next F σ16) fun r35 σ36 => gd (inb 0 82) (bnd (f_M_takes F σ36 0 ((gA σ36 3 (Int.toNat 0)) - 1)) fun r37 σ38 => gd (rng r37) (if r37 = 0 then some (0, σ38) else gd (inb ((26 + (4 * (k : Int))) + 2) 82) (bs (sA σ38 3 (Int.toNat ((26 + (4 * (k : Int))) + 2)) (gF σ38 17)) fun σ39 => mLk F σ39 (k : Nat) (26 + (4 * (k : Int))))))))))) := by
          refine ⟨_, ?_, rfl⟩
          rw [em1, l4, r2, bnd_s, bnd_s, hM1]
          show gd (rng 1) _ = _
          rw [gd_t (by decide), if_neg (by decide), gd_t (by omega), bs_s, r17, show Int.toNat (26 + 4 * (k : Int)) = 26 + 4 * k by omega]
        have b3' := TBt_c (s1 := y1) (s2 := sA y2 3 (26 + 4 * k) d) r3 rfl (fun _ => rfl) rfl rfl (fun i => by rw [gA_sA, if_neg (by omega)])
        have b4' := TK_c (s1 := y1) (s2 := sA y2 3 (26 + 4 * k) d) r4 (fun _ _ _ => rfl) (fun _ _ => rfl)
        rcases T_num (F := F) b3' b4' (lo := 1) (hi := 999) (by omega) (by omega) with ⟨t1, t2, n1, n2, n3, n4, n5⟩ | ⟨a, a0, a9, -, -, n1, n2, n2', n3, n4, n5⟩
        · refine PO_fail (s1 := t1) (s2 := t2) ?_ ?_ n3 (p2.tr n4) (q2.tr n5)
          · rw [ec2 none, n1, bnd_s, gd_t (by decide), if_pos rfl]
          · rw [em2, n2, bnd_s, hM2]
            show gd (rng 0) _ = _
            rw [gd_t (by decide), if_pos rfl]
        · obtain ⟨z1, z2, g1, g2, g3, g4, g5, g6⟩ := ADVp (σ1 := y1) (σ2 := sF (sA y2 3 (26 + 4 * k) d) 17 a) hF hL hb0 (TPd_c n5 rfl rfl rfl (fun _ => rfl) rfl rfl rfl rfl (fun _ => rfl))
          have g17 : gF z2 17 = a := by rw [g6.f (by omega), gF_eq]
          have p3 : FPd σ1 z1 := p2.tr g5.P
          have q3 : FQd σ2 (sA (sA (sA z2 3 (27 + 4 * k) a) 3 (28 + 4 * k) 0) 3 (29 + 4 * k) (k : Nat)) := ((((q2.sF rfl).tr g6.Q).sA (Or.inl rfl)).sA (Or.inl rfl)).sA (Or.inl rfl)
          generalize hX : sA (sA (sA z2 3 (27 + 4 * k) a) 3 (28 + 4 * k) 0) 3 (29 + 4 * k) (k : Nat) = x2 at *
          have ec3 : ∀ X : Option (Int × St), f_Reader_readSender_scene1 F σ1 = bnd (f_Reader_readSenderTail_scene1 F z1 d a) fun r18 σ19 => gd (isb r18) (some (r18, σ19)) := fun _ => by
            rw [ec2 none, n3, bnd_s, gd_t (by decide), if_neg (by decide), bv_s, g1, bnd_s, n1]
          have em3 : f_M_readSender F σ2 = bnd (f_M_isWord F x2 110442557371507) fun r15 σ16 => gd (rng r15) (if r15 = 0 then mLk F σ16 (k : Nat) (26 + (4 * (k : Int))) else bnd (f_M_next F σ16) fun r35 σ36 => gd (inb 0 82) (bnd (f_M_takes F σ36 0 ((gA σ36 3 (Int.toNat 0)) - 1)) fun r37 σ38 => gd (rng r37) (if r37 = 0 then some (0, σ38) else gd (inb ((26 + (4 * (k : Int))) + 2) 82) (bs (sA σ38 3 (Int.toNat ((26 + (4 * (k : Int))) + 2)) (gF σ38 17)) fun σ39 => mLk F σ39 (k : Nat) (26 + (4 * (k : Int))))))) := by
            rw [em2, n4, g2, bnd_s, bnd_s, hM2]
            show gd (rng 1) _ = _
            rw [gd_t (by decide), if_neg (by decide), gd_t (by omega), bs_s, gd_t (by omega), bs_s, gd_t (by omega), bs_s, g17, show Int.toNat (26 + 4 * (k : Int) + 1) = 27 + 4 * k by omega, show Int.toNat (26 + 4 * (k : Int) + 2) = 28 + 4 * k by omega, show Int.toNat (26 + 4 * (k : Int) + 3) = 29 + 4 * k by omega, hX]
          have b5' : TBt L b z1 x2 := TBt_c g3 rfl (fun _ => rfl) (by rw [← hX]; rfl) (by rw [← hX]; rfl) (fun i => by rw [← hX, gA_sA, if_neg (by omega), gA_sA, if_neg (by omega), gA_sA, if_neg (by omega)])
          have b6' : TK L z1 x2 := TK_c g4 (fun _ _ _ => rfl) (fun q hq => by rw [← hX]; rfl)
          have hPE : PEs σ1 σ2 z1 x2 k w d a 0 := by
            refine ⟨fun q hq => by rw [g5.f hq, r5.f hq, uF q hq], fun x i => by rw [g5.2, r5.2, uA], fun i => ?_, fun i => ?_, ?_, ?_⟩
            · rw [← hX, gA_sA, gA_sA, gA_sA, g6.2]
              show (if 3 = 3 ∧ i = 29 + 4 * k then ((k : Nat) : Int) else if 3 = 3 ∧ i = 28 + 4 * k then 0 else if 3 = 3 ∧ i = 27 + 4 * k then a else gA (sA y2 3 (26 + 4 * k) d) 3 i) = _
              rw [gA_sA, r6.2]
              show (if 3 = 3 ∧ i = 29 + 4 * k then ((k : Nat) : Int) else if 3 = 3 ∧ i = 28 + 4 * k then 0 else if 3 = 3 ∧ i = 27 + 4 * k then a else if 3 = 3 ∧ i = 26 + 4 * k then d else gA u2 3 i) = _
              rw [u3]
              by_cases z0 : i = 26 + 4 * k
              · rw [if_neg (by omega), if_neg (by omega), if_neg (by omega), if_pos ⟨rfl, z0⟩, if_pos z0]
              · rw [if_neg z0]
                by_cases z1 : i = 27 + 4 * k
                · rw [if_neg (by omega), if_neg (by omega), if_pos ⟨rfl, z1⟩, if_pos z1]
                · rw [if_neg z1]
                  by_cases z2 : i = 28 + 4 * k
                  · rw [if_neg (by omega), if_pos ⟨rfl, z2⟩, if_pos z2]
                  · rw [if_neg z2]
                    by_cases z3 : i = 29 + 4 * k
                    · rw [if_pos ⟨rfl, z3⟩, if_pos z3]
                    · rw [if_neg (fun y => z3 y.2), if_neg (fun y => z2 y.2), if_neg (fun y => z1 y.2), if_neg (fun y => z0 y.2), if_neg z3]
            · rw [← hX, gA_sA, if_neg (by omega), gA_sA, if_neg (by omega), gA_sA, if_neg (by omega), g6.2, gA_sF, gA_sA, if_neg (by omega), r6.2]
              show gA u2 4 i = _
              exact u4 i
            · rw [← hX]
              show gF z2 19 = _
              rw [g6.f (by omega)]
              show gF y2 19 = _
              rw [r6.f (by omega), gF_sF, if_neg (by omega), u19]
            · rw [← hX]
              show gF z2 14 = _
              rw [g6.f (by omega)]
              show gF y2 14 = _
              rw [r6.f (by omega), gF_sF, if_neg (by omega), u14]
          have fin : ∀ (v1 v2 : St) (v : Int), TBt L b v1 v2 → TK L v1 v2 → PEs σ1 σ2 v1 v2 k w d a v → 0 ≤ v ∧ v < gA σ2 3 0 → FPd σ1 v1 → FQd σ2 v2 → f_Reader_readSenderTail_scene1 F z1 d a = cLk F v1 d a v → f_M_readSender F σ2 = mLk F v2 (k : Nat) (26 + (4 * (k : Int))) → POd L b σ1 σ2 (f_Reader_readSender_scene1 F σ1) (f_M_readSender F σ2) := fun v1 v2 v h1 h2 h3 h4 h5 h6 h7 h8 => by
            obtain ⟨r, o1, o2, m1, m2, m3, m4, m5⟩ := P_like (F := F) hF hL hb0 (RRes_q hR h6) h1 h2 hD ek (by omega) h3 ⟨d0, by omega⟩ ⟨by omega, a9⟩ h4 k4
            have hcn : CNc v1 = CNc σ1 := by
              unfold CNc
              rw [h3.1 5123 (by omega), h3.1 5126 (by omega), h3.1 2048 (by omega), h3.1 2051 (by omega), h3.1 202 (by omega)]
            rw [hcn, h3.1 193 (by omega), h3.2.2.2.2.2] at m5
            refine ⟨r, o1, o2, ?_, h8.trans m2, h5.tr m3, h6.tr m4, m5⟩
            rw [ec3 none, h7, m1, bnd_s, gd_t]
            rcases m5 with ⟨h, -⟩ | ⟨h, -⟩
            · exact Or.inr h
            · exact Or.inl h
          obtain ⟨q, w1, w2, -, w4⟩ := T_word (F := F) b5' b6' (w := 110442557371507) (by decide)
          cases q with
          | false =>
            refine fin z1 x2 0 b5' b6' hPE ⟨by omega, by omega⟩ p3 q3 ?_ ?_
            · unfold f_Reader_readSenderTail_scene1
              rw [w1, bnd_s, gd_t (by decide), if_pos (show bi false = 0 from rfl)]; rfl
            · rw [em3, w2, bnd_s, gd_t (by decide), if_pos (show bi false = 0 from rfl)]
          | true =>
            obtain ⟨m1, m2, h1, h2, h3, h4, h5, h6⟩ := ADVp (σ1 := z1) (σ2 := x2) hF hL hb0 (w4 rfl)
            have hPm := PEs_t hPE h5 h6
            have m201 : gF m1 201 = gA σ2 3 0 := by rw [hPm.1 _ (by omega), c0e]
            have m30 : gA m2 3 0 = gA σ2 3 0 := by rw [hPm.2.2.1, if_neg (by omega), if_neg (by omega), if_neg (by omega), if_neg (by omega)]
            have et : ∀ X : Option (Int × St), f_Reader_readSenderTail_scene1 F z1 d a = bnd (f_Reader_isNumber F m1 0 (gA σ2 3 0 - 1)) fun r17 σ18 => gd (rng r17) (if r17 = 0 then some (0, σ18) else bv (gF σ18 200) fun x4_19 => bnd (f_Reader_advance F σ18) fun r20 σ21 => cLk F σ21 d a x4_19) := fun _ => by
              unfold f_Reader_readSenderTail_scene1
              rw [w1, bnd_s, gd_t (by decide), if_neg (by decide), h1, bnd_s, m201]; rfl
            have em4 : f_M_readSender F σ2 = bnd (f_M_takes F m2 0 (gA σ2 3 0 - 1)) fun r37 σ38 => gd (rng r37) (if r37 = 0 then some (0, σ38) else gd (inb ((26 + (4 * (k : Int))) + 2) 82) (bs (sA σ38 3 (Int.toNat ((26 + (4 * (k : Int))) + 2)) (gF σ38 17)) fun σ39 => mLk F σ39 (k : Nat) (26 + (4 * (k : Int))))) := by
              rw [em3, w2, bnd_s, gd_t (by decide), if_neg (by decide), h2, bnd_s, gd_t (by decide), show Int.toNat 0 = 0 from rfl, m30]
            rcases T_num (F := F) h3 h4 (lo := 0) (hi := gA σ2 3 0 - 1) (by omega) (by omega) with ⟨t1, t2, e1, e2, e3, e4, e5⟩ | ⟨v, v0, v9, -, -, e1, e2, e2', e3, e4, e5⟩
            · refine PO_fail (s1 := t1) (s2 := t2) ?_ ?_ e3 ((p3.tr h5.P).tr e4) ((q3.tr h6.Q).tr e5)
              · rw [ec3 none, et none, e1, bnd_s, gd_t (by decide), if_pos rfl, bnd_s, gd_t (by decide)]
              · rw [em4, e2, bnd_s, gd_t (by decide), if_pos rfl]
            · obtain ⟨v1, v2, i1, i2, i3, i4, i5, i6⟩ := ADVp (σ1 := m1) (σ2 := sF m2 17 v) hF hL hb0 (TPd_c e5 rfl rfl rfl (fun _ => rfl) rfl rfl rfl rfl (fun _ => rfl))
              have i17 : gF v2 17 = v := by rw [i6.f (by omega), gF_eq]
              refine fin v1 (sA v2 3 (28 + 4 * k) v) v (TBt_c i3 rfl (fun _ => rfl) rfl rfl (fun i => by rw [gA_sA, if_neg (by omega)])) (TK_c i4 (fun _ _ _ => rfl) (fun _ _ => rfl)) ⟨fun q hq => by rw [i5.f hq]; exact hPm.1 q hq, fun x i => by rw [i5.2]; exact hPm.2.1 x i, fun i => ?_, fun i => ?_, ?_, ?_⟩ ⟨v0, by omega⟩ ((p3.tr h5.P).tr i5.P) ((((q3.tr h6.Q).sF rfl).tr i6.Q).sA (Or.inl rfl)) ?_ ?_
              · rw [gA_sA, i6.2, gA_sF, hPm.2.2.1]
                by_cases y0 : i = 26 + 4 * k
                · rw [if_neg (by omega), if_pos y0, if_pos y0]
                · rw [if_neg y0, if_neg y0]
                  by_cases y1 : i = 27 + 4 * k
                  · rw [if_neg (by omega), if_pos y1, if_pos y1]
                  · rw [if_neg y1, if_neg y1]
                    by_cases y2 : i = 28 + 4 * k
                    · rw [if_pos ⟨rfl, y2⟩, if_pos y2]
                    · rw [if_neg (fun y => y2 y.2), if_neg y2, if_neg y2]
              · rw [gA_sA, if_neg (by omega), i6.2, gA_sF]; exact hPm.2.2.2.1 i
              · show gF v2 19 = _
                rw [i6.f (by omega), gF_sF, if_neg (by omega)]; exact hPm.2.2.2.2.1
              · show gF v2 14 = _
                rw [i6.f (by omega), gF_sF, if_neg (by omega)]; exact hPm.2.2.2.2.2
              · rw [et none, e3, bnd_s, gd_t (by decide), if_neg (by decide), bv_s, i1, bnd_s, e1]
              · rw [em4, e4, i2, bnd_s, bnd_s, gd_t (by decide), if_neg (by decide), gd_t (by omega), bs_s, i17, show Int.toNat (26 + 4 * (k : Int) + 2) = 28 + 4 * k by omega]
end
