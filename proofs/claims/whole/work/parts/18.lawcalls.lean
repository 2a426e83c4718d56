theorem joinH {A0 : Nat → Prop} {D : va_G} {ad1 ad' ad2 : Nat → Nat} {tc : Nat → ClassId} {σ1 σ1' σ2 : St} {x : Bool} {qo : Nat} {w w' : Nat → Int64} {H H1 : Heap} (hP : va_P D vwCl (wl ad1 tc σ1 0 (LYC x false false) ++ (wl ad2 tc σ2 0 LYM ++ [(qo, outE tc w)])) H) (hD : va_D A0 (wl ad1 tc σ1 0 (LYC x false false) ++ (wl ad2 tc σ2 0 LYM ++ [(qo, outE tc w)]))) (hA0 : ∀ q, H.size ≤ q → A0 q) (hk : ∀ q : Nat, q < H.size → ¬ HA ad1 qo H.size x q → H1[q]? = H[q]?) (hP1 : va_P D vwCl (wl ad' tc σ1' 0 (LYC x false false)) H1) (hPo : va_P D vwCl [(qo, outE tc w')] H1) (hOK : AdOK (LYC x false false) ad' (fA (LYC x false false) ad1 H.size)) : va_P D vwCl (wl ad' tc σ1' 0 (LYC x false false) ++ (wl ad2 tc σ2 0 LYM ++ [(qo, outE tc w')])) H1 ∧ va_D A0 (wl ad' tc σ1' 0 (LYC x false false) ++ (wl ad2 tc σ2 0 LYM ++ [(qo, outE tc w')])) := by
  obtain ⟨hPa, hPr⟩ := va_P_app.mp hP
  obtain ⟨hPm, hPq⟩ := va_P_app.mp hPr
  obtain ⟨hDa, hDr, hDx⟩ := va_D_app.mp hD
  obtain ⟨hDm, hDq, hDy⟩ := va_D_app.mp hDr
  have hmem : ∀ j, j < (LYC x false false).length → ∃ e, (ad1 j, e) ∈ wl ad1 tc σ1 0 (LYC x false false) := by
    intro j hj
    have := wl_get (ad := ad1) (tc := tc) (σ := σ1) (k := 0) (List.getElem?_eq_getElem hj)
    rw [Nat.zero_add] at this
    exact ⟨_, List.mem_of_getElem? this⟩
  have hout : ∀ q ∈ wl ad2 tc σ2 0 LYM ++ [(qo, outE tc w)], ¬ fA (LYC x false false) ad1 H.size q.1 := by
    intro q hq hf
    rcases hf with ⟨j, hj, e⟩ | hf
    · obtain ⟨e2, he⟩ := hmem j hj
      exact hDx _ he _ hq e.symm
    · obtain ⟨k, hk2⟩ := List.mem_iff_getElem?.mp hq
      have := (hPr k q hk2).lt
      omega
  have hqo : ¬ fA (LYC x false false) ad1 H.size qo := hout (qo, outE tc w) (List.mem_append_right _ List.mem_cons_self)
  have hcls : ∀ p ∈ wl ad' tc σ1' 0 (LYC x false false), fA (LYC x false false) ad1 H.size p.1 := by
    intro p hp
    obtain ⟨k, hk2⟩ := List.mem_iff_getElem?.mp hp
    exact (hOK.D (tc := tc) (σ := σ1')).2 k p hk2
  have hPm1 : va_P D vwCl (wl ad2 tc σ2 0 LYM) H1 := hPm.kept fun k q hq => hk q.1 (hPm k q hq).lt (by
    rintro (h | h)
    · exact hout q (List.mem_append_left _ (List.mem_of_getElem? hq)) h
    · exact hDy q (List.mem_of_getElem? hq) (qo, outE tc w) List.mem_cons_self h)
  refine ⟨va_P_app.mpr ⟨hP1, va_P_app.mpr ⟨hPm1, hPo⟩⟩, va_D_app.mpr ⟨⟨(hOK.D).1, fun k q hq => ?_⟩, va_D_app.mpr ⟨hDm, ⟨fun i j p q hi hj e9 => ?_, fun k q hq => ?_⟩, fun p hp q hq => ?_⟩, fun p hp q hq e => ?_⟩⟩
  · rcases hcls q (List.mem_of_getElem? hq) with ⟨j, hj, e⟩ | h2
    · obtain ⟨e2, he⟩ := hmem j hj
      rw [e]
      obtain ⟨n, hn⟩ := List.mem_iff_getElem?.mp he
      exact hDa.2 n _ hn
    · exact hA0 _ h2
  · have h1 := (List.getElem?_eq_some_iff.mp hi).1
    have h2 := (List.getElem?_eq_some_iff.mp hj).1
    simp at h1 h2
    omega
  · have hk0 : k = 0 := by have := (List.getElem?_eq_some_iff.mp hq).1; simpa using this
    subst hk0
    cases hq
    exact hDq.2 0 (qo, outE tc w) rfl
  · simp at hq
    subst hq
    exact hDy p hp (qo, outE tc w) List.mem_cons_self
  · have h1 := hcls p hp
    rcases List.mem_append.mp hq with h | h
    · rw [e] at h1
      exact hout q (List.mem_append_left _ h) h1
    · simp at h
      subst h
      rw [e] at h1
      exact hqo h1
theorem tsub {N : Nat} {xs : Nat → Int32} {K : KL} (h : KLOK N xs K) : True := trivial
theorem hw_hearer : ∀ w ∈ va_wsS RL 45 yL_hearer (Cond.codeWith yL_hearer cL_hearer 5 (some .int) [(0, 10, 13, 13)] :: lw_g), w ∈ lw_g := by
  intro w hw
  rcases List.mem_append.mp hw with h | h
  · simp only [List.mem_cons, List.not_mem_nil, or_false] at h
    rcases h with rfl | rfl | rfl
    · exact tg 1039 (by decide +kernel) rfl
    · exact tg 1040 (by decide +kernel) rfl
    · exact tg 0 (by decide +kernel) rfl
  · rcases List.mem_cons.mp h with rfl | h
    · exact tg 1041 (by decide +kernel) rfl
    · exact h
set_option maxHeartbeats 4000000 in
theorem l_callH_hearer {N : Nat} {xs : Nat → Int32} {K : KL} {pc : Nat} {L : List (Option Value)} {st : List Value} {x : Bool} {σ1 σ1' σ2 : St} {w : Nat → Int64} {cu su F : Nat} {p0 p1 r : Int} (ho : f_W_hearer F σ1 p0 p1 = some (r, σ1')) (hr : r = THR ∨ rng r) (hd : decode cL_law pc = .ok (.invokestatic 45, 3)) (hcat : Nat.ble (st.map fun v => v.category).sum 8 = true) (hcu : cu + 1 ≤ 601024) (hsu : su + 6 ≤ 7293034) (kk : WL N xs K (pc + 3) L (vi (if r = THR then 1 else 0) :: st) x σ1' σ2 (if r = THR then w else vp_updL w 0 (Int64.ofInt r)) (cu + 1) (su + 6)) : WL N xs K pc L (.ref 3 :: vi p1 :: vi p0 :: .ref 1 :: st) x σ1 σ2 w cu su := by
  intro hK
  obtain ⟨⟨p, l, e, s, m⟩, ⟨below, meth, c⟩, ⟨lad, tc, D⟩, b⟩ := K
  obtain ⟨hx, hb, hml, hown, hts, hlk, hret, hK1, hK2, hX, hbl, hl0, hN, hst, hTh⟩ := id hK
  intro H locs ls hW hS hl
  obtain ⟨ad1, ad2, e1, e2, hP, hD⟩ := hW
  obtain ⟨hPa, hPr⟩ := va_P_app.mp hP
  obtain ⟨hPm, hPq⟩ := va_P_app.mp hPr
  obtain ⟨hDa, hDr, hDx⟩ := va_D_app.mp hD
  have hMet := ch_hearer hst (D := D) (tc := tc) (ad := ad1) (qo := lad 3) (sz := H.size) (x := x) (w := w) ho hr
  have hKx := hK1 x
  have hHA : ∀ q, HA ad1 (lad 3) H.size x q → s.heap.size ≤ q := by
    rintro q ((⟨j, hj, e⟩ | h) | h)
    · have hg := wl_get (ad := ad1) (tc := tc) (σ := σ1) (k := 0) (List.getElem?_eq_getElem hj)
      rw [Nat.zero_add] at hg
      rw [e]
      exact hDa.2 _ _ hg
    · exact Nat.le_trans hS.1 h
    · rw [h]
      exact (va_D_app.mp hDr).2.1.2 0 (lad 3, outE tc w) rfl
  have hDc : va_D (fun _ => True) (wl ad1 tc σ1 0 (LYC x false false) ++ [(lad 3, outE tc w)]) := by
    have h1 : va_D (fun q => s.heap.size ≤ q) (wl ad1 tc σ1 0 (LYC x false false) ++ [(lad 3, outE tc w)]) := va_D_app.mpr ⟨hDa, (va_D_app.mp hDr).2.1, fun p hp q hq => hDx p hp q (List.mem_append_right _ hq)⟩
    exact ⟨h1.1, fun _ _ _ => trivial⟩
  have cw := vx_cwSW (R := room_1) (s := s) (args := #[Value.ref b]) (own := RL) (index := 45) (y := yL_hearer) (bytes := cL_hearer) (maxL := 5) (ret := some .int) (hh := [(0, 10, 13, 13)]) (rm := rmH) (mc := 1) (ms := 6) 4 hts (fun w h => ⟨hw_hearer w h, good_of_word (List.mem_filter.mp (hw_hearer w h)).2⟩) rfl rfl rfl (by decide +kernel) ⟨by show 40 + 1 ≤ 2048; omega, by show 8 + (5 + 11) + 2560 ≤ 84000; omega⟩
  have hstk : (.ref 3 :: vi p1 :: vi p0 :: .ref 1 :: st : List Value).map (cv lad) = ([.ref (ad1 0), vi p0, vi p1, .ref (lad 3)] : List Value).reverse ++ st.map (cv lad) := by
    show Value.ref (lad 3) :: vi p1 :: vi p0 :: Value.ref (lad 1) :: _ = Value.ref (lad 3) :: vi p1 :: vi p0 :: Value.ref (ad1 0) :: _
    rw [e1]
    rfl
  rw [hstk]
  have run0 := vx_runSX (As := [.ref (ad1 0), vi p0, vi p1, .ref (lad 3)]) (rest := st.map (cv lad)) (g := F0 m pc ls (([.ref (ad1 0), vi p0, vi p1, .ref (lad 3)] : List Value).reverse ++ st.map (cv lad))) (cells := cu) (slots := su) (e := e) (below := below) (meth := meth) (H := H) (locs := locs) ⟨hx, hb, hml, hown, hts⟩ hMet cw ⟨H_blind, fun U hU hW => ⟨rfl, by rw [hU], by rw [hU]; exact va_P_app.mpr ⟨hPa, hPq⟩, hDc, hKx.warm hW, ThS_to hU hW hHA (fun a ha hn => hS.2.1 a ha hn) hTh⟩⟩ rfl rfl hl.1 rfl (lv_room (by rw [cats]; exact Nat.le_of_ble_eq_true hcat)) hd ⟨hcu, hsu⟩
  have run := vx_Run_mono (XD := vx_X (S := Unit) (fun _ => False) (fun _ _ _ => True) (fun _ => False)) run0 (fun _ _ _ h => h) (fun _ _ _ h => h.elim)
  refine vx_calli (a := #[]) run hS (fun q _ h => hHA q h) (fun q h => hHA q h) (fun q _ h => h.elim) (fun _ _ _ _ _ _ _ _ _ hpx => hpx.elim) (fun rv u t H1 locs1 ht hvm hw hB hz1 hkeep hS1 => ?_)

  · obtain ⟨ad', h0, hOK, hP1, hPo⟩ := hB
    rw [ht] at hP1 hPo
    have hj := joinH (σ2 := σ2) (ad2 := ad2) hP hD (fun q hq => Nat.le_trans hS.1 hq) hkeep hP1 hPo hOK
    have kk1 := kk hK H1 locs1 ls ⟨ad', ad2, by rw [h0, e1], e2, hj.1, hj.2⟩ hS1 hl
    have hw : rv = _ := hw
    subst hw
    exact kk1
theorem hw_sender : ∀ w ∈ va_wsS RL 54 yL_sender (Cond.codeWith yL_sender cL_sender 5 (some .int) [(0, 10, 13, 13)] :: lw_g), w ∈ lw_g := by
  intro w hw
  rcases List.mem_append.mp hw with h | h
  · simp only [List.mem_cons, List.not_mem_nil, or_false] at h
    rcases h with rfl | rfl | rfl
    · exact tg 1108 (by decide +kernel) rfl
    · exact tg 1109 (by decide +kernel) rfl
    · exact tg 0 (by decide +kernel) rfl
  · rcases List.mem_cons.mp h with rfl | h
    · exact tg 1110 (by decide +kernel) rfl
    · exact h
set_option maxHeartbeats 4000000 in
theorem l_callH_sender {N : Nat} {xs : Nat → Int32} {K : KL} {pc : Nat} {L : List (Option Value)} {st : List Value} {x : Bool} {σ1 σ1' σ2 : St} {w : Nat → Int64} {cu su F : Nat} {p0 p1 r : Int} (ho : f_W_sender F σ1 p0 p1 = some (r, σ1')) (hr : r = THR ∨ rng r) (hd : decode cL_law pc = .ok (.invokestatic 54, 3)) (hcat : Nat.ble (st.map fun v => v.category).sum 8 = true) (hcu : cu + 1 ≤ 601024) (hsu : su + 6 ≤ 7293034) (kk : WL N xs K (pc + 3) L (vi (if r = THR then 1 else 0) :: st) x σ1' σ2 (if r = THR then w else vp_updL w 0 (Int64.ofInt r)) (cu + 1) (su + 6)) : WL N xs K pc L (.ref 3 :: vi p1 :: vi p0 :: .ref 1 :: st) x σ1 σ2 w cu su := by
  intro hK
  obtain ⟨⟨p, l, e, s, m⟩, ⟨below, meth, c⟩, ⟨lad, tc, D⟩, b⟩ := K
  obtain ⟨hx, hb, hml, hown, hts, hlk, hret, hK1, hK2, hX, hbl, hl0, hN, hst, hTh⟩ := id hK
  intro H locs ls hW hS hl
  obtain ⟨ad1, ad2, e1, e2, hP, hD⟩ := hW
  obtain ⟨hPa, hPr⟩ := va_P_app.mp hP
  obtain ⟨hPm, hPq⟩ := va_P_app.mp hPr
  obtain ⟨hDa, hDr, hDx⟩ := va_D_app.mp hD
  have hMet := ch_sender hst (D := D) (tc := tc) (ad := ad1) (qo := lad 3) (sz := H.size) (x := x) (w := w) ho hr
  have hKx := hK1 x
  have hHA : ∀ q, HA ad1 (lad 3) H.size x q → s.heap.size ≤ q := by
    rintro q ((⟨j, hj, e⟩ | h) | h)
    · have hg := wl_get (ad := ad1) (tc := tc) (σ := σ1) (k := 0) (List.getElem?_eq_getElem hj)
      rw [Nat.zero_add] at hg
      rw [e]
      exact hDa.2 _ _ hg
    · exact Nat.le_trans hS.1 h
    · rw [h]
      exact (va_D_app.mp hDr).2.1.2 0 (lad 3, outE tc w) rfl
  have hDc : va_D (fun _ => True) (wl ad1 tc σ1 0 (LYC x false false) ++ [(lad 3, outE tc w)]) := by
    have h1 : va_D (fun q => s.heap.size ≤ q) (wl ad1 tc σ1 0 (LYC x false false) ++ [(lad 3, outE tc w)]) := va_D_app.mpr ⟨hDa, (va_D_app.mp hDr).2.1, fun p hp q hq => hDx p hp q (List.mem_append_right _ hq)⟩
    exact ⟨h1.1, fun _ _ _ => trivial⟩
  have cw := vx_cwSW (R := room_1) (s := s) (args := #[Value.ref b]) (own := RL) (index := 54) (y := yL_sender) (bytes := cL_sender) (maxL := 5) (ret := some .int) (hh := [(0, 10, 13, 13)]) (rm := rmH) (mc := 1) (ms := 6) 4 hts (fun w h => ⟨hw_sender w h, good_of_word (List.mem_filter.mp (hw_sender w h)).2⟩) rfl rfl rfl (by decide +kernel) ⟨by show 40 + 1 ≤ 2048; omega, by show 8 + (5 + 11) + 2560 ≤ 84000; omega⟩
  have hstk : (.ref 3 :: vi p1 :: vi p0 :: .ref 1 :: st : List Value).map (cv lad) = ([.ref (ad1 0), vi p0, vi p1, .ref (lad 3)] : List Value).reverse ++ st.map (cv lad) := by
    show Value.ref (lad 3) :: vi p1 :: vi p0 :: Value.ref (lad 1) :: _ = Value.ref (lad 3) :: vi p1 :: vi p0 :: Value.ref (ad1 0) :: _
    rw [e1]
    rfl
  rw [hstk]
  have run0 := vx_runSX (As := [.ref (ad1 0), vi p0, vi p1, .ref (lad 3)]) (rest := st.map (cv lad)) (g := F0 m pc ls (([.ref (ad1 0), vi p0, vi p1, .ref (lad 3)] : List Value).reverse ++ st.map (cv lad))) (cells := cu) (slots := su) (e := e) (below := below) (meth := meth) (H := H) (locs := locs) ⟨hx, hb, hml, hown, hts⟩ hMet cw ⟨H_blind, fun U hU hW => ⟨rfl, by rw [hU], by rw [hU]; exact va_P_app.mpr ⟨hPa, hPq⟩, hDc, hKx.warm hW, ThS_to hU hW hHA (fun a ha hn => hS.2.1 a ha hn) hTh⟩⟩ rfl rfl hl.1 rfl (lv_room (by rw [cats]; exact Nat.le_of_ble_eq_true hcat)) hd ⟨hcu, hsu⟩
  have run := vx_Run_mono (XD := vx_X (S := Unit) (fun _ => False) (fun _ _ _ => True) (fun _ => False)) run0 (fun _ _ _ h => h) (fun _ _ _ h => h.elim)
  refine vx_calli (a := #[]) run hS (fun q _ h => hHA q h) (fun q h => hHA q h) (fun q _ h => h.elim) (fun _ _ _ _ _ _ _ _ _ hpx => hpx.elim) (fun rv u t H1 locs1 ht hvm hw hB hz1 hkeep hS1 => ?_)

  · obtain ⟨ad', h0, hOK, hP1, hPo⟩ := hB
    rw [ht] at hP1 hPo
    have hj := joinH (σ2 := σ2) (ad2 := ad2) hP hD (fun q hq => Nat.le_trans hS.1 hq) hkeep hP1 hPo hOK
    have kk1 := kk hK H1 locs1 ls ⟨ad', ad2, by rw [h0, e1], e2, hj.1, hj.2⟩ hS1 hl
    have hw : rv = _ := hw
    subst hw
    exact kk1
theorem hw_cross : ∀ w ∈ va_wsS RL 177 yL_cross (Cond.codeWith yL_cross cL_cross 6 (some .int) [(0, 11, 14, 13)] :: lw_g), w ∈ lw_g := by
  intro w hw
  rcases List.mem_append.mp hw with h | h
  · simp only [List.mem_cons, List.not_mem_nil, or_false] at h
    rcases h with rfl | rfl | rfl
    · exact tg 1116 (by decide +kernel) rfl
    · exact tg 1117 (by decide +kernel) rfl
    · exact tg 0 (by decide +kernel) rfl
  · rcases List.mem_cons.mp h with rfl | h
    · exact tg 1118 (by decide +kernel) rfl
    · exact h
set_option maxHeartbeats 4000000 in
theorem l_callH_cross {N : Nat} {xs : Nat → Int32} {K : KL} {pc : Nat} {L : List (Option Value)} {st : List Value} {x : Bool} {σ1 σ1' σ2 : St} {w : Nat → Int64} {cu su F : Nat} {p0 p1 p2 r : Int} (ho : f_W_cross F σ1 p0 p1 p2 = some (r, σ1'))  (hd : decode cL_law pc = .ok (.invokestatic 177, 3)) (hcat : Nat.ble (st.map fun v => v.category).sum 8 = true) (hcu : cu + 1 ≤ 601024) (hsu : su + 6 ≤ 7293034) (kk : WL N xs K (pc + 3) L (vi (if r = THR then 1 else 0) :: st) x σ1' σ2 (if r = THR then w else vp_updL w 0 (Int64.ofInt r)) (cu + 1) (su + 6)) : WL N xs K pc L (.ref 3 :: vi p2 :: vi p1 :: vi p0 :: .ref 1 :: st) x σ1 σ2 w cu su := by
  intro hK
  obtain ⟨⟨p, l, e, s, m⟩, ⟨below, meth, c⟩, ⟨lad, tc, D⟩, b⟩ := K
  obtain ⟨hx, hb, hml, hown, hts, hlk, hret, hK1, hK2, hX, hbl, hl0, hN, hst, hTh⟩ := id hK
  intro H locs ls hW hS hl
  obtain ⟨ad1, ad2, e1, e2, hP, hD⟩ := hW
  obtain ⟨hPa, hPr⟩ := va_P_app.mp hP
  obtain ⟨hPm, hPq⟩ := va_P_app.mp hPr
  obtain ⟨hDa, hDr, hDx⟩ := va_D_app.mp hD
  have hMet := ch_cross hst (D := D) (tc := tc) (ad := ad1) (qo := lad 3) (sz := H.size) (x := x) (w := w) ho 
  have hKx := hK1 x
  have hHA : ∀ q, HA ad1 (lad 3) H.size x q → s.heap.size ≤ q := by
    rintro q ((⟨j, hj, e⟩ | h) | h)
    · have hg := wl_get (ad := ad1) (tc := tc) (σ := σ1) (k := 0) (List.getElem?_eq_getElem hj)
      rw [Nat.zero_add] at hg
      rw [e]
      exact hDa.2 _ _ hg
    · exact Nat.le_trans hS.1 h
    · rw [h]
      exact (va_D_app.mp hDr).2.1.2 0 (lad 3, outE tc w) rfl
  have hDc : va_D (fun _ => True) (wl ad1 tc σ1 0 (LYC x false false) ++ [(lad 3, outE tc w)]) := by
    have h1 : va_D (fun q => s.heap.size ≤ q) (wl ad1 tc σ1 0 (LYC x false false) ++ [(lad 3, outE tc w)]) := va_D_app.mpr ⟨hDa, (va_D_app.mp hDr).2.1, fun p hp q hq => hDx p hp q (List.mem_append_right _ hq)⟩
    exact ⟨h1.1, fun _ _ _ => trivial⟩
  have cw := vx_cwSW (R := room_1) (s := s) (args := #[Value.ref b]) (own := RL) (index := 177) (y := yL_cross) (bytes := cL_cross) (maxL := 6) (ret := some .int) (hh := [(0, 11, 14, 13)]) (rm := rmH) (mc := 1) (ms := 6) 5 hts (fun w h => ⟨hw_cross w h, good_of_word (List.mem_filter.mp (hw_cross w h)).2⟩) rfl rfl rfl (by decide +kernel) ⟨by show 40 + 1 ≤ 2048; omega, by show 8 + (6 + 11) + 2560 ≤ 84000; omega⟩
  have hstk : (.ref 3 :: vi p2 :: vi p1 :: vi p0 :: .ref 1 :: st : List Value).map (cv lad) = ([.ref (ad1 0), vi p0, vi p1, vi p2, .ref (lad 3)] : List Value).reverse ++ st.map (cv lad) := by
    show Value.ref (lad 3) :: vi p2 :: vi p1 :: vi p0 :: Value.ref (lad 1) :: _ = Value.ref (lad 3) :: vi p2 :: vi p1 :: vi p0 :: Value.ref (ad1 0) :: _
    rw [e1]
    rfl
  rw [hstk]
  have run0 := vx_runSX (As := [.ref (ad1 0), vi p0, vi p1, vi p2, .ref (lad 3)]) (rest := st.map (cv lad)) (g := F0 m pc ls (([.ref (ad1 0), vi p0, vi p1, vi p2, .ref (lad 3)] : List Value).reverse ++ st.map (cv lad))) (cells := cu) (slots := su) (e := e) (below := below) (meth := meth) (H := H) (locs := locs) ⟨hx, hb, hml, hown, hts⟩ hMet cw ⟨H_blind, fun U hU hW => ⟨rfl, by rw [hU], by rw [hU]; exact va_P_app.mpr ⟨hPa, hPq⟩, hDc, hKx.warm hW, ThS_to hU hW hHA (fun a ha hn => hS.2.1 a ha hn) hTh⟩⟩ rfl rfl hl.1 rfl (lv_room (by rw [cats]; exact Nat.le_of_ble_eq_true hcat)) hd ⟨hcu, hsu⟩
  have run := vx_Run_mono (XD := vx_X (S := Unit) (fun _ => False) (fun _ _ _ => True) (fun _ => False)) run0 (fun _ _ _ h => h) (fun _ _ _ h => h.elim)
  refine vx_calli (a := #[]) run hS (fun q _ h => hHA q h) (fun q h => hHA q h) (fun q _ h => h.elim) (fun _ _ _ _ _ _ _ _ _ hpx => hpx.elim) (fun rv u t H1 locs1 ht hvm hw hB hz1 hkeep hS1 => ?_)

  · obtain ⟨ad', h0, hOK, hP1, hPo⟩ := hB
    rw [ht] at hP1 hPo
    have hj := joinH (σ2 := σ2) (ad2 := ad2) hP hD (fun q hq => Nat.le_trans hS.1 hq) hkeep hP1 hPo hOK
    have kk1 := kk hK H1 locs1 ls ⟨ad', ad2, by rw [h0, e1], e2, hj.1, hj.2⟩ hS1 hl
    have hw : rv = _ := hw
    subst hw
    exact kk1
