theorem declW {y : MethodName} {s U : State} (hW : s.WarmedH U.vm) (hZ : va_Nw (.declares y) s) : va_Nw (.declares y) U := va_tabs (c := .declares y) (A := #[]) (u := s.setVm U.vm) (U := U) rfl rfl (by rw [Cond.declares_setVm hW.alike]; exact hZ)
theorem thW_warm {s U : State} (hW : s.WarmedH U.vm) (h : ∀ w ∈ thW, va_Nw w s) : ∀ w ∈ thW, va_Nw w U := by
  intro w hw
  have h1 := h w hw
  simp only [thW, List.mem_cons, List.not_mem_nil, or_false] at hw
  rcases hw with rfl | rfl | rfl | rfl
  · exact va_Nw.warmC hW h1
  · exact declW hW h1
  · exact declW hW h1
  · exact declW hW h1
theorem ThS_to {A B : Nat → Prop} {s U : State} {H : Heap} (hU : U.heap = H) (hW : s.WarmedH U.vm) (hAB : ∀ q, B q → A q) (hk : ∀ a : Nat, a < s.heap.size → ¬ A a → H[a]? = s.heap[a]?) (h : ThS A s) : ThS B U := by
  obtain ⟨h1, h2, h3⟩ := h
  refine ⟨?_, ?_, thW_warm hW h3⟩
  · rw [hU]; exact vx_Zq.narrow (vx_Zq.moved hW.alike (vx_Zq.kept h1 hk)) hAB
  · rw [hU]; exact vx_Zq.narrow (vx_Zq.moved hW.alike (vx_Zq.kept h2 hk)) hAB
theorem ThS_blind {A : Nat → Prop} {U : State} (h : ThS A U) (g : JFrame) (mk : MethodId) (a : Array Value) : ThS A (U.calling g mk a) :=
  ⟨vx_Zq.moved (u := U) (U := U.calling g mk a) (Vm.Alike.refl U.vm) h.1, vx_Zq.moved (u := U) (U := U.calling g mk a) (Vm.Alike.refl U.vm) h.2.1, fun w hw => va_tabs (c := w) (A := #[]) (u := U) (U := U.calling g mk a) (th_on w hw) rfl (h.2.2 w hw)⟩
theorem CtX_blind {LY : List Sh} {D : va_G} {ad : Nat → Nat} {tc : Nat → ClassId} {σ : St} {as : List Value} {sz : Nat} : FrameBlind (va_Pc as (fun U => U.heap.size = sz ∧ AdOK LY ad (fA LY ad sz) ∧ LYok LY ∧ va_P D vwCl (wl ad tc σ 0 LY) U.heap ∧ KK LY tc D U ∧ ThS (fA LY ad sz) U)) :=
  fun a U g mk q => ⟨q.1, q.2.1, q.2.2.1, q.2.2.2.1, q.2.2.2.2.1, q.2.2.2.2.2.1.blind g mk a, ThS_blind q.2.2.2.2.2.2 g mk a⟩
theorem vx_Run_mono {p : Program} {l : Launch} {e : Env} {R : Room} {s : State} {m : MethodId} {args : Array Value} {below : List Frame} {meth : Method} {c : Code} {H : Heap} {locs : List Loc} {cells slots mc ms : Nat} {g : JFrame} {rest : List Value} {Qa Qb : State → Outcome → State → Prop} {XC XD : String → State → State → Prop} {free : Addr → Prop} (h : vx_Run p l e R s m args below meth c H locs cells slots mc ms g rest Qa XC free) (hQ : ∀ st v t, Qa st (.returned v) t → Qb st (.returned v) t) (hX : ∀ E st t, XC E st t → XD E st t) : vx_Run p l e R s m args below meth c H locs cells slots mc ms g rest Qb XD free := by
  intro T hT X
  rcases h T hT X with ⟨v, st0, t, T', L, h0, X', hL, e1, e2, hq, st⟩ | ⟨q, st0, t, T', L, E, ce, h0, X', hL, e1, e2, hx, h9⟩
  · exact Or.inl ⟨v, st0, t, T', L, h0, X', hL, e1, e2, hQ _ _ _ hq, st⟩
  · exact Or.inr ⟨q, st0, t, T', L, E, ce, h0, X', hL, e1, e2, hX _ _ _ hx, h9⟩
def HA (ad : Nat → Nat) (qo sz : Nat) (x : Bool) : Nat → Prop := fun q => fA (LYC x false false) ad sz q ∨ q = qo
def HPc (D : va_G) (tc : Nat → ClassId) (ad : Nat → Nat) (qo sz : Nat) (x : Bool) (σ : St) (w : Nat → Int64) (U : State) : Prop := U.heap.size = sz ∧ va_P D vwCl (wl ad tc σ 0 (LYC x false false) ++ [(qo, outE tc w)]) U.heap ∧ va_D (fun _ => True) (wl ad tc σ 0 (LYC x false false) ++ [(qo, outE tc w)]) ∧ KK (LYC x false false) tc D U ∧ ThS (HA ad qo sz x) U
def HB (D : va_G) (tc : Nat → ClassId) (ad : Nat → Nat) (qo sz : Nat) (x : Bool) (σ : St) (w : Nat → Int64) (t : State) : Prop := ∃ ad', ad' 0 = ad 0 ∧ AdOK (LYC x false false) ad' (fA (LYC x false false) ad sz) ∧ va_P D vwCl (wl ad' tc σ 0 (LYC x false false)) t.heap ∧ va_P D vwCl [(qo, outE tc w)] t.heap
def rmH : Room := { frames := 40, cells := 1, slots := 6, locals := 2560 }
theorem H_blind {D : va_G} {tc : Nat → ClassId} {ad : Nat → Nat} {qo sz : Nat} {x : Bool} {σ : St} {w : Nat → Int64} {as : List Value} : FrameBlind (va_Pc as (HPc D tc ad qo sz x σ w)) :=
  fun a U g mk q => ⟨q.1, q.2.1, q.2.2.1, q.2.2.2.1, q.2.2.2.2.1.blind g mk a, ThS_blind q.2.2.2.2.2 g mk a⟩
theorem set_last {α : Type} (A : List α) (a b : α) : (A ++ [a]).set A.length b = A ++ [b] := by
  rw [List.set_append_right _ _ (Nat.le_refl _), Nat.sub_self]
  rfl
theorem hl_cls : Cond.classLink RL 13 nsE ∈ lw_g := lg_mem (List.mem_append_right _ (by decide +kernel)) rfl
set_option maxRecDepth 100000 in
set_option maxHeartbeats 4000000 in
theorem ch_hearer {l : Launch} (hst : l.stackTraces = false) {D : va_G} {tc : Nat → ClassId} {ad : Nat → Nat} {qo sz : Nat} {x : Bool} {F : Nat} {σ σ' : St} {p0 p1 r : Int} {w : Nat → Int64} (ho : f_W_hearer F σ p0 p1 = some (r, σ')) (hr : r = THR ∨ rng r) : vx_Met l yL_hearer (Cond.codeWith yL_hearer cL_hearer 5 (some .int) [(0, 10, 13, 13)] :: lw_g) rmH (va_Pc [.ref (ad 0), vi p0, vi p1, .ref qo] (HPc D tc ad qo sz x σ w)) (va_Qi (S := Unit) (fun v _ => v = Int32.ofInt (if r = THR then 1 else 0)) (fun _ t => HB D tc ad qo sz x σ' (if r = THR then w else vp_updL w 0 (Int64.ofInt r)) t) (HA ad qo sz x)) (fun _ _ _ => False) 1 6 (HA ad qo sz x) := by
  refine vx_ofWH (cc := cL_hearer) (maxL := 5) (ret := some .int) (hh := [(0, 10, 13, 13)]) (by decide +kernel) rfl ?_
  intro p e s m args below meth c s₁ B hml hv
  obtain ⟨rfl, hsz, hP, hD, hKK, hTh⟩ := hv
  subst hsz
  have hts0 : ∀ w ∈ (Cond.codeWith yL_hearer cL_hearer 5 (some .int) [(0, 10, 13, 13)] :: lw_g), w.before ([.ref (ad 0), vi p0, vi p1, .ref qo] : List Value).toArray s = true := atoms_spec B.pre
  have hts : ∀ w ∈ lw_g, w.before ([.ref (ad 0), vi p0, vi p1, .ref qo] : List Value).toArray s = true := fun w h => hts0 w (List.mem_cons_of_mem _ h)
  have hx := B.exec
  have hb := B.bytes
  have hret := B.returns
  have hlk := B.notSynchronized
  have hown : s.vm.findClass RL = some m.cls := findClass_of_methodNamed B.named
  have hET := vx_table (x := yL_hearer) B (hts0 _ List.mem_cons_self)
  have hl := lv_entry ([.ref (ad 0), vi p0, vi p1, .ref qo]) (n := 5) (Nat.le_of_ble_eq_true rfl)
  rw [lg_entry_eq]
  generalize (lg_sl ([.ref (ad 0), vi p0, vi p1, .ref qo]) ++ List.replicate (5 - (lg_sl ([.ref (ad 0), vi p0, vi p1, .ref qo])).length) Slot.unset).toArray = ls at hl ⊢
  have hl : lv_has ls 5 [(0, .ref (ad 0)), (1, vi p0), (2, vi p1), (3, .ref qo)] := hl
  have hPa := (va_P_app.mp hP).1
  have hPo := (va_P_app.mp hP).2
  have hDa := (va_D_app.mp hD).1
  have hDx := (va_D_app.mp hD).2.2
  have hAsz := AdOK_of_D s.heap.size hDa
  have he := wl_get (ad := ad) (tc := tc) (σ := σ) (k := 0) (lyC_0 (x := x) (y := false) (z := false))
  rw [Nat.zero_add] at he
  have hS : va_S (HA ad qo s.heap.size x) s.heap s.heap [] := va_S.rf
  refine lv_aload_n hx hb dL_hearer_0 rfl (lv_at hl 3 rfl) ?_
  refine lv_iconst (v := Int32.ofInt 0) hx hb dL_hearer_1 (by decide) ?_
  refine lv_aload_n hx hb dL_hearer_2 rfl (lv_at hl 0 rfl) ?_
  refine lv_iload_n hx hb dL_hearer_3 rfl (lv_at hl 1 rfl) ?_
  refine lv_iload_n hx hb dL_hearer_4 rfl (lv_at hl 2 rfl) ?_
  have hd : vx_Met l yX10_hearer _ (rmK 11 6) _ _ _ 1 6 _ := c_W_hearer (x := x) F σ p0 p1 r σ' ho l D ad tc s.heap.size hst
  have cw : CallW rmH s ([.ref (ad 0), vi p0, vi p1, .ref qo] : List Value).toArray RL RX10 7 yX10_hearer cX10_hearer 3 (some .int) (Cond.code yX10_hearer cX10_hearer 3 (some .int) :: lw_g) (rmK 11 6) 1 6 2 := ⟨callB_of 2 hts (lg_good mf_L_7.2.2.2.1) rfl rfl rfl (hts _ mf_L_7.2.2.1) (hts _ mf_L_7.1) mf_L_7.2.2.2.2.1 ⟨Nat.le_of_ble_eq_true rfl, Nat.le_of_ble_eq_true rfl⟩, hts _ mf_L_7.2.1, hts _ mf_L_7.2.2.2.2.2⟩
  have run0 := vx_runV (As := [vi p0, vi p1]) (rest := [.int (Int32.ofInt 0), .ref qo]) (g := F0 m _ ls ([vi p1, vi p0, .ref (ad 0), .int (Int32.ofInt 0), .ref qo])) (cells := 0) (slots := 0) (e := e) (below := below) (meth := meth) (H := s.heap) (locs := []) ⟨hx, hb, hml, hown, hts⟩ hd cw ⟨CtX_blind, va_recv (⟨hKK.1, fun k q h => by simp at h⟩ : va_K D vwCl [] s) hPa rfl he, fun U hU hW => ⟨rfl, by rw [hU], hAsz, LYC_ok, by rw [hU]; exact hPa, hKK.warm hW, ThS_to hU hW (fun q h => Or.inl h) (fun _ _ _ => rfl) hTh⟩⟩ rfl rfl hl.1 rfl (lv_room (Nat.le_of_ble_eq_true rfl)) dL_hearer_5 ⟨Nat.le_of_ble_eq_true rfl, Nat.le_of_ble_eq_true rfl⟩
  have run := vx_Run_mono (Qb := va_Qi (S := Unit) (fun v _ => v = Int32.ofInt r ∧ r ≠ THR) (fun _ t => Bw 0 (LYC x false false) ad tc D (fA (LYC x false false) ad s.heap.size) σ' t) (fA (LYC x false false) ad s.heap.size) #[]) (XD := vx_X (S := Unit) (fun _ => r = THR) (fun E _ t => E = nsE ∧ Bw 0 (LYC x false false) ad tc D (fA (LYC x false false) ad s.heap.size) σ' t) (fA (LYC x false false) ad s.heap.size)) run0 (fun st v t hq => by
    obtain ⟨hne, ⟨rv, u, h1, h2, h3⟩, h4⟩ := hq
    exact ⟨⟨rv, u, h1, ⟨h2, hne⟩, h3⟩, h4⟩) (fun E st t hq => by
    obtain ⟨h1, h2, h3, h4⟩ := hq
    exact ⟨(), h1, ⟨h2, h3⟩, h4⟩)
  have hsub : ∀ q, fA (LYC x false false) ad s.heap.size q → HA ad qo s.heap.size x q := fun q h => Or.inl h
  have hqo : ¬ fA (LYC x false false) ad s.heap.size qo := by
    rintro (⟨j, hj, ej⟩ | hge)
    · have hg := wl_get (ad := ad) (tc := tc) (σ := σ) (k := 0) (List.getElem?_eq_getElem hj)
      rw [Nat.zero_add] at hg
      exact hDx _ (List.mem_of_getElem? hg) (qo, outE tc w) List.mem_cons_self ej.symm
    · have := (hPo 0 (qo, outE tc w) rfl).lt
      simp only at this
      omega
  have hqlt : qo < s.heap.size := (hPo 0 (qo, outE tc w) rfl).lt
  refine vx_calli run hS (fun q _ h => hsub q h) (fun q h => hsub q h) (fun q _ h => hsub q h) (fun E ce q9 u t H1 locs1 ht hvm hpx hB hz1 hkeep hS1 hce hcv hcl => ?_) (fun rv u t H1 locs1 ht hvm hw hB hz1 hkeep hS1 => ?_)
  · have hpx : r = THR := hpx
    obtain ⟨hE, ad', hR, hP1⟩ := hB
    subst hE
    rw [ht] at hP1
    have hPo1 : va_P D vwCl [(qo, outE tc w)] H1 := hPo.kept fun k q hq => by
      have hk : k = 0 := by have := (List.getElem?_eq_some_iff.mp hq).1; simpa using this
      subst hk
      cases hq
      exact hkeep qo hqlt hqo
    refine vx_catch (own := RL) (name := nsE) hown [] ⟨0, 10, 13, 13⟩ [] (by rw [hET]; rfl) (fun z hz => by cases hz) rfl (by decide) (hts _ hl_cls) (va_Nw.use (th_on _ (by decide +kernel)) (hTh.2.2 _ (by decide +kernel))) hce hcv hcl ?_
    refine lv_astore (lv' := [(4, .ref q9), (0, .ref (ad 0)), (1, vi p0), (2, vi p1), (3, .ref qo)]) hx hb dL_hearer_13 hl (by decide) rfl (fun ls hl => ?_)
    refine lv_iconst (v := Int32.ofInt 1) hx hb dL_hearer_15 (by decide) ?_
    refine vx_ret (W.iret hx hb hret (fun t ht2 hW => ⟨⟨Int32.ofInt 1, (), rfl, by rw [if_pos hpx], ad', hR.1 0 (keep0 0), hR.2, by rw [ht2]; exact hP1, by rw [ht2, if_pos hpx]; exact hPo1⟩, hS1.F ht2⟩) hS1.2.2 dL_hearer_16 hlk)
  · obtain ⟨hw, hne⟩ := hw
    subst hw
    obtain ⟨ad', hR, hP1⟩ := hB
    rw [ht] at hP1
    have hPo1 : va_P D vwCl [(qo, outE tc w)] H1 := hPo.kept fun k q hq => by
      have hk : k = 0 := by have := (List.getElem?_eq_some_iff.mp hq).1; simpa using this
      subst hk
      cases hq
      exact hkeep qo hqlt hqo
    have hDw : va_D (HA ad qo s.heap.size x) (wl ad' tc σ' 0 (LYC x false false) ++ [(qo, outE tc w)]) := by
      rw [va_D_app]
      refine ⟨⟨(hR.2.D).1, fun k q hq => Or.inl ((hR.2.D (tc := tc) (σ := σ')).2 k q hq)⟩, ⟨fun i j p q hi hj e9 => ?_, fun k q hq => ?_⟩, fun p hp q hq e9 => ?_⟩
      · have h1 := (List.getElem?_eq_some_iff.mp hi).1
        have h2 := (List.getElem?_eq_some_iff.mp hj).1
        simp at h1 h2
        omega
      · have hk : k = 0 := by have := (List.getElem?_eq_some_iff.mp hq).1; simpa using this
        subst hk
        cases hq
        exact Or.inr rfl
      · obtain ⟨k, hk⟩ := List.mem_iff_getElem?.mp hp
        have h1 := (hR.2.D (tc := tc) (σ := σ')).2 k p hk
        simp at hq
        subst hq
        rw [e9] at h1
        exact hqo h1
    have hin : inb 0 1 := ⟨by omega, by omega⟩
    refine lv_i2l (v := Int64.ofInt r) hx hb dL_hearer_8 (by rcases hr with q | q; exact absurd q hne; exact Int32.toInt64_ofInt q.1 q.2) ?_
    refine va_last (q0 := (wl ad' tc σ' 0 (LYC x false false)).length) (t0 := 0) (tys := [(tc 3, aty 3)]) (f := w) (i := Int32.ofInt 0) hx hb (⟨hKK.1, fun k q h => by cases k with | zero => (cases h; exact hKK.2.1 _ _ _ _ (lyC_4 (x := x) (y := false) (z := false))) | succ k => simp at h⟩) (va_P_app.mpr ⟨hP1, hPo1⟩) hDw hS1 (by rw [List.getElem?_append_right (Nat.le_refl _), Nat.sub_self]; rfl) rfl (v_in hin (by decide)) dL_hearer_9 (fun H2 locs2 p2 d2 s2 => ?_)
    rw [set_last] at p2
    have hz0 : (Int32.ofInt 0).toNatClampNeg = 0 := by decide
    rw [hz0] at p2
    refine lv_goto (tgt := 17) hx hb dL_hearer_10 (by decide) ?_
    refine lv_iconst (v := Int32.ofInt 0) hx hb dL_hearer_17 (by decide) ?_
    refine vx_ret (W.iret hx hb hret (fun t ht2 hW => ⟨⟨Int32.ofInt 0, (), rfl, by rw [if_neg hne], ad', hR.1 0 (keep0 0), hR.2, by rw [ht2]; exact (va_P_app.mp p2).1, by rw [ht2, if_neg hne]; exact (va_P_app.mp p2).2⟩, s2.F ht2⟩) s2.2.2 dL_hearer_18 hlk)

set_option maxRecDepth 100000 in
set_option maxHeartbeats 4000000 in
theorem ch_sender {l : Launch} (hst : l.stackTraces = false) {D : va_G} {tc : Nat → ClassId} {ad : Nat → Nat} {qo sz : Nat} {x : Bool} {F : Nat} {σ σ' : St} {p0 p1 r : Int} {w : Nat → Int64} (ho : f_W_sender F σ p0 p1 = some (r, σ')) (hr : r = THR ∨ rng r) : vx_Met l yL_sender (Cond.codeWith yL_sender cL_sender 5 (some .int) [(0, 10, 13, 13)] :: lw_g) rmH (va_Pc [.ref (ad 0), vi p0, vi p1, .ref qo] (HPc D tc ad qo sz x σ w)) (va_Qi (S := Unit) (fun v _ => v = Int32.ofInt (if r = THR then 1 else 0)) (fun _ t => HB D tc ad qo sz x σ' (if r = THR then w else vp_updL w 0 (Int64.ofInt r)) t) (HA ad qo sz x)) (fun _ _ _ => False) 1 6 (HA ad qo sz x) := by
  refine vx_ofWH (cc := cL_sender) (maxL := 5) (ret := some .int) (hh := [(0, 10, 13, 13)]) (by decide +kernel) rfl ?_
  intro p e s m args below meth c s₁ B hml hv
  obtain ⟨rfl, hsz, hP, hD, hKK, hTh⟩ := hv
  subst hsz
  have hts0 : ∀ w ∈ (Cond.codeWith yL_sender cL_sender 5 (some .int) [(0, 10, 13, 13)] :: lw_g), w.before ([.ref (ad 0), vi p0, vi p1, .ref qo] : List Value).toArray s = true := atoms_spec B.pre
  have hts : ∀ w ∈ lw_g, w.before ([.ref (ad 0), vi p0, vi p1, .ref qo] : List Value).toArray s = true := fun w h => hts0 w (List.mem_cons_of_mem _ h)
  have hx := B.exec
  have hb := B.bytes
  have hret := B.returns
  have hlk := B.notSynchronized
  have hown : s.vm.findClass RL = some m.cls := findClass_of_methodNamed B.named
  have hET := vx_table (x := yL_sender) B (hts0 _ List.mem_cons_self)
  have hl := lv_entry ([.ref (ad 0), vi p0, vi p1, .ref qo]) (n := 5) (Nat.le_of_ble_eq_true rfl)
  rw [lg_entry_eq]
  generalize (lg_sl ([.ref (ad 0), vi p0, vi p1, .ref qo]) ++ List.replicate (5 - (lg_sl ([.ref (ad 0), vi p0, vi p1, .ref qo])).length) Slot.unset).toArray = ls at hl ⊢
  have hl : lv_has ls 5 [(0, .ref (ad 0)), (1, vi p0), (2, vi p1), (3, .ref qo)] := hl
  have hPa := (va_P_app.mp hP).1
  have hPo := (va_P_app.mp hP).2
  have hDa := (va_D_app.mp hD).1
  have hDx := (va_D_app.mp hD).2.2
  have hAsz := AdOK_of_D s.heap.size hDa
  have he := wl_get (ad := ad) (tc := tc) (σ := σ) (k := 0) (lyC_0 (x := x) (y := false) (z := false))
  rw [Nat.zero_add] at he
  have hS : va_S (HA ad qo s.heap.size x) s.heap s.heap [] := va_S.rf
  refine lv_aload_n hx hb dL_sender_0 rfl (lv_at hl 3 rfl) ?_
  refine lv_iconst (v := Int32.ofInt 0) hx hb dL_sender_1 (by decide) ?_
  refine lv_aload_n hx hb dL_sender_2 rfl (lv_at hl 0 rfl) ?_
  refine lv_iload_n hx hb dL_sender_3 rfl (lv_at hl 1 rfl) ?_
  refine lv_iload_n hx hb dL_sender_4 rfl (lv_at hl 2 rfl) ?_
  have hd : vx_Met l yX10_sender _ (rmK 11 6) _ _ _ 1 6 _ := c_W_sender (x := x) F σ p0 p1 r σ' ho l D ad tc s.heap.size hst
  have cw : CallW rmH s ([.ref (ad 0), vi p0, vi p1, .ref qo] : List Value).toArray RL RX10 15 yX10_sender cX10_sender 3 (some .int) (Cond.code yX10_sender cX10_sender 3 (some .int) :: lw_g) (rmK 11 6) 1 6 2 := ⟨callB_of 2 hts (lg_good mf_L_15.2.2.2.1) rfl rfl rfl (hts _ mf_L_15.2.2.1) (hts _ mf_L_15.1) mf_L_15.2.2.2.2.1 ⟨Nat.le_of_ble_eq_true rfl, Nat.le_of_ble_eq_true rfl⟩, hts _ mf_L_15.2.1, hts _ mf_L_15.2.2.2.2.2⟩
  have run0 := vx_runV (As := [vi p0, vi p1]) (rest := [.int (Int32.ofInt 0), .ref qo]) (g := F0 m _ ls ([vi p1, vi p0, .ref (ad 0), .int (Int32.ofInt 0), .ref qo])) (cells := 0) (slots := 0) (e := e) (below := below) (meth := meth) (H := s.heap) (locs := []) ⟨hx, hb, hml, hown, hts⟩ hd cw ⟨CtX_blind, va_recv (⟨hKK.1, fun k q h => by simp at h⟩ : va_K D vwCl [] s) hPa rfl he, fun U hU hW => ⟨rfl, by rw [hU], hAsz, LYC_ok, by rw [hU]; exact hPa, hKK.warm hW, ThS_to hU hW (fun q h => Or.inl h) (fun _ _ _ => rfl) hTh⟩⟩ rfl rfl hl.1 rfl (lv_room (Nat.le_of_ble_eq_true rfl)) dL_sender_5 ⟨Nat.le_of_ble_eq_true rfl, Nat.le_of_ble_eq_true rfl⟩
  have run := vx_Run_mono (Qb := va_Qi (S := Unit) (fun v _ => v = Int32.ofInt r ∧ r ≠ THR) (fun _ t => Bw 0 (LYC x false false) ad tc D (fA (LYC x false false) ad s.heap.size) σ' t) (fA (LYC x false false) ad s.heap.size) #[]) (XD := vx_X (S := Unit) (fun _ => r = THR) (fun E _ t => E = nsE ∧ Bw 0 (LYC x false false) ad tc D (fA (LYC x false false) ad s.heap.size) σ' t) (fA (LYC x false false) ad s.heap.size)) run0 (fun st v t hq => by
    obtain ⟨hne, ⟨rv, u, h1, h2, h3⟩, h4⟩ := hq
    exact ⟨⟨rv, u, h1, ⟨h2, hne⟩, h3⟩, h4⟩) (fun E st t hq => by
    obtain ⟨h1, h2, h3, h4⟩ := hq
    exact ⟨(), h1, ⟨h2, h3⟩, h4⟩)
  have hsub : ∀ q, fA (LYC x false false) ad s.heap.size q → HA ad qo s.heap.size x q := fun q h => Or.inl h
  have hqo : ¬ fA (LYC x false false) ad s.heap.size qo := by
    rintro (⟨j, hj, ej⟩ | hge)
    · have hg := wl_get (ad := ad) (tc := tc) (σ := σ) (k := 0) (List.getElem?_eq_getElem hj)
      rw [Nat.zero_add] at hg
      exact hDx _ (List.mem_of_getElem? hg) (qo, outE tc w) List.mem_cons_self ej.symm
    · have := (hPo 0 (qo, outE tc w) rfl).lt
      simp only at this
      omega
  have hqlt : qo < s.heap.size := (hPo 0 (qo, outE tc w) rfl).lt
  refine vx_calli run hS (fun q _ h => hsub q h) (fun q h => hsub q h) (fun q _ h => hsub q h) (fun E ce q9 u t H1 locs1 ht hvm hpx hB hz1 hkeep hS1 hce hcv hcl => ?_) (fun rv u t H1 locs1 ht hvm hw hB hz1 hkeep hS1 => ?_)
  · have hpx : r = THR := hpx
    obtain ⟨hE, ad', hR, hP1⟩ := hB
    subst hE
    rw [ht] at hP1
    have hPo1 : va_P D vwCl [(qo, outE tc w)] H1 := hPo.kept fun k q hq => by
      have hk : k = 0 := by have := (List.getElem?_eq_some_iff.mp hq).1; simpa using this
      subst hk
      cases hq
      exact hkeep qo hqlt hqo
    refine vx_catch (own := RL) (name := nsE) hown [] ⟨0, 10, 13, 13⟩ [] (by rw [hET]; rfl) (fun z hz => by cases hz) rfl (by decide) (hts _ hl_cls) (va_Nw.use (th_on _ (by decide +kernel)) (hTh.2.2 _ (by decide +kernel))) hce hcv hcl ?_
    refine lv_astore (lv' := [(4, .ref q9), (0, .ref (ad 0)), (1, vi p0), (2, vi p1), (3, .ref qo)]) hx hb dL_sender_13 hl (by decide) rfl (fun ls hl => ?_)
    refine lv_iconst (v := Int32.ofInt 1) hx hb dL_sender_15 (by decide) ?_
    refine vx_ret (W.iret hx hb hret (fun t ht2 hW => ⟨⟨Int32.ofInt 1, (), rfl, by rw [if_pos hpx], ad', hR.1 0 (keep0 0), hR.2, by rw [ht2]; exact hP1, by rw [ht2, if_pos hpx]; exact hPo1⟩, hS1.F ht2⟩) hS1.2.2 dL_sender_16 hlk)
  · obtain ⟨hw, hne⟩ := hw
    subst hw
    obtain ⟨ad', hR, hP1⟩ := hB
    rw [ht] at hP1
    have hPo1 : va_P D vwCl [(qo, outE tc w)] H1 := hPo.kept fun k q hq => by
      have hk : k = 0 := by have := (List.getElem?_eq_some_iff.mp hq).1; simpa using this
      subst hk
      cases hq
      exact hkeep qo hqlt hqo
    have hDw : va_D (HA ad qo s.heap.size x) (wl ad' tc σ' 0 (LYC x false false) ++ [(qo, outE tc w)]) := by
      rw [va_D_app]
      refine ⟨⟨(hR.2.D).1, fun k q hq => Or.inl ((hR.2.D (tc := tc) (σ := σ')).2 k q hq)⟩, ⟨fun i j p q hi hj e9 => ?_, fun k q hq => ?_⟩, fun p hp q hq e9 => ?_⟩
      · have h1 := (List.getElem?_eq_some_iff.mp hi).1
        have h2 := (List.getElem?_eq_some_iff.mp hj).1
        simp at h1 h2
        omega
      · have hk : k = 0 := by have := (List.getElem?_eq_some_iff.mp hq).1; simpa using this
        subst hk
        cases hq
        exact Or.inr rfl
      · obtain ⟨k, hk⟩ := List.mem_iff_getElem?.mp hp
        have h1 := (hR.2.D (tc := tc) (σ := σ')).2 k p hk
        simp at hq
        subst hq
        rw [e9] at h1
        exact hqo h1
    have hin : inb 0 1 := ⟨by omega, by omega⟩
    refine lv_i2l (v := Int64.ofInt r) hx hb dL_sender_8 (by rcases hr with q | q; exact absurd q hne; exact Int32.toInt64_ofInt q.1 q.2) ?_
    refine va_last (q0 := (wl ad' tc σ' 0 (LYC x false false)).length) (t0 := 0) (tys := [(tc 3, aty 3)]) (f := w) (i := Int32.ofInt 0) hx hb (⟨hKK.1, fun k q h => by cases k with | zero => (cases h; exact hKK.2.1 _ _ _ _ (lyC_4 (x := x) (y := false) (z := false))) | succ k => simp at h⟩) (va_P_app.mpr ⟨hP1, hPo1⟩) hDw hS1 (by rw [List.getElem?_append_right (Nat.le_refl _), Nat.sub_self]; rfl) rfl (v_in hin (by decide)) dL_sender_9 (fun H2 locs2 p2 d2 s2 => ?_)
    rw [set_last] at p2
    have hz0 : (Int32.ofInt 0).toNatClampNeg = 0 := by decide
    rw [hz0] at p2
    refine lv_goto (tgt := 17) hx hb dL_sender_10 (by decide) ?_
    refine lv_iconst (v := Int32.ofInt 0) hx hb dL_sender_17 (by decide) ?_
    refine vx_ret (W.iret hx hb hret (fun t ht2 hW => ⟨⟨Int32.ofInt 0, (), rfl, by rw [if_neg hne], ad', hR.1 0 (keep0 0), hR.2, by rw [ht2]; exact (va_P_app.mp p2).1, by rw [ht2, if_neg hne]; exact (va_P_app.mp p2).2⟩, s2.F ht2⟩) s2.2.2 dL_sender_18 hlk)

set_option maxRecDepth 100000 in
set_option maxHeartbeats 4000000 in
theorem ch_cross {l : Launch} (hst : l.stackTraces = false) {D : va_G} {tc : Nat → ClassId} {ad : Nat → Nat} {qo sz : Nat} {x : Bool} {F : Nat} {σ σ' : St} {p0 p1 p2 r : Int} {w : Nat → Int64} (ho : f_W_cross F σ p0 p1 p2 = some (r, σ'))  : vx_Met l yL_cross (Cond.codeWith yL_cross cL_cross 6 (some .int) [(0, 11, 14, 13)] :: lw_g) rmH (va_Pc [.ref (ad 0), vi p0, vi p1, vi p2, .ref qo] (HPc D tc ad qo sz x σ w)) (va_Qi (S := Unit) (fun v _ => v = Int32.ofInt (if r = THR then 1 else 0)) (fun _ t => HB D tc ad qo sz x σ' (if r = THR then w else vp_updL w 0 (Int64.ofInt r)) t) (HA ad qo sz x)) (fun _ _ _ => False) 1 6 (HA ad qo sz x) := by
  refine vx_ofWH (cc := cL_cross) (maxL := 6) (ret := some .int) (hh := [(0, 11, 14, 13)]) (by decide +kernel) rfl ?_
  intro p e s m args below meth c s₁ B hml hv
  obtain ⟨rfl, hsz, hP, hD, hKK, hTh⟩ := hv
  subst hsz
  have hts0 : ∀ w ∈ (Cond.codeWith yL_cross cL_cross 6 (some .int) [(0, 11, 14, 13)] :: lw_g), w.before ([.ref (ad 0), vi p0, vi p1, vi p2, .ref qo] : List Value).toArray s = true := atoms_spec B.pre
  have hts : ∀ w ∈ lw_g, w.before ([.ref (ad 0), vi p0, vi p1, vi p2, .ref qo] : List Value).toArray s = true := fun w h => hts0 w (List.mem_cons_of_mem _ h)
  have hx := B.exec
  have hb := B.bytes
  have hret := B.returns
  have hlk := B.notSynchronized
  have hown : s.vm.findClass RL = some m.cls := findClass_of_methodNamed B.named
  have hET := vx_table (x := yL_cross) B (hts0 _ List.mem_cons_self)
  have hl := lv_entry ([.ref (ad 0), vi p0, vi p1, vi p2, .ref qo]) (n := 6) (Nat.le_of_ble_eq_true rfl)
  rw [lg_entry_eq]
  generalize (lg_sl ([.ref (ad 0), vi p0, vi p1, vi p2, .ref qo]) ++ List.replicate (6 - (lg_sl ([.ref (ad 0), vi p0, vi p1, vi p2, .ref qo])).length) Slot.unset).toArray = ls at hl ⊢
  have hl : lv_has ls 6 [(0, .ref (ad 0)), (1, vi p0), (2, vi p1), (3, vi p2), (4, .ref qo)] := hl
  have hPa := (va_P_app.mp hP).1
  have hPo := (va_P_app.mp hP).2
  have hDa := (va_D_app.mp hD).1
  have hDx := (va_D_app.mp hD).2.2
  have hAsz := AdOK_of_D s.heap.size hDa
  have he := wl_get (ad := ad) (tc := tc) (σ := σ) (k := 0) (lyC_0 (x := x) (y := false) (z := false))
  rw [Nat.zero_add] at he
  have hS : va_S (HA ad qo s.heap.size x) s.heap s.heap [] := va_S.rf
  refine lv_aload hx hb dL_cross_0 (lv_at hl 4 rfl) ?_
  refine lv_iconst (v := Int32.ofInt 0) hx hb dL_cross_2 (by decide) ?_
  refine lv_aload_n hx hb dL_cross_3 rfl (lv_at hl 0 rfl) ?_
  refine lv_iload_n hx hb dL_cross_4 rfl (lv_at hl 1 rfl) ?_
  refine lv_iload_n hx hb dL_cross_5 rfl (lv_at hl 2 rfl) ?_
  refine lv_iload_n hx hb dL_cross_6 rfl (lv_at hl 3 rfl) ?_
  have hd : vx_Met l yX10_cross _ (rmK 12 6) _ _ _ 1 6 _ := c_W_cross (x := x) F σ p0 p1 p2 r σ' ho l D ad tc s.heap.size hst
  have cw : CallW rmH s ([.ref (ad 0), vi p0, vi p1, vi p2, .ref qo] : List Value).toArray RL RX10 18 yX10_cross cX10_cross 8 (some .long) (Cond.code yX10_cross cX10_cross 8 (some .long) :: lw_g) (rmK 12 6) 1 6 3 := ⟨callB_of 3 hts (lg_good mf_L_18.2.2.2.1) rfl rfl rfl (hts _ mf_L_18.2.2.1) (hts _ mf_L_18.1) mf_L_18.2.2.2.2.1 ⟨Nat.le_of_ble_eq_true rfl, Nat.le_of_ble_eq_true rfl⟩, hts _ mf_L_18.2.1, hts _ mf_L_18.2.2.2.2.2⟩
  have run0 := vx_runV (As := [vi p0, vi p1, vi p2]) (rest := [.int (Int32.ofInt 0), .ref qo]) (g := F0 m _ ls ([vi p2, vi p1, vi p0, .ref (ad 0), .int (Int32.ofInt 0), .ref qo])) (cells := 0) (slots := 0) (e := e) (below := below) (meth := meth) (H := s.heap) (locs := []) ⟨hx, hb, hml, hown, hts⟩ hd cw ⟨CtX_blind, va_recv (⟨hKK.1, fun k q h => by simp at h⟩ : va_K D vwCl [] s) hPa rfl he, fun U hU hW => ⟨rfl, by rw [hU], hAsz, LYC_ok, by rw [hU]; exact hPa, hKK.warm hW, ThS_to hU hW (fun q h => Or.inl h) (fun _ _ _ => rfl) hTh⟩⟩ rfl rfl hl.1 rfl (lv_room (Nat.le_of_ble_eq_true rfl)) dL_cross_7 ⟨Nat.le_of_ble_eq_true rfl, Nat.le_of_ble_eq_true rfl⟩
  have run := vx_Run_mono (Qb := va_Ql (S := Unit) (fun v _ => v = Int64.ofInt r ∧ r ≠ THR) (fun _ t => Bw 0 (LYC x false false) ad tc D (fA (LYC x false false) ad s.heap.size) σ' t) (fA (LYC x false false) ad s.heap.size) #[]) (XD := vx_X (S := Unit) (fun _ => r = THR) (fun E _ t => E = nsE ∧ Bw 0 (LYC x false false) ad tc D (fA (LYC x false false) ad s.heap.size) σ' t) (fA (LYC x false false) ad s.heap.size)) run0 (fun st v t hq => by
    obtain ⟨hne, ⟨rv, u, h1, h2, h3⟩, h4⟩ := hq
    exact ⟨⟨rv, u, h1, ⟨h2, hne⟩, h3⟩, h4⟩) (fun E st t hq => by
    obtain ⟨h1, h2, h3, h4⟩ := hq
    exact ⟨(), h1, ⟨h2, h3⟩, h4⟩)
  have hsub : ∀ q, fA (LYC x false false) ad s.heap.size q → HA ad qo s.heap.size x q := fun q h => Or.inl h
  have hqo : ¬ fA (LYC x false false) ad s.heap.size qo := by
    rintro (⟨j, hj, ej⟩ | hge)
    · have hg := wl_get (ad := ad) (tc := tc) (σ := σ) (k := 0) (List.getElem?_eq_getElem hj)
      rw [Nat.zero_add] at hg
      exact hDx _ (List.mem_of_getElem? hg) (qo, outE tc w) List.mem_cons_self ej.symm
    · have := (hPo 0 (qo, outE tc w) rfl).lt
      simp only at this
      omega
  have hqlt : qo < s.heap.size := (hPo 0 (qo, outE tc w) rfl).lt
  refine vx_calll run hS (fun q _ h => hsub q h) (fun q h => hsub q h) (fun q _ h => hsub q h) (fun E ce q9 u t H1 locs1 ht hvm hpx hB hz1 hkeep hS1 hce hcv hcl => ?_) (fun rv u t H1 locs1 ht hvm hw hB hz1 hkeep hS1 => ?_)
  · have hpx : r = THR := hpx
    obtain ⟨hE, ad', hR, hP1⟩ := hB
    subst hE
    rw [ht] at hP1
    have hPo1 : va_P D vwCl [(qo, outE tc w)] H1 := hPo.kept fun k q hq => by
      have hk : k = 0 := by have := (List.getElem?_eq_some_iff.mp hq).1; simpa using this
      subst hk
      cases hq
      exact hkeep qo hqlt hqo
    refine vx_catch (own := RL) (name := nsE) hown [] ⟨0, 11, 14, 13⟩ [] (by rw [hET]; rfl) (fun z hz => by cases hz) rfl (by decide) (hts _ hl_cls) (va_Nw.use (th_on _ (by decide +kernel)) (hTh.2.2 _ (by decide +kernel))) hce hcv hcl ?_
    refine lv_astore (lv' := [(5, .ref q9), (0, .ref (ad 0)), (1, vi p0), (2, vi p1), (3, vi p2), (4, .ref qo)]) hx hb dL_cross_14 hl (by decide) rfl (fun ls hl => ?_)
    refine lv_iconst (v := Int32.ofInt 1) hx hb dL_cross_16 (by decide) ?_
    refine vx_ret (W.iret hx hb hret (fun t ht2 hW => ⟨⟨Int32.ofInt 1, (), rfl, by rw [if_pos hpx], ad', hR.1 0 (keep0 0), hR.2, by rw [ht2]; exact hP1, by rw [ht2, if_pos hpx]; exact hPo1⟩, hS1.F ht2⟩) hS1.2.2 dL_cross_17 hlk)
  · obtain ⟨hw, hne⟩ := hw
    subst hw
    obtain ⟨ad', hR, hP1⟩ := hB
    rw [ht] at hP1
    have hPo1 : va_P D vwCl [(qo, outE tc w)] H1 := hPo.kept fun k q hq => by
      have hk : k = 0 := by have := (List.getElem?_eq_some_iff.mp hq).1; simpa using this
      subst hk
      cases hq
      exact hkeep qo hqlt hqo
    have hDw : va_D (HA ad qo s.heap.size x) (wl ad' tc σ' 0 (LYC x false false) ++ [(qo, outE tc w)]) := by
      rw [va_D_app]
      refine ⟨⟨(hR.2.D).1, fun k q hq => Or.inl ((hR.2.D (tc := tc) (σ := σ')).2 k q hq)⟩, ⟨fun i j p q hi hj e9 => ?_, fun k q hq => ?_⟩, fun p hp q hq e9 => ?_⟩
      · have h1 := (List.getElem?_eq_some_iff.mp hi).1
        have h2 := (List.getElem?_eq_some_iff.mp hj).1
        simp at h1 h2
        omega
      · have hk : k = 0 := by have := (List.getElem?_eq_some_iff.mp hq).1; simpa using this
        subst hk
        cases hq
        exact Or.inr rfl
      · obtain ⟨k, hk⟩ := List.mem_iff_getElem?.mp hp
        have h1 := (hR.2.D (tc := tc) (σ := σ')).2 k p hk
        simp at hq
        subst hq
        rw [e9] at h1
        exact hqo h1
    have hin : inb 0 1 := ⟨by omega, by omega⟩

    refine va_last (q0 := (wl ad' tc σ' 0 (LYC x false false)).length) (t0 := 0) (tys := [(tc 3, aty 3)]) (f := w) (i := Int32.ofInt 0) hx hb (⟨hKK.1, fun k q h => by cases k with | zero => (cases h; exact hKK.2.1 _ _ _ _ (lyC_4 (x := x) (y := false) (z := false))) | succ k => simp at h⟩) (va_P_app.mpr ⟨hP1, hPo1⟩) hDw hS1 (by rw [List.getElem?_append_right (Nat.le_refl _), Nat.sub_self]; rfl) rfl (v_in hin (by decide)) dL_cross_10 (fun H2 locs2 p2 d2 s2 => ?_)
    rw [set_last] at p2
    have hz0 : (Int32.ofInt 0).toNatClampNeg = 0 := by decide
    rw [hz0] at p2
    refine lv_goto (tgt := 18) hx hb dL_cross_11 (by decide) ?_
    refine lv_iconst (v := Int32.ofInt 0) hx hb dL_cross_18 (by decide) ?_
    refine vx_ret (W.iret hx hb hret (fun t ht2 hW => ⟨⟨Int32.ofInt 0, (), rfl, by rw [if_neg hne], ad', hR.1 0 (keep0 0), hR.2, by rw [ht2]; exact (va_P_app.mp p2).1, by rw [ht2, if_neg hne]; exact (va_P_app.mp p2).2⟩, s2.F ht2⟩) s2.2.2 dL_cross_19 hlk)

