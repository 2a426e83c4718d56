def R_law : String := "WaveRowsLaw"
def lw_P (b : Addr) (xs : List Int32) (args : Array Value) (s : State) : Prop := args = #[.ref b] ∧ s.IntsAt b xs ∧ xs.length ≤ 3072 ∧ (Jvm.Cond.and given_1 narrow_1).before args s = true
def lw_Q (_ : Array Value) (s : State) (o : Outcome) (t : State) : Prop := o = .returned (some (.int 1)) ∧ Framed s o t [] 601024 7293034
def lw_Z (below : List Frame) (a : Array Value) (s : State) : State → Prop := fun t => ∃ o, t.status = .running ∧ Ended t below o ∧ lw_Q a s o t
/-- the law's own end, with 1 on the stack, nothing written that was there before, its room as the claim has it -/
theorem lw_ret {p : Program} {l : Launch} {e : Env} {s : State} {m : MethodId} {below : List Frame} {meth : Method} {c : Code} {b : Nat} (hx : p.tables.exec = Jvm.exec) (hb : c.code = code) (hr : meth.sig.returnType = ret) (hlocks : meth.locks = false) {pc : Nat} {H : Heap} {ls : Array Slot} (hdg : decode code pc = .ok (.ireturn, 1)) : W p l e room_1 s m #[Value.ref b] below meth c H [] 601024 7293034 (lw_Z below #[Value.ref b] s) (F0 m pc ls [.int 1]) := by
  intro T hT X
  obtain ⟨fs, hret, hrun, hended, hW, hframe⟩ := X.leave (v := some (.int 1)) (hlocks := hlocks) (fun h => by rw [hr] at h; cases h)
  have hmeth' : T.vm.method? m = some meth := X.method'
  refine ⟨T.setFrames fs, ?_, .returned (some (.int 1)), hrun, hended, rfl, ⟨_, rfl⟩, hW, hframe⟩
  jvm_step X.here [X.here.top, hx, hb, hdg, hmeth', hr, ret, narrow_b1]
  (try refine ⟨rfl, ?_⟩); (try refine ⟨rfl, ?_⟩)
  first | (intro acts; rw [hret _ acts rfl rfl rfl]) | rw [hret _ _ rfl rfl rfl]
  exact Steps.refl _
/-- what holds at the law's entry: the machine, the code, the tables' words (any of lw_tbl by 'hts w (by decide +kernel)'), the script of L ints xs at the cell b, what the Statement gives of the start (any of its parts by flat_of_before) -/
def lw_At (p : Program) (s : State) (m : MethodId) (meth : Method) (c : Code) (b L : Nat) (xs : Nat → Int32) : Prop :=
  p.tables.exec = Jvm.exec ∧ c.code = code ∧ meth.sig.returnType = ret ∧ c.maxLocals = 8 ∧ s.vm.findClass R_law = some m.cls ∧ (∀ w ∈ lw_tbl, w.before #[Value.ref b] s = true) ∧ va_X b L xs s s.heap ∧ b < s.heap.size ∧ meth.locks = false ∧ (Jvm.Cond.and given_1 narrow_1).before #[Value.ref b] s = true

theorem va_D_iff {A : Nat → Prop} {ws : va_W} : va_D A ws ↔ (ws.map Prod.fst).Nodup ∧ ∀ q ∈ ws, A q.1 := by
  constructor
  · intro h
    refine ⟨?_, fun q hq => ?_⟩
    · rw [List.nodup_iff_pairwise_ne, List.pairwise_iff_getElem]
      intro i j hi hj hij e
      rw [List.length_map] at hi hj
      rw [List.getElem_map, List.getElem_map] at e
      have := h.1 i j _ _ (List.getElem?_eq_getElem hi) (List.getElem?_eq_getElem hj) e
      omega
    · obtain ⟨k, hk⟩ := List.mem_iff_getElem?.mp hq
      exact h.2 k q hk
  · intro h
    refine ⟨fun i j p q hi hj e => ?_, fun k q hk => h.2 q (List.mem_of_getElem? hk)⟩
    have h1 := h.1
    rw [List.nodup_iff_pairwise_ne, List.pairwise_iff_getElem] at h1
    obtain ⟨li, ei⟩ := List.getElem?_eq_some_iff.mp hi
    obtain ⟨lj, ej⟩ := List.getElem?_eq_some_iff.mp hj
    rcases Nat.lt_trichotomy i j with c | c | c
    · exact absurd (by rw [List.getElem_map, List.getElem_map, ei, ej]; exact e) (h1 i j (by simpa using li) (by simpa using lj) c)
    · exact c
    · exact absurd (by rw [List.getElem_map, List.getElem_map, ei, ej]; exact e.symm) (h1 j i (by simpa using lj) (by simpa using li) c)
theorem va_D_perm {A : Nat → Prop} {a b : va_W} (hp : a.Perm b) (h : va_D A a) : va_D A b := by
  rw [va_D_iff] at h ⊢
  exact ⟨(hp.map Prod.fst).nodup_iff.mp h.1, fun q hq => h.2 q (hp.mem_iff.mpr hq)⟩
theorem va_P_app {D : va_G} {a b : va_W} {H : Heap} : va_P D vwCl (a ++ b) H ↔ va_P D vwCl a H ∧ va_P D vwCl b H := by
  constructor
  · intro h
    refine ⟨fun k q hk => ?_, fun k q hk => ?_⟩
    · obtain ⟨n, hn⟩ := List.mem_iff_getElem?.mp (List.mem_append_left b (List.mem_of_getElem? hk))
      exact h n q hn
    · obtain ⟨n, hn⟩ := List.mem_iff_getElem?.mp (List.mem_append_right a (List.mem_of_getElem? hk))
      exact h n q hn
  · intro h; exact h.1.app h.2
theorem va_D_app {A : Nat → Prop} {a b : va_W} : va_D A (a ++ b) ↔ va_D A a ∧ va_D A b ∧ ∀ p ∈ a, ∀ q ∈ b, p.1 ≠ q.1 := by
  rw [va_D_iff, va_D_iff, va_D_iff, List.map_append, List.nodup_append]
  constructor
  · rintro ⟨⟨h1, h2, h3⟩, h4⟩
    exact ⟨⟨h1, fun q hq => h4 q (List.mem_append_left _ hq)⟩, ⟨h2, fun q hq => h4 q (List.mem_append_right _ hq)⟩, fun p hp q hq => h3 p.1 (List.mem_map_of_mem hp) q.1 (List.mem_map_of_mem hq)⟩
  · rintro ⟨⟨h1, h2⟩, ⟨h3, h4⟩, h5⟩
    refine ⟨⟨h1, h3, fun a ha b hb => ?_⟩, fun q hq => (List.mem_append.mp hq).elim (h2 q) (h4 q)⟩
    obtain ⟨p, hp, rfl⟩ := List.mem_map.mp ha
    obtain ⟨q, hq, rfl⟩ := List.mem_map.mp hb
    exact h5 p hp q hq
/-- behind a call over the world ws1: the rest is as it was -/
theorem join2 {A0 : Nat → Prop} {D : va_G} {ad ad' : Nat → Nat} {tc : Nat → ClassId} {σ σ' : St} {LY LY' : List Sh} {rest : va_W} {H H1 : Heap} (hlen : LY'.length = LY.length) (hP : va_P D vwCl (wl ad tc σ 0 LY ++ rest) H) (hD : va_D A0 (wl ad tc σ 0 LY ++ rest)) (hA0 : ∀ q, H.size ≤ q → A0 q) (hk : ∀ q : Nat, q < H.size → ¬ fA LY ad H.size q → H1[q]? = H[q]?) (hP1 : va_P D vwCl (wl ad' tc σ' 0 LY') H1) (hOK : AdOK LY' ad' (fA LY ad H.size)) : va_P D vwCl (wl ad' tc σ' 0 LY' ++ rest) H1 ∧ va_D A0 (wl ad' tc σ' 0 LY' ++ rest) := by
  rw [va_P_app] at hP ⊢
  rw [va_D_app] at hD ⊢
  obtain ⟨hPa, hPr⟩ := hP
  obtain ⟨hDa, hDr, hDx⟩ := hD
  have hmem : ∀ j, j < LY.length → ∃ e, (ad j, e) ∈ wl ad tc σ 0 LY := by
    intro j hj
    have := wl_get (ad := ad) (tc := tc) (σ := σ) (k := 0) (List.getElem?_eq_getElem hj)
    rw [Nat.zero_add] at this
    exact ⟨_, List.mem_of_getElem? this⟩
  have hout : ∀ q ∈ rest, ¬ fA LY ad H.size q.1 := by
    intro q hq hf
    rcases hf with ⟨j, hj, e⟩ | hf
    · obtain ⟨e2, he⟩ := hmem j hj
      exact hDx _ he _ hq e.symm
    · obtain ⟨k, hk2⟩ := List.mem_iff_getElem?.mp hq
      have := (hPr k q hk2).lt
      omega
  refine ⟨⟨hP1, hPr.kept fun k q hq => hk q.1 (hPr k q hq).lt (hout q (List.mem_of_getElem? hq))⟩, ?_, hDr, ?_⟩
  · have h1 : va_D (fA LY ad H.size) (wl ad' tc σ' 0 LY') := hOK.D
    refine ⟨h1.1, fun k q hq => ?_⟩
    rcases h1.2 k q hq with ⟨j, hj, e⟩ | h2
    · obtain ⟨e2, he⟩ := hmem j hj
      rw [e]
      obtain ⟨n, hn⟩ := List.mem_iff_getElem?.mp he
      exact hDa.2 n _ hn
    · exact hA0 _ h2
  · intro p hp q hq e
    obtain ⟨k, hk2⟩ := List.mem_iff_getElem?.mp hp
    have h1 := hOK.D (tc := tc) (σ := σ') |>.2 k p hk2
    rw [e] at h1
    exact hout q hq h1
theorem AdOK_of_D {A0 : Nat → Prop} {ad : Nat → Nat} {tc : Nat → ClassId} {σ : St} {LY : List Sh} (sz : Nat) (hD : va_D A0 (wl ad tc σ 0 LY)) : AdOK LY ad (fA LY ad sz) := by
  refine ⟨fun i j hi hj e => ?_, fun i hi => Or.inl ⟨i, hi, rfl⟩⟩
  have h1 := wl_get (ad := ad) (tc := tc) (σ := σ) (k := 0) (List.getElem?_eq_getElem hi)
  have h2 := wl_get (ad := ad) (tc := tc) (σ := σ) (k := 0) (List.getElem?_eq_getElem hj)
  rw [Nat.zero_add] at h1 h2
  exact hD.1 i j _ _ h1 h2 e
def outE (tc : Nat → ClassId) (w : Nat → Int64) : va_E := .inl (tc 3, 1, .inr (.inl w))
abbrev KL : Type := (Program × Launch × Env × State × MethodId) × (List Frame × Method × Code) × ((Nat → Nat) × (Nat → ClassId) × va_G) × Nat
def LWd (D : va_G) (tc : Nat → ClassId) (lad : Nat → Nat) (x : Bool) (σ1 σ2 : St) (w : Nat → Int64) (s : State) (H : Heap) : Prop := ∃ ad1 ad2 : Nat → Nat, ad1 0 = lad 1 ∧ ad2 0 = lad 2 ∧ va_P D vwCl (wl ad1 tc σ1 0 (LYC x false false) ++ (wl ad2 tc σ2 0 LYM ++ [(lad 3, outE tc w)])) H ∧ va_D (fun q => s.heap.size ≤ q) (wl ad1 tc σ1 0 (LYC x false false) ++ (wl ad2 tc σ2 0 LYM ++ [(lad 3, outE tc w)]))
def KLOK (N : Nat) (xs : Nat → Int32) (K : KL) : Prop := match K with
  | ((p, l, e, s, m), (below, meth, c), (lad, tc, D), b) => p.tables.exec = Jvm.exec ∧ c.code = cL_law ∧ c.maxLocals = 8 ∧ s.vm.findClass RL = some m.cls ∧ (∀ w ∈ lw_g, w.before #[Value.ref b] s = true) ∧ meth.locks = false ∧ meth.sig.returnType = ret ∧ (∀ x : Bool, KK (LYC x false false) tc D s) ∧ KK LYM tc D s ∧ va_X b N xs s s.heap ∧ b < s.heap.size ∧ lad 0 = b ∧ N ≤ 3072 ∧ l.stackTraces = false ∧ ThS (fun q => s.heap.size ≤ q) s
/-- from here the law comes to its end with true -/
def WL (N : Nat) (xs : Nat → Int32) (K : KL) (pc : Nat) (L : List (Option Value)) (st : List Value) (x : Bool) (σ1 σ2 : St) (w : Nat → Int64) (cu su : Nat) : Prop := KLOK N xs K → match K with
  | ((p, l, e, s, m), (below, meth, c), (lad, tc, D), b) => ∀ (H : Heap) (locs : List Loc) (ls : Array Slot), LWd D tc lad x σ1 σ2 w s H → va_S (fun q => s.heap.size ≤ q) s.heap H locs → LR lad 8 L ls →
    W p l e room_1 s m #[Value.ref b] below meth c H locs cu su (lw_Z below #[Value.ref b] s) (F0 m pc ls (st.map (cv lad)))
section WLr
variable {N : Nat} {xs : Nat → Int32} {K : KL} {pc : Nat} {L : List (Option Value)} {st : List Value} {x : Bool} {σ1 σ2 : St} {w : Nat → Int64} {cu su : Nat}
theorem l_iconst {n : Int} (hd : decode cL_law pc = .ok (.iconst n, 1)) (kk : WL N xs K (pc + 1) L (vi n :: st) x σ1 σ2 w cu su) : WL N xs K pc L st x σ1 σ2 w cu su := by
  intro hK
  obtain ⟨⟨p, l, e, s, m⟩, ⟨below, meth, c⟩, ⟨lad, tc, D⟩, b⟩ := K
  obtain ⟨hx, hb, hml, hown, hts, hlk, hret, hK1, hK2, hX, hbl, hl0, hN, hst, hTh⟩ := id hK
  intro H locs ls hW hS hl
  have kk := kk hK H locs ls hW hS hl
  exact lv_iconst hx hb hd rfl kk
theorem l_bipush {n : Int} (hd : decode cL_law pc = .ok (.bipush n, 2)) (hv : (Int8.ofInt n).toInt32 = Int32.ofInt n) (kk : WL N xs K (pc + 2) L (vi n :: st) x σ1 σ2 w cu su) : WL N xs K pc L st x σ1 σ2 w cu su := by
  intro hK
  obtain ⟨⟨p, l, e, s, m⟩, ⟨below, meth, c⟩, ⟨lad, tc, D⟩, b⟩ := K
  obtain ⟨hx, hb, hml, hown, hts, hlk, hret, hK1, hK2, hX, hbl, hl0, hN, hst, hTh⟩ := id hK
  intro H locs ls hW hS hl
  have kk := kk hK H locs ls hW hS hl
  exact lv_bipush hx hb hd hv kk
theorem l_aload_n {k : Fin 4} {q : Nat} (hd : decode cL_law pc = .ok (.aload_n k, 1)) (hg : lget L k.val = some (.ref q)) (kk : WL N xs K (pc + 1) L (.ref q :: st) x σ1 σ2 w cu su) : WL N xs K pc L st x σ1 σ2 w cu su := by
  intro hK
  obtain ⟨⟨p, l, e, s, m⟩, ⟨below, meth, c⟩, ⟨lad, tc, D⟩, b⟩ := K
  obtain ⟨hx, hb, hml, hown, hts, hlk, hret, hK1, hK2, hX, hbl, hl0, hN, hst, hTh⟩ := id hK
  intro H locs ls hW hS hl
  have kk := kk hK H locs ls hW hS hl
  exact lv_aload_n hx hb hd rfl (hl.2.2 _ _ hg) kk
theorem l_iload {i : Nat} {v : Int} (hd : decode cL_law pc = .ok (.iload i, 2)) (hg : lget L i = some (vi v)) (kk : WL N xs K (pc + 2) L (vi v :: st) x σ1 σ2 w cu su) : WL N xs K pc L st x σ1 σ2 w cu su := by
  intro hK
  obtain ⟨⟨p, l, e, s, m⟩, ⟨below, meth, c⟩, ⟨lad, tc, D⟩, b⟩ := K
  obtain ⟨hx, hb, hml, hown, hts, hlk, hret, hK1, hK2, hX, hbl, hl0, hN, hst, hTh⟩ := id hK
  intro H locs ls hW hS hl
  have kk := kk hK H locs ls hW hS hl
  exact lv_iload hx hb hd (hl.2.2 _ _ hg) kk
theorem l_iadd {a z : Int} (hd : decode cL_law pc = .ok (.iadd, 1)) (kk : WL N xs K (pc + 1) L (vi (a + z) :: st) x σ1 σ2 w cu su) : WL N xs K pc L (vi z :: vi a :: st) x σ1 σ2 w cu su := by
  intro hK
  obtain ⟨⟨p, l, e, s, m⟩, ⟨below, meth, c⟩, ⟨lad, tc, D⟩, b⟩ := K
  obtain ⟨hx, hb, hml, hown, hts, hlk, hret, hK1, hK2, hX, hbl, hl0, hN, hst, hTh⟩ := id hK
  intro H locs ls hW hS hl
  have kk := kk hK H locs ls hW hS hl
  rw [List.map_cons, show cv lad (vi (a + z)) = .int (Int32.ofInt a + Int32.ofInt z) by rw [← Int32.ofInt_add]; rfl] at kk
  exact lv_iadd hx hb hd kk
theorem l_isub {a z : Int} (hd : decode cL_law pc = .ok (.isub, 1)) (kk : WL N xs K (pc + 1) L (vi (a - z) :: st) x σ1 σ2 w cu su) : WL N xs K pc L (vi z :: vi a :: st) x σ1 σ2 w cu su := by
  intro hK
  obtain ⟨⟨p, l, e, s, m⟩, ⟨below, meth, c⟩, ⟨lad, tc, D⟩, b⟩ := K
  obtain ⟨hx, hb, hml, hown, hts, hlk, hret, hK1, hK2, hX, hbl, hl0, hN, hst, hTh⟩ := id hK
  intro H locs ls hW hS hl
  have kk := kk hK H locs ls hW hS hl
  rw [List.map_cons, show cv lad (vi (a - z)) = .int (Int32.ofInt a - Int32.ofInt z) by rw [← Int32.ofInt_sub]; rfl] at kk
  exact lv_isub hx hb hd kk
theorem l_iand {a z : Int} (hd : decode cL_law pc = .ok (.iand, 1)) (kk : WL N xs K (pc + 1) L (vi (iandI a z) :: st) x σ1 σ2 w cu su) : WL N xs K pc L (vi z :: vi a :: st) x σ1 σ2 w cu su := by
  intro hK
  obtain ⟨⟨p, l, e, s, m⟩, ⟨below, meth, c⟩, ⟨lad, tc, D⟩, b⟩ := K
  obtain ⟨hx, hb, hml, hown, hts, hlk, hret, hK1, hK2, hX, hbl, hl0, hN, hst, hTh⟩ := id hK
  intro H locs ls hW hS hl
  have kk := kk hK H locs ls hW hS hl
  rw [List.map_cons, show cv lad (vi (iandI a z)) = .int (Int32.ofInt a &&& Int32.ofInt z) by rw [iandI, vi, w_hi]; rfl] at kk
  exact lv_iand hx hb hd kk
theorem l_i2l {a : Int} (hr : rng a) (hd : decode cL_law pc = .ok (.i2l, 1)) (kk : WL N xs K (pc + 1) L (vl a :: st) x σ1 σ2 w cu su) : WL N xs K pc L (vi a :: st) x σ1 σ2 w cu su := by
  intro hK
  obtain ⟨⟨p, l, e, s, m⟩, ⟨below, meth, c⟩, ⟨lad, tc, D⟩, b⟩ := K
  obtain ⟨hx, hb, hml, hown, hts, hlk, hret, hK1, hK2, hX, hbl, hl0, hN, hst, hTh⟩ := id hK
  intro H locs ls hW hS hl
  have kk := kk hK H locs ls hW hS hl
  exact lv_i2l hx hb hd (Int32.toInt64_ofInt hr.1 hr.2) kk
theorem l_goto {off : Int} {tgt : Nat} (hd : decode cL_law pc = .ok (.goto off, 3)) (ht : (pc : Int) + off = (tgt : Int)) (kk : WL N xs K tgt L st x σ1 σ2 w cu su) : WL N xs K pc L st x σ1 σ2 w cu su := by
  intro hK
  obtain ⟨⟨p, l, e, s, m⟩, ⟨below, meth, c⟩, ⟨lad, tc, D⟩, b⟩ := K
  obtain ⟨hx, hb, hml, hown, hts, hlk, hret, hK1, hK2, hX, hbl, hl0, hN, hst, hTh⟩ := id hK
  intro H locs ls hW hS hl
  have kk := kk hK H locs ls hW hS hl
  exact lv_goto hx hb hd ht kk
theorem l_istore {i : Nat} {a y : Int} {L' : List (Option Value)} (hd : decode cL_law pc = .ok (.istore i, 2)) (hy : y = a) (hn : Nat.blt i 8 = true) (hc : nolong L i = true) (hL : lset L i (vi y) = L') (kk : WL N xs K (pc + 2) L' st x σ1 σ2 w cu su) : WL N xs K pc L (vi a :: st) x σ1 σ2 w cu su := by
  intro hK
  obtain ⟨⟨p, l, e, s, m⟩, ⟨below, meth, c⟩, ⟨lad, tc, D⟩, b⟩ := K
  obtain ⟨hx, hb, hml, hown, hts, hlk, hret, hK1, hK2, hX, hbl, hl0, hN, hst, hTh⟩ := id hK
  intro H locs ls hW hS hl
  subst hy; subst hL
  refine lv_istore hx hb hd (LR.has hl) (Nat.le_of_ble_eq_true hn) rfl fun ls2 h2 => ?_
  exact kk hK H locs ls2 hW hS (LR.st1 hc h2)
theorem l_lstore {i : Nat} {a y : Int} {L' : List (Option Value)} (hd : decode cL_law pc = .ok (.lstore i, 2)) (hy : y = a) (hn : Nat.blt (i + 1) 8 = true) (hc : nolong L i = true) (hL : lclr (lset L i (vl y)) (i + 1) = L') (kk : WL N xs K (pc + 2) L' st x σ1 σ2 w cu su) : WL N xs K pc L (vl a :: st) x σ1 σ2 w cu su := by
  intro hK
  obtain ⟨⟨p, l, e, s, m⟩, ⟨below, meth, c⟩, ⟨lad, tc, D⟩, b⟩ := K
  obtain ⟨hx, hb, hml, hown, hts, hlk, hret, hK1, hK2, hX, hbl, hl0, hN, hst, hTh⟩ := id hK
  intro H locs ls hW hS hl
  subst hy; subst hL
  refine lv_lstore hx hb hd (LR.has hl) (Nat.le_of_ble_eq_true hn) rfl fun ls2 h2 => ?_
  exact kk hK H locs ls2 hW hS (LR.st2 hc h2)
theorem l_lload {i : Nat} {v : Int} (hd : decode cL_law pc = .ok (.lload i, 2)) (hg : lget L i = some (vl v)) (kk : WL N xs K (pc + 2) L (vl v :: st) x σ1 σ2 w cu su) : WL N xs K pc L st x σ1 σ2 w cu su := by
  intro hK
  obtain ⟨⟨p, l, e, s, m⟩, ⟨below, meth, c⟩, ⟨lad, tc, D⟩, b⟩ := K
  obtain ⟨hx, hb, hml, hown, hts, hlk, hret, hK1, hK2, hX, hbl, hl0, hN, hst, hTh⟩ := id hK
  intro H locs ls hW hS hl
  have kk := kk hK H locs ls hW hS hl
  exact lv_lload hx hb hd (hl.2.2 _ _ hg) kk
theorem l_iinc {i : Nat} {n v y : Int} {L' : List (Option Value)} (hd : decode cL_law pc = .ok (.iinc i n, 3)) (hg : lget L i = some (vi v)) (hy : y = v + n) (hn : Nat.blt i 8 = true) (hc : nolong L i = true) (hL : lset L i (vi y) = L') (kk : WL N xs K (pc + 3) L' st x σ1 σ2 w cu su) : WL N xs K pc L st x σ1 σ2 w cu su := by
  intro hK
  obtain ⟨⟨p, l, e, s, m⟩, ⟨below, meth, c⟩, ⟨lad, tc, D⟩, b⟩ := K
  obtain ⟨hx, hb, hml, hown, hts, hlk, hret, hK1, hK2, hX, hbl, hl0, hN, hst, hTh⟩ := id hK
  intro H locs ls hW hS hl
  subst hL
  have hm : (i, cv lad (vi v)) ∈ lsts lad L := lsts_mem.mpr ⟨vi v, hg, rfl⟩
  obtain ⟨k, hk⟩ := List.mem_iff_getElem?.mp hm
  refine lv_iinc (v := Int32.ofInt y) hx hb hd (LR.has hl) hk (by rw [hy, Int32.ofInt_add]) (Nat.le_of_ble_eq_true hn) rfl fun ls2 h2 => ?_
  exact kk hK H locs ls2 hW hS (LR.st1 hc h2)
theorem l_L {L' : List (Option Value)} (h : ∀ i v, lget L' i = some v → lget L i = some v) (kk : WL N xs K pc L' st x σ1 σ2 w cu su) : WL N xs K pc L st x σ1 σ2 w cu su := by
  intro hK
  obtain ⟨⟨p, l, e, s, m⟩, ⟨below, meth, c⟩, ⟨lad, tc, D⟩, b⟩ := K
  obtain ⟨hx, hb, hml, hown, hts, hlk, hret, hK1, hK2, hX, hbl, hl0, hN, hst, hTh⟩ := id hK
  intro H locs ls hW hS hl
  exact kk hK H locs ls hW hS ⟨hl.1, hl.2.1, fun i v q => hl.2.2 i v (h i v q)⟩
theorem l_widen {c2 s2 : Nat} (h1 : cu ≤ c2) (h2 : su ≤ s2) (kk : WL N xs K pc L st x σ1 σ2 w c2 s2) : WL N xs K pc L st x σ1 σ2 w cu su := by
  intro hK
  obtain ⟨⟨p, l, e, s, m⟩, ⟨below, meth, c⟩, ⟨lad, tc, D⟩, b⟩ := K
  obtain ⟨hx, hb, hml, hown, hts, hlk, hret, hK1, hK2, hX, hbl, hl0, hN, hst, hTh⟩ := id hK
  intro H locs ls hW hS hl
  exact W.widen h1 h2 (kk hK H locs ls hW hS hl)
theorem l_slen (hd : decode cL_law pc = .ok (.arraylength, 1)) (kk : WL N xs K (pc + 1) L (vi N :: st) x σ1 σ2 w cu su) : WL N xs K pc L (.ref 0 :: st) x σ1 σ2 w cu su := by
  intro hK
  obtain ⟨⟨p, l, e, s, m⟩, ⟨below, meth, c⟩, ⟨lad, tc, D⟩, b⟩ := K
  obtain ⟨hx, hb, hml, hown, hts, hlk, hret, hK1, hK2, hX, hbl, hl0, hN, hst, hTh⟩ := id hK
  intro H locs ls hW hS hl
  have kk := kk hK H locs ls hW hS hl
  rw [List.map_cons, show cv lad (.ref 0) = .ref b by show Value.ref (lad 0) = _; rw [hl0]]
  exact va_slen hx hb hX hbl (Nat.not_le.mpr hbl) hS hd kk
theorem l_sld {i : Int} {j : Nat} (hi : i = j) (hj : j < N) (hd : decode cL_law pc = .ok (.iaload, 1)) (kk : WL N xs K (pc + 1) L (vi (xs j).toInt :: st) x σ1 σ2 w cu su) : WL N xs K pc L (vi i :: .ref 0 :: st) x σ1 σ2 w cu su := by
  intro hK
  obtain ⟨⟨p, l, e, s, m⟩, ⟨below, meth, c⟩, ⟨lad, tc, D⟩, b⟩ := K
  obtain ⟨hx, hb, hml, hown, hts, hlk, hret, hK1, hK2, hX, hbl, hl0, hN, hst, hTh⟩ := id hK
  intro H locs ls hW hS hl
  have kk := kk hK H locs ls hW hS hl
  have hin : inb i N := by subst hi; exact ⟨by omega, by omega⟩
  rw [List.map_cons, List.map_cons, show cv lad (.ref 0) = .ref b by show Value.ref (lad 0) = _; rw [hl0]]
  refine va_sld hx hb hX hbl (Nat.not_le.mpr hbl) hS (v_in hin (by omega)) hd ?_
  rw [v_ix hin (by omega), show i.toNat = j by omega]
  rw [List.map_cons, show cv lad (vi (xs j).toInt) = .int (xs j) by show Value.int (Int32.ofInt _) = _; rw [Int32.ofInt_toInt]] at kk
  exact kk
theorem l_outld {v : Int} (hw0 : w 0 = Int64.ofInt v) (hd : decode cL_law pc = .ok (.laload, 1)) (kk : WL N xs K (pc + 1) L (vl v :: st) x σ1 σ2 w cu su) : WL N xs K pc L (vi 0 :: .ref 3 :: st) x σ1 σ2 w cu su := by
  intro hK
  obtain ⟨⟨p, l, e, s, m⟩, ⟨below, meth, c⟩, ⟨lad, tc, D⟩, b⟩ := K
  obtain ⟨hx, hb, hml, hown, hts, hlk, hret, hK1, hK2, hX, hbl, hl0, hN, hst, hTh⟩ := id hK
  intro H locs ls hW hS hl
  have kk := kk hK H locs ls hW hS hl
  obtain ⟨ad1, ad2, -, -, hP, -⟩ := hW
  have hP3 := (va_P_app.mp (va_P_app.mp hP).2).2
  have hin : inb 0 1 := ⟨by omega, by omega⟩
  have hh := va_lald hx hb (⟨hK2.1, fun k q h => by cases k with | zero => (cases h; exact hK2.2.1 _ _ _ _ lyM_4) | succ k => simp at h⟩ : va_K D vwCl [(tc 3, aty 3)] s) hP3 0 0 (a := lad 3) (n := 1) (f := w) (i := Int32.ofInt 0) rfl rfl (v_in hin (by decide)) hd (by show W _ _ _ _ _ _ _ _ _ _ _ _ _ _ _ (F0 m (pc + 1) ls (.long (w 0) :: _)); rw [hw0]; exact kk)
  exact hh
theorem l_icmp_eq {a c off : Int} {tgt : Nat} (h : a = c) (hd : decode cL_law pc = .ok (.if_icmp .eq off, 3)) (ht : (pc : Int) + off = (tgt : Int)) (kk : WL N xs K tgt L st x σ1 σ2 w cu su) : WL N xs K pc L (vi c :: vi a :: st) x σ1 σ2 w cu su := by
  intro hK
  obtain ⟨⟨p, l, e, s, m⟩, ⟨below, meth, c⟩, ⟨lad, tc, D⟩, b⟩ := K
  obtain ⟨hx, hb, hml, hown, hts, hlk, hret, hK1, hK2, hX, hbl, hl0, hN, hst, hTh⟩ := id hK
  intro H locs ls hW hS hl
  subst h
  exact lv_icmp_eq hx hb hd ht (fun _ => kk hK H locs ls hW hS hl) (fun q => absurd rfl q)
theorem l_icmp_gt {a c off : Int} {tgt : Nat} (hr : rng a ∧ rng c) (hd : decode cL_law pc = .ok (.if_icmp .gt off, 3)) (ht : (pc : Int) + off = (tgt : Int)) (k1 : c < a → WL N xs K tgt L st x σ1 σ2 w cu su) (k2 : ¬ c < a → WL N xs K (pc + 3) L st x σ1 σ2 w cu su) : WL N xs K pc L (vi c :: vi a :: st) x σ1 σ2 w cu su := by
  intro hK
  obtain ⟨⟨p, l, e, s, m⟩, ⟨below, meth, c⟩, ⟨lad, tc, D⟩, b⟩ := K
  obtain ⟨hx, hb, hml, hown, hts, hlk, hret, hK1, hK2, hX, hbl, hl0, hN, hst, hTh⟩ := id hK
  intro H locs ls hW hS hl
  exact lv_icmp_gt hx hb hd ht (fun q => k1 ((w_lt ⟨hr.2, hr.1⟩).mp q) hK H locs ls hW hS hl) (fun q => k2 (fun z => q ((w_lt ⟨hr.2, hr.1⟩).mpr z)) hK H locs ls hW hS hl)
theorem l_if_ne {a off : Int} {tgt : Nat} (hr : rng a) (hd : decode cL_law pc = .ok (.ifCond .ne off, 3)) (ht : (pc : Int) + off = (tgt : Int)) (k1 : ¬ a = 0 → WL N xs K tgt L st x σ1 σ2 w cu su) (k2 : a = 0 → WL N xs K (pc + 3) L st x σ1 σ2 w cu su) : WL N xs K pc L (vi a :: st) x σ1 σ2 w cu su := by
  intro hK
  obtain ⟨⟨p, l, e, s, m⟩, ⟨below, meth, c⟩, ⟨lad, tc, D⟩, b⟩ := K
  obtain ⟨hx, hb, hml, hown, hts, hlk, hret, hK1, hK2, hX, hbl, hl0, hN, hst, hTh⟩ := id hK
  intro H locs ls hW hS hl
  exact lv_if_ne hx hb hd ht (fun q => k1 (fun z => q ((w_eq (w0 hr)).mpr z)) hK H locs ls hW hS hl) (fun q => k2 ((w_eq (w0 hr)).mp q) hK H locs ls hW hS hl)
theorem l_lcmp_eq {a c off : Int} {tgt : Nat} (h : a = c) (hd : decode cL_law pc = .ok (.lcmp, 1)) (hd2 : decode cL_law (pc + 1) = .ok (.ifCond .eq off, 3)) (ht : ((pc + 1 : Nat) : Int) + off = (tgt : Int)) (kk : WL N xs K tgt L st x σ1 σ2 w cu su) : WL N xs K pc L (vl c :: vl a :: st) x σ1 σ2 w cu su := by
  intro hK
  obtain ⟨⟨p, l, e, s, m⟩, ⟨below, meth, c⟩, ⟨lad, tc, D⟩, b⟩ := K
  obtain ⟨hx, hb, hml, hown, hts, hlk, hret, hK1, hK2, hX, hbl, hl0, hN, hst, hTh⟩ := id hK
  intro H locs ls hW hS hl
  subst h
  refine W.lcmp hx hb hd ?_
  exact lv_if_eq hx hb hd2 ht (fun _ => kk hK H locs ls hW hS hl) (fun q => absurd ((lg_cmp_eq _ _).mpr rfl) q)
theorem l_tsw_in {dflt lo hi off : Int} {offs : Array Int} {len tgt : Nat} {a : Int} (hd : decode cL_law pc = .ok (.tableswitch dflt lo hi offs, len)) (hr : rng a) (h1 : ¬ a < lo) (h2 : ¬ hi < a) (hof : offs[(a - lo).toNat]? = some off) (ht : (pc : Int) + off = (tgt : Int)) (kk : WL N xs K tgt L st x σ1 σ2 w cu su) : WL N xs K pc L (vi a :: st) x σ1 σ2 w cu su := by
  intro hK
  obtain ⟨⟨p, l, e, s, m⟩, ⟨below, meth, c⟩, ⟨lad, tc, D⟩, b⟩ := K
  obtain ⟨hx, hb, hml, hown, hts, hlk, hret, hK1, hK2, hX, hbl, hl0, hN, hst, hTh⟩ := id hK
  intro H locs ls hW hS hl
  have kk := kk hK H locs ls hW hS hl
  exact lv_tableIn hx hb hd (by rw [wi hr]; exact h1) (by rw [wi hr]; exact h2) (by rw [wi hr]; exact hof) ht kk
theorem l_tsw_out {dflt lo hi : Int} {offs : Array Int} {len tgt : Nat} {a : Int} (hd : decode cL_law pc = .ok (.tableswitch dflt lo hi offs, len)) (hr : rng a) (h : a < lo ∨ hi < a) (ht : (pc : Int) + dflt = (tgt : Int)) (kk : WL N xs K tgt L st x σ1 σ2 w cu su) : WL N xs K pc L (vi a :: st) x σ1 σ2 w cu su := by
  intro hK
  obtain ⟨⟨p, l, e, s, m⟩, ⟨below, meth, c⟩, ⟨lad, tc, D⟩, b⟩ := K
  obtain ⟨hx, hb, hml, hown, hts, hlk, hret, hK1, hK2, hX, hbl, hl0, hN, hst, hTh⟩ := id hK
  intro H locs ls hW hS hl
  have kk := kk hK H locs ls hW hS hl
  exact lv_tableOut hx hb hd (by rw [wi hr]; exact h) ht kk
def numv (v : Value) : Bool := match v with
  | .int _ => true
  | .long _ => true
  | _ => false
theorem numv_cv {a b : Nat → Nat} {as : List Value} (h : as.all numv = true) : as.map (cv a) = as.map (cv b) := by
  apply List.map_congr_left
  intro v hv
  have := List.all_eq_true.mp h v hv
  cases v <;> first | rfl | (simp [numv] at this)
theorem keep0 (kp : Nat) : keepIx kp 0 := by
  unfold keepIx
  match kp with
  | 0 => trivial
  | 1 => show ¬ (rowB ≤ 0 ∧ 0 < rowB + 46); unfold rowB; omega
  | k + 2 => rfl
theorem room_f : room_1.frames = 2048 ∧ room_1.locals = 84000 ∧ room_1.cells = 601024 ∧ room_1.slots = 7293034 := ⟨rfl, rfl, rfl, rfl⟩
theorem l_callCi {d1 kp1 idx n nL1 : Nat} {y : MethodName} {cc1 : ByteArray} {ret1 : Option FieldType} {as st0 : List Value} {o1 : Option (Int × St)} {r : Int} {σ1' : St} {x' : Bool} (hM : MFv RL idx y cc1 nL1 ret1 n) (hc : vwCl[10]? = some (y.cls, TX10, 18)) (ho : o1 = some (r, σ1')) (hC : Ct d1 kp1 1 y cc1 nL1 ret1 (LYC x false false) (LYC x' false false) (.ref 0 :: as) σ1 o1) (hd : decode cL_law pc = .ok (.invokevirtual idx, 3)) (hdd : Nat.blt d1 1000 = true) (hn : as.length = n) (hnL : Nat.ble nL1 45 = true) (has : as.all numv = true) (hst0 : st0 = as.reverse ++ .ref 1 :: st) (hcat : Nat.ble (st.map fun v => v.category).sum 8 = true) (hcu : cu + 0 ≤ 601024) (hsu : su + 0 ≤ 7293034) (kk : WL N xs K (pc + 3) L (vi r :: st) x' σ1' σ2 w cu su) : WL N xs K pc L st0 x σ1 σ2 w cu su := by
  intro hK
  obtain ⟨⟨p, l, e, s, m⟩, ⟨below, meth, c⟩, ⟨lad, tc, D⟩, b⟩ := K
  obtain ⟨hx, hb, hml, hown, hts, hlk, hret, hK1, hK2, hX, hbl, hl0, hN, hst, hTh⟩ := id hK
  intro H locs ls hW hS hl
  subst hst0
  obtain ⟨ad1, ad2, e1, e2, hP, hD⟩ := hW
  have hPa := (va_P_app.mp hP).1
  have hDa := (va_D_app.mp hD).1
  have hMet := hC r σ1' ho l D ad1 tc H.size
  have hKx := hK1 x
  have hok : LYok (LYC x false false) := LYC_ok
  have he := wl_get (ad := ad1) (tc := tc) (σ := σ1) (k := 0) (lyC_0 (x := x) (y := false) (z := false))
  rw [Nat.zero_add] at he
  have hAsz := AdOK_of_D H.size hDa
  have hd1 := Nat.le_of_ble_eq_true hdd
  have hn45 := Nat.le_of_ble_eq_true hnL
  have cw : CallW room_1 s #[Value.ref b] RL y.cls idx y cc1 nL1 ret1 (Cond.code y cc1 nL1 ret1 :: lw_g) (rmD d1) 0 0 n := ⟨callB_of n hts (lg_good hM.2.2.2.1) rfl rfl rfl (hts _ hM.2.2.1) (hts _ hM.1) hM.2.2.2.2.1 ⟨by show d1 + 1 ≤ 2048; omega, by show 8 + (nL1 + 11) + 64 * d1 ≤ 84000; omega⟩, hts _ hM.2.1, hts _ hM.2.2.2.2.2⟩
  have hstk : (as.reverse ++ .ref 1 :: st).map (cv lad) = (as.map (cv ad1)).reverse ++ .ref (ad1 0) :: st.map (cv lad) := by
    rw [List.map_append, List.map_cons, List.map_reverse, numv_cv (b := ad1) has, show cv lad (.ref 1) = .ref (ad1 0) by show Value.ref (lad 1) = _; rw [e1]]
  rw [hstk]
  have run := va_runV (As := as.map (cv ad1)) (b := ad1 0) (rest := st.map (cv lad)) (g := F0 m pc ls ((as.map (cv ad1)).reverse ++ .ref (ad1 0) :: st.map (cv lad))) (cells := cu) (slots := su) (e := e) (below := below) (meth := meth) (H := H) (locs := locs) ⟨hx, hb, hml, hown, hts⟩ hMet cw ⟨Ct_blind, va_recv (⟨hKx.1, fun k q h => by simp at h⟩ : va_K D vwCl [] s) hPa hc he, fun U hU hW => ⟨rfl, by rw [hU], hAsz, hok, by rw [hU]; exact hPa, hKx.warm hW⟩⟩ rfl (by rw [List.length_map]; exact hn) hl.1 rfl (lv_room (by rw [cats]; exact Nat.le_of_ble_eq_true hcat)) hd ⟨hcu, hsu⟩
  refine va_calli (a := #[]) run hS (fun q _ h => ?_) (fun q h => ?_) (fun rv u t H1 locs1 ht hvm hw hB hz1 hkeep hS1 => ?_)
  · rcases h with ⟨j, hj, e⟩ | h
    · have hg := wl_get (ad := ad1) (tc := tc) (σ := σ1) (k := 0) (List.getElem?_eq_getElem hj)
      rw [Nat.zero_add] at hg
      rw [e]
      exact hDa.2 _ _ hg
    · exact Nat.le_trans hS.1 h
  · rcases h with ⟨j, hj, e⟩ | h
    · have hg := wl_get (ad := ad1) (tc := tc) (σ := σ1) (k := 0) (List.getElem?_eq_getElem hj)
      rw [Nat.zero_add] at hg
      rw [e]
      exact hDa.2 _ _ hg
    · exact Nat.le_trans hS.1 h
  · obtain ⟨ad', hR, hP1⟩ := hB
    rw [ht] at hP1
    have hj := join2 (σ' := σ1') (LY' := (LYC x' false false)) (by rw [LYC_len, LYC_len]) hP hD (fun q hq => Nat.le_trans hS.1 hq) hkeep hP1 hR.2
    have h0 : ad' 0 = ad1 0 := hR.1 0 (keep0 kp1)
    have kk1 := kk hK H1 locs1 ls ⟨ad', ad2, by rw [h0, e1], e2, hj.1, hj.2⟩ hS1 hl
    have hw : rv = _ := hw
    subst hw
    exact kk1
theorem l_callCl {d1 kp1 idx n nL1 : Nat} {y : MethodName} {cc1 : ByteArray} {ret1 : Option FieldType} {as st0 : List Value} {o1 : Option (Int × St)} {r : Int} {σ1' : St} {x' : Bool} (hM : MFv RL idx y cc1 nL1 ret1 n) (hc : vwCl[10]? = some (y.cls, TX10, 18)) (ho : o1 = some (r, σ1')) (hC : Ct d1 kp1 2 y cc1 nL1 ret1 (LYC x false false) (LYC x' false false) (.ref 0 :: as) σ1 o1) (hd : decode cL_law pc = .ok (.invokevirtual idx, 3)) (hdd : Nat.blt d1 1000 = true) (hn : as.length = n) (hnL : Nat.ble nL1 45 = true) (has : as.all numv = true) (hst0 : st0 = as.reverse ++ .ref 1 :: st) (hcat : Nat.ble (st.map fun v => v.category).sum 8 = true) (hcu : cu + 0 ≤ 601024) (hsu : su + 0 ≤ 7293034) (kk : WL N xs K (pc + 3) L (vl r :: st) x' σ1' σ2 w cu su) : WL N xs K pc L st0 x σ1 σ2 w cu su := by
  intro hK
  obtain ⟨⟨p, l, e, s, m⟩, ⟨below, meth, c⟩, ⟨lad, tc, D⟩, b⟩ := K
  obtain ⟨hx, hb, hml, hown, hts, hlk, hret, hK1, hK2, hX, hbl, hl0, hN, hst, hTh⟩ := id hK
  intro H locs ls hW hS hl
  subst hst0
  obtain ⟨ad1, ad2, e1, e2, hP, hD⟩ := hW
  have hPa := (va_P_app.mp hP).1
  have hDa := (va_D_app.mp hD).1
  have hMet := hC r σ1' ho l D ad1 tc H.size
  have hKx := hK1 x
  have hok : LYok (LYC x false false) := LYC_ok
  have he := wl_get (ad := ad1) (tc := tc) (σ := σ1) (k := 0) (lyC_0 (x := x) (y := false) (z := false))
  rw [Nat.zero_add] at he
  have hAsz := AdOK_of_D H.size hDa
  have hd1 := Nat.le_of_ble_eq_true hdd
  have hn45 := Nat.le_of_ble_eq_true hnL
  have cw : CallW room_1 s #[Value.ref b] RL y.cls idx y cc1 nL1 ret1 (Cond.code y cc1 nL1 ret1 :: lw_g) (rmD d1) 0 0 n := ⟨callB_of n hts (lg_good hM.2.2.2.1) rfl rfl rfl (hts _ hM.2.2.1) (hts _ hM.1) hM.2.2.2.2.1 ⟨by show d1 + 1 ≤ 2048; omega, by show 8 + (nL1 + 11) + 64 * d1 ≤ 84000; omega⟩, hts _ hM.2.1, hts _ hM.2.2.2.2.2⟩
  have hstk : (as.reverse ++ .ref 1 :: st).map (cv lad) = (as.map (cv ad1)).reverse ++ .ref (ad1 0) :: st.map (cv lad) := by
    rw [List.map_append, List.map_cons, List.map_reverse, numv_cv (b := ad1) has, show cv lad (.ref 1) = .ref (ad1 0) by show Value.ref (lad 1) = _; rw [e1]]
  rw [hstk]
  have run := va_runV (As := as.map (cv ad1)) (b := ad1 0) (rest := st.map (cv lad)) (g := F0 m pc ls ((as.map (cv ad1)).reverse ++ .ref (ad1 0) :: st.map (cv lad))) (cells := cu) (slots := su) (e := e) (below := below) (meth := meth) (H := H) (locs := locs) ⟨hx, hb, hml, hown, hts⟩ hMet cw ⟨Ct_blind, va_recv (⟨hKx.1, fun k q h => by simp at h⟩ : va_K D vwCl [] s) hPa hc he, fun U hU hW => ⟨rfl, by rw [hU], hAsz, hok, by rw [hU]; exact hPa, hKx.warm hW⟩⟩ rfl (by rw [List.length_map]; exact hn) hl.1 rfl (lv_room (by rw [cats]; exact Nat.le_of_ble_eq_true hcat)) hd ⟨hcu, hsu⟩
  refine va_calll (a := #[]) run hS (fun q _ h => ?_) (fun q h => ?_) (fun rv u t H1 locs1 ht hvm hw hB hz1 hkeep hS1 => ?_)
  · rcases h with ⟨j, hj, e⟩ | h
    · have hg := wl_get (ad := ad1) (tc := tc) (σ := σ1) (k := 0) (List.getElem?_eq_getElem hj)
      rw [Nat.zero_add] at hg
      rw [e]
      exact hDa.2 _ _ hg
    · exact Nat.le_trans hS.1 h
  · rcases h with ⟨j, hj, e⟩ | h
    · have hg := wl_get (ad := ad1) (tc := tc) (σ := σ1) (k := 0) (List.getElem?_eq_getElem hj)
      rw [Nat.zero_add] at hg
      rw [e]
      exact hDa.2 _ _ hg
    · exact Nat.le_trans hS.1 h
  · obtain ⟨ad', hR, hP1⟩ := hB
    rw [ht] at hP1
    have hj := join2 (σ' := σ1') (LY' := (LYC x' false false)) (by rw [LYC_len, LYC_len]) hP hD (fun q hq => Nat.le_trans hS.1 hq) hkeep hP1 hR.2
    have h0 : ad' 0 = ad1 0 := hR.1 0 (keep0 kp1)
    have kk1 := kk hK H1 locs1 ls ⟨ad', ad2, by rw [h0, e1], e2, hj.1, hj.2⟩ hS1 hl
    have hw : rv = _ := hw
    subst hw
    exact kk1
theorem l_callMi {d1 kp1 idx n nL1 : Nat} {y : MethodName} {cc1 : ByteArray} {ret1 : Option FieldType} {as st0 : List Value} {o1 : Option (Int × St)} {r : Int} {σ2' : St} (hM : MFv RL idx y cc1 nL1 ret1 n) (hc : vwCl[11]? = some (y.cls, TX11, 59)) (ho : o1 = some (r, σ2')) (hC : Ct d1 kp1 1 y cc1 nL1 ret1 LYM LYM (.ref 0 :: as) σ2 o1) (hd : decode cL_law pc = .ok (.invokevirtual idx, 3)) (hdd : Nat.blt d1 1000 = true) (hn : as.length = n) (hnL : Nat.ble nL1 45 = true) (has : as.all numv = true) (hst0 : st0 = as.reverse ++ .ref 2 :: st) (hcat : Nat.ble (st.map fun v => v.category).sum 8 = true) (hcu : cu + 0 ≤ 601024) (hsu : su + 0 ≤ 7293034) (kk : WL N xs K (pc + 3) L (vi r :: st) x σ1 σ2' w cu su) : WL N xs K pc L st0 x σ1 σ2 w cu su := by
  intro hK
  obtain ⟨⟨p, l, e, s, m⟩, ⟨below, meth, c⟩, ⟨lad, tc, D⟩, b⟩ := K
  obtain ⟨hx, hb, hml, hown, hts, hlk, hret, hK1, hK2, hX, hbl, hl0, hN, hst, hTh⟩ := id hK
  intro H locs ls hW hS hl
  subst hst0
  obtain ⟨ad1, ad2, e1, e2, hP, hD⟩ := hW
  have hPp : va_P D vwCl (wl ad2 tc σ2 0 LYM ++ (wl ad1 tc σ1 0 (LYC x false false) ++ [(lad 3, outE tc w)])) H := by
    rw [va_P_app, va_P_app] at hP ⊢
    exact ⟨hP.2.1, hP.1, hP.2.2⟩
  have hDp : va_D (fun q => s.heap.size ≤ q) (wl ad2 tc σ2 0 LYM ++ (wl ad1 tc σ1 0 (LYC x false false) ++ [(lad 3, outE tc w)])) := va_D_perm (by rw [← List.append_assoc, ← List.append_assoc]; exact (List.perm_append_comm).append_right _) hD
  have hPa := (va_P_app.mp hPp).1
  have hDa := (va_D_app.mp hDp).1
  have hMet := hC r σ2' ho l D ad2 tc H.size
  have hKx := hK2
  have hok : LYok LYM := LYM_ok
  have he := wl_get (ad := ad2) (tc := tc) (σ := σ2) (k := 0) lyM_0
  rw [Nat.zero_add] at he
  have hAsz := AdOK_of_D H.size hDa
  have hd1 := Nat.le_of_ble_eq_true hdd
  have hn45 := Nat.le_of_ble_eq_true hnL
  have cw : CallW room_1 s #[Value.ref b] RL y.cls idx y cc1 nL1 ret1 (Cond.code y cc1 nL1 ret1 :: lw_g) (rmD d1) 0 0 n := ⟨callB_of n hts (lg_good hM.2.2.2.1) rfl rfl rfl (hts _ hM.2.2.1) (hts _ hM.1) hM.2.2.2.2.1 ⟨by show d1 + 1 ≤ 2048; omega, by show 8 + (nL1 + 11) + 64 * d1 ≤ 84000; omega⟩, hts _ hM.2.1, hts _ hM.2.2.2.2.2⟩
  have hstk : (as.reverse ++ .ref 2 :: st).map (cv lad) = (as.map (cv ad2)).reverse ++ .ref (ad2 0) :: st.map (cv lad) := by
    rw [List.map_append, List.map_cons, List.map_reverse, numv_cv (b := ad2) has, show cv lad (.ref 2) = .ref (ad2 0) by show Value.ref (lad 2) = _; rw [e2]]
  rw [hstk]
  have run := va_runV (As := as.map (cv ad2)) (b := ad2 0) (rest := st.map (cv lad)) (g := F0 m pc ls ((as.map (cv ad2)).reverse ++ .ref (ad2 0) :: st.map (cv lad))) (cells := cu) (slots := su) (e := e) (below := below) (meth := meth) (H := H) (locs := locs) ⟨hx, hb, hml, hown, hts⟩ hMet cw ⟨Ct_blind, va_recv (⟨hKx.1, fun k q h => by simp at h⟩ : va_K D vwCl [] s) hPa hc he, fun U hU hW => ⟨rfl, by rw [hU], hAsz, hok, by rw [hU]; exact hPa, hKx.warm hW⟩⟩ rfl (by rw [List.length_map]; exact hn) hl.1 rfl (lv_room (by rw [cats]; exact Nat.le_of_ble_eq_true hcat)) hd ⟨hcu, hsu⟩
  refine va_calli (a := #[]) run hS (fun q _ h => ?_) (fun q h => ?_) (fun rv u t H1 locs1 ht hvm hw hB hz1 hkeep hS1 => ?_)
  · rcases h with ⟨j, hj, e⟩ | h
    · have hg := wl_get (ad := ad2) (tc := tc) (σ := σ2) (k := 0) (List.getElem?_eq_getElem hj)
      rw [Nat.zero_add] at hg
      rw [e]
      exact hDa.2 _ _ hg
    · exact Nat.le_trans hS.1 h
  · rcases h with ⟨j, hj, e⟩ | h
    · have hg := wl_get (ad := ad2) (tc := tc) (σ := σ2) (k := 0) (List.getElem?_eq_getElem hj)
      rw [Nat.zero_add] at hg
      rw [e]
      exact hDa.2 _ _ hg
    · exact Nat.le_trans hS.1 h
  · obtain ⟨ad', hR, hP1⟩ := hB
    rw [ht] at hP1
    have hj := join2 (σ' := σ2') (LY' := LYM) rfl hPp hDp (fun q hq => Nat.le_trans hS.1 hq) hkeep hP1 hR.2
    have h0 : ad' 0 = ad2 0 := hR.1 0 (keep0 kp1)
    have hj1 : va_P D vwCl (wl ad1 tc σ1 0 (LYC x false false) ++ (wl ad' tc σ2' 0 LYM ++ [(lad 3, outE tc w)])) H1 := by
      have := hj.1
      rw [va_P_app, va_P_app] at this ⊢
      exact ⟨this.2.1, this.1, this.2.2⟩
    have hj2 : va_D (fun q => s.heap.size ≤ q) (wl ad1 tc σ1 0 (LYC x false false) ++ (wl ad' tc σ2' 0 LYM ++ [(lad 3, outE tc w)])) := va_D_perm (by rw [← List.append_assoc, ← List.append_assoc]; exact (List.perm_append_comm).append_right _) hj.2
    have kk1 := kk hK H1 locs1 ls ⟨ad1, ad', e1, by rw [h0, e2], hj1, hj2⟩ hS1 hl
    have hw : rv = _ := hw
    subst hw
    exact kk1
theorem l_callMl {d1 kp1 idx n nL1 : Nat} {y : MethodName} {cc1 : ByteArray} {ret1 : Option FieldType} {as st0 : List Value} {o1 : Option (Int × St)} {r : Int} {σ2' : St} (hM : MFv RL idx y cc1 nL1 ret1 n) (hc : vwCl[11]? = some (y.cls, TX11, 59)) (ho : o1 = some (r, σ2')) (hC : Ct d1 kp1 2 y cc1 nL1 ret1 LYM LYM (.ref 0 :: as) σ2 o1) (hd : decode cL_law pc = .ok (.invokevirtual idx, 3)) (hdd : Nat.blt d1 1000 = true) (hn : as.length = n) (hnL : Nat.ble nL1 45 = true) (has : as.all numv = true) (hst0 : st0 = as.reverse ++ .ref 2 :: st) (hcat : Nat.ble (st.map fun v => v.category).sum 8 = true) (hcu : cu + 0 ≤ 601024) (hsu : su + 0 ≤ 7293034) (kk : WL N xs K (pc + 3) L (vl r :: st) x σ1 σ2' w cu su) : WL N xs K pc L st0 x σ1 σ2 w cu su := by
  intro hK
  obtain ⟨⟨p, l, e, s, m⟩, ⟨below, meth, c⟩, ⟨lad, tc, D⟩, b⟩ := K
  obtain ⟨hx, hb, hml, hown, hts, hlk, hret, hK1, hK2, hX, hbl, hl0, hN, hst, hTh⟩ := id hK
  intro H locs ls hW hS hl
  subst hst0
  obtain ⟨ad1, ad2, e1, e2, hP, hD⟩ := hW
  have hPp : va_P D vwCl (wl ad2 tc σ2 0 LYM ++ (wl ad1 tc σ1 0 (LYC x false false) ++ [(lad 3, outE tc w)])) H := by
    rw [va_P_app, va_P_app] at hP ⊢
    exact ⟨hP.2.1, hP.1, hP.2.2⟩
  have hDp : va_D (fun q => s.heap.size ≤ q) (wl ad2 tc σ2 0 LYM ++ (wl ad1 tc σ1 0 (LYC x false false) ++ [(lad 3, outE tc w)])) := va_D_perm (by rw [← List.append_assoc, ← List.append_assoc]; exact (List.perm_append_comm).append_right _) hD
  have hPa := (va_P_app.mp hPp).1
  have hDa := (va_D_app.mp hDp).1
  have hMet := hC r σ2' ho l D ad2 tc H.size
  have hKx := hK2
  have hok : LYok LYM := LYM_ok
  have he := wl_get (ad := ad2) (tc := tc) (σ := σ2) (k := 0) lyM_0
  rw [Nat.zero_add] at he
  have hAsz := AdOK_of_D H.size hDa
  have hd1 := Nat.le_of_ble_eq_true hdd
  have hn45 := Nat.le_of_ble_eq_true hnL
  have cw : CallW room_1 s #[Value.ref b] RL y.cls idx y cc1 nL1 ret1 (Cond.code y cc1 nL1 ret1 :: lw_g) (rmD d1) 0 0 n := ⟨callB_of n hts (lg_good hM.2.2.2.1) rfl rfl rfl (hts _ hM.2.2.1) (hts _ hM.1) hM.2.2.2.2.1 ⟨by show d1 + 1 ≤ 2048; omega, by show 8 + (nL1 + 11) + 64 * d1 ≤ 84000; omega⟩, hts _ hM.2.1, hts _ hM.2.2.2.2.2⟩
  have hstk : (as.reverse ++ .ref 2 :: st).map (cv lad) = (as.map (cv ad2)).reverse ++ .ref (ad2 0) :: st.map (cv lad) := by
    rw [List.map_append, List.map_cons, List.map_reverse, numv_cv (b := ad2) has, show cv lad (.ref 2) = .ref (ad2 0) by show Value.ref (lad 2) = _; rw [e2]]
  rw [hstk]
  have run := va_runV (As := as.map (cv ad2)) (b := ad2 0) (rest := st.map (cv lad)) (g := F0 m pc ls ((as.map (cv ad2)).reverse ++ .ref (ad2 0) :: st.map (cv lad))) (cells := cu) (slots := su) (e := e) (below := below) (meth := meth) (H := H) (locs := locs) ⟨hx, hb, hml, hown, hts⟩ hMet cw ⟨Ct_blind, va_recv (⟨hKx.1, fun k q h => by simp at h⟩ : va_K D vwCl [] s) hPa hc he, fun U hU hW => ⟨rfl, by rw [hU], hAsz, hok, by rw [hU]; exact hPa, hKx.warm hW⟩⟩ rfl (by rw [List.length_map]; exact hn) hl.1 rfl (lv_room (by rw [cats]; exact Nat.le_of_ble_eq_true hcat)) hd ⟨hcu, hsu⟩
  refine va_calll (a := #[]) run hS (fun q _ h => ?_) (fun q h => ?_) (fun rv u t H1 locs1 ht hvm hw hB hz1 hkeep hS1 => ?_)
  · rcases h with ⟨j, hj, e⟩ | h
    · have hg := wl_get (ad := ad2) (tc := tc) (σ := σ2) (k := 0) (List.getElem?_eq_getElem hj)
      rw [Nat.zero_add] at hg
      rw [e]
      exact hDa.2 _ _ hg
    · exact Nat.le_trans hS.1 h
  · rcases h with ⟨j, hj, e⟩ | h
    · have hg := wl_get (ad := ad2) (tc := tc) (σ := σ2) (k := 0) (List.getElem?_eq_getElem hj)
      rw [Nat.zero_add] at hg
      rw [e]
      exact hDa.2 _ _ hg
    · exact Nat.le_trans hS.1 h
  · obtain ⟨ad', hR, hP1⟩ := hB
    rw [ht] at hP1
    have hj := join2 (σ' := σ2') (LY' := LYM) rfl hPp hDp (fun q hq => Nat.le_trans hS.1 hq) hkeep hP1 hR.2
    have h0 : ad' 0 = ad2 0 := hR.1 0 (keep0 kp1)
    have hj1 : va_P D vwCl (wl ad1 tc σ1 0 (LYC x false false) ++ (wl ad' tc σ2' 0 LYM ++ [(lad 3, outE tc w)])) H1 := by
      have := hj.1
      rw [va_P_app, va_P_app] at this ⊢
      exact ⟨this.2.1, this.1, this.2.2⟩
    have hj2 : va_D (fun q => s.heap.size ≤ q) (wl ad1 tc σ1 0 (LYC x false false) ++ (wl ad' tc σ2' 0 LYM ++ [(lad 3, outE tc w)])) := va_D_perm (by rw [← List.append_assoc, ← List.append_assoc]; exact (List.perm_append_comm).append_right _) hj.2
    have kk1 := kk hK H1 locs1 ls ⟨ad1, ad', e1, by rw [h0, e2], hj1, hj2⟩ hS1 hl
    have hw : rv = _ := hw
    subst hw
    exact kk1
end WLr
