/-! CONSTRUCTORS: their contracts, and their calls -/
/-- a constructor's contract: of the new object h0 (one cell, blank) it leaves cells that B1 describes -/
def CN (d mc ms : Nat) (y : MethodName) (cc : ByteArray) (nL ci : Nat) (fs0 : List Value) (as : List Value) (B1 : Nat → (Nat → ClassId) → va_W → Prop) : Prop :=
  ∀ (l : Launch) (D : va_G) (tc : Nat → ClassId) (sz h0 : Nat),
    Met l y (Cond.code y cc nL none :: lw_g) (rmC d mc ms) (va_Pc (.ref h0 :: as) (fun U => U.heap.size = sz ∧ h0 < sz ∧ va_P D vwCl [(h0, .inr (ci, fs0))] U.heap ∧ KC tc D U)) (va_Qv (S := va_W) (B1 h0 tc) (fun ws t => va_P D vwCl ws t.heap ∧ va_D (cA0 h0 sz) ws) (cA0 h0 sz)) mc ms (cA0 h0 sz)
theorem CN_blind {as : List Value} {D : va_G} {tc : Nat → ClassId} {sz h0 : Nat} {ws : va_W} : FrameBlind (va_Pc as (fun U => U.heap.size = sz ∧ h0 < sz ∧ va_P D vwCl ws U.heap ∧ KC tc D U)) :=
  fun a U g mk q => ⟨q.1, q.2.1, q.2.2.1, q.2.2.2.1, q.2.2.2.2.blind g mk a⟩
theorem CN_of {d mc ms : Nat} {y : MethodName} {cc : ByteArray} {own : String} {nL ci : Nat} {fs0 as : List Value} {B1 : Nat → (Nat → ClassId) → va_W → Prop} {L : Nat → List (Option Value)} (hy : plainName y.cls = true) (hown : y.cls = own) (hyi : y.name = "<init>") (hlen : Nat.ble ((lg_sl as).length + 1) nL = true) (hL : ∀ h0, padL nL (some (.ref h0) :: entL as) = L h0) (hid : as.map (cv id) = as) (h : ∀ h0 K, WC d mc ms cc own nL h0 K (B1 h0) 0 (L h0) [] [(h0, .inr (ci, fs0))] 0 0) : CN d mc ms y cc nL ci fs0 as B1 := by
  intro l D tc sz h0
  refine Met.ofW (cc := cc) (maxL := nL) (ret := none) hy rfl ?_
  intro p e s m args below meth c s₁ B hml hv
  obtain ⟨rfl, hsz, hlt, hP, hKC⟩ := hv
  subst hsz
  have hts0 : ∀ w ∈ (Cond.code y cc nL none :: lw_g), w.before (Value.ref h0 :: as).toArray s = true := atoms_spec (ws := Cond.code y cc nL none :: lw_g) B.pre
  have hown2 : s.vm.findClass own = some m.cls := by rw [← hown]; exact findClass_of_methodNamed B.named
  have hlen2 : (lg_sl (Value.ref h0 :: as)).length ≤ nL := by
    have := Nat.le_of_ble_eq_true hlen
    show (lg_sl as).length + 1 ≤ nL
    exact this
  have hl := lv_entry (Value.ref h0 :: as) hlen2
  rw [lg_entry_eq]
  have hD : va_D (cA0 h0 s.heap.size) [(h0, (.inr (ci, fs0) : va_E))] := by
    refine ⟨fun i j p q hi hj _ => ?_, fun k q hk => ?_⟩
    · rcases i with _ | i
      · rcases j with _ | j
        · rfl
        · simp at hj
      · simp at hi
    · rcases k with _ | k
      · simp at hk; subst hk; exact Or.inl rfl
      · simp at hk
  have hname : meth.name = "<init>" := (name_of_methodNamed B.named B.method).1.trans hyi
  refine h h0 ((p, l, e, s, m, (Value.ref h0 :: as).toArray), (below, meth, c), (id, tc, D)) ⟨B.exec, B.bytes, hml, hown2, fun w hw => hts0 w (List.mem_cons_of_mem _ hw), B.notSynchronized, B.returns, hname, hKC⟩ s.heap [] ((lg_sl (Value.ref h0 :: as) ++ List.replicate (nL - (lg_sl (Value.ref h0 :: as)).length) Slot.unset).toArray) hP hD va_S.rf ⟨hl.1, hl.2.1, fun i v hv => ?_⟩
  rw [← hL h0] at hv
  unfold padL at hv
  rcases lget_app _ _ _ _ hv with q | q
  · have q2 : lget (entL (Value.ref h0 :: as)) i = some v := q
    have := entL_get (Value.ref h0 :: as) 0 i v q2
    rw [Nat.zero_add] at this
    have hm := lv_args_map id (Value.ref h0 :: as) 0 i v this
    rw [List.map_cons, hid] at hm
    exact hl.2.2 (i, cv id v) hm
  · exact absurd q (lget_rep _ _ _)
theorem joinC {h0 sz q : Nat} {D : va_G} {x : va_E} {rest ws1 : va_W} {H H1 : Heap} (hz : sz ≤ H.size) (hP : va_P D vwCl (rest ++ [(q, x)]) H) (hD : va_D (cA0 h0 sz) (rest ++ [(q, x)])) (hk : ∀ a : Nat, a < H.size → ¬ cA0 q H.size a → H1[a]? = H[a]?) (hP1 : va_P D vwCl ws1 H1) (hD1 : va_D (cA0 q H.size) ws1) : va_P D vwCl (rest ++ ws1) H1 ∧ va_D (cA0 h0 sz) (rest ++ ws1) := by
  rw [va_P_app] at hP ⊢
  rw [va_D_app] at hD ⊢
  obtain ⟨hPr, hPq⟩ := hP
  obtain ⟨hDr, hDq, hDx⟩ := hD
  have hout : ∀ a ∈ rest, a.1 < H.size ∧ a.1 ≠ q := by
    intro a ha
    obtain ⟨k, hk2⟩ := List.mem_iff_getElem?.mp ha
    exact ⟨(hPr k a hk2).lt, hDx a ha (q, x) List.mem_cons_self⟩
  have hno : ∀ a ∈ rest, ¬ cA0 q H.size a.1 := by
    intro a ha hc
    obtain ⟨h1, h2⟩ := hout a ha
    rcases hc with e | e
    · exact h2 e
    · omega
  refine ⟨⟨hPr.kept fun k a ha => hk a.1 (hout a (List.mem_of_getElem? ha)).1 (hno a (List.mem_of_getElem? ha)), hP1⟩, hDr, ⟨hD1.1, fun k a ha => ?_⟩, fun a ha b hb e => ?_⟩
  · rcases hD1.2 k a ha with e | e
    · rw [e]; exact hDq.2 0 (q, x) rfl
    · exact Or.inr (Nat.le_trans hz e)
  · obtain ⟨k, hk2⟩ := List.mem_iff_getElem?.mp hb
    have := hD1.2 k b hk2
    rw [← e] at this
    exact hno a ha this
section WCcall
variable {d mc ms : Nat} {cc : ByteArray} {own : String} {nL h0 : Nat} {K : KX} {B : (Nat → ClassId) → va_W → Prop} {pc : Nat} {L : List (Option Value)} {st : List Value} {ws : va_W} {cu su : Nat}
theorem c_callN {d1 mc1 ms1 idx n nL1 q ci : Nat} {y : MethodName} {cc1 : ByteArray} {host : String} {as st0 fs0 : List Value} {B1 : Nat → (Nat → ClassId) → va_W → Prop} {rest : va_W} (hM : (own, idx, y, host) ∈ nestL ∧ y.name = "<init>" ∧ Cond.instanceMethod y ∈ lw_g ∧ Cond.initialized y.cls ∈ lw_g ∧ Cond.code y cc1 nL1 none ∈ lw_g ∧ (y.cls ≠ "java/lang/invoke/MethodHandle" ∧ y.cls ≠ "java/lang/invoke/VarHandle" ∧ (parseMethodDescriptor y.desc).map (fun d => d.parameters.length) = some n)) (hC : CN d1 mc1 ms1 y cc1 nL1 ci fs0 as B1) (hws : ws = rest ++ [(q, .inr (ci, fs0))]) (hd : decode cc pc = .ok (.invokespecial idx, 3)) (hdd : Nat.blt d1 d = true) (hn : as.length = n) (hnL : Nat.ble nL1 45 = true) (hst : st0 = as.reverse ++ .ref q :: st) (hcat : Nat.ble (st.map fun v => v.category).sum 8 = true) (hcu : Nat.ble (cu + mc1) mc = true) (hsu : Nat.ble (su + ms1) ms = true) (kk : ∀ ws1, B1 q K.2.2.2.1 ws1 → WC d mc ms cc own nL h0 K B (pc + 3) L st (rest ++ ws1) (cu + mc1) (su + ms1)) : WC d mc ms cc own nL h0 K B pc L st0 ws cu su := by
  intro hK
  obtain ⟨⟨p, l, e, s, m, args⟩, ⟨below, meth, c⟩, ⟨ad0, tc, D⟩⟩ := K
  obtain ⟨hx, hb, hml, hown, hts, hlk, hret, hinit, hKC⟩ := id hK
  intro H locs ls hP hD hS hl
  subst hst
  subst hws
  have hMet := hC l D tc H.size q
  have h64 : 64 * d1 + 64 ≤ 64 * d := by have := Nat.le_of_ble_eq_true hdd; omega
  have hn45 := Nat.le_of_ble_eq_true hnL
  have hPq := (va_P_app.mp hP).2
  have hDq : cA0 h0 s.heap.size q := (va_D_app.mp hD).2.1.2 0 (q, .inr (ci, fs0)) rfl
  have hqlt : q < H.size := (hPq 0 (q, .inr (ci, fs0)) rfl).lt
  have cw : va_CN (rmC d mc ms) s args own idx y host cc1 nL1 none (Cond.code y cc1 nL1 none :: lw_g) (rmC d1 mc1 ms1) mc1 ms1 n ∧ y.name = "<init>" ∧ (Cond.instanceMethod y).before args s = true := ⟨va_cnB n hts (lg_good hM.2.2.2.2.1) rfl rfl rfl (hKC.2.2.1 _ hM.1) (hts _ hM.2.2.2.1) hM.2.2.2.2.2 ⟨by have := Nat.le_of_ble_eq_true hdd; show d1 + 1 ≤ d; omega, by show 8 + (nL1 + 11) + 64 * d1 ≤ 64 * d; omega⟩, hM.2.1, hts _ hM.2.2.1⟩
  have run := va_runIN (b := q) (As := as) (rest := st) (g := F0 m pc ls (as.reverse ++ .ref q :: st)) (cells := cu) (slots := su) (e := e) (below := below) (meth := meth) (H := H) (locs := locs) ⟨hx, hb, hml, hown, hts⟩ hMet cw ⟨CN_blind, fun U hU hW => ⟨rfl, by rw [hU], hqlt, by rw [hU]; exact hPq, hKC.warm hW⟩⟩ rfl hn hl.1 rfl (lv_room (Nat.le_of_ble_eq_true hcat)) hd ⟨Nat.le_of_ble_eq_true hcu, Nat.le_of_ble_eq_true hsu⟩
  refine va_callv (a := (Value.ref q :: as).toArray) run hS (fun a _ h => by rcases h with z | z; exact z ▸ hDq; exact Or.inr (Nat.le_trans hS.1 z)) (fun a h => by rcases h with z | z; exact z ▸ hDq; exact Or.inr (Nat.le_trans hS.1 z)) (fun u t H1 locs1 ht hvm hw hB hz1 hkeep hS1 => ?_)
  obtain ⟨hP1, hD1⟩ := hB
  rw [ht] at hP1
  obtain ⟨hP2, hD2⟩ := joinC hS.1 hP hD hkeep hP1 hD1
  exact kk u hw hK H1 locs1 ls hP2 hD2 hS1 hl
theorem c_callS {d1 mc1 ms1 idx n nL1 q ci : Nat} {y : MethodName} {cc1 : ByteArray} {as st0 fs0 : List Value} {B1 : Nat → (Nat → ClassId) → va_W → Prop} {rest : va_W} (hM : Cond.methodLink own idx y ∈ lw_g ∧ y.name = "<init>" ∧ Cond.instanceMethod y ∈ lw_g ∧ Cond.initialized y.cls ∈ lw_g ∧ Cond.code y cc1 nL1 none ∈ lw_g ∧ (y.cls ≠ "java/lang/invoke/MethodHandle" ∧ y.cls ≠ "java/lang/invoke/VarHandle" ∧ (parseMethodDescriptor y.desc).map (fun d => d.parameters.length) = some n)) (hC : CN d1 mc1 ms1 y cc1 nL1 ci fs0 as B1) (hws : ws = rest ++ [(q, .inr (ci, fs0))]) (hd : decode cc pc = .ok (.invokespecial idx, 3)) (hdd : Nat.blt d1 d = true) (hn : as.length = n) (hnL : Nat.ble nL1 45 = true) (hst : st0 = as.reverse ++ .ref q :: st) (hcat : Nat.ble (st.map fun v => v.category).sum 8 = true) (hcu : Nat.ble (cu + mc1) mc = true) (hsu : Nat.ble (su + ms1) ms = true) (kk : ∀ ws1, B1 q K.2.2.2.1 ws1 → WC d mc ms cc own nL h0 K B (pc + 3) L st (rest ++ ws1) (cu + mc1) (su + ms1)) : WC d mc ms cc own nL h0 K B pc L st0 ws cu su := by
  intro hK
  obtain ⟨⟨p, l, e, s, m, args⟩, ⟨below, meth, c⟩, ⟨ad0, tc, D⟩⟩ := K
  obtain ⟨hx, hb, hml, hown, hts, hlk, hret, hinit, hKC⟩ := id hK
  intro H locs ls hP hD hS hl
  subst hst
  subst hws
  have hMet := hC l D tc H.size q
  have h64 : 64 * d1 + 64 ≤ 64 * d := by have := Nat.le_of_ble_eq_true hdd; omega
  have hn45 := Nat.le_of_ble_eq_true hnL
  have hPq := (va_P_app.mp hP).2
  have hDq : cA0 h0 s.heap.size q := (va_D_app.mp hD).2.1.2 0 (q, .inr (ci, fs0)) rfl
  have hqlt : q < H.size := (hPq 0 (q, .inr (ci, fs0)) rfl).lt
  have cw : CallB (rmC d mc ms) s args own idx y cc1 nL1 none (Cond.code y cc1 nL1 none :: lw_g) (rmC d1 mc1 ms1) mc1 ms1 n ∧ y.name = "<init>" ∧ (Cond.instanceMethod y).before args s = true := ⟨callB_of n hts (lg_good hM.2.2.2.2.1) rfl rfl rfl (hts _ hM.2.2.2.1) (hts _ hM.1) hM.2.2.2.2.2 ⟨by have := Nat.le_of_ble_eq_true hdd; show d1 + 1 ≤ d; omega, by show 8 + (nL1 + 11) + 64 * d1 ≤ 64 * d; omega⟩, hM.2.1, hts _ hM.2.2.1⟩
  have run := va_runI (b := q) (As := as) (rest := st) (g := F0 m pc ls (as.reverse ++ .ref q :: st)) (cells := cu) (slots := su) (e := e) (below := below) (meth := meth) (H := H) (locs := locs) ⟨hx, hb, hml, hown, hts⟩ hMet cw ⟨CN_blind, fun U hU hW => ⟨rfl, by rw [hU], hqlt, by rw [hU]; exact hPq, hKC.warm hW⟩⟩ rfl hn hl.1 rfl (lv_room (Nat.le_of_ble_eq_true hcat)) hd ⟨Nat.le_of_ble_eq_true hcu, Nat.le_of_ble_eq_true hsu⟩
  refine va_callv (a := (Value.ref q :: as).toArray) run hS (fun a _ h => by rcases h with z | z; exact z ▸ hDq; exact Or.inr (Nat.le_trans hS.1 z)) (fun a h => by rcases h with z | z; exact z ▸ hDq; exact Or.inr (Nat.le_trans hS.1 z)) (fun u t H1 locs1 ht hvm hw hB hz1 hkeep hS1 => ?_)
  obtain ⟨hP1, hD1⟩ := hB
  rw [ht] at hP1
  obtain ⟨hP2, hD2⟩ := joinC hS.1 hP hD hkeep hP1 hD1
  exact kk u hw hK H1 locs1 ls hP2 hD2 hS1 hl
end WCcall
