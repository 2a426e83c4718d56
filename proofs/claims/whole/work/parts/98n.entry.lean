/-! THE LAW'S ENTRY: the program, the model, the place for a long -/
def KOKe (b : Nat) (K : KX) : Prop := match K with
  | ((p, l, e, s, m, args), (below, meth, c), (ad0, tc, D)) => args = #[Value.ref b] ∧ p.tables.exec = Jvm.exec ∧ c.code = cL_law ∧ c.maxLocals = 8 ∧ s.vm.findClass RL = some m.cls ∧ (∀ w ∈ lw_g, w.before args s = true) ∧ KC tc D s
def WE (b : Nat) (K : KX) (pc : Nat) (L : List (Option Value)) (st : List Value) (ws : va_W) (cu su : Nat) : Prop := KOKe b K → match K with
  | ((p, l, e, s, m, args), (below, meth, c), (ad0, tc, D)) => ∀ (H : Heap) (locs : List Loc) (ls : Array Slot), va_P D vwCl ws H → va_D (cA0 s.heap.size s.heap.size) ws → va_S (cA0 s.heap.size s.heap.size) s.heap H locs → LR id 8 L ls →
    W p l e room_1 s m args below meth c H locs cu su (lw_Z below args s) (F0 m pc ls st)
section WEr
variable {b : Nat} {K : KX} {pc : Nat} {L : List (Option Value)} {st : List Value} {ws : va_W} {cu su : Nat}
theorem e_new {idx ci : Nat} {C : String} {T : u_T} {N : Nat} {ty : Nat → FieldType} {fs : List Value} (hin : ∀ w ∈ u_ws C T N, w ∈ lw_g) (hcf : CFk T N ty) (hc : vwCl[ci]? = some (C, T, N)) (hcl : Cond.classLink RL idx C ∈ lw_g) (hinst : Cond.instantiable C N ∈ lw_g) (hini : Cond.initialized C ∈ lw_g) (hfs : ∀ j, j < N → defaultValue (ty j) = vp_V fs j) (hcu : Nat.ble (cu + 1) 601024 = true) (hsu : Nat.ble (su + N) 7293034 = true) (hd : decode cL_law pc = .ok (.new idx, 3)) (kk : ∀ q, WE b K (pc + 3) L (.ref q :: st) (ws ++ [(q, .inr (ci, fs))]) (cu + 1) (su + N)) : WE b K pc L st ws cu su := by
  intro hK
  obtain ⟨⟨p, l, e, s, m, args⟩, ⟨below, meth, c⟩, ⟨ad0, tc, D⟩⟩ := K
  obtain ⟨ha, hx, hb, hml, hown, hts, hKC⟩ := id hK
  intro H locs ls hP hD hS hl
  refine va_new hx hb hts hin ty hcf.1 hown (hts _ hcl) (hts _ hinst) (hts _ hini) (⟨hKC.1, fun k q h => by simp at h⟩ : va_K D vwCl [] s) hP hD hS (fun q hq => Or.inr hq) hc hfs (Nat.le_of_ble_eq_true hcu) (Nat.le_of_ble_eq_true hsu) hd (fun q H1 hP1 hD1 hS1 => ?_)
  exact kk q hK H1 locs ls hP1 hD1 hS1 hl
theorem e_dup {v : Value} (hd : decode cL_law pc = .ok (.dup, 1)) (hc : v.category = 1) (kk : WE b K (pc + 1) L (v :: v :: st) ws cu su) : WE b K pc L (v :: st) ws cu su := by
  intro hK
  obtain ⟨⟨p, l, e, s, m, args⟩, ⟨below, meth, c⟩, ⟨ad0, tc, D⟩⟩ := K
  obtain ⟨ha, hx, hb, hml, hown, hts, hKC⟩ := id hK
  intro H locs ls hP hD hS hl
  have kk := kk hK H locs ls hP hD hS hl
  exact lv_dup hx hb hd hc kk
theorem e_iconst {n : Int} (hd : decode cL_law pc = .ok (.iconst n, 1)) (kk : WE b K (pc + 1) L (vi n :: st) ws cu su) : WE b K pc L st ws cu su := by
  intro hK
  obtain ⟨⟨p, l, e, s, m, args⟩, ⟨below, meth, c⟩, ⟨ad0, tc, D⟩⟩ := K
  obtain ⟨ha, hx, hb, hml, hown, hts, hKC⟩ := id hK
  intro H locs ls hP hD hS hl
  have kk := kk hK H locs ls hP hD hS hl
  exact lv_iconst hx hb hd rfl kk
theorem e_astore_n {k : Fin 4} {x : Nat} {L' : List (Option Value)} (hd : decode cL_law pc = .ok (.astore_n k, 1)) (hn : Nat.blt k.val 8 = true) (hc : nolong L k.val = true) (hL : lset L k.val (.ref x) = L') (kk : WE b K (pc + 1) L' st ws cu su) : WE b K pc L (.ref x :: st) ws cu su := by
  intro hK
  obtain ⟨⟨p, l, e, s, m, args⟩, ⟨below, meth, c⟩, ⟨ad0, tc, D⟩⟩ := K
  obtain ⟨ha, hx, hb, hml, hown, hts, hKC⟩ := id hK
  intro H locs ls hP hD hS hl
  subst hL
  refine lv_astore_n hx hb hd rfl (LR.has hl) (Nat.le_of_ble_eq_true hn) rfl fun ls2 h2 => ?_
  exact kk hK H locs ls2 hP hD hS (LR.st1 (v := .ref x) hc h2)
theorem e_istore {i : Nat} {a : Int} {L' : List (Option Value)} (hd : decode cL_law pc = .ok (.istore i, 2)) (hn : Nat.blt i 8 = true) (hc : nolong L i = true) (hL : lset L i (vi a) = L') (kk : WE b K (pc + 2) L' st ws cu su) : WE b K pc L (vi a :: st) ws cu su := by
  intro hK
  obtain ⟨⟨p, l, e, s, m, args⟩, ⟨below, meth, c⟩, ⟨ad0, tc, D⟩⟩ := K
  obtain ⟨ha, hx, hb, hml, hown, hts, hKC⟩ := id hK
  intro H locs ls hP hD hS hl
  subst hL
  refine lv_istore hx hb hd (LR.has hl) (Nat.le_of_ble_eq_true hn) rfl fun ls2 h2 => ?_
  exact kk hK H locs ls2 hP hD hS (LR.st1 (v := vi a) hc h2)
theorem e_newa {at0 : ArrayType} {t n : Nat} {a0 : vp_A} (harr : Cond.arrayClass (newarray.typeOf at0) ∈ lw_g) (hty : newarray.typeOf at0 = aty t) (ht4 : t < 4) (ha0 : ∀ cA : ClassId, vp_cell cA a0 = arrV cA n (fun _ => defaultValue (aty t))) (hn : Nat.blt n 100000 = true) (hbt : n * componentBytes (aty t) ≤ 536870912) (hcu : Nat.ble (cu + 1) 601024 = true) (hsu : Nat.ble (su + n) 7293034 = true) (hd : decode cL_law pc = .ok (.newarray at0, 2)) (kk : ∀ q, WE b K (pc + 2) L (.ref q :: st) (ws ++ [(q, .inl (K.2.2.2.1 t, a0))]) (cu + 1) (su + n)) : WE b K pc L (vi n :: st) ws cu su := by
  intro hK
  obtain ⟨⟨p, l, e, s, m, args⟩, ⟨below, meth, c⟩, ⟨ad0, tc, D⟩⟩ := K
  obtain ⟨ha, hx, hb, hml, hown, hts, hKC⟩ := id hK
  intro H locs ls hP hD hS hl
  have hn2 := Nat.le_of_ble_eq_true hn
  have hr : rng (n : Int) := ⟨by omega, by omega⟩
  refine va_newa (atype := at0) (ty := aty t) (N' := n) (a0 := a0) hx hb (hts _ harr) hty (⟨hKC.1, fun k q h => by simp at h⟩ : va_K D vwCl [] s) hP hD hS (fun q hq => Or.inr hq) ha0 (fun z => by have := (w_lt (y := 0) ⟨hr, by decide⟩).mp z; omega) (by show (Int32.ofInt (n : Int)).toInt.toNat = n; rw [wi hr]; rfl) hbt (Nat.le_of_ble_eq_true hcu) (Nat.le_of_ble_eq_true hsu) hd (fun q cA H1 hK1 hP1 hD1 hS1 => ?_)
  have hra : va_RA s cA (aty t) := (hK1.2 0 (cA, aty t) rfl).2
  have hcA : cA = tc t := by
    have h1 := hKC.2.1 t (by omega)
    have h2 : s.vm.findClass ("[" ++ (aty t).toString) = some cA := by
      have : t = 0 ∨ t = 1 ∨ t = 2 ∨ t = 3 := by omega
      rcases this with rfl | rfl | rfl | rfl <;> exact hra
    exact Option.some.inj (h2.symm.trans h1)
  subst hcA
  exact kk q hK H1 locs ls hP1 hD1 hS1 hl
theorem e_callS {d1 mc1 ms1 idx n nL1 q ci : Nat} {y : MethodName} {cc1 : ByteArray} {as st0 fs0 : List Value} {B1 : Nat → (Nat → ClassId) → va_W → Prop} {rest : va_W} (hM : Cond.methodLink RL idx y ∈ lw_g ∧ y.name = "<init>" ∧ Cond.instanceMethod y ∈ lw_g ∧ Cond.initialized y.cls ∈ lw_g ∧ Cond.code y cc1 nL1 none ∈ lw_g ∧ (y.cls ≠ "java/lang/invoke/MethodHandle" ∧ y.cls ≠ "java/lang/invoke/VarHandle" ∧ (parseMethodDescriptor y.desc).map (fun d => d.parameters.length) = some n)) (hC : CN d1 mc1 ms1 y cc1 nL1 ci fs0 as B1) (hws : ws = rest ++ [(q, .inr (ci, fs0))]) (hd : decode cL_law pc = .ok (.invokespecial idx, 3)) (hdd : Nat.blt d1 100 = true) (hn : as.length = n) (hnL : Nat.ble nL1 45 = true) (hst : st0 = as.reverse ++ .ref q :: st) (hcat : Nat.ble (st.map fun v => v.category).sum 8 = true) (hcu : Nat.ble (cu + mc1) 601024 = true) (hsu : Nat.ble (su + ms1) 7293034 = true) (kk : ∀ ws1, B1 q K.2.2.2.1 ws1 → WE b K (pc + 3) L st (rest ++ ws1) (cu + mc1) (su + ms1)) : WE b K pc L st0 ws cu su := by
  intro hK
  obtain ⟨⟨p, l, e, s, m, args⟩, ⟨below, meth, c⟩, ⟨ad0, tc, D⟩⟩ := K
  obtain ⟨ha, hx, hb, hml, hown, hts, hKC⟩ := id hK
  intro H locs ls hP hD hS hl
  subst hst
  subst hws
  have hMet := hC l D tc H.size q
  have hn45 := Nat.le_of_ble_eq_true hnL
  have hd1 : d1 + 1 ≤ 100 := Nat.le_of_ble_eq_true hdd
  have hPq := (va_P_app.mp hP).2
  have hDq : cA0 s.heap.size s.heap.size q := (va_D_app.mp hD).2.1.2 0 (q, .inr (ci, fs0)) rfl
  have hqlt : q < H.size := (hPq 0 (q, .inr (ci, fs0)) rfl).lt
  have cw : CallB room_1 s args RL idx y cc1 nL1 none (Cond.code y cc1 nL1 none :: lw_g) (rmC d1 mc1 ms1) mc1 ms1 n ∧ y.name = "<init>" ∧ (Cond.instanceMethod y).before args s = true := ⟨callB_of n hts (lg_good hM.2.2.2.2.1) rfl rfl rfl (hts _ hM.2.2.2.1) (hts _ hM.1) hM.2.2.2.2.2 ⟨by show d1 + 1 ≤ 2048; omega, by show 8 + (nL1 + 11) + 64 * d1 ≤ 84000; omega⟩, hM.2.1, hts _ hM.2.2.1⟩
  have run := va_runI (b := q) (As := as) (rest := st) (g := F0 m pc ls (as.reverse ++ .ref q :: st)) (cells := cu) (slots := su) (e := e) (below := below) (meth := meth) (H := H) (locs := locs) ⟨hx, hb, hml, hown, hts⟩ hMet cw ⟨CN_blind, fun U hU hW => ⟨rfl, by rw [hU], hqlt, by rw [hU]; exact hPq, hKC.warm hW⟩⟩ rfl hn hl.1 rfl (lv_room (Nat.le_of_ble_eq_true hcat)) hd ⟨Nat.le_of_ble_eq_true hcu, Nat.le_of_ble_eq_true hsu⟩
  refine va_callv (a := (Value.ref q :: as).toArray) run hS (fun a _ h => by rcases h with z | z; exact z ▸ hDq; exact Or.inr (Nat.le_trans hS.1 z)) (fun a h => by rcases h with z | z; exact z ▸ hDq; exact Or.inr (Nat.le_trans hS.1 z)) (fun u t H1 locs1 ht hvm hw hB hz1 hkeep hS1 => ?_)
  obtain ⟨hP1, hD1⟩ := hB
  rw [ht] at hP1
  obtain ⟨hP2, hD2⟩ := joinC hS.1 hP hD hkeep hP1 hD1
  exact kk u hw hK H1 locs1 ls hP2 hD2 hS1 hl
end WEr
theorem law_entry {b : Nat} {K : KX} (kk : ∀ (q1 q2 q3 : Nat) (u1 u2 : va_W), BX10 q1 K.2.2.2.1 u1 → BX11 q2 K.2.2.2.1 u2 → WE b K 23 [some (.ref b), some (.ref q1), some (.ref q2), some (.ref q3), some (vi 0), none, none, none] [] ((u1 ++ u2) ++ [(q3, .inl (K.2.2.2.1 3, (1, .inr (.inl fun _ => 0))))]) 240 18539) : WE b K 0 [some (.ref b), none, none, none, none, none, none, none] [] [] 0 0 := by
  refine e_new (ci := 10) (fs := fzX10) ingX10 cf_X10 rfl (tg 21 (by decide +kernel) rfl) (tg 22 (by decide +kernel) rfl) (tg 1 (by decide +kernel) rfl) dfX10 rfl rfl dL_law_0 (fun q1 => ?_)
  refine e_dup dL_law_3 rfl ?_
  refine e_callS (rest := []) ⟨(tg 23 (by decide +kernel) rfl), rfl, (tg 24 (by decide +kernel) rfl), (tg 1 (by decide +kernel) rfl), (tg 25 (by decide +kernel) rfl), by decide⟩ cn_X10 rfl dL_law_4 rfl rfl rfl rfl rfl rfl rfl (fun u1 hu1 => ?_)
  refine e_astore_n dL_law_7 rfl rfl rfl ?_
  refine e_new (ci := 11) (fs := fzX11) ingX11 cf_X11 rfl (tg 1141 (by decide +kernel) rfl) (tg 1135 (by decide +kernel) rfl) (tg 12 (by decide +kernel) rfl) dfX11 rfl rfl dL_law_8 (fun q2 => ?_)
  refine e_dup dL_law_11 rfl ?_
  refine e_callS (rest := _) ⟨(tg 1142 (by decide +kernel) rfl), rfl, (tg 1143 (by decide +kernel) rfl), (tg 12 (by decide +kernel) rfl), (tg 1144 (by decide +kernel) rfl), by decide⟩ cn_X11 rfl dL_law_12 rfl rfl rfl rfl rfl rfl rfl (fun u2 hu2 => ?_)
  refine e_astore_n dL_law_15 rfl rfl rfl ?_
  refine e_iconst dL_law_16 ?_
  refine e_newa (t := 3) (n := 1) (a0 := (1, .inr (.inl fun _ => 0))) (tg 95 (by decide +kernel) rfl) rfl (by decide) (fun _ => rfl) rfl (by decide) rfl rfl dL_law_17 (fun q3 => ?_)
  refine e_astore_n dL_law_19 rfl rfl rfl ?_
  refine e_iconst dL_law_20 ?_
  refine e_istore dL_law_21 rfl rfl rfl ?_
  exact kk q1 q2 q3 u1 u2 hu1 hu2
