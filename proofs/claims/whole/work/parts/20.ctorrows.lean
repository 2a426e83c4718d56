/-! CONSTRUCTORS: rows over lists of cells (this first); 'tc' by the class names of arrays -/
def rmC (d mc ms : Nat) : Room := { frames := d, cells := mc, slots := ms, locals := 64 * d }
/-- words that speak of arrays of references: they are carried by what they say of the tables -/
def AOW (U : State) : Prop := (Cond.arrayOver (.object "WaveRows$Scene")).before #[] U = true ∧ (Cond.arrayOver (.array .int)).before #[] U = true
theorem AOW.moved {u U : State} (hvm : u.vm.Alike U.vm) (h : AOW u) : AOW U := ⟨va_AO.moved hvm h.1, Jvm.Stand.arrayOver_alikeB hvm h.2⟩
/-- classes, and array classes by their names -/
def KC (tc : Nat → ClassId) (D : va_G) (U : State) : Prop := (∀ (c : Nat) (q : vw_C), vwCl[c]? = some q → u_Kn U q.1 q.2.1 q.2.2 (D.1 c) (D.2 c)) ∧ (∀ t, t < 6 → U.vm.findClass ("[" ++ (aty t).toString) = some (tc t)) ∧ (∀ q ∈ nestL, va_Nw (nestW q) U) ∧ AOW U
theorem KC.warm {tc : Nat → ClassId} {D : va_G} {s U : State} (hW : s.WarmedH U.vm) (h : KC tc D s) : KC tc D U :=
  ⟨fun c q hq => u_Kn_moved hW.alike (h.1 c q hq), fun t ht => by rw [hW.alike.findClass]; exact h.2.1 t ht, fun q hq => va_Nw.warmM hW (h.2.2.1 q hq), h.2.2.2.moved hW.alike⟩
theorem KC.blind {tc : Nat → ClassId} {D : va_G} {U : State} (h : KC tc D U) (g : JFrame) (mk : MethodId) (a : Array Value) : KC tc D (U.calling g mk a) :=
  ⟨fun c q hq => u_Kn_moved (u := U) (U := U.calling g mk a) (Vm.Alike.refl U.vm) (h.1 c q hq), fun t ht => h.2.1 t ht, fun q hq => va_tabs (c := nestW q) (A := #[]) (u := U) (U := U.calling g mk a) rfl rfl (h.2.2.1 q hq), AOW.moved (u := U) (U := U.calling g mk a) (Vm.Alike.refl U.vm) h.2.2.2⟩
def KOKc (cc : ByteArray) (own : String) (nL : Nat) (h0 : Nat) (K : KX) : Prop := match K with
  | ((p, l, e, s, m, args), (below, meth, c), (ad0, tc, D)) => p.tables.exec = Jvm.exec ∧ c.code = cc ∧ c.maxLocals = nL ∧ s.vm.findClass own = some m.cls ∧ (∀ w ∈ lw_g, w.before args s = true) ∧ meth.locks = false ∧ meth.sig.returnType = none ∧ meth.name = "<init>" ∧ KC tc D s
def cA0 (h0 sz : Nat) : Nat → Prop := fun q => q = h0 ∨ sz ≤ q
/-- a constructor's frame: from here it ends, and leaves cells that B describes -/
def WC (d mc ms : Nat) (cc : ByteArray) (own : String) (nL : Nat) (h0 : Nat) (K : KX) (B : (Nat → ClassId) → va_W → Prop) (pc : Nat) (L : List (Option Value)) (st : List Value) (ws : va_W) (cu su : Nat) : Prop := KOKc cc own nL h0 K → match K with
  | ((p, l, e, s, m, args), (below, meth, c), (ad0, tc, D)) => ∀ (H : Heap) (locs : List Loc) (ls : Array Slot), va_P D vwCl ws H → va_D (cA0 h0 s.heap.size) ws → va_S (cA0 h0 s.heap.size) s.heap H locs → LR id nL L ls →
    W p l e (rmC d mc ms) s m args below meth c H locs cu su (MQ below (va_Qv (S := va_W) (B tc) (fun ws t => va_P D vwCl ws t.heap ∧ va_D (cA0 h0 s.heap.size) ws) (cA0 h0 s.heap.size)) args s mc ms (cA0 h0 s.heap.size)) (F0 m pc ls st)
theorem cvid : ∀ v : Value, cv id v = v := fun v => by cases v <;> rfl
section WCr
variable {d mc ms : Nat} {cc : ByteArray} {own : String} {nL h0 : Nat} {K : KX} {B : (Nat → ClassId) → va_W → Prop} {pc : Nat} {L : List (Option Value)} {st : List Value} {ws : va_W} {cu su : Nat}
theorem oi_inst : Cond.instanceMethod Lib.objectInit ∈ lw_g := tg 27 (by decide +kernel) rfl
theorem oi_code : Cond.code Lib.objectInit ⟨#[0xb1]⟩ 1 none ∈ lw_g := tg 28 (by decide +kernel) rfl
theorem c_aload_n {k : Fin 4} {q : Nat} (hd : decode cc pc = .ok (.aload_n k, 1)) (hg : lget L k.val = some (.ref q)) (kk : WC d mc ms cc own nL h0 K B (pc + 1) L (.ref q :: st) ws cu su) : WC d mc ms cc own nL h0 K B pc L st ws cu su := by
  intro hK
  obtain ⟨⟨p, l, e, s, m, args⟩, ⟨below, meth, c⟩, ⟨ad0, tc, D⟩⟩ := K
  obtain ⟨hx, hb, hml, hown, hts, hlk, hret, hinit, hKC⟩ := id hK
  intro H locs ls hP hD hS hl
  have kk := kk hK H locs ls hP hD hS hl
  exact lv_aload_n hx hb hd rfl (hl.2.2 _ _ hg) kk
theorem c_iload_n {k : Fin 4} {v : Int} (hd : decode cc pc = .ok (.iload_n k, 1)) (hg : lget L k.val = some (vi v)) (kk : WC d mc ms cc own nL h0 K B (pc + 1) L (vi v :: st) ws cu su) : WC d mc ms cc own nL h0 K B pc L st ws cu su := by
  intro hK
  obtain ⟨⟨p, l, e, s, m, args⟩, ⟨below, meth, c⟩, ⟨ad0, tc, D⟩⟩ := K
  obtain ⟨hx, hb, hml, hown, hts, hlk, hret, hinit, hKC⟩ := id hK
  intro H locs ls hP hD hS hl
  have kk := kk hK H locs ls hP hD hS hl
  exact lv_iload_n hx hb hd rfl (hl.2.2 _ _ hg) kk
theorem c_iconst {n : Int} (hd : decode cc pc = .ok (.iconst n, 1)) (kk : WC d mc ms cc own nL h0 K B (pc + 1) L (vi n :: st) ws cu su) : WC d mc ms cc own nL h0 K B pc L st ws cu su := by
  intro hK
  obtain ⟨⟨p, l, e, s, m, args⟩, ⟨below, meth, c⟩, ⟨ad0, tc, D⟩⟩ := K
  obtain ⟨hx, hb, hml, hown, hts, hlk, hret, hinit, hKC⟩ := id hK
  intro H locs ls hP hD hS hl
  have kk := kk hK H locs ls hP hD hS hl
  exact lv_iconst hx hb hd rfl kk
theorem c_bipush {n : Int} (hd : decode cc pc = .ok (.bipush n, 2)) (hv : (Int8.ofInt n).toInt32 = Int32.ofInt n) (kk : WC d mc ms cc own nL h0 K B (pc + 2) L (vi n :: st) ws cu su) : WC d mc ms cc own nL h0 K B pc L st ws cu su := by
  intro hK
  obtain ⟨⟨p, l, e, s, m, args⟩, ⟨below, meth, c⟩, ⟨ad0, tc, D⟩⟩ := K
  obtain ⟨hx, hb, hml, hown, hts, hlk, hret, hinit, hKC⟩ := id hK
  intro H locs ls hP hD hS hl
  have kk := kk hK H locs ls hP hD hS hl
  exact lv_bipush hx hb hd hv kk
theorem c_sipush {n : Int} (hd : decode cc pc = .ok (.sipush n, 3)) (hv : (Int16.ofInt n).toInt32 = Int32.ofInt n) (kk : WC d mc ms cc own nL h0 K B (pc + 3) L (vi n :: st) ws cu su) : WC d mc ms cc own nL h0 K B pc L st ws cu su := by
  intro hK
  obtain ⟨⟨p, l, e, s, m, args⟩, ⟨below, meth, c⟩, ⟨ad0, tc, D⟩⟩ := K
  obtain ⟨hx, hb, hml, hown, hts, hlk, hret, hinit, hKC⟩ := id hK
  intro H locs ls hP hD hS hl
  have kk := kk hK H locs ls hP hD hS hl
  exact lv_sipush hx hb hd hv kk
theorem c_lconst {n : Fin 2} {v : Int} (hd : decode cc pc = .ok (.lconst n, 1)) (hv : Int64.ofNat (n : Nat) = Int64.ofInt v) (kk : WC d mc ms cc own nL h0 K B (pc + 1) L (vl v :: st) ws cu su) : WC d mc ms cc own nL h0 K B pc L st ws cu su := by
  intro hK
  obtain ⟨⟨p, l, e, s, m, args⟩, ⟨below, meth, c⟩, ⟨ad0, tc, D⟩⟩ := K
  obtain ⟨hx, hb, hml, hown, hts, hlk, hret, hinit, hKC⟩ := id hK
  intro H locs ls hP hD hS hl
  have kk := kk hK H locs ls hP hD hS hl
  exact lv_lconst hx hb hd hv kk
theorem c_ldc2 {idx : Nat} {v : Int} (hc : Cond.constantLong own idx (Int64.ofInt v) ∈ lw_g) (hd : decode cc pc = .ok (.ldc2_w idx, 3)) (kk : WC d mc ms cc own nL h0 K B (pc + 3) L (vl v :: st) ws cu su) : WC d mc ms cc own nL h0 K B pc L st ws cu su := by
  intro hK
  obtain ⟨⟨p, l, e, s, m, args⟩, ⟨below, meth, c⟩, ⟨ad0, tc, D⟩⟩ := K
  obtain ⟨hx, hb, hml, hown, hts, hlk, hret, hinit, hKC⟩ := id hK
  intro H locs ls hP hD hS hl
  have kk := kk hK H locs ls hP hD hS hl
  exact lv_ldc2 hx hb hown (hts _ hc) hd kk
theorem c_dup {v : Value} (hd : decode cc pc = .ok (.dup, 1)) (hc : v.category = 1) (kk : WC d mc ms cc own nL h0 K B (pc + 1) L (v :: v :: st) ws cu su) : WC d mc ms cc own nL h0 K B pc L (v :: st) ws cu su := by
  intro hK
  obtain ⟨⟨p, l, e, s, m, args⟩, ⟨below, meth, c⟩, ⟨ad0, tc, D⟩⟩ := K
  obtain ⟨hx, hb, hml, hown, hts, hlk, hret, hinit, hKC⟩ := id hK
  intro H locs ls hP hD hS hl
  have kk := kk hK H locs ls hP hD hS hl
  exact lv_dup hx hb hd hc kk
theorem c_goto {off : Int} {tgt : Nat} (hd : decode cc pc = .ok (.goto off, 3)) (ht : (pc : Int) + off = (tgt : Int)) (kk : WC d mc ms cc own nL h0 K B tgt L st ws cu su) : WC d mc ms cc own nL h0 K B pc L st ws cu su := by
  intro hK
  obtain ⟨⟨p, l, e, s, m, args⟩, ⟨below, meth, c⟩, ⟨ad0, tc, D⟩⟩ := K
  obtain ⟨hx, hb, hml, hown, hts, hlk, hret, hinit, hKC⟩ := id hK
  intro H locs ls hP hD hS hl
  have kk := kk hK H locs ls hP hD hS hl
  exact lv_goto hx hb hd ht kk
theorem c_obj {q idx : Nat} (hlk0 : Cond.methodLink own idx Lib.objectInit ∈ lw_g) (hd0 : Nat.blt 0 d = true) (hst : st = []) (hd : decode cc pc = .ok (.invokespecial idx, 3)) (kk : WC d mc ms cc own nL h0 K B (pc + 3) L st ws cu su) : WC d mc ms cc own nL h0 K B pc L (.ref q :: st) ws cu su := by
  intro hK
  obtain ⟨⟨p, l, e, s, m, args⟩, ⟨below, meth, c⟩, ⟨ad0, tc, D⟩⟩ := K
  obtain ⟨hx, hb, hml, hown, hts, hlk, hret, hinit, hKC⟩ := id hK
  intro H locs ls hP hD hS hl
  have kk := kk hK H locs ls hP hD hS hl
  have hdd := Nat.le_of_ble_eq_true hd0
  subst hst
  exact W.objInit hx hb hown (hts _ hlk0) (hts _ oi_inst) (hts _ oi_code) rfl (by rw [hml]; exact hl.1) rfl hd hdd (by show 2 * 0 + 0 + 12 ≤ 64 * d; omega) kk
theorem c_vret (hB : ∀ tc : Nat → ClassId, tc = K.2.2.2.1 → B tc ws) (hcu : cu = mc) (hsu : su = ms) (hd : decode cc pc = .ok (.return_, 1)) : WC d mc ms cc own nL h0 K B pc L [] ws cu su := by
  intro hK
  obtain ⟨⟨p, l, e, s, m, args⟩, ⟨below, meth, c⟩, ⟨ad0, tc, D⟩⟩ := K
  obtain ⟨hx, hb, hml, hown, hts, hlk, hret, hinit, hKC⟩ := id hK
  intro H locs ls hP hD hS hl
  subst hcu; subst hsu
  exact W.vret hx hb hret (fun t ht hW => ⟨⟨ws, rfl, hB tc rfl, by rw [ht]; exact hP, hD⟩, hS.F ht⟩) hS.2.2 hd hlk
theorem c_new {idx ci : Nat} {C : String} {T : u_T} {N : Nat} {ty : Nat → FieldType} {fs : List Value} (hin : ∀ w ∈ u_ws C T N, w ∈ lw_g) (hcf : CFk T N ty) (hc : vwCl[ci]? = some (C, T, N)) (hcl : Cond.classLink own idx C ∈ lw_g) (hinst : Cond.instantiable C N ∈ lw_g) (hini : Cond.initialized C ∈ lw_g) (hfs : ∀ j, j < N → defaultValue (ty j) = vp_V fs j) (hcu : Nat.ble (cu + 1) mc = true) (hsu : Nat.ble (su + N) ms = true) (hd : decode cc pc = .ok (.new idx, 3)) (kk : ∀ q, WC d mc ms cc own nL h0 K B (pc + 3) L (.ref q :: st) (ws ++ [(q, .inr (ci, fs))]) (cu + 1) (su + N)) : WC d mc ms cc own nL h0 K B pc L st ws cu su := by
  intro hK
  obtain ⟨⟨p, l, e, s, m, args⟩, ⟨below, meth, c⟩, ⟨ad0, tc, D⟩⟩ := K
  obtain ⟨hx, hb, hml, hown, hts, hlk, hret, hinit, hKC⟩ := id hK
  intro H locs ls hP hD hS hl
  refine va_new hx hb hts hin ty hcf.1 hown (hts _ hcl) (hts _ hinst) (hts _ hini) (⟨hKC.1, fun k q h => by simp at h⟩ : va_K D vwCl [] s) hP hD hS (fun q hq => Or.inr hq) hc hfs (Nat.le_of_ble_eq_true hcu) (Nat.le_of_ble_eq_true hsu) hd (fun q H1 hP1 hD1 hS1 => ?_)
  exact kk q hK H1 locs ls hP1 hD1 hS1 hl
theorem c_newa {at0 : ArrayType} {t n : Nat} {a0 : vp_A} (harr : Cond.arrayClass (newarray.typeOf at0) ∈ lw_g) (hty : newarray.typeOf at0 = aty t) (ht4 : t < 4) (ha : ∀ cA : ClassId, vp_cell cA a0 = arrV cA n (fun _ => defaultValue (aty t))) (hn : Nat.blt n 100000 = true) (hbt : n * componentBytes (aty t) ≤ 536870912) (hcu : Nat.ble (cu + 1) mc = true) (hsu : Nat.ble (su + n) ms = true) (hd : decode cc pc = .ok (.newarray at0, 2)) (kk : ∀ q, WC d mc ms cc own nL h0 K B (pc + 2) L (.ref q :: st) (ws ++ [(q, .inl (K.2.2.2.1 t, a0))]) (cu + 1) (su + n)) : WC d mc ms cc own nL h0 K B pc L (vi n :: st) ws cu su := by
  intro hK
  obtain ⟨⟨p, l, e, s, m, args⟩, ⟨below, meth, c⟩, ⟨ad0, tc, D⟩⟩ := K
  obtain ⟨hx, hb, hml, hown, hts, hlk, hret, hinit, hKC⟩ := id hK
  intro H locs ls hP hD hS hl
  have hn2 := Nat.le_of_ble_eq_true hn
  have hr : rng (n : Int) := ⟨by omega, by omega⟩
  refine va_newa (atype := at0) (ty := aty t) (N' := n) (a0 := a0) hx hb (hts _ harr) hty (⟨hKC.1, fun k q h => by simp at h⟩ : va_K D vwCl [] s) hP hD hS (fun q hq => Or.inr hq) ha (fun z => by have := (w_lt (y := 0) ⟨hr, by decide⟩).mp z; omega) (by show (Int32.ofInt (n : Int)).toInt.toNat = n; rw [wi hr]; rfl) hbt (Nat.le_of_ble_eq_true hcu) (Nat.le_of_ble_eq_true hsu) hd (fun q cA H1 hK1 hP1 hD1 hS1 => ?_)
  have hra : va_RA s cA (aty t) := (hK1.2 0 (cA, aty t) rfl).2
  have hcA : cA = tc t := by
    have h1 := hKC.2.1 t (by omega)
    have h2 : s.vm.findClass ("[" ++ (aty t).toString) = some cA := by
      have : t = 0 ∨ t = 1 ∨ t = 2 ∨ t = 3 := by omega
      rcases this with rfl | rfl | rfl | rfl <;> exact hra
    exact Option.some.inj (h2.symm.trans h1)
  subst hcA
  exact kk q hK H1 locs ls hP1 hD1 hS1 hl
theorem c_putF {idx ci j q q0 : Nat} {C : String} {T : u_T} {N : Nat} {ty : Nat → FieldType} {t : FieldType} {fs : List Value} {v : Value} (hf : FLk own idx ci j C T N) (hcf : CFk T N ty) (hfin : (T j).2.2.2 = true) (hdecl : (T j).1 = own) (ht : ty j = t) (hnar : narrow t v = v) (hfit : fits t v = true) (he : ws[q0]? = some (q, .inr (ci, fs))) (hlen : Nat.blt j fs.length = true) (hd : decode cc pc = .ok (.putfield idx, 3)) (kk : WC d mc ms cc own nL h0 K B (pc + 3) L st (ws.set q0 (q, .inr (ci, fs.set j v))) cu su) : WC d mc ms cc own nL h0 K B pc L (v :: .ref q :: st) ws cu su := by
  intro hK
  obtain ⟨⟨p, l, e, s, m, args⟩, ⟨below, meth, c⟩, ⟨ad0, tc, D⟩⟩ := K
  obtain ⟨hx, hb, hml, hown, hts, hlk, hret, hinit, hKC⟩ := id hK
  intro H locs ls hP hD hS hl
  have hpd := hcf.1 j hf.2.2.2
  rw [ht] at hpd
  refine va_putF hx hb hts hf.2.1 ty hcf.1 hcf.2 hown (⟨hKC.1, fun k q h => by simp at h⟩ : va_K D vwCl [] s) hP hD hS q0 he hf.2.2.1 j hf.2.2.2 (hts _ hf.1) (fun _ h => h) hfin hinit hdecl hpd hnar hfit (Nat.le_of_ble_eq_true hlen) hd fun H1 locs1 p1 d1 s1 => ?_
  exact kk hK H1 locs1 ls p1 d1 s1 hl
theorem c_put {idx ci j q q0 : Nat} {C : String} {T : u_T} {N : Nat} {ty : Nat → FieldType} {t : FieldType} {fs : List Value} {v : Value} (hf : FLk own idx ci j C T N) (hcf : CFk T N ty) (hfin : (T j).2.2.2 = false) (ht : ty j = t) (hnar : narrow t v = v) (hfit : fits t v = true) (he : ws[q0]? = some (q, .inr (ci, fs))) (hlen : Nat.blt j fs.length = true) (hd : decode cc pc = .ok (.putfield idx, 3)) (kk : WC d mc ms cc own nL h0 K B (pc + 3) L st (ws.set q0 (q, .inr (ci, fs.set j v))) cu su) : WC d mc ms cc own nL h0 K B pc L (v :: .ref q :: st) ws cu su := by
  intro hK
  obtain ⟨⟨p, l, e, s, m, args⟩, ⟨below, meth, c⟩, ⟨ad0, tc, D⟩⟩ := K
  obtain ⟨hx, hb, hml, hown, hts, hlk, hret, hinit, hKC⟩ := id hK
  intro H locs ls hP hD hS hl
  have hpd := hcf.1 j hf.2.2.2
  rw [ht] at hpd
  refine va_put hx hb hts hf.2.1 ty hcf.1 hcf.2 hown (⟨hKC.1, fun k q h => by simp at h⟩ : va_K D vwCl [] s) hP hD hS q0 he hf.2.2.1 j hf.2.2.2 (hts _ hf.1) (fun _ h => h) hfin hpd hnar hfit (Nat.le_of_ble_eq_true hlen) hd fun H1 locs1 p1 d1 s1 => ?_
  exact kk hK H1 locs1 ls p1 d1 s1 hl
theorem c_get {idx ci j q q0 : Nat} {C : String} {T : u_T} {N : Nat} {fs : List Value} {v : Value} (hf : FLk own idx ci j C T N) (he : ws[q0]? = some (q, .inr (ci, fs))) (hv : fs[j]? = some v) (hd : decode cc pc = .ok (.getfield idx, 3)) (kk : WC d mc ms cc own nL h0 K B (pc + 3) L (v :: st) ws cu su) : WC d mc ms cc own nL h0 K B pc L (.ref q :: st) ws cu su := by
  intro hK
  obtain ⟨⟨p, l, e, s, m, args⟩, ⟨below, meth, c⟩, ⟨ad0, tc, D⟩⟩ := K
  obtain ⟨hx, hb, hml, hown, hts, hlk, hret, hinit, hKC⟩ := id hK
  intro H locs ls hP hD hS hl
  have kk := kk hK H locs ls hP hD hS hl
  exact va_get hx hb hts hf.2.1 hown (⟨hKC.1, fun k q h => by simp at h⟩ : va_K D vwCl [] s) hP q0 he hf.2.2.1 j hf.2.2.2 (hts _ hf.1) (fun _ h => h) hv hd kk
end WCr
