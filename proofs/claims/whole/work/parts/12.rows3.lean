section WAs
variable {d kp kd : Nat} {cc : ByteArray} {own : String} {nL : Nat} {ret : Option FieldType} {LY LYe : List Sh} {K : KX} {pc : Nat} {L : List (Option Value)} {st : List Value} {σ : St} {o : Option (Int × St)}
theorem a_zretc {r : Int} (h : isb r) (hd : decode cc pc = .ok (.ireturn, 1)) : WA d kp 1 cc own nL (some .boolean) LY LY K pc L [vi r] σ (some (r, σ)) := by
  have h1 := a_zret (d := d) (kp := kp) (own := own) (nL := nL) (LY := LY) (K := K) (L := L) (σ := σ) (r := r) hd
  rw [gd_t h] at h1
  exact h1
theorem a_tsw_in {dflt lo hi c off : Int} {offs : Array Int} {len tgt : Nat} {x : Int} {o1 o2 : Option (Int × St)} (hd : decode cc pc = .ok (.tableswitch dflt lo hi offs, len)) (hr : rng c) (h1 : ¬ c < lo) (h2 : ¬ hi < c) (hof : offs[(c - lo).toNat]? = some off) (ht : (pc : Int) + off = (tgt : Int)) (k1 : WA d kp kd cc own nL ret LY LYe K tgt L st σ o1) (k2 : ¬ x = c → WA d kp kd cc own nL ret LY LYe K pc L (vi x :: st) σ o2) : WA d kp kd cc own nL ret LY LYe K pc L (vi x :: st) σ (if x = c then o1 else o2) := by
  refine a_if (fun h => ?_) k2
  subst h
  intro hK r0 σ0 ho
  obtain ⟨⟨p, l, e, s, m, args⟩, ⟨below, meth, c⟩, ⟨ad0, tc, D⟩⟩ := K
  obtain ⟨hx, hb, hml, hown, hts, hlk, hret, hKK, hok⟩ := id hK.1
  intro ad hA H locs ls hP hS hl
  have kk := k1 hK r0 σ0 ho ad hA H locs ls hP hS hl
  exact lv_tableIn hx hb hd (by rw [wi hr]; exact h1) (by rw [wi hr]; exact h2) (by rw [wi hr]; exact hof) ht kk
theorem a_tsw_out {dflt lo hi : Int} {offs : Array Int} {len tgt : Nat} {x : Int} (hd : decode cc pc = .ok (.tableswitch dflt lo hi offs, len)) (hr : rng x) (h : x < lo ∨ hi < x) (ht : (pc : Int) + dflt = (tgt : Int)) (kk : WA d kp kd cc own nL ret LY LYe K tgt L st σ o) : WA d kp kd cc own nL ret LY LYe K pc L (vi x :: st) σ o := by
  intro hK r0 σ0 ho
  obtain ⟨⟨p, l, e, s, m, args⟩, ⟨below, meth, c⟩, ⟨ad0, tc, D⟩⟩ := K
  obtain ⟨hx, hb, hml, hown, hts, hlk, hret, hKK, hok⟩ := id hK.1
  intro ad hA H locs ls hP hS hl
  have kk := kk hK r0 σ0 ho ad hA H locs ls hP hS hl
  exact lv_tableOut hx hb hd (by rw [wi hr]; exact h) ht kk
theorem a_ref {q q' : Nat} (h : q = q') (kk : WA d kp kd cc own nL ret LY LYe K pc L (.ref q' :: st) σ o) : WA d kp kd cc own nL ret LY LYe K pc L (.ref q :: st) σ o := by subst h; exact kk
def imin (x y : Int) : Int := if y < x then y else x
def iabs (x : Int) : Int := if 0 ≤ x then x else 0 - x
def labs (x : Int) : Int := if 0 < x then x else -x
theorem a_mmin {idx : Nat} {x y : Int} (hM : MFs own idx yJ9_min_7cf53 cJ9_min_7cf53 2 (some .int) 2) (hcat : Nat.ble (st.map fun v => v.category).sum 8 = true) (hd0 : Nat.blt 0 d = true) (hd : decode cc pc = .ok (.invokestatic idx, 3)) (kk : WA d kp kd cc own nL ret LY LYe K (pc + 3) L (vi (imin x y) :: st) σ o) : WA d kp kd cc own nL ret LY LYe K pc L (vi y :: vi x :: st) σ (gd (rng x ∧ rng y) o) := by
  refine a_gd fun hg => ?_
  intro hK r0 σ0 ho
  obtain ⟨⟨p, l, e, s, m, args⟩, ⟨below, meth, c⟩, ⟨ad0, tc, D⟩⟩ := K
  obtain ⟨hx, hb, hml, hown, hts, hlk, hret, hKK, hok⟩ := id hK.1
  intro ad hA H locs ls hP hS hl
  have kk := kk hK r0 σ0 ho ad hA H locs ls hP hS hl
  have hdd := Nat.le_of_ble_eq_true hd0
  refine va_mmin hx hb (by rw [hl.1]; exact hml) hown (hts _ hM.1) (hts _ hM.2.1) (hts _ hM.2.2.1) (hts _ hM.2.2.2.1) hdd (by rw [cats]; have := Nat.le_of_ble_eq_true hcat; show _ ≤ 64 * d; omega) (Nat.zero_le _) (Nat.zero_le _) hd ?_
  have e : (if Int32.ofInt y < Int32.ofInt x then Int32.ofInt y else Int32.ofInt x) = Int32.ofInt (imin x y) := by
    unfold imin
    by_cases h : y < x
    · rw [if_pos h, if_pos ((w_lt ⟨hg.2, hg.1⟩).mpr h)]
    · rw [if_neg h, if_neg (fun z => h ((w_lt ⟨hg.2, hg.1⟩).mp z))]
  rw [e]
  exact kk
theorem a_mabs {idx : Nat} {x : Int} (hM : MFs own idx yJ9_abs_0f7a4 cJ9_abs_0f7a4 1 (some .int) 1) (hcat : Nat.ble (st.map fun v => v.category).sum 8 = true) (hd0 : Nat.blt 0 d = true) (hd : decode cc pc = .ok (.invokestatic idx, 3)) (kk : WA d kp kd cc own nL ret LY LYe K (pc + 3) L (vi (iabs x) :: st) σ o) : WA d kp kd cc own nL ret LY LYe K pc L (vi x :: st) σ (gd (rng x) o) := by
  refine a_gd fun hg => ?_
  intro hK r0 σ0 ho
  obtain ⟨⟨p, l, e, s, m, args⟩, ⟨below, meth, c⟩, ⟨ad0, tc, D⟩⟩ := K
  obtain ⟨hx, hb, hml, hown, hts, hlk, hret, hKK, hok⟩ := id hK.1
  intro ad hA H locs ls hP hS hl
  have kk := kk hK r0 σ0 ho ad hA H locs ls hP hS hl
  have hdd := Nat.le_of_ble_eq_true hd0
  refine va_mabs hx hb (by rw [hl.1]; exact hml) hown (hts _ hM.1) (hts _ hM.2.1) (hts _ hM.2.2.1) (hts _ hM.2.2.2.1) hdd (by rw [cats]; have := Nat.le_of_ble_eq_true hcat; show _ ≤ 64 * d; omega) (Nat.zero_le _) (Nat.zero_le _) hd ?_
  have e : (if 0 ≤ Int32.ofInt x then Int32.ofInt x else 0 - Int32.ofInt x) = Int32.ofInt (iabs x) := by
    unfold iabs
    by_cases h : 0 ≤ x
    · have h2 : (0 : Int32) ≤ Int32.ofInt x := (w_le (x := 0) ⟨by decide, hg⟩).mpr h
      rw [if_pos h, if_pos h2]
    · have h2 : ¬ (0 : Int32) ≤ Int32.ofInt x := fun z => h ((w_le (x := 0) ⟨by decide, hg⟩).mp z)
      rw [if_neg h, if_neg h2, Int32.ofInt_sub]; rfl
  rw [e]
  exact kk
theorem a_mabsl {idx : Nat} {x : Int} (hM : MFs own idx yJ9_abs_067f4 cJ9_abs_067f4 2 (some .long) 1) (hcat : Nat.ble (st.map fun v => v.category).sum 8 = true) (hd0 : Nat.blt 0 d = true) (hd : decode cc pc = .ok (.invokestatic idx, 3)) (kk : WA d kp kd cc own nL ret LY LYe K (pc + 3) L (vl (labs x) :: st) σ o) : WA d kp kd cc own nL ret LY LYe K pc L (vl x :: st) σ (gd (rng64 x) o) := by
  refine a_gd fun hg => ?_
  intro hK r0 σ0 ho
  obtain ⟨⟨p, l, e, s, m, args⟩, ⟨below, meth, c⟩, ⟨ad0, tc, D⟩⟩ := K
  obtain ⟨hx, hb, hml, hown, hts, hlk, hret, hKK, hok⟩ := id hK.1
  intro ad hA H locs ls hP hS hl
  have kk := kk hK r0 σ0 ho ad hA H locs ls hP hS hl
  have hdd := Nat.le_of_ble_eq_true hd0
  refine va_mabs_long hx hb (by rw [hl.1]; exact hml) hown (hts _ hM.1) (hts _ hM.2.1) (hts _ hM.2.2.1) (hts _ hM.2.2.2.1) hdd (by rw [cats]; have := Nat.le_of_ble_eq_true hcat; show _ ≤ 64 * d; omega) (Nat.zero_le _) (Nat.zero_le _) hd ?_
  have e : (if 0 < Int64.ofInt x then Int64.ofInt x else -Int64.ofInt x) = Int64.ofInt (labs x) := by
    unfold labs
    by_cases h : 0 < x
    · have h2 : (0 : Int64) < Int64.ofInt x := (x_lt (x := 0) ⟨by decide, hg⟩).mpr h
      rw [if_pos h, if_pos h2]
    · have h2 : ¬ (0 : Int64) < Int64.ofInt x := fun z => h ((x_lt (x := 0) ⟨by decide, hg⟩).mp z)
      rw [if_neg h, if_neg h2, Int64.ofInt_neg]
  rw [e]
  exact kk
def cpA (σ : St) (q0 sp q1 dp n : Nat) : St := (σ.1, fun a j => if a = q1 ∧ dp ≤ j ∧ j < dp + n then σ.2 q0 (sp + (j - dp)) else σ.2 a j)
theorem a_acopy {idx q0 q1 n0 n1 b0 b1 : Nat} {sp dp n : Int} {k : St → Option (Int × St)} (hlk0 : Cond.methodLink own idx arraycopyName ∈ lw_g) (hq0 : LY[q0]? = some (Sum.inr (n0, 0, b0))) (hq1 : LY[q1]? = some (Sum.inr (n1, 0, b1))) (hn0 : Nat.blt n0 2147483648 = true) (hn1 : Nat.blt n1 2147483648 = true) (hd0 : Nat.blt 0 d = true) (hcat : Nat.ble (st.map fun v => v.category).sum 8 = true) (hd : decode cc pc = .ok (.invokestatic idx, 3)) (kk : ∀ σ1, WA d kp kd cc own nL ret LY LYe K (pc + 3) L st σ1 (k σ1)) : WA d kp kd cc own nL ret LY LYe K pc L (vi n :: vi dp :: .ref q1 :: vi sp :: .ref q0 :: st) σ (gd (0 ≤ sp ∧ 0 ≤ dp ∧ 0 ≤ n ∧ sp + n ≤ n0 ∧ dp + n ≤ n1) (bs (cpA σ q0 sp.toNat q1 dp.toNat n.toNat) k)) := by
  refine a_gd fun hg => ?_
  intro hK r0 σ0 ho
  obtain ⟨⟨p, l, e, s, m, args⟩, ⟨below, meth, c⟩, ⟨ad0, tc, D⟩⟩ := K
  obtain ⟨hx, hb, hml, hown, hts, hlk, hret, hKK, hok⟩ := id hK.1
  intro ad hA H locs ls hP hS hl
  have he0 := wl_get (ad := ad) (tc := tc) (σ := σ) (k := 0) hq0
  have he1 := wl_get (ad := ad) (tc := tc) (σ := σ) (k := 0) hq1
  rw [Nat.zero_add] at he0 he1
  have hb0 := Nat.le_of_ble_eq_true hn0
  have hb1 := Nat.le_of_ble_eq_true hn1
  have hdd := Nat.le_of_ble_eq_true hd0
  obtain ⟨g1, g2, g3, g4, g5⟩ := hg
  have r1 : rng sp := ⟨by omega, by omega⟩
  have r2 : rng dp := ⟨by omega, by omega⟩
  have r3 : rng n := ⟨by omega, by omega⟩
  have t1 : (Int32.ofInt sp).toNatClampNeg = sp.toNat := by show (Int32.ofInt sp).toInt.toNat = _; rw [wi r1]
  have t2 : (Int32.ofInt dp).toNatClampNeg = dp.toNat := by show (Int32.ofInt dp).toInt.toNat = _; rw [wi r2]
  have t3 : (Int32.ofInt n).toNatClampNeg = n.toNat := by show (Int32.ofInt n).toInt.toNat = _; rw [wi r3]
  have p1 : ¬ Int32.ofInt sp < 0 := fun q => by have := (w_lt (y := 0) ⟨r1, by decide⟩).mp q; omega
  have p2 : ¬ Int32.ofInt dp < 0 := fun q => by have := (w_lt (y := 0) ⟨r2, by decide⟩).mp q; omega
  have p3 : ¬ Int32.ofInt n < 0 := fun q => by have := (w_lt (y := 0) ⟨r3, by decide⟩).mp q; omega
  have hfw : nativeFrameWords "java/lang/System" "arraycopy" 5 + 11 ≤ 40 := by decide
  refine va_copyi hx hb (by rw [hl.1]; exact hml) hown (hts _ hlk0) (hts _ ac_nat) (hts _ ac_sta) (hts _ ac_ini) (⟨hKK.1, fun k q h => by cases k with | zero => (cases h; exact hKK.2.1 _ _ _ _ hq0) | succ k => simp at h⟩ : va_K D vwCl [(tc 0, aty 0)] s) hP hA.2.D hS q0 q1 0 0 he0 he1 rfl rfl rfl p1 p2 p3 (by rw [t1, t3]; omega) (by rw [t2, t3]; omega) (fun i _ => rfl) hdd (by rw [cats]; have := Nat.le_of_ble_eq_true hcat; show _ ≤ 64 * d; omega) hd fun H1 locs1 h1 _ s1 => ?_
  rw [t1, t2, t3] at h1
  have e1 : (wl ad tc σ 0 LY).set q1 (ad q1, .inl (tc 0, n1, .inl (va_cpy (fun i => Int32.ofInt (gA σ q0 i)) (fun i => Int32.ofInt (gA σ q1 i)) sp.toNat dp.toNat n.toNat))) = wl ad tc (cpA σ q0 sp.toNat q1 dp.toNat n.toNat) 0 LY := by
    refine wl_set hq1 ?_ ?_
    · simp only [cellE, conts]
      congr 4
      funext i
      unfold va_cpy
      show (if dp.toNat ≤ i ∧ i < dp.toNat + n.toNat then _ else _) = Int32.ofInt (if q1 = q1 ∧ dp.toNat ≤ i ∧ i < dp.toNat + n.toNat then _ else _)
      by_cases h : dp.toNat ≤ i ∧ i < dp.toNat + n.toNat
      · rw [if_pos h, if_pos ⟨rfl, h⟩]; rfl
      · rw [if_neg h, if_neg (fun z => h z.2)]; rfl
    · intro m sh' hn hL
      have h1 : ∀ i', gA (cpA σ q0 sp.toNat q1 dp.toNat n.toNat) m i' = gA σ m i' := by
        intro i'
        simp [gA, cpA, hn]
      have hf : ∀ ks key, fvs ad (cpA σ q0 sp.toNat q1 dp.toNat n.toNat) key ks = fvs ad σ key ks := by
        intro ks
        induction ks with
        | nil => intro key; rfl
        | cons x r ih => intro key; rw [fvs, fvs, ih]; rfl
      match sh', hL with
      | .inl (ci', ks'), hL => simp only [cellE, hf]
      | .inr (n', t', b'), hL =>
        have h2 : conts ad (cpA σ q0 sp.toNat q1 dp.toNat n.toNat) m t' b' = conts ad σ m t' b' := by
          unfold conts
          simp only [h1]
        simp only [cellE, h2]
  rw [e1] at h1
  exact kk _ hK r0 σ0 ho ad hA H1 locs1 ls h1 s1 hl
theorem fvs_setR {ad : Nat → Nat} {σ : St} {c1 : Nat} : ∀ (ks : List Nat) (key j : Nat), (fvs ad σ key ks).set j (.ref (ad c1)) = fvs ad σ key (ks.set j (c1 + 2))
  | [], _, _ => rfl
  | x :: r, key, 0 => rfl
  | x :: r, key, j + 1 => by
    simp only [fvs, List.set_cons_succ]
    rw [fvs_setR r (key + 1) j]
theorem wl_setR {ad : Nat → Nat} {tc : Nat → ClassId} {σ : St} {LY : List Sh} {q ci j c1 : Nat} {ks : List Nat} (hq : LY[q]? = some (Sum.inl (ci, ks))) : (wl ad tc σ 0 LY).set q (ad q, .inr (ci, (fvs ad σ (64 * q) ks).set j (.ref (ad c1)))) = wl ad tc σ 0 (LY.set q (Sum.inl (ci, ks.set j (c1 + 2)))) := by
  have hl : q < LY.length := (List.getElem?_eq_some_iff.mp hq).1
  apply List.ext_getElem?
  intro n
  by_cases hn : n = q
  · subst hn
    have h2 := wl_get (ad := ad) (tc := tc) (σ := σ) (k := 0) (LY := LY.set n (Sum.inl (ci, ks.set j (c1 + 2)))) (j := n) (List.getElem?_set_self hl)
    rw [Nat.zero_add] at h2
    rw [h2, List.getElem?_set_self (by rw [wl_len]; exact hl)]
    simp only [cellE, fvs_setR]
  · rw [List.getElem?_set_ne (fun z => hn z.symm)]
    cases hL : LY[n]? with
    | none => rw [wl_none hL, wl_none (by rw [List.getElem?_set_ne (fun z => hn z.symm)]; exact hL)]
    | some sh' =>
      rw [wl_get (ad := ad) (tc := tc) (σ := σ) (k := 0) hL, wl_get (ad := ad) (tc := tc) (σ := σ) (k := 0) (LY := LY.set q _) (j := n) (by rw [List.getElem?_set_ne (fun z => hn z.symm)]; exact hL)]
theorem LYsame_set {LY : List Sh} {q ci : Nat} {ks ks' : List Nat} (hq : LY[q]? = some (Sum.inl (ci, ks))) (hl : ks'.length = ks.length) : LYsame LY (LY.set q (Sum.inl (ci, ks'))) := by
  have hlt : q < LY.length := (List.getElem?_eq_some_iff.mp hq).1
  refine ⟨List.length_set, fun j n t b h => ?_, fun hok j ci' ks'' h => ?_⟩
  · by_cases hj : j = q
    · subst hj; rw [List.getElem?_set_self hlt] at h; cases h
    · rwa [List.getElem?_set_ne (fun z => hj z.symm)] at h
  · by_cases hj : j = q
    · subst hj
      rw [List.getElem?_set_self hlt] at h
      cases h
      rw [hl]; exact hok j ci ks hq
    · rw [List.getElem?_set_ne (fun z => hj z.symm)] at h
      exact hok j ci' ks'' h
theorem a_putR {idx ci j q c0 c1 : Nat} {C : String} {T : u_T} {N : Nat} {ty : Nat → FieldType} {t : FieldType} {ks : List Nat} {LY1 : List Sh} (hf : FLk own idx ci j C T N) (hcf : CFk T N ty) (hfin : (T j).2.2.2 = false) (ht : ty j = t) (hnar : ∀ a, narrow t (.ref a) = .ref a) (hfit : ∀ a, fits t (.ref a) = true) (hq : LY[q]? = some (Sum.inl (ci, ks))) (hk : ks[j]? = some (c0 + 2)) (h1 : LY.set q (Sum.inl (ci, ks.set j (c1 + 2))) = LY1) (hd : decode cc pc = .ok (.putfield idx, 3)) (kk : WA d kp kd cc own nL ret LY1 LYe K (pc + 3) L st σ o) : WA d kp kd cc own nL ret LY LYe K pc L (.ref c1 :: .ref q :: st) σ o := by
  intro hK r0 σ0 ho
  obtain ⟨⟨p, l, e, s, m, args⟩, ⟨below, meth, c⟩, ⟨ad0, tc, D⟩⟩ := K
  obtain ⟨hx, hb, hml, hown, hts, hlk, hret, hKK, hok⟩ := id hK.1
  intro ad hA H locs ls hP hS hl
  subst h1
  have hLL : LYsame LY (LY.set q (Sum.inl (ci, ks.set j (c1 + 2)))) := LYsame_set hq (by rw [List.length_set])
  have he := wl_get (ad := ad) (tc := tc) (σ := σ) (k := 0) hq
  rw [Nat.zero_add] at he
  have hpd := hcf.1 j hf.2.2.2
  rw [ht] at hpd
  refine va_put (v := .ref (ad c1)) hx hb hts hf.2.1 ty hcf.1 hcf.2 hown (⟨hKK.1, fun k q h => by simp at h⟩ : va_K D vwCl [] s) hP hA.2.D hS q he hf.2.2.1 j hf.2.2.2 (hts _ hf.1) (fun _ h => h) hfin hpd (hnar _) (hfit _) (by rw [fvs_len]; exact (List.getElem?_eq_some_iff.mp hk).1) hd fun H1 locs1 p1 d1 s1 => ?_
  rw [wl_setR hq] at p1
  have kk1 := kk (KOKd_same hLL hK) r0 σ0 ho ad ⟨hA.1, by rw [fA_len hLL]; exact (AdOK_len hLL).mpr hA.2⟩ H1 locs1 ls p1 (by rw [fA_len hLL]; exact s1) hl
  rw [fA_len hLL] at kk1
  exact kk1
/-- the same world under a renaming of the cells -/
def mapSh (π : Nat → Nat) (sh : Sh) : Sh := match sh with
  | .inl (ci, ks) => .inl (ci, ks.map fun c => if c < 2 then c else π (c - 2) + 2)
  | .inr (n, t, b) => .inr (n, t, b)
def reS (π : Nat → Nat) (σ : St) : St := (fun key => σ.1 (64 * π (key / 64) + key % 64), fun a i => σ.2 (π a) i)
theorem fvs_re {π ad : Nat → Nat} {σ : St} {q : Nat} : ∀ (ks : List Nat) (i : Nat), i + ks.length ≤ 64 → fvs ad σ (64 * π q + i) (ks.map fun c => if c < 2 then c else π (c - 2) + 2) = fvs (fun k => ad (π k)) (reS π σ) (64 * q + i) ks
  | [], _, _ => rfl
  | c :: r, i, h => by
    simp only [List.length_cons] at h
    simp only [List.map_cons, fvs]
    have ih := fvs_re (π := π) (ad := ad) (σ := σ) (q := q) r (i + 1) (by omega)
    rw [show 64 * π q + i + 1 = 64 * π q + (i + 1) by omega, show 64 * q + i + 1 = 64 * q + (i + 1) by omega, ih]
    congr 1
    have hk : gF (reS π σ) (64 * q + i) = gF σ (64 * π q + i) := by
      show σ.1 (64 * π ((64 * q + i) / 64) + (64 * q + i) % 64) = σ.1 (64 * π q + i)
      rw [show (64 * q + i) / 64 = q by omega, show (64 * q + i) % 64 = i by omega]
    match c with
    | 0 => show vi (gF σ (64 * π q + i)) = vi (gF (reS π σ) (64 * q + i)); rw [hk]
    | 1 => show vl (gF σ (64 * π q + i)) = vl (gF (reS π σ) (64 * q + i)); rw [hk]
    | c + 2 =>
      rw [if_neg (by omega)]
      show Value.ref (ad (π (c + 2 - 2))) = Value.ref (ad (π c))
      rw [Nat.add_sub_cancel]
theorem arrV_cong {c : ClassId} {N : Nat} {f g : Nat → Value} (h : ∀ i, i < N → f i = g i) : arrV c N f = arrV c N g := by
  unfold arrV
  have : (fun j : Fin N => f j.val) = fun j : Fin N => g j.val := funext fun j => h j.val j.isLt
  rw [this]
theorem at_cong {D : va_G} {a : Nat} {cA : ClassId} {n : Nat} {f g : Nat → Option Nat} {H : Heap} (h : ∀ i, i < n → f i = g i) (hat : va_at D vwCl (a, .inl (cA, n, .inr (.inr (.inr (.inr f))))) H) : va_at D vwCl (a, .inl (cA, n, .inr (.inr (.inr (.inr g))))) H := by
  have h1 : H[a]? = some (vp_cell cA (n, .inr (.inr (.inr (.inr f))))) := hat
  show H[a]? = some (vp_cell cA (n, .inr (.inr (.inr (.inr g)))))
  rw [h1, vp_cell_q, vp_cell_q, arrV_cong (fun i hi => by rw [h i hi])]
theorem at_re {D : va_G} {H : Heap} {π ad : Nat → Nat} {tc : Nat → ClassId} {σ : St} {q a : Nat} {sh : Sh} (h64 : ∀ ci ks, sh = .inl (ci, ks) → ks.length ≤ 64) (hb : ∀ n t b, sh = .inr (n, t, b) → 4 ≤ t → ∀ i, i < n → π (b + i) = b + i) (h : va_at D vwCl (a, cellE ad tc σ (π q) (mapSh π sh)) H) : va_at D vwCl (a, cellE (fun k => ad (π k)) tc (reS π σ) q sh) H := by
  match sh with
  | .inl (ci, ks) =>
    have := fvs_re (π := π) (ad := ad) (σ := σ) (q := q) ks 0 (by have := h64 ci ks rfl; omega)
    rw [Nat.add_zero, Nat.add_zero] at this
    simp only [mapSh, cellE] at h ⊢
    rw [← this]
    exact h
  | .inr (n, 0, b) => exact h
  | .inr (n, 1, b) => exact h
  | .inr (n, 2, b) => exact h
  | .inr (n, 3, b) => exact h
  | .inr (n, t + 4, b) => exact at_cong (fun i hi => by show some (ad (b + i)) = some (ad (π (b + i))); rw [hb n (t + 4) b rfl (by omega) i hi]) h
theorem wl_re {π ad : Nat → Nat} {tc : Nat → ClassId} {D : va_G} {σ : St} {LY LY' : List Sh} {H : Heap} (hok : LYok LY') (hm : ∀ j sh, LY'[j]? = some sh → LY[π j]? = some (mapSh π sh)) (hb : ∀ (j n t b : Nat), LY'[j]? = some (Sum.inr (n, t, b)) → 4 ≤ t → ∀ i, i < n → π (b + i) = b + i) (h : va_P D vwCl (wl ad tc σ 0 LY) H) : va_P D vwCl (wl (fun k => ad (π k)) tc (reS π σ) 0 LY') H := by
  intro k q hk
  obtain ⟨sh, h1, h2⟩ := wl_inv hk
  rw [Nat.zero_add] at h2
  have h3 := wl_get (ad := ad) (tc := tc) (σ := σ) (k := 0) (hm k sh h1)
  rw [Nat.zero_add] at h3
  have h4 := h (π k) _ h3
  rw [h2]
  exact at_re (fun ci ks e => hok k ci ks (by rw [h1, e])) (fun n t b e => hb k n t b (by rw [h1, e])) h4
theorem AdOK_re {π ad : Nat → Nat} {LY LY' : List Sh} {A : Nat → Prop} (hl : LY'.length = LY.length) (hi : ∀ i j, i < LY.length → j < LY.length → π i = π j → i = j) (hr : ∀ i, i < LY.length → π i < LY.length) (h : AdOK LY ad A) : AdOK LY' (fun k => ad (π k)) A := by
  refine ⟨fun i j h1 h2 e => ?_, fun i h1 => ?_⟩
  · rw [hl] at h1 h2
    exact hi i j h1 h2 (h.1 _ _ (hr i h1) (hr j h2) e)
  · rw [hl] at h1
    exact h.2 _ (hr i h1)

end WAs
theorem a_ungd {d kp kd : Nat} {cc : ByteArray} {own : String} {nL : Nat} {ret : Option FieldType} {LY LYe : List Sh} {K : KX} {pc : Nat} {L : List (Option Value)} {st : List Value} {σ : St} {o : Option (Int × St)} {g : Prop} [Decidable g] (h : g) (kk : WA d kp kd cc own nL ret LY LYe K pc L st σ (gd g o)) : WA d kp kd cc own nL ret LY LYe K pc L st σ o := by
  rw [gd_t h] at kk
  exact kk
theorem w_aastI {p : Program} {l : Launch} {e : Env} {R : Room} {s : State} {m : MethodId} {args : Array Value} {below : List Frame} {meth : Method} {c : Code} {H H0 : Heap} {locs : List Loc} {cells slots : Nat} {Q : State → Prop} {cc : ByteArray} {pc : Nat} {ls : Array Slot} {rest : List Value} {D : va_G} {A : Nat → Prop} {a v : Nat} {ws : va_W} {tc : Nat → ClassId} (hx : p.tables.exec = Jvm.exec) (hb : c.code = cc) (hG : GridK tc s) (hP : va_P D vwCl ws H) (hD : va_D A ws) (hS : va_S A H0 H locs) (q0 qk : Nat) {n nv : Nat} {f : Nat → Option Nat} {g : Nat → Int32} (ha : ws[q0]? = some (a, .inl (tc 4, n, .inr (.inr (.inr (.inr f)))))) (hv : ws[qk]? = some (v, .inl (tc 0, nv, .inl g))) {i : Int32} (hin : vp_in i n) (hdg : decode cc pc = .ok (.aastore, 1))
    (kk : ∀ (H1 : Heap) (locs1 : List Loc), va_P D vwCl (ws.set q0 (a, .inl (tc 4, n, .inr (.inr (.inr (.inr (va_up f i.toNatClampNeg (some v)))))))) H1 → va_D A (ws.set q0 (a, .inl (tc 4, n, .inr (.inr (.inr (.inr (va_up f i.toNatClampNeg (some v)))))))) → va_S A H0 H1 locs1 → W p l e R s m args below meth c H1 locs1 cells slots Q (F0 m (pc + 1) ls rest)) : W p l e R s m args below meth c H locs cells slots Q (F0 m pc ls (.ref v :: .int i :: .ref a :: rest)) := by
  have hlt : i.toNatClampNeg < n := Nat.not_le.mp fun q => hin (Or.inr q)
  have h0 : ¬ i < 0 := fun q => hin (Or.inl q)
  obtain ⟨kA, k0, g1, g2, g3⟩ := hG
  have hcv : H[v]? = some (vp_cell (tc 0) (nv, .inl g)) := hP qk _ hv
  refine W.aast hx hb (hP q0 _ ha) (fun q h => by cases h) (fun h => by cases h) g1 g2 rfl g3 ⟨h0, by show _ < (arrV _ _ _).slots.size; rw [arrV_size]; exact hlt⟩ hcv (fun q h => by cases h) g3 (by show (tc 0 == tc 0 || _) = true; rw [beq_self_eq_true, Bool.true_or]) rfl rfl hdg fun H1 e z oq => ?_
  refine kk H1 _ (hP.set hD ha ?_ oq) (hD.set ha) (hS.put z oq (hD.2 q0 _ ha))
  show H1[a]? = some (vp_cell _ _)
  rw [e, vp_cell_q, vp_cell_q, arrV_store]
  congr 2
  funext q
  by_cases hq : q = i.toNatClampNeg
  · subst hq
    simp [updV, va_up, va_rf]
  · simp [updV, va_up, hq]
def exR (A B k : Nat) : Nat := if k = A then B else if k = B then A else k
def exS (σ : St) (A B : Nat) : St := (σ.1, fun a j => σ.2 (exR A B a) j)
theorem exR_inv (A B k : Nat) : exR A B (exR A B k) = k := by unfold exR; split <;> split <;> (try split) <;> omega
theorem LYC_refs : ∀ x y z : Bool, ∀ e ∈ LYC x y z, (match e with
  | .inl (_, ks) => ks.all fun c => Nat.ble c (103 + 1)
  | .inr _ => true) = true := by decide +kernel
theorem LYC_cells : ∀ x y z : Bool, ∀ j, j < 215 → ((LYC x y z)[j]?.map fun e => match e with
  | .inr (n, t, b) => Nat.ble t 3 || j == 86 || Nat.ble (103 + 46) b || Nat.ble (b + n) 103
  | .inl _ => true) = some true := by decide +kernel
def f_Rows_exchange (F : Nat) (σ : St) (x1 x2 : Int) : Option (Int × St) := gd (inb x1 46 ∧ inb x2 46) (some (0, exS σ (103 + x1.toNat) (103 + x2.toNat)))
theorem mapSh_exR {A B : Nat} (hA : 103 ≤ A) (hB : 103 ≤ B) {x y z : Bool} {j : Nat} {sh : Sh} (h : (LYC x y z)[j]? = some sh) : mapSh (exR A B) sh = sh := by
  match sh, h with
  | .inr _, h => rfl
  | .inl (ci, ks), h =>
    have h1 := LYC_refs x y z _ (List.mem_of_getElem? h)
    simp only [List.all_eq_true] at h1
    show Sum.inl (ci, ks.map _) = Sum.inl (ci, ks)
    have h2 : ks.map (fun c => if c < 2 then c else exR A B (c - 2) + 2) = ks := by
      conv => rhs; rw [← List.map_id ks]
      apply List.map_congr_left
      intro c hc
      have h3 := Nat.le_of_ble_eq_true (h1 c hc)
      by_cases h4 : c < 2
      · rw [if_pos h4]; rfl
      · rw [if_neg h4]
        show exR A B (c - 2) + 2 = c
        unfold exR
        rw [if_neg (by omega), if_neg (by omega)]
        omega
    rw [h2]
theorem exR_row {x y z : Bool} {a b : Nat} (ha : a < 46) (hb : b < 46) {j : Nat} {sh : Sh} (h : (LYC x y z)[j]? = some sh) : (LYC x y z)[exR (103 + a) (103 + b) j]? = some sh := by
  unfold exR
  by_cases h1 : j = 103 + a
  · subst h1
    rw [lyC_r a ha] at h
    rw [if_pos rfl, lyC_r b hb, h]
  · rw [if_neg h1]
    by_cases h2 : j = 103 + b
    · subst h2
      rw [lyC_r b hb] at h
      rw [if_pos rfl, lyC_r a ha, h]
    · rw [if_neg h2]; exact h
theorem exR_out {A B j : Nat} (h1 : j ≠ A) (h2 : j ≠ B) : exR A B j = j := by unfold exR; rw [if_neg h1, if_neg h2]
/-- fields are read alike under exS and reS (places of objects lie below the rows) -/
theorem fvs_ex {ad : Nat → Nat} {σ : St} {A B q : Nat} (hA : 103 ≤ A) (hB : 103 ≤ B) (hq : q < 103) : ∀ (ks : List Nat) (i : Nat), i + ks.length ≤ 64 → fvs ad (exS σ A B) (64 * q + i) ks = fvs ad (reS (exR A B) σ) (64 * q + i) ks
  | [], _, _ => rfl
  | c :: r, i, h => by
    simp only [List.length_cons] at h
    simp only [fvs]
    have ih := fvs_ex (ad := ad) (σ := σ) hA hB hq r (i + 1) (by omega)
    rw [show 64 * q + i + 1 = 64 * q + (i + 1) by omega, ih]
    have hk : gF (exS σ A B) (64 * q + i) = gF (reS (exR A B) σ) (64 * q + i) := by
      show σ.1 (64 * q + i) = σ.1 (64 * exR A B ((64 * q + i) / 64) + (64 * q + i) % 64)
      rw [show (64 * q + i) / 64 = q by omega, show (64 * q + i) % 64 = i by omega, exR_out (by omega) (by omega)]
    unfold fv1
    rw [hk]
theorem LYC_objs : ∀ x y z : Bool, ∀ j, j < 215 → ((LYC x y z)[j]?.map fun e => match e with
  | .inl _ => Nat.blt j 103
  | .inr _ => true) = some true := by decide +kernel
theorem LYC_len {x y z : Bool} : (LYC x y z).length = 215 := by cases x <;> cases y <;> cases z <;> rfl
theorem cell_ex {ad : Nat → Nat} {tc : Nat → ClassId} {σ : St} {A B q : Nat} {x y z : Bool} {sh : Sh} (hA : 103 ≤ A) (hB : 103 ≤ B) (h : (LYC x y z)[q]? = some sh) : cellE ad tc (exS σ A B) q sh = cellE ad tc (reS (exR A B) σ) q sh := by
  match sh, h with
  | .inr (n, t, b), h => rfl
  | .inl (ci, ks), h =>
    have hl : q < 215 := by rw [← LYC_len (x := x) (y := y) (z := z)]; exact (List.getElem?_eq_some_iff.mp h).1
    have h1 := LYC_objs x y z q hl
    rw [h] at h1
    have h2 : Nat.blt q 103 = true := by simpa using h1
    have := fvs_ex (ad := ad) (σ := σ) hA hB (Nat.le_of_ble_eq_true h2) ks 0 (by have := LYC_ok _ _ _ h; omega)
    simp only [Nat.add_zero] at this
    simp only [cellE, this]
theorem exR_fix {A B b n i : Nat} (h : 103 + 46 ≤ b ∨ b + n ≤ 103) (hA : 103 ≤ A ∧ A < 103 + 46) (hB : 103 ≤ B ∧ B < 103 + 46) (hi : i < n) : exR A B (b + i) = b + i := exR_out (by omega) (by omega)
theorem ex_world {D : va_G} {ad : Nat → Nat} {tc : Nat → ClassId} {σ : St} {x : Bool} {a b : Nat} {H : Heap} {e : va_E} (ha : a < 46) (hb : b < 46) (hP : va_P D vwCl ((wl ad tc σ 0 (LYC x false false)).set 86 (ad 86, .inl (tc 4, 46, .inr (.inr (.inr (.inr (va_up (va_up (fun i => some (ad (103 + i))) a (some (ad (103 + b)))) b (some (ad (103 + a)))))))))) H) : va_P D vwCl (wl (fun k => ad (exR (103 + a) (103 + b) k)) tc (exS σ (103 + a) (103 + b)) 0 (LYC x false false)) H := by
  intro k q hk
  obtain ⟨sh, h1, h2⟩ := wl_inv hk
  rw [Nat.zero_add] at h2
  rw [h2]
  have hl : k < 215 := by rw [← LYC_len (x := x) (y := false) (z := false)]; exact (List.getElem?_eq_some_iff.mp h1).1
  by_cases hc : k = 86
  · subst hc
    rw [lyC_86] at h1
    cases h1
    have h3 := hP 86 _ (List.getElem?_set_self (by rw [wl_len, LYC_len]; decide))
    show va_at D vwCl (ad (exR (103 + a) (103 + b) 86), _) H
    rw [exR_out (by omega) (by omega)]
    refine at_cong (fun i hi => ?_) h3
    show va_up _ _ _ i = some (ad (exR (103 + a) (103 + b) (103 + i)))
    unfold va_up exR
    by_cases e1 : i = b
    · subst e1
      rw [if_pos rfl]
      by_cases e2 : i = a
      · subst e2; rw [if_pos rfl]
      · rw [if_neg (by omega), if_pos rfl]
    · rw [if_neg e1]
      by_cases e2 : i = a
      · subst e2; rw [if_pos rfl, if_pos rfl]
      · rw [if_neg e2, if_neg (by omega), if_neg (by omega)]
  · have hk2 : exR (103 + a) (103 + b) k ≠ 86 := by
      unfold exR
      split
      · omega
      · split
        · omega
        · exact hc
    have h3 := exR_row (a := a) (b := b) ha hb h1
    have h4 := wl_get (ad := ad) (tc := tc) (σ := σ) (k := 0) h3
    rw [Nat.zero_add] at h4
    have h5 := hP (exR (103 + a) (103 + b) k) _ (by rw [List.getElem?_set_ne (fun z => hk2 z.symm)]; exact h4)
    rw [cell_ex (by omega) (by omega) h1]
    refine at_re (fun ci ks e => LYC_ok k ci ks (by rw [h1, e])) (fun n t b' e h6 i hi => ?_) (by rw [mapSh_exR (by omega) (by omega) h1]; exact h5)
    have h7 := LYC_cells x false false k hl
    rw [h1, e] at h7
    simp only [Option.map_some, Option.some.injEq, Bool.or_eq_true, beq_iff_eq] at h7
    rcases h7 with ((h8 | h8) | h8) | h8
    · have := Nat.le_of_ble_eq_true h8; omega
    · exact absurd h8 hc
    · exact exR_fix (n := n) (Or.inl (Nat.le_of_ble_eq_true h8)) (by omega) (by omega) hi
    · exact exR_fix (n := n) (Or.inr (Nat.le_of_ble_eq_true h8)) (by omega) (by omega) hi
theorem a_exch {K : KX} {x : Bool} {σ : St} {x1 x2 : Int} (h1 : inb x1 46) (h2 : inb x2 46) : WA 1 1 0 cX5_exchange RX5 4 none (LYC x false false) (LYC x false false) K 18 [some (.ref 85), some (vi x1), some (vi x2), some (.ref (103 + x1.toNat))] [.ref (103 + x2.toNat), vi x1, .ref 86] σ (some (0, exS σ (103 + x1.toNat) (103 + x2.toNat))) := by
  intro hK r0 σ0 ho
  obtain ⟨⟨p, l, e, s, m, args⟩, ⟨below, meth, c⟩, ⟨ad0, tc, D⟩⟩ := K
  obtain ⟨hx, hb, hml, hown, hts, hlk, hret, hKK, hok⟩ := id hK.1
  intro ad hA H locs ls hP hS hl
  cases ho
  have hG : GridK tc s := hKK.2.2.2 _ _ _ (lyC_86 (x := x) (y := false) (z := false))
  have a1 := ix_lt h1
  have a2 := ix_lt h2
  have e0 := wl_get (ad := ad) (tc := tc) (σ := σ) (k := 0) (lyC_86 (x := x) (y := false) (z := false))
  have e1 := wl_get (ad := ad) (tc := tc) (σ := σ) (k := 0) (lyC_r (x := x) (y := false) (z := false) x1.toNat a1)
  have e2 := wl_get (ad := ad) (tc := tc) (σ := σ) (k := 0) (lyC_r (x := x) (y := false) (z := false) x2.toNat a2)
  have eR := wl_get (ad := ad) (tc := tc) (σ := σ) (k := 0) (lyC_85 (x := x) (y := false) (z := false))
  rw [Nat.zero_add] at e0 e1 e2 eR
  have hlen : 86 < (wl ad tc σ 0 (LYC x false false)).length := by rw [wl_len, LYC_len]; decide
  refine w_aastI hx hb hG hP hA.2.D hS 86 (103 + x2.toNat) e0 e2 (v_in h1 (by decide)) dX5_exchange_18 fun H1 locs1 p1 d1 s1 => ?_
  rw [v_ix h1 (by decide)] at p1 d1
  refine lv_aload_n hx hb dX5_exchange_19 rfl (hl.2.2 0 _ rfl) ?_
  refine va_get (v := .ref (ad 86)) hx hb hts fl_X5_13.2.1 hown (⟨hKK.1, fun k q h => by simp at h⟩ : va_K D vwCl [] s) p1 85 (by rw [List.getElem?_set_ne (by decide)]; exact eR) fl_X5_13.2.2.1 0 fl_X5_13.2.2.2 (hts _ fl_X5_13.1) (fun _ h => h) rfl dX5_exchange_20 ?_
  refine lv_iload_n hx hb dX5_exchange_23 rfl (hl.2.2 2 _ rfl) ?_
  refine lv_aload_n hx hb dX5_exchange_24 rfl (hl.2.2 3 _ rfl) ?_
  refine w_aastI hx hb hG p1 d1 s1 86 (103 + x1.toNat) (List.getElem?_set_self hlen) (by rw [List.getElem?_set_ne (by omega)]; exact e1) (v_in h2 (by decide)) dX5_exchange_25 fun H2 locs2 p2 d2 s2 => ?_
  rw [v_ix h2 (by decide), List.set_set] at p2
  have hfin := ex_world a1 a2 p2 (e := .inr (0, []))
  refine W.vret hx hb hret (fun t ht hW => ⟨⟨(), rfl, trivial, _, ⟨fun j hj => ?_, AdOK_re rfl (fun i j _ _ e => ?_) (fun i hi => ?_) hA.2⟩, by rw [ht]; exact hfin⟩, s2.F ht⟩) s2.2.2 dX5_exchange_26 hlk
  · have hj : ¬ (rowB ≤ j ∧ j < rowB + 46) := hj
    show ad (exR _ _ j) = ad0 j
    rw [exR_out (by unfold rowB at hj; omega) (by unfold rowB at hj; omega)]
    exact hA.1 j hj
  · have := congrArg (exR (103 + x1.toNat) (103 + x2.toNat)) e
    rwa [exR_inv, exR_inv] at this
  · rw [LYC_len] at hi ⊢
    unfold exR
    split
    · omega
    · split <;> omega
theorem c_Rows_exchange {x : Bool} (F : Nat) (σ : St) (x1 x2 : Int) : Ct 1 1 0 yX5_exchange cX5_exchange 4 none (LYC x false false) (LYC x false false) [.ref 85, vi x1, vi x2] σ (f_Rows_exchange F σ x1 x2) := by
  unfold f_Rows_exchange
  refine Ct_of (d := 1) (kp := 1) (kd := 0) (own := RX5) (nL := 4) (ret := none) (LY := (LYC x false false)) (LYe := (LYC x false false)) (L := [some (.ref 85), some (vi x1), some (vi x2), none]) rfl (by decide +kernel) rfl rfl mf_X5_24.2.2.2.1 rfl fun K => ?_
  refine a_gd fun hg => ?_
  refine a_aload_n dX5_exchange_0 rfl ?_
  refine a_getR (c0 := 86) fl_X5_13 lyC_85 rfl dX5_exchange_1 (key := 5440) rfl ?_
  refine a_iload_n dX5_exchange_4 rfl ?_
  refine a_ungd hg.1 (a_aaldI lyC_86 rfl dX5_exchange_5 fun _ => ?_)
  refine a_astore_n (L' := [some (.ref 85), some (vi x1), some (vi x2), some (.ref (103 + x1.toNat))]) dX5_exchange_6 rfl rfl rfl rfl ?_
  refine a_aload_n dX5_exchange_7 rfl ?_
  refine a_getR (c0 := 86) fl_X5_13 lyC_85 rfl dX5_exchange_8 (key := 5440) rfl ?_
  refine a_iload_n dX5_exchange_11 rfl ?_
  refine a_aload_n dX5_exchange_12 rfl ?_
  refine a_getR (c0 := 86) fl_X5_13 lyC_85 rfl dX5_exchange_13 (key := 5440) rfl ?_
  refine a_iload_n dX5_exchange_16 rfl ?_
  refine a_ungd hg.2 (a_aaldI lyC_86 rfl dX5_exchange_17 fun _ => ?_)
  exact a_exch hg.1 hg.2
/-- now and draft change over -/
def swR (k : Nat) : Nat := if 23 ≤ k ∧ k < 83 then (if (k - 23) % 4 = 0 then k + 1 else if (k - 23) % 4 = 1 then k - 1 else k) else k
theorem sw_m : ∀ j, j < 215 → (LYC true true true)[swR j]? = (LYC true false false)[j]?.map (mapSh swR) := by decide +kernel
theorem sw_b : ∀ j, j < 215 → ((LYC true false false)[j]?.map fun e => match e with
  | .inr (_, t, b) => Nat.ble t 3 || Nat.ble 81 b
  | .inl _ => true) = some true := by decide +kernel
theorem sw_i (k : Nat) : swR (swR k) = k := by
  unfold swR
  by_cases h : 23 ≤ k ∧ k < 83
  · rw [if_pos h]
    by_cases h0 : (k - 23) % 4 = 0
    · rw [if_pos h0, if_pos (by omega), if_neg (by omega), if_pos (by omega)]; omega
    · rw [if_neg h0]
      by_cases h1 : (k - 23) % 4 = 1
      · rw [if_pos h1, if_pos (by omega), if_pos (by omega)]; omega
      · rw [if_neg h1, if_pos h, if_neg h0, if_neg h1]
  · rw [if_neg h, if_neg h]
theorem sw_lt (k : Nat) (h : k < 215) : swR k < 215 := by
  unfold swR
  split
  · split
    · omega
    · split <;> omega
  · exact h
def only0 (v : Value) : Bool := match v with
  | .ref k => k == 0
  | _ => true
theorem only0_cv {ad : Nat → Nat} {v : Value} (h : only0 v = true) : cv (fun k => ad (swR k)) v = cv ad v := by
  cases v with
  | ref k =>
    have : k = 0 := by simpa [only0] using h
    subst this
    rfl
  | _ => rfl
def only0o (o : Option Value) : Bool := match o with
  | some v => only0 v
  | none => true
theorem lysame_x {x : Bool} : LYsame (LYC x false false) (LYC true false false) := by
  rw [← lyput_bytes x]
  exact LYsame_set (lyC_3 (x := x) (y := false) (z := false)) (by rw [List.length_set])
theorem lysame_s : LYsame (LYC true true true) (LYC true false false) := by
  have h1 : ∀ j, j < 215 → ((LYC true false false)[j]?.map fun e => match e with
    | .inr q => decide ((LYC true true true)[j]? = some (.inr q))
    | .inl _ => true) = some true := by decide +kernel
  refine ⟨by rw [LYC_len, LYC_len], fun j n t b h => ?_, fun _ => LYC_ok⟩
  have hl : j < 215 := by rw [← LYC_len (x := true) (y := false) (z := false)]; exact (List.getElem?_eq_some_iff.mp h).1
  have h2 := h1 j hl
  rw [h] at h2
  simpa using h2
theorem a_swap {d kd : Nat} {cc : ByteArray} {own : String} {nL : Nat} {ret : Option FieldType} {K : KX} {pc : Nat} {L : List (Option Value)} {st : List Value} {σ : St} {k : St → Option (Int × St)} (h0 : L.all only0o = true) (h1 : st.all only0 = true) (kk : ∀ σ1, WA d 2 kd cc own nL ret (LYC true false false) (LYC true false false) K pc L st σ1 (k σ1)) : WA d 2 kd cc own nL ret (LYC true true true) (LYC true false false) K pc L st σ (bs (reS swR σ) k) := by
  intro hK r0 σ0 ho
  obtain ⟨⟨p, l, e, s, m, args⟩, ⟨below, meth, c⟩, ⟨ad0, tc, D⟩⟩ := K
  obtain ⟨hx, hb, hml, hown, hts, hlk, hret, hKK, hok⟩ := id hK.1
  intro ad hA H locs ls hP hS hl
  have hP2 := wl_re (π := swR) (LY := LYC true true true) (LY' := LYC true false false) LYC_ok (fun j sh hj => by
    have hl : j < 215 := by rw [← LYC_len (x := true) (y := false) (z := false)]; exact (List.getElem?_eq_some_iff.mp hj).1
    rw [sw_m j hl, hj]; rfl) (fun j n t b hj h4 i hi => by
    have hl : j < 215 := by rw [← LYC_len (x := true) (y := false) (z := false)]; exact (List.getElem?_eq_some_iff.mp hj).1
    have h7 := sw_b j hl
    rw [hj] at h7
    simp only [Option.map_some, Option.some.injEq, Bool.or_eq_true] at h7
    rcases h7 with h8 | h8
    · have := Nat.le_of_ble_eq_true h8; omega
    · have := Nat.le_of_ble_eq_true h8
      unfold swR
      by_cases h : 23 ≤ b + i ∧ b + i < 83
      · rw [if_pos h, if_neg (by omega), if_neg (by omega)]
      · rw [if_neg h]) hP
  have hLL := lysame_s
  have kk1 := kk (reS swR σ) (KOKd_same hLL hK) r0 σ0 ho (fun k => ad (swR k)) ⟨fun j hj => ?_, ?_⟩ H locs ls hP2 (by rw [fA_len hLL]; exact hS) ⟨hl.1, hl.2.1, fun i v q => ?_⟩
  · rw [fA_len hLL, List.map_congr_left (fun v hv => only0_cv (ad := ad) (List.all_eq_true.mp h1 v hv))] at kk1
    exact kk1
  · have hj : j = 0 := hj
    subst hj
    exact hA.1 0 rfl
  · rw [fA_len hLL]
    exact AdOK_re (by rw [LYC_len, LYC_len]) (fun i j _ _ e => by have := congrArg swR e; rwa [sw_i, sw_i] at this) (fun i hi => by rw [LYC_len] at hi ⊢; exact sw_lt i hi) hA.2
  · rw [only0_cv (List.all_eq_true.mp h0 (some v) (lget_mem q))]
    exact hl.2.2 i v q

theorem th_hat : ∀ w ∈ (vx_at0 RX10 127 nsE ["java/lang/RuntimeException", "java/lang/Exception"]).filter goodWord, w ∈ tables_1 := by decide +kernel
theorem th_bad : ∀ w ∈ (vx_at0 RX10 127 nsE ["java/lang/RuntimeException", "java/lang/Exception"]).filter (fun w => !goodWord w), w ∈ thW := by decide +kernel
theorem th_ot : ∀ w ∈ Cond.classLink RX10 125 nsE :: Cond.initialized nsE :: vx_at0 RX10 127 nsE ["java/lang/RuntimeException", "java/lang/Exception"], vx_ot w = true := by decide +kernel
theorem th_link : Cond.classLink RX10 125 nsE ∈ lw_g := lg_mem (List.mem_append_right _ (by decide +kernel)) rfl
theorem th_ini : Cond.initialized nsE ∈ lw_g := lg_mem (List.mem_append_right _ (by decide +kernel)) rfl
theorem th_thW : ∀ w ∈ thW, w ∈ tables_1 := by decide +kernel
theorem th_on : ∀ w ∈ thW, w.onTables = true := by decide +kernel
section WAt
variable {d kp kd : Nat} {cc : ByteArray} {own : String} {nL : Nat} {ret : Option FieldType} {LY LYe : List Sh} {K : KX} {pc : Nat} {L : List (Option Value)} {st : List Value} {σ : St} {o : Option (Int × St)}
theorem a_throw (hkd : Nat.ble 10 kd = true) (hd0 : Nat.ble 6 d = true) (hcat : Nat.ble (st.map fun v => v.category).sum 8 = true) (d0 : decode cc pc = .ok (.new 125, 3)) (d3 : decode cc (pc + 3) = .ok (.dup, 1)) (d4 : decode cc (pc + 4) = .ok (.invokespecial 127, 3)) (d7 : decode cc (pc + 7) = .ok (.athrow, 1)) : WA d kp kd cc RX10 nL ret LY LY K pc L st σ (some (THR, σ)) := by
  intro hK r0 σ0 ho
  obtain ⟨⟨p, l, e, s, m, args⟩, ⟨below, meth, c⟩, ⟨ad0, tc, D⟩⟩ := K
  obtain ⟨hx, hb, hml, hown, hts, hlk, hret, hKK, hok⟩ := id hK.1
  intro ad hA H locs ls hP hS hl
  cases ho
  obtain ⟨hst, ⟨hU, hN, hw⟩, hET⟩ := hK.2 hkd
  have hdd := Nat.le_of_ble_eq_true hd0
  unfold rmK ZK
  rw [hkd]
  refine vx_throw0 (own := RX10) (cls := nsE) (names := ["java/lang/RuntimeException", "java/lang/Exception"]) (ik := 125) (ic := 127) (A := fA LY ad0 s.heap.size) hx hb hst hown (by decide) (by decide) (hts _ th_link) (hts _ th_ini) (vx_hat (fun w h => hts _ (lg_mem (List.mem_append_right _ (th_hat w h)) (List.mem_filter.mp h).2)) th_bad (fun w h => va_Nw.use (th_on w h) (hw w h))) th_ot hU hN hS (by rw [hl.1, hml]) d0 d3 d4 d7 (fun x h => (hET x h).elim) (by show 2 + 3 < d; omega) (by rw [cats]; have := Nat.le_of_ble_eq_true hcat; show _ + (13 * (2 + 1) + 42) ≤ 64 * d; omega) (Nat.le_refl 1) (Nat.le_refl 6) hlk (fun t al sz keep => ?_) hS.2.2 (Nat.le_refl 1) (Nat.le_refl 6)
  exact ⟨rfl, rfl, ⟨ad, hA, hP.kept fun k q hk => keep q.1 (hP k q hk).lt⟩, ⟨Nat.le_trans hS.1 sz, fun q h1 h2 => by rw [keep q (Nat.lt_of_lt_of_le h1 hS.1)]; exact hS.2.1 q h1 h2⟩⟩
theorem a_iretX {r : Int} (hd : decode cc pc = .ok (.ireturn, 1)) : WA d kp 11 cc own nL (some .int) LY LY K pc L [vi r] σ (gd (r ≠ THR) (some (r, σ))) := by
  refine a_gd fun hg => ?_
  intro hK r0 σ0 ho
  obtain ⟨⟨p, l, e, s, m, args⟩, ⟨below, meth, c⟩, ⟨ad0, tc, D⟩⟩ := K
  obtain ⟨hx, hb, hml, hown, hts, hlk, hret, hKK, hok⟩ := id hK.1
  intro ad hA H locs ls hP hS hl
  cases ho
  refine W.widen (k := 1) (n := 6) (by omega) (by omega) ?_
  exact vx_ret (W.iret hx hb hret (fun t ht hW => ⟨hg, ⟨⟨Int32.ofInt r, (), rfl, rfl, ad, hA, by rw [ht]; exact hP⟩, hS.F ht⟩⟩) hS.2.2 hd hlk)
theorem a_lretX {r : Int} (hd : decode cc pc = .ok (.lreturn, 1)) : WA d kp 12 cc own nL (some .long) LY LY K pc L [vl r] σ (gd (r ≠ THR) (some (r, σ))) := by
  refine a_gd fun hg => ?_
  intro hK r0 σ0 ho
  obtain ⟨⟨p, l, e, s, m, args⟩, ⟨below, meth, c⟩, ⟨ad0, tc, D⟩⟩ := K
  obtain ⟨hx, hb, hml, hown, hts, hlk, hret, hKK, hok⟩ := id hK.1
  intro ad hA H locs ls hP hS hl
  cases ho
  refine W.widen (k := 1) (n := 6) (by omega) (by omega) ?_
  exact vx_ret (W.lret hx hb hret (fun t ht hW => ⟨hg, ⟨⟨Int64.ofInt r, (), rfl, rfl, ad, hA, by rw [ht]; exact hP⟩, hS.F ht⟩⟩) hS.2.2 hd hlk)
theorem CtX_of {y : MethodName} {as : List Value} (hkd : Nat.blt kd 10 = true) (hy : plainName y.cls = true) (hown : y.cls = own) (hlen : Nat.ble (lg_sl as).length nL = true) (hcode : Cond.code y cc nL ret ∈ lw_g) (hL : padL nL (entL as) = L) (h : ∀ K, WA d kp (kd + 10) cc own nL ret LY LYe K 0 L [] σ o) : CtX d kp kd y cc nL ret LY LYe as σ o := by
  intro r σ' ho l D ad tc sz hst
  refine vx_ofW (cc := cc) (maxL := nL) (ret := ret) hy rfl ?_
  intro p e s m args below meth c s₁ B hml hET hv
  obtain ⟨rfl, hsz, hAd, hok, hP, hKK, hTh⟩ := hv
  subst hsz
  have hts0 : ∀ w ∈ (Cond.code y cc nL ret :: lw_g), w.before (as.map (cv ad)).toArray s = true := atoms_spec (ws := Cond.code y cc nL ret :: lw_g) B.pre
  have hown2 : s.vm.findClass own = some m.cls := by rw [← hown]; exact findClass_of_methodNamed B.named
  have hlen2 : (lg_sl (as.map (cv ad))).length ≤ nL := by rw [lg_sl_len]; exact Nat.le_of_ble_eq_true hlen
  have hl := lv_entry (as.map (cv ad)) hlen2
  rw [lg_entry_eq]
  have hk10 : Nat.ble 10 (kd + 10) = true := Nat.ble_eq_true_of_le (by omega)
  have hW := h ((p, l, e, s, m, (as.map (cv ad)).toArray), (below, meth, c), (ad, tc, D)) ⟨⟨B.exec, B.bytes, hml, hown2, fun w hw => hts0 w (List.mem_cons_of_mem _ hw), B.notSynchronized, B.returns, hKK, hok⟩, fun q => ⟨hst, hTh, hET⟩⟩ r σ' ho ad ⟨fun _ _ => rfl, hAd⟩ s.heap [] ((lg_sl (as.map (cv ad)) ++ List.replicate (nL - (lg_sl (as.map (cv ad))).length) Slot.unset).toArray) hP va_S.rf ⟨hl.1, hl.2.1, fun i v hv => ?_⟩
  · unfold ZK at hW
    rw [hk10, Nat.add_sub_cancel] at hW
    exact hW
  subst hL
  unfold padL at hv
  rcases lget_app _ _ _ _ hv with q | q
  · have := entL_get as 0 i v q
    rw [Nat.zero_add] at this
    exact hl.2.2 (i, cv ad v) (lv_args_map ad as 0 i v this)
  · exact absurd q (lget_rep _ _ _)
end WAt

theorem bi_m2 : (Int8.ofInt (-2)).toInt32 = Int32.ofInt (-2) := by decide
theorem bi_6 : (Int8.ofInt (6)).toInt32 = Int32.ofInt (6) := by decide
theorem bi_7 : (Int8.ofInt (7)).toInt32 = Int32.ofInt (7) := by decide
theorem bi_8 : (Int8.ofInt (8)).toInt32 = Int32.ofInt (8) := by decide
theorem bi_10 : (Int8.ofInt (10)).toInt32 = Int32.ofInt (10) := by decide
theorem bi_11 : (Int8.ofInt (11)).toInt32 = Int32.ofInt (11) := by decide
theorem bi_12 : (Int8.ofInt (12)).toInt32 = Int32.ofInt (12) := by decide
theorem bi_16 : (Int8.ofInt (16)).toInt32 = Int32.ofInt (16) := by decide
theorem bi_20 : (Int8.ofInt (20)).toInt32 = Int32.ofInt (20) := by decide
theorem bi_24 : (Int8.ofInt (24)).toInt32 = Int32.ofInt (24) := by decide
theorem bi_26 : (Int8.ofInt (26)).toInt32 = Int32.ofInt (26) := by decide
theorem bi_28 : (Int8.ofInt (28)).toInt32 = Int32.ofInt (28) := by decide
theorem bi_32 : (Int8.ofInt (32)).toInt32 = Int32.ofInt (32) := by decide
theorem bi_45 : (Int8.ofInt (45)).toInt32 = Int32.ofInt (45) := by decide
theorem bi_46 : (Int8.ofInt (46)).toInt32 = Int32.ofInt (46) := by decide
theorem bi_48 : (Int8.ofInt (48)).toInt32 = Int32.ofInt (48) := by decide
theorem bi_50 : (Int8.ofInt (50)).toInt32 = Int32.ofInt (50) := by decide
theorem bi_57 : (Int8.ofInt (57)).toInt32 = Int32.ofInt (57) := by decide
theorem bi_58 : (Int8.ofInt (58)).toInt32 = Int32.ofInt (58) := by decide
theorem bi_59 : (Int8.ofInt (59)).toInt32 = Int32.ofInt (59) := by decide
theorem bi_60 : (Int8.ofInt (60)).toInt32 = Int32.ofInt (60) := by decide
theorem bi_63 : (Int8.ofInt (63)).toInt32 = Int32.ofInt (63) := by decide
theorem bi_82 : (Int8.ofInt (82)).toInt32 = Int32.ofInt (82) := by decide
theorem bi_97 : (Int8.ofInt (97)).toInt32 = Int32.ofInt (97) := by decide
theorem bi_99 : (Int8.ofInt (99)).toInt32 = Int32.ofInt (99) := by decide
theorem bi_122 : (Int8.ofInt (122)).toInt32 = Int32.ofInt (122) := by decide
theorem bi_127 : (Int8.ofInt (127)).toInt32 = Int32.ofInt (127) := by decide
theorem si_200 : (Int16.ofInt (200)).toInt32 = Int32.ofInt (200) := by decide
theorem si_255 : (Int16.ofInt (255)).toInt32 = Int32.ofInt (255) := by decide
theorem si_256 : (Int16.ofInt (256)).toInt32 = Int32.ofInt (256) := by decide
theorem si_900 : (Int16.ofInt (900)).toInt32 = Int32.ofInt (900) := by decide
theorem si_940 : (Int16.ofInt (940)).toInt32 = Int32.ofInt (940) := by decide
theorem si_999 : (Int16.ofInt (999)).toInt32 = Int32.ofInt (999) := by decide
theorem si_1001 : (Int16.ofInt (1001)).toInt32 = Int32.ofInt (1001) := by decide
theorem si_1023 : (Int16.ofInt (1023)).toInt32 = Int32.ofInt (1023) := by decide
theorem kc_X11_122 : Cond.constantLong RX11 122 (Int64.ofInt 110442557371507) ∈ lw_g := tg 1150 (by decide +kernel) rfl
theorem kc_X11_124 : Cond.constantLong RX11 124 (Int64.ofInt 1818848101) ∈ lw_g := tg 1151 (by decide +kernel) rfl
theorem kc_X11_118 : Cond.constantLong RX11 118 (Int64.ofInt 1734437230) ∈ lw_g := tg 1148 (by decide +kernel) rfl
theorem kc_X11_114 : Cond.constantLong RX11 114 (Int64.ofInt 30506450281915237) ∈ lw_g := tg 1146 (by decide +kernel) rfl
theorem kc_X11_116 : Cond.constantLong RX11 116 (Int64.ofInt 114784635872626) ∈ lw_g := tg 1147 (by decide +kernel) rfl
theorem kc_X11_120 : Cond.constantLong RX11 120 (Int64.ofInt 126879480964466) ∈ lw_g := tg 1149 (by decide +kernel) rfl
theorem kc_X11_126 : Cond.constantLong RX11 126 (Int64.ofInt 32497584235442030) ∈ lw_g := tg 1152 (by decide +kernel) rfl
theorem kc_X11_128 : Cond.constantLong RX11 128 (Int64.ofInt 27696016923389543) ∈ lw_g := tg 1153 (by decide +kernel) rfl
theorem kc_X11_297 : Cond.constantLong RX11 297 (Int64.ofInt (-1)) ∈ lw_g := tg 1517 (by decide +kernel) rfl
theorem kc_X11_424 : Cond.constant RX11 424 (Int32.ofInt 1000000) ∈ lw_g := tg 1734 (by decide +kernel) rfl
theorem kc_X4_83 : Cond.constantLong RX4 83 (Int64.ofInt 30506450281915237) ∈ lw_g := tg 498 (by decide +kernel) rfl
theorem kc_X4_88 : Cond.constantLong RX4 88 (Int64.ofInt 114784635872626) ∈ lw_g := tg 507 (by decide +kernel) rfl
theorem kc_X4_93 : Cond.constantLong RX4 93 (Int64.ofInt 126879480964466) ∈ lw_g := tg 525 (by decide +kernel) rfl
theorem kc_X4_98 : Cond.constantLong RX4 98 (Int64.ofInt 32497584235442030) ∈ lw_g := tg 540 (by decide +kernel) rfl
theorem kc_X4_111 : Cond.constantLong RX4 111 (Int64.ofInt 27696016923389543) ∈ lw_g := tg 541 (by decide +kernel) rfl
theorem kc_X4_130 : Cond.constantLong RX4 130 (Int64.ofInt 1734437230) ∈ lw_g := tg 516 (by decide +kernel) rfl
theorem kc_X4_152 : Cond.constantLong RX4 152 (Int64.ofInt 110442557371507) ∈ lw_g := tg 538 (by decide +kernel) rfl
theorem kc_X4_154 : Cond.constantLong RX4 154 (Int64.ofInt 1818848101) ∈ lw_g := tg 539 (by decide +kernel) rfl
theorem kc_X2_47 : Cond.constant RX2 47 (Int32.ofInt 1000000) ∈ lw_g := tg 115 (by decide +kernel) rfl
theorem kc_X10_203 : Cond.constantLong RX10 203 (Int64.ofInt (-1)) ∈ lw_g := tg 704 (by decide +kernel) rfl
theorem kc_J13_314 : Cond.constantLong RJ13 314 (Int64.ofInt 6148914691236517205) ∈ lw_g := tg 784 (by decide +kernel) rfl
theorem kc_J13_316 : Cond.constantLong RJ13 316 (Int64.ofInt 3689348814741910323) ∈ lw_g := tg 785 (by decide +kernel) rfl
theorem kc_J13_318 : Cond.constantLong RJ13 318 (Int64.ofInt 1085102592571150095) ∈ lw_g := tg 786 (by decide +kernel) rfl
theorem kc_J6_265 : Cond.constant RJ6 265 (Int32.ofInt 1431655765) ∈ lw_g := tg 835 (by decide +kernel) rfl
theorem kc_J6_266 : Cond.constant RJ6 266 (Int32.ofInt 858993459) ∈ lw_g := tg 836 (by decide +kernel) rfl
theorem kc_J6_267 : Cond.constant RJ6 267 (Int32.ofInt 252645135) ∈ lw_g := tg 837 (by decide +kernel) rfl
theorem kc_J6_264 : Cond.constant RJ6 264 (Int32.ofInt 65536) ∈ lw_g := tg 845 (by decide +kernel) rfl
