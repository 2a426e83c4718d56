section WAr
variable {d kp kd : Nat} {cc : ByteArray} {own : String} {nL : Nat} {ret : Option FieldType} {LY LYe : List Sh} {K : KX} {pc : Nat} {L : List (Option Value)} {st : List Value} {σ : St} {o : Option (Int × St)}
theorem x_le {x y : Int} (h : rng64 x ∧ rng64 y) : (Int64.ofInt x ≤ Int64.ofInt y) ↔ x ≤ y := by rw [Int64.le_iff_toInt_le, wj h.1, wj h.2]
theorem WA_gdk {kd : Nat} {ret : Option FieldType} {g : Prop} [Decidable g] {o : Option (Int × St)} (kk : g → WA d kp kd cc own nL ret LY LYe K pc L st σ o) : WA d kp kd cc own nL ret LY LYe K pc L st σ (gd g o) := a_gd kk
theorem a_getI {idx ci j q key : Nat} {C : String} {T : u_T} {N : Nat} {ks : List Nat} (hf : FLk own idx ci j C T N) (hq : LY[q]? = some (Sum.inl (ci, ks))) (hk : ks[j]? = some 0) (hd : decode cc pc = .ok (.getfield idx, 3)) (hy : 64 * q + j = key) (kk : WA d kp kd cc own nL ret LY LYe K (pc + 3) L (vi (gF σ key) :: st) σ o) : WA d kp kd cc own nL ret LY LYe K pc L (.ref q :: st) σ o := by
  intro hK r0 σ0 ho
  obtain ⟨⟨p, l, e, s, m, args⟩, ⟨below, meth, c⟩, ⟨ad0, tc, D⟩⟩ := K
  obtain ⟨hx, hb, hml, hown, hts, hlk, hret, hKK, hok⟩ := id hK.1
  intro ad hA H locs ls hP hS hl
  have kk := kk hK r0 σ0 ho ad hA H locs ls hP hS hl
  subst hy
  have he := wl_get (ad := ad) (tc := tc) (σ := σ) (k := 0) hq
  rw [Nat.zero_add] at he
  exact va_get hx hb hts hf.2.1 hown (⟨hKK.1, fun k q h => by simp at h⟩ : va_K D vwCl [] s) hP q he hf.2.2.1 j hf.2.2.2 (hts _ hf.1) (fun _ h => h) (fvs_get hk) hd kk
theorem a_getL {idx ci j q key : Nat} {C : String} {T : u_T} {N : Nat} {ks : List Nat} (hf : FLk own idx ci j C T N) (hq : LY[q]? = some (Sum.inl (ci, ks))) (hk : ks[j]? = some 1) (hd : decode cc pc = .ok (.getfield idx, 3)) (hy : 64 * q + j = key) (kk : WA d kp kd cc own nL ret LY LYe K (pc + 3) L (vl (gF σ key) :: st) σ o) : WA d kp kd cc own nL ret LY LYe K pc L (.ref q :: st) σ o := by
  intro hK r0 σ0 ho
  obtain ⟨⟨p, l, e, s, m, args⟩, ⟨below, meth, c⟩, ⟨ad0, tc, D⟩⟩ := K
  obtain ⟨hx, hb, hml, hown, hts, hlk, hret, hKK, hok⟩ := id hK.1
  intro ad hA H locs ls hP hS hl
  have kk := kk hK r0 σ0 ho ad hA H locs ls hP hS hl
  subst hy
  have he := wl_get (ad := ad) (tc := tc) (σ := σ) (k := 0) hq
  rw [Nat.zero_add] at he
  exact va_get hx hb hts hf.2.1 hown (⟨hKK.1, fun k q h => by simp at h⟩ : va_K D vwCl [] s) hP q he hf.2.2.1 j hf.2.2.2 (hts _ hf.1) (fun _ h => h) (fvs_get hk) hd kk
theorem a_getR {idx ci j q key c0 : Nat} {C : String} {T : u_T} {N : Nat} {ks : List Nat} (hf : FLk own idx ci j C T N) (hq : LY[q]? = some (Sum.inl (ci, ks))) (hk : ks[j]? = some (c0 + 2)) (hd : decode cc pc = .ok (.getfield idx, 3)) (hy : 64 * q + j = key) (kk : WA d kp kd cc own nL ret LY LYe K (pc + 3) L (.ref c0 :: st) σ o) : WA d kp kd cc own nL ret LY LYe K pc L (.ref q :: st) σ o := by
  intro hK r0 σ0 ho
  obtain ⟨⟨p, l, e, s, m, args⟩, ⟨below, meth, c⟩, ⟨ad0, tc, D⟩⟩ := K
  obtain ⟨hx, hb, hml, hown, hts, hlk, hret, hKK, hok⟩ := id hK.1
  intro ad hA H locs ls hP hS hl
  have kk := kk hK r0 σ0 ho ad hA H locs ls hP hS hl
  subst hy
  have he := wl_get (ad := ad) (tc := tc) (σ := σ) (k := 0) hq
  rw [Nat.zero_add] at he
  exact va_get hx hb hts hf.2.1 hown (⟨hKK.1, fun k q h => by simp at h⟩ : va_K D vwCl [] s) hP q he hf.2.2.1 j hf.2.2.2 (hts _ hf.1) (fun _ h => h) (fvs_get hk) hd kk
theorem a_putI {idx ci j q key : Nat} {x : Int} {C : String} {T : u_T} {N : Nat} {ty : Nat → FieldType} {ks : List Nat} {k : St → Option (Int × St)} (hf : FLk own idx ci j C T N) (hcf : CFk T N ty) (hfin : (T j).2.2.2 = false) (ht : ty j = .int) (hq : LY[q]? = some (Sum.inl (ci, ks))) (hk : ks[j]? = some 0) (hd : decode cc pc = .ok (.putfield idx, 3)) (hy : 64 * q + j = key) (kk : ∀ σ1, WA d kp kd cc own nL ret LY LYe K (pc + 3) L st σ1 (k σ1)) : WA d kp kd cc own nL ret LY LYe K pc L (vi x :: .ref q :: st) σ (bs (sF σ key x) k) := by
  intro hK r0 σ0 ho
  obtain ⟨⟨p, l, e, s, m, args⟩, ⟨below, meth, c⟩, ⟨ad0, tc, D⟩⟩ := K
  obtain ⟨hx, hb, hml, hown, hts, hlk, hret, hKK, hok⟩ := id hK.1
  intro ad hA H locs ls hP hS hl
  subst hy
  have he := wl_get (ad := ad) (tc := tc) (σ := σ) (k := 0) hq
  rw [Nat.zero_add] at he
  have hpd := hcf.1 j hf.2.2.2
  rw [ht] at hpd
  refine va_put (v := vi x) hx hb hts hf.2.1 ty hcf.1 hcf.2 hown (⟨hKK.1, fun k q h => by simp at h⟩ : va_K D vwCl [] s) hP hA.2.D hS q he hf.2.2.1 j hf.2.2.2 (hts _ hf.1) (fun _ h => h) hfin hpd rfl rfl (by rw [fvs_len]; exact (List.getElem?_eq_some_iff.mp hk).1) hd fun H1 locs1 p1 d1 s1 => ?_
  have e1 := wl_setF (ad := ad) (tc := tc) (σ := σ) (v := x) hok hq hk
  have e2 : fv1 ad (sF σ (64 * q + j) x) (64 * q + j) 0 = vi x := by simp [fv1, gF, sF]
  rw [e2] at e1
  rw [e1] at p1
  exact kk _ hK r0 σ0 ho ad hA H1 locs1 ls p1 s1 hl
theorem a_putL {idx ci j q key : Nat} {x : Int} {C : String} {T : u_T} {N : Nat} {ty : Nat → FieldType} {ks : List Nat} {k : St → Option (Int × St)} (hf : FLk own idx ci j C T N) (hcf : CFk T N ty) (hfin : (T j).2.2.2 = false) (ht : ty j = .long) (hq : LY[q]? = some (Sum.inl (ci, ks))) (hk : ks[j]? = some 1) (hd : decode cc pc = .ok (.putfield idx, 3)) (hy : 64 * q + j = key) (kk : ∀ σ1, WA d kp kd cc own nL ret LY LYe K (pc + 3) L st σ1 (k σ1)) : WA d kp kd cc own nL ret LY LYe K pc L (vl x :: .ref q :: st) σ (bs (sF σ key x) k) := by
  intro hK r0 σ0 ho
  obtain ⟨⟨p, l, e, s, m, args⟩, ⟨below, meth, c⟩, ⟨ad0, tc, D⟩⟩ := K
  obtain ⟨hx, hb, hml, hown, hts, hlk, hret, hKK, hok⟩ := id hK.1
  intro ad hA H locs ls hP hS hl
  subst hy
  have he := wl_get (ad := ad) (tc := tc) (σ := σ) (k := 0) hq
  rw [Nat.zero_add] at he
  have hpd := hcf.1 j hf.2.2.2
  rw [ht] at hpd
  refine va_put (v := vl x) hx hb hts hf.2.1 ty hcf.1 hcf.2 hown (⟨hKK.1, fun k q h => by simp at h⟩ : va_K D vwCl [] s) hP hA.2.D hS q he hf.2.2.1 j hf.2.2.2 (hts _ hf.1) (fun _ h => h) hfin hpd rfl rfl (by rw [fvs_len]; exact (List.getElem?_eq_some_iff.mp hk).1) hd fun H1 locs1 p1 d1 s1 => ?_
  have e1 := wl_setF (ad := ad) (tc := tc) (σ := σ) (v := x) hok hq hk
  have e2 : fv1 ad (sF σ (64 * q + j) x) (64 * q + j) 1 = vl x := by simp [fv1, gF, sF]
  rw [e2] at e1
  rw [e1] at p1
  exact kk _ hK r0 σ0 ho ad hA H1 locs1 ls p1 s1 hl
theorem a_putZ {idx ci j q key : Nat} {x : Int} {C : String} {T : u_T} {N : Nat} {ty : Nat → FieldType} {ks : List Nat} {k : St → Option (Int × St)} (hf : FLk own idx ci j C T N) (hcf : CFk T N ty) (hfin : (T j).2.2.2 = false) (ht : ty j = .boolean) (hq : LY[q]? = some (Sum.inl (ci, ks))) (hk : ks[j]? = some 0) (hd : decode cc pc = .ok (.putfield idx, 3)) (hy : 64 * q + j = key) (kk : ∀ σ1, WA d kp kd cc own nL ret LY LYe K (pc + 3) L st σ1 (k σ1)) : WA d kp kd cc own nL ret LY LYe K pc L (vi x :: .ref q :: st) σ (gd (isb x) (bs (sF σ key x) k)) := by
  refine a_gd fun hg => ?_
  intro hK r0 σ0 ho
  obtain ⟨⟨p, l, e, s, m, args⟩, ⟨below, meth, c⟩, ⟨ad0, tc, D⟩⟩ := K
  obtain ⟨hx, hb, hml, hown, hts, hlk, hret, hKK, hok⟩ := id hK.1
  intro ad hA H locs ls hP hS hl
  subst hy
  have he := wl_get (ad := ad) (tc := tc) (σ := σ) (k := 0) hq
  rw [Nat.zero_add] at he
  have hpd := hcf.1 j hf.2.2.2
  rw [ht] at hpd
  refine va_put (v := vi x) hx hb hts hf.2.1 ty hcf.1 hcf.2 hown (⟨hKK.1, fun k q h => by simp at h⟩ : va_K D vwCl [] s) hP hA.2.D hS q he hf.2.2.1 j hf.2.2.2 (hts _ hf.1) (fun _ h => h) hfin hpd (by rcases hg with rfl | rfl <;> rfl) (by rcases hg with rfl | rfl <;> rfl) (by rw [fvs_len]; exact (List.getElem?_eq_some_iff.mp hk).1) hd fun H1 locs1 p1 d1 s1 => ?_
  have e1 := wl_setF (ad := ad) (tc := tc) (σ := σ) (v := x) hok hq hk
  have e2 : fv1 ad (sF σ (64 * q + j) x) (64 * q + j) 0 = vi x := by simp [fv1, gF, sF]
  rw [e2] at e1
  rw [e1] at p1
  exact kk _ hK r0 σ0 ho ad hA H1 locs1 ls p1 s1 hl
theorem a_iald {q n b : Nat} {i : Int} (hq : LY[q]? = some (Sum.inr (n, 0, b))) (hn : Nat.blt n 2147483648 = true) (hd : decode cc pc = .ok (.iaload, 1)) (kk : WA d kp kd cc own nL ret LY LYe K (pc + 1) L (vi (gA σ q i.toNat) :: st) σ o) : WA d kp kd cc own nL ret LY LYe K pc L (vi i :: .ref q :: st) σ (gd (inb i n) o) := by
  refine a_gd fun hg => ?_
  intro hK r0 σ0 ho
  obtain ⟨⟨p, l, e, s, m, args⟩, ⟨below, meth, c⟩, ⟨ad0, tc, D⟩⟩ := K
  obtain ⟨hx, hb, hml, hown, hts, hlk, hret, hKK, hok⟩ := id hK.1
  intro ad hA H locs ls hP hS hl
  have kk := kk hK r0 σ0 ho ad hA H locs ls hP hS hl
  have he := wl_get (ad := ad) (tc := tc) (σ := σ) (k := 0) hq
  rw [Nat.zero_add] at he
  have hn2 := Nat.le_of_ble_eq_true hn
  refine va_iald hx hb (⟨hKK.1, fun k q h => by cases k with | zero => (cases h; exact hKK.2.1 _ _ _ _ hq) | succ k => simp at h⟩ : va_K D vwCl [(tc 0, aty 0)] s) hP q 0 he rfl (v_in hg hn2) hd ?_
  rw [v_ix hg hn2]
  exact kk
theorem a_bald {q n b : Nat} {i : Int} (hq : LY[q]? = some (Sum.inr (n, 1, b))) (hn : Nat.blt n 2147483648 = true) (hd : decode cc pc = .ok (.baload, 1)) (kk : WA d kp kd cc own nL ret LY LYe K (pc + 1) L (vi (gA σ q i.toNat) :: st) σ o) : WA d kp kd cc own nL ret LY LYe K pc L (vi i :: .ref q :: st) σ (gd (inb i n) o) := by
  refine a_gd fun hg => ?_
  intro hK r0 σ0 ho
  obtain ⟨⟨p, l, e, s, m, args⟩, ⟨below, meth, c⟩, ⟨ad0, tc, D⟩⟩ := K
  obtain ⟨hx, hb, hml, hown, hts, hlk, hret, hKK, hok⟩ := id hK.1
  intro ad hA H locs ls hP hS hl
  have kk := kk hK r0 σ0 ho ad hA H locs ls hP hS hl
  have he := wl_get (ad := ad) (tc := tc) (σ := σ) (k := 0) hq
  rw [Nat.zero_add] at he
  have hn2 := Nat.le_of_ble_eq_true hn
  refine va_bald hx hb (⟨hKK.1, fun k q h => by cases k with | zero => (cases h; exact hKK.2.1 _ _ _ _ hq) | succ k => simp at h⟩ : va_K D vwCl [(tc 1, aty 1)] s) hP q 0 he rfl (v_in hg hn2) hd ?_
  rw [v_ix hg hn2]
  exact kk
theorem a_zald {q n b : Nat} {i : Int} (hq : LY[q]? = some (Sum.inr (n, 2, b))) (hn : Nat.blt n 2147483648 = true) (hd : decode cc pc = .ok (.baload, 1)) (kk : WA d kp kd cc own nL ret LY LYe K (pc + 1) L (vi (gA σ q i.toNat) :: st) σ o) : WA d kp kd cc own nL ret LY LYe K pc L (vi i :: .ref q :: st) σ (gd (inb i n) o) := by
  refine a_gd fun hg => ?_
  intro hK r0 σ0 ho
  obtain ⟨⟨p, l, e, s, m, args⟩, ⟨below, meth, c⟩, ⟨ad0, tc, D⟩⟩ := K
  obtain ⟨hx, hb, hml, hown, hts, hlk, hret, hKK, hok⟩ := id hK.1
  intro ad hA H locs ls hP hS hl
  have kk := kk hK r0 σ0 ho ad hA H locs ls hP hS hl
  have he := wl_get (ad := ad) (tc := tc) (σ := σ) (k := 0) hq
  rw [Nat.zero_add] at he
  have hn2 := Nat.le_of_ble_eq_true hn
  refine va_zald hx hb (⟨hKK.1, fun k q h => by cases k with | zero => (cases h; exact hKK.2.1 _ _ _ _ hq) | succ k => simp at h⟩ : va_K D vwCl [(tc 2, aty 2)] s) hP q 0 he rfl (v_in hg hn2) hd ?_
  rw [v_ix hg hn2]
  exact kk
theorem a_lald {q n b : Nat} {i : Int} (hq : LY[q]? = some (Sum.inr (n, 3, b))) (hn : Nat.blt n 2147483648 = true) (hd : decode cc pc = .ok (.laload, 1)) (kk : WA d kp kd cc own nL ret LY LYe K (pc + 1) L (vl (gA σ q i.toNat) :: st) σ o) : WA d kp kd cc own nL ret LY LYe K pc L (vi i :: .ref q :: st) σ (gd (inb i n) o) := by
  refine a_gd fun hg => ?_
  intro hK r0 σ0 ho
  obtain ⟨⟨p, l, e, s, m, args⟩, ⟨below, meth, c⟩, ⟨ad0, tc, D⟩⟩ := K
  obtain ⟨hx, hb, hml, hown, hts, hlk, hret, hKK, hok⟩ := id hK.1
  intro ad hA H locs ls hP hS hl
  have kk := kk hK r0 σ0 ho ad hA H locs ls hP hS hl
  have he := wl_get (ad := ad) (tc := tc) (σ := σ) (k := 0) hq
  rw [Nat.zero_add] at he
  have hn2 := Nat.le_of_ble_eq_true hn
  refine va_lald hx hb (⟨hKK.1, fun k q h => by cases k with | zero => (cases h; exact hKK.2.1 _ _ _ _ hq) | succ k => simp at h⟩ : va_K D vwCl [(tc 3, aty 3)] s) hP q 0 he rfl (v_in hg hn2) hd ?_
  rw [v_ix hg hn2]
  exact kk
theorem a_aaldI {q n b : Nat} {i : Int} (hq : LY[q]? = some (Sum.inr (n, 4, b))) (hn : Nat.blt n 2147483648 = true) (hd : decode cc pc = .ok (.aaload, 1)) (kk : inb i n → WA d kp kd cc own nL ret LY LYe K (pc + 1) L (.ref (b + i.toNat) :: st) σ o) : WA d kp kd cc own nL ret LY LYe K pc L (vi i :: .ref q :: st) σ (gd (inb i n) o) := by
  refine a_gd fun hg => ?_
  have kk := kk hg
  intro hK r0 σ0 ho
  obtain ⟨⟨p, l, e, s, m, args⟩, ⟨below, meth, c⟩, ⟨ad0, tc, D⟩⟩ := K
  obtain ⟨hx, hb, hml, hown, hts, hlk, hret, hKK, hok⟩ := id hK.1
  intro ad hA H locs ls hP hS hl
  have kk := kk hK r0 σ0 ho ad hA H locs ls hP hS hl
  have he := wl_get (ad := ad) (tc := tc) (σ := σ) (k := 0) hq
  rw [Nat.zero_add] at he
  have hn2 := Nat.le_of_ble_eq_true hn
  have hlt : (Int32.ofInt i).toNatClampNeg < n := by rw [v_ix hg hn2]; have := hg.1; have := hg.2; omega
  refine W.aald (v := va_rf (some (ad (b + (Int32.ofInt i).toNatClampNeg)))) (ty := .array .int) hx hb (hP q _ he) ((hKK.2.1 _ _ _ _ hq).1 n (fun j => va_rf (some (ad (b + j))))) rfl (fun q => by cases q) (by show ¬ (_ < 0 ∨ (arrV _ _ _).slots.size ≤ _); rw [arrV_size]; exact v_in hg hn2) (by show (arrV _ _ _).slots[_]? = _; rw [arrV_read _ _ hlt]) rfl rfl hd ?_
  rw [v_ix hg hn2]
  exact kk
theorem a_aaldS {q n b : Nat} {i : Int} (hq : LY[q]? = some (Sum.inr (n, 5, b))) (hn : Nat.blt n 2147483648 = true) (hd : decode cc pc = .ok (.aaload, 1)) (kk : inb i n → WA d kp kd cc own nL ret LY LYe K (pc + 1) L (.ref (b + i.toNat) :: st) σ o) : WA d kp kd cc own nL ret LY LYe K pc L (vi i :: .ref q :: st) σ (gd (inb i n) o) := by
  refine a_gd fun hg => ?_
  have kk := kk hg
  intro hK r0 σ0 ho
  obtain ⟨⟨p, l, e, s, m, args⟩, ⟨below, meth, c⟩, ⟨ad0, tc, D⟩⟩ := K
  obtain ⟨hx, hb, hml, hown, hts, hlk, hret, hKK, hok⟩ := id hK.1
  intro ad hA H locs ls hP hS hl
  have kk := kk hK r0 σ0 ho ad hA H locs ls hP hS hl
  have he := wl_get (ad := ad) (tc := tc) (σ := σ) (k := 0) hq
  rw [Nat.zero_add] at he
  have hn2 := Nat.le_of_ble_eq_true hn
  refine va_aldq hx hb (⟨hKK.1, fun k q h => by cases k with | zero => (cases h; exact hKK.2.1 _ _ _ _ hq) | succ k => simp at h⟩ : va_K D vwCl [(tc 5, aty 5)] s) hP q 0 he rfl (v_in hg hn2) hd ?_
  rw [v_ix hg hn2]
  exact kk
theorem nar_b {x : Int} : vp_nar .byte (Int32.ofInt x) = Int32.ofInt (x.bmod 256) := by
  rw [vp_nar_byte, Int32.toInt8_ofInt, ← Int32.toInt_inj, Int8.toInt_toInt32, Int8.toInt_ofInt, Int32.toInt_ofInt]
  show x.bmod 256 = (x.bmod 256).bmod 4294967296
  have h1 := Int.bmod_lt (x := x) (m := 256) (by decide)
  have h2 := Int.le_bmod (x := x) (m := 256) (by decide)
  exact (Int.bmod_eq_of_le (by omega) (by omega)).symm
theorem nar_z {x : Int} (h : isb x) : vp_nar .boolean (Int32.ofInt x) = Int32.ofInt x := by rcases h with rfl | rfl <;> rfl
theorem a_iast {q n b : Nat} {i x : Int} {k : St → Option (Int × St)} (hq : LY[q]? = some (Sum.inr (n, 0, b))) (hn : Nat.blt n 2147483648 = true) (hd : decode cc pc = .ok (.iastore, 1)) (kk : ∀ σ1, WA d kp kd cc own nL ret LY LYe K (pc + 1) L st σ1 (k σ1)) : WA d kp kd cc own nL ret LY LYe K pc L (vi x :: vi i :: .ref q :: st) σ (gd (inb i n) (bs (sA σ q i.toNat x) k)) := by
  refine a_gd fun hg => ?_
  intro hK r0 σ0 ho
  obtain ⟨⟨p, l, e, s, m, args⟩, ⟨below, meth, c⟩, ⟨ad0, tc, D⟩⟩ := K
  obtain ⟨hx, hb, hml, hown, hts, hlk, hret, hKK, hok⟩ := id hK.1
  intro ad hA H locs ls hP hS hl
  have he := wl_get (ad := ad) (tc := tc) (σ := σ) (k := 0) hq
  rw [Nat.zero_add] at he
  have hn2 := Nat.le_of_ble_eq_true hn
  refine va_iast hx hb (⟨hKK.1, fun k q h => by cases k with | zero => (cases h; exact hKK.2.1 _ _ _ _ hq) | succ k => simp at h⟩ : va_K D vwCl [(tc 0, aty 0)] s) hP hA.2.D hS q 0 he rfl (v_in hg hn2) hd fun H1 locs1 p1 d1 s1 => ?_
  rw [v_ix hg hn2] at p1
  have e1 : Sum.inl (upd (fun i => Int32.ofInt (gA σ q i)) i.toNat (Int32.ofInt x)) = conts ad (sA σ q i.toNat x) q 0 b := by
    unfold conts
    congr 1
    funext i'
    unfold upd
    by_cases h : i' = i.toNat <;> simp [h, gA, sA]
  rw [wl_setA hq e1] at p1
  exact kk _ hK r0 σ0 ho ad hA H1 locs1 ls p1 s1 hl
theorem a_bast {q n b : Nat} {i x : Int} {k : St → Option (Int × St)} (hq : LY[q]? = some (Sum.inr (n, 1, b))) (hn : Nat.blt n 2147483648 = true) (hd : decode cc pc = .ok (.bastore, 1)) (kk : ∀ σ1, WA d kp kd cc own nL ret LY LYe K (pc + 1) L st σ1 (k σ1)) : WA d kp kd cc own nL ret LY LYe K pc L (vi x :: vi i :: .ref q :: st) σ (gd (inb i n) (bs (sA σ q i.toNat (x.bmod 256)) k)) := by
  refine a_gd fun hg => ?_
  intro hK r0 σ0 ho
  obtain ⟨⟨p, l, e, s, m, args⟩, ⟨below, meth, c⟩, ⟨ad0, tc, D⟩⟩ := K
  obtain ⟨hx, hb, hml, hown, hts, hlk, hret, hKK, hok⟩ := id hK.1
  intro ad hA H locs ls hP hS hl
  have he := wl_get (ad := ad) (tc := tc) (σ := σ) (k := 0) hq
  rw [Nat.zero_add] at he
  have hn2 := Nat.le_of_ble_eq_true hn
  refine va_bast hx hb (⟨hKK.1, fun k q h => by cases k with | zero => (cases h; exact hKK.2.1 _ _ _ _ hq) | succ k => simp at h⟩ : va_K D vwCl [(tc 1, aty 1)] s) hP hA.2.D hS q 0 he rfl (v_in hg hn2) hd fun H1 locs1 p1 d1 s1 => ?_
  rw [v_ix hg hn2] at p1
  have e1 : Sum.inl (upd (fun i => Int32.ofInt (gA σ q i)) i.toNat (vp_nar .byte (Int32.ofInt x))) = conts ad (sA σ q i.toNat (x.bmod 256)) q 1 b := by
    unfold conts
    congr 1
    funext i'
    unfold upd
    by_cases h : i' = i.toNat <;> simp [h, gA, sA, nar_b]
  rw [wl_setA hq e1] at p1
  exact kk _ hK r0 σ0 ho ad hA H1 locs1 ls p1 s1 hl
theorem a_zast {q n b : Nat} {i x : Int} {k : St → Option (Int × St)} (hq : LY[q]? = some (Sum.inr (n, 2, b))) (hn : Nat.blt n 2147483648 = true) (hd : decode cc pc = .ok (.bastore, 1)) (kk : ∀ σ1, WA d kp kd cc own nL ret LY LYe K (pc + 1) L st σ1 (k σ1)) : WA d kp kd cc own nL ret LY LYe K pc L (vi x :: vi i :: .ref q :: st) σ (gd (inb i n ∧ isb x) (bs (sA σ q i.toNat x) k)) := by
  refine a_gd fun hg => ?_
  intro hK r0 σ0 ho
  obtain ⟨⟨p, l, e, s, m, args⟩, ⟨below, meth, c⟩, ⟨ad0, tc, D⟩⟩ := K
  obtain ⟨hx, hb, hml, hown, hts, hlk, hret, hKK, hok⟩ := id hK.1
  intro ad hA H locs ls hP hS hl
  have he := wl_get (ad := ad) (tc := tc) (σ := σ) (k := 0) hq
  rw [Nat.zero_add] at he
  have hn2 := Nat.le_of_ble_eq_true hn
  refine va_zast hx hb (⟨hKK.1, fun k q h => by cases k with | zero => (cases h; exact hKK.2.1 _ _ _ _ hq) | succ k => simp at h⟩ : va_K D vwCl [(tc 2, aty 2)] s) hP hA.2.D hS q 0 he rfl (v_in hg.1 hn2) hd fun H1 locs1 p1 d1 s1 => ?_
  rw [v_ix hg.1 hn2] at p1
  have e1 : Sum.inl (upd (fun i => Int32.ofInt (gA σ q i)) i.toNat (vp_nar .boolean (Int32.ofInt x))) = conts ad (sA σ q i.toNat x) q 2 b := by
    unfold conts
    congr 1
    funext i'
    unfold upd
    by_cases h : i' = i.toNat <;> simp [h, gA, sA, nar_z hg.2]
  rw [wl_setA hq e1] at p1
  exact kk _ hK r0 σ0 ho ad hA H1 locs1 ls p1 s1 hl
theorem a_last {q n b : Nat} {i x : Int} {k : St → Option (Int × St)} (hq : LY[q]? = some (Sum.inr (n, 3, b))) (hn : Nat.blt n 2147483648 = true) (hd : decode cc pc = .ok (.lastore, 1)) (kk : ∀ σ1, WA d kp kd cc own nL ret LY LYe K (pc + 1) L st σ1 (k σ1)) : WA d kp kd cc own nL ret LY LYe K pc L (vl x :: vi i :: .ref q :: st) σ (gd (inb i n) (bs (sA σ q i.toNat x) k)) := by
  refine a_gd fun hg => ?_
  intro hK r0 σ0 ho
  obtain ⟨⟨p, l, e, s, m, args⟩, ⟨below, meth, c⟩, ⟨ad0, tc, D⟩⟩ := K
  obtain ⟨hx, hb, hml, hown, hts, hlk, hret, hKK, hok⟩ := id hK.1
  intro ad hA H locs ls hP hS hl
  have he := wl_get (ad := ad) (tc := tc) (σ := σ) (k := 0) hq
  rw [Nat.zero_add] at he
  have hn2 := Nat.le_of_ble_eq_true hn
  refine va_last hx hb (⟨hKK.1, fun k q h => by cases k with | zero => (cases h; exact hKK.2.1 _ _ _ _ hq) | succ k => simp at h⟩ : va_K D vwCl [(tc 3, aty 3)] s) hP hA.2.D hS q 0 he rfl (v_in hg hn2) hd fun H1 locs1 p1 d1 s1 => ?_
  rw [v_ix hg hn2] at p1
  have e1 : Sum.inr (Sum.inl (vp_updL (fun i => Int64.ofInt (gA σ q i)) i.toNat (Int64.ofInt x))) = conts ad (sA σ q i.toNat x) q 3 b := by
    unfold conts
    congr 1
    congr 1
    funext i'
    unfold vp_updL
    by_cases h : i' = i.toNat <;> simp [h, gA, sA]
  rw [wl_setA hq e1] at p1
  exact kk _ hK r0 σ0 ho ad hA H1 locs1 ls p1 s1 hl
theorem a_alen {q n t b : Nat} (hq : LY[q]? = some (Sum.inr (n, t, b))) (hd : decode cc pc = .ok (.arraylength, 1)) (kk : WA d kp kd cc own nL ret LY LYe K (pc + 1) L (vi n :: st) σ o) : WA d kp kd cc own nL ret LY LYe K pc L (.ref q :: st) σ o := by
  intro hK r0 σ0 ho
  obtain ⟨⟨p, l, e, s, m, args⟩, ⟨below, meth, c⟩, ⟨ad0, tc, D⟩⟩ := K
  obtain ⟨hx, hb, hml, hown, hts, hlk, hret, hKK, hok⟩ := id hK.1
  intro ad hA H locs ls hP hS hl
  have kk := kk hK r0 σ0 ho ad hA H locs ls hP hS hl
  have he := wl_get (ad := ad) (tc := tc) (σ := σ) (k := 0) hq
  rw [Nat.zero_add] at he
  exact va_alen hx hb (⟨hKK.1, fun k q h => by cases k with | zero => (cases h; exact hKK.2.1 _ _ _ _ hq) | succ k => simp at h⟩ : va_K D vwCl [(tc t, aty t)] s) hP q 0 he rfl (v := Int32.ofInt n) rfl hd kk
theorem ix_lt {i : Int} {n : Nat} (h : inb i n) : i.toNat < n := by have := h.1; have := h.2; omega
theorem a_iret {r : Int} (hd : decode cc pc = .ok (.ireturn, 1)) : WA d kp 1 cc own nL (some .int) LY LY K pc L [vi r] σ (some (r, σ)) := by
  intro hK r0 σ0 ho
  obtain ⟨⟨p, l, e, s, m, args⟩, ⟨below, meth, c⟩, ⟨ad0, tc, D⟩⟩ := K
  obtain ⟨hx, hb, hml, hown, hts, hlk, hret, hKK, hok⟩ := id hK.1
  intro ad hA H locs ls hP hS hl
  cases ho
  exact W.iret hx hb hret (fun t ht hW => ⟨⟨Int32.ofInt r, (), rfl, rfl, ad, hA, by rw [ht]; exact hP⟩, hS.F ht⟩) hS.2.2 hd hlk
theorem a_zret {r : Int} (hd : decode cc pc = .ok (.ireturn, 1)) : WA d kp 1 cc own nL (some .boolean) LY LY K pc L [vi r] σ (gd (isb r) (some (r, σ))) := by
  refine WA_gdk fun hg => ?_
  intro hK r0 σ0 ho
  obtain ⟨⟨p, l, e, s, m, args⟩, ⟨below, meth, c⟩, ⟨ad0, tc, D⟩⟩ := K
  obtain ⟨hx, hb, hml, hown, hts, hlk, hret, hKK, hok⟩ := id hK.1
  intro ad hA H locs ls hP hS hl
  cases ho
  exact W.zret hx hb hret (by rcases hg with rfl | rfl <;> rfl) (fun t ht hW => ⟨⟨Int32.ofInt r, (), rfl, rfl, ad, hA, by rw [ht]; exact hP⟩, hS.F ht⟩) hS.2.2 hd hlk
theorem a_lret {r : Int} (hd : decode cc pc = .ok (.lreturn, 1)) : WA d kp 2 cc own nL (some .long) LY LY K pc L [vl r] σ (some (r, σ)) := by
  intro hK r0 σ0 ho
  obtain ⟨⟨p, l, e, s, m, args⟩, ⟨below, meth, c⟩, ⟨ad0, tc, D⟩⟩ := K
  obtain ⟨hx, hb, hml, hown, hts, hlk, hret, hKK, hok⟩ := id hK.1
  intro ad hA H locs ls hP hS hl
  cases ho
  exact W.lret hx hb hret (fun t ht hW => ⟨⟨Int64.ofInt r, (), rfl, rfl, ad, hA, by rw [ht]; exact hP⟩, hS.F ht⟩) hS.2.2 hd hlk
theorem a_vret (hd : decode cc pc = .ok (.return_, 1)) : WA d kp 0 cc own nL none LY LY K pc L [] σ (some (0, σ)) := by
  intro hK r0 σ0 ho
  obtain ⟨⟨p, l, e, s, m, args⟩, ⟨below, meth, c⟩, ⟨ad0, tc, D⟩⟩ := K
  obtain ⟨hx, hb, hml, hown, hts, hlk, hret, hKK, hok⟩ := id hK.1
  intro ad hA H locs ls hP hS hl
  cases ho
  exact W.vret hx hb hret (fun t ht hW => ⟨⟨(), rfl, trivial, ad, hA, by rw [ht]; exact hP⟩, hS.F ht⟩) hS.2.2 hd hlk
theorem a_bvi {e : Int} {k : Int → Option (Int × St)} (kk : ∀ x, WA d kp kd cc own nL ret LY LYe K pc L (vi x :: st) σ (k x)) : WA d kp kd cc own nL ret LY LYe K pc L (vi e :: st) σ (bv e k) := kk e
theorem a_bvl {e : Int} {k : Int → Option (Int × St)} (kk : ∀ x, WA d kp kd cc own nL ret LY LYe K pc L (vl x :: st) σ (k x)) : WA d kp kd cc own nL ret LY LYe K pc L (vl e :: st) σ (bv e k) := kk e
def nrow (v : Value) : Bool := match v with
  | .ref k => !(Nat.ble rowB k && Nat.blt k (rowB + 46))
  | _ => true
def nrowo (o : Option Value) : Bool := match o with
  | some v => nrow v
  | none => true
def nrows (L : List (Option Value)) (st : List Value) : Bool := L.all nrowo && st.all nrow
theorem lget_mem : ∀ {L : List (Option Value)} {i : Nat} {v : Value}, lget L i = some v → some v ∈ L
  | [], i, v, h => by simp [lget] at h
  | x :: t, 0, v, h => by simp [lget] at h; rw [h]; exact List.mem_cons_self
  | x :: t, i + 1, v, h => List.mem_cons_of_mem _ (lget_mem (L := t) (i := i) h)
theorem nrow_cv {LY : List Sh} {ad ad' : Nat → Nat} {A : Nat → Prop} (h : AdRel 1 LY ad ad' A) {v : Value} (hv : nrow v = true) : cv ad' v = cv ad v := by
  cases v with
  | ref k =>
    have hk : keepIx 1 k := by
      intro q
      have h1 : Nat.ble rowB k = true := Nat.ble_eq_true_of_le q.1
      have h2 : Nat.blt k (rowB + 46) = true := Nat.ble_eq_true_of_le q.2
      have hv' : (!(Nat.ble rowB k && Nat.blt k (rowB + 46))) = true := hv
      rw [h1, h2] at hv'
      cases hv'
    show Value.ref (ad' k) = Value.ref (ad k)
    rw [h.1 k hk]
  | _ => rfl
theorem nrows_cv {LY : List Sh} {ad ad' : Nat → Nat} {A : Nat → Prop} (h : AdRel 1 LY ad ad' A) {L : List (Option Value)} {st : List Value} (q : nrows L st = true) : st.map (cv ad') = st.map (cv ad) ∧ ∀ i v, lget L i = some v → cv ad' v = cv ad v := by
  simp only [nrows, Bool.and_eq_true] at q
  exact ⟨List.map_congr_left fun v hv => nrow_cv h (List.all_eq_true.mp q.2 v hv), fun i v hv => nrow_cv h (List.all_eq_true.mp q.1 (some v) (lget_mem hv))⟩
theorem adrel0 {LY : List Sh} {ad ad' : Nat → Nat} {A : Nat → Prop} (h : AdRel 0 LY ad ad' A) : ad' = ad := funext fun j => h.1 j trivial
def kpsub (kp1 kp : Nat) : Bool := kp1 == 0 || (kp1 == 1 && kp == 1)
theorem kpsub_ix {kp1 kp j : Nat} (h : kpsub kp1 kp = true) (hj : keepIx kp j) : keepIx kp1 j := by
  simp only [kpsub, Bool.or_eq_true, Bool.and_eq_true, beq_iff_eq] at h
  rcases h with rfl | ⟨rfl, rfl⟩
  · trivial
  · exact hj
theorem adrel_up {kp' kp : Nat} {LY : List Sh} {ad0 ad ad' : Nat → Nat} {sz0 sz : Nat} (hkp : kpsub kp' kp = true) (hsz : sz0 ≤ sz) (h : AdRel kp LY ad0 ad (fA LY ad0 sz0)) (h' : AdRel kp' LY ad ad' (fA LY ad sz)) : AdRel kp LY ad0 ad' (fA LY ad0 sz0) := by
  refine ⟨fun j hj => ?_, h'.2.1, fun i hi => ?_⟩
  · rw [h'.1 j (kpsub_ix hkp hj), h.1 j hj]
  · rcases h'.2.2 i hi with ⟨j, hj, e⟩ | q
    · rw [e]; exact h.2.2 j hj
    · exact Or.inr (Nat.le_trans hsz q)
theorem fA_up {LY : List Sh} {ad0 ad : Nat → Nat} {sz0 sz : Nat} (hsz : sz0 ≤ sz) (h : AdOK LY ad (fA LY ad0 sz0)) : ∀ q, fA LY ad sz q → fA LY ad0 sz0 q := by
  intro q hq
  rcases hq with ⟨j, hj, e⟩ | hq
  · rw [e]; exact h.2 j hj
  · exact Or.inr (Nat.le_trans hsz hq)
theorem cats (ad : Nat → Nat) (st : List Value) : ((st.map (cv ad)).map fun v => v.category).sum = (st.map fun v => v.category).sum := by
  rw [List.map_map]
  congr 1
  apply List.map_congr_left
  intro v _
  exact cv_cat ad v
theorem Ct_blind {LY : List Sh} {D : va_G} {ad : Nat → Nat} {tc : Nat → ClassId} {σ : St} {as : List Value} {sz : Nat} : FrameBlind (va_Pc as (fun U => U.heap.size = sz ∧ AdOK LY ad (fA LY ad sz) ∧ LYok LY ∧ va_P D vwCl (wl ad tc σ 0 LY) U.heap ∧ KK LY tc D U)) :=
  fun a U g mk q => ⟨q.1, q.2.1, q.2.2.1, q.2.2.2.1, q.2.2.2.2.1, q.2.2.2.2.2.blind g mk a⟩
theorem a_callSv {d1 kp1 idx n nL1 : Nat} {LY1 : List Sh} {y : MethodName} {cc1 : ByteArray} {ret1 : Option FieldType} {as st0 : List Value} {o1 : Option (Int × St)} {k : Int → St → Option (Int × St)} (hM : MFs own idx y cc1 nL1 ret1 n) (hC : Ct d1 kp1 0 y cc1 nL1 ret1 LY LY1 as σ o1) (hLL : LYsame LY LY1) (hd : decode cc pc = .ok (.invokestatic idx, 3)) (hdd : Nat.blt d1 d = true) (hkp : kpsub kp1 kp = true) (hn : as.length = n) (hnL : Nat.ble nL1 45 = true) (hst : st0 = as.reverse ++ st) (hcat : Nat.ble (st.map fun v => v.category).sum 8 = true) (hnr : kp1 = 0 ∨ nrows L st = true) (kk : ∀ r σ1, WA d kp kd cc own nL ret LY1 LYe K (pc + 3) L st σ1 (k r σ1)) : WA d kp kd cc own nL ret LY LYe K pc L st0 σ (bnd o1 k) := by
  intro hK r0 σ0 ho
  obtain ⟨⟨p, l, e, s, m, args⟩, ⟨below, meth, c⟩, ⟨ad0, tc, D⟩⟩ := K
  obtain ⟨hx, hb, hml, hown, hts, hlk, hret, hKK, hok⟩ := id hK.1
  intro ad hA H locs ls hP hS hl
  subst hst
  cases ho1 : o1 with
  | none => rw [ho1] at ho; cases ho
  | some z =>
    obtain ⟨r1, σ1⟩ := z
    rw [ho1, bnd_s] at ho
    have hMet := hC r1 σ1 ho1 l D ad tc H.size
    have h64 : 64 * d1 + 64 ≤ 64 * d := by have := Nat.le_of_ble_eq_true hdd; omega
    have hn45 := Nat.le_of_ble_eq_true hnL
    have hAsz : AdOK LY ad (fA LY ad H.size) := ⟨hA.2.1, fun i hi => Or.inl ⟨i, hi, rfl⟩⟩
    have cw : CallB (rmK kd d) s args own idx y cc1 nL1 ret1 (Cond.code y cc1 nL1 ret1 :: lw_g) (rmD d1) 0 0 n ∧ (Cond.static y).before args s = true := ⟨callB_of n hts (lg_good hM.2.2.2.1) rfl rfl rfl (hts _ hM.2.2.1) (hts _ hM.1) hM.2.2.2.2 ⟨by have := Nat.le_of_ble_eq_true hdd; show d1 + 1 ≤ d; omega, by show 8 + (nL1 + 11) + 64 * d1 ≤ 64 * d; omega⟩, (hts _ hM.2.1)⟩
    have run := va_runS (As := as.map (cv ad)) (rest := st.map (cv ad)) (g := F0 m pc ls ((as.reverse ++ st).map (cv ad))) (cells := 0) (slots := 0) (e := e) (below := below) (meth := meth) (H := H) (locs := locs) ⟨hx, hb, hml, hown, hts⟩ hMet cw ⟨Ct_blind, fun U hU hW => ⟨rfl, by rw [hU], hAsz, hok, by rw [hU]; exact hP, hKK.warm hW⟩⟩ rfl (by rw [List.length_map]; exact hn) hl.1 (by simp [List.map_append]) (lv_room (by rw [cats]; exact Nat.le_of_ble_eq_true hcat)) hd ⟨Nat.zero_le _, Nat.zero_le _⟩
    refine va_callv (a := #[]) run hS (fun q _ h => fA_up hS.1 hA.2 q h) (fun q h => fA_up hS.1 hA.2 q h) (fun u t H1 locs1 ht hvm hw hB hz1 hkeep hS1 => ?_)
    obtain ⟨ad', hR, hP1⟩ := hB
    rw [ht] at hP1
    have hR : AdRel kp1 LY ad ad' (fA LY ad H.size) := ⟨hR.1, (AdOK_len hLL).mp hR.2⟩
    have hA' := adrel_up hkp hS.1 hA hR
    have hcv : st.map (cv ad') = st.map (cv ad) ∧ ∀ i v, lget L i = some v → cv ad' v = cv ad v := by
      rcases hnr with q | q
      · subst q; rw [adrel0 hR]; exact ⟨rfl, fun _ _ _ => rfl⟩
      · have hR1 : AdRel 1 LY ad ad' (fA LY ad H.size) := by
          have hkp2 := hkp
          simp only [kpsub, Bool.or_eq_true, Bool.and_eq_true, beq_iff_eq] at hkp2
          rcases hkp2 with e0 | e0
          · subst e0; exact ⟨fun j _ => hR.1 j trivial, hR.2⟩
          · obtain ⟨e0, -⟩ := e0
            subst e0; exact hR
        exact nrows_cv hR1 q
    have hA1 : AdRel kp LY1 ad0 ad' (fA LY1 ad0 s.heap.size) := by rw [fA_len hLL]; exact ⟨hA'.1, (AdOK_len hLL).mpr hA'.2⟩
    have hS1 : va_S (fA LY1 ad0 s.heap.size) s.heap H1 locs1 := by rw [fA_len hLL]; exact hS1
    have kk1 := kk r1 σ1 (KOKd_same hLL hK) r0 σ0 ho ad' hA1 H1 locs1 ls hP1 hS1 ⟨hl.1, hl.2.1, fun i v q => by rw [hcv.2 i v q]; exact hl.2.2 i v q⟩
    rw [fA_len hLL] at kk1
    rw [hcv.1] at kk1
    exact kk1
theorem a_callSi {d1 kp1 idx n nL1 : Nat} {LY1 : List Sh} {y : MethodName} {cc1 : ByteArray} {ret1 : Option FieldType} {as st0 : List Value} {o1 : Option (Int × St)} {k : Int → St → Option (Int × St)} (hM : MFs own idx y cc1 nL1 ret1 n) (hC : Ct d1 kp1 1 y cc1 nL1 ret1 LY LY1 as σ o1) (hLL : LYsame LY LY1) (hd : decode cc pc = .ok (.invokestatic idx, 3)) (hdd : Nat.blt d1 d = true) (hkp : kpsub kp1 kp = true) (hn : as.length = n) (hnL : Nat.ble nL1 45 = true) (hst : st0 = as.reverse ++ st) (hcat : Nat.ble (st.map fun v => v.category).sum 8 = true) (hnr : kp1 = 0 ∨ nrows L st = true) (kk : ∀ r σ1, WA d kp kd cc own nL ret LY1 LYe K (pc + 3) L (vi r :: st) σ1 (k r σ1)) : WA d kp kd cc own nL ret LY LYe K pc L st0 σ (bnd o1 k) := by
  intro hK r0 σ0 ho
  obtain ⟨⟨p, l, e, s, m, args⟩, ⟨below, meth, c⟩, ⟨ad0, tc, D⟩⟩ := K
  obtain ⟨hx, hb, hml, hown, hts, hlk, hret, hKK, hok⟩ := id hK.1
  intro ad hA H locs ls hP hS hl
  subst hst
  cases ho1 : o1 with
  | none => rw [ho1] at ho; cases ho
  | some z =>
    obtain ⟨r1, σ1⟩ := z
    rw [ho1, bnd_s] at ho
    have hMet := hC r1 σ1 ho1 l D ad tc H.size
    have h64 : 64 * d1 + 64 ≤ 64 * d := by have := Nat.le_of_ble_eq_true hdd; omega
    have hn45 := Nat.le_of_ble_eq_true hnL
    have hAsz : AdOK LY ad (fA LY ad H.size) := ⟨hA.2.1, fun i hi => Or.inl ⟨i, hi, rfl⟩⟩
    have cw : CallB (rmK kd d) s args own idx y cc1 nL1 ret1 (Cond.code y cc1 nL1 ret1 :: lw_g) (rmD d1) 0 0 n ∧ (Cond.static y).before args s = true := ⟨callB_of n hts (lg_good hM.2.2.2.1) rfl rfl rfl (hts _ hM.2.2.1) (hts _ hM.1) hM.2.2.2.2 ⟨by have := Nat.le_of_ble_eq_true hdd; show d1 + 1 ≤ d; omega, by show 8 + (nL1 + 11) + 64 * d1 ≤ 64 * d; omega⟩, (hts _ hM.2.1)⟩
    have run := va_runS (As := as.map (cv ad)) (rest := st.map (cv ad)) (g := F0 m pc ls ((as.reverse ++ st).map (cv ad))) (cells := 0) (slots := 0) (e := e) (below := below) (meth := meth) (H := H) (locs := locs) ⟨hx, hb, hml, hown, hts⟩ hMet cw ⟨Ct_blind, fun U hU hW => ⟨rfl, by rw [hU], hAsz, hok, by rw [hU]; exact hP, hKK.warm hW⟩⟩ rfl (by rw [List.length_map]; exact hn) hl.1 (by simp [List.map_append]) (lv_room (by rw [cats]; exact Nat.le_of_ble_eq_true hcat)) hd ⟨Nat.zero_le _, Nat.zero_le _⟩
    refine va_calli (a := #[]) run hS (fun q _ h => fA_up hS.1 hA.2 q h) (fun q h => fA_up hS.1 hA.2 q h) (fun rv u t H1 locs1 ht hvm hw hB hz1 hkeep hS1 => ?_)
    obtain ⟨ad', hR, hP1⟩ := hB
    rw [ht] at hP1
    have hR : AdRel kp1 LY ad ad' (fA LY ad H.size) := ⟨hR.1, (AdOK_len hLL).mp hR.2⟩
    have hA' := adrel_up hkp hS.1 hA hR
    have hcv : st.map (cv ad') = st.map (cv ad) ∧ ∀ i v, lget L i = some v → cv ad' v = cv ad v := by
      rcases hnr with q | q
      · subst q; rw [adrel0 hR]; exact ⟨rfl, fun _ _ _ => rfl⟩
      · have hR1 : AdRel 1 LY ad ad' (fA LY ad H.size) := by
          have hkp2 := hkp
          simp only [kpsub, Bool.or_eq_true, Bool.and_eq_true, beq_iff_eq] at hkp2
          rcases hkp2 with e0 | e0
          · subst e0; exact ⟨fun j _ => hR.1 j trivial, hR.2⟩
          · obtain ⟨e0, -⟩ := e0
            subst e0; exact hR
        exact nrows_cv hR1 q
    have hA1 : AdRel kp LY1 ad0 ad' (fA LY1 ad0 s.heap.size) := by rw [fA_len hLL]; exact ⟨hA'.1, (AdOK_len hLL).mpr hA'.2⟩
    have hS1 : va_S (fA LY1 ad0 s.heap.size) s.heap H1 locs1 := by rw [fA_len hLL]; exact hS1
    have kk1 := kk r1 σ1 (KOKd_same hLL hK) r0 σ0 ho ad' hA1 H1 locs1 ls hP1 hS1 ⟨hl.1, hl.2.1, fun i v q => by rw [hcv.2 i v q]; exact hl.2.2 i v q⟩
    rw [fA_len hLL] at kk1
    rw [List.map_cons, hcv.1] at kk1
    have hw : rv = _ := hw
    subst hw
    exact kk1
theorem a_callSl {d1 kp1 idx n nL1 : Nat} {LY1 : List Sh} {y : MethodName} {cc1 : ByteArray} {ret1 : Option FieldType} {as st0 : List Value} {o1 : Option (Int × St)} {k : Int → St → Option (Int × St)} (hM : MFs own idx y cc1 nL1 ret1 n) (hC : Ct d1 kp1 2 y cc1 nL1 ret1 LY LY1 as σ o1) (hLL : LYsame LY LY1) (hd : decode cc pc = .ok (.invokestatic idx, 3)) (hdd : Nat.blt d1 d = true) (hkp : kpsub kp1 kp = true) (hn : as.length = n) (hnL : Nat.ble nL1 45 = true) (hst : st0 = as.reverse ++ st) (hcat : Nat.ble (st.map fun v => v.category).sum 8 = true) (hnr : kp1 = 0 ∨ nrows L st = true) (kk : ∀ r σ1, WA d kp kd cc own nL ret LY1 LYe K (pc + 3) L (vl r :: st) σ1 (k r σ1)) : WA d kp kd cc own nL ret LY LYe K pc L st0 σ (bnd o1 k) := by
  intro hK r0 σ0 ho
  obtain ⟨⟨p, l, e, s, m, args⟩, ⟨below, meth, c⟩, ⟨ad0, tc, D⟩⟩ := K
  obtain ⟨hx, hb, hml, hown, hts, hlk, hret, hKK, hok⟩ := id hK.1
  intro ad hA H locs ls hP hS hl
  subst hst
  cases ho1 : o1 with
  | none => rw [ho1] at ho; cases ho
  | some z =>
    obtain ⟨r1, σ1⟩ := z
    rw [ho1, bnd_s] at ho
    have hMet := hC r1 σ1 ho1 l D ad tc H.size
    have h64 : 64 * d1 + 64 ≤ 64 * d := by have := Nat.le_of_ble_eq_true hdd; omega
    have hn45 := Nat.le_of_ble_eq_true hnL
    have hAsz : AdOK LY ad (fA LY ad H.size) := ⟨hA.2.1, fun i hi => Or.inl ⟨i, hi, rfl⟩⟩
    have cw : CallB (rmK kd d) s args own idx y cc1 nL1 ret1 (Cond.code y cc1 nL1 ret1 :: lw_g) (rmD d1) 0 0 n ∧ (Cond.static y).before args s = true := ⟨callB_of n hts (lg_good hM.2.2.2.1) rfl rfl rfl (hts _ hM.2.2.1) (hts _ hM.1) hM.2.2.2.2 ⟨by have := Nat.le_of_ble_eq_true hdd; show d1 + 1 ≤ d; omega, by show 8 + (nL1 + 11) + 64 * d1 ≤ 64 * d; omega⟩, (hts _ hM.2.1)⟩
    have run := va_runS (As := as.map (cv ad)) (rest := st.map (cv ad)) (g := F0 m pc ls ((as.reverse ++ st).map (cv ad))) (cells := 0) (slots := 0) (e := e) (below := below) (meth := meth) (H := H) (locs := locs) ⟨hx, hb, hml, hown, hts⟩ hMet cw ⟨Ct_blind, fun U hU hW => ⟨rfl, by rw [hU], hAsz, hok, by rw [hU]; exact hP, hKK.warm hW⟩⟩ rfl (by rw [List.length_map]; exact hn) hl.1 (by simp [List.map_append]) (lv_room (by rw [cats]; exact Nat.le_of_ble_eq_true hcat)) hd ⟨Nat.zero_le _, Nat.zero_le _⟩
    refine va_calll (a := #[]) run hS (fun q _ h => fA_up hS.1 hA.2 q h) (fun q h => fA_up hS.1 hA.2 q h) (fun rv u t H1 locs1 ht hvm hw hB hz1 hkeep hS1 => ?_)
    obtain ⟨ad', hR, hP1⟩ := hB
    rw [ht] at hP1
    have hR : AdRel kp1 LY ad ad' (fA LY ad H.size) := ⟨hR.1, (AdOK_len hLL).mp hR.2⟩
    have hA' := adrel_up hkp hS.1 hA hR
    have hcv : st.map (cv ad') = st.map (cv ad) ∧ ∀ i v, lget L i = some v → cv ad' v = cv ad v := by
      rcases hnr with q | q
      · subst q; rw [adrel0 hR]; exact ⟨rfl, fun _ _ _ => rfl⟩
      · have hR1 : AdRel 1 LY ad ad' (fA LY ad H.size) := by
          have hkp2 := hkp
          simp only [kpsub, Bool.or_eq_true, Bool.and_eq_true, beq_iff_eq] at hkp2
          rcases hkp2 with e0 | e0
          · subst e0; exact ⟨fun j _ => hR.1 j trivial, hR.2⟩
          · obtain ⟨e0, -⟩ := e0
            subst e0; exact hR
        exact nrows_cv hR1 q
    have hA1 : AdRel kp LY1 ad0 ad' (fA LY1 ad0 s.heap.size) := by rw [fA_len hLL]; exact ⟨hA'.1, (AdOK_len hLL).mpr hA'.2⟩
    have hS1 : va_S (fA LY1 ad0 s.heap.size) s.heap H1 locs1 := by rw [fA_len hLL]; exact hS1
    have kk1 := kk r1 σ1 (KOKd_same hLL hK) r0 σ0 ho ad' hA1 H1 locs1 ls hP1 hS1 ⟨hl.1, hl.2.1, fun i v q => by rw [hcv.2 i v q]; exact hl.2.2 i v q⟩
    rw [fA_len hLL] at kk1
    rw [List.map_cons, hcv.1] at kk1
    have hw : rv = _ := hw
    subst hw
    exact kk1
theorem a_callNv {d1 kp1 idx n nL1 : Nat} {LY1 : List Sh} {y : MethodName} {cc1 : ByteArray} {ret1 : Option FieldType} {host : String} {as st0 : List Value} {o1 : Option (Int × St)} {k : Int → St → Option (Int × St)} (hM : MFn own idx y cc1 nL1 ret1 n host) (hC : Ct d1 kp1 0 y cc1 nL1 ret1 LY LY1 as σ o1) (hLL : LYsame LY LY1) (hd : decode cc pc = .ok (.invokestatic idx, 3)) (hdd : Nat.blt d1 d = true) (hkp : kpsub kp1 kp = true) (hn : as.length = n) (hnL : Nat.ble nL1 45 = true) (hst : st0 = as.reverse ++ st) (hcat : Nat.ble (st.map fun v => v.category).sum 8 = true) (hnr : kp1 = 0 ∨ nrows L st = true) (kk : ∀ r σ1, WA d kp kd cc own nL ret LY1 LYe K (pc + 3) L st σ1 (k r σ1)) : WA d kp kd cc own nL ret LY LYe K pc L st0 σ (bnd o1 k) := by
  intro hK r0 σ0 ho
  obtain ⟨⟨p, l, e, s, m, args⟩, ⟨below, meth, c⟩, ⟨ad0, tc, D⟩⟩ := K
  obtain ⟨hx, hb, hml, hown, hts, hlk, hret, hKK, hok⟩ := id hK.1
  intro ad hA H locs ls hP hS hl
  subst hst
  cases ho1 : o1 with
  | none => rw [ho1] at ho; cases ho
  | some z =>
    obtain ⟨r1, σ1⟩ := z
    rw [ho1, bnd_s] at ho
    have hMet := hC r1 σ1 ho1 l D ad tc H.size
    have h64 : 64 * d1 + 64 ≤ 64 * d := by have := Nat.le_of_ble_eq_true hdd; omega
    have hn45 := Nat.le_of_ble_eq_true hnL
    have hAsz : AdOK LY ad (fA LY ad H.size) := ⟨hA.2.1, fun i hi => Or.inl ⟨i, hi, rfl⟩⟩
    have cw : va_CN (rmK kd d) s args own idx y host cc1 nL1 ret1 (Cond.code y cc1 nL1 ret1 :: lw_g) (rmD d1) 0 0 n ∧ (Cond.static y).before args s = true ∧ True := ⟨va_cnB n hts (lg_good hM.2.2.2.1) rfl rfl rfl (hKK.2.2.1 _ hM.1) (hts _ hM.2.2.1) hM.2.2.2.2 ⟨by have := Nat.le_of_ble_eq_true hdd; show d1 + 1 ≤ d; omega, by show 8 + (nL1 + 11) + 64 * d1 ≤ 64 * d; omega⟩, (hts _ hM.2.1), trivial⟩
    have run := va_runSN (As := as.map (cv ad)) (rest := st.map (cv ad)) (g := F0 m pc ls ((as.reverse ++ st).map (cv ad))) (cells := 0) (slots := 0) (e := e) (below := below) (meth := meth) (H := H) (locs := locs) ⟨hx, hb, hml, hown, hts⟩ hMet cw ⟨Ct_blind, fun U hU hW => ⟨rfl, by rw [hU], hAsz, hok, by rw [hU]; exact hP, hKK.warm hW⟩⟩ rfl (by rw [List.length_map]; exact hn) hl.1 (by simp [List.map_append]) (lv_room (by rw [cats]; exact Nat.le_of_ble_eq_true hcat)) hd ⟨Nat.zero_le _, Nat.zero_le _⟩
    refine va_callv (a := #[]) run hS (fun q _ h => fA_up hS.1 hA.2 q h) (fun q h => fA_up hS.1 hA.2 q h) (fun u t H1 locs1 ht hvm hw hB hz1 hkeep hS1 => ?_)
    obtain ⟨ad', hR, hP1⟩ := hB
    rw [ht] at hP1
    have hR : AdRel kp1 LY ad ad' (fA LY ad H.size) := ⟨hR.1, (AdOK_len hLL).mp hR.2⟩
    have hA' := adrel_up hkp hS.1 hA hR
    have hcv : st.map (cv ad') = st.map (cv ad) ∧ ∀ i v, lget L i = some v → cv ad' v = cv ad v := by
      rcases hnr with q | q
      · subst q; rw [adrel0 hR]; exact ⟨rfl, fun _ _ _ => rfl⟩
      · have hR1 : AdRel 1 LY ad ad' (fA LY ad H.size) := by
          have hkp2 := hkp
          simp only [kpsub, Bool.or_eq_true, Bool.and_eq_true, beq_iff_eq] at hkp2
          rcases hkp2 with e0 | e0
          · subst e0; exact ⟨fun j _ => hR.1 j trivial, hR.2⟩
          · obtain ⟨e0, -⟩ := e0
            subst e0; exact hR
        exact nrows_cv hR1 q
    have hA1 : AdRel kp LY1 ad0 ad' (fA LY1 ad0 s.heap.size) := by rw [fA_len hLL]; exact ⟨hA'.1, (AdOK_len hLL).mpr hA'.2⟩
    have hS1 : va_S (fA LY1 ad0 s.heap.size) s.heap H1 locs1 := by rw [fA_len hLL]; exact hS1
    have kk1 := kk r1 σ1 (KOKd_same hLL hK) r0 σ0 ho ad' hA1 H1 locs1 ls hP1 hS1 ⟨hl.1, hl.2.1, fun i v q => by rw [hcv.2 i v q]; exact hl.2.2 i v q⟩
    rw [fA_len hLL] at kk1
    rw [hcv.1] at kk1
    exact kk1
theorem a_callNi {d1 kp1 idx n nL1 : Nat} {LY1 : List Sh} {y : MethodName} {cc1 : ByteArray} {ret1 : Option FieldType} {host : String} {as st0 : List Value} {o1 : Option (Int × St)} {k : Int → St → Option (Int × St)} (hM : MFn own idx y cc1 nL1 ret1 n host) (hC : Ct d1 kp1 1 y cc1 nL1 ret1 LY LY1 as σ o1) (hLL : LYsame LY LY1) (hd : decode cc pc = .ok (.invokestatic idx, 3)) (hdd : Nat.blt d1 d = true) (hkp : kpsub kp1 kp = true) (hn : as.length = n) (hnL : Nat.ble nL1 45 = true) (hst : st0 = as.reverse ++ st) (hcat : Nat.ble (st.map fun v => v.category).sum 8 = true) (hnr : kp1 = 0 ∨ nrows L st = true) (kk : ∀ r σ1, WA d kp kd cc own nL ret LY1 LYe K (pc + 3) L (vi r :: st) σ1 (k r σ1)) : WA d kp kd cc own nL ret LY LYe K pc L st0 σ (bnd o1 k) := by
  intro hK r0 σ0 ho
  obtain ⟨⟨p, l, e, s, m, args⟩, ⟨below, meth, c⟩, ⟨ad0, tc, D⟩⟩ := K
  obtain ⟨hx, hb, hml, hown, hts, hlk, hret, hKK, hok⟩ := id hK.1
  intro ad hA H locs ls hP hS hl
  subst hst
  cases ho1 : o1 with
  | none => rw [ho1] at ho; cases ho
  | some z =>
    obtain ⟨r1, σ1⟩ := z
    rw [ho1, bnd_s] at ho
    have hMet := hC r1 σ1 ho1 l D ad tc H.size
    have h64 : 64 * d1 + 64 ≤ 64 * d := by have := Nat.le_of_ble_eq_true hdd; omega
    have hn45 := Nat.le_of_ble_eq_true hnL
    have hAsz : AdOK LY ad (fA LY ad H.size) := ⟨hA.2.1, fun i hi => Or.inl ⟨i, hi, rfl⟩⟩
    have cw : va_CN (rmK kd d) s args own idx y host cc1 nL1 ret1 (Cond.code y cc1 nL1 ret1 :: lw_g) (rmD d1) 0 0 n ∧ (Cond.static y).before args s = true ∧ True := ⟨va_cnB n hts (lg_good hM.2.2.2.1) rfl rfl rfl (hKK.2.2.1 _ hM.1) (hts _ hM.2.2.1) hM.2.2.2.2 ⟨by have := Nat.le_of_ble_eq_true hdd; show d1 + 1 ≤ d; omega, by show 8 + (nL1 + 11) + 64 * d1 ≤ 64 * d; omega⟩, (hts _ hM.2.1), trivial⟩
    have run := va_runSN (As := as.map (cv ad)) (rest := st.map (cv ad)) (g := F0 m pc ls ((as.reverse ++ st).map (cv ad))) (cells := 0) (slots := 0) (e := e) (below := below) (meth := meth) (H := H) (locs := locs) ⟨hx, hb, hml, hown, hts⟩ hMet cw ⟨Ct_blind, fun U hU hW => ⟨rfl, by rw [hU], hAsz, hok, by rw [hU]; exact hP, hKK.warm hW⟩⟩ rfl (by rw [List.length_map]; exact hn) hl.1 (by simp [List.map_append]) (lv_room (by rw [cats]; exact Nat.le_of_ble_eq_true hcat)) hd ⟨Nat.zero_le _, Nat.zero_le _⟩
    refine va_calli (a := #[]) run hS (fun q _ h => fA_up hS.1 hA.2 q h) (fun q h => fA_up hS.1 hA.2 q h) (fun rv u t H1 locs1 ht hvm hw hB hz1 hkeep hS1 => ?_)
    obtain ⟨ad', hR, hP1⟩ := hB
    rw [ht] at hP1
    have hR : AdRel kp1 LY ad ad' (fA LY ad H.size) := ⟨hR.1, (AdOK_len hLL).mp hR.2⟩
    have hA' := adrel_up hkp hS.1 hA hR
    have hcv : st.map (cv ad') = st.map (cv ad) ∧ ∀ i v, lget L i = some v → cv ad' v = cv ad v := by
      rcases hnr with q | q
      · subst q; rw [adrel0 hR]; exact ⟨rfl, fun _ _ _ => rfl⟩
      · have hR1 : AdRel 1 LY ad ad' (fA LY ad H.size) := by
          have hkp2 := hkp
          simp only [kpsub, Bool.or_eq_true, Bool.and_eq_true, beq_iff_eq] at hkp2
          rcases hkp2 with e0 | e0
          · subst e0; exact ⟨fun j _ => hR.1 j trivial, hR.2⟩
          · obtain ⟨e0, -⟩ := e0
            subst e0; exact hR
        exact nrows_cv hR1 q
    have hA1 : AdRel kp LY1 ad0 ad' (fA LY1 ad0 s.heap.size) := by rw [fA_len hLL]; exact ⟨hA'.1, (AdOK_len hLL).mpr hA'.2⟩
    have hS1 : va_S (fA LY1 ad0 s.heap.size) s.heap H1 locs1 := by rw [fA_len hLL]; exact hS1
    have kk1 := kk r1 σ1 (KOKd_same hLL hK) r0 σ0 ho ad' hA1 H1 locs1 ls hP1 hS1 ⟨hl.1, hl.2.1, fun i v q => by rw [hcv.2 i v q]; exact hl.2.2 i v q⟩
    rw [fA_len hLL] at kk1
    rw [List.map_cons, hcv.1] at kk1
    have hw : rv = _ := hw
    subst hw
    exact kk1
theorem a_callNl {d1 kp1 idx n nL1 : Nat} {LY1 : List Sh} {y : MethodName} {cc1 : ByteArray} {ret1 : Option FieldType} {host : String} {as st0 : List Value} {o1 : Option (Int × St)} {k : Int → St → Option (Int × St)} (hM : MFn own idx y cc1 nL1 ret1 n host) (hC : Ct d1 kp1 2 y cc1 nL1 ret1 LY LY1 as σ o1) (hLL : LYsame LY LY1) (hd : decode cc pc = .ok (.invokestatic idx, 3)) (hdd : Nat.blt d1 d = true) (hkp : kpsub kp1 kp = true) (hn : as.length = n) (hnL : Nat.ble nL1 45 = true) (hst : st0 = as.reverse ++ st) (hcat : Nat.ble (st.map fun v => v.category).sum 8 = true) (hnr : kp1 = 0 ∨ nrows L st = true) (kk : ∀ r σ1, WA d kp kd cc own nL ret LY1 LYe K (pc + 3) L (vl r :: st) σ1 (k r σ1)) : WA d kp kd cc own nL ret LY LYe K pc L st0 σ (bnd o1 k) := by
  intro hK r0 σ0 ho
  obtain ⟨⟨p, l, e, s, m, args⟩, ⟨below, meth, c⟩, ⟨ad0, tc, D⟩⟩ := K
  obtain ⟨hx, hb, hml, hown, hts, hlk, hret, hKK, hok⟩ := id hK.1
  intro ad hA H locs ls hP hS hl
  subst hst
  cases ho1 : o1 with
  | none => rw [ho1] at ho; cases ho
  | some z =>
    obtain ⟨r1, σ1⟩ := z
    rw [ho1, bnd_s] at ho
    have hMet := hC r1 σ1 ho1 l D ad tc H.size
    have h64 : 64 * d1 + 64 ≤ 64 * d := by have := Nat.le_of_ble_eq_true hdd; omega
    have hn45 := Nat.le_of_ble_eq_true hnL
    have hAsz : AdOK LY ad (fA LY ad H.size) := ⟨hA.2.1, fun i hi => Or.inl ⟨i, hi, rfl⟩⟩
    have cw : va_CN (rmK kd d) s args own idx y host cc1 nL1 ret1 (Cond.code y cc1 nL1 ret1 :: lw_g) (rmD d1) 0 0 n ∧ (Cond.static y).before args s = true ∧ True := ⟨va_cnB n hts (lg_good hM.2.2.2.1) rfl rfl rfl (hKK.2.2.1 _ hM.1) (hts _ hM.2.2.1) hM.2.2.2.2 ⟨by have := Nat.le_of_ble_eq_true hdd; show d1 + 1 ≤ d; omega, by show 8 + (nL1 + 11) + 64 * d1 ≤ 64 * d; omega⟩, (hts _ hM.2.1), trivial⟩
    have run := va_runSN (As := as.map (cv ad)) (rest := st.map (cv ad)) (g := F0 m pc ls ((as.reverse ++ st).map (cv ad))) (cells := 0) (slots := 0) (e := e) (below := below) (meth := meth) (H := H) (locs := locs) ⟨hx, hb, hml, hown, hts⟩ hMet cw ⟨Ct_blind, fun U hU hW => ⟨rfl, by rw [hU], hAsz, hok, by rw [hU]; exact hP, hKK.warm hW⟩⟩ rfl (by rw [List.length_map]; exact hn) hl.1 (by simp [List.map_append]) (lv_room (by rw [cats]; exact Nat.le_of_ble_eq_true hcat)) hd ⟨Nat.zero_le _, Nat.zero_le _⟩
    refine va_calll (a := #[]) run hS (fun q _ h => fA_up hS.1 hA.2 q h) (fun q h => fA_up hS.1 hA.2 q h) (fun rv u t H1 locs1 ht hvm hw hB hz1 hkeep hS1 => ?_)
    obtain ⟨ad', hR, hP1⟩ := hB
    rw [ht] at hP1
    have hR : AdRel kp1 LY ad ad' (fA LY ad H.size) := ⟨hR.1, (AdOK_len hLL).mp hR.2⟩
    have hA' := adrel_up hkp hS.1 hA hR
    have hcv : st.map (cv ad') = st.map (cv ad) ∧ ∀ i v, lget L i = some v → cv ad' v = cv ad v := by
      rcases hnr with q | q
      · subst q; rw [adrel0 hR]; exact ⟨rfl, fun _ _ _ => rfl⟩
      · have hR1 : AdRel 1 LY ad ad' (fA LY ad H.size) := by
          have hkp2 := hkp
          simp only [kpsub, Bool.or_eq_true, Bool.and_eq_true, beq_iff_eq] at hkp2
          rcases hkp2 with e0 | e0
          · subst e0; exact ⟨fun j _ => hR.1 j trivial, hR.2⟩
          · obtain ⟨e0, -⟩ := e0
            subst e0; exact hR
        exact nrows_cv hR1 q
    have hA1 : AdRel kp LY1 ad0 ad' (fA LY1 ad0 s.heap.size) := by rw [fA_len hLL]; exact ⟨hA'.1, (AdOK_len hLL).mpr hA'.2⟩
    have hS1 : va_S (fA LY1 ad0 s.heap.size) s.heap H1 locs1 := by rw [fA_len hLL]; exact hS1
    have kk1 := kk r1 σ1 (KOKd_same hLL hK) r0 σ0 ho ad' hA1 H1 locs1 ls hP1 hS1 ⟨hl.1, hl.2.1, fun i v q => by rw [hcv.2 i v q]; exact hl.2.2 i v q⟩
    rw [fA_len hLL] at kk1
    rw [List.map_cons, hcv.1] at kk1
    have hw : rv = _ := hw
    subst hw
    exact kk1
theorem a_callVv {d1 kp1 idx n nL1 : Nat} {LY1 : List Sh} {y : MethodName} {cc1 : ByteArray} {ret1 : Option FieldType} {q ci : Nat} {ks : List Nat} {T : u_T} {N : Nat} {as st0 : List Value} {o1 : Option (Int × St)} {k : Int → St → Option (Int × St)} (hM : MFv own idx y cc1 nL1 ret1 n) (hq : LY[q]? = some (Sum.inl (ci, ks))) (hc : vwCl[ci]? = some (y.cls, T, N)) (hC : Ct d1 kp1 0 y cc1 nL1 ret1 LY LY1 (.ref q :: as) σ o1) (hLL : LYsame LY LY1) (hd : decode cc pc = .ok (.invokevirtual idx, 3)) (hdd : Nat.blt d1 d = true) (hkp : kpsub kp1 kp = true) (hn : as.length = n) (hnL : Nat.ble nL1 45 = true) (hst : st0 = as.reverse ++ .ref q :: st) (hcat : Nat.ble (st.map fun v => v.category).sum 8 = true) (hnr : kp1 = 0 ∨ nrows L st = true) (kk : ∀ r σ1, WA d kp kd cc own nL ret LY1 LYe K (pc + 3) L st σ1 (k r σ1)) : WA d kp kd cc own nL ret LY LYe K pc L st0 σ (bnd o1 k) := by
  intro hK r0 σ0 ho
  obtain ⟨⟨p, l, e, s, m, args⟩, ⟨below, meth, c⟩, ⟨ad0, tc, D⟩⟩ := K
  obtain ⟨hx, hb, hml, hown, hts, hlk, hret, hKK, hok⟩ := id hK.1
  intro ad hA H locs ls hP hS hl
  subst hst
  cases ho1 : o1 with
  | none => rw [ho1] at ho; cases ho
  | some z =>
    obtain ⟨r1, σ1⟩ := z
    rw [ho1, bnd_s] at ho
    have hMet := hC r1 σ1 ho1 l D ad tc H.size
    have h64 : 64 * d1 + 64 ≤ 64 * d := by have := Nat.le_of_ble_eq_true hdd; omega
    have hn45 := Nat.le_of_ble_eq_true hnL
    have hAsz : AdOK LY ad (fA LY ad H.size) := ⟨hA.2.1, fun i hi => Or.inl ⟨i, hi, rfl⟩⟩
    have cw : CallW (rmK kd d) s args own y.cls idx y cc1 nL1 ret1 (Cond.code y cc1 nL1 ret1 :: lw_g) (rmD d1) 0 0 n := ⟨callB_of n hts (lg_good hM.2.2.2.1) rfl rfl rfl (hts _ hM.2.2.1) (hts _ hM.1) hM.2.2.2.2.1 ⟨by have := Nat.le_of_ble_eq_true hdd; show d1 + 1 ≤ d; omega, by show 8 + (nL1 + 11) + 64 * d1 ≤ 64 * d; omega⟩, (hts _ hM.2.1), (hts _ hM.2.2.2.2.2)⟩
    have he := wl_get (ad := ad) (tc := tc) (σ := σ) (k := 0) hq
    rw [Nat.zero_add] at he
    have run := va_runV (As := as.map (cv ad)) (b := ad q) (rest := st.map (cv ad)) (g := F0 m pc ls ((as.reverse ++ .ref q :: st).map (cv ad))) (cells := 0) (slots := 0) (e := e) (below := below) (meth := meth) (H := H) (locs := locs) ⟨hx, hb, hml, hown, hts⟩ hMet cw ⟨Ct_blind, va_recv (⟨hKK.1, fun k q h => by simp at h⟩ : va_K D vwCl [] s) hP hc he, fun U hU hW => ⟨rfl, by rw [hU], hAsz, hok, by rw [hU]; exact hP, hKK.warm hW⟩⟩ rfl (by rw [List.length_map]; exact hn) hl.1 (by simp [List.map_append, cv]) (lv_room (by rw [cats]; exact Nat.le_of_ble_eq_true hcat)) hd ⟨Nat.zero_le _, Nat.zero_le _⟩
    refine va_callv (a := #[]) run hS (fun q _ h => fA_up hS.1 hA.2 q h) (fun q h => fA_up hS.1 hA.2 q h) (fun u t H1 locs1 ht hvm hw hB hz1 hkeep hS1 => ?_)
    obtain ⟨ad', hR, hP1⟩ := hB
    rw [ht] at hP1
    have hR : AdRel kp1 LY ad ad' (fA LY ad H.size) := ⟨hR.1, (AdOK_len hLL).mp hR.2⟩
    have hA' := adrel_up hkp hS.1 hA hR
    have hcv : st.map (cv ad') = st.map (cv ad) ∧ ∀ i v, lget L i = some v → cv ad' v = cv ad v := by
      rcases hnr with q | q
      · subst q; rw [adrel0 hR]; exact ⟨rfl, fun _ _ _ => rfl⟩
      · have hR1 : AdRel 1 LY ad ad' (fA LY ad H.size) := by
          have hkp2 := hkp
          simp only [kpsub, Bool.or_eq_true, Bool.and_eq_true, beq_iff_eq] at hkp2
          rcases hkp2 with e0 | e0
          · subst e0; exact ⟨fun j _ => hR.1 j trivial, hR.2⟩
          · obtain ⟨e0, -⟩ := e0
            subst e0; exact hR
        exact nrows_cv hR1 q
    have hA1 : AdRel kp LY1 ad0 ad' (fA LY1 ad0 s.heap.size) := by rw [fA_len hLL]; exact ⟨hA'.1, (AdOK_len hLL).mpr hA'.2⟩
    have hS1 : va_S (fA LY1 ad0 s.heap.size) s.heap H1 locs1 := by rw [fA_len hLL]; exact hS1
    have kk1 := kk r1 σ1 (KOKd_same hLL hK) r0 σ0 ho ad' hA1 H1 locs1 ls hP1 hS1 ⟨hl.1, hl.2.1, fun i v q => by rw [hcv.2 i v q]; exact hl.2.2 i v q⟩
    rw [fA_len hLL] at kk1
    rw [hcv.1] at kk1
    exact kk1
theorem a_callVi {d1 kp1 idx n nL1 : Nat} {LY1 : List Sh} {y : MethodName} {cc1 : ByteArray} {ret1 : Option FieldType} {q ci : Nat} {ks : List Nat} {T : u_T} {N : Nat} {as st0 : List Value} {o1 : Option (Int × St)} {k : Int → St → Option (Int × St)} (hM : MFv own idx y cc1 nL1 ret1 n) (hq : LY[q]? = some (Sum.inl (ci, ks))) (hc : vwCl[ci]? = some (y.cls, T, N)) (hC : Ct d1 kp1 1 y cc1 nL1 ret1 LY LY1 (.ref q :: as) σ o1) (hLL : LYsame LY LY1) (hd : decode cc pc = .ok (.invokevirtual idx, 3)) (hdd : Nat.blt d1 d = true) (hkp : kpsub kp1 kp = true) (hn : as.length = n) (hnL : Nat.ble nL1 45 = true) (hst : st0 = as.reverse ++ .ref q :: st) (hcat : Nat.ble (st.map fun v => v.category).sum 8 = true) (hnr : kp1 = 0 ∨ nrows L st = true) (kk : ∀ r σ1, WA d kp kd cc own nL ret LY1 LYe K (pc + 3) L (vi r :: st) σ1 (k r σ1)) : WA d kp kd cc own nL ret LY LYe K pc L st0 σ (bnd o1 k) := by
  intro hK r0 σ0 ho
  obtain ⟨⟨p, l, e, s, m, args⟩, ⟨below, meth, c⟩, ⟨ad0, tc, D⟩⟩ := K
  obtain ⟨hx, hb, hml, hown, hts, hlk, hret, hKK, hok⟩ := id hK.1
  intro ad hA H locs ls hP hS hl
  subst hst
  cases ho1 : o1 with
  | none => rw [ho1] at ho; cases ho
  | some z =>
    obtain ⟨r1, σ1⟩ := z
    rw [ho1, bnd_s] at ho
    have hMet := hC r1 σ1 ho1 l D ad tc H.size
    have h64 : 64 * d1 + 64 ≤ 64 * d := by have := Nat.le_of_ble_eq_true hdd; omega
    have hn45 := Nat.le_of_ble_eq_true hnL
    have hAsz : AdOK LY ad (fA LY ad H.size) := ⟨hA.2.1, fun i hi => Or.inl ⟨i, hi, rfl⟩⟩
    have cw : CallW (rmK kd d) s args own y.cls idx y cc1 nL1 ret1 (Cond.code y cc1 nL1 ret1 :: lw_g) (rmD d1) 0 0 n := ⟨callB_of n hts (lg_good hM.2.2.2.1) rfl rfl rfl (hts _ hM.2.2.1) (hts _ hM.1) hM.2.2.2.2.1 ⟨by have := Nat.le_of_ble_eq_true hdd; show d1 + 1 ≤ d; omega, by show 8 + (nL1 + 11) + 64 * d1 ≤ 64 * d; omega⟩, (hts _ hM.2.1), (hts _ hM.2.2.2.2.2)⟩
    have he := wl_get (ad := ad) (tc := tc) (σ := σ) (k := 0) hq
    rw [Nat.zero_add] at he
    have run := va_runV (As := as.map (cv ad)) (b := ad q) (rest := st.map (cv ad)) (g := F0 m pc ls ((as.reverse ++ .ref q :: st).map (cv ad))) (cells := 0) (slots := 0) (e := e) (below := below) (meth := meth) (H := H) (locs := locs) ⟨hx, hb, hml, hown, hts⟩ hMet cw ⟨Ct_blind, va_recv (⟨hKK.1, fun k q h => by simp at h⟩ : va_K D vwCl [] s) hP hc he, fun U hU hW => ⟨rfl, by rw [hU], hAsz, hok, by rw [hU]; exact hP, hKK.warm hW⟩⟩ rfl (by rw [List.length_map]; exact hn) hl.1 (by simp [List.map_append, cv]) (lv_room (by rw [cats]; exact Nat.le_of_ble_eq_true hcat)) hd ⟨Nat.zero_le _, Nat.zero_le _⟩
    refine va_calli (a := #[]) run hS (fun q _ h => fA_up hS.1 hA.2 q h) (fun q h => fA_up hS.1 hA.2 q h) (fun rv u t H1 locs1 ht hvm hw hB hz1 hkeep hS1 => ?_)
    obtain ⟨ad', hR, hP1⟩ := hB
    rw [ht] at hP1
    have hR : AdRel kp1 LY ad ad' (fA LY ad H.size) := ⟨hR.1, (AdOK_len hLL).mp hR.2⟩
    have hA' := adrel_up hkp hS.1 hA hR
    have hcv : st.map (cv ad') = st.map (cv ad) ∧ ∀ i v, lget L i = some v → cv ad' v = cv ad v := by
      rcases hnr with q | q
      · subst q; rw [adrel0 hR]; exact ⟨rfl, fun _ _ _ => rfl⟩
      · have hR1 : AdRel 1 LY ad ad' (fA LY ad H.size) := by
          have hkp2 := hkp
          simp only [kpsub, Bool.or_eq_true, Bool.and_eq_true, beq_iff_eq] at hkp2
          rcases hkp2 with e0 | e0
          · subst e0; exact ⟨fun j _ => hR.1 j trivial, hR.2⟩
          · obtain ⟨e0, -⟩ := e0
            subst e0; exact hR
        exact nrows_cv hR1 q
    have hA1 : AdRel kp LY1 ad0 ad' (fA LY1 ad0 s.heap.size) := by rw [fA_len hLL]; exact ⟨hA'.1, (AdOK_len hLL).mpr hA'.2⟩
    have hS1 : va_S (fA LY1 ad0 s.heap.size) s.heap H1 locs1 := by rw [fA_len hLL]; exact hS1
    have kk1 := kk r1 σ1 (KOKd_same hLL hK) r0 σ0 ho ad' hA1 H1 locs1 ls hP1 hS1 ⟨hl.1, hl.2.1, fun i v q => by rw [hcv.2 i v q]; exact hl.2.2 i v q⟩
    rw [fA_len hLL] at kk1
    rw [List.map_cons, hcv.1] at kk1
    have hw : rv = _ := hw
    subst hw
    exact kk1
theorem a_callVl {d1 kp1 idx n nL1 : Nat} {LY1 : List Sh} {y : MethodName} {cc1 : ByteArray} {ret1 : Option FieldType} {q ci : Nat} {ks : List Nat} {T : u_T} {N : Nat} {as st0 : List Value} {o1 : Option (Int × St)} {k : Int → St → Option (Int × St)} (hM : MFv own idx y cc1 nL1 ret1 n) (hq : LY[q]? = some (Sum.inl (ci, ks))) (hc : vwCl[ci]? = some (y.cls, T, N)) (hC : Ct d1 kp1 2 y cc1 nL1 ret1 LY LY1 (.ref q :: as) σ o1) (hLL : LYsame LY LY1) (hd : decode cc pc = .ok (.invokevirtual idx, 3)) (hdd : Nat.blt d1 d = true) (hkp : kpsub kp1 kp = true) (hn : as.length = n) (hnL : Nat.ble nL1 45 = true) (hst : st0 = as.reverse ++ .ref q :: st) (hcat : Nat.ble (st.map fun v => v.category).sum 8 = true) (hnr : kp1 = 0 ∨ nrows L st = true) (kk : ∀ r σ1, WA d kp kd cc own nL ret LY1 LYe K (pc + 3) L (vl r :: st) σ1 (k r σ1)) : WA d kp kd cc own nL ret LY LYe K pc L st0 σ (bnd o1 k) := by
  intro hK r0 σ0 ho
  obtain ⟨⟨p, l, e, s, m, args⟩, ⟨below, meth, c⟩, ⟨ad0, tc, D⟩⟩ := K
  obtain ⟨hx, hb, hml, hown, hts, hlk, hret, hKK, hok⟩ := id hK.1
  intro ad hA H locs ls hP hS hl
  subst hst
  cases ho1 : o1 with
  | none => rw [ho1] at ho; cases ho
  | some z =>
    obtain ⟨r1, σ1⟩ := z
    rw [ho1, bnd_s] at ho
    have hMet := hC r1 σ1 ho1 l D ad tc H.size
    have h64 : 64 * d1 + 64 ≤ 64 * d := by have := Nat.le_of_ble_eq_true hdd; omega
    have hn45 := Nat.le_of_ble_eq_true hnL
    have hAsz : AdOK LY ad (fA LY ad H.size) := ⟨hA.2.1, fun i hi => Or.inl ⟨i, hi, rfl⟩⟩
    have cw : CallW (rmK kd d) s args own y.cls idx y cc1 nL1 ret1 (Cond.code y cc1 nL1 ret1 :: lw_g) (rmD d1) 0 0 n := ⟨callB_of n hts (lg_good hM.2.2.2.1) rfl rfl rfl (hts _ hM.2.2.1) (hts _ hM.1) hM.2.2.2.2.1 ⟨by have := Nat.le_of_ble_eq_true hdd; show d1 + 1 ≤ d; omega, by show 8 + (nL1 + 11) + 64 * d1 ≤ 64 * d; omega⟩, (hts _ hM.2.1), (hts _ hM.2.2.2.2.2)⟩
    have he := wl_get (ad := ad) (tc := tc) (σ := σ) (k := 0) hq
    rw [Nat.zero_add] at he
    have run := va_runV (As := as.map (cv ad)) (b := ad q) (rest := st.map (cv ad)) (g := F0 m pc ls ((as.reverse ++ .ref q :: st).map (cv ad))) (cells := 0) (slots := 0) (e := e) (below := below) (meth := meth) (H := H) (locs := locs) ⟨hx, hb, hml, hown, hts⟩ hMet cw ⟨Ct_blind, va_recv (⟨hKK.1, fun k q h => by simp at h⟩ : va_K D vwCl [] s) hP hc he, fun U hU hW => ⟨rfl, by rw [hU], hAsz, hok, by rw [hU]; exact hP, hKK.warm hW⟩⟩ rfl (by rw [List.length_map]; exact hn) hl.1 (by simp [List.map_append, cv]) (lv_room (by rw [cats]; exact Nat.le_of_ble_eq_true hcat)) hd ⟨Nat.zero_le _, Nat.zero_le _⟩
    refine va_calll (a := #[]) run hS (fun q _ h => fA_up hS.1 hA.2 q h) (fun q h => fA_up hS.1 hA.2 q h) (fun rv u t H1 locs1 ht hvm hw hB hz1 hkeep hS1 => ?_)
    obtain ⟨ad', hR, hP1⟩ := hB
    rw [ht] at hP1
    have hR : AdRel kp1 LY ad ad' (fA LY ad H.size) := ⟨hR.1, (AdOK_len hLL).mp hR.2⟩
    have hA' := adrel_up hkp hS.1 hA hR
    have hcv : st.map (cv ad') = st.map (cv ad) ∧ ∀ i v, lget L i = some v → cv ad' v = cv ad v := by
      rcases hnr with q | q
      · subst q; rw [adrel0 hR]; exact ⟨rfl, fun _ _ _ => rfl⟩
      · have hR1 : AdRel 1 LY ad ad' (fA LY ad H.size) := by
          have hkp2 := hkp
          simp only [kpsub, Bool.or_eq_true, Bool.and_eq_true, beq_iff_eq] at hkp2
          rcases hkp2 with e0 | e0
          · subst e0; exact ⟨fun j _ => hR.1 j trivial, hR.2⟩
          · obtain ⟨e0, -⟩ := e0
            subst e0; exact hR
        exact nrows_cv hR1 q
    have hA1 : AdRel kp LY1 ad0 ad' (fA LY1 ad0 s.heap.size) := by rw [fA_len hLL]; exact ⟨hA'.1, (AdOK_len hLL).mpr hA'.2⟩
    have hS1 : va_S (fA LY1 ad0 s.heap.size) s.heap H1 locs1 := by rw [fA_len hLL]; exact hS1
    have kk1 := kk r1 σ1 (KOKd_same hLL hK) r0 σ0 ho ad' hA1 H1 locs1 ls hP1 hS1 ⟨hl.1, hl.2.1, fun i v q => by rw [hcv.2 i v q]; exact hl.2.2 i v q⟩
    rw [fA_len hLL] at kk1
    rw [List.map_cons, hcv.1] at kk1
    have hw : rv = _ := hw
    subst hw
    exact kk1
theorem a_lcmp_lt {x y off : Int} {tgt : Nat} {o1 o2 : Option (Int × St)} (hd : decode cc pc = .ok (.lcmp, 1)) (hd2 : decode cc (pc + 1) = .ok (.ifCond .lt off, 3)) (ht : ((pc + 1 : Nat) : Int) + off = (tgt : Int)) (k1 : (x < y) → WA d kp kd cc own nL ret LY LYe K tgt L st σ o1) (k2 : ¬ (x < y) → WA d kp kd cc own nL ret LY LYe K (pc + 4) L st σ o2) : WA d kp kd cc own nL ret LY LYe K pc L (vl y :: vl x :: st) σ (gd (rng64 x ∧ rng64 y) (if x < y then o1 else o2)) := by
  refine a_gd fun hg => ?_
  intro hK r0 σ0 ho
  obtain ⟨⟨p, l, e, s, m, args⟩, ⟨below, meth, c⟩, ⟨ad0, tc, D⟩⟩ := K
  obtain ⟨hx, hb, hml, hown, hts, hlk, hret, hKK, hok⟩ := id hK.1
  intro ad hA H locs ls hP hS hl
  refine W.lcmp hx hb hd ?_
  refine lv_if_lt hx hb hd2 ht (fun q => ?_) (fun q => ?_)
  · have q2 := (x_lt hg).mp ((lg_cmp_lt _ _).mp q)
    rw [if_pos q2] at ho
    exact k1 q2 hK r0 σ0 ho ad hA H locs ls hP hS hl
  · have q2 : ¬ (x < y) := fun z => q ((lg_cmp_lt _ _).mpr ((x_lt hg).mpr z))
    rw [if_neg q2] at ho
    exact k2 q2 hK r0 σ0 ho ad hA H locs ls hP hS hl
theorem a_lcmp_ge {x y off : Int} {tgt : Nat} {o1 o2 : Option (Int × St)} (hd : decode cc pc = .ok (.lcmp, 1)) (hd2 : decode cc (pc + 1) = .ok (.ifCond .ge off, 3)) (ht : ((pc + 1 : Nat) : Int) + off = (tgt : Int)) (k1 : (y ≤ x) → WA d kp kd cc own nL ret LY LYe K tgt L st σ o1) (k2 : ¬ (y ≤ x) → WA d kp kd cc own nL ret LY LYe K (pc + 4) L st σ o2) : WA d kp kd cc own nL ret LY LYe K pc L (vl y :: vl x :: st) σ (gd (rng64 x ∧ rng64 y) (if y ≤ x then o1 else o2)) := by
  refine a_gd fun hg => ?_
  intro hK r0 σ0 ho
  obtain ⟨⟨p, l, e, s, m, args⟩, ⟨below, meth, c⟩, ⟨ad0, tc, D⟩⟩ := K
  obtain ⟨hx, hb, hml, hown, hts, hlk, hret, hKK, hok⟩ := id hK.1
  intro ad hA H locs ls hP hS hl
  refine W.lcmp hx hb hd ?_
  refine lv_if_ge hx hb hd2 ht (fun q => ?_) (fun q => ?_)
  · have q2 := (x_le ⟨hg.2, hg.1⟩).mp ((lg_cmp_ge _ _).mp q)
    rw [if_pos q2] at ho
    exact k1 q2 hK r0 σ0 ho ad hA H locs ls hP hS hl
  · have q2 : ¬ (y ≤ x) := fun z => q ((lg_cmp_ge _ _).mpr ((x_le ⟨hg.2, hg.1⟩).mpr z))
    rw [if_neg q2] at ho
    exact k2 q2 hK r0 σ0 ho ad hA H locs ls hP hS hl
theorem a_lcmp_gt {x y off : Int} {tgt : Nat} {o1 o2 : Option (Int × St)} (hd : decode cc pc = .ok (.lcmp, 1)) (hd2 : decode cc (pc + 1) = .ok (.ifCond .gt off, 3)) (ht : ((pc + 1 : Nat) : Int) + off = (tgt : Int)) (k1 : (y < x) → WA d kp kd cc own nL ret LY LYe K tgt L st σ o1) (k2 : ¬ (y < x) → WA d kp kd cc own nL ret LY LYe K (pc + 4) L st σ o2) : WA d kp kd cc own nL ret LY LYe K pc L (vl y :: vl x :: st) σ (gd (rng64 x ∧ rng64 y) (if y < x then o1 else o2)) := by
  refine a_gd fun hg => ?_
  intro hK r0 σ0 ho
  obtain ⟨⟨p, l, e, s, m, args⟩, ⟨below, meth, c⟩, ⟨ad0, tc, D⟩⟩ := K
  obtain ⟨hx, hb, hml, hown, hts, hlk, hret, hKK, hok⟩ := id hK.1
  intro ad hA H locs ls hP hS hl
  refine W.lcmp hx hb hd ?_
  refine lv_if_gt hx hb hd2 ht (fun q => ?_) (fun q => ?_)
  · have q2 := (x_lt ⟨hg.2, hg.1⟩).mp ((lg_cmp_gt _ _).mp q)
    rw [if_pos q2] at ho
    exact k1 q2 hK r0 σ0 ho ad hA H locs ls hP hS hl
  · have q2 : ¬ (y < x) := fun z => q ((lg_cmp_gt _ _).mpr ((x_lt ⟨hg.2, hg.1⟩).mpr z))
    rw [if_neg q2] at ho
    exact k2 q2 hK r0 σ0 ho ad hA H locs ls hP hS hl
theorem a_lcmp_le {x y off : Int} {tgt : Nat} {o1 o2 : Option (Int × St)} (hd : decode cc pc = .ok (.lcmp, 1)) (hd2 : decode cc (pc + 1) = .ok (.ifCond .le off, 3)) (ht : ((pc + 1 : Nat) : Int) + off = (tgt : Int)) (k1 : (x ≤ y) → WA d kp kd cc own nL ret LY LYe K tgt L st σ o1) (k2 : ¬ (x ≤ y) → WA d kp kd cc own nL ret LY LYe K (pc + 4) L st σ o2) : WA d kp kd cc own nL ret LY LYe K pc L (vl y :: vl x :: st) σ (gd (rng64 x ∧ rng64 y) (if x ≤ y then o1 else o2)) := by
  refine a_gd fun hg => ?_
  intro hK r0 σ0 ho
  obtain ⟨⟨p, l, e, s, m, args⟩, ⟨below, meth, c⟩, ⟨ad0, tc, D⟩⟩ := K
  obtain ⟨hx, hb, hml, hown, hts, hlk, hret, hKK, hok⟩ := id hK.1
  intro ad hA H locs ls hP hS hl
  refine W.lcmp hx hb hd ?_
  refine lv_if_le hx hb hd2 ht (fun q => ?_) (fun q => ?_)
  · have q2 := (x_le hg).mp ((lg_cmp_le _ _).mp q)
    rw [if_pos q2] at ho
    exact k1 q2 hK r0 σ0 ho ad hA H locs ls hP hS hl
  · have q2 : ¬ (x ≤ y) := fun z => q ((lg_cmp_le _ _).mpr ((x_le hg).mpr z))
    rw [if_neg q2] at ho
    exact k2 q2 hK r0 σ0 ho ad hA H locs ls hP hS hl
theorem a_lcmp_eq {x y off : Int} {tgt : Nat} {o1 o2 : Option (Int × St)} (hd : decode cc pc = .ok (.lcmp, 1)) (hd2 : decode cc (pc + 1) = .ok (.ifCond .eq off, 3)) (ht : ((pc + 1 : Nat) : Int) + off = (tgt : Int)) (k1 : (x = y) → WA d kp kd cc own nL ret LY LYe K tgt L st σ o1) (k2 : ¬ (x = y) → WA d kp kd cc own nL ret LY LYe K (pc + 4) L st σ o2) : WA d kp kd cc own nL ret LY LYe K pc L (vl y :: vl x :: st) σ (gd (rng64 x ∧ rng64 y) (if x = y then o1 else o2)) := by
  refine a_gd fun hg => ?_
  intro hK r0 σ0 ho
  obtain ⟨⟨p, l, e, s, m, args⟩, ⟨below, meth, c⟩, ⟨ad0, tc, D⟩⟩ := K
  obtain ⟨hx, hb, hml, hown, hts, hlk, hret, hKK, hok⟩ := id hK.1
  intro ad hA H locs ls hP hS hl
  refine W.lcmp hx hb hd ?_
  refine lv_if_eq hx hb hd2 ht (fun q => ?_) (fun q => ?_)
  · have q2 := (x_eq hg).mp ((lg_cmp_eq _ _).mp q)
    rw [if_pos q2] at ho
    exact k1 q2 hK r0 σ0 ho ad hA H locs ls hP hS hl
  · have q2 : ¬ (x = y) := fun z => q ((lg_cmp_eq _ _).mpr ((x_eq hg).mpr z))
    rw [if_neg q2] at ho
    exact k2 q2 hK r0 σ0 ho ad hA H locs ls hP hS hl
theorem a_lcmp_ne {x y off : Int} {tgt : Nat} {o1 o2 : Option (Int × St)} (hd : decode cc pc = .ok (.lcmp, 1)) (hd2 : decode cc (pc + 1) = .ok (.ifCond .ne off, 3)) (ht : ((pc + 1 : Nat) : Int) + off = (tgt : Int)) (k1 : ¬ x = y → WA d kp kd cc own nL ret LY LYe K tgt L st σ o1) (k2 : x = y → WA d kp kd cc own nL ret LY LYe K (pc + 4) L st σ o2) : WA d kp kd cc own nL ret LY LYe K pc L (vl y :: vl x :: st) σ (gd (rng64 x ∧ rng64 y) (if x = y then o2 else o1)) := by
  refine a_gd fun hg => ?_
  intro hK r0 σ0 ho
  obtain ⟨⟨p, l, e, s, m, args⟩, ⟨below, meth, c⟩, ⟨ad0, tc, D⟩⟩ := K
  obtain ⟨hx, hb, hml, hown, hts, hlk, hret, hKK, hok⟩ := id hK.1
  intro ad hA H locs ls hP hS hl
  refine W.lcmp hx hb hd ?_
  refine lv_if_ne hx hb hd2 ht (fun q => ?_) (fun q => ?_)
  · have q2 : ¬ (x = y) := fun z => q ((lg_cmp_eq _ _).mpr ((x_eq hg).mpr z))
    rw [if_neg q2] at ho
    exact k1 q2 hK r0 σ0 ho ad hA H locs ls hP hS hl
  · have q2 := (x_eq hg).mp ((lg_cmp_eq _ _).mp q)
    rw [if_pos q2] at ho
    exact k2 q2 hK r0 σ0 ho ad hA H locs ls hP hS hl
def entL : List Value → List (Option Value)
  | [] => []
  | v :: t => bif v.category == 2 then some v :: none :: entL t else some v :: entL t
def padL (n : Nat) (l : List (Option Value)) : List (Option Value) := l ++ List.replicate (n - l.length) none
theorem lget_app : ∀ (A B : List (Option Value)) (i : Nat) (v : Value), lget (A ++ B) i = some v → lget A i = some v ∨ lget B (i - A.length) = some v
  | [], B, i, v, h => Or.inr h
  | x :: A, B, 0, v, h => Or.inl h
  | x :: A, B, i + 1, v, h => by
    rcases lget_app A B i v h with q | q
    · exact Or.inl q
    · exact Or.inr (by rw [List.length_cons, show i + 1 - (A.length + 1) = i - A.length by omega]; exact q)
theorem lget_rep : ∀ (n i : Nat) (v : Value), ¬ lget (List.replicate n none) i = some v
  | 0, i, v, h => by simp [lget] at h
  | n + 1, 0, v, h => by simp [List.replicate, lget] at h
  | n + 1, i + 1, v, h => lget_rep n i v (by simpa [List.replicate, lget] using h)
theorem entL_get : ∀ (as : List Value) (k i : Nat) (v : Value), lget (entL as) i = some v → (k + i, v) ∈ lv_args k as
  | [], k, i, v, h => by simp [entL, lget] at h
  | a :: t, k, i, v, h => by
    unfold lv_args
    by_cases hc : a.category = 2
    · rw [if_pos hc]
      have hb : (a.category == 2) = true := by simp [hc]
      rw [entL, hb] at h
      match i, h with
      | 0, h => simp [lget] at h; subst h; exact List.mem_cons_self
      | 1, h => simp [lget] at h
      | i + 2, h =>
        have := entL_get t (k + 2) i v h
        rw [show k + 2 + i = k + (i + 2) by omega] at this
        exact List.mem_cons_of_mem _ this
    · rw [if_neg hc]
      have hb : (a.category == 2) = false := by simp [hc]
      rw [entL, hb] at h
      match i, h with
      | 0, h => simp [lget] at h; subst h; exact List.mem_cons_self
      | i + 1, h =>
        have := entL_get t (k + 1) i v h
        rw [show k + 1 + i = k + (i + 1) by omega] at this
        exact List.mem_cons_of_mem _ this
theorem lv_args_map (ad : Nat → Nat) : ∀ (as : List Value) (k i : Nat) (v : Value), (i, v) ∈ lv_args k as → (i, cv ad v) ∈ lv_args k (as.map (cv ad))
  | [], k, i, v, h => by cases h
  | a :: t, k, i, v, h => by
    rw [List.map_cons]
    unfold lv_args at h ⊢
    rw [cv_cat]
    rcases List.mem_cons.mp h with q | q
    · cases q; exact List.mem_cons_self
    · exact List.mem_cons_of_mem _ (lv_args_map ad t _ i v q)
theorem lg_sl_len (ad : Nat → Nat) : ∀ as : List Value, (lg_sl (as.map (cv ad))).length = (lg_sl as).length
  | [] => rfl
  | a :: t => by
    have ih := lg_sl_len ad t
    simp only [lg_sl, List.map_cons, List.flatMap_cons, List.length_append, cv_cat] at ih ⊢
    rw [ih]
    by_cases hc : a.category = 2 <;> simp [hc]
theorem Ct_of {d kp kd : Nat} {y : MethodName} {cc : ByteArray} {own : String} {nL : Nat} {ret : Option FieldType} {LY LYe : List Sh} {as : List Value} {σ : St} {o : Option (Int × St)} {L : List (Option Value)} (hkd : Nat.blt kd 10 = true) (hy : plainName y.cls = true) (hown : y.cls = own) (hlen : Nat.ble (lg_sl as).length nL = true) (hcode : Cond.code y cc nL ret ∈ lw_g) (hL : padL nL (entL as) = L) (h : ∀ K, WA d kp kd cc own nL ret LY LYe K 0 L [] σ o) : Ct d kp kd y cc nL ret LY LYe as σ o := by
  intro r σ' ho l D ad tc sz
  refine Met.ofW (cc := cc) (maxL := nL) (ret := ret) hy rfl ?_
  intro p e s m args below meth c s₁ B hml hv
  obtain ⟨rfl, hsz, hAd, hok, hP, hKK⟩ := hv
  subst hsz
  have hts0 : ∀ w ∈ (Cond.code y cc nL ret :: lw_g), w.before (as.map (cv ad)).toArray s = true := atoms_spec (ws := Cond.code y cc nL ret :: lw_g) B.pre
  have hown2 : s.vm.findClass own = some m.cls := by rw [← hown]; exact findClass_of_methodNamed B.named
  have hlen2 : (lg_sl (as.map (cv ad))).length ≤ nL := by rw [lg_sl_len]; exact Nat.le_of_ble_eq_true hlen
  have hl := lv_entry (as.map (cv ad)) hlen2
  rw [lg_entry_eq]
  have hk10 : Nat.ble 10 kd = false := by
    have := Nat.le_of_ble_eq_true hkd
    cases hq : Nat.ble 10 kd with
    | false => rfl
    | true => have := Nat.le_of_ble_eq_true hq; omega
  have hW := h ((p, l, e, s, m, (as.map (cv ad)).toArray), (below, meth, c), (ad, tc, D)) ⟨⟨B.exec, B.bytes, hml, hown2, fun w hw => hts0 w (List.mem_cons_of_mem _ hw), B.notSynchronized, B.returns, hKK, hok⟩, fun q => by rw [hk10] at q; cases q⟩ r σ' ho ad ⟨fun _ _ => rfl, hAd⟩ s.heap [] ((lg_sl (as.map (cv ad)) ++ List.replicate (nL - (lg_sl (as.map (cv ad))).length) Slot.unset).toArray) hP va_S.rf ⟨hl.1, hl.2.1, fun i v hv => ?_⟩
  · unfold rmK ZK at hW
    rw [hk10] at hW
    exact hW
  subst hL
  unfold padL at hv
  rcases lget_app _ _ _ _ hv with q | q
  · have := entL_get as 0 i v q
    rw [Nat.zero_add] at this
    exact hl.2.2 (i, cv ad v) (lv_args_map ad as 0 i v this)
  · exact absurd q (lget_rep _ _ _)
end WAr
