section WAs
variable {d kp kd : Nat} {cc : ByteArray} {own : String} {nL : Nat} {ret : Option FieldType} {LY LYe : List Sh} {K : KX} {pc : Nat} {L : List (Option Value)} {st : List Value} {σ : St} {o : Option (Int × St)}
theorem a_zretc {r : Int} (h : isb r) (hd : decode cc pc = .ok (.ireturn, 1)) : WA d kp 1 cc own nL (some .boolean) LY LY K pc L [vi r] σ (some (r, σ)) := by
  have h1 := a_zret (d := d) (kp := kp) (own := own) (nL := nL) (LY := LY) (K := K) (L := L) (σ := σ) (r := r) hd
  rw [gd_t h] at h1
  exact h1
theorem a_tsw_in {dflt lo hi c off : Int} {offs : Array Int} {len tgt : Nat} {x : Int} {o1 o2 : Option (Int × St)} (hd : decode cc pc = .ok (.tableswitch dflt lo hi offs, len)) (hr : rng c) (h1 : ¬ c < lo) (h2 : ¬ hi < c) (hof : offs[(c - lo).toNat]? = some off) (ht : (pc : Int) + off = (tgt : Int)) (k1 : WA d kp kd cc own nL ret LY LYe K tgt L st σ o1) (k2 : ¬ x = c → WA d kp kd cc own nL ret LY LYe K pc L (vi x :: st) σ o2) : WA d kp kd cc own nL ret LY LYe K pc L (vi x :: st) σ (if x = c then o1 else o2) := by
  refine a_if (fun h => ?_) k2
  subst h
  intro hK r0 σ0 ho
  obtain ⟨⟨p, l, e, s, m, args⟩, ⟨below, meth, c⟩, ⟨ad0, tc, D⟩⟩ := K
  obtain ⟨hx, hb, hml, hown, hts, hlk, hret, hKK, hok⟩ := id hK
  intro ad hA H locs ls hP hS hl
  have kk := k1 hK r0 σ0 ho ad hA H locs ls hP hS hl
  exact lv_tableIn hx hb hd (by rw [wi hr]; exact h1) (by rw [wi hr]; exact h2) (by rw [wi hr]; exact hof) ht kk
theorem a_tsw_out {dflt lo hi : Int} {offs : Array Int} {len tgt : Nat} {x : Int} (hd : decode cc pc = .ok (.tableswitch dflt lo hi offs, len)) (hr : rng x) (h : x < lo ∨ hi < x) (ht : (pc : Int) + dflt = (tgt : Int)) (kk : WA d kp kd cc own nL ret LY LYe K tgt L st σ o) : WA d kp kd cc own nL ret LY LYe K pc L (vi x :: st) σ o := by
  intro hK r0 σ0 ho
  obtain ⟨⟨p, l, e, s, m, args⟩, ⟨below, meth, c⟩, ⟨ad0, tc, D⟩⟩ := K
  obtain ⟨hx, hb, hml, hown, hts, hlk, hret, hKK, hok⟩ := id hK
  intro ad hA H locs ls hP hS hl
  have kk := kk hK r0 σ0 ho ad hA H locs ls hP hS hl
  exact lv_tableOut hx hb hd (by rw [wi hr]; exact h) ht kk
theorem a_ref {q q' : Nat} (h : q = q') (kk : WA d kp kd cc own nL ret LY LYe K pc L (.ref q' :: st) σ o) : WA d kp kd cc own nL ret LY LYe K pc L (.ref q :: st) σ o := by subst h; exact kk
def imin (x y : Int) : Int := if y < x then y else x
def iabs (x : Int) : Int := if 0 ≤ x then x else 0 - x
def labs (x : Int) : Int := if 0 < x then x else -x
theorem a_mmin {idx : Nat} {x y : Int} (hM : MFs own idx yJ9_min_7cf53 cJ9_min_7cf53 2 (some .int) 2) (hcat : Nat.ble (st.map fun v => v.category).sum 8 = true) (hd0 : Nat.blt 0 d = true) (hd : decode cc pc = .ok (.invokestatic idx, 3)) (kk : WA d kp kd cc own nL ret LY LYe K (pc + 3) L (vi (imin x y) :: st) σ o) : WA d kp kd cc own nL ret LY LYe K pc L (vi y :: vi x :: st) σ (gd (rng x ∧ rng y) o) := by
  refine a_gd fun hg => ?_
  intro hK r0 σ0 ho
  obtain ⟨⟨p, l, e, s, m, args⟩, ⟨below, meth, c⟩, ⟨ad0, tc, D⟩⟩ := K
  obtain ⟨hx, hb, hml, hown, hts, hlk, hret, hKK, hok⟩ := id hK
  intro ad hA H locs ls hP hS hl
  have kk := kk hK r0 σ0 ho ad hA H locs ls hP hS hl
  have hdd := Nat.le_of_ble_eq_true hd0
  refine va_mmin hx hb (by rw [hl.1]; exact hml) hown (hts _ hM.1) (hts _ hM.2.1) (hts _ hM.2.2.1) (hts _ hM.2.2.2.1) hdd (by rw [cats]; have := Nat.le_of_ble_eq_true hcat; show _ ≤ 64 * d; omega) (Nat.zero_le _) (Nat.zero_le _) hd ?_
  have e : (if Int32.ofInt y < Int32.ofInt x then Int32.ofInt y else Int32.ofInt x) = Int32.ofInt (imin x y) := by
    unfold imin
    by_cases h : y < x
    · rw [if_pos h, if_pos ((w_lt ⟨hg.2, hg.1⟩).mpr h)]
    · rw [if_neg h, if_neg (fun z => h ((w_lt ⟨hg.2, hg.1⟩).mp z))]
  rw [e]
  exact kk
theorem a_mabs {idx : Nat} {x : Int} (hM : MFs own idx yJ9_abs_0f7a4 cJ9_abs_0f7a4 1 (some .int) 1) (hcat : Nat.ble (st.map fun v => v.category).sum 8 = true) (hd0 : Nat.blt 0 d = true) (hd : decode cc pc = .ok (.invokestatic idx, 3)) (kk : WA d kp kd cc own nL ret LY LYe K (pc + 3) L (vi (iabs x) :: st) σ o) : WA d kp kd cc own nL ret LY LYe K pc L (vi x :: st) σ (gd (rng x) o) := by
  refine a_gd fun hg => ?_
  intro hK r0 σ0 ho
  obtain ⟨⟨p, l, e, s, m, args⟩, ⟨below, meth, c⟩, ⟨ad0, tc, D⟩⟩ := K
  obtain ⟨hx, hb, hml, hown, hts, hlk, hret, hKK, hok⟩ := id hK
  intro ad hA H locs ls hP hS hl
  have kk := kk hK r0 σ0 ho ad hA H locs ls hP hS hl
  have hdd := Nat.le_of_ble_eq_true hd0
  refine va_mabs hx hb (by rw [hl.1]; exact hml) hown (hts _ hM.1) (hts _ hM.2.1) (hts _ hM.2.2.1) (hts _ hM.2.2.2.1) hdd (by rw [cats]; have := Nat.le_of_ble_eq_true hcat; show _ ≤ 64 * d; omega) (Nat.zero_le _) (Nat.zero_le _) hd ?_
  have e : (if 0 ≤ Int32.ofInt x then Int32.ofInt x else 0 - Int32.ofInt x) = Int32.ofInt (iabs x) := by
    unfold iabs
    by_cases h : 0 ≤ x
    · have h2 : (0 : Int32) ≤ Int32.ofInt x := (w_le (x := 0) ⟨by decide, hg⟩).mpr h
      rw [if_pos h, if_pos h2]
    · have h2 : ¬ (0 : Int32) ≤ Int32.ofInt x := fun z => h ((w_le (x := 0) ⟨by decide, hg⟩).mp z)
      rw [if_neg h, if_neg h2, Int32.ofInt_sub]; rfl
  rw [e]
  exact kk
theorem a_mabsl {idx : Nat} {x : Int} (hM : MFs own idx yJ9_abs_067f4 cJ9_abs_067f4 2 (some .long) 1) (hcat : Nat.ble (st.map fun v => v.category).sum 8 = true) (hd0 : Nat.blt 0 d = true) (hd : decode cc pc = .ok (.invokestatic idx, 3)) (kk : WA d kp kd cc own nL ret LY LYe K (pc + 3) L (vl (labs x) :: st) σ o) : WA d kp kd cc own nL ret LY LYe K pc L (vl x :: st) σ (gd (rng64 x) o) := by
  refine a_gd fun hg => ?_
  intro hK r0 σ0 ho
  obtain ⟨⟨p, l, e, s, m, args⟩, ⟨below, meth, c⟩, ⟨ad0, tc, D⟩⟩ := K
  obtain ⟨hx, hb, hml, hown, hts, hlk, hret, hKK, hok⟩ := id hK
  intro ad hA H locs ls hP hS hl
  have kk := kk hK r0 σ0 ho ad hA H locs ls hP hS hl
  have hdd := Nat.le_of_ble_eq_true hd0
  refine va_mabs_long hx hb (by rw [hl.1]; exact hml) hown (hts _ hM.1) (hts _ hM.2.1) (hts _ hM.2.2.1) (hts _ hM.2.2.2.1) hdd (by rw [cats]; have := Nat.le_of_ble_eq_true hcat; show _ ≤ 64 * d; omega) (Nat.zero_le _) (Nat.zero_le _) hd ?_
  have e : (if 0 < Int64.ofInt x then Int64.ofInt x else -Int64.ofInt x) = Int64.ofInt (labs x) := by
    unfold labs
    by_cases h : 0 < x
    · have h2 : (0 : Int64) < Int64.ofInt x := (x_lt (x := 0) ⟨by decide, hg⟩).mpr h
      rw [if_pos h, if_pos h2]
    · have h2 : ¬ (0 : Int64) < Int64.ofInt x := fun z => h ((x_lt (x := 0) ⟨by decide, hg⟩).mp z)
      rw [if_neg h, if_neg h2, Int64.ofInt_neg]
  rw [e]
  exact kk
def cpA (σ : St) (q0 sp q1 dp n : Nat) : St := (σ.1, fun a j => if a = q1 ∧ dp ≤ j ∧ j < dp + n then σ.2 q0 (sp + (j - dp)) else σ.2 a j)
theorem a_acopy {idx q0 q1 n0 n1 b0 b1 : Nat} {sp dp n : Int} {k : St → Option (Int × St)} (hlk0 : Cond.methodLink own idx arraycopyName ∈ lw_g) (hq0 : LY[q0]? = some (Sum.inr (n0, 0, b0))) (hq1 : LY[q1]? = some (Sum.inr (n1, 0, b1))) (hn0 : Nat.blt n0 2147483648 = true) (hn1 : Nat.blt n1 2147483648 = true) (hd0 : Nat.blt 0 d = true) (hcat : Nat.ble (st.map fun v => v.category).sum 8 = true) (hd : decode cc pc = .ok (.invokestatic idx, 3)) (kk : ∀ σ1, WA d kp kd cc own nL ret LY LYe K (pc + 3) L st σ1 (k σ1)) : WA d kp kd cc own nL ret LY LYe K pc L (vi n :: vi dp :: .ref q1 :: vi sp :: .ref q0 :: st) σ (gd (0 ≤ sp ∧ 0 ≤ dp ∧ 0 ≤ n ∧ sp + n ≤ n0 ∧ dp + n ≤ n1) (bs (cpA σ q0 sp.toNat q1 dp.toNat n.toNat) k)) := by
  refine a_gd fun hg => ?_
  intro hK r0 σ0 ho
  obtain ⟨⟨p, l, e, s, m, args⟩, ⟨below, meth, c⟩, ⟨ad0, tc, D⟩⟩ := K
  obtain ⟨hx, hb, hml, hown, hts, hlk, hret, hKK, hok⟩ := id hK
  intro ad hA H locs ls hP hS hl
  have he0 := wl_get (ad := ad) (tc := tc) (σ := σ) (k := 0) hq0
  have he1 := wl_get (ad := ad) (tc := tc) (σ := σ) (k := 0) hq1
  rw [Nat.zero_add] at he0 he1
  have hb0 := Nat.le_of_ble_eq_true hn0
  have hb1 := Nat.le_of_ble_eq_true hn1
  have hdd := Nat.le_of_ble_eq_true hd0
  obtain ⟨g1, g2, g3, g4, g5⟩ := hg
  have r1 : rng sp := ⟨by omega, by omega⟩
  have r2 : rng dp := ⟨by omega, by omega⟩
  have r3 : rng n := ⟨by omega, by omega⟩
  have t1 : (Int32.ofInt sp).toNatClampNeg = sp.toNat := by show (Int32.ofInt sp).toInt.toNat = _; rw [wi r1]
  have t2 : (Int32.ofInt dp).toNatClampNeg = dp.toNat := by show (Int32.ofInt dp).toInt.toNat = _; rw [wi r2]
  have t3 : (Int32.ofInt n).toNatClampNeg = n.toNat := by show (Int32.ofInt n).toInt.toNat = _; rw [wi r3]
  have p1 : ¬ Int32.ofInt sp < 0 := fun q => by have := (w_lt (y := 0) ⟨r1, by decide⟩).mp q; omega
  have p2 : ¬ Int32.ofInt dp < 0 := fun q => by have := (w_lt (y := 0) ⟨r2, by decide⟩).mp q; omega
  have p3 : ¬ Int32.ofInt n < 0 := fun q => by have := (w_lt (y := 0) ⟨r3, by decide⟩).mp q; omega
  have hfw : nativeFrameWords "java/lang/System" "arraycopy" 5 + 11 ≤ 40 := by decide
  refine va_copyi hx hb (by rw [hl.1]; exact hml) hown (hts _ hlk0) (hts _ ac_nat) (hts _ ac_sta) (hts _ ac_ini) (⟨hKK.1, fun k q h => by cases k with | zero => (cases h; exact hKK.2.1 _ _ _ _ hq0) | succ k => simp at h⟩ : va_K D vwCl [(tc 0, aty 0)] s) hP hA.2.D hS q0 q1 0 0 he0 he1 rfl rfl rfl p1 p2 p3 (by rw [t1, t3]; omega) (by rw [t2, t3]; omega) (fun i _ => rfl) hdd (by rw [cats]; have := Nat.le_of_ble_eq_true hcat; show _ ≤ 64 * d; omega) hd fun H1 locs1 h1 _ s1 => ?_
  rw [t1, t2, t3] at h1
  have e1 : (wl ad tc σ 0 LY).set q1 (ad q1, .inl (tc 0, n1, .inl (va_cpy (fun i => Int32.ofInt (gA σ q0 i)) (fun i => Int32.ofInt (gA σ q1 i)) sp.toNat dp.toNat n.toNat))) = wl ad tc (cpA σ q0 sp.toNat q1 dp.toNat n.toNat) 0 LY := by
    refine wl_set hq1 ?_ ?_
    · simp only [cellE, conts]
      congr 4
      funext i
      unfold va_cpy
      show (if dp.toNat ≤ i ∧ i < dp.toNat + n.toNat then _ else _) = Int32.ofInt (if q1 = q1 ∧ dp.toNat ≤ i ∧ i < dp.toNat + n.toNat then _ else _)
      by_cases h : dp.toNat ≤ i ∧ i < dp.toNat + n.toNat
      · rw [if_pos h, if_pos ⟨rfl, h⟩]; rfl
      · rw [if_neg h, if_neg (fun z => h z.2)]; rfl
    · intro m sh' hn hL
      have h1 : ∀ i', gA (cpA σ q0 sp.toNat q1 dp.toNat n.toNat) m i' = gA σ m i' := by
        intro i'
        simp [gA, cpA, hn]
      have hf : ∀ ks key, fvs ad (cpA σ q0 sp.toNat q1 dp.toNat n.toNat) key ks = fvs ad σ key ks := by
        intro ks
        induction ks with
        | nil => intro key; rfl
        | cons x r ih => intro key; rw [fvs, fvs, ih]; rfl
      match sh', hL with
      | .inl (ci', ks'), hL => simp only [cellE, hf]
      | .inr (n', t', b'), hL =>
        have h2 : conts ad (cpA σ q0 sp.toNat q1 dp.toNat n.toNat) m t' b' = conts ad σ m t' b' := by
          unfold conts
          simp only [h1]
        simp only [cellE, h2]
  rw [e1] at h1
  exact kk _ hK r0 σ0 ho ad hA H1 locs1 ls h1 s1 hl
def f_Rows_exchange (F : Nat) (σ : St) (x1 x2 : Int) : Option (Int × St) := gd (inb x1 46 ∧ inb x2 46) (some (0, (σ.1, fun a j => if a = 103 + x1.toNat then σ.2 (103 + x2.toNat) j else if a = 103 + x2.toNat then σ.2 (103 + x1.toNat) j else σ.2 a j)))
theorem c_Rows_exchange {x : Nat} (F : Nat) (σ : St) (x1 x2 : Int) : Ct 1 1 0 yX5_exchange cX5_exchange 4 none (LYC x 23 24) (LYC x 23 24) [.ref 85, vi x1, vi x2] σ (f_Rows_exchange F σ x1 x2) := sorry
end WAs
theorem bi_m2 : (Int8.ofInt (-2)).toInt32 = Int32.ofInt (-2) := by decide
theorem bi_6 : (Int8.ofInt (6)).toInt32 = Int32.ofInt (6) := by decide
theorem bi_7 : (Int8.ofInt (7)).toInt32 = Int32.ofInt (7) := by decide
theorem bi_8 : (Int8.ofInt (8)).toInt32 = Int32.ofInt (8) := by decide
theorem bi_10 : (Int8.ofInt (10)).toInt32 = Int32.ofInt (10) := by decide
theorem bi_11 : (Int8.ofInt (11)).toInt32 = Int32.ofInt (11) := by decide
theorem bi_12 : (Int8.ofInt (12)).toInt32 = Int32.ofInt (12) := by decide
theorem bi_16 : (Int8.ofInt (16)).toInt32 = Int32.ofInt (16) := by decide
theorem bi_20 : (Int8.ofInt (20)).toInt32 = Int32.ofInt (20) := by decide
theorem bi_24 : (Int8.ofInt (24)).toInt32 = Int32.ofInt (24) := by decide
theorem bi_26 : (Int8.ofInt (26)).toInt32 = Int32.ofInt (26) := by decide
theorem bi_28 : (Int8.ofInt (28)).toInt32 = Int32.ofInt (28) := by decide
theorem bi_32 : (Int8.ofInt (32)).toInt32 = Int32.ofInt (32) := by decide
theorem bi_45 : (Int8.ofInt (45)).toInt32 = Int32.ofInt (45) := by decide
theorem bi_46 : (Int8.ofInt (46)).toInt32 = Int32.ofInt (46) := by decide
theorem bi_48 : (Int8.ofInt (48)).toInt32 = Int32.ofInt (48) := by decide
theorem bi_50 : (Int8.ofInt (50)).toInt32 = Int32.ofInt (50) := by decide
theorem bi_57 : (Int8.ofInt (57)).toInt32 = Int32.ofInt (57) := by decide
theorem bi_58 : (Int8.ofInt (58)).toInt32 = Int32.ofInt (58) := by decide
theorem bi_59 : (Int8.ofInt (59)).toInt32 = Int32.ofInt (59) := by decide
theorem bi_60 : (Int8.ofInt (60)).toInt32 = Int32.ofInt (60) := by decide
theorem bi_63 : (Int8.ofInt (63)).toInt32 = Int32.ofInt (63) := by decide
theorem bi_82 : (Int8.ofInt (82)).toInt32 = Int32.ofInt (82) := by decide
theorem bi_97 : (Int8.ofInt (97)).toInt32 = Int32.ofInt (97) := by decide
theorem bi_99 : (Int8.ofInt (99)).toInt32 = Int32.ofInt (99) := by decide
theorem bi_122 : (Int8.ofInt (122)).toInt32 = Int32.ofInt (122) := by decide
theorem bi_127 : (Int8.ofInt (127)).toInt32 = Int32.ofInt (127) := by decide
theorem si_200 : (Int16.ofInt (200)).toInt32 = Int32.ofInt (200) := by decide
theorem si_255 : (Int16.ofInt (255)).toInt32 = Int32.ofInt (255) := by decide
theorem si_256 : (Int16.ofInt (256)).toInt32 = Int32.ofInt (256) := by decide
theorem si_900 : (Int16.ofInt (900)).toInt32 = Int32.ofInt (900) := by decide
theorem si_940 : (Int16.ofInt (940)).toInt32 = Int32.ofInt (940) := by decide
theorem si_999 : (Int16.ofInt (999)).toInt32 = Int32.ofInt (999) := by decide
theorem si_1001 : (Int16.ofInt (1001)).toInt32 = Int32.ofInt (1001) := by decide
theorem si_1023 : (Int16.ofInt (1023)).toInt32 = Int32.ofInt (1023) := by decide
theorem kc_X11_122 : Cond.constantLong RX11 122 (Int64.ofInt 110442557371507) ∈ lw_g := tg 1150 (by decide +kernel) rfl
theorem kc_X11_124 : Cond.constantLong RX11 124 (Int64.ofInt 1818848101) ∈ lw_g := tg 1151 (by decide +kernel) rfl
theorem kc_X11_118 : Cond.constantLong RX11 118 (Int64.ofInt 1734437230) ∈ lw_g := tg 1148 (by decide +kernel) rfl
theorem kc_X11_114 : Cond.constantLong RX11 114 (Int64.ofInt 30506450281915237) ∈ lw_g := tg 1146 (by decide +kernel) rfl
theorem kc_X11_116 : Cond.constantLong RX11 116 (Int64.ofInt 114784635872626) ∈ lw_g := tg 1147 (by decide +kernel) rfl
theorem kc_X11_120 : Cond.constantLong RX11 120 (Int64.ofInt 126879480964466) ∈ lw_g := tg 1149 (by decide +kernel) rfl
theorem kc_X11_126 : Cond.constantLong RX11 126 (Int64.ofInt 32497584235442030) ∈ lw_g := tg 1152 (by decide +kernel) rfl
theorem kc_X11_128 : Cond.constantLong RX11 128 (Int64.ofInt 27696016923389543) ∈ lw_g := tg 1153 (by decide +kernel) rfl
theorem kc_X11_297 : Cond.constantLong RX11 297 (Int64.ofInt (-1)) ∈ lw_g := tg 1517 (by decide +kernel) rfl
theorem kc_X11_424 : Cond.constant RX11 424 (Int32.ofInt 1000000) ∈ lw_g := tg 1734 (by decide +kernel) rfl
theorem kc_X10_203 : Cond.constantLong RX10 203 (Int64.ofInt (-1)) ∈ lw_g := tg 704 (by decide +kernel) rfl
theorem kc_J13_314 : Cond.constantLong RJ13 314 (Int64.ofInt 6148914691236517205) ∈ lw_g := tg 784 (by decide +kernel) rfl
theorem kc_J13_316 : Cond.constantLong RJ13 316 (Int64.ofInt 3689348814741910323) ∈ lw_g := tg 785 (by decide +kernel) rfl
theorem kc_J13_318 : Cond.constantLong RJ13 318 (Int64.ofInt 1085102592571150095) ∈ lw_g := tg 786 (by decide +kernel) rfl
theorem kc_J6_265 : Cond.constant RJ6 265 (Int32.ofInt 1431655765) ∈ lw_g := tg 835 (by decide +kernel) rfl
theorem kc_J6_266 : Cond.constant RJ6 266 (Int32.ofInt 858993459) ∈ lw_g := tg 836 (by decide +kernel) rfl
theorem kc_J6_267 : Cond.constant RJ6 267 (Int32.ofInt 252645135) ∈ lw_g := tg 837 (by decide +kernel) rfl
theorem kc_J6_264 : Cond.constant RJ6 264 (Int32.ofInt 65536) ∈ lw_g := tg 845 (by decide +kernel) rfl
theorem kc_X4_83 : Cond.constantLong RX4 83 (Int64.ofInt 30506450281915237) ∈ lw_g := tg 498 (by decide +kernel) rfl
theorem kc_X4_88 : Cond.constantLong RX4 88 (Int64.ofInt 114784635872626) ∈ lw_g := tg 507 (by decide +kernel) rfl
theorem kc_X4_93 : Cond.constantLong RX4 93 (Int64.ofInt 126879480964466) ∈ lw_g := tg 525 (by decide +kernel) rfl
theorem kc_X4_98 : Cond.constantLong RX4 98 (Int64.ofInt 32497584235442030) ∈ lw_g := tg 540 (by decide +kernel) rfl
theorem kc_X4_111 : Cond.constantLong RX4 111 (Int64.ofInt 27696016923389543) ∈ lw_g := tg 541 (by decide +kernel) rfl
theorem kc_X4_130 : Cond.constantLong RX4 130 (Int64.ofInt 1734437230) ∈ lw_g := tg 516 (by decide +kernel) rfl
theorem kc_X4_152 : Cond.constantLong RX4 152 (Int64.ofInt 110442557371507) ∈ lw_g := tg 538 (by decide +kernel) rfl
theorem kc_X4_154 : Cond.constantLong RX4 154 (Int64.ofInt 1818848101) ∈ lw_g := tg 539 (by decide +kernel) rfl
theorem kc_X2_47 : Cond.constant RX2 47 (Int32.ofInt 1000000) ∈ lw_g := tg 115 (by decide +kernel) rfl
