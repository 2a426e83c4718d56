section WAs
variable {d kp kd : Nat} {cc : ByteArray} {own : String} {nL : Nat} {ret : Option FieldType} {LY LYe : List Sh} {K : KX} {pc : Nat} {L : List (Option Value)} {st : List Value} {σ : St} {o : Option (Int × St)}
theorem a_zretc {r : Int} (h : isb r) (hd : decode cc pc = .ok (.ireturn, 1)) : WA d kp 1 cc own nL (some .boolean) LY LY K pc L [vi r] σ (some (r, σ)) := by
  have h1 := a_zret (d := d) (kp := kp) (own := own) (nL := nL) (LY := LY) (K := K) (L := L) (σ := σ) (r := r) hd
  rw [gd_t h] at h1
  exact h1
theorem a_tsw_in {dflt lo hi c off : Int} {offs : Array Int} {len tgt : Nat} {x : Int} {o1 o2 : Option (Int × St)} (hd : decode cc pc = .ok (.tableswitch dflt lo hi offs, len)) (hr : rng c) (h1 : ¬ c < lo) (h2 : ¬ hi < c) (hof : offs[(c - lo).toNat]? = some off) (ht : (pc : Int) + off = (tgt : Int)) (k1 : WA d kp kd cc own nL ret LY LYe K tgt L st σ o1) (k2 : ¬ x = c → WA d kp kd cc own nL ret LY LYe K pc L (vi x :: st) σ o2) : WA d kp kd cc own nL ret LY LYe K pc L (vi x :: st) σ (if x = c then o1 else o2) := by
  refine a_if (fun h => ?_) k2
  subst h
  intro hK r0 σ0 ho
  obtain ⟨⟨p, l, e, s, m, args⟩, ⟨below, meth, c⟩, ⟨ad0, tc, D⟩⟩ := K
  obtain ⟨hx, hb, hml, hown, hts, hlk, hret, hKK, hok⟩ := id hK
  intro ad hA H locs ls hP hS hl
  have kk := k1 hK r0 σ0 ho ad hA H locs ls hP hS hl
  exact lv_tableIn hx hb hd (by rw [wi hr]; exact h1) (by rw [wi hr]; exact h2) (by rw [wi hr]; exact hof) ht kk
theorem a_tsw_out {dflt lo hi : Int} {offs : Array Int} {len tgt : Nat} {x : Int} (hd : decode cc pc = .ok (.tableswitch dflt lo hi offs, len)) (hr : rng x) (h : x < lo ∨ hi < x) (ht : (pc : Int) + dflt = (tgt : Int)) (kk : WA d kp kd cc own nL ret LY LYe K tgt L st σ o) : WA d kp kd cc own nL ret LY LYe K pc L (vi x :: st) σ o := by
  intro hK r0 σ0 ho
  obtain ⟨⟨p, l, e, s, m, args⟩, ⟨below, meth, c⟩, ⟨ad0, tc, D⟩⟩ := K
  obtain ⟨hx, hb, hml, hown, hts, hlk, hret, hKK, hok⟩ := id hK
  intro ad hA H locs ls hP hS hl
  have kk := kk hK r0 σ0 ho ad hA H locs ls hP hS hl
  exact lv_tableOut hx hb hd (by rw [wi hr]; exact h) ht kk
end WAs
theorem bi_m2 : (Int8.ofInt (-2)).toInt32 = Int32.ofInt (-2) := by decide
theorem bi_6 : (Int8.ofInt (6)).toInt32 = Int32.ofInt (6) := by decide
theorem bi_7 : (Int8.ofInt (7)).toInt32 = Int32.ofInt (7) := by decide
theorem bi_8 : (Int8.ofInt (8)).toInt32 = Int32.ofInt (8) := by decide
theorem bi_10 : (Int8.ofInt (10)).toInt32 = Int32.ofInt (10) := by decide
theorem bi_12 : (Int8.ofInt (12)).toInt32 = Int32.ofInt (12) := by decide
theorem bi_16 : (Int8.ofInt (16)).toInt32 = Int32.ofInt (16) := by decide
theorem bi_20 : (Int8.ofInt (20)).toInt32 = Int32.ofInt (20) := by decide
theorem bi_24 : (Int8.ofInt (24)).toInt32 = Int32.ofInt (24) := by decide
theorem bi_26 : (Int8.ofInt (26)).toInt32 = Int32.ofInt (26) := by decide
theorem bi_32 : (Int8.ofInt (32)).toInt32 = Int32.ofInt (32) := by decide
theorem bi_45 : (Int8.ofInt (45)).toInt32 = Int32.ofInt (45) := by decide
theorem bi_48 : (Int8.ofInt (48)).toInt32 = Int32.ofInt (48) := by decide
theorem bi_50 : (Int8.ofInt (50)).toInt32 = Int32.ofInt (50) := by decide
theorem bi_57 : (Int8.ofInt (57)).toInt32 = Int32.ofInt (57) := by decide
theorem bi_58 : (Int8.ofInt (58)).toInt32 = Int32.ofInt (58) := by decide
theorem bi_59 : (Int8.ofInt (59)).toInt32 = Int32.ofInt (59) := by decide
theorem bi_60 : (Int8.ofInt (60)).toInt32 = Int32.ofInt (60) := by decide
theorem bi_82 : (Int8.ofInt (82)).toInt32 = Int32.ofInt (82) := by decide
theorem bi_97 : (Int8.ofInt (97)).toInt32 = Int32.ofInt (97) := by decide
theorem bi_99 : (Int8.ofInt (99)).toInt32 = Int32.ofInt (99) := by decide
theorem bi_122 : (Int8.ofInt (122)).toInt32 = Int32.ofInt (122) := by decide
theorem si_255 : (Int16.ofInt (255)).toInt32 = Int32.ofInt (255) := by decide
theorem si_256 : (Int16.ofInt (256)).toInt32 = Int32.ofInt (256) := by decide
theorem si_900 : (Int16.ofInt (900)).toInt32 = Int32.ofInt (900) := by decide
theorem si_940 : (Int16.ofInt (940)).toInt32 = Int32.ofInt (940) := by decide
theorem si_999 : (Int16.ofInt (999)).toInt32 = Int32.ofInt (999) := by decide
theorem si_1001 : (Int16.ofInt (1001)).toInt32 = Int32.ofInt (1001) := by decide
theorem si_1023 : (Int16.ofInt (1023)).toInt32 = Int32.ofInt (1023) := by decide
theorem kc_X11_122 : Cond.constantLong RX11 122 (Int64.ofInt 110442557371507) ∈ lw_g := tg 1150 (by decide +kernel) rfl
theorem kc_X11_124 : Cond.constantLong RX11 124 (Int64.ofInt 1818848101) ∈ lw_g := tg 1151 (by decide +kernel) rfl
theorem kc_X11_118 : Cond.constantLong RX11 118 (Int64.ofInt 1734437230) ∈ lw_g := tg 1148 (by decide +kernel) rfl
theorem kc_X11_114 : Cond.constantLong RX11 114 (Int64.ofInt 30506450281915237) ∈ lw_g := tg 1146 (by decide +kernel) rfl
theorem kc_X11_116 : Cond.constantLong RX11 116 (Int64.ofInt 114784635872626) ∈ lw_g := tg 1147 (by decide +kernel) rfl
theorem kc_X11_120 : Cond.constantLong RX11 120 (Int64.ofInt 126879480964466) ∈ lw_g := tg 1149 (by decide +kernel) rfl
theorem kc_X11_126 : Cond.constantLong RX11 126 (Int64.ofInt 32497584235442030) ∈ lw_g := tg 1152 (by decide +kernel) rfl
theorem kc_X11_128 : Cond.constantLong RX11 128 (Int64.ofInt 27696016923389543) ∈ lw_g := tg 1153 (by decide +kernel) rfl
theorem kc_X11_297 : Cond.constantLong RX11 297 (Int64.ofInt (-1)) ∈ lw_g := tg 1517 (by decide +kernel) rfl
theorem kc_X11_424 : Cond.constant RX11 424 (Int32.ofInt 1000000) ∈ lw_g := tg 1734 (by decide +kernel) rfl
