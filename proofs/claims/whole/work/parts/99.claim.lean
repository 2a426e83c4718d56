theorem lyC6 : ∀ (x : Bool) (j n t b : Nat), (LYC x false false)[j]? = some (Sum.inr (n, t, b)) → t < 6 := fun x j n t b h => by
  have h1 : (LYC1 x false false).all (fun e => match e with | .inr (_, t, _) => Nat.blt t 6 | .inl _ => true) = true := by cases x <;> decide +kernel
  have h2 : LYC2.all (fun e => match e with | .inr (_, t, _) => Nat.blt t 6 | .inl _ => true) = true := by decide +kernel
  have h3 : (LYC x false false).all (fun e => match e with | .inr (_, t, _) => Nat.blt t 6 | .inl _ => true) = true := by rw [LYC, List.all_append, h1, h2]; rfl
  exact Nat.le_of_ble_eq_true (List.all_eq_true.mp h3 _ (List.mem_of_getElem? h))
set_option maxRecDepth 100000 in
set_option maxHeartbeats 16000000 in
/-- YOUR PART: from the entry, for every script of at most 3072 ints, the law comes to its end with true ('hflags': the launch's flags, for a law that throws: no stack traces) -/
theorem whole_start {p : Program} {e : Env} {s : State} {m : MethodId} {below : List Frame} {meth : Method} {c : Code} (l : Launch) (hflags : l.flags = flags0) {b L : Nat} {xs : Nat → Int32} (hL : L ≤ 3072) (C0 : lw_At p s m meth c b L xs) : W p l e room_1 s m #[Value.ref b] below meth c s.heap [] 0 0 (lw_Z below #[Value.ref b] s) (entryFrame m ([Value.ref b] : List Value).toArray 8) := by
  obtain ⟨hx, hb, hr, hml, hown, hts, hX, hbl, hlocks, hgv⟩ := id C0
  have htg : ∀ w ∈ lw_g, w.before #[Value.ref b] s = true := fun w hw => hts w (List.mem_filter.mp hw).1
  obtain ⟨c0, i0, K0⟩ := u_known (C := RX0) (T := TX0) (N := 10) (n := 10) htg ingX0 (htg _ (tg 153 (by decide +kernel) rfl))
  obtain ⟨c1, i1, K1⟩ := u_known (C := RX1) (T := TX1) (N := 6) (n := 6) htg ingX1 (htg _ (tg 362 (by decide +kernel) rfl))
  obtain ⟨c2, i2, K2⟩ := u_known (C := RX2) (T := TX2) (N := 4) (n := 4) htg ingX2 (htg _ (tg 103 (by decide +kernel) rfl))
  obtain ⟨c3, i3, K3⟩ := u_known (C := RX3) (T := TX3) (N := 13) (n := 13) htg ingX3 (htg _ (tg 313 (by decide +kernel) rfl))
  obtain ⟨c4, i4, K4⟩ := u_known (C := RX4) (T := TX4) (N := 13) (n := 13) htg ingX4 (htg _ (tg 48 (by decide +kernel) rfl))
  obtain ⟨c5, i5, K5⟩ := u_known (C := RX5) (T := TX5) (N := 2) (n := 2) htg ingX5 (htg _ (tg 251 (by decide +kernel) rfl))
  obtain ⟨c6, i6, K6⟩ := u_known (C := RX6) (T := TX6) (N := 4) (n := 4) htg ingX6 (htg _ (tg 269 (by decide +kernel) rfl))
  obtain ⟨c7, i7, K7⟩ := u_known (C := RX7) (T := TX7) (N := 11) (n := 11) htg ingX7 (htg _ (tg 97 (by decide +kernel) rfl))
  obtain ⟨c8, i8, K8⟩ := u_known (C := RX8) (T := TX8) (N := 2) (n := 2) htg ingX8 (htg _ (tg 30 (by decide +kernel) rfl))
  obtain ⟨c9, i9, K9⟩ := u_known (C := RX9) (T := TX9) (N := 2) (n := 2) htg ingX9 (htg _ (tg 275 (by decide +kernel) rfl))
  obtain ⟨c10, i10, K10⟩ := u_known (C := RX10) (T := TX10) (N := 18) (n := 18) htg ingX10 (htg _ (tg 22 (by decide +kernel) rfl))
  obtain ⟨c11, i11, K11⟩ := u_known (C := RX11) (T := TX11) (N := 59) (n := 59) htg ingX11 (htg _ (tg 1135 (by decide +kernel) rfl))
  obtain ⟨dC, dI, hKc⟩ : ∃ (dC : Nat → ClassId) (dI : Nat → Nat → Nat), ∀ (k : Nat) (q : vw_C), vwCl[k]? = some q → u_Kn s q.1 q.2.1 q.2.2 (dC k) (dI k) := by
    refine ⟨fun k => match k with | 0 => c0 | 1 => c1 | 2 => c2 | 3 => c3 | 4 => c4 | 5 => c5 | 6 => c6 | 7 => c7 | 8 => c8 | 9 => c9 | 10 => c10 | _ => c11, fun k => match k with | 0 => i0 | 1 => i1 | 2 => i2 | 3 => i3 | 4 => i4 | 5 => i5 | 6 => i6 | 7 => i7 | 8 => i8 | 9 => i9 | 10 => i10 | _ => i11, ?_⟩
    intro k q hq
    match k, hq with
    | 0, hq => cases hq; exact K0
    | 1, hq => cases hq; exact K1
    | 2, hq => cases hq; exact K2
    | 3, hq => cases hq; exact K3
    | 4, hq => cases hq; exact K4
    | 5, hq => cases hq; exact K5
    | 6, hq => cases hq; exact K6
    | 7, hq => cases hq; exact K7
    | 8, hq => cases hq; exact K8
    | 9, hq => cases hq; exact K9
    | 10, hq => cases hq; exact K10
    | 11, hq => cases hq; exact K11
    | k + 12, hq => exact absurd hq (by rw [List.getElem?_eq_none (by show 12 ≤ k + 12; omega)]; exact fun h => by cases h)
  obtain ⟨tc, htc⟩ : ∃ tc : Nat → ClassId, ∀ t, t < 6 → s.vm.findClass ("[" ++ (aty t).toString) = some (tc t) := by
    obtain ⟨d0, _, _, f0, -, -⟩ := Cond.arrayClass_spec (type := .int) (htg (Cond.arrayClass .int) (tg 46 (by decide +kernel) rfl))
    obtain ⟨d1, _, _, f1, -, -⟩ := Cond.arrayClass_spec (type := .byte) (htg (Cond.arrayClass .byte) (tg 1347 (by decide +kernel) rfl))
    obtain ⟨d2, _, _, f2, -, -⟩ := Cond.arrayClass_spec (type := .boolean) (htg (Cond.arrayClass .boolean) (tg 267 (by decide +kernel) rfl))
    obtain ⟨d3, _, _, f3, -, -⟩ := Cond.arrayClass_spec (type := .long) (htg (Cond.arrayClass .long) (tg 95 (by decide +kernel) rfl))
    obtain ⟨_, d4, _, -, -, -, -, f4⟩ := Jvm.Stand.arrayOver_specB (hts (Cond.arrayOver (.array .int)) (tm 257 (by decide +kernel)))
    obtain ⟨_, d5, _, -, -, -, -, f5⟩ := Cond.arrayOver_spec (hts (Cond.arrayOver (.object "WaveRows$Scene")) (tm 249 (by decide +kernel)))
    refine ⟨fun t => match t with | 0 => d0 | 1 => d1 | 2 => d2 | 3 => d3 | 4 => d4 | _ => d5, fun t ht => ?_⟩
    match t, ht with
    | 0, _ => exact f0
    | 1, _ => exact f1
    | 2, _ => exact f2
    | 3, _ => exact f3
    | 4, _ => exact f4
    | 5, _ => exact f5
    | t + 6, ht => exact absurd ht (by omega)
  have hnest : ∀ q ∈ nestL, va_Nw (nestW q) s := by
    intro q hq
    simp only [nestL, List.mem_cons, List.not_mem_nil, or_false] at hq
    rcases hq with rfl | rfl | rfl | rfl | rfl | rfl | rfl | rfl | rfl | rfl | rfl | rfl | rfl | rfl | rfl | rfl | rfl | rfl | rfl
    · exact va_Nw.of (w := .methodLinkNest "WaveRows" 9 ⟨"WaveRows$Tape","<init>","()V"⟩ "WaveRows") rfl (hts _ (tm 31 (by decide +kernel)))
    · exact va_Nw.of (w := .methodLinkNest "WaveRows" 18 ⟨"WaveRows$Reader","<init>","()V"⟩ "WaveRows") rfl (hts _ (tm 49 (by decide +kernel)))
    · exact va_Nw.of (w := .methodLinkNest "WaveRows" 25 ⟨"WaveRows$Scene","<init>","()V"⟩ "WaveRows") rfl (hts _ (tm 98 (by decide +kernel)))
    · exact va_Nw.of (w := .methodLinkNest "WaveRows$Lattice" 37 ⟨"WaveRows","product","(III)I"⟩ "WaveRows") rfl (hts _ (tm 125 (by decide +kernel)))
    · exact va_Nw.of (w := .methodLinkNest "WaveRows$Scene" 20 ⟨"WaveRows$Compass","<init>","()V"⟩ "WaveRows") rfl (hts _ (tm 154 (by decide +kernel)))
    · exact va_Nw.of (w := .methodLinkNest "WaveRows" 43 ⟨"WaveRows$Rows","<init>","()V"⟩ "WaveRows") rfl (hts _ (tm 252 (by decide +kernel)))
    · exact va_Nw.of (w := .methodLinkNest "WaveRows" 50 ⟨"WaveRows$RuleFinder","<init>","()V"⟩ "WaveRows") rfl (hts _ (tm 270 (by decide +kernel)))
    · exact va_Nw.of (w := .methodLinkNest "WaveRows" 57 ⟨"WaveRows$Makers","<init>","()V"⟩ "WaveRows") rfl (hts _ (tm 314 (by decide +kernel)))
    · exact va_Nw.of (w := .methodLinkNest "WaveRows" 64 ⟨"WaveRows$Fixer","<init>","()V"⟩ "WaveRows") rfl (hts _ (tm 363 (by decide +kernel)))
    · exact va_Nw.of (w := .methodLinkNest "WaveRows$Scene" 83 ⟨"WaveRows","product","(III)I"⟩ "WaveRows") rfl (hts _ (tm 619 (by decide +kernel)))
    · exact va_Nw.of (w := .methodLinkNest "WaveRows$Rows" 28 ⟨"WaveRows","inverse","(II)I"⟩ "WaveRows") rfl (hts _ (tm 660 (by decide +kernel)))
    · exact va_Nw.of (w := .methodLinkNest "WaveRows$Rows" 61 ⟨"WaveRows","product","(III)I"⟩ "WaveRows") rfl (hts _ (tm 668 (by decide +kernel)))
    · exact va_Nw.of (w := .methodLinkNest "WaveRows$Rows" 64 ⟨"WaveRows","difference","(III)I"⟩ "WaveRows") rfl (hts _ (tm 673 (by decide +kernel)))
    · exact va_Nw.of (w := .methodLinkNest "WaveRows$RuleFinder" 73 ⟨"WaveRows","product","(III)I"⟩ "WaveRows") rfl (hts _ (tm 775 (by decide +kernel)))
    · exact va_Nw.of (w := .methodLinkNest "WaveRows$RuleFinder" 80 ⟨"WaveRows","difference","(III)I"⟩ "WaveRows") rfl (hts _ (tm 776 (by decide +kernel)))
    · exact va_Nw.of (w := .methodLinkNest "WaveRows$Scene" 114 ⟨"WaveRows","commonMeasure","(JJ)J"⟩ "WaveRows") rfl (hts _ (tm 846 (by decide +kernel)))
    · exact va_Nw.of (w := .methodLinkNest "WaveRows$Makers" 109 ⟨"WaveRows","product","(III)I"⟩ "WaveRows") rfl (hts _ (tm 905 (by decide +kernel)))
    · exact va_Nw.of (w := .methodLinkNest "WaveRows$Makers" 106 ⟨"WaveRows","inverse","(II)I"⟩ "WaveRows") rfl (hts _ (tm 913 (by decide +kernel)))
    · exact va_Nw.of (w := .methodLinkNest "WaveRows$Makers" 112 ⟨"WaveRows","difference","(III)I"⟩ "WaveRows") rfl (hts _ (tm 914 (by decide +kernel)))
  have hKC : KC tc (dC, dI) s := ⟨hKc, htc, hnest, va_AO.of (hts _ (tm 249 (by decide +kernel))), hts (Cond.arrayOver (.array .int)) (tm 257 (by decide +kernel))⟩
  have hf := flat_of_before _ hgv
  have hnA : ∀ a : Nat, a < s.heap.size → ¬ (s.heap.size ≤ a) := fun a h => Nat.not_le.mpr h
  have hTh : ThS (fun q => s.heap.size ≤ q) s := by
    refine ⟨vx_Zqof (hts (Cond.laysStatic Bundle.tN "UNASSIGNED_STACK" Bundle.steD) (tm 1074 (by decide +kernel))) (hts (Cond.initialized Bundle.tN) (tm 14 (by decide +kernel))) (hf _ (by decide +kernel)) hnA, vx_Zqof (hts (Cond.laysStatic Bundle.tN "SUPPRESSED_SENTINEL" Bundle.listD) (tm 1076 (by decide +kernel))) (hts (Cond.initialized Bundle.tN) (tm 14 (by decide +kernel))) (hf _ (by decide +kernel)) hnA, ?_⟩
    intro w hw
    simp only [thW, List.mem_cons, List.not_mem_nil, or_false] at hw
    rcases hw with rfl | rfl | rfl | rfl
    · exact va_Nw.of rfl (hts _ (tm 1049 (by decide +kernel)))
    · exact va_Nw.of rfl (hts _ (tm 1050 (by decide +kernel)))
    · exact va_Nw.of rfl (hts _ (tm 1052 (by decide +kernel)))
    · exact va_Nw.of rfl (hts _ (tm 1054 (by decide +kernel)))
  have hst : l.stackTraces = false := by
    show (!l.flags.contains noTraceFlag) = false
    rw [hflags]; decide +kernel
  have hl0 := lv_entry ([.ref b]) (n := 8) (Nat.le_of_ble_eq_true rfl)
  rw [lg_entry_eq]
  have hLR : LR id 8 [some (.ref b), none, none, none, none, none, none, none] ((lg_sl ([.ref b]) ++ List.replicate (8 - (lg_sl ([.ref b])).length) Slot.unset).toArray) := ⟨hl0.1, hl0.2.1, fun i v hv => by
    match i, hv with
    | 0, hv => cases hv; exact hl0.2.2 (0, .ref b) List.mem_cons_self
    | 1, hv => cases hv
    | 2, hv => cases hv
    | 3, hv => cases hv
    | 4, hv => cases hv
    | 5, hv => cases hv
    | 6, hv => cases hv
    | 7, hv => cases hv
    | i + 8, hv => cases hv⟩
  have hP0 : va_P (dC, dI) vwCl [] s.heap := fun k q h => by simp at h
  have hD0 : va_D (cA0 s.heap.size s.heap.size) [] := ⟨fun i j p q h => by simp at h, fun k q h => by simp at h⟩
  refine (law_entry (b := b) (K := ((p, l, e, s, m, #[Value.ref b]), (below, meth, c), (id, tc, (dC, dI)))) ?_) ⟨rfl, hx, hb, hml, hown, htg, hKC⟩ s.heap [] _ hP0 hD0 va_S.rf hLR
  intro q1 q2 q3 u1 u2 hu1 hu2 _ H locs ls hP hD hS hl
  obtain ⟨ad1, ws1, e1, hs1, hp1⟩ := startW hu1
  obtain ⟨ad2, σ, e2, hσ, rfl⟩ := hu2
  have hsame := SameL.app (SameL.app hs1 (SameL.rf (a := wl ad2 tc σ 0 LYM))) (SameL.rf (a := ([(q3, outE tc fun _ => 0)] : va_W)))
  have hP1 := hsame.P hP
  have hD1 := hsame.D hD
  have hperm : (wl ad1 tc (σW latS) 0 (LYC false false false) ++ (wl ad2 tc σ 0 LYM ++ ([(q3, outE tc fun _ => 0)] : va_W))).Perm ((ws1 ++ wl ad2 tc σ 0 LYM) ++ ([(q3, outE tc fun _ => 0)] : va_W)) := by
    rw [List.append_assoc]
    exact hp1.append_right _
  have hP2 := va_P_perm hperm hP1
  have hD2 := va_D_perm hperm.symm hD1
  have hA : cA0 s.heap.size s.heap.size = fun q => s.heap.size ≤ q := funext fun q => propext ⟨fun h => by rcases h with h | h; exact Nat.le_of_eq h.symm; exact h, fun h => Or.inr h⟩
  rw [hA] at hD2 hS
  obtain ⟨F, hF⟩ : ∃ F, 300000 ≤ F := ⟨300000, Nat.le_refl _⟩
  have hfin := law_loop (N := L) (xs := xs) (K := ((p, l, e, s, m), (below, meth, c), (fun k => match k with | 0 => b | 1 => q1 | 2 => q2 | _ => q3, tc, (dC, dI)), b)) hL (step_ok hF) 240 18539 (by decide) (by decide) 513 0 false (σW latS) σ (fun _ => 0) (RR_start latS_f hσ) (by decide) (by omega)
  refine hfin ⟨hx, hb, hml, hown, htg, hlocks, hr, fun x => KC.KK htg hKC (lyC6 x), KC.KK htg hKC lyM6, hX, hbl, rfl, hL, hst, hTh⟩ H locs ls ⟨ad1, ad2, e1, e2, hP2, hD2⟩ hS ⟨hl.1, hl.2.1, fun i v hv => ?_⟩
  match i, hv with
  | 0, hv => cases hv; exact hl.2.2 0 (.ref b) rfl
  | 1, hv => cases hv; exact hl.2.2 1 (.ref q1) rfl
  | 2, hv => cases hv; exact hl.2.2 2 (.ref q2) rfl
  | 3, hv => cases hv; exact hl.2.2 3 (.ref q3) rfl
  | 4, hv => cases hv; exact hl.2.2 4 (vi 0) rfl
  | 5, hv => cases hv
  | 6, hv => cases hv
  | 7, hv => cases hv
  | i + 8, hv => cases hv
set_option maxHeartbeats 4000000 in
theorem lw_walk (l : Launch) (hflags : l.flags = flags0) (b : Addr) (xs : List Int32) : MetFree l x (headSpec (Jvm.Cond.code x code maxLocals ret :: tables_1) room_1) (lw_P b xs) (fun _ _ _ _ _ => True) lw_Q := by
  refine MetFree.of_bodyS (code := code) (maxLocals := maxLocals) (ret := ret) (by decide) ?_ ?_
  · intro args s m h hn
    obtain ⟨meth, c, h1, h2, h3, h4, h5, h6, -, -⟩ := Cond.code_spec hn (atoms_spec (ws := Jvm.Cond.code x code maxLocals ret :: tables_1) h _ List.mem_cons_self)
    exact ⟨meth, c, h1, h2, h3, h4, h5, h6⟩
  · intro p e s m args below meth c s₁ B hml0 hP _
    obtain ⟨rfl, hx, hbd, hgv⟩ := hP
    obtain ⟨scr, harrAt, hlist, hof, hsmall⟩ := hx
    obtain ⟨hcb, hkn, -, -⟩ := State.arrayAt?_spec harrAt
    have hown : s.vm.findClass R_law = some m.cls := findClass_of_methodNamed B.named
    have hts0 : ∀ c ∈ (Jvm.Cond.code x code maxLocals ret :: tables_1), c.before #[Value.ref b] s = true := atoms_spec (ws := Jvm.Cond.code x code maxLocals ret :: tables_1) B.pre
    have hts : ∀ w ∈ lw_tbl, w.before #[Value.ref b] s = true := k2_hts_sels lw_privs (fun w hw => hts0 w (List.mem_cons_of_mem _ hw)) lw_privs_ok
    have hml : c.maxLocals = 8 := B.maxLocals_eq (hts0 _ List.mem_cons_self)
    have X₀ : Stand p l e room_1 s m #[Value.ref b] below meth c s₁ [] 0 0 := Stand.of_body B
    have hh0 : s₁.heap = s.heap := by rw [B.state]; rfl
    have hsz : scr.slots.size = xs.length := by rw [← Array.length_toList, hlist, List.length_map]
    have hval : ∀ j : Nat, j < xs.length → scr.slots[j]? = some (.int (xs.getD j 0)) := fun j hj => by
      rw [← Array.getElem?_toList, hlist]
      simp [hj]
    have hbl : b < s.heap.size := (Array.getElem?_eq_some_iff.mp hcb).1
    have hX : va_X b xs.length (fun j => xs.getD j 0) s s.heap := ⟨scr, hcb, hof, hkn, hsz, hval⟩
    have K : W p l e room_1 s m #[Value.ref b] below meth c s₁.heap [] 0 0 (lw_Z below #[Value.ref b] s) (entryFrame m ([Value.ref b] : List Value).toArray 8) := by
      rw [hh0]
      exact whole_start l hflags hbd ⟨B.exec, B.bytes, B.returns, hml, hown, hts, hX, hbl, B.notSynchronized, hgv⟩
    obtain ⟨t, a1, o, b1, b2, b3⟩ := K s₁ rfl X₀
    exact ⟨t, o, a1, b1, b2, b3⟩
theorem lw_pre_spec {args : Array Value} {s : State} (h : (Jvm.Cond.and given_1 narrow_1).before args s = true) (hr : rest_1_c.before args s = true) : ∃ (b : Addr) (xs : List Int32), lw_P b xs args s := by
  have hs := flat_of_before _ h
  have hq := flat_of_before _ hr
  have hc : (Cond.count 1).before args s = true := hs _ (by decide +kernel)
  have harr : (Cond.arrayOf (.arg 0) .int).before args s = true := hs _ (by decide +kernel)
  have hle : (Cond.le (.length (.arg 0)) (.int 3072)).before args s = true := hs _ (by decide +kernel)
  have hlen : (Cond.isInt (.length (.arg 0))).before args s = true := hq _ (by decide +kernel)
  have hall : (Cond.all (.arg 0) (.isInt (.elem (.arg 0) (.index 0)))).before args s = true := hq _ (by decide +kernel)
  obtain ⟨b, xs, hb, hx⟩ := State.ints_of_pre rfl harr hlen hall
  have hsm : xs.length < 2 ^ 31 := hx.choose_spec.2.2.2
  have hev : (Term.length (.arg 0)).eval args s none [] s = some (.int xs.length.toInt32) := hx.length_eval hb
  have hv := Cond.le_ints hev (show (Term.int 3072).eval args s none [] s = some (.int 3072) from rfl)
  have hd : xs.length.toInt32 ≤ 3072 := by
    simpa [Cond.before, Cond.holds, hv] using hle
  have hN : xs.length ≤ 3072 := (Int32.ofNat_le_ofNat hsm (by decide)).mp (show Int32.ofNat xs.length ≤ Int32.ofNat 3072 from hd)
  exact ⟨b, xs, Cond.one_arg hc (show args[0]? = some (.ref b) from hb), hx, hN, h⟩
theorem lw_comes (l : Launch) (hflags : l.flags = flags0) : Comes l x (Jvm.Cond.code x code maxLocals ret :: tables_1) room_1 (fun tb e args s => Calls_1 tb e args s ∧ rest_1 tb e args s ∧ Pre_1 tb e args s)
    (fun _ _ args s o t => lw_Q args s o t) := by
  intro p e ha hc hk s m args below hf hfit hheap happ hpre
  obtain ⟨b, xs, hP⟩ := lw_pre_spec hpre.2.2 hpre.2.1
  obtain ⟨k, o, h1, h2, h3, hQ⟩ := lw_walk l hflags b xs p e ha hc hk s m args below hf ((Spec.applies_iff_loose hf).mp happ).1 hP trivial
  exact ⟨k, o, h1, h2, h3, hQ⟩
theorem lw_frame {s t : State} {o : Outcome} {args : Array Value} (h : Framed s o t [] 601024 7293034) :
    Framed s o t (fieldLocs frame_1_writes args s ++ arrayLocs frame_1_arrays args s ++ staticLocs frame_1_statics s) 601024 7293034 := h
theorem lw_limb (L : Cond) (hL : ∀ (args : Array Value) (s t : State), L.after args s (.returned (some (.int 1))) t = true) :
    ArmFor flags0 classFile x code maxLocals ret World_1 tables_1 room_1 Calls_1 rest_1 Pre_1
      (fun tb e a s o t => postC L tb e a s o t ∧ Framed s o t (fieldLocs frame_1_writes a s ++ arrayLocs frame_1_arrays a s ++ staticLocs frame_1_statics s) 601024 7293034) := by
  intro l hflags _ _ p e ha hc hk s m args below hf hfit hheap happ hpre
  obtain ⟨k, o, h1, h2, h3, rfl, hF⟩ := lw_comes l hflags p e ha hc hk s m args below hf hfit hheap happ hpre
  exact ⟨k, _, h1, h2, h3, hL args s _, lw_frame hF⟩
theorem i_vc : Claimed_1_1 ∧ Claimed_1_2 := ⟨lw_limb limb_1_1 (fun args s t => by simp [limb_1_1, Cond.after, Cond.holds, Cond.value]), lw_limb limb_1_2 (fun args s t => Cond.after_iff.mpr (by
  first | (rw [show limb_1_2 = Cond.eq .result (.int 1) from rfl, Cond.eq_ints (x := 1) (y := 1) rfl rfl]; simp; done) | (simp [limb_1_2, Cond.value, Term.eval]; done)))⟩
