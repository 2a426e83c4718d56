/-! CONSTRUCTORS: arrays of references -/
theorem hb_int : ∀ k : Nat, k < 100000 → (Int32.ofInt (k : Int)).toNatClampNeg = k ∧ ¬ (Int32.ofInt (k : Int)) < 0 := fun k hk => by
  have hr : rng (k : Int) := ⟨by omega, by omega⟩
  exact ⟨by show (Int32.ofInt (k : Int)).toInt.toNat = k; rw [wi hr]; rfl, fun z => by have := (w_lt (y := 0) ⟨hr, by decide⟩).mp z; omega⟩
/-- the rows of a grid made at q0 -/
def rowsW (q0 N : Nat) (e : va_E) : va_W := (List.range N).map fun i => (q0 + 1 + i, e)
theorem rowsW_get {q0 N k : Nat} {e : va_E} {x : Nat × va_E} (h : (rowsW q0 N e)[k]? = some x) : k < N ∧ x = (q0 + 1 + k, e) := by
  unfold rowsW at h
  rw [List.getElem?_map] at h
  by_cases hk : k < N
  · rw [List.getElem?_range hk] at h
    exact ⟨hk, (Option.some.inj h).symm⟩
  · rw [List.getElem?_eq_none (by rw [List.length_range]; omega)] at h
    cases h
def gridC (q0 N : Nat) : Nat → Option Nat := fun i => if i < N then some (q0 + 1 + i) else none
theorem grid_outer (cA : ClassId) (N q0 : Nat) : ∀ i : Nat, Jvm.Free.Multi.outerC cA N q0 i = arrV cA N (fun j => va_rf (gridC q0 i j))
  | 0 => (arrV_new cA N .null).trans (congrArg (arrV cA N) (funext fun j => by simp [gridC, va_rf]))
  | i + 1 => by
    show (Jvm.Free.Multi.outerC cA N q0 i).setSlot i (.ref (q0 + 1 + i)) = _
    rw [grid_outer cA N q0 i, arrV_store]
    refine congrArg (arrV cA N) (funext fun j => ?_)
    rcases Nat.lt_trichotomy j i with h | h | h
    · simp [updV, gridC, Nat.ne_of_lt h, h, Nat.lt_succ_of_lt h]
    · subst h; simp [updV, gridC, va_rf]
    · simp [updV, gridC, Nat.ne_of_gt h, show ¬ j < i by omega, show ¬ j < i + 1 by omega]
section WCarr
variable {d mc ms : Nat} {cc : ByteArray} {own : String} {nL h0 : Nat} {K : KX} {B : (Nat → ClassId) → va_W → Prop} {pc : Nat} {L : List (Option Value)} {st : List Value} {ws : va_W} {cu su : Nat}
theorem c_mna {idx n k : Nat} (hcl : Cond.classLink own idx "[[I" ∈ lw_g) (harr : Cond.arrayClass .int ∈ lw_g) (hn : Nat.blt n 100000 = true) (hk : Nat.blt k 100000 = true) (hcu : Nat.ble (cu + 1 + n) mc = true) (hsu : Nat.ble (su + n + n * k) ms = true) (hd : decode cc pc = .ok (.multianewarray idx 2, 4)) (kk : ∀ q, WC d mc ms cc own nL h0 K B (pc + 4) L (.ref q :: st) (ws ++ ([(q, .inl (K.2.2.2.1 4, (n, .inr (.inr (.inr (.inr (gridC q n)))))))] ++ rowsW q n (.inl (K.2.2.2.1 0, (k, .inl fun _ => 0))))) (cu + 1 + n) (su + n + n * k)) : WC d mc ms cc own nL h0 K B pc L (vi k :: vi n :: st) ws cu su := by
  intro hK
  obtain ⟨⟨p, l, e, s, m, args⟩, ⟨below, meth, c⟩, ⟨ad0, tc, D⟩⟩ := K
  obtain ⟨hx, hb, hml, hown, hts, hlk, hret, hinit, hKC⟩ := id hK
  intro H locs ls hP hD hS hl
  have hn2 := Nat.le_of_ble_eq_true hn
  have hk2 := Nat.le_of_ble_eq_true hk
  have hcu2 := Nat.le_of_ble_eq_true hcu
  have hsu2 := Nat.le_of_ble_eq_true hsu
  obtain ⟨en, hn0⟩ := hb_int n (by omega)
  obtain ⟨ek, hk0⟩ := hb_int k (by omega)
  intro T hT Xs
  have hover : (Cond.arrayOver (.array .int)).before args s = true := Jvm.Stand.arrayOver_alikeB (Vm.Alike.refl s.vm) hKC.2.2.2.2
  obtain ⟨vm₁, cA, comp, -, fA, fC, hO, -, X', step⟩ := Xs.multianewarray2F (n := Int32.ofInt (n : Int)) (k := Int32.ofInt (k : Int)) (rest := st) (ty := .int) hx hown (hts _ hcl) hover (hts _ harr) (g := F0 m pc ls (vi k :: vi n :: st)) rfl (by rw [hb]; exact hd) rfl hn0 hk0 (by rw [en]; omega) (by rw [ek]; show k * 4 ≤ _; omega) (by rw [ek]; omega) rfl rfl (by rw [en]; show cu + (1 + n) ≤ mc; omega) (by rw [en, ek]; show su + (n + n * k) ≤ ms; omega)
  rw [en, ek] at X' step
  have eA : tc 4 = cA := Option.some.inj ((hKC.2.1 4 (by omega)).symm.trans fA)
  have eC : tc 0 = comp := Option.some.inj ((hKC.2.1 0 (by omega)).symm.trans fC)
  subst eA
  subst eC
  have hTh : (T.setVm vm₁).heap = H := hT
  generalize hF : Jvm.Free.Multi.fill (T.setVm vm₁) (tc 4) (tc 0) n k (defaultValue .int) n = F at X' step
  obtain ⟨f1, f2, -, -⟩ := Jvm.Free.Multi.fill_facts (T.setVm vm₁) (tc 4) (tc 0) n k (defaultValue .int) n
  rw [hF, hTh] at f1 f2
  have hold : ∀ x : Nat, x < H.size → F.heap[x]? = H[x]? := fun x hx => by
    have := Jvm.Free.Multi.fill_old (T.setVm vm₁) (tc 4) (tc 0) n k (defaultValue .int) (a := x) (by rw [hTh]; exact hx) n
    rw [hF, hTh] at this
    exact this
  have hrow : ∀ j : Nat, j < n → F.heap[H.size + 1 + j]? = some (vp_cell (tc 0) (k, .inl fun _ => 0)) := fun j hj => by
    have := Jvm.Free.Multi.fill_inner (T.setVm vm₁) (tc 4) (tc 0) n k (defaultValue .int) n j hj
    rw [hF, hTh] at this
    rw [this]
    exact congrArg some (arrV_new (tc 0) k (.int 0))
  rw [grid_outer] at f2
  have hgt : H.size < F.heap.size := by rw [f1]; omega
  have hP2 : va_P D vwCl (ws ++ ([(H.size, .inl (tc 4, (n, .inr (.inr (.inr (.inr (gridC H.size n)))))))] ++ rowsW H.size n (.inl (tc 0, (k, .inl fun _ => 0))))) F.heap := by
    rw [va_P_app, va_P_app]
    refine ⟨hP.kept fun j x hx => hold x.1 (hP j x hx).lt, fun j x hx => ?_, fun j x hx => ?_⟩
    · rcases j with _ | j
      · simp at hx; subst hx; exact f2
      · simp at hx
    · obtain ⟨hj, rfl⟩ := rowsW_get hx
      exact hrow j hj
  have hD2 : va_D (cA0 h0 s.heap.size) (ws ++ ([(H.size, .inl (tc 4, (n, .inr (.inr (.inr (.inr (gridC H.size n)))))))] ++ rowsW H.size n (.inl (tc 0, (k, .inl fun _ => 0))))) := by
    rw [va_D_app, va_D_app]
    have hz := hS.1
    refine ⟨hD, ⟨⟨fun i j x y hi hj _ => ?_, fun j x hx => ?_⟩, ⟨fun i j x y hi hj hxy => ?_, fun j x hx => ?_⟩, fun x hx y hy hxy => ?_⟩, fun x hx y hy hxy => ?_⟩
    · rcases i with _ | i
      · rcases j with _ | j
        · rfl
        · simp at hj
      · simp at hi
    · rcases j with _ | j
      · simp at hx; subst hx; exact Or.inr hz
      · simp at hx
    · obtain ⟨-, rfl⟩ := rowsW_get hi
      obtain ⟨-, rfl⟩ := rowsW_get hj
      have h9 : H.size + 1 + i = H.size + 1 + j := hxy
      omega
    · obtain ⟨-, rfl⟩ := rowsW_get hx
      exact Or.inr (by show s.heap.size ≤ H.size + 1 + j; omega)
    · simp at hx; subst hx
      obtain ⟨j, hj⟩ := List.mem_iff_getElem?.mp hy
      obtain ⟨-, rfl⟩ := rowsW_get hj
      have h9 : H.size = H.size + 1 + j := hxy
      omega
    · obtain ⟨i, hi⟩ := List.mem_iff_getElem?.mp hx
      have h8 := (hP i x hi).lt
      rcases List.mem_append.mp hy with hy | hy
      · simp at hy; subst hy
        have h9 : x.1 = H.size := hxy
        omega
      · obtain ⟨j, hj⟩ := List.mem_iff_getElem?.mp hy
        obtain ⟨-, rfl⟩ := rowsW_get hj
        have h9 : x.1 = H.size + 1 + j := hxy
        omega
  obtain ⟨t, a1, b1⟩ := kk H.size hK F.heap locs ls hP2 hD2 ⟨by have := hS.1; omega, fun x h1 h2 => (hold x (Nat.lt_of_lt_of_le h1 hS.1)).trans (hS.2.1 x h1 h2), hS.2.2⟩ hl F rfl X'
  refine ⟨t, step t ?_, b1⟩
  have e : T.heap.size = H.size := by rw [hT]
  rw [e]
  exact a1
theorem c_newq {idx n : Nat} (hcl : Cond.classLink own idx "WaveRows$Scene" ∈ lw_g) (hn : Nat.blt n 100000 = true) (hcu : Nat.ble (cu + 1) mc = true) (hsu : Nat.ble (su + n) ms = true) (hd : decode cc pc = .ok (.anewarray idx, 3)) (kk : ∀ q, WC d mc ms cc own nL h0 K B (pc + 3) L (.ref q :: st) (ws ++ [(q, .inl (K.2.2.2.1 5, (n, .inr (.inr (.inr (.inr fun _ => none))))))]) (cu + 1) (su + n)) : WC d mc ms cc own nL h0 K B pc L (vi n :: st) ws cu su := by
  intro hK
  obtain ⟨⟨p, l, e, s, m, args⟩, ⟨below, meth, c⟩, ⟨ad0, tc, D⟩⟩ := K
  obtain ⟨hx, hb, hml, hown, hts, hlk, hret, hinit, hKC⟩ := id hK
  intro H locs ls hP hD hS hl
  have hn2 := Nat.le_of_ble_eq_true hn
  obtain ⟨en, hn0⟩ := hb_int n (by omega)
  refine va_newq (n := Int32.ofInt (n : Int)) (N' := n) hx hb hown (hts _ hcl) (va_AO.of hKC.2.2.2.1) (⟨hKC.1, fun k q h => by simp at h⟩ : va_K D vwCl [] s) hP hD hS (fun q hq => Or.inr hq) hn0 en (by omega) (Nat.le_of_ble_eq_true hcu) (Nat.le_of_ble_eq_true hsu) hd (fun q cA H1 hK1 hP1 hD1 hS1 => ?_)
  have hra : va_RA s cA (.object "WaveRows$Scene") := (hK1.2 0 (cA, .object "WaveRows$Scene") rfl).2
  obtain ⟨kA, comp, -, -, -, h2⟩ := hra
  have eA : tc 5 = cA := Option.some.inj ((hKC.2.1 5 (by omega)).symm.trans h2)
  subst eA
  exact kk q hK H1 locs ls hP1 hD1 hS1 hl
theorem KC.scenes {tc : Nat → ClassId} {D : va_G} {U : State} (h : KC tc D U) : va_K D vwCl [(tc 5, .object "WaveRows$Scene")] U := by
  obtain ⟨comp, c, k, h1, h2, h3, h4, h5⟩ := Cond.arrayOver_spec h.2.2.2.1
  have e : tc 5 = c := Option.some.inj ((h.2.1 5 (by omega)).symm.trans h5)
  subst e
  refine ⟨h.1, fun j x hx => ?_⟩
  rcases j with _ | j
  · simp at hx; subst hx
    exact ⟨fun N z => ⟨(fun _ q => by cases q), k, h3, comp, h4⟩, ⟨k, comp, h3, h4, h1, h5⟩⟩
  · simp at hx
theorem c_astq {q0 qk a v n i : Nat} {vs : List Value} {f : Nat → Option Nat} (ha : ws[q0]? = some (a, .inl (K.2.2.2.1 5, (n, .inr (.inr (.inr (.inr f))))))) (hv : ws[qk]? = some (v, .inr (7, vs))) (hi : Nat.blt i n = true) (hn : Nat.blt n 100000 = true) (hd : decode cc pc = .ok (.aastore, 1)) (kk : WC d mc ms cc own nL h0 K B (pc + 1) L st (ws.set q0 (a, .inl (K.2.2.2.1 5, (n, .inr (.inr (.inr (.inr (va_up f i (some v)))))))) ) cu su) : WC d mc ms cc own nL h0 K B pc L (.ref v :: vi i :: .ref a :: st) ws cu su := by
  intro hK
  obtain ⟨⟨p, l, e, s, m, args⟩, ⟨below, meth, c⟩, ⟨ad0, tc, D⟩⟩ := K
  obtain ⟨hx, hb, hml, hown, hts, hlk, hret, hinit, hKC⟩ := id hK
  intro H locs ls hP hD hS hl
  have hn2 := Nat.le_of_ble_eq_true hn
  have hi2 := Nat.le_of_ble_eq_true hi
  obtain ⟨ei, hi0⟩ := hb_int i (by omega)
  refine va_astq hx hb hKC.scenes hP hD hS q0 0 qk 7 ha rfl hv rfl (i := Int32.ofInt (i : Int)) (fun z => by rcases z with z | z; exact hi0 z; rw [ei] at z; omega) hd (fun H1 locs1 hP1 hD1 hS1 => ?_)
  rw [ei] at hP1 hD1
  exact kk hK H1 locs1 ls hP1 hD1 hS1 hl
end WCarr
