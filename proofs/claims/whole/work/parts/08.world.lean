/-! THE WORLD BY LOGICAL NUMBERS. A state of the objects is σ: numbers by field key (64 times the object's number, and the slot), numbers by array and place. Where object k lies is ad k. -/
abbrev St : Type := (Nat → Int) × (Nat → Nat → Int)
def gF (σ : St) (k : Nat) : Int := σ.1 k
def sF (σ : St) (k : Nat) (v : Int) : St := (fun j => if j = k then v else σ.1 j, σ.2)
def gA (σ : St) (k i : Nat) : Int := σ.2 k i
def sA (σ : St) (k i : Nat) (v : Int) : St := (σ.1, fun a j => if a = k ∧ j = i then v else σ.2 a j)
abbrev vi (x : Int) : Value := .int (Int32.ofInt x)
abbrev vl (x : Int) : Value := .long (Int64.ofInt x)
/-- a cell's shape: an object's class number and its fields' kinds (0 int, 1 long, c + 2 a reference to c); an array's length, type code, and base of its references -/
abbrev Sh : Type := (Nat × List Nat) ⊕ (Nat × Nat × Nat)
def cv (ad : Nat → Nat) (v : Value) : Value := match v with
  | .ref k => .ref (ad k)
  | v => v
theorem cv_cat (ad : Nat → Nat) (v : Value) : (cv ad v).category = v.category := by cases v <;> rfl
def fv1 (ad : Nat → Nat) (σ : St) (key : Nat) (c : Nat) : Value := match c with
  | 0 => vi (gF σ key)
  | 1 => vl (gF σ key)
  | c + 2 => .ref (ad c)
def fvs (ad : Nat → Nat) (σ : St) : Nat → List Nat → List Value
  | _, [] => []
  | key, c :: t => fv1 ad σ key c :: fvs ad σ (key + 1) t
def aty (t : Nat) : FieldType := match t with
  | 0 => .int
  | 1 => .byte
  | 2 => .boolean
  | 3 => .long
  | 4 => .array .int
  | _ => .object "WaveRows$Scene"
def conts (ad : Nat → Nat) (σ : St) (k t b : Nat) : (Nat → Int32) ⊕ (Nat → Int64) ⊕ (Nat → UInt32) ⊕ (Nat → UInt64) ⊕ (Nat → Option Nat) := match t with
  | 0 => .inl fun i => Int32.ofInt (gA σ k i)
  | 1 => .inl fun i => Int32.ofInt (gA σ k i)
  | 2 => .inl fun i => Int32.ofInt (gA σ k i)
  | 3 => .inr (.inl fun i => Int64.ofInt (gA σ k i))
  | _ => .inr (.inr (.inr (.inr fun i => some (ad (b + i)))))
def cellE (ad : Nat → Nat) (tc : Nat → ClassId) (σ : St) (k : Nat) (sh : Sh) : va_E := match sh with
  | .inl (ci, ks) => .inr (ci, fvs ad σ (64 * k) ks)
  | .inr (n, t, b) => .inl (tc t, n, conts ad σ k t b)
def wl (ad : Nat → Nat) (tc : Nat → ClassId) (σ : St) : Nat → List Sh → va_W
  | _, [] => []
  | k, sh :: r => (ad k, cellE ad tc σ k sh) :: wl ad tc σ (k + 1) r
theorem wl_get {ad : Nat → Nat} {tc : Nat → ClassId} {σ : St} : ∀ {LY : List Sh} {k j : Nat} {sh : Sh}, LY[j]? = some sh → (wl ad tc σ k LY)[j]? = some (ad (k + j), cellE ad tc σ (k + j) sh)
  | [], k, j, sh, h => by simp at h
  | x :: r, k, 0, sh, h => by simp at h; subst h; rfl
  | x :: r, k, j + 1, sh, h => by
    have h' : r[j]? = some sh := by simpa using h
    have := wl_get (ad := ad) (tc := tc) (σ := σ) (k := k + 1) h'
    rw [show k + 1 + j = k + (j + 1) by omega] at this
    simpa [wl] using this
theorem wl_inv {ad : Nat → Nat} {tc : Nat → ClassId} {σ : St} : ∀ {LY : List Sh} {k j : Nat} {q : Nat × va_E}, (wl ad tc σ k LY)[j]? = some q → ∃ sh, LY[j]? = some sh ∧ q = (ad (k + j), cellE ad tc σ (k + j) sh)
  | [], k, j, q, h => by simp [wl] at h
  | x :: r, k, 0, q, h => by simp [wl] at h; exact ⟨x, rfl, h.symm⟩
  | x :: r, k, j + 1, q, h => by
    have h' : (wl ad tc σ (k + 1) r)[j]? = some q := by simpa [wl] using h
    obtain ⟨sh, h1, h2⟩ := wl_inv h'
    refine ⟨sh, by simpa using h1, ?_⟩
    rw [show k + 1 + j = k + (j + 1) by omega] at h2
    exact h2
theorem wl_none {ad : Nat → Nat} {tc : Nat → ClassId} {σ : St} {LY : List Sh} {k j : Nat} (h : LY[j]? = none) : (wl ad tc σ k LY)[j]? = none := by
  cases hq : (wl ad tc σ k LY)[j]? with
  | none => rfl
  | some q => obtain ⟨sh, h1, -⟩ := wl_inv hq; rw [h] at h1; cases h1
theorem wl_set {ad : Nat → Nat} {tc : Nat → ClassId} {σ σ' : St} {LY : List Sh} {j : Nat} {sh : Sh} {e : va_E} (hj : LY[j]? = some sh) (he : e = cellE ad tc σ' j sh) (ho : ∀ n sh', n ≠ j → LY[n]? = some sh' → cellE ad tc σ' n sh' = cellE ad tc σ n sh') : (wl ad tc σ 0 LY).set j (ad j, e) = wl ad tc σ' 0 LY := by
  apply List.ext_getElem?
  intro n
  by_cases hn : n = j
  · subst hn
    have h1 := wl_get (ad := ad) (tc := tc) (σ := σ) (k := 0) hj
    have h2 := wl_get (ad := ad) (tc := tc) (σ := σ') (k := 0) hj
    rw [Nat.zero_add] at h1 h2
    have hl : n < (wl ad tc σ 0 LY).length := (List.getElem?_eq_some_iff.mp h1).1
    rw [h2, List.getElem?_set_self hl, he]
  · rw [List.getElem?_set_ne (fun q => hn q.symm)]
    cases hL : LY[n]? with
    | none => rw [wl_none hL, wl_none hL]
    | some sh' =>
      have h1 := wl_get (ad := ad) (tc := tc) (σ := σ) (k := 0) hL
      have h2 := wl_get (ad := ad) (tc := tc) (σ := σ') (k := 0) hL
      rw [h1, h2, Nat.zero_add, ho n sh' hn hL]
theorem fvs_get {ad : Nat → Nat} {σ : St} : ∀ {ks : List Nat} {key i c : Nat}, ks[i]? = some c → (fvs ad σ key ks)[i]? = some (fv1 ad σ (key + i) c)
  | [], _, _, _, h => by simp at h
  | x :: r, key, 0, c, h => by simp at h; subst h; rfl
  | x :: r, key, i + 1, c, h => by
    have h' : r[i]? = some c := by simpa using h
    have := fvs_get (ad := ad) (σ := σ) (key := key + 1) h'
    rw [show key + 1 + i = key + (i + 1) by omega] at this
    simpa [fvs] using this
theorem fvs_len {ad : Nat → Nat} {σ : St} : ∀ (ks : List Nat) (key : Nat), (fvs ad σ key ks).length = ks.length
  | [], _ => rfl
  | x :: r, key => by simp [fvs, fvs_len r]
theorem fv1_ne {ad : Nat → Nat} {σ : St} {key k c : Nat} {v : Int} (h : key ≠ k) : fv1 ad (sF σ k v) key c = fv1 ad σ key c := by
  unfold fv1
  have : gF (sF σ k v) key = gF σ key := by simp [gF, sF, h]
  rw [this]
theorem fvs_out {ad : Nat → Nat} {σ : St} {k : Nat} {v : Int} : ∀ (ks : List Nat) (key : Nat), (k < key ∨ key + ks.length ≤ k) → fvs ad (sF σ k v) key ks = fvs ad σ key ks
  | [], _, _ => rfl
  | x :: r, key, h => by
    simp only [List.length_cons] at h
    rw [fvs, fvs, fv1_ne (by omega), fvs_out r (key + 1) (by omega)]
theorem fvs_set {ad : Nat → Nat} {σ : St} {v : Int} : ∀ (ks : List Nat) (key i c : Nat), ks[i]? = some c → (fvs ad σ key ks).set i (fv1 ad (sF σ (key + i) v) (key + i) c) = fvs ad (sF σ (key + i) v) key ks
  | [], _, _, _, h => by simp at h
  | x :: r, key, 0, c, h => by
    simp at h; subst h
    simp only [Nat.add_zero, fvs, List.set_cons_zero]
    rw [fvs_out r (key + 1) (by omega)]
  | x :: r, key, i + 1, c, h => by
    have h' : r[i]? = some c := by simpa using h
    have := fvs_set (ad := ad) (σ := σ) (v := v) r (key + 1) i c h'
    rw [show key + 1 + i = key + (i + 1) by omega] at this
    simp only [fvs, List.set_cons_succ]
    rw [this, fv1_ne (by omega)]
/-- objects of at most 64 fields -/
def LYok (LY : List Sh) : Prop := ∀ (j ci : Nat) (ks : List Nat), LY[j]? = some (Sum.inl (ci, ks)) → ks.length ≤ 64
theorem wl_setF {ad : Nat → Nat} {tc : Nat → ClassId} {σ : St} {LY : List Sh} {j ci i c : Nat} {ks : List Nat} {v : Int} (hok : LYok LY) (hj : LY[j]? = some (Sum.inl (ci, ks))) (hi : ks[i]? = some c) : (wl ad tc σ 0 LY).set j (ad j, .inr (ci, (fvs ad σ (64 * j) ks).set i (fv1 ad (sF σ (64 * j + i) v) (64 * j + i) c))) = wl ad tc (sF σ (64 * j + i) v) 0 LY := by
  have hil : i < ks.length := (List.getElem?_eq_some_iff.mp hi).1
  have h64 := hok j ci ks hj
  refine wl_set hj ?_ ?_
  · simp only [cellE]
    rw [fvs_set ks (64 * j) i c hi]
  · intro n sh' hn hL
    match sh', hL with
    | .inl (ci', ks'), hL =>
      simp only [cellE]
      have := hok n ci' ks' hL
      rw [fvs_out ks' (64 * n) (by omega)]
    | .inr (n', t, b), hL => rfl
theorem fvs_sA {ad : Nat → Nat} {σ : St} {a i : Nat} {v : Int} : ∀ (ks : List Nat) (key : Nat), fvs ad (sA σ a i v) key ks = fvs ad σ key ks
  | [], _ => rfl
  | x :: r, key => by rw [fvs, fvs, fvs_sA r]; rfl
theorem wl_setA {ad : Nat → Nat} {tc : Nat → ClassId} {σ : St} {LY : List Sh} {j n t b i : Nat} {v : Int} {e : (Nat → Int32) ⊕ (Nat → Int64) ⊕ (Nat → UInt32) ⊕ (Nat → UInt64) ⊕ (Nat → Option Nat)} (hj : LY[j]? = some (Sum.inr (n, t, b))) (he : e = conts ad (sA σ j i v) j t b) : (wl ad tc σ 0 LY).set j (ad j, .inl (tc t, n, e)) = wl ad tc (sA σ j i v) 0 LY := by
  refine wl_set hj ?_ ?_
  · simp only [cellE]
    rw [he]
  · intro m sh' hn hL
    match sh', hL with
    | .inl (ci', ks'), hL => simp only [cellE, fvs_sA]
    | .inr (n', t', b'), hL =>
      simp only [cellE]
      have h1 : ∀ i', gA (sA σ j i v) m i' = gA σ m i' := by
        intro i'
        simp [gA, sA, hn]
      have h2 : conts ad (sA σ j i v) m t' b' = conts ad σ m t' b' := by
        unfold conts
        simp only [h1]
      rw [h2]
abbrev KX : Type := (Program × Launch × Env × State × MethodId × Array Value) × (List Frame × Method × Code) × ((Nat → Nat) × (Nat → ClassId) × va_G)
def fA (LY : List Sh) (ad : Nat → Nat) (sz : Nat) : Nat → Prop := fun q => (∃ j, j < LY.length ∧ q = ad j) ∨ sz ≤ q
def AdOK (LY : List Sh) (ad : Nat → Nat) (A : Nat → Prop) : Prop := (∀ i j, i < LY.length → j < LY.length → ad i = ad j → i = j) ∧ ∀ i, i < LY.length → A (ad i)
theorem wl_len {ad : Nat → Nat} {tc : Nat → ClassId} {σ : St} : ∀ (LY : List Sh) (k : Nat), (wl ad tc σ k LY).length = LY.length
  | [], _ => rfl
  | x :: r, k => by simp [wl, wl_len r]
theorem AdOK.D {LY : List Sh} {ad : Nat → Nat} {A : Nat → Prop} {tc : Nat → ClassId} {σ : St} (h : AdOK LY ad A) : va_D A (wl ad tc σ 0 LY) := by
  refine ⟨fun i j p q hi hj e => ?_, fun k q hk => ?_⟩
  · obtain ⟨s1, l1, e1⟩ := wl_inv hi
    obtain ⟨s2, l2, e2⟩ := wl_inv hj
    rw [e1, e2] at e
    simp only [Nat.zero_add] at e
    exact h.1 i j (List.getElem?_eq_some_iff.mp l1).1 (List.getElem?_eq_some_iff.mp l2).1 e
  · obtain ⟨s1, l1, e1⟩ := wl_inv hk
    rw [e1]
    simp only [Nat.zero_add]
    exact h.2 k (List.getElem?_eq_some_iff.mp l1).1
def rowB : Nat := 103
def keepIx (kp j : Nat) : Prop := match kp with
  | 0 => True
  | 1 => ¬ (rowB ≤ j ∧ j < rowB + 46)
  | _ => j = 0
def AdRel (kp : Nat) (LY : List Sh) (ad0 ad : Nat → Nat) (A : Nat → Prop) : Prop := (∀ j, keepIx kp j → ad j = ad0 j) ∧ AdOK LY ad A
def nestW (q : String × Nat × MethodName × String) : Cond := .methodLinkNest q.1 q.2.1 q.2.2.1 q.2.2.2
/-- the class of int[][] is the one over the class of int[] -/
def GridK (tc : Nat → ClassId) (U : State) : Prop := ∃ kA k0 : Class, U.vm.classes[tc 4]? = some kA ∧ kA.kind = .array (tc 0) (.array .int) ∧ U.vm.classes[tc 0]? = some k0
theorem GridK.moved {tc : Nat → ClassId} {u U : State} (hvm : u.vm.Alike U.vm) (h : GridK tc u) : GridK tc U := by
  obtain ⟨kA, k0, h1, h2, h3⟩ := h
  obtain ⟨k1, g1, e1⟩ := hvm.2.2 _ _ h1
  obtain ⟨k2, g2, -⟩ := hvm.2.2 _ _ h3
  exact ⟨k1, k2, g1, by rw [e1]; exact h2, g2⟩
/-- what the classes are; the words on nest mates -/
def KK (LY : List Sh) (tc : Nat → ClassId) (D : va_G) (U : State) : Prop := (∀ (c : Nat) (q : vw_C), vwCl[c]? = some q → u_Kn U q.1 q.2.1 q.2.2 (D.1 c) (D.2 c)) ∧ (∀ (j n t b : Nat), LY[j]? = some (Sum.inr (n, t, b)) → ArrOfT U (tc t) (aty t) ∧ va_RA U (tc t) (aty t)) ∧ (∀ q ∈ nestL, va_Nw (nestW q) U) ∧ ∀ (j n b : Nat), LY[j]? = some (Sum.inr (n, 4, b)) → GridK tc U
theorem KK.warm {LY : List Sh} {tc : Nat → ClassId} {D : va_G} {s U : State} (hW : s.WarmedH U.vm) (h : KK LY tc D s) : KK LY tc D U :=
  ⟨fun c q hq => u_Kn_moved hW.alike (h.1 c q hq), fun j n t b hj => ⟨arrOfT_moved hW.alike (h.2.1 j n t b hj).1, (h.2.1 j n t b hj).2.moved hW.alike⟩, fun q hq => va_Nw.warmM hW (h.2.2.1 q hq), fun j n b hj => (h.2.2.2 j n b hj).moved hW.alike⟩
theorem KK.blind {LY : List Sh} {tc : Nat → ClassId} {D : va_G} {U : State} (h : KK LY tc D U) (g : JFrame) (mk : MethodId) (a : Array Value) : KK LY tc D (U.calling g mk a) :=
  ⟨fun c q hq => u_Kn_moved (u := U) (U := U.calling g mk a) (Vm.Alike.refl U.vm) (h.1 c q hq), fun j n t b hj => ⟨arrOfT_moved (u := U) (E := U.calling g mk a) (Vm.Alike.refl U.vm) (h.2.1 j n t b hj).1, (h.2.1 j n t b hj).2.moved (u := U) (U := U.calling g mk a) (Vm.Alike.refl U.vm)⟩, fun q hq => va_tabs (c := nestW q) (A := #[]) (u := U) (U := U.calling g mk a) rfl rfl (h.2.2.1 q hq), fun j n b hj => (h.2.2.2 j n b hj).moved (u := U) (U := U.calling g mk a) (Vm.Alike.refl U.vm)⟩
def rmD (d : Nat) : Room := { frames := d, cells := 0, slots := 0, locals := 64 * d }
def lget : List (Option Value) → Nat → Option Value
  | [], _ => none
  | x :: _, 0 => x
  | _ :: t, i + 1 => lget t i
def lset : List (Option Value) → Nat → Value → List (Option Value)
  | [], _, _ => []
  | _ :: t, 0, v => some v :: t
  | x :: t, i + 1, v => x :: lset t i v
def lclr : List (Option Value) → Nat → List (Option Value)
  | [], _ => []
  | _ :: t, 0 => none :: t
  | x :: t, i + 1 => x :: lclr t i
theorem lget_set : ∀ (L : List (Option Value)) (i j : Nat) (v w : Value), lget (lset L i v) j = some w → (j = i ∧ w = v) ∨ (j ≠ i ∧ lget L j = some w)
  | [], i, j, v, w, h => by simp [lset, lget] at h
  | x :: t, 0, 0, v, w, h => by simp [lset, lget] at h; exact Or.inl ⟨rfl, h.symm⟩
  | x :: t, 0, j + 1, v, w, h => Or.inr ⟨by omega, h⟩
  | x :: t, i + 1, 0, v, w, h => Or.inr ⟨by omega, h⟩
  | x :: t, i + 1, j + 1, v, w, h => by
    rcases lget_set t i j v w h with ⟨a, b⟩ | ⟨a, b⟩
    · exact Or.inl ⟨by omega, b⟩
    · exact Or.inr ⟨by omega, b⟩
theorem lget_clr : ∀ (L : List (Option Value)) (i j : Nat) (w : Value), lget (lclr L i) j = some w → j ≠ i ∧ lget L j = some w
  | [], i, j, w, h => by simp [lclr, lget] at h
  | x :: t, 0, 0, w, h => by simp [lclr, lget] at h
  | x :: t, 0, j + 1, w, h => ⟨by omega, h⟩
  | x :: t, i + 1, 0, w, h => ⟨by omega, h⟩
  | x :: t, i + 1, j + 1, w, h => by
    obtain ⟨a, b⟩ := lget_clr t i j w h
    exact ⟨by omega, b⟩
theorem lget_lt : ∀ {L : List (Option Value)} {i : Nat} {w : Value}, lget L i = some w → i < L.length
  | [], i, w, h => by simp [lget] at h
  | x :: t, 0, w, h => by simp
  | x :: t, i + 1, w, h => by
    have := lget_lt (L := t) (i := i) h
    simp only [List.length_cons]; omega
def LR (ad : Nat → Nat) (nL : Nat) (L : List (Option Value)) (ls : Array Slot) : Prop := ls.size = nL ∧ lv_wf ls ∧ ∀ i v, lget L i = some v → ls[i]? = some (.val (cv ad v))
def lsts (ad : Nat → Nat) (L : List (Option Value)) : List (Nat × Value) := (List.range L.length).filterMap fun i => (lget L i).map fun v => (i, cv ad v)
theorem lsts_mem {ad : Nat → Nat} {L : List (Option Value)} {q : Nat × Value} : q ∈ lsts ad L ↔ ∃ v, lget L q.1 = some v ∧ q.2 = cv ad v := by
  unfold lsts
  rw [List.mem_filterMap]
  constructor
  · rintro ⟨i, -, h⟩
    cases hv : lget L i with
    | none => rw [hv] at h; cases h
    | some v => rw [hv] at h; cases h; exact ⟨v, hv, rfl⟩
  · rintro ⟨v, h, e⟩
    refine ⟨q.1, List.mem_range.mpr (lget_lt h), ?_⟩
    rw [h]
    show some (q.1, cv ad v) = some q
    rw [← e]
theorem LR.has {ad : Nat → Nat} {nL : Nat} {L : List (Option Value)} {ls : Array Slot} (h : LR ad nL L ls) : lv_has ls nL (lsts ad L) := by
  refine ⟨h.1, h.2.1, fun q hq => ?_⟩
  obtain ⟨v, h1, h2⟩ := lsts_mem.mp hq
  rw [h2]; exact h.2.2 _ _ h1
/-- no long begins at the slot before i -/
def nolong (L : List (Option Value)) (i : Nat) : Bool := match i with
  | 0 => true
  | j + 1 => match lget L j with
    | some v => v.category != 2
    | none => true
theorem nolong_ne {L : List (Option Value)} {j : Nat} {w : Value} (hc : nolong L (j + 1) = true) (hw : lget L j = some w) : w.category ≠ 2 := by
  have h : (match lget L j with
    | some v => v.category != 2
    | none => true) = true := hc
  rw [hw] at h
  simpa using h
theorem LR.st1 {ad : Nat → Nat} {nL : Nat} {L : List (Option Value)} {ls' : Array Slot} {i : Nat} {v : Value} (hc : nolong L i = true) (h : lv_has ls' nL ((i, cv ad v) :: (lsts ad L).filter (fun q => !(q.1 == i) && !(q.1 + 1 == i && q.2.category == 2)))) : LR ad nL (lset L i v) ls' := by
  refine ⟨h.1, h.2.1, fun j w hw => ?_⟩
  rcases lget_set L i j v w hw with ⟨rfl, rfl⟩ | ⟨hne, hw2⟩
  · exact h.2.2 _ List.mem_cons_self
  · refine h.2.2 (j, cv ad w) (List.mem_cons_of_mem _ (List.mem_filter.mpr ⟨lsts_mem.mpr ⟨w, hw2, rfl⟩, ?_⟩))
    simp only [Bool.and_eq_true, Bool.not_eq_true', beq_eq_false_iff_ne, ne_eq, hne, not_false_eq_true, true_and, cv_cat, Bool.and_eq_false_imp, beq_iff_eq]
    intro e
    subst e
    exact nolong_ne hc hw2
theorem LR.st2 {ad : Nat → Nat} {nL : Nat} {L : List (Option Value)} {ls' : Array Slot} {i : Nat} {v : Value} (hc : nolong L i = true) (h : lv_has ls' nL ((i, cv ad v) :: (lsts ad L).filter (fun q => !(q.1 == i) && (!(q.1 == i + 1) && !(q.1 + 1 == i && q.2.category == 2))))) : LR ad nL (lclr (lset L i v) (i + 1)) ls' := by
  refine ⟨h.1, h.2.1, fun j w hw => ?_⟩
  obtain ⟨hn1, hw⟩ := lget_clr _ _ _ _ hw
  rcases lget_set L i j v w hw with ⟨rfl, rfl⟩ | ⟨hne, hw2⟩
  · exact h.2.2 _ List.mem_cons_self
  · refine h.2.2 (j, cv ad w) (List.mem_cons_of_mem _ (List.mem_filter.mpr ⟨lsts_mem.mpr ⟨w, hw2, rfl⟩, ?_⟩))
    simp only [Bool.and_eq_true, Bool.not_eq_true', beq_eq_false_iff_ne, ne_eq, hne, hn1, not_false_eq_true, true_and, cv_cat, Bool.and_eq_false_imp, beq_iff_eq]
    intro e
    subst e
    exact nolong_ne hc hw2
/-- the frame's own facts -/
def KOK (cc : ByteArray) (own : String) (nL : Nat) (ret : Option FieldType) (LY : List Sh) (K : KX) : Prop := match K with
  | ((p, l, e, s, m, args), (below, meth, c), (ad0, tc, D)) => p.tables.exec = Jvm.exec ∧ c.code = cc ∧ c.maxLocals = nL ∧ s.vm.findClass own = some m.cls ∧ (∀ w ∈ lw_g, w.before args s = true) ∧ meth.locks = false ∧ meth.sig.returnType = ret ∧ KK LY tc D s ∧ LYok LY
def Qk (kd : Nat) (r : Int) (B : State → Prop) (A : Nat → Prop) : Array Value → State → Outcome → State → Prop := match kd with
  | 0 => va_Qv (S := Unit) (fun _ => True) (fun _ t => B t) A
  | 1 => va_Qi (S := Unit) (fun v _ => v = Int32.ofInt r) (fun _ t => B t) A
  | _ => va_Ql (S := Unit) (fun v _ => v = Int64.ofInt r) (fun _ t => B t) A
def Bw (kp : Nat) (LY : List Sh) (ad0 : Nat → Nat) (tc : Nat → ClassId) (D : va_G) (A : Nat → Prop) (σ : St) (t : State) : Prop := ∃ ad, AdRel kp LY ad0 ad A ∧ va_P D vwCl (wl ad tc σ 0 LY) t.heap
/-- the number by which a pure computation says that the method throws -/
def THR : Int := 1180591620717411303424
def nsE : String := "java/util/NoSuchElementException"
def thW : List Cond := [.castable nsE nsE, .declares ⟨"java/lang/RuntimeException", "<init>", "()V"⟩, .declares ⟨"java/lang/Exception", "<init>", "()V"⟩, .declares ⟨"java/lang/Throwable", "<init>", "()V"⟩]
/-- what a throw wants of a state: the two statics of Throwable, four words -/
def ThS (A : Nat → Prop) (s : State) : Prop := vx_Zq Bundle.tN "UNASSIGNED_STACK" Bundle.steD A s s.heap ∧ vx_Zq Bundle.tN "SUPPRESSED_SENTINEL" Bundle.listD A s s.heap ∧ ∀ w ∈ thW, va_Nw w s
def ThK (LY : List Sh) (K : KX) : Prop := match K with
  | ((p, l, e, s, m, args), (below, meth, c), (ad0, tc, D)) => l.stackTraces = false ∧ ThS (fA LY ad0 s.heap.size) s ∧ ∀ x ∈ c.exceptionTable.toList, False
def rmK (kd d : Nat) : Room := { frames := d, cells := bif Nat.ble 10 kd then 1 else 0, slots := bif Nat.ble 10 kd then 6 else 0, locals := 64 * d }
def XCf (r : Int) (B : State → Prop) (A : Nat → Prop) : String → State → State → Prop := fun E st t => r = THR ∧ E = nsE ∧ B t ∧ va_F A st t
def KOKd (kd : Nat) (cc : ByteArray) (own : String) (nL : Nat) (ret : Option FieldType) (LY : List Sh) (K : KX) : Prop := KOK cc own nL ret LY K ∧ (Nat.ble 10 kd = true → ThK LY K)
def ZK (kd : Nat) (r : Int) (below : List Frame) (B : State → Prop) (A : Nat → Prop) (args : Array Value) (s : State) : State → Prop := bif Nat.ble 10 kd then vx_MQ below (fun a st oc t => r ≠ THR ∧ Qk (kd - 10) r B A a st oc t) (XCf r B A) args s 1 6 A else MQ below (Qk kd r B A) args s 0 0 A
/-- from here the frame ends as the computation o says (where it says anything) -/
def WA (d kp kd : Nat) (cc : ByteArray) (own : String) (nL : Nat) (ret : Option FieldType) (LY LYe : List Sh) (K : KX) (pc : Nat) (L : List (Option Value)) (st : List Value) (σ : St) (o : Option (Int × St)) : Prop :=
  KOKd kd cc own nL ret LY K → ∀ r σ', o = some (r, σ') → match K with
  | ((p, l, e, s, m, args), (below, meth, c), (ad0, tc, D)) => ∀ ad, AdRel kp LY ad0 ad (fA LY ad0 s.heap.size) → ∀ (H : Heap) (locs : List Loc) (ls : Array Slot), va_P D vwCl (wl ad tc σ 0 LY) H → va_S (fA LY ad0 s.heap.size) s.heap H locs → LR ad nL L ls →
    W p l e (rmK kd d) s m args below meth c H locs 0 0 (ZK kd r below (Bw kp LYe ad0 tc D (fA LY ad0 s.heap.size) σ') (fA LY ad0 s.heap.size) args s) (F0 m pc ls (st.map (cv ad)))
/-- a method's contract: what it answers and leaves is what o says (where it says anything) -/
def Ct (d kp kd : Nat) (y : MethodName) (cc : ByteArray) (nL : Nat) (ret : Option FieldType) (LY LYe : List Sh) (as : List Value) (σ : St) (o : Option (Int × St)) : Prop :=
  ∀ r σ', o = some (r, σ') → ∀ (l : Launch) (D : va_G) (ad : Nat → Nat) (tc : Nat → ClassId) (sz : Nat),
    Met l y (Cond.code y cc nL ret :: lw_g) (rmD d) (va_Pc (as.map (cv ad)) (fun U => U.heap.size = sz ∧ AdOK LY ad (fA LY ad sz) ∧ LYok LY ∧ va_P D vwCl (wl ad tc σ 0 LY) U.heap ∧ KK LY tc D U)) (Qk kd r (Bw kp LYe ad tc D (fA LY ad sz) σ') (fA LY ad sz)) 0 0 (fA LY ad sz)
/-- the same cells but for what references objects hold -/
def LYsame (LY LY1 : List Sh) : Prop := LY1.length = LY.length ∧ (∀ (j n t b : Nat), LY1[j]? = some (Sum.inr (n, t, b)) → LY[j]? = some (Sum.inr (n, t, b))) ∧ (LYok LY → LYok LY1)
theorem LYsame.rf {LY : List Sh} : LYsame LY LY := ⟨rfl, fun _ _ _ _ h => h, fun h => h⟩
theorem fA_len {LY LY1 : List Sh} (h : LYsame LY LY1) : fA LY1 = fA LY := by
  funext ad sz
  unfold fA
  rw [h.1]
theorem AdOK_len {LY LY1 : List Sh} {ad : Nat → Nat} {A : Nat → Prop} (h : LYsame LY LY1) : AdOK LY1 ad A ↔ AdOK LY ad A := by
  unfold AdOK
  rw [h.1]
theorem KOK_same {cc : ByteArray} {own : String} {nL : Nat} {ret : Option FieldType} {LY LY1 : List Sh} {K : KX} (h : LYsame LY LY1) (hK : KOK cc own nL ret LY K) : KOK cc own nL ret LY1 K := by
  obtain ⟨⟨p, l, e, s, m, args⟩, ⟨below, meth, c⟩, ⟨ad0, tc, D⟩⟩ := K
  obtain ⟨hx, hb, hml, hown, hts, hlk, hret, hKK, hok⟩ := hK
  exact ⟨hx, hb, hml, hown, hts, hlk, hret, ⟨hKK.1, fun j n t b hj => hKK.2.1 j n t b (h.2.1 j n t b hj), hKK.2.2.1, fun j n b hj => hKK.2.2.2 j n b (h.2.1 j n 4 b hj)⟩, h.2.2 hok⟩
theorem KOKd_same {kd : Nat} {cc : ByteArray} {own : String} {nL : Nat} {ret : Option FieldType} {LY LY1 : List Sh} {K : KX} (h : LYsame LY LY1) (hK : KOKd kd cc own nL ret LY K) : KOKd kd cc own nL ret LY1 K := by
  refine ⟨KOK_same h hK.1, fun hk => ?_⟩
  have h1 := hK.2 hk
  obtain ⟨⟨p, l, e, s, m, args⟩, ⟨below, meth, c⟩, ⟨ad0, tc, D⟩⟩ := K
  obtain ⟨a, b, c2⟩ := h1
  exact ⟨a, by rw [fA_len h]; exact b, c2⟩
/-- a thrower's contract: where o says THR it throws -/
def CtX (d kp kd : Nat) (y : MethodName) (cc : ByteArray) (nL : Nat) (ret : Option FieldType) (LY LYe : List Sh) (as : List Value) (σ : St) (o : Option (Int × St)) : Prop :=
  ∀ r σ', o = some (r, σ') → ∀ (l : Launch) (D : va_G) (ad : Nat → Nat) (tc : Nat → ClassId) (sz : Nat), l.stackTraces = false →
    vx_Met l y (Cond.code y cc nL ret :: lw_g) (rmK (kd + 10) d) (va_Pc (as.map (cv ad)) (fun U => U.heap.size = sz ∧ AdOK LY ad (fA LY ad sz) ∧ LYok LY ∧ va_P D vwCl (wl ad tc σ 0 LY) U.heap ∧ KK LY tc D U ∧ ThS (fA LY ad sz) U)) (fun a st oc t => r ≠ THR ∧ Qk kd r (Bw kp LYe ad tc D (fA LY ad sz) σ') (fA LY ad sz) a st oc t) (XCf r (Bw kp LYe ad tc D (fA LY ad sz) σ') (fA LY ad sz)) 1 6 (fA LY ad sz)
