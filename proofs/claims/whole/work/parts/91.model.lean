/-! PURE PART: what makes the readings, the model's way through the sets -/
def pkx (x : List Nat) : Nat → Int := fun c => ((x.getD c 0 : Nat) : Int)
def Gm (s : Nat → Int) (S : Nat) (g : Nat → Int) (x : List Nat) : Bool := mdB (PR (s 0)) (cD (kmP S) (s 1).toNat 0) x.length (KM s x.length S (pkx x) g)
theorem dt_shift {f x : Nat → Int} : ∀ n, dt f x (n + 1) = f 0 * x 0 + dt (fun i => f (i + 1)) (fun i => x (i + 1)) n
  | 0 => by unfold dt; unfold dt; omega
  | n + 1 => by
    show dt f x (n + 1) + f (n + 1) * x (n + 1) = _
    rw [dt_shift n]
    show _ = f 0 * x 0 + (dt (fun i => f (i + 1)) (fun i => x (i + 1)) n + f (n + 1) * x (n + 1))
    omega
theorem Mk_dt {p : Int} {H : Nat → Prop} {col : Nat → Nat → Int} : ∀ (x : List Nat) {v : Nat → Int}, MkL p H col x v ↔ ∃ X : Nat → Int, ∀ h, H h → (v h - dt (fun c => col (x.getD c 0) h) X x.length) % p = 0
  | [], v => ⟨fun h => ⟨fun _ => 0, fun k hk => by show (v k - 0) % p = 0; rw [Int.sub_zero]; exact h k hk⟩, fun ⟨X, h⟩ k hk => by have := h k hk; rw [show (v k - dt (fun c => col (([] : List Nat).getD c 0) k) X ([] : List Nat).length) = v k - 0 from rfl, Int.sub_zero] at this; exact this⟩
  | d :: x, v => by
    constructor
    · rintro ⟨c, h⟩
      obtain ⟨X, h⟩ := (Mk_dt x).mp h
      refine ⟨fun i => if i = 0 then c else X (i - 1), fun k hk => ?_⟩
      have := h k hk
      rw [List.length_cons, dt_shift]
      rw [← this]
      congr 1
      show v k - (col d k * c + dt (fun i => col (x.getD i 0) k) (fun i => if i + 1 = 0 then c else X (i + 1 - 1)) x.length) = _
      rw [dt_congr2 (f := fun i => col (x.getD i 0) k) (x := fun i => if i + 1 = 0 then c else X (i + 1 - 1)) (y := X) x.length (fun i _ => by show (if i + 1 = 0 then c else X (i + 1 - 1)) = X i; rw [if_neg (by omega)]; rfl), Int.mul_comm]
      omega
    · rintro ⟨X, h⟩
      refine ⟨X 0, (Mk_dt x).mpr ⟨fun i => X (i + 1), fun k hk => ?_⟩⟩
      have := h k hk
      rw [List.length_cons, dt_shift] at this
      rw [← this]
      congr 1
      show v k - X 0 * col d k - dt (fun c => col (x.getD c 0) k) (fun i => X (i + 1)) x.length = v k - (col d k * X 0 + dt (fun i => col (x.getD i 0) k) (fun i => X (i + 1)) x.length)
      rw [Int.mul_comm]
      omega
theorem KM_dt {s : Nat → Int} {k S : Nat} {pk g X : Nat → Int} {r : Nat} : dt (KM s k S pk g r) X (k + 1) = dt (KM s k S pk g r) X k + g (rtA (kmP S) (s 1).toNat 0 r) * X k := by
  show dt (KM s k S pk g r) X k + KM s k S pk g r k * X k = _
  rw [show KM s k S pk g r k = g (rtA (kmP S) (s 1).toNat 0 r) by unfold KM; rw [if_neg (by omega)]]
/-- made of the columns is made as the model reckons -/
theorem Gm_iff {s : Nat → Int} (hI : MI s) {S : Nat} {g : Nat → Int} (hg : ∀ h : Nat, (h : Int) < s 1 → 0 ≤ g h ∧ g h < PR (s 0)) (x : List Nat) : Gm s S g x = true ↔ MkL (PR (s 0)) (HH s S) (clS s) x g := by
  have hKP := KP_rt hI S
  have hcan := KM_can hI (k := x.length) (S := S) (pk := pkx x) hg
  have row : ∀ (r : Nat) (X : Nat → Int), dt (KM s x.length S (pkx x) g r) X x.length = dt (fun c => clS s (x.getD c 0) (rtA (kmP S) (s 1).toNat 0 r)) X x.length := fun r X => dt_congr x.length (fun c hc => by unfold KM clS pkx; rw [if_pos hc])
  unfold Gm
  rw [Mk_dt]
  constructor
  · intro h
    have hn := mdB_shX hI.1 hcan h
    refine ⟨shX (PR (s 0)) (cD (kmP S) (s 1).toNat 0) x.length (KM s x.length S (pkx x) g), fun h' hh => ?_⟩
    obtain ⟨r, hr, rfl⟩ := hKP.2.2.2 h' hh
    have h1 := hn r hr
    rw [KM_dt, row, show shX (PR (s 0)) (cD (kmP S) (s 1).toNat 0) x.length (KM s x.length S (pkx x) g) x.length = -1 by unfold shX; rw [if_neg (by omega)]] at h1
    obtain ⟨q, h1⟩ := Int.dvd_of_emod_eq_zero h1
    refine Int.emod_eq_zero_of_dvd ⟨-q, ?_⟩
    rw [Int.mul_neg (PR (s 0)) q, ← h1]
    omega
  · rintro ⟨X, h⟩
    refine mdB_of hI.1 hcan (x := fun i => if i < x.length then X i else -1) (by show (if x.length < x.length then _ else (-1 : Int)) = -1; rw [if_neg (by omega)]) (fun r hr => ?_)
    have h1 := h _ (hKP.2.1 r hr)
    rw [KM_dt, row]
    show (dt (fun c => clS s (x.getD c 0) (rtA (kmP S) (s 1).toNat 0 r)) (fun i => if i < x.length then X i else -1) x.length + g (rtA (kmP S) (s 1).toNat 0 r) * (if x.length < x.length then X x.length else -1)) % PR (s 0) = 0
    rw [if_neg (by omega), dt_congr2 (y := X) x.length (fun i hi => by show (if i < x.length then X i else -1) = X i; rw [if_pos hi])]
    obtain ⟨q, h1⟩ := Int.dvd_of_emod_eq_zero h1
    refine Int.emod_eq_zero_of_dvd ⟨-q, ?_⟩
    rw [Int.mul_neg (PR (s 0)) q, ← h1]
    omega
/-! the next set -/
def upL : Nat → Nat → List Nat
  | _, 0 => []
  | a, k + 1 => a :: upL (a + 1) k
def nx (n : Nat) : List Nat → Option (List Nat)
  | [] => none
  | a :: x => match nx n x with
    | some y => some (a :: y)
    | none => if a + (x.length + 1) = n then none else some (upL (a + 1) (x.length + 1))
theorem upL_len : ∀ (k a : Nat), (upL a k).length = k
  | 0, _ => rfl
  | k + 1, a => by unfold upL; rw [List.length_cons, upL_len k]
theorem upL_at : ∀ (k a i : Nat), i < k → (upL a k).getD i 0 = a + i
  | 0, _, _, h => by omega
  | k + 1, a, 0, _ => rfl
  | k + 1, a, i + 1, h => by
    show (upL (a + 1) k).getD i 0 = _
    rw [upL_at k (a + 1) i (by omega)]; omega
theorem nx_all {n : Nat} : ∀ (x : List Nat), (∀ i, i < x.length → x.getD i 0 + (x.length - i) = n) → nx n x = none
  | [], _ => rfl
  | a :: x, h => by
    have h0 := h 0 (by rw [List.length_cons]; omega)
    have hx := nx_all x (fun i hi => by
      have := h (i + 1) (by rw [List.length_cons]; omega)
      rw [List.length_cons, show x.length + 1 - (i + 1) = x.length - i by omega] at this
      exact this)
    unfold nx
    rw [hx]
    exact if_pos h0
theorem nx_piv {n : Nat} : ∀ (x : List Nat) (c : Nat), c < x.length → x.getD c 0 + (x.length - c) ≠ n → (∀ i, c < i → i < x.length → x.getD i 0 + (x.length - i) = n) → ∃ y, nx n x = some y ∧ y.length = x.length ∧ ∀ i, i < x.length → y.getD i 0 = if i < c then x.getD i 0 else x.getD c 0 + 1 + (i - c)
  | [], c, h, _, _ => by simp at h
  | a :: x, 0, h, h0, h1 => by
    have hx := nx_all (n := n) x (fun i hi => by
      have := h1 (i + 1) (by omega) (by rw [List.length_cons]; omega)
      rw [List.length_cons, show x.length + 1 - (i + 1) = x.length - i by omega] at this
      exact this)
    refine ⟨upL (a + 1) (x.length + 1), ?_, by rw [upL_len, List.length_cons], fun i hi => ?_⟩
    · unfold nx
      rw [hx]
      exact if_neg h0
    · rw [upL_at _ _ _ (by rw [List.length_cons] at hi; exact hi), if_neg (by omega)]; rfl
  | a :: x, c + 1, h, h0, h1 => by
    obtain ⟨y, k1, k2, k3⟩ := nx_piv (n := n) x c (by rw [List.length_cons] at h; omega) (by rw [List.length_cons, show x.length + 1 - (c + 1) = x.length - c by omega] at h0; exact h0) (fun i hi hi2 => by
      have := h1 (i + 1) (by omega) (by rw [List.length_cons]; omega)
      rw [List.length_cons, show x.length + 1 - (i + 1) = x.length - i by omega] at this
      exact this)
    refine ⟨a :: y, ?_, by rw [List.length_cons, List.length_cons, k2], fun i hi => ?_⟩
    · unfold nx
      rw [k1]
    · cases i with
      | zero => rw [if_pos (by omega)]; rfl
      | succ i =>
        show y.getD i 0 = if i + 1 < c + 1 then x.getD i 0 else x.getD c 0 + 1 + (i + 1 - (c + 1))
        rw [k3 i (by rw [List.length_cons] at hi; omega)]
        by_cases w : i < c
        · rw [if_pos w, if_pos (by omega)]
        · rw [if_neg w, if_neg (by omega), show i + 1 - (c + 1) = i - c by omega]
def Chn (n : Nat) : List (List Nat) → Option (List Nat) → Prop
  | [], _ => True
  | x :: l, e => nx n x = l.head?.or e ∧ Chn n l e
theorem Chn_app {n : Nat} {b : List (List Nat)} {e : Option (List Nat)} : ∀ (a : List (List Nat)), Chn n a (b.head?.or e) → Chn n b e → Chn n (a ++ b) e
  | [], _, h => h
  | x :: a, h, g => by
    refine ⟨?_, Chn_app a h.2 g⟩
    rw [h.1]
    cases a with
    | nil => rfl
    | cons y a => rfl
theorem Chn_map {n f : Nat} {e : Option (List Nat)} {r : Nat} (he : e = if f + (r + 1) = n then none else some (upL (f + 1) (r + 1))) : ∀ (l : List (List Nat)), Chn n l none → (∀ x, x ∈ l → x.length = r) → Chn n (l.map (f :: ·)) e
  | [], _, _ => trivial
  | x :: l, h, hl => by
    refine ⟨?_, Chn_map he l h.2 (fun y hy => hl y (List.mem_cons_of_mem _ hy))⟩
    have h1 := h.1
    have hx := hl x List.mem_cons_self
    show nx n (f :: x) = _
    unfold nx
    cases l with
    | nil =>
      rw [h1]
      show (if f + (x.length + 1) = n then none else some (upL (f + 1) (x.length + 1))) = e
      rw [hx, he]
    | cons y l => rw [h1]; rfl
theorem en_head : ∀ (m r f : Nat), (en m r f).head? = if r ≤ m then some (upL f r) else none
  | m, 0, f => by rw [en_zero, if_pos (by omega)]; rfl
  | 0, r + 1, f => by rw [if_neg (by omega)]; rfl
  | m + 1, r + 1, f => by
    have h1 := en_head m r (f + 1)
    have h2 := en_head m (r + 1) (f + 1)
    unfold en
    rw [List.head?_append, List.head?_map, h1, h2]
    by_cases c : r ≤ m
    · rw [if_pos c, if_pos (show r + 1 ≤ m + 1 by omega)]; rfl
    · rw [if_neg c, if_neg (show ¬ r + 1 ≤ m by omega), if_neg (show ¬ r + 1 ≤ m + 1 by omega)]; rfl
theorem Chn_en {n : Nat} : ∀ (m r f : Nat), f + m = n → Chn n (en m r f) none
  | m, 0, f, _ => by rw [en_zero]; exact ⟨rfl, trivial⟩
  | 0, r + 1, f, _ => trivial
  | m + 1, r + 1, f, h => by
    unfold en
    refine Chn_app _ ?_ (Chn_en m (r + 1) (f + 1) (by omega))
    by_cases c : r ≤ m
    · refine Chn_map (r := r) ?_ _ (Chn_en m r (f + 1) (by omega)) (fun x hx => (en_in _ _ _ _ hx).1)
      rw [en_head]
      by_cases w : f + (r + 1) = n
      · rw [if_pos w, if_neg (by omega)]; rfl
      · rw [if_neg w, if_pos (by omega)]; rfl
    · have := en_head m r (f + 1)
      rw [if_neg c] at this
      rw [List.head?_eq_none_iff.mp this]
      exact trivial
section
variable {F : Nat} {s : Nat → Int}
theorem M_fp2 (hI : MI s) {k : Nat} (hk : k ≤ 3) : ∀ (d m : Nat) (σ : St) (c : Nat), d < m → c + d = k → MV σ s → (∀ i, i < c → gA σ 14 i = (i : Nat)) → ∃ σ', l_M_firstPick_2 F m σ (k : Nat) (c : Nat) = some (if k ≤ (s 0).toNat then 1 else 0, σ') ∧ (∀ i, i < k → gA σ' 14 i = (i : Nat)) ∧ (∀ q, gF σ' q = gF σ q) ∧ ∀ a, a ≠ 14 → ∀ i, gA σ' a i = gA σ a i
  | _, 0, _, _, h, _, _, _ => absurd h (Nat.not_lt_zero _)
  | 0, m + 1, σ, c, _, hc, hV, h14 => by
    have i0 := hI.1
    refine ⟨σ, ?_, fun i hi => h14 i (by omega), fun _ => rfl, fun _ _ _ => rfl⟩
    have v0 : gA σ 2 (Int.toNat 0) = s 0 := hV.1 0
    show b_M_firstPick_2 F _ σ _ _ = _
    unfold b_M_firstPick_2
    rw [gd_t (by omega), if_pos (by omega), gd_t (by decide), v0, gd_t (by omega)]
    by_cases w : k ≤ (s 0).toNat
    · rw [if_neg (by omega), if_pos w]
    · rw [if_pos (by omega), if_neg w]
  | d + 1, m + 1, σ, c, hm, hc, hV, h14 => by
    obtain ⟨σ', k1, k2, k3, k4⟩ := M_fp2 hI hk d m (sA σ 14 c (c : Nat)) (c + 1) (by omega) (by omega) (MV_of hV rfl rfl (fun i => by rw [gA_sA, if_neg (by omega)]) (fun i => by rw [gA_sA, if_neg (by omega)])) (fun i hi => by
      rw [gA_sA]
      by_cases w : i = c
      · rw [if_pos ⟨rfl, w⟩, w]
      · rw [if_neg (fun z => w z.2)]; exact h14 i (by omega))
    refine ⟨σ', ?_, k2, k3, fun a ha i => by rw [k4 a ha, gA_sA, if_neg (fun z => ha z.1)]⟩
    rw [← k1]
    show b_M_firstPick_2 F _ σ _ _ = _
    unfold b_M_firstPick_2
    rw [gd_t (by omega), if_neg (by omega), gd_t (by omega), bs_s, bv_s, Int.toNat_natCast]; rfl
theorem M_np53 {k : Nat} (hk : k ≤ 3) : ∀ (d m : Nat) (σ : St) (i v : Nat), d < m → i + d = k → 1 ≤ i → gA σ 14 (i - 1) = (v : Nat) → ∃ σ', l_M_nextPick_53 F m σ (k : Nat) (i : Nat) = some (1, σ') ∧ (∀ c, i ≤ c → c < k → gA σ' 14 c = ((v + (c - i + 1) : Nat) : Int)) ∧ (∀ c, c < i → gA σ' 14 c = gA σ 14 c) ∧ (∀ q, gF σ' q = gF σ q) ∧ ∀ a, a ≠ 14 → ∀ i, gA σ' a i = gA σ a i
  | _, 0, _, _, _, h, _, _, _ => absurd h (Nat.not_lt_zero _)
  | 0, m + 1, σ, i, v, _, hi, h1, h14 => by
    refine ⟨σ, ?_, fun c h2 h3 => by omega, fun _ _ => rfl, fun _ => rfl, fun _ _ _ => rfl⟩
    show b_M_nextPick_53 F _ σ _ _ = _
    unfold b_M_nextPick_53
    rw [gd_t (by omega), if_pos (by omega)]
  | d + 1, m + 1, σ, i, v, hm, hi, h1, h14 => by
    obtain ⟨σ', k1, k2, k3, k4, k5⟩ := M_np53 hk d m (sA σ 14 i ((v + 1 : Nat) : Int)) (i + 1) (v + 1) (by omega) (by omega) (by omega) (by rw [gA_sA, if_pos ⟨rfl, by omega⟩])
    refine ⟨σ', ?_, fun c h2 h3 => ?_, fun c h2 => by rw [k3 c (by omega), gA_sA, if_neg (by omega)], k4, fun a ha j => by rw [k5 a ha, gA_sA, if_neg (fun z => ha z.1)]⟩
    · rw [← k1]
      show b_M_nextPick_53 F _ σ _ _ = _
      unfold b_M_nextPick_53
      rw [gd_t (by omega), if_neg (by omega), gd_t (by omega), show Int.toNat ((i : Int) - 1) = i - 1 by omega, h14, bv_s, gd_t (by omega), bs_s, bv_s, Int.toNat_natCast]; rfl
    · by_cases w : c = i
      · rw [k3 c (by omega), gA_sA, if_pos ⟨rfl, w⟩]; omega
      · rw [k2 c (by omega) h3]; omega
theorem M_np4 (hI : MI s) (hF : 10 ≤ F) {x : List Nat} (hk : x.length ≤ 3) (hn : x.length ≤ (s 0).toNat) (hx : ∀ i, i < x.length → x.getD i 0 < (s 0).toNat) {σ : St} (hV : MV σ s) (h14 : ∀ i, i < x.length → gA σ 14 i = (x.getD i 0 : Nat)) : ∀ (j m : Nat), j < m → j ≤ x.length → (∀ i, j ≤ i → i < x.length → x.getD i 0 + (x.length - i) = (s 0).toNat) → (∃ c σ', c < j ∧ x.getD c 0 + (x.length - c) ≠ (s 0).toNat ∧ (∀ i, c < i → i < x.length → x.getD i 0 + (x.length - i) = (s 0).toNat) ∧ l_M_nextPick_4 F m σ (x.length : Nat) ((j : Int) - 1) = some (1, σ') ∧ (∀ i, i < x.length → gA σ' 14 i = ((if i < c then x.getD i 0 else x.getD c 0 + 1 + (i - c) : Nat) : Int)) ∧ (∀ q, gF σ' q = gF σ q) ∧ ∀ a, a ≠ 14 → ∀ i, gA σ' a i = gA σ a i) ∨ ((∀ i, i < x.length → x.getD i 0 + (x.length - i) = (s 0).toNat) ∧ l_M_nextPick_4 F m σ (x.length : Nat) ((j : Int) - 1) = some (0, σ))
  | _, 0, h, _, _ => absurd h (Nat.not_lt_zero _)
  | 0, m + 1, _, _, ha => by
    refine Or.inr ⟨fun i hi => ha i (by omega) hi, ?_⟩
    show b_M_nextPick_4 F _ σ _ _ = _
    unfold b_M_nextPick_4
    rw [gd_t (by omega), if_pos (by omega), gd_t (by omega), if_neg (by omega)]
  | j + 1, m + 1, hm, hj, ha => by
    have i0 := hI.1
    have v0 : gA σ 2 (Int.toNat 0) = s 0 := hV.1 0
    have e0 : Int.toNat (((j + 1 : Nat) : Int) - 1) = j := by omega
    have b := hx j (by omega)
    by_cases w : x.getD j 0 + (x.length - j) = (s 0).toNat
    · have e : l_M_nextPick_4 F (m + 1) σ (x.length : Nat) (((j + 1 : Nat) : Int) - 1) = l_M_nextPick_4 F m σ (x.length : Nat) ((j : Int) - 1) := by
        show b_M_nextPick_4 F _ σ _ _ = _
        unfold b_M_nextPick_4
        rw [gd_t (by omega), if_neg (by omega), gd_t (by omega), gd_t (by decide), v0, bv_s, e0, h14 j (by omega), gd_t (by omega), if_pos (by omega), bv_s]
        congr 1; omega
      rw [e]
      rcases M_np4 hI hF hk hn hx hV h14 j m (by omega) (by omega) (fun i h1 h2 => by
        by_cases q : i = j
        · rw [q]; exact w
        · exact ha i (by omega) h2) with ⟨c, σ', k1, k2⟩ | k
      · exact Or.inl ⟨c, σ', by omega, k2⟩
      · exact Or.inr k
    · obtain ⟨σ', k1, k2, k3, k4, k5⟩ := M_np53 (F := F) hk (x.length - (j + 1)) F (sA σ 14 j ((x.getD j 0 + 1 : Nat) : Int)) (j + 1) (x.getD j 0 + 1) (by omega) (by omega) (by omega) (by rw [gA_sA, if_pos ⟨rfl, by omega⟩])
      refine Or.inl ⟨j, σ', by omega, w, fun i h1 h2 => ha i (by omega) h2, ?_, fun i hi => ?_, k4, fun a ha j => by rw [k5 a ha, gA_sA, if_neg (fun z => ha z.1)]⟩
      · rw [← k1]
        show b_M_nextPick_4 F _ σ _ _ = _
        unfold b_M_nextPick_4
        rw [gd_t (by omega), if_neg (by omega), gd_t (by omega), gd_t (by decide), v0, bv_s, e0, h14 j (by omega), gd_t (by omega), if_neg (by omega), gd_t (by omega), if_pos (by omega), gd_t (by omega), gd_t (by omega), bs_s, bv_s]
        congr 1; omega
      · by_cases q : i < j
        · rw [k3 i (by omega), gA_sA, if_neg (by omega), h14 i hi, if_pos q]
        · rw [if_neg q]
          by_cases q2 : i = j
          · rw [k3 i (by omega), gA_sA, if_pos ⟨rfl, q2⟩]; omega
          · rw [k2 i (by omega) hi]; omega
/-- nextPick -/
theorem M_nextPick (hI : MI s) (hF : 10 ≤ F) {x : List Nat} (hk : x.length ≤ 3) (hn : x.length ≤ (s 0).toNat) (hx : ∀ i, i < x.length → x.getD i 0 < (s 0).toNat) {σ : St} (hV : MV σ s) (h14 : ∀ i, i < x.length → gA σ 14 i = (x.getD i 0 : Nat)) : ∃ σ', f_M_nextPick F σ (x.length : Nat) = some (if (nx (s 0).toNat x).isSome = true then 1 else 0, σ') ∧ (∀ y, nx (s 0).toNat x = some y → ∀ i, i < x.length → gA σ' 14 i = (y.getD i 0 : Nat)) ∧ (∀ q, gF σ' q = gF σ q) ∧ ∀ a, a ≠ 14 → ∀ i, gA σ' a i = gA σ a i := by
  unfold f_M_nextPick
  rw [bv_s]
  rcases M_np4 (F := F) hI hF hk hn hx hV h14 x.length F (by omega) (Nat.le_refl _) (fun i h1 h2 => by omega) with ⟨c, σ', k1, k2, k3, k4, k5, k6, k7⟩ | ⟨k1, k2⟩
  · obtain ⟨y, y1, y2, y3⟩ := nx_piv x c k1 k2 k3
    refine ⟨σ', by rw [k4, y1]; rfl, fun y' hy' i hi => ?_, k6, k7⟩
    rw [y1] at hy'
    cases hy'
    rw [k5 i hi, y3 i hi]
  · rw [nx_all x k1]
    exact ⟨σ, k2, fun y hy => (by cases hy), fun _ => rfl, fun _ _ _ => rfl⟩
end
