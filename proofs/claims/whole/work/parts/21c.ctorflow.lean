section WCf
variable {d mc ms : Nat} {cc : ByteArray} {own : String} {nL h0 : Nat} {K : KX} {B : (Nat → ClassId) → va_W → Prop} {pc : Nat} {L : List (Option Value)} {st : List Value} {ws : va_W} {cu su : Nat}
theorem c_istore_n {k : Fin 4} {x : Int} {L' : List (Option Value)} (hd : decode cc pc = .ok (.istore_n k, 1)) (hn : Nat.blt k.val nL = true) (hc : nolong L k.val = true) (hL : lset L k.val (vi x) = L') (kk : WC d mc ms cc own nL h0 K B (pc + 1) L' st ws cu su) : WC d mc ms cc own nL h0 K B pc L (vi x :: st) ws cu su := by
  intro hK
  obtain ⟨⟨p, l, e, s, m, args⟩, ⟨below, meth, c⟩, ⟨ad0, tc, D⟩⟩ := K
  obtain ⟨hx, hb, hml, hown, hts, hlk, hret, hinit, hKC⟩ := id hK
  intro H locs ls hP hD hS hl
  subst hL
  refine lv_istore_n hx hb hd rfl (LR.has hl) (Nat.le_of_ble_eq_true hn) rfl fun ls2 h2 => ?_
  exact kk hK H locs ls2 hP hD hS (LR.st1 hc h2)
theorem c_iinc {i : Nat} {n x y : Int} {L' : List (Option Value)} (hd : decode cc pc = .ok (.iinc i n, 3)) (hg : lget L i = some (vi x)) (hy : y = x + n) (hn : Nat.blt i nL = true) (hc : nolong L i = true) (hL : lset L i (vi y) = L') (kk : WC d mc ms cc own nL h0 K B (pc + 3) L' st ws cu su) : WC d mc ms cc own nL h0 K B pc L st ws cu su := by
  intro hK
  obtain ⟨⟨p, l, e, s, m, args⟩, ⟨below, meth, c⟩, ⟨ad0, tc, D⟩⟩ := K
  obtain ⟨hx, hb, hml, hown, hts, hlk, hret, hinit, hKC⟩ := id hK
  intro H locs ls hP hD hS hl
  subst hL
  have hm : (i, cv id (vi x)) ∈ lsts id L := lsts_mem.mpr ⟨vi x, hg, rfl⟩
  obtain ⟨k, hk⟩ := List.mem_iff_getElem?.mp hm
  refine lv_iinc (v := Int32.ofInt y) hx hb hd (LR.has hl) hk (by rw [hy, Int32.ofInt_add]) (Nat.le_of_ble_eq_true hn) rfl fun ls2 h2 => ?_
  exact kk hK H locs ls2 hP hD hS (LR.st1 hc h2)
theorem c_ge {x y : Nat} {off : Int} {tgt nxt : Nat} (hd : decode cc pc = .ok (.if_icmp .ge off, 3)) (ht : (pc : Int) + off = (tgt : Int)) (hx0 : Nat.blt x 100000 = true) (hy0 : Nat.blt y 100000 = true) (hz : (if y ≤ x then tgt else pc + 3) = nxt) (kk : WC d mc ms cc own nL h0 K B nxt L st ws cu su) : WC d mc ms cc own nL h0 K B pc L (vi (y : Nat) :: vi (x : Nat) :: st) ws cu su := by
  intro hK
  obtain ⟨⟨p, l, e, s, m, args⟩, ⟨below, meth, c⟩, ⟨ad0, tc, D⟩⟩ := K
  obtain ⟨hx, hb, hml, hown, hts, hlk, hret, hinit, hKC⟩ := id hK
  intro H locs ls hP hD hS hl
  have h1 := Nat.le_of_ble_eq_true hx0
  have h2 := Nat.le_of_ble_eq_true hy0
  have r1 : rng (x : Int) := ⟨by omega, by omega⟩
  have r2 : rng (y : Int) := ⟨by omega, by omega⟩
  refine lv_icmp_ge hx hb hd ht (fun q => ?_) (fun q => ?_)
  · have q := (w_le ⟨r2, r1⟩).mp q
    have q2 : y ≤ x := by omega
    rw [if_pos q2] at hz
    subst hz
    exact kk hK H locs ls hP hD hS hl
  · have q : ¬ ((y : Int) ≤ (x : Int)) := fun z => q ((w_le ⟨r2, r1⟩).mpr z)
    have q2 : ¬ y ≤ x := by omega
    rw [if_neg q2] at hz
    subst hz
    exact kk hK H locs ls hP hD hS hl
end WCf
