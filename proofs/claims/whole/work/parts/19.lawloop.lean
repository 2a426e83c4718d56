theorem xr (v : Int32) : rng v.toInt := by
  have h1 := Int32.le_toInt v
  have h2 := Int32.toInt_lt v
  exact ⟨by omega, by omega⟩
/-- feed: both sides answer alike, and stay related -/
def Sp_feed (F : Nat) (R : Bool → St → St → Prop) : Prop := ∀ (x : Bool) (σ1 σ2 : St) (p0 p1 p2 p3 p4 : Int), R x σ1 σ2 → rng p0 → rng p1 → rng p2 → rng p3 → rng p4 → ∃ (r : Int) (σ1' σ2' : St), f_W_feed F σ1 p0 p1 p2 p3 p4 = some (r, σ1') ∧ f_M_feed F σ2 p0 p1 p2 p3 p4 = some (r, σ2') ∧ R x σ1' σ2'
/-- end: both sides answer alike, and stay related -/
def Sp_end (F : Nat) (R : Bool → St → St → Prop) : Prop := ∀ (x : Bool) (σ1 σ2 : St) (p0 : Int), R x σ1 σ2 → rng p0 → ∃ (r : Int) (σ1' σ2' : St), f_W_end F σ1 p0 = some (r, σ1') ∧ f_M_end F σ2 p0 = some (r, σ2') ∧ R x σ1' σ2'
/-- field: both sides answer alike, and stay related -/
def Sp_field (F : Nat) (R : Bool → St → St → Prop) : Prop := ∀ (x : Bool) (σ1 σ2 : St), R x σ1 σ2 → ∃ (r : Int) (σ1' σ2' : St), f_W_field F σ1 = some (r, σ1') ∧ f_M_field F σ2 = some (r, σ2') ∧ R true σ1' σ2'
/-- fault: both sides answer alike, and stay related -/
def Sp_fault (F : Nat) (R : Bool → St → St → Prop) : Prop := ∀ (x : Bool) (σ1 σ2 : St), R x σ1 σ2 → ∃ (r : Int) (σ1' σ2' : St), f_W_fault F σ1 = some (r, σ1') ∧ f_M_fault F σ2 = some (r, σ2') ∧ R x σ1' σ2'
def Sp_hearer (F : Nat) (R : Bool → St → St → Prop) : Prop := ∀ (x : Bool) (σ1 σ2 : St) (p0 p1 : Int), R x σ1 σ2 → rng p0 → rng p1 → ∃ (r1 r2 : Int) (σ1' σ2' σ2t : St), f_W_hearer F σ1 p0 p1 = some (r1, σ1') ∧ (r1 = THR ∨ rng r1) ∧ f_M_hearer F σ2 p0 p1 = some (r2, σ2') ∧ rng r2 ∧ f_M_thrown F σ2' = some (if r1 = THR then 1 else 0, σ2t) ∧ (r1 ≠ THR → r1 = r2) ∧ R x σ1' σ2t
def Sp_sender (F : Nat) (R : Bool → St → St → Prop) : Prop := ∀ (x : Bool) (σ1 σ2 : St) (p0 p1 : Int), R x σ1 σ2 → rng p0 → rng p1 → ∃ (r1 r2 : Int) (σ1' σ2' σ2t : St), f_W_sender F σ1 p0 p1 = some (r1, σ1') ∧ (r1 = THR ∨ rng r1) ∧ f_M_sender F σ2 p0 p1 = some (r2, σ2') ∧ rng r2 ∧ f_M_thrown F σ2' = some (if r1 = THR then 1 else 0, σ2t) ∧ (r1 ≠ THR → r1 = r2) ∧ R x σ1' σ2t
/-- moment: both sides answer alike, and stay related -/
def Sp_moment (F : Nat) (R : Bool → St → St → Prop) : Prop := ∀ (x : Bool) (σ1 σ2 : St) (p0 : Int), R x σ1 σ2 → rng p0 → ∃ (r : Int) (σ1' σ2' : St), f_W_moment F σ1 p0 = some (r, σ1') ∧ f_M_moment F σ2 p0 = some (r, σ2') ∧ R x σ1' σ2'
/-- wave: both sides answer alike, and stay related -/
def Sp_wave (F : Nat) (R : Bool → St → St → Prop) : Prop := ∀ (x : Bool) (σ1 σ2 : St) (p0 p1 : Int), R x σ1 σ2 → rng p0 → rng p1 → ∃ (r : Int) (σ1' σ2' : St), f_W_wave F σ1 p0 p1 = some (r, σ1') ∧ f_M_wave F σ2 p0 p1 = some (r, σ2') ∧ R x σ1' σ2'
/-- reading: both sides answer alike, and stay related -/
def Sp_reading (F : Nat) (R : Bool → St → St → Prop) : Prop := ∀ (x : Bool) (σ1 σ2 : St) (p0 : Int), R x σ1 σ2 → rng p0 → ∃ (r : Int) (σ1' σ2' : St), f_W_reading F σ1 p0 = some (r, σ1') ∧ f_M_reading F σ2 p0 = some (r, σ2') ∧ R x σ1' σ2'
/-- cover: both sides answer alike, and stay related -/
def Sp_cover (F : Nat) (R : Bool → St → St → Prop) : Prop := ∀ (x : Bool) (σ1 σ2 : St) (p0 p1 : Int), R x σ1 σ2 → rng p0 → rng p1 → ∃ (r : Int) (σ1' σ2' : St), f_W_cover F σ1 p0 p1 = some (r, σ1') ∧ f_M_cover F σ2 p0 p1 = some (r, σ2') ∧ R x σ1' σ2'
/-- order: both sides answer alike, and stay related -/
def Sp_order (F : Nat) (R : Bool → St → St → Prop) : Prop := ∀ (x : Bool) (σ1 σ2 : St), R x σ1 σ2 → ∃ (r : Int) (σ1' σ2' : St), f_W_order F σ1 = some (r, σ1') ∧ f_M_order F σ2 = some (r, σ2') ∧ R x σ1' σ2'
/-- seen: both sides answer alike, and stay related -/
def Sp_seen (F : Nat) (R : Bool → St → St → Prop) : Prop := ∀ (x : Bool) (σ1 σ2 : St), R x σ1 σ2 → ∃ (r : Int) (σ1' σ2' : St), f_W_seen F σ1 = some (r, σ1') ∧ f_M_seen F σ2 = some (r, σ2') ∧ R x σ1' σ2'
/-- twins: both sides answer alike, and stay related -/
def Sp_twins (F : Nat) (R : Bool → St → St → Prop) : Prop := ∀ (x : Bool) (σ1 σ2 : St) (p0 : Int), R x σ1 σ2 → rng p0 → ∃ (r : Int) (σ1' σ2' : St), f_W_twins F σ1 p0 = some (r, σ1') ∧ f_M_twins F σ2 p0 = some (r, σ2') ∧ R x σ1' σ2'
/-- smoothed: both sides answer alike, and stay related -/
def Sp_smoothed (F : Nat) (R : Bool → St → St → Prop) : Prop := ∀ (x : Bool) (σ1 σ2 : St) (p0 : Int), R x σ1 σ2 → rng p0 → ∃ (r : Int) (σ1' σ2' : St), f_W_smoothed F σ1 p0 = some (r, σ1') ∧ f_M_smoothed F σ2 p0 = some (r, σ2') ∧ R x σ1' σ2'
/-- smoothSeen: both sides answer alike, and stay related -/
def Sp_smoothSeen (F : Nat) (R : Bool → St → St → Prop) : Prop := ∀ (x : Bool) (σ1 σ2 : St) (p0 : Int), R x σ1 σ2 → rng p0 → ∃ (r : Int) (σ1' σ2' : St), f_W_smoothSeen F σ1 p0 = some (r, σ1') ∧ f_M_smoothSeen F σ2 p0 = some (r, σ2') ∧ R x σ1' σ2'
/-- apart: both sides answer alike, and stay related -/
def Sp_apart (F : Nat) (R : Bool → St → St → Prop) : Prop := ∀ (x : Bool) (σ1 σ2 : St) (p0 : Int), R x σ1 σ2 → rng p0 → ∃ (r : Int) (σ1' σ2' : St), f_W_apart F σ1 p0 = some (r, σ1') ∧ f_M_apart F σ2 p0 = some (r, σ2') ∧ R x σ1' σ2'
/-- run: both sides answer alike, and stay related -/
def Sp_run (F : Nat) (R : Bool → St → St → Prop) : Prop := ∀ (x : Bool) (σ1 σ2 : St), R x σ1 σ2 → ∃ (r : Int) (σ1' σ2' : St), f_W_run F σ1 = some (r, σ1') ∧ f_M_run F σ2 = some (r, σ2') ∧ R x σ1' σ2'
/-- lag: both sides answer alike, and stay related -/
def Sp_lag (F : Nat) (R : Bool → St → St → Prop) : Prop := ∀ (x : Bool) (σ1 σ2 : St) (p0 : Int), R x σ1 σ2 → rng p0 → ∃ (r : Int) (σ1' σ2' : St), f_W_lag F σ1 p0 = some (r, σ1') ∧ f_M_lag F σ2 p0 = some (r, σ2') ∧ R x σ1' σ2'
/-- rule: both sides answer alike, and stay related -/
def Sp_rule (F : Nat) (R : Bool → St → St → Prop) : Prop := ∀ (x : Bool) (σ1 σ2 : St) (p0 : Int), R x σ1 σ2 → rng p0 → ∃ (r : Int) (σ1' σ2' : St), f_W_rule F σ1 p0 = some (r, σ1') ∧ f_M_rule F σ2 p0 = some (r, σ2') ∧ R x σ1' σ2'
/-- ruleAt: both sides answer alike, and stay related -/
def Sp_ruleAt (F : Nat) (R : Bool → St → St → Prop) : Prop := ∀ (x : Bool) (σ1 σ2 : St) (p0 : Int), R x σ1 σ2 → rng p0 → ∃ (r : Int) (σ1' σ2' : St), f_W_ruleAt F σ1 p0 = some (r, σ1') ∧ f_M_ruleAt F σ2 p0 = some (r, σ2') ∧ R x σ1' σ2'
/-- roots: both sides answer alike, and stay related -/
def Sp_roots (F : Nat) (R : Bool → St → St → Prop) : Prop := ∀ (x : Bool) (σ1 σ2 : St), R x σ1 σ2 → ∃ (r : Int) (σ1' σ2' : St), f_W_roots F σ1 = some (r, σ1') ∧ f_M_roots F σ2 = some (r, σ2') ∧ R x σ1' σ2'
/-- strength: both sides answer alike, and stay related -/
def Sp_strength (F : Nat) (R : Bool → St → St → Prop) : Prop := ∀ (x : Bool) (σ1 σ2 : St) (p0 : Int), R x σ1 σ2 → rng p0 → ∃ (r : Int) (σ1' σ2' : St), f_W_strength F σ1 p0 = some (r, σ1') ∧ f_M_strength F σ2 p0 = some (r, σ2') ∧ R x σ1' σ2'
/-- tracks: both sides answer alike, and stay related -/
def Sp_tracks (F : Nat) (R : Bool → St → St → Prop) : Prop := ∀ (x : Bool) (σ1 σ2 : St) (p0 : Int), R x σ1 σ2 → rng p0 → ∃ (r : Int) (σ1' σ2' : St), f_W_tracks F σ1 p0 = some (r, σ1') ∧ f_M_tracks F σ2 p0 = some (r, σ2') ∧ R x σ1' σ2'
/-- track: both sides answer alike, and stay related -/
def Sp_track (F : Nat) (R : Bool → St → St → Prop) : Prop := ∀ (x : Bool) (σ1 σ2 : St) (p0 : Int), R x σ1 σ2 → rng p0 → ∃ (r : Int) (σ1' σ2' : St), f_W_track F σ1 p0 = some (r, σ1') ∧ f_M_track F σ2 p0 = some (r, σ2') ∧ R x σ1' σ2'
/-- enough: both sides answer alike, and stay related -/
def Sp_enough (F : Nat) (R : Bool → St → St → Prop) : Prop := ∀ (x : Bool) (σ1 σ2 : St), R x σ1 σ2 → ∃ (r : Int) (σ1' σ2' : St), f_W_enough F σ1 = some (r, σ1') ∧ f_M_enough F σ2 = some (r, σ2') ∧ R x σ1' σ2'
/-- lose: both sides answer alike, and stay related -/
def Sp_lose (F : Nat) (R : Bool → St → St → Prop) : Prop := ∀ (x : Bool) (σ1 σ2 : St) (p0 : Int), R x σ1 σ2 → rng p0 → ∃ (r : Int) (σ1' σ2' : St), f_W_lose F σ1 p0 = some (r, σ1') ∧ f_M_lose F σ2 p0 = some (r, σ2') ∧ R x σ1' σ2'
/-- fewest: both sides answer alike, and stay related -/
def Sp_fewest (F : Nat) (R : Bool → St → St → Prop) : Prop := ∀ (x : Bool) (σ1 σ2 : St), R x σ1 σ2 → ∃ (r : Int) (σ1' σ2' : St), f_W_fewest F σ1 = some (r, σ1') ∧ f_M_fewest F σ2 = some (r, σ2') ∧ R x σ1' σ2'
/-- made: both sides answer alike, and stay related -/
def Sp_made (F : Nat) (R : Bool → St → St → Prop) : Prop := ∀ (x : Bool) (σ1 σ2 : St) (p0 : Int), R x σ1 σ2 → rng p0 → ∃ (r : Int) (σ1' σ2' : St), f_W_made F σ1 p0 = some (r, σ1') ∧ f_M_made F σ2 p0 = some (r, σ2') ∧ R x σ1' σ2'
/-- madeBy: both sides answer alike, and stay related -/
def Sp_madeBy (F : Nat) (R : Bool → St → St → Prop) : Prop := ∀ (x : Bool) (σ1 σ2 : St) (p0 : Int), R x σ1 σ2 → rng p0 → ∃ (r : Int) (σ1' σ2' : St), f_W_madeBy F σ1 p0 = some (r, σ1') ∧ f_M_madeBy F σ2 p0 = some (r, σ2') ∧ R x σ1' σ2'
/-- liars: both sides answer alike, and stay related -/
def Sp_liars (F : Nat) (R : Bool → St → St → Prop) : Prop := ∀ (x : Bool) (σ1 σ2 : St) (p0 : Int), R x σ1 σ2 → rng p0 → ∃ (r : Int) (σ1' σ2' : St), f_W_liars F σ1 p0 = some (r, σ1') ∧ f_M_liars F σ2 p0 = some (r, σ2') ∧ R x σ1' σ2'
/-- liar: both sides answer alike, and stay related -/
def Sp_liar (F : Nat) (R : Bool → St → St → Prop) : Prop := ∀ (x : Bool) (σ1 σ2 : St) (p0 : Int), R x σ1 σ2 → rng p0 → ∃ (r : Int) (σ1' σ2' : St), f_W_liar F σ1 p0 = some (r, σ1') ∧ f_M_liar F σ2 p0 = some (r, σ2') ∧ R x σ1' σ2'
/-- nulled: both sides answer alike, and stay related -/
def Sp_nulled (F : Nat) (R : Bool → St → St → Prop) : Prop := ∀ (x : Bool) (σ1 σ2 : St), R x σ1 σ2 → ∃ (r : Int) (σ1' σ2' : St), f_W_nulled F σ1 = some (r, σ1') ∧ f_M_nulled F σ2 = some (r, σ2') ∧ R x σ1' σ2'
/-- number: both sides answer alike, and stay related -/
def Sp_number (F : Nat) (R : Bool → St → St → Prop) : Prop := ∀ (x : Bool) (σ1 σ2 : St) (p0 : Int), R x σ1 σ2 → rng p0 → ∃ (r : Int) (σ1' σ2' : St), f_W_number F σ1 p0 = some (r, σ1') ∧ f_M_number F σ2 p0 = some (r, σ2') ∧ R x σ1' σ2'
/-- comes: both sides answer alike, and stay related -/
def Sp_comes (F : Nat) (R : Bool → St → St → Prop) : Prop := ∀ (x : Bool) (σ1 σ2 : St) (p0 : Int), R x σ1 σ2 → rng p0 → ∃ (r : Int) (σ1' σ2' : St), f_W_comes F σ1 p0 = some (r, σ1') ∧ f_M_comes F σ2 p0 = some (r, σ2') ∧ R x σ1' σ2'
/-- mend: both sides answer alike, and stay related -/
def Sp_mend (F : Nat) (R : Bool → St → St → Prop) : Prop := ∀ (x : Bool) (σ1 σ2 : St) (p0 : Int), R x σ1 σ2 → rng p0 → ∃ (r : Int) (σ1' σ2' : St), f_W_mend F σ1 p0 = some (r, σ1') ∧ f_M_mend F σ2 p0 = some (r, σ2') ∧ R x σ1' σ2'
def Sp_cross (F : Nat) (R : Bool → St → St → Prop) : Prop := ∀ (x : Bool) (σ1 σ2 : St) (p0 p1 p2 : Int), R x σ1 σ2 → rng p0 → rng p1 → rng p2 → ∃ (r1 r2 : Int) (σ1' σ2' σ2t : St), f_W_cross F σ1 p0 p1 p2 = some (r1, σ1') ∧  f_M_cross F σ2 p0 p1 p2 = some (r2, σ2') ∧  f_M_thrown F σ2' = some (if r1 = THR then 1 else 0, σ2t) ∧ (r1 ≠ THR → r1 = r2) ∧ R x σ1' σ2t
/-- fix: both sides answer alike, and stay related -/
def Sp_fix (F : Nat) (R : Bool → St → St → Prop) : Prop := ∀ (x : Bool) (σ1 σ2 : St), R x σ1 σ2 → ∃ (r : Int) (σ1' σ2' : St), f_W_fix F σ1 = some (r, σ1') ∧ f_M_fix F σ2 = some (r, σ2') ∧ R x σ1' σ2'
/-- fixAt: both sides answer alike, and stay related -/
def Sp_fixAt (F : Nat) (R : Bool → St → St → Prop) : Prop := ∀ (x : Bool) (σ1 σ2 : St) (p0 : Int), R x σ1 σ2 → rng p0 → ∃ (r : Int) (σ1' σ2' : St), f_W_fixAt F σ1 p0 = some (r, σ1') ∧ f_M_fixAt F σ2 p0 = some (r, σ2') ∧ R x σ1' σ2'
/-- through: both sides answer alike, and stay related -/
def Sp_through (F : Nat) (R : Bool → St → St → Prop) : Prop := ∀ (x : Bool) (σ1 σ2 : St) (p0 p1 : Int), R x σ1 σ2 → rng p0 → rng p1 → ∃ (r : Int) (σ1' σ2' : St), f_W_through F σ1 p0 p1 = some (r, σ1') ∧ f_M_through F σ2 p0 p1 = some (r, σ2') ∧ R x σ1' σ2'
/-- image: both sides answer alike, and stay related -/
def Sp_image (F : Nat) (R : Bool → St → St → Prop) : Prop := ∀ (x : Bool) (σ1 σ2 : St) (p0 : Int), R x σ1 σ2 → rng p0 → ∃ (r : Int) (σ1' σ2' : St), f_W_image F σ1 p0 = some (r, σ1') ∧ f_M_image F σ2 p0 = some (r, σ2') ∧ R x σ1' σ2'
/-- restore: both sides answer alike, and stay related -/
def Sp_restore (F : Nat) (R : Bool → St → St → Prop) : Prop := ∀ (x : Bool) (σ1 σ2 : St) (p0 : Int), R x σ1 σ2 → rng p0 → ∃ (r : Int) (σ1' σ2' : St), f_W_restore F σ1 p0 = some (r, σ1') ∧ f_M_restore F σ2 p0 = some (r, σ2') ∧ R x σ1' σ2'
/-- count: both sides answer alike, and stay related -/
def Sp_count (F : Nat) (R : Bool → St → St → Prop) : Prop := ∀ (x : Bool) (σ1 σ2 : St) (p0 : Int), R x σ1 σ2 → rng p0 → ∃ (r : Int) (σ1' σ2' : St), f_W_count F σ1 p0 = some (r, σ1') ∧ f_M_count F σ2 p0 = some (r, σ2') ∧ R x σ1' σ2'
set_option maxRecDepth 100000 in
set_option maxHeartbeats 4000000 in
theorem lc_feed {N : Nat} {xs : Nat → Int32} {K : KL} {i0 : Nat} {x : Bool} {σ1 σ2 : St} {w : Nat → Int64} {cu su F : Nat} {R : Bool → St → St → Prop} (hsp : Sp_feed F R) (hR : R x σ1 σ2) (hi : i0 + 6 ≤ N) (hcu : cu + 1 ≤ 601024) (hsu : su + 6 ≤ 7293034) (hnext : ∀ (x' : Bool) (σ1' σ2' : St) (w' : Nat → Int64), R x' σ1' σ2' → WL N xs K 1382 [some (.ref 0), some (.ref 1), some (.ref 2), some (.ref 3), some (vi (i0 : Nat)), none, none, none] [] x' σ1' σ2' w' (cu + 1) (su + 6)) : WL N xs K 224 [some (.ref 0), some (.ref 1), some (.ref 2), some (.ref 3), some (vi (i0 : Nat)), none, none, none] [] x σ1 σ2 w cu su := by
  obtain ⟨r, σ1', σ2', h1, h2, h3⟩ := hsp x σ1 σ2 ((xs (i0 + 1)).toInt) ((xs (i0 + 2)).toInt) ((xs (i0 + 3)).toInt) ((xs (i0 + 4)).toInt) ((xs (i0 + 5)).toInt) hR (xr _) (xr _) (xr _) (xr _) (xr _)
  refine l_aload_n dL_law_224 rfl ?_
  refine l_aload_n dL_law_225 rfl ?_
  refine l_iload dL_law_226 rfl ?_
  refine l_iconst dL_law_228 ?_
  refine l_iadd dL_law_229 ?_
  refine l_sld (j := i0 + 1) (by omega) (by omega) dL_law_230 ?_
  refine l_aload_n dL_law_231 rfl ?_
  refine l_iload dL_law_232 rfl ?_
  refine l_iconst dL_law_234 ?_
  refine l_iadd dL_law_235 ?_
  refine l_sld (j := i0 + 2) (by omega) (by omega) dL_law_236 ?_
  refine l_aload_n dL_law_237 rfl ?_
  refine l_iload dL_law_238 rfl ?_
  refine l_iconst dL_law_240 ?_
  refine l_iadd dL_law_241 ?_
  refine l_sld (j := i0 + 3) (by omega) (by omega) dL_law_242 ?_
  refine l_aload_n dL_law_243 rfl ?_
  refine l_iload dL_law_244 rfl ?_
  refine l_iconst dL_law_246 ?_
  refine l_iadd dL_law_247 ?_
  refine l_sld (j := i0 + 4) (by omega) (by omega) dL_law_248 ?_
  refine l_aload_n dL_law_249 rfl ?_
  refine l_iload dL_law_250 rfl ?_
  refine l_iconst dL_law_252 ?_
  refine l_iadd dL_law_253 ?_
  refine l_sld (j := i0 + 5) (by omega) (by omega) dL_law_254 ?_
  refine l_callCi (as := [vi ((xs (i0 + 1)).toInt), vi ((xs (i0 + 2)).toInt), vi ((xs (i0 + 3)).toInt), vi ((xs (i0 + 4)).toInt), vi ((xs (i0 + 5)).toInt)]) mf_L_26 rfl h1 (c_W_feed (x := x) F σ1 ((xs (i0 + 1)).toInt) ((xs (i0 + 2)).toInt) ((xs (i0 + 3)).toInt) ((xs (i0 + 4)).toInt) ((xs (i0 + 5)).toInt)) dL_law_255 rfl rfl rfl rfl rfl rfl (by omega) (by omega) ?_
  refine l_aload_n dL_law_258 rfl ?_
  refine l_aload_n dL_law_259 rfl ?_
  refine l_iload dL_law_260 rfl ?_
  refine l_iconst dL_law_262 ?_
  refine l_iadd dL_law_263 ?_
  refine l_sld (j := i0 + 1) (by omega) (by omega) dL_law_264 ?_
  refine l_aload_n dL_law_265 rfl ?_
  refine l_iload dL_law_266 rfl ?_
  refine l_iconst dL_law_268 ?_
  refine l_iadd dL_law_269 ?_
  refine l_sld (j := i0 + 2) (by omega) (by omega) dL_law_270 ?_
  refine l_aload_n dL_law_271 rfl ?_
  refine l_iload dL_law_272 rfl ?_
  refine l_iconst dL_law_274 ?_
  refine l_iadd dL_law_275 ?_
  refine l_sld (j := i0 + 3) (by omega) (by omega) dL_law_276 ?_
  refine l_aload_n dL_law_277 rfl ?_
  refine l_iload dL_law_278 rfl ?_
  refine l_iconst dL_law_280 ?_
  refine l_iadd dL_law_281 ?_
  refine l_sld (j := i0 + 4) (by omega) (by omega) dL_law_282 ?_
  refine l_aload_n dL_law_283 rfl ?_
  refine l_iload dL_law_284 rfl ?_
  refine l_iconst dL_law_286 ?_
  refine l_iadd dL_law_287 ?_
  refine l_sld (j := i0 + 5) (by omega) (by omega) dL_law_288 ?_
  refine l_callMi (as := [vi ((xs (i0 + 1)).toInt), vi ((xs (i0 + 2)).toInt), vi ((xs (i0 + 3)).toInt), vi ((xs (i0 + 4)).toInt), vi ((xs (i0 + 5)).toInt)]) mf_L_30 rfl h2 (c_M_feed F σ2 ((xs (i0 + 1)).toInt) ((xs (i0 + 2)).toInt) ((xs (i0 + 3)).toInt) ((xs (i0 + 4)).toInt) ((xs (i0 + 5)).toInt)) dL_law_289 rfl rfl rfl rfl rfl rfl (by omega) (by omega) ?_
  refine l_icmp_eq rfl dL_law_292 rfl ?_
  exact l_widen (by omega) (by omega) (hnext _ _ _ _ h3)
set_option maxRecDepth 100000 in
set_option maxHeartbeats 4000000 in
theorem lc_end {N : Nat} {xs : Nat → Int32} {K : KL} {i0 : Nat} {x : Bool} {σ1 σ2 : St} {w : Nat → Int64} {cu su F : Nat} {R : Bool → St → St → Prop} (hsp : Sp_end F R) (hR : R x σ1 σ2) (hi : i0 + 6 ≤ N) (hcu : cu + 1 ≤ 601024) (hsu : su + 6 ≤ 7293034) (hnext : ∀ (x' : Bool) (σ1' σ2' : St) (w' : Nat → Int64), R x' σ1' σ2' → WL N xs K 1382 [some (.ref 0), some (.ref 1), some (.ref 2), some (.ref 3), some (vi (i0 : Nat)), none, none, none] [] x' σ1' σ2' w' (cu + 1) (su + 6)) : WL N xs K 297 [some (.ref 0), some (.ref 1), some (.ref 2), some (.ref 3), some (vi (i0 : Nat)), none, none, none] [] x σ1 σ2 w cu su := by
  obtain ⟨r, σ1', σ2', h1, h2, h3⟩ := hsp x σ1 σ2 ((xs (i0 + 1)).toInt) hR (xr _)
  refine l_aload_n dL_law_297 rfl ?_
  refine l_aload_n dL_law_298 rfl ?_
  refine l_iload dL_law_299 rfl ?_
  refine l_iconst dL_law_301 ?_
  refine l_iadd dL_law_302 ?_
  refine l_sld (j := i0 + 1) (by omega) (by omega) dL_law_303 ?_
  refine l_callCi (as := [vi ((xs (i0 + 1)).toInt)]) mf_L_31 rfl h1 (c_W_end (x := x) F σ1 ((xs (i0 + 1)).toInt)) dL_law_304 rfl rfl rfl rfl rfl rfl (by omega) (by omega) ?_
  refine l_aload_n dL_law_307 rfl ?_
  refine l_aload_n dL_law_308 rfl ?_
  refine l_iload dL_law_309 rfl ?_
  refine l_iconst dL_law_311 ?_
  refine l_iadd dL_law_312 ?_
  refine l_sld (j := i0 + 1) (by omega) (by omega) dL_law_313 ?_
  refine l_callMi (as := [vi ((xs (i0 + 1)).toInt)]) mf_L_35 rfl h2 (c_M_end F σ2 ((xs (i0 + 1)).toInt)) dL_law_314 rfl rfl rfl rfl rfl rfl (by omega) (by omega) ?_
  refine l_icmp_eq rfl dL_law_317 rfl ?_
  exact l_widen (by omega) (by omega) (hnext _ _ _ _ h3)
set_option maxRecDepth 100000 in
set_option maxHeartbeats 4000000 in
theorem lc_field {N : Nat} {xs : Nat → Int32} {K : KL} {i0 : Nat} {x : Bool} {σ1 σ2 : St} {w : Nat → Int64} {cu su F : Nat} {R : Bool → St → St → Prop} (hsp : Sp_field F R) (hR : R x σ1 σ2) (hi : i0 + 6 ≤ N) (hcu : cu + 1 ≤ 601024) (hsu : su + 6 ≤ 7293034) (hnext : ∀ (x' : Bool) (σ1' σ2' : St) (w' : Nat → Int64), R x' σ1' σ2' → WL N xs K 1382 [some (.ref 0), some (.ref 1), some (.ref 2), some (.ref 3), some (vi (i0 : Nat)), none, none, none] [] x' σ1' σ2' w' (cu + 1) (su + 6)) : WL N xs K 322 [some (.ref 0), some (.ref 1), some (.ref 2), some (.ref 3), some (vi (i0 : Nat)), none, none, none] [] x σ1 σ2 w cu su := by
  obtain ⟨r, σ1', σ2', h1, h2, h3⟩ := hsp x σ1 σ2 hR
  refine l_aload_n dL_law_322 rfl ?_
  refine l_callCi (as := []) mf_L_36 rfl h1 (c_W_field (x := x) F σ1) dL_law_323 rfl rfl rfl rfl rfl rfl (by omega) (by omega) ?_
  refine l_aload_n dL_law_326 rfl ?_
  refine l_callMi (as := []) mf_L_40 rfl h2 (c_M_field F σ2) dL_law_327 rfl rfl rfl rfl rfl rfl (by omega) (by omega) ?_
  refine l_icmp_eq rfl dL_law_330 rfl ?_
  exact l_widen (by omega) (by omega) (hnext _ _ _ _ h3)
set_option maxRecDepth 100000 in
set_option maxHeartbeats 4000000 in
theorem lc_fault {N : Nat} {xs : Nat → Int32} {K : KL} {i0 : Nat} {x : Bool} {σ1 σ2 : St} {w : Nat → Int64} {cu su F : Nat} {R : Bool → St → St → Prop} (hsp : Sp_fault F R) (hR : R x σ1 σ2) (hi : i0 + 6 ≤ N) (hcu : cu + 1 ≤ 601024) (hsu : su + 6 ≤ 7293034) (hnext : ∀ (x' : Bool) (σ1' σ2' : St) (w' : Nat → Int64), R x' σ1' σ2' → WL N xs K 1382 [some (.ref 0), some (.ref 1), some (.ref 2), some (.ref 3), some (vi (i0 : Nat)), none, none, none] [] x' σ1' σ2' w' (cu + 1) (su + 6)) : WL N xs K 335 [some (.ref 0), some (.ref 1), some (.ref 2), some (.ref 3), some (vi (i0 : Nat)), none, none, none] [] x σ1 σ2 w cu su := by
  obtain ⟨r, σ1', σ2', h1, h2, h3⟩ := hsp x σ1 σ2 hR
  refine l_aload_n dL_law_335 rfl ?_
  refine l_callCi (as := []) mf_L_41 rfl h1 (c_W_fault (x := x) F σ1) dL_law_336 rfl rfl rfl rfl rfl rfl (by omega) (by omega) ?_
  refine l_aload_n dL_law_339 rfl ?_
  refine l_callMi (as := []) mf_L_44 rfl h2 (c_M_fault F σ2) dL_law_340 rfl rfl rfl rfl rfl rfl (by omega) (by omega) ?_
  refine l_icmp_eq rfl dL_law_343 rfl ?_
  exact l_widen (by omega) (by omega) (hnext _ _ _ _ h3)
set_option maxRecDepth 100000 in
set_option maxHeartbeats 4000000 in
theorem lc_hearer {N : Nat} {xs : Nat → Int32} {K : KL} {i0 : Nat} {x : Bool} {σ1 σ2 : St} {w : Nat → Int64} {cu su F : Nat} {R : Bool → St → St → Prop} (hsp : Sp_hearer F R) (hR : R x σ1 σ2) (hi : i0 + 6 ≤ N) (hcu : cu + 1 ≤ 601024) (hsu : su + 6 ≤ 7293034) (hnext : ∀ (x' : Bool) (σ1' σ2' : St) (w' : Nat → Int64), R x' σ1' σ2' → WL N xs K 1382 [some (.ref 0), some (.ref 1), some (.ref 2), some (.ref 3), some (vi (i0 : Nat)), none, none, none] [] x' σ1' σ2' w' (cu + 1) (su + 6)) : WL N xs K 348 [some (.ref 0), some (.ref 1), some (.ref 2), some (.ref 3), some (vi (i0 : Nat)), none, none, none] [] x σ1 σ2 w cu su := by
  obtain ⟨r1, r2, σ1', σ2', σ2t, h1, hr1, h2, hr2, h4, h5, h3⟩ := hsp x σ1 σ2 ((xs (i0 + 1)).toInt) ((xs (i0 + 2)).toInt) hR (xr _) (xr _)
  refine l_aload_n dL_law_348 rfl ?_
  refine l_aload_n dL_law_349 rfl ?_
  refine l_iload dL_law_350 rfl ?_
  refine l_iconst dL_law_352 ?_
  refine l_iadd dL_law_353 ?_
  refine l_sld (j := i0 + 1) (by omega) (by omega) dL_law_354 ?_
  refine l_aload_n dL_law_355 rfl ?_
  refine l_iload dL_law_356 rfl ?_
  refine l_iconst dL_law_358 ?_
  refine l_iadd dL_law_359 ?_
  refine l_sld (j := i0 + 2) (by omega) (by omega) dL_law_360 ?_
  refine l_aload_n dL_law_361 rfl ?_
  refine l_callH_hearer h1 hr1 dL_law_362 rfl (by omega) (by omega) ?_
  refine l_istore (L' := [some (.ref 0), some (.ref 1), some (.ref 2), some (.ref 3), some (vi (i0 : Nat)), some (vi (if r1 = THR then 1 else 0)), none, none]) dL_law_365 rfl rfl rfl rfl ?_
  refine l_aload_n dL_law_367 rfl ?_
  refine l_aload_n dL_law_368 rfl ?_
  refine l_iload dL_law_369 rfl ?_
  refine l_iconst dL_law_371 ?_
  refine l_iadd dL_law_372 ?_
  refine l_sld (j := i0 + 1) (by omega) (by omega) dL_law_373 ?_
  refine l_aload_n dL_law_374 rfl ?_
  refine l_iload dL_law_375 rfl ?_
  refine l_iconst dL_law_377 ?_
  refine l_iadd dL_law_378 ?_
  refine l_sld (j := i0 + 2) (by omega) (by omega) dL_law_379 ?_
  refine l_callMi (as := [vi ((xs (i0 + 1)).toInt), vi ((xs (i0 + 2)).toInt)]) mf_L_50 rfl h2 (c_M_hearer F σ2 ((xs (i0 + 1)).toInt) ((xs (i0 + 2)).toInt)) dL_law_380 rfl rfl rfl rfl rfl rfl (by omega) (by omega) ?_
  refine l_istore (L' := [some (.ref 0), some (.ref 1), some (.ref 2), some (.ref 3), some (vi (i0 : Nat)), some (vi (if r1 = THR then 1 else 0)), some (vi r2), none]) dL_law_383 rfl rfl rfl rfl ?_
  refine l_aload_n dL_law_385 rfl ?_
  refine l_callMi (as := []) mf_L_51 rfl h4 (c_M_thrown F σ2') dL_law_386 rfl rfl rfl rfl rfl rfl (by omega) (by omega) ?_
  refine l_iload dL_law_389 rfl ?_
  refine l_icmp_eq rfl dL_law_391 rfl ?_
  refine l_iload dL_law_396 rfl ?_
  refine l_if_ne (by split <;> decide) dL_law_398 rfl (fun _ => ?_) (fun hz => ?_)
  · refine l_L (lsub_get (A := [some (.ref 0), some (.ref 1), some (.ref 2), some (.ref 3), some (vi (i0 : Nat)), none, none, none]) ⟨rfl, ⟨rfl, ⟨rfl, ⟨rfl, ⟨rfl, trivial⟩⟩⟩⟩⟩) ?_
    refine l_goto dL_law_413 rfl ?_
    exact hnext _ _ _ _ h3
  have hne : r1 ≠ THR := fun q => by rw [if_pos q] at hz; exact absurd hz (by decide)
  refine l_aload_n dL_law_401 rfl ?_
  refine l_iconst dL_law_402 ?_
  refine l_outld (v := r1) (by rw [if_neg hne]; rfl) dL_law_403 ?_
  refine l_iload dL_law_404 rfl ?_
  refine l_i2l hr2 dL_law_406 ?_
  refine l_lcmp_eq (h5 hne) dL_law_407 dL_law_408 rfl ?_
  refine l_L (lsub_get (A := [some (.ref 0), some (.ref 1), some (.ref 2), some (.ref 3), some (vi (i0 : Nat)), none, none, none]) ⟨rfl, ⟨rfl, ⟨rfl, ⟨rfl, ⟨rfl, trivial⟩⟩⟩⟩⟩) ?_
  refine l_goto dL_law_413 rfl ?_
  exact hnext _ _ _ _ h3
set_option maxRecDepth 100000 in
set_option maxHeartbeats 4000000 in
theorem lc_sender {N : Nat} {xs : Nat → Int32} {K : KL} {i0 : Nat} {x : Bool} {σ1 σ2 : St} {w : Nat → Int64} {cu su F : Nat} {R : Bool → St → St → Prop} (hsp : Sp_sender F R) (hR : R x σ1 σ2) (hi : i0 + 6 ≤ N) (hcu : cu + 1 ≤ 601024) (hsu : su + 6 ≤ 7293034) (hnext : ∀ (x' : Bool) (σ1' σ2' : St) (w' : Nat → Int64), R x' σ1' σ2' → WL N xs K 1382 [some (.ref 0), some (.ref 1), some (.ref 2), some (.ref 3), some (vi (i0 : Nat)), none, none, none] [] x' σ1' σ2' w' (cu + 1) (su + 6)) : WL N xs K 416 [some (.ref 0), some (.ref 1), some (.ref 2), some (.ref 3), some (vi (i0 : Nat)), none, none, none] [] x σ1 σ2 w cu su := by
  obtain ⟨r1, r2, σ1', σ2', σ2t, h1, hr1, h2, hr2, h4, h5, h3⟩ := hsp x σ1 σ2 ((xs (i0 + 1)).toInt) ((xs (i0 + 2)).toInt) hR (xr _) (xr _)
  refine l_aload_n dL_law_416 rfl ?_
  refine l_aload_n dL_law_417 rfl ?_
  refine l_iload dL_law_418 rfl ?_
  refine l_iconst dL_law_420 ?_
  refine l_iadd dL_law_421 ?_
  refine l_sld (j := i0 + 1) (by omega) (by omega) dL_law_422 ?_
  refine l_aload_n dL_law_423 rfl ?_
  refine l_iload dL_law_424 rfl ?_
  refine l_iconst dL_law_426 ?_
  refine l_iadd dL_law_427 ?_
  refine l_sld (j := i0 + 2) (by omega) (by omega) dL_law_428 ?_
  refine l_aload_n dL_law_429 rfl ?_
  refine l_callH_sender h1 hr1 dL_law_430 rfl (by omega) (by omega) ?_
  refine l_istore (L' := [some (.ref 0), some (.ref 1), some (.ref 2), some (.ref 3), some (vi (i0 : Nat)), some (vi (if r1 = THR then 1 else 0)), none, none]) dL_law_433 rfl rfl rfl rfl ?_
  refine l_aload_n dL_law_435 rfl ?_
  refine l_aload_n dL_law_436 rfl ?_
  refine l_iload dL_law_437 rfl ?_
  refine l_iconst dL_law_439 ?_
  refine l_iadd dL_law_440 ?_
  refine l_sld (j := i0 + 1) (by omega) (by omega) dL_law_441 ?_
  refine l_aload_n dL_law_442 rfl ?_
  refine l_iload dL_law_443 rfl ?_
  refine l_iconst dL_law_445 ?_
  refine l_iadd dL_law_446 ?_
  refine l_sld (j := i0 + 2) (by omega) (by omega) dL_law_447 ?_
  refine l_callMi (as := [vi ((xs (i0 + 1)).toInt), vi ((xs (i0 + 2)).toInt)]) mf_L_56 rfl h2 (c_M_sender F σ2 ((xs (i0 + 1)).toInt) ((xs (i0 + 2)).toInt)) dL_law_448 rfl rfl rfl rfl rfl rfl (by omega) (by omega) ?_
  refine l_istore (L' := [some (.ref 0), some (.ref 1), some (.ref 2), some (.ref 3), some (vi (i0 : Nat)), some (vi (if r1 = THR then 1 else 0)), some (vi r2), none]) dL_law_451 rfl rfl rfl rfl ?_
  refine l_aload_n dL_law_453 rfl ?_
  refine l_callMi (as := []) mf_L_51 rfl h4 (c_M_thrown F σ2') dL_law_454 rfl rfl rfl rfl rfl rfl (by omega) (by omega) ?_
  refine l_iload dL_law_457 rfl ?_
  refine l_icmp_eq rfl dL_law_459 rfl ?_
  refine l_iload dL_law_464 rfl ?_
  refine l_if_ne (by split <;> decide) dL_law_466 rfl (fun _ => ?_) (fun hz => ?_)
  · refine l_L (lsub_get (A := [some (.ref 0), some (.ref 1), some (.ref 2), some (.ref 3), some (vi (i0 : Nat)), none, none, none]) ⟨rfl, ⟨rfl, ⟨rfl, ⟨rfl, ⟨rfl, trivial⟩⟩⟩⟩⟩) ?_
    refine l_goto dL_law_481 rfl ?_
    exact hnext _ _ _ _ h3
  have hne : r1 ≠ THR := fun q => by rw [if_pos q] at hz; exact absurd hz (by decide)
  refine l_aload_n dL_law_469 rfl ?_
  refine l_iconst dL_law_470 ?_
  refine l_outld (v := r1) (by rw [if_neg hne]; rfl) dL_law_471 ?_
  refine l_iload dL_law_472 rfl ?_
  refine l_i2l hr2 dL_law_474 ?_
  refine l_lcmp_eq (h5 hne) dL_law_475 dL_law_476 rfl ?_
  refine l_L (lsub_get (A := [some (.ref 0), some (.ref 1), some (.ref 2), some (.ref 3), some (vi (i0 : Nat)), none, none, none]) ⟨rfl, ⟨rfl, ⟨rfl, ⟨rfl, ⟨rfl, trivial⟩⟩⟩⟩⟩) ?_
  refine l_goto dL_law_481 rfl ?_
  exact hnext _ _ _ _ h3
set_option maxRecDepth 100000 in
set_option maxHeartbeats 4000000 in
theorem lc_moment {N : Nat} {xs : Nat → Int32} {K : KL} {i0 : Nat} {x : Bool} {σ1 σ2 : St} {w : Nat → Int64} {cu su F : Nat} {R : Bool → St → St → Prop} (hsp : Sp_moment F R) (hR : R x σ1 σ2) (hi : i0 + 6 ≤ N) (hcu : cu + 1 ≤ 601024) (hsu : su + 6 ≤ 7293034) (hnext : ∀ (x' : Bool) (σ1' σ2' : St) (w' : Nat → Int64), R x' σ1' σ2' → WL N xs K 1382 [some (.ref 0), some (.ref 1), some (.ref 2), some (.ref 3), some (vi (i0 : Nat)), none, none, none] [] x' σ1' σ2' w' (cu + 1) (su + 6)) : WL N xs K 484 [some (.ref 0), some (.ref 1), some (.ref 2), some (.ref 3), some (vi (i0 : Nat)), none, none, none] [] x σ1 σ2 w cu su := by
  obtain ⟨r, σ1', σ2', h1, h2, h3⟩ := hsp x σ1 σ2 ((xs (i0 + 1)).toInt) hR (xr _)
  refine l_aload_n dL_law_484 rfl ?_
  refine l_aload_n dL_law_485 rfl ?_
  refine l_iload dL_law_486 rfl ?_
  refine l_iconst dL_law_488 ?_
  refine l_iadd dL_law_489 ?_
  refine l_sld (j := i0 + 1) (by omega) (by omega) dL_law_490 ?_
  refine l_callCi (as := [vi ((xs (i0 + 1)).toInt)]) mf_L_57 rfl h1 (c_W_moment (x := x) F σ1 ((xs (i0 + 1)).toInt)) dL_law_491 rfl rfl rfl rfl rfl rfl (by omega) (by omega) ?_
  refine l_aload_n dL_law_494 rfl ?_
  refine l_aload_n dL_law_495 rfl ?_
  refine l_iload dL_law_496 rfl ?_
  refine l_iconst dL_law_498 ?_
  refine l_iadd dL_law_499 ?_
  refine l_sld (j := i0 + 1) (by omega) (by omega) dL_law_500 ?_
  refine l_callMi (as := [vi ((xs (i0 + 1)).toInt)]) mf_L_60 rfl h2 (c_M_moment F σ2 ((xs (i0 + 1)).toInt)) dL_law_501 rfl rfl rfl rfl rfl rfl (by omega) (by omega) ?_
  refine l_icmp_eq rfl dL_law_504 rfl ?_
  exact l_widen (by omega) (by omega) (hnext _ _ _ _ h3)
set_option maxRecDepth 100000 in
set_option maxHeartbeats 4000000 in
theorem lc_wave {N : Nat} {xs : Nat → Int32} {K : KL} {i0 : Nat} {x : Bool} {σ1 σ2 : St} {w : Nat → Int64} {cu su F : Nat} {R : Bool → St → St → Prop} (hsp : Sp_wave F R) (hR : R x σ1 σ2) (hi : i0 + 6 ≤ N) (hcu : cu + 1 ≤ 601024) (hsu : su + 6 ≤ 7293034) (hnext : ∀ (x' : Bool) (σ1' σ2' : St) (w' : Nat → Int64), R x' σ1' σ2' → WL N xs K 1382 [some (.ref 0), some (.ref 1), some (.ref 2), some (.ref 3), some (vi (i0 : Nat)), none, none, none] [] x' σ1' σ2' w' (cu + 1) (su + 6)) : WL N xs K 509 [some (.ref 0), some (.ref 1), some (.ref 2), some (.ref 3), some (vi (i0 : Nat)), none, none, none] [] x σ1 σ2 w cu su := by
  obtain ⟨r, σ1', σ2', h1, h2, h3⟩ := hsp x σ1 σ2 ((xs (i0 + 1)).toInt) ((xs (i0 + 2)).toInt) hR (xr _) (xr _)
  refine l_aload_n dL_law_509 rfl ?_
  refine l_aload_n dL_law_510 rfl ?_
  refine l_iload dL_law_511 rfl ?_
  refine l_iconst dL_law_513 ?_
  refine l_iadd dL_law_514 ?_
  refine l_sld (j := i0 + 1) (by omega) (by omega) dL_law_515 ?_
  refine l_aload_n dL_law_516 rfl ?_
  refine l_iload dL_law_517 rfl ?_
  refine l_iconst dL_law_519 ?_
  refine l_iadd dL_law_520 ?_
  refine l_sld (j := i0 + 2) (by omega) (by omega) dL_law_521 ?_
  refine l_callCi (as := [vi ((xs (i0 + 1)).toInt), vi ((xs (i0 + 2)).toInt)]) mf_L_61 rfl h1 (c_W_wave (x := x) F σ1 ((xs (i0 + 1)).toInt) ((xs (i0 + 2)).toInt)) dL_law_522 rfl rfl rfl rfl rfl rfl (by omega) (by omega) ?_
  refine l_aload_n dL_law_525 rfl ?_
  refine l_aload_n dL_law_526 rfl ?_
  refine l_iload dL_law_527 rfl ?_
  refine l_iconst dL_law_529 ?_
  refine l_iadd dL_law_530 ?_
  refine l_sld (j := i0 + 1) (by omega) (by omega) dL_law_531 ?_
  refine l_aload_n dL_law_532 rfl ?_
  refine l_iload dL_law_533 rfl ?_
  refine l_iconst dL_law_535 ?_
  refine l_iadd dL_law_536 ?_
  refine l_sld (j := i0 + 2) (by omega) (by omega) dL_law_537 ?_
  refine l_callMi (as := [vi ((xs (i0 + 1)).toInt), vi ((xs (i0 + 2)).toInt)]) mf_L_64 rfl h2 (c_M_wave F σ2 ((xs (i0 + 1)).toInt) ((xs (i0 + 2)).toInt)) dL_law_538 rfl rfl rfl rfl rfl rfl (by omega) (by omega) ?_
  refine l_icmp_eq rfl dL_law_541 rfl ?_
  exact l_widen (by omega) (by omega) (hnext _ _ _ _ h3)
set_option maxRecDepth 100000 in
set_option maxHeartbeats 4000000 in
theorem lc_reading {N : Nat} {xs : Nat → Int32} {K : KL} {i0 : Nat} {x : Bool} {σ1 σ2 : St} {w : Nat → Int64} {cu su F : Nat} {R : Bool → St → St → Prop} (hsp : Sp_reading F R) (hR : R x σ1 σ2) (hi : i0 + 6 ≤ N) (hcu : cu + 1 ≤ 601024) (hsu : su + 6 ≤ 7293034) (hnext : ∀ (x' : Bool) (σ1' σ2' : St) (w' : Nat → Int64), R x' σ1' σ2' → WL N xs K 1382 [some (.ref 0), some (.ref 1), some (.ref 2), some (.ref 3), some (vi (i0 : Nat)), none, none, none] [] x' σ1' σ2' w' (cu + 1) (su + 6)) : WL N xs K 546 [some (.ref 0), some (.ref 1), some (.ref 2), some (.ref 3), some (vi (i0 : Nat)), none, none, none] [] x σ1 σ2 w cu su := by
  obtain ⟨r, σ1', σ2', h1, h2, h3⟩ := hsp x σ1 σ2 ((xs (i0 + 1)).toInt) hR (xr _)
  refine l_aload_n dL_law_546 rfl ?_
  refine l_aload_n dL_law_547 rfl ?_
  refine l_iload dL_law_548 rfl ?_
  refine l_iconst dL_law_550 ?_
  refine l_iadd dL_law_551 ?_
  refine l_sld (j := i0 + 1) (by omega) (by omega) dL_law_552 ?_
  refine l_callCi (as := [vi ((xs (i0 + 1)).toInt)]) mf_L_65 rfl h1 (c_W_reading (x := x) F σ1 ((xs (i0 + 1)).toInt)) dL_law_553 rfl rfl rfl rfl rfl rfl (by omega) (by omega) ?_
  refine l_aload_n dL_law_556 rfl ?_
  refine l_aload_n dL_law_557 rfl ?_
  refine l_iload dL_law_558 rfl ?_
  refine l_iconst dL_law_560 ?_
  refine l_iadd dL_law_561 ?_
  refine l_sld (j := i0 + 1) (by omega) (by omega) dL_law_562 ?_
  refine l_callMi (as := [vi ((xs (i0 + 1)).toInt)]) mf_L_69 rfl h2 (c_M_reading F σ2 ((xs (i0 + 1)).toInt)) dL_law_563 rfl rfl rfl rfl rfl rfl (by omega) (by omega) ?_
  refine l_icmp_eq rfl dL_law_566 rfl ?_
  exact l_widen (by omega) (by omega) (hnext _ _ _ _ h3)
set_option maxRecDepth 100000 in
set_option maxHeartbeats 4000000 in
theorem lc_cover {N : Nat} {xs : Nat → Int32} {K : KL} {i0 : Nat} {x : Bool} {σ1 σ2 : St} {w : Nat → Int64} {cu su F : Nat} {R : Bool → St → St → Prop} (hsp : Sp_cover F R) (hR : R x σ1 σ2) (hi : i0 + 6 ≤ N) (hcu : cu + 1 ≤ 601024) (hsu : su + 6 ≤ 7293034) (hnext : ∀ (x' : Bool) (σ1' σ2' : St) (w' : Nat → Int64), R x' σ1' σ2' → WL N xs K 1382 [some (.ref 0), some (.ref 1), some (.ref 2), some (.ref 3), some (vi (i0 : Nat)), none, none, none] [] x' σ1' σ2' w' (cu + 1) (su + 6)) : WL N xs K 571 [some (.ref 0), some (.ref 1), some (.ref 2), some (.ref 3), some (vi (i0 : Nat)), none, none, none] [] x σ1 σ2 w cu su := by
  obtain ⟨r, σ1', σ2', h1, h2, h3⟩ := hsp x σ1 σ2 ((xs (i0 + 1)).toInt) ((xs (i0 + 2)).toInt) hR (xr _) (xr _)
  refine l_aload_n dL_law_571 rfl ?_
  refine l_aload_n dL_law_572 rfl ?_
  refine l_iload dL_law_573 rfl ?_
  refine l_iconst dL_law_575 ?_
  refine l_iadd dL_law_576 ?_
  refine l_sld (j := i0 + 1) (by omega) (by omega) dL_law_577 ?_
  refine l_aload_n dL_law_578 rfl ?_
  refine l_iload dL_law_579 rfl ?_
  refine l_iconst dL_law_581 ?_
  refine l_iadd dL_law_582 ?_
  refine l_sld (j := i0 + 2) (by omega) (by omega) dL_law_583 ?_
  refine l_callCi (as := [vi ((xs (i0 + 1)).toInt), vi ((xs (i0 + 2)).toInt)]) mf_L_70 rfl h1 (c_W_cover (x := x) F σ1 ((xs (i0 + 1)).toInt) ((xs (i0 + 2)).toInt)) dL_law_584 rfl rfl rfl rfl rfl rfl (by omega) (by omega) ?_
  refine l_aload_n dL_law_587 rfl ?_
  refine l_aload_n dL_law_588 rfl ?_
  refine l_iload dL_law_589 rfl ?_
  refine l_iconst dL_law_591 ?_
  refine l_iadd dL_law_592 ?_
  refine l_sld (j := i0 + 1) (by omega) (by omega) dL_law_593 ?_
  refine l_aload_n dL_law_594 rfl ?_
  refine l_iload dL_law_595 rfl ?_
  refine l_iconst dL_law_597 ?_
  refine l_iadd dL_law_598 ?_
  refine l_sld (j := i0 + 2) (by omega) (by omega) dL_law_599 ?_
  refine l_callMi (as := [vi ((xs (i0 + 1)).toInt), vi ((xs (i0 + 2)).toInt)]) mf_L_73 rfl h2 (c_M_cover F σ2 ((xs (i0 + 1)).toInt) ((xs (i0 + 2)).toInt)) dL_law_600 rfl rfl rfl rfl rfl rfl (by omega) (by omega) ?_
  refine l_icmp_eq rfl dL_law_603 rfl ?_
  exact l_widen (by omega) (by omega) (hnext _ _ _ _ h3)
set_option maxRecDepth 100000 in
set_option maxHeartbeats 4000000 in
theorem lc_order {N : Nat} {xs : Nat → Int32} {K : KL} {i0 : Nat} {x : Bool} {σ1 σ2 : St} {w : Nat → Int64} {cu su F : Nat} {R : Bool → St → St → Prop} (hsp : Sp_order F R) (hR : R x σ1 σ2) (hi : i0 + 6 ≤ N) (hcu : cu + 1 ≤ 601024) (hsu : su + 6 ≤ 7293034) (hnext : ∀ (x' : Bool) (σ1' σ2' : St) (w' : Nat → Int64), R x' σ1' σ2' → WL N xs K 1382 [some (.ref 0), some (.ref 1), some (.ref 2), some (.ref 3), some (vi (i0 : Nat)), none, none, none] [] x' σ1' σ2' w' (cu + 1) (su + 6)) : WL N xs K 608 [some (.ref 0), some (.ref 1), some (.ref 2), some (.ref 3), some (vi (i0 : Nat)), none, none, none] [] x σ1 σ2 w cu su := by
  obtain ⟨r, σ1', σ2', h1, h2, h3⟩ := hsp x σ1 σ2 hR
  refine l_aload_n dL_law_608 rfl ?_
  refine l_callCi (as := []) mf_L_74 rfl h1 (c_W_order (x := x) F σ1) dL_law_609 rfl rfl rfl rfl rfl rfl (by omega) (by omega) ?_
  refine l_aload_n dL_law_612 rfl ?_
  refine l_callMi (as := []) mf_L_77 rfl h2 (c_M_order F σ2) dL_law_613 rfl rfl rfl rfl rfl rfl (by omega) (by omega) ?_
  refine l_icmp_eq rfl dL_law_616 rfl ?_
  exact l_widen (by omega) (by omega) (hnext _ _ _ _ h3)
set_option maxRecDepth 100000 in
set_option maxHeartbeats 4000000 in
theorem lc_seen {N : Nat} {xs : Nat → Int32} {K : KL} {i0 : Nat} {x : Bool} {σ1 σ2 : St} {w : Nat → Int64} {cu su F : Nat} {R : Bool → St → St → Prop} (hsp : Sp_seen F R) (hR : R x σ1 σ2) (hi : i0 + 6 ≤ N) (hcu : cu + 1 ≤ 601024) (hsu : su + 6 ≤ 7293034) (hnext : ∀ (x' : Bool) (σ1' σ2' : St) (w' : Nat → Int64), R x' σ1' σ2' → WL N xs K 1382 [some (.ref 0), some (.ref 1), some (.ref 2), some (.ref 3), some (vi (i0 : Nat)), none, none, none] [] x' σ1' σ2' w' (cu + 1) (su + 6)) : WL N xs K 621 [some (.ref 0), some (.ref 1), some (.ref 2), some (.ref 3), some (vi (i0 : Nat)), none, none, none] [] x σ1 σ2 w cu su := by
  obtain ⟨r, σ1', σ2', h1, h2, h3⟩ := hsp x σ1 σ2 hR
  refine l_aload_n dL_law_621 rfl ?_
  refine l_callCl (as := []) mf_L_78 rfl h1 (c_W_seen (x := x) F σ1) dL_law_622 rfl rfl rfl rfl rfl rfl (by omega) (by omega) ?_
  refine l_aload_n dL_law_625 rfl ?_
  refine l_callMl (as := []) mf_L_82 rfl h2 (c_M_seen F σ2) dL_law_626 rfl rfl rfl rfl rfl rfl (by omega) (by omega) ?_
  refine l_lcmp_eq rfl dL_law_629 dL_law_630 rfl ?_
  exact l_widen (by omega) (by omega) (hnext _ _ _ _ h3)
set_option maxRecDepth 100000 in
set_option maxHeartbeats 4000000 in
theorem lc_twins {N : Nat} {xs : Nat → Int32} {K : KL} {i0 : Nat} {x : Bool} {σ1 σ2 : St} {w : Nat → Int64} {cu su F : Nat} {R : Bool → St → St → Prop} (hsp : Sp_twins F R) (hR : R x σ1 σ2) (hi : i0 + 6 ≤ N) (hcu : cu + 1 ≤ 601024) (hsu : su + 6 ≤ 7293034) (hnext : ∀ (x' : Bool) (σ1' σ2' : St) (w' : Nat → Int64), R x' σ1' σ2' → WL N xs K 1382 [some (.ref 0), some (.ref 1), some (.ref 2), some (.ref 3), some (vi (i0 : Nat)), none, none, none] [] x' σ1' σ2' w' (cu + 1) (su + 6)) : WL N xs K 635 [some (.ref 0), some (.ref 1), some (.ref 2), some (.ref 3), some (vi (i0 : Nat)), none, none, none] [] x σ1 σ2 w cu su := by
  obtain ⟨r, σ1', σ2', h1, h2, h3⟩ := hsp x σ1 σ2 ((xs (i0 + 1)).toInt) hR (xr _)
  refine l_aload_n dL_law_635 rfl ?_
  refine l_aload_n dL_law_636 rfl ?_
  refine l_iload dL_law_637 rfl ?_
  refine l_iconst dL_law_639 ?_
  refine l_iadd dL_law_640 ?_
  refine l_sld (j := i0 + 1) (by omega) (by omega) dL_law_641 ?_
  refine l_callCl (as := [vi ((xs (i0 + 1)).toInt)]) mf_L_83 rfl h1 (c_W_twins (x := x) F σ1 ((xs (i0 + 1)).toInt)) dL_law_642 rfl rfl rfl rfl rfl rfl (by omega) (by omega) ?_
  refine l_aload_n dL_law_645 rfl ?_
  refine l_aload_n dL_law_646 rfl ?_
  refine l_iload dL_law_647 rfl ?_
  refine l_iconst dL_law_649 ?_
  refine l_iadd dL_law_650 ?_
  refine l_sld (j := i0 + 1) (by omega) (by omega) dL_law_651 ?_
  refine l_callMl (as := [vi ((xs (i0 + 1)).toInt)]) mf_L_87 rfl h2 (c_M_twins F σ2 ((xs (i0 + 1)).toInt)) dL_law_652 rfl rfl rfl rfl rfl rfl (by omega) (by omega) ?_
  refine l_lcmp_eq rfl dL_law_655 dL_law_656 rfl ?_
  exact l_widen (by omega) (by omega) (hnext _ _ _ _ h3)
set_option maxRecDepth 100000 in
set_option maxHeartbeats 4000000 in
theorem lc_smoothed {N : Nat} {xs : Nat → Int32} {K : KL} {i0 : Nat} {x : Bool} {σ1 σ2 : St} {w : Nat → Int64} {cu su F : Nat} {R : Bool → St → St → Prop} (hsp : Sp_smoothed F R) (hR : R x σ1 σ2) (hi : i0 + 6 ≤ N) (hcu : cu + 1 ≤ 601024) (hsu : su + 6 ≤ 7293034) (hnext : ∀ (x' : Bool) (σ1' σ2' : St) (w' : Nat → Int64), R x' σ1' σ2' → WL N xs K 1382 [some (.ref 0), some (.ref 1), some (.ref 2), some (.ref 3), some (vi (i0 : Nat)), none, none, none] [] x' σ1' σ2' w' (cu + 1) (su + 6)) : WL N xs K 661 [some (.ref 0), some (.ref 1), some (.ref 2), some (.ref 3), some (vi (i0 : Nat)), none, none, none] [] x σ1 σ2 w cu su := by
  obtain ⟨r, σ1', σ2', h1, h2, h3⟩ := hsp x σ1 σ2 ((xs (i0 + 1)).toInt) hR (xr _)
  refine l_aload_n dL_law_661 rfl ?_
  refine l_aload_n dL_law_662 rfl ?_
  refine l_iload dL_law_663 rfl ?_
  refine l_iconst dL_law_665 ?_
  refine l_iadd dL_law_666 ?_
  refine l_sld (j := i0 + 1) (by omega) (by omega) dL_law_667 ?_
  refine l_callCi (as := [vi ((xs (i0 + 1)).toInt)]) mf_L_88 rfl h1 (c_W_smoothed (x := x) F σ1 ((xs (i0 + 1)).toInt)) dL_law_668 rfl rfl rfl rfl rfl rfl (by omega) (by omega) ?_
  refine l_aload_n dL_law_671 rfl ?_
  refine l_aload_n dL_law_672 rfl ?_
  refine l_iload dL_law_673 rfl ?_
  refine l_iconst dL_law_675 ?_
  refine l_iadd dL_law_676 ?_
  refine l_sld (j := i0 + 1) (by omega) (by omega) dL_law_677 ?_
  refine l_callMi (as := [vi ((xs (i0 + 1)).toInt)]) mf_L_91 rfl h2 (c_M_smoothed F σ2 ((xs (i0 + 1)).toInt)) dL_law_678 rfl rfl rfl rfl rfl rfl (by omega) (by omega) ?_
  refine l_icmp_eq rfl dL_law_681 rfl ?_
  exact l_widen (by omega) (by omega) (hnext _ _ _ _ h3)
set_option maxRecDepth 100000 in
set_option maxHeartbeats 4000000 in
theorem lc_smoothSeen {N : Nat} {xs : Nat → Int32} {K : KL} {i0 : Nat} {x : Bool} {σ1 σ2 : St} {w : Nat → Int64} {cu su F : Nat} {R : Bool → St → St → Prop} (hsp : Sp_smoothSeen F R) (hR : R x σ1 σ2) (hi : i0 + 6 ≤ N) (hcu : cu + 1 ≤ 601024) (hsu : su + 6 ≤ 7293034) (hnext : ∀ (x' : Bool) (σ1' σ2' : St) (w' : Nat → Int64), R x' σ1' σ2' → WL N xs K 1382 [some (.ref 0), some (.ref 1), some (.ref 2), some (.ref 3), some (vi (i0 : Nat)), none, none, none] [] x' σ1' σ2' w' (cu + 1) (su + 6)) : WL N xs K 686 [some (.ref 0), some (.ref 1), some (.ref 2), some (.ref 3), some (vi (i0 : Nat)), none, none, none] [] x σ1 σ2 w cu su := by
  obtain ⟨r, σ1', σ2', h1, h2, h3⟩ := hsp x σ1 σ2 ((xs (i0 + 1)).toInt) hR (xr _)
  refine l_aload_n dL_law_686 rfl ?_
  refine l_aload_n dL_law_687 rfl ?_
  refine l_iload dL_law_688 rfl ?_
  refine l_iconst dL_law_690 ?_
  refine l_iadd dL_law_691 ?_
  refine l_sld (j := i0 + 1) (by omega) (by omega) dL_law_692 ?_
  refine l_callCl (as := [vi ((xs (i0 + 1)).toInt)]) mf_L_92 rfl h1 (c_W_smoothSeen (x := x) F σ1 ((xs (i0 + 1)).toInt)) dL_law_693 rfl rfl rfl rfl rfl rfl (by omega) (by omega) ?_
  refine l_aload_n dL_law_696 rfl ?_
  refine l_aload_n dL_law_697 rfl ?_
  refine l_iload dL_law_698 rfl ?_
  refine l_iconst dL_law_700 ?_
  refine l_iadd dL_law_701 ?_
  refine l_sld (j := i0 + 1) (by omega) (by omega) dL_law_702 ?_
  refine l_callMl (as := [vi ((xs (i0 + 1)).toInt)]) mf_L_95 rfl h2 (c_M_smoothSeen F σ2 ((xs (i0 + 1)).toInt)) dL_law_703 rfl rfl rfl rfl rfl rfl (by omega) (by omega) ?_
  refine l_lcmp_eq rfl dL_law_706 dL_law_707 rfl ?_
  exact l_widen (by omega) (by omega) (hnext _ _ _ _ h3)
set_option maxRecDepth 100000 in
set_option maxHeartbeats 4000000 in
theorem lc_apart {N : Nat} {xs : Nat → Int32} {K : KL} {i0 : Nat} {x : Bool} {σ1 σ2 : St} {w : Nat → Int64} {cu su F : Nat} {R : Bool → St → St → Prop} (hsp : Sp_apart F R) (hR : R x σ1 σ2) (hi : i0 + 6 ≤ N) (hcu : cu + 1 ≤ 601024) (hsu : su + 6 ≤ 7293034) (hnext : ∀ (x' : Bool) (σ1' σ2' : St) (w' : Nat → Int64), R x' σ1' σ2' → WL N xs K 1382 [some (.ref 0), some (.ref 1), some (.ref 2), some (.ref 3), some (vi (i0 : Nat)), none, none, none] [] x' σ1' σ2' w' (cu + 1) (su + 6)) : WL N xs K 712 [some (.ref 0), some (.ref 1), some (.ref 2), some (.ref 3), some (vi (i0 : Nat)), none, none, none] [] x σ1 σ2 w cu su := by
  obtain ⟨r, σ1', σ2', h1, h2, h3⟩ := hsp x σ1 σ2 ((xs (i0 + 1)).toInt) hR (xr _)
  refine l_aload_n dL_law_712 rfl ?_
  refine l_aload_n dL_law_713 rfl ?_
  refine l_iload dL_law_714 rfl ?_
  refine l_iconst dL_law_716 ?_
  refine l_iadd dL_law_717 ?_
  refine l_sld (j := i0 + 1) (by omega) (by omega) dL_law_718 ?_
  refine l_callCi (as := [vi ((xs (i0 + 1)).toInt)]) mf_L_96 rfl h1 (c_W_apart (x := x) F σ1 ((xs (i0 + 1)).toInt)) dL_law_719 rfl rfl rfl rfl rfl rfl (by omega) (by omega) ?_
  refine l_aload_n dL_law_722 rfl ?_
  refine l_aload_n dL_law_723 rfl ?_
  refine l_iload dL_law_724 rfl ?_
  refine l_iconst dL_law_726 ?_
  refine l_iadd dL_law_727 ?_
  refine l_sld (j := i0 + 1) (by omega) (by omega) dL_law_728 ?_
  refine l_callMi (as := [vi ((xs (i0 + 1)).toInt)]) mf_L_99 rfl h2 (c_M_apart F σ2 ((xs (i0 + 1)).toInt)) dL_law_729 rfl rfl rfl rfl rfl rfl (by omega) (by omega) ?_
  refine l_icmp_eq rfl dL_law_732 rfl ?_
  exact l_widen (by omega) (by omega) (hnext _ _ _ _ h3)
set_option maxRecDepth 100000 in
set_option maxHeartbeats 4000000 in
theorem lc_run {N : Nat} {xs : Nat → Int32} {K : KL} {i0 : Nat} {x : Bool} {σ1 σ2 : St} {w : Nat → Int64} {cu su F : Nat} {R : Bool → St → St → Prop} (hsp : Sp_run F R) (hR : R x σ1 σ2) (hi : i0 + 6 ≤ N) (hcu : cu + 1 ≤ 601024) (hsu : su + 6 ≤ 7293034) (hnext : ∀ (x' : Bool) (σ1' σ2' : St) (w' : Nat → Int64), R x' σ1' σ2' → WL N xs K 1382 [some (.ref 0), some (.ref 1), some (.ref 2), some (.ref 3), some (vi (i0 : Nat)), none, none, none] [] x' σ1' σ2' w' (cu + 1) (su + 6)) : WL N xs K 737 [some (.ref 0), some (.ref 1), some (.ref 2), some (.ref 3), some (vi (i0 : Nat)), none, none, none] [] x σ1 σ2 w cu su := by
  obtain ⟨r, σ1', σ2', h1, h2, h3⟩ := hsp x σ1 σ2 hR
  refine l_aload_n dL_law_737 rfl ?_
  refine l_callCi (as := []) mf_L_100 rfl h1 (c_W_run (x := x) F σ1) dL_law_738 rfl rfl rfl rfl rfl rfl (by omega) (by omega) ?_
  refine l_aload_n dL_law_741 rfl ?_
  refine l_callMi (as := []) mf_L_103 rfl h2 (c_M_run F σ2) dL_law_742 rfl rfl rfl rfl rfl rfl (by omega) (by omega) ?_
  refine l_icmp_eq rfl dL_law_745 rfl ?_
  exact l_widen (by omega) (by omega) (hnext _ _ _ _ h3)
set_option maxRecDepth 100000 in
set_option maxHeartbeats 4000000 in
theorem lc_lag {N : Nat} {xs : Nat → Int32} {K : KL} {i0 : Nat} {x : Bool} {σ1 σ2 : St} {w : Nat → Int64} {cu su F : Nat} {R : Bool → St → St → Prop} (hsp : Sp_lag F R) (hR : R x σ1 σ2) (hi : i0 + 6 ≤ N) (hcu : cu + 1 ≤ 601024) (hsu : su + 6 ≤ 7293034) (hnext : ∀ (x' : Bool) (σ1' σ2' : St) (w' : Nat → Int64), R x' σ1' σ2' → WL N xs K 1382 [some (.ref 0), some (.ref 1), some (.ref 2), some (.ref 3), some (vi (i0 : Nat)), none, none, none] [] x' σ1' σ2' w' (cu + 1) (su + 6)) : WL N xs K 750 [some (.ref 0), some (.ref 1), some (.ref 2), some (.ref 3), some (vi (i0 : Nat)), none, none, none] [] x σ1 σ2 w cu su := by
  obtain ⟨r, σ1', σ2', h1, h2, h3⟩ := hsp x σ1 σ2 ((xs (i0 + 1)).toInt) hR (xr _)
  refine l_aload_n dL_law_750 rfl ?_
  refine l_aload_n dL_law_751 rfl ?_
  refine l_iload dL_law_752 rfl ?_
  refine l_iconst dL_law_754 ?_
  refine l_iadd dL_law_755 ?_
  refine l_sld (j := i0 + 1) (by omega) (by omega) dL_law_756 ?_
  refine l_callCi (as := [vi ((xs (i0 + 1)).toInt)]) mf_L_104 rfl h1 (c_W_lag (x := x) F σ1 ((xs (i0 + 1)).toInt)) dL_law_757 rfl rfl rfl rfl rfl rfl (by omega) (by omega) ?_
  refine l_aload_n dL_law_760 rfl ?_
  refine l_aload_n dL_law_761 rfl ?_
  refine l_iload dL_law_762 rfl ?_
  refine l_iconst dL_law_764 ?_
  refine l_iadd dL_law_765 ?_
  refine l_sld (j := i0 + 1) (by omega) (by omega) dL_law_766 ?_
  refine l_callMi (as := [vi ((xs (i0 + 1)).toInt)]) mf_L_107 rfl h2 (c_M_lag F σ2 ((xs (i0 + 1)).toInt)) dL_law_767 rfl rfl rfl rfl rfl rfl (by omega) (by omega) ?_
  refine l_icmp_eq rfl dL_law_770 rfl ?_
  exact l_widen (by omega) (by omega) (hnext _ _ _ _ h3)
set_option maxRecDepth 100000 in
set_option maxHeartbeats 4000000 in
theorem lc_rule {N : Nat} {xs : Nat → Int32} {K : KL} {i0 : Nat} {x : Bool} {σ1 σ2 : St} {w : Nat → Int64} {cu su F : Nat} {R : Bool → St → St → Prop} (hsp : Sp_rule F R) (hR : R x σ1 σ2) (hi : i0 + 6 ≤ N) (hcu : cu + 1 ≤ 601024) (hsu : su + 6 ≤ 7293034) (hnext : ∀ (x' : Bool) (σ1' σ2' : St) (w' : Nat → Int64), R x' σ1' σ2' → WL N xs K 1382 [some (.ref 0), some (.ref 1), some (.ref 2), some (.ref 3), some (vi (i0 : Nat)), none, none, none] [] x' σ1' σ2' w' (cu + 1) (su + 6)) : WL N xs K 775 [some (.ref 0), some (.ref 1), some (.ref 2), some (.ref 3), some (vi (i0 : Nat)), none, none, none] [] x σ1 σ2 w cu su := by
  obtain ⟨r, σ1', σ2', h1, h2, h3⟩ := hsp x σ1 σ2 ((xs (i0 + 1)).toInt) hR (xr _)
  refine l_aload_n dL_law_775 rfl ?_
  refine l_aload_n dL_law_776 rfl ?_
  refine l_iload dL_law_777 rfl ?_
  refine l_iconst dL_law_779 ?_
  refine l_iadd dL_law_780 ?_
  refine l_sld (j := i0 + 1) (by omega) (by omega) dL_law_781 ?_
  refine l_callCi (as := [vi ((xs (i0 + 1)).toInt)]) mf_L_108 rfl h1 (c_W_rule (x := x) F σ1 ((xs (i0 + 1)).toInt)) dL_law_782 rfl rfl rfl rfl rfl rfl (by omega) (by omega) ?_
  refine l_aload_n dL_law_785 rfl ?_
  refine l_aload_n dL_law_786 rfl ?_
  refine l_iload dL_law_787 rfl ?_
  refine l_iconst dL_law_789 ?_
  refine l_iadd dL_law_790 ?_
  refine l_sld (j := i0 + 1) (by omega) (by omega) dL_law_791 ?_
  refine l_callMi (as := [vi ((xs (i0 + 1)).toInt)]) mf_L_111 rfl h2 (c_M_rule F σ2 ((xs (i0 + 1)).toInt)) dL_law_792 rfl rfl rfl rfl rfl rfl (by omega) (by omega) ?_
  refine l_icmp_eq rfl dL_law_795 rfl ?_
  exact l_widen (by omega) (by omega) (hnext _ _ _ _ h3)
set_option maxRecDepth 100000 in
set_option maxHeartbeats 4000000 in
theorem lc_ruleAt {N : Nat} {xs : Nat → Int32} {K : KL} {i0 : Nat} {x : Bool} {σ1 σ2 : St} {w : Nat → Int64} {cu su F : Nat} {R : Bool → St → St → Prop} (hsp : Sp_ruleAt F R) (hR : R x σ1 σ2) (hi : i0 + 6 ≤ N) (hcu : cu + 1 ≤ 601024) (hsu : su + 6 ≤ 7293034) (hnext : ∀ (x' : Bool) (σ1' σ2' : St) (w' : Nat → Int64), R x' σ1' σ2' → WL N xs K 1382 [some (.ref 0), some (.ref 1), some (.ref 2), some (.ref 3), some (vi (i0 : Nat)), none, none, none] [] x' σ1' σ2' w' (cu + 1) (su + 6)) : WL N xs K 800 [some (.ref 0), some (.ref 1), some (.ref 2), some (.ref 3), some (vi (i0 : Nat)), none, none, none] [] x σ1 σ2 w cu su := by
  obtain ⟨r, σ1', σ2', h1, h2, h3⟩ := hsp x σ1 σ2 ((xs (i0 + 1)).toInt) hR (xr _)
  refine l_aload_n dL_law_800 rfl ?_
  refine l_aload_n dL_law_801 rfl ?_
  refine l_iload dL_law_802 rfl ?_
  refine l_iconst dL_law_804 ?_
  refine l_iadd dL_law_805 ?_
  refine l_sld (j := i0 + 1) (by omega) (by omega) dL_law_806 ?_
  refine l_callCi (as := [vi ((xs (i0 + 1)).toInt)]) mf_L_112 rfl h1 (c_W_ruleAt (x := x) F σ1 ((xs (i0 + 1)).toInt)) dL_law_807 rfl rfl rfl rfl rfl rfl (by omega) (by omega) ?_
  refine l_aload_n dL_law_810 rfl ?_
  refine l_aload_n dL_law_811 rfl ?_
  refine l_iload dL_law_812 rfl ?_
  refine l_iconst dL_law_814 ?_
  refine l_iadd dL_law_815 ?_
  refine l_sld (j := i0 + 1) (by omega) (by omega) dL_law_816 ?_
  refine l_callMi (as := [vi ((xs (i0 + 1)).toInt)]) mf_L_115 rfl h2 (c_M_ruleAt F σ2 ((xs (i0 + 1)).toInt)) dL_law_817 rfl rfl rfl rfl rfl rfl (by omega) (by omega) ?_
  refine l_icmp_eq rfl dL_law_820 rfl ?_
  exact l_widen (by omega) (by omega) (hnext _ _ _ _ h3)
set_option maxRecDepth 100000 in
set_option maxHeartbeats 4000000 in
theorem lc_roots {N : Nat} {xs : Nat → Int32} {K : KL} {i0 : Nat} {x : Bool} {σ1 σ2 : St} {w : Nat → Int64} {cu su F : Nat} {R : Bool → St → St → Prop} (hsp : Sp_roots F R) (hR : R x σ1 σ2) (hi : i0 + 6 ≤ N) (hcu : cu + 1 ≤ 601024) (hsu : su + 6 ≤ 7293034) (hnext : ∀ (x' : Bool) (σ1' σ2' : St) (w' : Nat → Int64), R x' σ1' σ2' → WL N xs K 1382 [some (.ref 0), some (.ref 1), some (.ref 2), some (.ref 3), some (vi (i0 : Nat)), none, none, none] [] x' σ1' σ2' w' (cu + 1) (su + 6)) : WL N xs K 825 [some (.ref 0), some (.ref 1), some (.ref 2), some (.ref 3), some (vi (i0 : Nat)), none, none, none] [] x σ1 σ2 w cu su := by
  obtain ⟨r, σ1', σ2', h1, h2, h3⟩ := hsp x σ1 σ2 hR
  refine l_aload_n dL_law_825 rfl ?_
  refine l_callCl (as := []) mf_L_116 rfl h1 (c_W_roots (x := x) F σ1) dL_law_826 rfl rfl rfl rfl rfl rfl (by omega) (by omega) ?_
  refine l_aload_n dL_law_829 rfl ?_
  refine l_callMl (as := []) mf_L_119 rfl h2 (c_M_roots F σ2) dL_law_830 rfl rfl rfl rfl rfl rfl (by omega) (by omega) ?_
  refine l_lcmp_eq rfl dL_law_833 dL_law_834 rfl ?_
  exact l_widen (by omega) (by omega) (hnext _ _ _ _ h3)
set_option maxRecDepth 100000 in
set_option maxHeartbeats 4000000 in
theorem lc_strength {N : Nat} {xs : Nat → Int32} {K : KL} {i0 : Nat} {x : Bool} {σ1 σ2 : St} {w : Nat → Int64} {cu su F : Nat} {R : Bool → St → St → Prop} (hsp : Sp_strength F R) (hR : R x σ1 σ2) (hi : i0 + 6 ≤ N) (hcu : cu + 1 ≤ 601024) (hsu : su + 6 ≤ 7293034) (hnext : ∀ (x' : Bool) (σ1' σ2' : St) (w' : Nat → Int64), R x' σ1' σ2' → WL N xs K 1382 [some (.ref 0), some (.ref 1), some (.ref 2), some (.ref 3), some (vi (i0 : Nat)), none, none, none] [] x' σ1' σ2' w' (cu + 1) (su + 6)) : WL N xs K 839 [some (.ref 0), some (.ref 1), some (.ref 2), some (.ref 3), some (vi (i0 : Nat)), none, none, none] [] x σ1 σ2 w cu su := by
  obtain ⟨r, σ1', σ2', h1, h2, h3⟩ := hsp x σ1 σ2 ((xs (i0 + 1)).toInt) hR (xr _)
  refine l_aload_n dL_law_839 rfl ?_
  refine l_aload_n dL_law_840 rfl ?_
  refine l_iload dL_law_841 rfl ?_
  refine l_iconst dL_law_843 ?_
  refine l_iadd dL_law_844 ?_
  refine l_sld (j := i0 + 1) (by omega) (by omega) dL_law_845 ?_
  refine l_callCi (as := [vi ((xs (i0 + 1)).toInt)]) mf_L_120 rfl h1 (c_W_strength (x := x) F σ1 ((xs (i0 + 1)).toInt)) dL_law_846 rfl rfl rfl rfl rfl rfl (by omega) (by omega) ?_
  refine l_aload_n dL_law_849 rfl ?_
  refine l_aload_n dL_law_850 rfl ?_
  refine l_iload dL_law_851 rfl ?_
  refine l_iconst dL_law_853 ?_
  refine l_iadd dL_law_854 ?_
  refine l_sld (j := i0 + 1) (by omega) (by omega) dL_law_855 ?_
  refine l_callMi (as := [vi ((xs (i0 + 1)).toInt)]) mf_L_123 rfl h2 (c_M_strength F σ2 ((xs (i0 + 1)).toInt)) dL_law_856 rfl rfl rfl rfl rfl rfl (by omega) (by omega) ?_
  refine l_icmp_eq rfl dL_law_859 rfl ?_
  exact l_widen (by omega) (by omega) (hnext _ _ _ _ h3)
set_option maxRecDepth 100000 in
set_option maxHeartbeats 4000000 in
theorem lc_tracks {N : Nat} {xs : Nat → Int32} {K : KL} {i0 : Nat} {x : Bool} {σ1 σ2 : St} {w : Nat → Int64} {cu su F : Nat} {R : Bool → St → St → Prop} (hsp : Sp_tracks F R) (hR : R x σ1 σ2) (hi : i0 + 6 ≤ N) (hcu : cu + 1 ≤ 601024) (hsu : su + 6 ≤ 7293034) (hnext : ∀ (x' : Bool) (σ1' σ2' : St) (w' : Nat → Int64), R x' σ1' σ2' → WL N xs K 1382 [some (.ref 0), some (.ref 1), some (.ref 2), some (.ref 3), some (vi (i0 : Nat)), none, none, none] [] x' σ1' σ2' w' (cu + 1) (su + 6)) : WL N xs K 864 [some (.ref 0), some (.ref 1), some (.ref 2), some (.ref 3), some (vi (i0 : Nat)), none, none, none] [] x σ1 σ2 w cu su := by
  obtain ⟨r, σ1', σ2', h1, h2, h3⟩ := hsp x σ1 σ2 ((xs (i0 + 1)).toInt) hR (xr _)
  refine l_aload_n dL_law_864 rfl ?_
  refine l_aload_n dL_law_865 rfl ?_
  refine l_iload dL_law_866 rfl ?_
  refine l_iconst dL_law_868 ?_
  refine l_iadd dL_law_869 ?_
  refine l_sld (j := i0 + 1) (by omega) (by omega) dL_law_870 ?_
  refine l_callCi (as := [vi ((xs (i0 + 1)).toInt)]) mf_L_124 rfl h1 (c_W_tracks (x := x) F σ1 ((xs (i0 + 1)).toInt)) dL_law_871 rfl rfl rfl rfl rfl rfl (by omega) (by omega) ?_
  refine l_aload_n dL_law_874 rfl ?_
  refine l_aload_n dL_law_875 rfl ?_
  refine l_iload dL_law_876 rfl ?_
  refine l_iconst dL_law_878 ?_
  refine l_iadd dL_law_879 ?_
  refine l_sld (j := i0 + 1) (by omega) (by omega) dL_law_880 ?_
  refine l_callMi (as := [vi ((xs (i0 + 1)).toInt)]) mf_L_127 rfl h2 (c_M_tracks F σ2 ((xs (i0 + 1)).toInt)) dL_law_881 rfl rfl rfl rfl rfl rfl (by omega) (by omega) ?_
  refine l_icmp_eq rfl dL_law_884 rfl ?_
  exact l_widen (by omega) (by omega) (hnext _ _ _ _ h3)
set_option maxRecDepth 100000 in
set_option maxHeartbeats 4000000 in
theorem lc_track {N : Nat} {xs : Nat → Int32} {K : KL} {i0 : Nat} {x : Bool} {σ1 σ2 : St} {w : Nat → Int64} {cu su F : Nat} {R : Bool → St → St → Prop} (hsp : Sp_track F R) (hR : R x σ1 σ2) (hi : i0 + 6 ≤ N) (hcu : cu + 1 ≤ 601024) (hsu : su + 6 ≤ 7293034) (hnext : ∀ (x' : Bool) (σ1' σ2' : St) (w' : Nat → Int64), R x' σ1' σ2' → WL N xs K 1382 [some (.ref 0), some (.ref 1), some (.ref 2), some (.ref 3), some (vi (i0 : Nat)), none, none, none] [] x' σ1' σ2' w' (cu + 1) (su + 6)) : WL N xs K 889 [some (.ref 0), some (.ref 1), some (.ref 2), some (.ref 3), some (vi (i0 : Nat)), none, none, none] [] x σ1 σ2 w cu su := by
  obtain ⟨r, σ1', σ2', h1, h2, h3⟩ := hsp x σ1 σ2 ((xs (i0 + 1)).toInt) hR (xr _)
  refine l_aload_n dL_law_889 rfl ?_
  refine l_aload_n dL_law_890 rfl ?_
  refine l_iload dL_law_891 rfl ?_
  refine l_iconst dL_law_893 ?_
  refine l_iadd dL_law_894 ?_
  refine l_sld (j := i0 + 1) (by omega) (by omega) dL_law_895 ?_
  refine l_callCi (as := [vi ((xs (i0 + 1)).toInt)]) mf_L_128 rfl h1 (c_W_track (x := x) F σ1 ((xs (i0 + 1)).toInt)) dL_law_896 rfl rfl rfl rfl rfl rfl (by omega) (by omega) ?_
  refine l_aload_n dL_law_899 rfl ?_
  refine l_aload_n dL_law_900 rfl ?_
  refine l_iload dL_law_901 rfl ?_
  refine l_iconst dL_law_903 ?_
  refine l_iadd dL_law_904 ?_
  refine l_sld (j := i0 + 1) (by omega) (by omega) dL_law_905 ?_
  refine l_callMi (as := [vi ((xs (i0 + 1)).toInt)]) mf_L_131 rfl h2 (c_M_track F σ2 ((xs (i0 + 1)).toInt)) dL_law_906 rfl rfl rfl rfl rfl rfl (by omega) (by omega) ?_
  refine l_icmp_eq rfl dL_law_909 rfl ?_
  exact l_widen (by omega) (by omega) (hnext _ _ _ _ h3)
set_option maxRecDepth 100000 in
set_option maxHeartbeats 4000000 in
theorem lc_enough {N : Nat} {xs : Nat → Int32} {K : KL} {i0 : Nat} {x : Bool} {σ1 σ2 : St} {w : Nat → Int64} {cu su F : Nat} {R : Bool → St → St → Prop} (hsp : Sp_enough F R) (hR : R x σ1 σ2) (hi : i0 + 6 ≤ N) (hcu : cu + 1 ≤ 601024) (hsu : su + 6 ≤ 7293034) (hnext : ∀ (x' : Bool) (σ1' σ2' : St) (w' : Nat → Int64), R x' σ1' σ2' → WL N xs K 1382 [some (.ref 0), some (.ref 1), some (.ref 2), some (.ref 3), some (vi (i0 : Nat)), none, none, none] [] x' σ1' σ2' w' (cu + 1) (su + 6)) : WL N xs K 914 [some (.ref 0), some (.ref 1), some (.ref 2), some (.ref 3), some (vi (i0 : Nat)), none, none, none] [] x σ1 σ2 w cu su := by
  obtain ⟨r, σ1', σ2', h1, h2, h3⟩ := hsp x σ1 σ2 hR
  refine l_aload_n dL_law_914 rfl ?_
  refine l_callCi (as := []) mf_L_132 rfl h1 (c_W_enough (x := x) F σ1) dL_law_915 rfl rfl rfl rfl rfl rfl (by omega) (by omega) ?_
  refine l_aload_n dL_law_918 rfl ?_
  refine l_callMi (as := []) mf_L_135 rfl h2 (c_M_enough F σ2) dL_law_919 rfl rfl rfl rfl rfl rfl (by omega) (by omega) ?_
  refine l_icmp_eq rfl dL_law_922 rfl ?_
  exact l_widen (by omega) (by omega) (hnext _ _ _ _ h3)
set_option maxRecDepth 100000 in
set_option maxHeartbeats 4000000 in
theorem lc_lose {N : Nat} {xs : Nat → Int32} {K : KL} {i0 : Nat} {x : Bool} {σ1 σ2 : St} {w : Nat → Int64} {cu su F : Nat} {R : Bool → St → St → Prop} (hsp : Sp_lose F R) (hR : R x σ1 σ2) (hi : i0 + 6 ≤ N) (hcu : cu + 1 ≤ 601024) (hsu : su + 6 ≤ 7293034) (hnext : ∀ (x' : Bool) (σ1' σ2' : St) (w' : Nat → Int64), R x' σ1' σ2' → WL N xs K 1382 [some (.ref 0), some (.ref 1), some (.ref 2), some (.ref 3), some (vi (i0 : Nat)), none, none, none] [] x' σ1' σ2' w' (cu + 1) (su + 6)) : WL N xs K 927 [some (.ref 0), some (.ref 1), some (.ref 2), some (.ref 3), some (vi (i0 : Nat)), none, none, none] [] x σ1 σ2 w cu su := by
  obtain ⟨r, σ1', σ2', h1, h2, h3⟩ := hsp x σ1 σ2 ((xs (i0 + 1)).toInt) hR (xr _)
  refine l_aload_n dL_law_927 rfl ?_
  refine l_aload_n dL_law_928 rfl ?_
  refine l_iload dL_law_929 rfl ?_
  refine l_iconst dL_law_931 ?_
  refine l_iadd dL_law_932 ?_
  refine l_sld (j := i0 + 1) (by omega) (by omega) dL_law_933 ?_
  refine l_callCi (as := [vi ((xs (i0 + 1)).toInt)]) mf_L_136 rfl h1 (c_W_lose (x := x) F σ1 ((xs (i0 + 1)).toInt)) dL_law_934 rfl rfl rfl rfl rfl rfl (by omega) (by omega) ?_
  refine l_aload_n dL_law_937 rfl ?_
  refine l_aload_n dL_law_938 rfl ?_
  refine l_iload dL_law_939 rfl ?_
  refine l_iconst dL_law_941 ?_
  refine l_iadd dL_law_942 ?_
  refine l_sld (j := i0 + 1) (by omega) (by omega) dL_law_943 ?_
  refine l_callMi (as := [vi ((xs (i0 + 1)).toInt)]) mf_L_139 rfl h2 (c_M_lose F σ2 ((xs (i0 + 1)).toInt)) dL_law_944 rfl rfl rfl rfl rfl rfl (by omega) (by omega) ?_
  refine l_icmp_eq rfl dL_law_947 rfl ?_
  exact l_widen (by omega) (by omega) (hnext _ _ _ _ h3)
set_option maxRecDepth 100000 in
set_option maxHeartbeats 4000000 in
theorem lc_fewest {N : Nat} {xs : Nat → Int32} {K : KL} {i0 : Nat} {x : Bool} {σ1 σ2 : St} {w : Nat → Int64} {cu su F : Nat} {R : Bool → St → St → Prop} (hsp : Sp_fewest F R) (hR : R x σ1 σ2) (hi : i0 + 6 ≤ N) (hcu : cu + 1 ≤ 601024) (hsu : su + 6 ≤ 7293034) (hnext : ∀ (x' : Bool) (σ1' σ2' : St) (w' : Nat → Int64), R x' σ1' σ2' → WL N xs K 1382 [some (.ref 0), some (.ref 1), some (.ref 2), some (.ref 3), some (vi (i0 : Nat)), none, none, none] [] x' σ1' σ2' w' (cu + 1) (su + 6)) : WL N xs K 952 [some (.ref 0), some (.ref 1), some (.ref 2), some (.ref 3), some (vi (i0 : Nat)), none, none, none] [] x σ1 σ2 w cu su := by
  obtain ⟨r, σ1', σ2', h1, h2, h3⟩ := hsp x σ1 σ2 hR
  refine l_aload_n dL_law_952 rfl ?_
  refine l_callCi (as := []) mf_L_140 rfl h1 (c_W_fewest (x := x) F σ1) dL_law_953 rfl rfl rfl rfl rfl rfl (by omega) (by omega) ?_
  refine l_aload_n dL_law_956 rfl ?_
  refine l_callMi (as := []) mf_L_143 rfl h2 (c_M_fewest F σ2) dL_law_957 rfl rfl rfl rfl rfl rfl (by omega) (by omega) ?_
  refine l_icmp_eq rfl dL_law_960 rfl ?_
  exact l_widen (by omega) (by omega) (hnext _ _ _ _ h3)
set_option maxRecDepth 100000 in
set_option maxHeartbeats 4000000 in
theorem lc_made {N : Nat} {xs : Nat → Int32} {K : KL} {i0 : Nat} {x : Bool} {σ1 σ2 : St} {w : Nat → Int64} {cu su F : Nat} {R : Bool → St → St → Prop} (hsp : Sp_made F R) (hR : R x σ1 σ2) (hi : i0 + 6 ≤ N) (hcu : cu + 1 ≤ 601024) (hsu : su + 6 ≤ 7293034) (hnext : ∀ (x' : Bool) (σ1' σ2' : St) (w' : Nat → Int64), R x' σ1' σ2' → WL N xs K 1382 [some (.ref 0), some (.ref 1), some (.ref 2), some (.ref 3), some (vi (i0 : Nat)), none, none, none] [] x' σ1' σ2' w' (cu + 1) (su + 6)) : WL N xs K 965 [some (.ref 0), some (.ref 1), some (.ref 2), some (.ref 3), some (vi (i0 : Nat)), none, none, none] [] x σ1 σ2 w cu su := by
  obtain ⟨r, σ1', σ2', h1, h2, h3⟩ := hsp x σ1 σ2 ((xs (i0 + 1)).toInt) hR (xr _)
  refine l_aload_n dL_law_965 rfl ?_
  refine l_aload_n dL_law_966 rfl ?_
  refine l_iload dL_law_967 rfl ?_
  refine l_iconst dL_law_969 ?_
  refine l_iadd dL_law_970 ?_
  refine l_sld (j := i0 + 1) (by omega) (by omega) dL_law_971 ?_
  refine l_callCi (as := [vi ((xs (i0 + 1)).toInt)]) mf_L_144 rfl h1 (c_W_made (x := x) F σ1 ((xs (i0 + 1)).toInt)) dL_law_972 rfl rfl rfl rfl rfl rfl (by omega) (by omega) ?_
  refine l_aload_n dL_law_975 rfl ?_
  refine l_aload_n dL_law_976 rfl ?_
  refine l_iload dL_law_977 rfl ?_
  refine l_iconst dL_law_979 ?_
  refine l_iadd dL_law_980 ?_
  refine l_sld (j := i0 + 1) (by omega) (by omega) dL_law_981 ?_
  refine l_callMi (as := [vi ((xs (i0 + 1)).toInt)]) mf_L_147 rfl h2 (c_M_made F σ2 ((xs (i0 + 1)).toInt)) dL_law_982 rfl rfl rfl rfl rfl rfl (by omega) (by omega) ?_
  refine l_icmp_eq rfl dL_law_985 rfl ?_
  exact l_widen (by omega) (by omega) (hnext _ _ _ _ h3)
set_option maxRecDepth 100000 in
set_option maxHeartbeats 4000000 in
theorem lc_madeBy {N : Nat} {xs : Nat → Int32} {K : KL} {i0 : Nat} {x : Bool} {σ1 σ2 : St} {w : Nat → Int64} {cu su F : Nat} {R : Bool → St → St → Prop} (hsp : Sp_madeBy F R) (hR : R x σ1 σ2) (hi : i0 + 6 ≤ N) (hcu : cu + 1 ≤ 601024) (hsu : su + 6 ≤ 7293034) (hnext : ∀ (x' : Bool) (σ1' σ2' : St) (w' : Nat → Int64), R x' σ1' σ2' → WL N xs K 1382 [some (.ref 0), some (.ref 1), some (.ref 2), some (.ref 3), some (vi (i0 : Nat)), none, none, none] [] x' σ1' σ2' w' (cu + 1) (su + 6)) : WL N xs K 990 [some (.ref 0), some (.ref 1), some (.ref 2), some (.ref 3), some (vi (i0 : Nat)), none, none, none] [] x σ1 σ2 w cu su := by
  obtain ⟨r, σ1', σ2', h1, h2, h3⟩ := hsp x σ1 σ2 ((xs (i0 + 1)).toInt) hR (xr _)
  refine l_aload_n dL_law_990 rfl ?_
  refine l_aload_n dL_law_991 rfl ?_
  refine l_iload dL_law_992 rfl ?_
  refine l_iconst dL_law_994 ?_
  refine l_iadd dL_law_995 ?_
  refine l_sld (j := i0 + 1) (by omega) (by omega) dL_law_996 ?_
  refine l_callCi (as := [vi ((xs (i0 + 1)).toInt)]) mf_L_148 rfl h1 (c_W_madeBy (x := x) F σ1 ((xs (i0 + 1)).toInt)) dL_law_997 rfl rfl rfl rfl rfl rfl (by omega) (by omega) ?_
  refine l_aload_n dL_law_1000 rfl ?_
  refine l_aload_n dL_law_1001 rfl ?_
  refine l_iload dL_law_1002 rfl ?_
  refine l_iconst dL_law_1004 ?_
  refine l_iadd dL_law_1005 ?_
  refine l_sld (j := i0 + 1) (by omega) (by omega) dL_law_1006 ?_
  refine l_callMi (as := [vi ((xs (i0 + 1)).toInt)]) mf_L_151 rfl h2 (c_M_madeBy F σ2 ((xs (i0 + 1)).toInt)) dL_law_1007 rfl rfl rfl rfl rfl rfl (by omega) (by omega) ?_
  refine l_icmp_eq rfl dL_law_1010 rfl ?_
  exact l_widen (by omega) (by omega) (hnext _ _ _ _ h3)
set_option maxRecDepth 100000 in
set_option maxHeartbeats 4000000 in
theorem lc_liars {N : Nat} {xs : Nat → Int32} {K : KL} {i0 : Nat} {x : Bool} {σ1 σ2 : St} {w : Nat → Int64} {cu su F : Nat} {R : Bool → St → St → Prop} (hsp : Sp_liars F R) (hR : R x σ1 σ2) (hi : i0 + 6 ≤ N) (hcu : cu + 1 ≤ 601024) (hsu : su + 6 ≤ 7293034) (hnext : ∀ (x' : Bool) (σ1' σ2' : St) (w' : Nat → Int64), R x' σ1' σ2' → WL N xs K 1382 [some (.ref 0), some (.ref 1), some (.ref 2), some (.ref 3), some (vi (i0 : Nat)), none, none, none] [] x' σ1' σ2' w' (cu + 1) (su + 6)) : WL N xs K 1015 [some (.ref 0), some (.ref 1), some (.ref 2), some (.ref 3), some (vi (i0 : Nat)), none, none, none] [] x σ1 σ2 w cu su := by
  obtain ⟨r, σ1', σ2', h1, h2, h3⟩ := hsp x σ1 σ2 ((xs (i0 + 1)).toInt) hR (xr _)
  refine l_aload_n dL_law_1015 rfl ?_
  refine l_aload_n dL_law_1016 rfl ?_
  refine l_iload dL_law_1017 rfl ?_
  refine l_iconst dL_law_1019 ?_
  refine l_iadd dL_law_1020 ?_
  refine l_sld (j := i0 + 1) (by omega) (by omega) dL_law_1021 ?_
  refine l_callCi (as := [vi ((xs (i0 + 1)).toInt)]) mf_L_152 rfl h1 (c_W_liars (x := x) F σ1 ((xs (i0 + 1)).toInt)) dL_law_1022 rfl rfl rfl rfl rfl rfl (by omega) (by omega) ?_
  refine l_aload_n dL_law_1025 rfl ?_
  refine l_aload_n dL_law_1026 rfl ?_
  refine l_iload dL_law_1027 rfl ?_
  refine l_iconst dL_law_1029 ?_
  refine l_iadd dL_law_1030 ?_
  refine l_sld (j := i0 + 1) (by omega) (by omega) dL_law_1031 ?_
  refine l_callMi (as := [vi ((xs (i0 + 1)).toInt)]) mf_L_155 rfl h2 (c_M_liars F σ2 ((xs (i0 + 1)).toInt)) dL_law_1032 rfl rfl rfl rfl rfl rfl (by omega) (by omega) ?_
  refine l_icmp_eq rfl dL_law_1035 rfl ?_
  exact l_widen (by omega) (by omega) (hnext _ _ _ _ h3)
set_option maxRecDepth 100000 in
set_option maxHeartbeats 4000000 in
theorem lc_liar {N : Nat} {xs : Nat → Int32} {K : KL} {i0 : Nat} {x : Bool} {σ1 σ2 : St} {w : Nat → Int64} {cu su F : Nat} {R : Bool → St → St → Prop} (hsp : Sp_liar F R) (hR : R x σ1 σ2) (hi : i0 + 6 ≤ N) (hcu : cu + 1 ≤ 601024) (hsu : su + 6 ≤ 7293034) (hnext : ∀ (x' : Bool) (σ1' σ2' : St) (w' : Nat → Int64), R x' σ1' σ2' → WL N xs K 1382 [some (.ref 0), some (.ref 1), some (.ref 2), some (.ref 3), some (vi (i0 : Nat)), none, none, none] [] x' σ1' σ2' w' (cu + 1) (su + 6)) : WL N xs K 1040 [some (.ref 0), some (.ref 1), some (.ref 2), some (.ref 3), some (vi (i0 : Nat)), none, none, none] [] x σ1 σ2 w cu su := by
  obtain ⟨r, σ1', σ2', h1, h2, h3⟩ := hsp x σ1 σ2 ((xs (i0 + 1)).toInt) hR (xr _)
  refine l_aload_n dL_law_1040 rfl ?_
  refine l_aload_n dL_law_1041 rfl ?_
  refine l_iload dL_law_1042 rfl ?_
  refine l_iconst dL_law_1044 ?_
  refine l_iadd dL_law_1045 ?_
  refine l_sld (j := i0 + 1) (by omega) (by omega) dL_law_1046 ?_
  refine l_callCi (as := [vi ((xs (i0 + 1)).toInt)]) mf_L_156 rfl h1 (c_W_liar (x := x) F σ1 ((xs (i0 + 1)).toInt)) dL_law_1047 rfl rfl rfl rfl rfl rfl (by omega) (by omega) ?_
  refine l_aload_n dL_law_1050 rfl ?_
  refine l_aload_n dL_law_1051 rfl ?_
  refine l_iload dL_law_1052 rfl ?_
  refine l_iconst dL_law_1054 ?_
  refine l_iadd dL_law_1055 ?_
  refine l_sld (j := i0 + 1) (by omega) (by omega) dL_law_1056 ?_
  refine l_callMi (as := [vi ((xs (i0 + 1)).toInt)]) mf_L_159 rfl h2 (c_M_liar F σ2 ((xs (i0 + 1)).toInt)) dL_law_1057 rfl rfl rfl rfl rfl rfl (by omega) (by omega) ?_
  refine l_icmp_eq rfl dL_law_1060 rfl ?_
  exact l_widen (by omega) (by omega) (hnext _ _ _ _ h3)
set_option maxRecDepth 100000 in
set_option maxHeartbeats 4000000 in
theorem lc_nulled {N : Nat} {xs : Nat → Int32} {K : KL} {i0 : Nat} {x : Bool} {σ1 σ2 : St} {w : Nat → Int64} {cu su F : Nat} {R : Bool → St → St → Prop} (hsp : Sp_nulled F R) (hR : R x σ1 σ2) (hi : i0 + 6 ≤ N) (hcu : cu + 1 ≤ 601024) (hsu : su + 6 ≤ 7293034) (hnext : ∀ (x' : Bool) (σ1' σ2' : St) (w' : Nat → Int64), R x' σ1' σ2' → WL N xs K 1382 [some (.ref 0), some (.ref 1), some (.ref 2), some (.ref 3), some (vi (i0 : Nat)), none, none, none] [] x' σ1' σ2' w' (cu + 1) (su + 6)) : WL N xs K 1065 [some (.ref 0), some (.ref 1), some (.ref 2), some (.ref 3), some (vi (i0 : Nat)), none, none, none] [] x σ1 σ2 w cu su := by
  obtain ⟨r, σ1', σ2', h1, h2, h3⟩ := hsp x σ1 σ2 hR
  refine l_aload_n dL_law_1065 rfl ?_
  refine l_callCi (as := []) mf_L_160 rfl h1 (c_W_nulled (x := x) F σ1) dL_law_1066 rfl rfl rfl rfl rfl rfl (by omega) (by omega) ?_
  refine l_aload_n dL_law_1069 rfl ?_
  refine l_callMi (as := []) mf_L_164 rfl h2 (c_M_nulled F σ2) dL_law_1070 rfl rfl rfl rfl rfl rfl (by omega) (by omega) ?_
  refine l_icmp_eq rfl dL_law_1073 rfl ?_
  exact l_widen (by omega) (by omega) (hnext _ _ _ _ h3)
set_option maxRecDepth 100000 in
set_option maxHeartbeats 4000000 in
theorem lc_number {N : Nat} {xs : Nat → Int32} {K : KL} {i0 : Nat} {x : Bool} {σ1 σ2 : St} {w : Nat → Int64} {cu su F : Nat} {R : Bool → St → St → Prop} (hsp : Sp_number F R) (hR : R x σ1 σ2) (hi : i0 + 6 ≤ N) (hcu : cu + 1 ≤ 601024) (hsu : su + 6 ≤ 7293034) (hnext : ∀ (x' : Bool) (σ1' σ2' : St) (w' : Nat → Int64), R x' σ1' σ2' → WL N xs K 1382 [some (.ref 0), some (.ref 1), some (.ref 2), some (.ref 3), some (vi (i0 : Nat)), none, none, none] [] x' σ1' σ2' w' (cu + 1) (su + 6)) : WL N xs K 1078 [some (.ref 0), some (.ref 1), some (.ref 2), some (.ref 3), some (vi (i0 : Nat)), none, none, none] [] x σ1 σ2 w cu su := by
  obtain ⟨r, σ1', σ2', h1, h2, h3⟩ := hsp x σ1 σ2 ((xs (i0 + 1)).toInt) hR (xr _)
  refine l_aload_n dL_law_1078 rfl ?_
  refine l_aload_n dL_law_1079 rfl ?_
  refine l_iload dL_law_1080 rfl ?_
  refine l_iconst dL_law_1082 ?_
  refine l_iadd dL_law_1083 ?_
  refine l_sld (j := i0 + 1) (by omega) (by omega) dL_law_1084 ?_
  refine l_callCi (as := [vi ((xs (i0 + 1)).toInt)]) mf_L_165 rfl h1 (c_W_number (x := x) F σ1 ((xs (i0 + 1)).toInt)) dL_law_1085 rfl rfl rfl rfl rfl rfl (by omega) (by omega) ?_
  refine l_aload_n dL_law_1088 rfl ?_
  refine l_aload_n dL_law_1089 rfl ?_
  refine l_iload dL_law_1090 rfl ?_
  refine l_iconst dL_law_1092 ?_
  refine l_iadd dL_law_1093 ?_
  refine l_sld (j := i0 + 1) (by omega) (by omega) dL_law_1094 ?_
  refine l_callMi (as := [vi ((xs (i0 + 1)).toInt)]) mf_L_168 rfl h2 (c_M_number F σ2 ((xs (i0 + 1)).toInt)) dL_law_1095 rfl rfl rfl rfl rfl rfl (by omega) (by omega) ?_
  refine l_icmp_eq rfl dL_law_1098 rfl ?_
  exact l_widen (by omega) (by omega) (hnext _ _ _ _ h3)
set_option maxRecDepth 100000 in
set_option maxHeartbeats 4000000 in
theorem lc_comes {N : Nat} {xs : Nat → Int32} {K : KL} {i0 : Nat} {x : Bool} {σ1 σ2 : St} {w : Nat → Int64} {cu su F : Nat} {R : Bool → St → St → Prop} (hsp : Sp_comes F R) (hR : R x σ1 σ2) (hi : i0 + 6 ≤ N) (hcu : cu + 1 ≤ 601024) (hsu : su + 6 ≤ 7293034) (hnext : ∀ (x' : Bool) (σ1' σ2' : St) (w' : Nat → Int64), R x' σ1' σ2' → WL N xs K 1382 [some (.ref 0), some (.ref 1), some (.ref 2), some (.ref 3), some (vi (i0 : Nat)), none, none, none] [] x' σ1' σ2' w' (cu + 1) (su + 6)) : WL N xs K 1103 [some (.ref 0), some (.ref 1), some (.ref 2), some (.ref 3), some (vi (i0 : Nat)), none, none, none] [] x σ1 σ2 w cu su := by
  obtain ⟨r, σ1', σ2', h1, h2, h3⟩ := hsp x σ1 σ2 ((xs (i0 + 1)).toInt) hR (xr _)
  refine l_aload_n dL_law_1103 rfl ?_
  refine l_aload_n dL_law_1104 rfl ?_
  refine l_iload dL_law_1105 rfl ?_
  refine l_iconst dL_law_1107 ?_
  refine l_iadd dL_law_1108 ?_
  refine l_sld (j := i0 + 1) (by omega) (by omega) dL_law_1109 ?_
  refine l_callCi (as := [vi ((xs (i0 + 1)).toInt)]) mf_L_169 rfl h1 (c_W_comes (x := x) F σ1 ((xs (i0 + 1)).toInt)) dL_law_1110 rfl rfl rfl rfl rfl rfl (by omega) (by omega) ?_
  refine l_aload_n dL_law_1113 rfl ?_
  refine l_aload_n dL_law_1114 rfl ?_
  refine l_iload dL_law_1115 rfl ?_
  refine l_iconst dL_law_1117 ?_
  refine l_iadd dL_law_1118 ?_
  refine l_sld (j := i0 + 1) (by omega) (by omega) dL_law_1119 ?_
  refine l_callMi (as := [vi ((xs (i0 + 1)).toInt)]) mf_L_172 rfl h2 (c_M_comes F σ2 ((xs (i0 + 1)).toInt)) dL_law_1120 rfl rfl rfl rfl rfl rfl (by omega) (by omega) ?_
  refine l_icmp_eq rfl dL_law_1123 rfl ?_
  exact l_widen (by omega) (by omega) (hnext _ _ _ _ h3)
set_option maxRecDepth 100000 in
set_option maxHeartbeats 4000000 in
theorem lc_mend {N : Nat} {xs : Nat → Int32} {K : KL} {i0 : Nat} {x : Bool} {σ1 σ2 : St} {w : Nat → Int64} {cu su F : Nat} {R : Bool → St → St → Prop} (hsp : Sp_mend F R) (hR : R x σ1 σ2) (hi : i0 + 6 ≤ N) (hcu : cu + 1 ≤ 601024) (hsu : su + 6 ≤ 7293034) (hnext : ∀ (x' : Bool) (σ1' σ2' : St) (w' : Nat → Int64), R x' σ1' σ2' → WL N xs K 1382 [some (.ref 0), some (.ref 1), some (.ref 2), some (.ref 3), some (vi (i0 : Nat)), none, none, none] [] x' σ1' σ2' w' (cu + 1) (su + 6)) : WL N xs K 1128 [some (.ref 0), some (.ref 1), some (.ref 2), some (.ref 3), some (vi (i0 : Nat)), none, none, none] [] x σ1 σ2 w cu su := by
  obtain ⟨r, σ1', σ2', h1, h2, h3⟩ := hsp x σ1 σ2 ((xs (i0 + 1)).toInt) hR (xr _)
  refine l_aload_n dL_law_1128 rfl ?_
  refine l_aload_n dL_law_1129 rfl ?_
  refine l_iload dL_law_1130 rfl ?_
  refine l_iconst dL_law_1132 ?_
  refine l_iadd dL_law_1133 ?_
  refine l_sld (j := i0 + 1) (by omega) (by omega) dL_law_1134 ?_
  refine l_callCi (as := [vi ((xs (i0 + 1)).toInt)]) mf_L_173 rfl h1 (c_W_mend (x := x) F σ1 ((xs (i0 + 1)).toInt)) dL_law_1135 rfl rfl rfl rfl rfl rfl (by omega) (by omega) ?_
  refine l_aload_n dL_law_1138 rfl ?_
  refine l_aload_n dL_law_1139 rfl ?_
  refine l_iload dL_law_1140 rfl ?_
  refine l_iconst dL_law_1142 ?_
  refine l_iadd dL_law_1143 ?_
  refine l_sld (j := i0 + 1) (by omega) (by omega) dL_law_1144 ?_
  refine l_callMi (as := [vi ((xs (i0 + 1)).toInt)]) mf_L_176 rfl h2 (c_M_mend F σ2 ((xs (i0 + 1)).toInt)) dL_law_1145 rfl rfl rfl rfl rfl rfl (by omega) (by omega) ?_
  refine l_icmp_eq rfl dL_law_1148 rfl ?_
  exact l_widen (by omega) (by omega) (hnext _ _ _ _ h3)
set_option maxRecDepth 100000 in
set_option maxHeartbeats 4000000 in
theorem lc_cross {N : Nat} {xs : Nat → Int32} {K : KL} {i0 : Nat} {x : Bool} {σ1 σ2 : St} {w : Nat → Int64} {cu su F : Nat} {R : Bool → St → St → Prop} (hsp : Sp_cross F R) (hR : R x σ1 σ2) (hi : i0 + 6 ≤ N) (hcu : cu + 1 ≤ 601024) (hsu : su + 6 ≤ 7293034) (hnext : ∀ (x' : Bool) (σ1' σ2' : St) (w' : Nat → Int64), R x' σ1' σ2' → WL N xs K 1382 [some (.ref 0), some (.ref 1), some (.ref 2), some (.ref 3), some (vi (i0 : Nat)), none, none, none] [] x' σ1' σ2' w' (cu + 1) (su + 6)) : WL N xs K 1153 [some (.ref 0), some (.ref 1), some (.ref 2), some (.ref 3), some (vi (i0 : Nat)), none, none, none] [] x σ1 σ2 w cu su := by
  obtain ⟨r1, r2, σ1', σ2', σ2t, h1, h2, h4, h5, h3⟩ := hsp x σ1 σ2 ((xs (i0 + 1)).toInt) ((xs (i0 + 2)).toInt) ((xs (i0 + 3)).toInt) hR (xr _) (xr _) (xr _)
  refine l_aload_n dL_law_1153 rfl ?_
  refine l_aload_n dL_law_1154 rfl ?_
  refine l_iload dL_law_1155 rfl ?_
  refine l_iconst dL_law_1157 ?_
  refine l_iadd dL_law_1158 ?_
  refine l_sld (j := i0 + 1) (by omega) (by omega) dL_law_1159 ?_
  refine l_aload_n dL_law_1160 rfl ?_
  refine l_iload dL_law_1161 rfl ?_
  refine l_iconst dL_law_1163 ?_
  refine l_iadd dL_law_1164 ?_
  refine l_sld (j := i0 + 2) (by omega) (by omega) dL_law_1165 ?_
  refine l_aload_n dL_law_1166 rfl ?_
  refine l_iload dL_law_1167 rfl ?_
  refine l_iconst dL_law_1169 ?_
  refine l_iadd dL_law_1170 ?_
  refine l_sld (j := i0 + 3) (by omega) (by omega) dL_law_1171 ?_
  refine l_aload_n dL_law_1172 rfl ?_
  refine l_callH_cross h1  dL_law_1173 rfl (by omega) (by omega) ?_
  refine l_istore (L' := [some (.ref 0), some (.ref 1), some (.ref 2), some (.ref 3), some (vi (i0 : Nat)), some (vi (if r1 = THR then 1 else 0)), none, none]) dL_law_1176 rfl rfl rfl rfl ?_
  refine l_aload_n dL_law_1178 rfl ?_
  refine l_aload_n dL_law_1179 rfl ?_
  refine l_iload dL_law_1180 rfl ?_
  refine l_iconst dL_law_1182 ?_
  refine l_iadd dL_law_1183 ?_
  refine l_sld (j := i0 + 1) (by omega) (by omega) dL_law_1184 ?_
  refine l_aload_n dL_law_1185 rfl ?_
  refine l_iload dL_law_1186 rfl ?_
  refine l_iconst dL_law_1188 ?_
  refine l_iadd dL_law_1189 ?_
  refine l_sld (j := i0 + 2) (by omega) (by omega) dL_law_1190 ?_
  refine l_aload_n dL_law_1191 rfl ?_
  refine l_iload dL_law_1192 rfl ?_
  refine l_iconst dL_law_1194 ?_
  refine l_iadd dL_law_1195 ?_
  refine l_sld (j := i0 + 3) (by omega) (by omega) dL_law_1196 ?_
  refine l_callMl (as := [vi ((xs (i0 + 1)).toInt), vi ((xs (i0 + 2)).toInt), vi ((xs (i0 + 3)).toInt)]) mf_L_180 rfl h2 (c_M_cross F σ2 ((xs (i0 + 1)).toInt) ((xs (i0 + 2)).toInt) ((xs (i0 + 3)).toInt)) dL_law_1197 rfl rfl rfl rfl rfl rfl (by omega) (by omega) ?_
  refine l_lstore (L' := [some (.ref 0), some (.ref 1), some (.ref 2), some (.ref 3), some (vi (i0 : Nat)), some (vi (if r1 = THR then 1 else 0)), some (vl r2), none]) dL_law_1200 rfl rfl rfl rfl ?_
  refine l_aload_n dL_law_1202 rfl ?_
  refine l_callMi (as := []) mf_L_51 rfl h4 (c_M_thrown F σ2') dL_law_1203 rfl rfl rfl rfl rfl rfl (by omega) (by omega) ?_
  refine l_iload dL_law_1206 rfl ?_
  refine l_icmp_eq rfl dL_law_1208 rfl ?_
  refine l_iload dL_law_1213 rfl ?_
  refine l_if_ne (by split <;> decide) dL_law_1215 rfl (fun _ => ?_) (fun hz => ?_)
  · refine l_L (lsub_get (A := [some (.ref 0), some (.ref 1), some (.ref 2), some (.ref 3), some (vi (i0 : Nat)), none, none, none]) ⟨rfl, ⟨rfl, ⟨rfl, ⟨rfl, ⟨rfl, trivial⟩⟩⟩⟩⟩) ?_
    refine l_goto dL_law_1229 rfl ?_
    exact hnext _ _ _ _ h3
  have hne : r1 ≠ THR := fun q => by rw [if_pos q] at hz; exact absurd hz (by decide)
  refine l_aload_n dL_law_1218 rfl ?_
  refine l_iconst dL_law_1219 ?_
  refine l_outld (v := r1) (by rw [if_neg hne]; rfl) dL_law_1220 ?_
  refine l_lload dL_law_1221 rfl ?_
  refine l_lcmp_eq (h5 hne) dL_law_1223 dL_law_1224 rfl ?_
  refine l_L (lsub_get (A := [some (.ref 0), some (.ref 1), some (.ref 2), some (.ref 3), some (vi (i0 : Nat)), none, none, none]) ⟨rfl, ⟨rfl, ⟨rfl, ⟨rfl, ⟨rfl, trivial⟩⟩⟩⟩⟩) ?_
  refine l_goto dL_law_1229 rfl ?_
  exact hnext _ _ _ _ h3
set_option maxRecDepth 100000 in
set_option maxHeartbeats 4000000 in
theorem lc_fix {N : Nat} {xs : Nat → Int32} {K : KL} {i0 : Nat} {x : Bool} {σ1 σ2 : St} {w : Nat → Int64} {cu su F : Nat} {R : Bool → St → St → Prop} (hsp : Sp_fix F R) (hR : R x σ1 σ2) (hi : i0 + 6 ≤ N) (hcu : cu + 1 ≤ 601024) (hsu : su + 6 ≤ 7293034) (hnext : ∀ (x' : Bool) (σ1' σ2' : St) (w' : Nat → Int64), R x' σ1' σ2' → WL N xs K 1382 [some (.ref 0), some (.ref 1), some (.ref 2), some (.ref 3), some (vi (i0 : Nat)), none, none, none] [] x' σ1' σ2' w' (cu + 1) (su + 6)) : WL N xs K 1232 [some (.ref 0), some (.ref 1), some (.ref 2), some (.ref 3), some (vi (i0 : Nat)), none, none, none] [] x σ1 σ2 w cu su := by
  obtain ⟨r, σ1', σ2', h1, h2, h3⟩ := hsp x σ1 σ2 hR
  refine l_aload_n dL_law_1232 rfl ?_
  refine l_callCi (as := []) mf_L_181 rfl h1 (c_W_fix (x := x) F σ1) dL_law_1233 rfl rfl rfl rfl rfl rfl (by omega) (by omega) ?_
  refine l_aload_n dL_law_1236 rfl ?_
  refine l_callMi (as := []) mf_L_184 rfl h2 (c_M_fix F σ2) dL_law_1237 rfl rfl rfl rfl rfl rfl (by omega) (by omega) ?_
  refine l_icmp_eq rfl dL_law_1240 rfl ?_
  exact l_widen (by omega) (by omega) (hnext _ _ _ _ h3)
set_option maxRecDepth 100000 in
set_option maxHeartbeats 4000000 in
theorem lc_fixAt {N : Nat} {xs : Nat → Int32} {K : KL} {i0 : Nat} {x : Bool} {σ1 σ2 : St} {w : Nat → Int64} {cu su F : Nat} {R : Bool → St → St → Prop} (hsp : Sp_fixAt F R) (hR : R x σ1 σ2) (hi : i0 + 6 ≤ N) (hcu : cu + 1 ≤ 601024) (hsu : su + 6 ≤ 7293034) (hnext : ∀ (x' : Bool) (σ1' σ2' : St) (w' : Nat → Int64), R x' σ1' σ2' → WL N xs K 1382 [some (.ref 0), some (.ref 1), some (.ref 2), some (.ref 3), some (vi (i0 : Nat)), none, none, none] [] x' σ1' σ2' w' (cu + 1) (su + 6)) : WL N xs K 1245 [some (.ref 0), some (.ref 1), some (.ref 2), some (.ref 3), some (vi (i0 : Nat)), none, none, none] [] x σ1 σ2 w cu su := by
  obtain ⟨r, σ1', σ2', h1, h2, h3⟩ := hsp x σ1 σ2 ((xs (i0 + 1)).toInt) hR (xr _)
  refine l_aload_n dL_law_1245 rfl ?_
  refine l_aload_n dL_law_1246 rfl ?_
  refine l_iload dL_law_1247 rfl ?_
  refine l_iconst dL_law_1249 ?_
  refine l_iadd dL_law_1250 ?_
  refine l_sld (j := i0 + 1) (by omega) (by omega) dL_law_1251 ?_
  refine l_callCi (as := [vi ((xs (i0 + 1)).toInt)]) mf_L_185 rfl h1 (c_W_fixAt (x := x) F σ1 ((xs (i0 + 1)).toInt)) dL_law_1252 rfl rfl rfl rfl rfl rfl (by omega) (by omega) ?_
  refine l_aload_n dL_law_1255 rfl ?_
  refine l_aload_n dL_law_1256 rfl ?_
  refine l_iload dL_law_1257 rfl ?_
  refine l_iconst dL_law_1259 ?_
  refine l_iadd dL_law_1260 ?_
  refine l_sld (j := i0 + 1) (by omega) (by omega) dL_law_1261 ?_
  refine l_callMi (as := [vi ((xs (i0 + 1)).toInt)]) mf_L_188 rfl h2 (c_M_fixAt F σ2 ((xs (i0 + 1)).toInt)) dL_law_1262 rfl rfl rfl rfl rfl rfl (by omega) (by omega) ?_
  refine l_icmp_eq rfl dL_law_1265 rfl ?_
  exact l_widen (by omega) (by omega) (hnext _ _ _ _ h3)
set_option maxRecDepth 100000 in
set_option maxHeartbeats 4000000 in
theorem lc_through {N : Nat} {xs : Nat → Int32} {K : KL} {i0 : Nat} {x : Bool} {σ1 σ2 : St} {w : Nat → Int64} {cu su F : Nat} {R : Bool → St → St → Prop} (hsp : Sp_through F R) (hR : R x σ1 σ2) (hi : i0 + 6 ≤ N) (hcu : cu + 1 ≤ 601024) (hsu : su + 6 ≤ 7293034) (hnext : ∀ (x' : Bool) (σ1' σ2' : St) (w' : Nat → Int64), R x' σ1' σ2' → WL N xs K 1382 [some (.ref 0), some (.ref 1), some (.ref 2), some (.ref 3), some (vi (i0 : Nat)), none, none, none] [] x' σ1' σ2' w' (cu + 1) (su + 6)) : WL N xs K 1270 [some (.ref 0), some (.ref 1), some (.ref 2), some (.ref 3), some (vi (i0 : Nat)), none, none, none] [] x σ1 σ2 w cu su := by
  obtain ⟨r, σ1', σ2', h1, h2, h3⟩ := hsp x σ1 σ2 ((xs (i0 + 1)).toInt) ((xs (i0 + 2)).toInt) hR (xr _) (xr _)
  refine l_aload_n dL_law_1270 rfl ?_
  refine l_aload_n dL_law_1271 rfl ?_
  refine l_iload dL_law_1272 rfl ?_
  refine l_iconst dL_law_1274 ?_
  refine l_iadd dL_law_1275 ?_
  refine l_sld (j := i0 + 1) (by omega) (by omega) dL_law_1276 ?_
  refine l_aload_n dL_law_1277 rfl ?_
  refine l_iload dL_law_1278 rfl ?_
  refine l_iconst dL_law_1280 ?_
  refine l_iadd dL_law_1281 ?_
  refine l_sld (j := i0 + 2) (by omega) (by omega) dL_law_1282 ?_
  refine l_callCi (as := [vi ((xs (i0 + 1)).toInt), vi ((xs (i0 + 2)).toInt)]) mf_L_189 rfl h1 (c_W_through (x := x) F σ1 ((xs (i0 + 1)).toInt) ((xs (i0 + 2)).toInt)) dL_law_1283 rfl rfl rfl rfl rfl rfl (by omega) (by omega) ?_
  refine l_aload_n dL_law_1286 rfl ?_
  refine l_aload_n dL_law_1287 rfl ?_
  refine l_iload dL_law_1288 rfl ?_
  refine l_iconst dL_law_1290 ?_
  refine l_iadd dL_law_1291 ?_
  refine l_sld (j := i0 + 1) (by omega) (by omega) dL_law_1292 ?_
  refine l_aload_n dL_law_1293 rfl ?_
  refine l_iload dL_law_1294 rfl ?_
  refine l_iconst dL_law_1296 ?_
  refine l_iadd dL_law_1297 ?_
  refine l_sld (j := i0 + 2) (by omega) (by omega) dL_law_1298 ?_
  refine l_callMi (as := [vi ((xs (i0 + 1)).toInt), vi ((xs (i0 + 2)).toInt)]) mf_L_192 rfl h2 (c_M_through F σ2 ((xs (i0 + 1)).toInt) ((xs (i0 + 2)).toInt)) dL_law_1299 rfl rfl rfl rfl rfl rfl (by omega) (by omega) ?_
  refine l_icmp_eq rfl dL_law_1302 rfl ?_
  exact l_widen (by omega) (by omega) (hnext _ _ _ _ h3)
set_option maxRecDepth 100000 in
set_option maxHeartbeats 4000000 in
theorem lc_image {N : Nat} {xs : Nat → Int32} {K : KL} {i0 : Nat} {x : Bool} {σ1 σ2 : St} {w : Nat → Int64} {cu su F : Nat} {R : Bool → St → St → Prop} (hsp : Sp_image F R) (hR : R x σ1 σ2) (hi : i0 + 6 ≤ N) (hcu : cu + 1 ≤ 601024) (hsu : su + 6 ≤ 7293034) (hnext : ∀ (x' : Bool) (σ1' σ2' : St) (w' : Nat → Int64), R x' σ1' σ2' → WL N xs K 1382 [some (.ref 0), some (.ref 1), some (.ref 2), some (.ref 3), some (vi (i0 : Nat)), none, none, none] [] x' σ1' σ2' w' (cu + 1) (su + 6)) : WL N xs K 1307 [some (.ref 0), some (.ref 1), some (.ref 2), some (.ref 3), some (vi (i0 : Nat)), none, none, none] [] x σ1 σ2 w cu su := by
  obtain ⟨r, σ1', σ2', h1, h2, h3⟩ := hsp x σ1 σ2 ((xs (i0 + 1)).toInt) hR (xr _)
  refine l_aload_n dL_law_1307 rfl ?_
  refine l_aload_n dL_law_1308 rfl ?_
  refine l_iload dL_law_1309 rfl ?_
  refine l_iconst dL_law_1311 ?_
  refine l_iadd dL_law_1312 ?_
  refine l_sld (j := i0 + 1) (by omega) (by omega) dL_law_1313 ?_
  refine l_callCi (as := [vi ((xs (i0 + 1)).toInt)]) mf_L_193 rfl h1 (c_W_image (x := x) F σ1 ((xs (i0 + 1)).toInt)) dL_law_1314 rfl rfl rfl rfl rfl rfl (by omega) (by omega) ?_
  refine l_aload_n dL_law_1317 rfl ?_
  refine l_aload_n dL_law_1318 rfl ?_
  refine l_iload dL_law_1319 rfl ?_
  refine l_iconst dL_law_1321 ?_
  refine l_iadd dL_law_1322 ?_
  refine l_sld (j := i0 + 1) (by omega) (by omega) dL_law_1323 ?_
  refine l_callMi (as := [vi ((xs (i0 + 1)).toInt)]) mf_L_196 rfl h2 (c_M_image F σ2 ((xs (i0 + 1)).toInt)) dL_law_1324 rfl rfl rfl rfl rfl rfl (by omega) (by omega) ?_
  refine l_icmp_eq rfl dL_law_1327 rfl ?_
  exact l_widen (by omega) (by omega) (hnext _ _ _ _ h3)
set_option maxRecDepth 100000 in
set_option maxHeartbeats 4000000 in
theorem lc_restore {N : Nat} {xs : Nat → Int32} {K : KL} {i0 : Nat} {x : Bool} {σ1 σ2 : St} {w : Nat → Int64} {cu su F : Nat} {R : Bool → St → St → Prop} (hsp : Sp_restore F R) (hR : R x σ1 σ2) (hi : i0 + 6 ≤ N) (hcu : cu + 1 ≤ 601024) (hsu : su + 6 ≤ 7293034) (hnext : ∀ (x' : Bool) (σ1' σ2' : St) (w' : Nat → Int64), R x' σ1' σ2' → WL N xs K 1382 [some (.ref 0), some (.ref 1), some (.ref 2), some (.ref 3), some (vi (i0 : Nat)), none, none, none] [] x' σ1' σ2' w' (cu + 1) (su + 6)) : WL N xs K 1332 [some (.ref 0), some (.ref 1), some (.ref 2), some (.ref 3), some (vi (i0 : Nat)), none, none, none] [] x σ1 σ2 w cu su := by
  obtain ⟨r, σ1', σ2', h1, h2, h3⟩ := hsp x σ1 σ2 ((xs (i0 + 1)).toInt) hR (xr _)
  refine l_aload_n dL_law_1332 rfl ?_
  refine l_aload_n dL_law_1333 rfl ?_
  refine l_iload dL_law_1334 rfl ?_
  refine l_iconst dL_law_1336 ?_
  refine l_iadd dL_law_1337 ?_
  refine l_sld (j := i0 + 1) (by omega) (by omega) dL_law_1338 ?_
  refine l_callCi (as := [vi ((xs (i0 + 1)).toInt)]) mf_L_197 rfl h1 (c_W_restore (x := x) F σ1 ((xs (i0 + 1)).toInt)) dL_law_1339 rfl rfl rfl rfl rfl rfl (by omega) (by omega) ?_
  refine l_aload_n dL_law_1342 rfl ?_
  refine l_aload_n dL_law_1343 rfl ?_
  refine l_iload dL_law_1344 rfl ?_
  refine l_iconst dL_law_1346 ?_
  refine l_iadd dL_law_1347 ?_
  refine l_sld (j := i0 + 1) (by omega) (by omega) dL_law_1348 ?_
  refine l_callMi (as := [vi ((xs (i0 + 1)).toInt)]) mf_L_200 rfl h2 (c_M_restore F σ2 ((xs (i0 + 1)).toInt)) dL_law_1349 rfl rfl rfl rfl rfl rfl (by omega) (by omega) ?_
  refine l_icmp_eq rfl dL_law_1352 rfl ?_
  exact l_widen (by omega) (by omega) (hnext _ _ _ _ h3)
set_option maxRecDepth 100000 in
set_option maxHeartbeats 4000000 in
theorem lc_count {N : Nat} {xs : Nat → Int32} {K : KL} {i0 : Nat} {x : Bool} {σ1 σ2 : St} {w : Nat → Int64} {cu su F : Nat} {R : Bool → St → St → Prop} (hsp : Sp_count F R) (hR : R x σ1 σ2) (hi : i0 + 6 ≤ N) (hcu : cu + 1 ≤ 601024) (hsu : su + 6 ≤ 7293034) (hnext : ∀ (x' : Bool) (σ1' σ2' : St) (w' : Nat → Int64), R x' σ1' σ2' → WL N xs K 1382 [some (.ref 0), some (.ref 1), some (.ref 2), some (.ref 3), some (vi (i0 : Nat)), none, none, none] [] x' σ1' σ2' w' (cu + 1) (su + 6)) : WL N xs K 1357 [some (.ref 0), some (.ref 1), some (.ref 2), some (.ref 3), some (vi (i0 : Nat)), none, none, none] [] x σ1 σ2 w cu su := by
  obtain ⟨r, σ1', σ2', h1, h2, h3⟩ := hsp x σ1 σ2 ((xs (i0 + 1)).toInt) hR (xr _)
  refine l_aload_n dL_law_1357 rfl ?_
  refine l_aload_n dL_law_1358 rfl ?_
  refine l_iload dL_law_1359 rfl ?_
  refine l_iconst dL_law_1361 ?_
  refine l_iadd dL_law_1362 ?_
  refine l_sld (j := i0 + 1) (by omega) (by omega) dL_law_1363 ?_
  refine l_callCi (as := [vi ((xs (i0 + 1)).toInt)]) mf_L_201 rfl h1 (c_W_count (x := x) F σ1 ((xs (i0 + 1)).toInt)) dL_law_1364 rfl rfl rfl rfl rfl rfl (by omega) (by omega) ?_
  refine l_aload_n dL_law_1367 rfl ?_
  refine l_aload_n dL_law_1368 rfl ?_
  refine l_iload dL_law_1369 rfl ?_
  refine l_iconst dL_law_1371 ?_
  refine l_iadd dL_law_1372 ?_
  refine l_sld (j := i0 + 1) (by omega) (by omega) dL_law_1373 ?_
  refine l_callMi (as := [vi ((xs (i0 + 1)).toInt)]) mf_L_204 rfl h2 (c_M_count F σ2 ((xs (i0 + 1)).toInt)) dL_law_1374 rfl rfl rfl rfl rfl rfl (by omega) (by omega) ?_
  refine l_icmp_eq rfl dL_law_1377 rfl ?_
  exact l_widen (by omega) (by omega) (hnext _ _ _ _ h3)
def StepOK (F : Nat) (R : Bool → St → St → Prop) : Prop := Sp_feed F R ∧ Sp_end F R ∧ Sp_field F R ∧ Sp_fault F R ∧ Sp_hearer F R ∧ Sp_sender F R ∧ Sp_moment F R ∧ Sp_wave F R ∧ Sp_reading F R ∧ Sp_cover F R ∧ Sp_order F R ∧ Sp_seen F R ∧ Sp_twins F R ∧ Sp_smoothed F R ∧ Sp_smoothSeen F R ∧ Sp_apart F R ∧ Sp_run F R ∧ Sp_lag F R ∧ Sp_rule F R ∧ Sp_ruleAt F R ∧ Sp_roots F R ∧ Sp_strength F R ∧ Sp_tracks F R ∧ Sp_track F R ∧ Sp_enough F R ∧ Sp_lose F R ∧ Sp_fewest F R ∧ Sp_made F R ∧ Sp_madeBy F R ∧ Sp_liars F R ∧ Sp_liar F R ∧ Sp_nulled F R ∧ Sp_number F R ∧ Sp_comes F R ∧ Sp_mend F R ∧ Sp_cross F R ∧ Sp_fix F R ∧ Sp_fixAt F R ∧ Sp_through F R ∧ Sp_image F R ∧ Sp_restore F R ∧ Sp_count F R
theorem sel_rng (v : Int32) : 0 ≤ iandI v.toInt 63 ∧ iandI v.toInt 63 ≤ 63 := by
  unfold iandI
  rw [Int32.ofInt_toInt]
  obtain ⟨j, hj, e⟩ := pk_andE v (m := Int32.ofInt 63) 6 (by decide)
  rw [e]
  show 0 ≤ (Int32.ofNat j).toInt ∧ (Int32.ofNat j).toInt ≤ 63
  have : (Int32.ofNat j).toInt = (j : Int) := nI_toInt (by omega)
  rw [this]
  omega
set_option maxRecDepth 100000 in
set_option maxHeartbeats 4000000 in
theorem law_body {N : Nat} {xs : Nat → Int32} {K : KL} {i0 : Nat} {x : Bool} {σ1 σ2 : St} {w : Nat → Int64} {cu su F : Nat} {R : Bool → St → St → Prop} (hst : StepOK F R) (hR : R x σ1 σ2) (hi : i0 + 6 ≤ N) (hcu : cu + 1 ≤ 601024) (hsu : su + 6 ≤ 7293034) (hnext : ∀ (x' : Bool) (σ1' σ2' : St) (w' : Nat → Int64), R x' σ1' σ2' → WL N xs K 1382 [some (.ref 0), some (.ref 1), some (.ref 2), some (.ref 3), some (vi (i0 : Nat)), none, none, none] [] x' σ1' σ2' w' (cu + 1) (su + 6)) : WL N xs K 33 [some (.ref 0), some (.ref 1), some (.ref 2), some (.ref 3), some (vi (i0 : Nat)), none, none, none] [] x σ1 σ2 w cu su := by
  obtain ⟨s_feed, s_end, s_field, s_fault, s_hearer, s_sender, s_moment, s_wave, s_reading, s_cover, s_order, s_seen, s_twins, s_smoothed, s_smoothSeen, s_apart, s_run, s_lag, s_rule, s_ruleAt, s_roots, s_strength, s_tracks, s_track, s_enough, s_lose, s_fewest, s_made, s_madeBy, s_liars, s_liar, s_nulled, s_number, s_comes, s_mend, s_cross, s_fix, s_fixAt, s_through, s_image, s_restore, s_count⟩ := hst
  refine l_aload_n dL_law_33 rfl ?_
  refine l_iload dL_law_34 rfl ?_
  refine l_sld (j := i0) rfl (by omega) dL_law_36 ?_
  refine l_bipush dL_law_37 bi_63 ?_
  refine l_iand dL_law_39 ?_
  have hs := sel_rng (xs i0)
  have hrs : rng (iandI (xs i0).toInt 63) := ⟨by omega, by omega⟩
  generalize (iandI (xs i0).toInt 63) = sv at hs hrs ⊢
  by_cases h0 : sv = 0
  · subst h0; exact l_tsw_in dL_law_40 hrs (by decide) (by decide) rfl rfl (lc_feed s_feed hR hi hcu hsu hnext)
  by_cases h1 : sv = 1
  · subst h1; exact l_tsw_in dL_law_40 hrs (by decide) (by decide) rfl rfl (lc_end s_end hR hi hcu hsu hnext)
  by_cases h2 : sv = 2
  · subst h2; exact l_tsw_in dL_law_40 hrs (by decide) (by decide) rfl rfl (lc_field s_field hR hi hcu hsu hnext)
  by_cases h3 : sv = 3
  · subst h3; exact l_tsw_in dL_law_40 hrs (by decide) (by decide) rfl rfl (lc_fault s_fault hR hi hcu hsu hnext)
  by_cases h4 : sv = 4
  · subst h4; exact l_tsw_in dL_law_40 hrs (by decide) (by decide) rfl rfl (lc_hearer s_hearer hR hi hcu hsu hnext)
  by_cases h5 : sv = 5
  · subst h5; exact l_tsw_in dL_law_40 hrs (by decide) (by decide) rfl rfl (lc_sender s_sender hR hi hcu hsu hnext)
  by_cases h6 : sv = 6
  · subst h6; exact l_tsw_in dL_law_40 hrs (by decide) (by decide) rfl rfl (lc_moment s_moment hR hi hcu hsu hnext)
  by_cases h7 : sv = 7
  · subst h7; exact l_tsw_in dL_law_40 hrs (by decide) (by decide) rfl rfl (lc_wave s_wave hR hi hcu hsu hnext)
  by_cases h8 : sv = 8
  · subst h8; exact l_tsw_in dL_law_40 hrs (by decide) (by decide) rfl rfl (lc_reading s_reading hR hi hcu hsu hnext)
  by_cases h9 : sv = 9
  · subst h9; exact l_tsw_in dL_law_40 hrs (by decide) (by decide) rfl rfl (lc_cover s_cover hR hi hcu hsu hnext)
  by_cases h10 : sv = 10
  · subst h10; exact l_tsw_in dL_law_40 hrs (by decide) (by decide) rfl rfl (lc_order s_order hR hi hcu hsu hnext)
  by_cases h11 : sv = 11
  · subst h11; exact l_tsw_in dL_law_40 hrs (by decide) (by decide) rfl rfl (lc_seen s_seen hR hi hcu hsu hnext)
  by_cases h12 : sv = 12
  · subst h12; exact l_tsw_in dL_law_40 hrs (by decide) (by decide) rfl rfl (lc_twins s_twins hR hi hcu hsu hnext)
  by_cases h13 : sv = 13
  · subst h13; exact l_tsw_in dL_law_40 hrs (by decide) (by decide) rfl rfl (lc_smoothed s_smoothed hR hi hcu hsu hnext)
  by_cases h14 : sv = 14
  · subst h14; exact l_tsw_in dL_law_40 hrs (by decide) (by decide) rfl rfl (lc_smoothSeen s_smoothSeen hR hi hcu hsu hnext)
  by_cases h15 : sv = 15
  · subst h15; exact l_tsw_in dL_law_40 hrs (by decide) (by decide) rfl rfl (lc_apart s_apart hR hi hcu hsu hnext)
  by_cases h16 : sv = 16
  · subst h16; exact l_tsw_in dL_law_40 hrs (by decide) (by decide) rfl rfl (lc_run s_run hR hi hcu hsu hnext)
  by_cases h17 : sv = 17
  · subst h17; exact l_tsw_in dL_law_40 hrs (by decide) (by decide) rfl rfl (lc_lag s_lag hR hi hcu hsu hnext)
  by_cases h18 : sv = 18
  · subst h18; exact l_tsw_in dL_law_40 hrs (by decide) (by decide) rfl rfl (lc_rule s_rule hR hi hcu hsu hnext)
  by_cases h19 : sv = 19
  · subst h19; exact l_tsw_in dL_law_40 hrs (by decide) (by decide) rfl rfl (lc_ruleAt s_ruleAt hR hi hcu hsu hnext)
  by_cases h20 : sv = 20
  · subst h20; exact l_tsw_in dL_law_40 hrs (by decide) (by decide) rfl rfl (lc_roots s_roots hR hi hcu hsu hnext)
  by_cases h21 : sv = 21
  · subst h21; exact l_tsw_in dL_law_40 hrs (by decide) (by decide) rfl rfl (lc_strength s_strength hR hi hcu hsu hnext)
  by_cases h22 : sv = 22
  · subst h22; exact l_tsw_in dL_law_40 hrs (by decide) (by decide) rfl rfl (lc_tracks s_tracks hR hi hcu hsu hnext)
  by_cases h23 : sv = 23
  · subst h23; exact l_tsw_in dL_law_40 hrs (by decide) (by decide) rfl rfl (lc_track s_track hR hi hcu hsu hnext)
  by_cases h24 : sv = 24
  · subst h24; exact l_tsw_in dL_law_40 hrs (by decide) (by decide) rfl rfl (lc_enough s_enough hR hi hcu hsu hnext)
  by_cases h25 : sv = 25
  · subst h25; exact l_tsw_in dL_law_40 hrs (by decide) (by decide) rfl rfl (lc_lose s_lose hR hi hcu hsu hnext)
  by_cases h26 : sv = 26
  · subst h26; exact l_tsw_in dL_law_40 hrs (by decide) (by decide) rfl rfl (lc_fewest s_fewest hR hi hcu hsu hnext)
  by_cases h27 : sv = 27
  · subst h27; exact l_tsw_in dL_law_40 hrs (by decide) (by decide) rfl rfl (lc_made s_made hR hi hcu hsu hnext)
  by_cases h28 : sv = 28
  · subst h28; exact l_tsw_in dL_law_40 hrs (by decide) (by decide) rfl rfl (lc_madeBy s_madeBy hR hi hcu hsu hnext)
  by_cases h29 : sv = 29
  · subst h29; exact l_tsw_in dL_law_40 hrs (by decide) (by decide) rfl rfl (lc_liars s_liars hR hi hcu hsu hnext)
  by_cases h30 : sv = 30
  · subst h30; exact l_tsw_in dL_law_40 hrs (by decide) (by decide) rfl rfl (lc_liar s_liar hR hi hcu hsu hnext)
  by_cases h31 : sv = 31
  · subst h31; exact l_tsw_in dL_law_40 hrs (by decide) (by decide) rfl rfl (lc_nulled s_nulled hR hi hcu hsu hnext)
  by_cases h32 : sv = 32
  · subst h32; exact l_tsw_in dL_law_40 hrs (by decide) (by decide) rfl rfl (lc_number s_number hR hi hcu hsu hnext)
  by_cases h33 : sv = 33
  · subst h33; exact l_tsw_in dL_law_40 hrs (by decide) (by decide) rfl rfl (lc_comes s_comes hR hi hcu hsu hnext)
  by_cases h34 : sv = 34
  · subst h34; exact l_tsw_in dL_law_40 hrs (by decide) (by decide) rfl rfl (lc_mend s_mend hR hi hcu hsu hnext)
  by_cases h35 : sv = 35
  · subst h35; exact l_tsw_in dL_law_40 hrs (by decide) (by decide) rfl rfl (lc_cross s_cross hR hi hcu hsu hnext)
  by_cases h36 : sv = 36
  · subst h36; exact l_tsw_in dL_law_40 hrs (by decide) (by decide) rfl rfl (lc_fix s_fix hR hi hcu hsu hnext)
  by_cases h37 : sv = 37
  · subst h37; exact l_tsw_in dL_law_40 hrs (by decide) (by decide) rfl rfl (lc_fixAt s_fixAt hR hi hcu hsu hnext)
  by_cases h38 : sv = 38
  · subst h38; exact l_tsw_in dL_law_40 hrs (by decide) (by decide) rfl rfl (lc_through s_through hR hi hcu hsu hnext)
  by_cases h39 : sv = 39
  · subst h39; exact l_tsw_in dL_law_40 hrs (by decide) (by decide) rfl rfl (lc_image s_image hR hi hcu hsu hnext)
  by_cases h40 : sv = 40
  · subst h40; exact l_tsw_in dL_law_40 hrs (by decide) (by decide) rfl rfl (lc_restore s_restore hR hi hcu hsu hnext)
  by_cases h41 : sv = 41
  · subst h41; exact l_tsw_in dL_law_40 hrs (by decide) (by decide) rfl rfl (lc_count s_count hR hi hcu hsu hnext)
  exact l_tsw_out dL_law_40 hrs (by omega) rfl (l_widen (by omega) (by omega) (hnext _ _ _ _ hR))
theorem law_end {N : Nat} {xs : Nat → Int32} {K : KL} {L : List (Option Value)} {x : Bool} {σ1 σ2 : St} {w : Nat → Int64} {cu su : Nat} (hcu : cu ≤ 601024) (hsu : su ≤ 7293034) : WL N xs K 1388 L [] x σ1 σ2 w cu su := by
  refine l_iconst dL_law_1388 ?_
  intro hK
  obtain ⟨⟨p, l, e, s, m⟩, ⟨below, meth, c⟩, ⟨lad, tc, D⟩, b⟩ := K
  obtain ⟨hx, hb, hml, hown, hts, hlk, hret, hK1, hK2, hX, hbl, hl0, hN, hst, hTh⟩ := id hK
  intro H locs ls hW hS hl
  refine va_forget (fun q hq => hS.2.2 q hq) ?_
  exact W.widen hcu hsu (lw_ret hx hb hret hlk dL_law_1389)
set_option maxRecDepth 100000 in
set_option maxHeartbeats 4000000 in
theorem law_loop {N : Nat} {xs : Nat → Int32} {K : KL} {F : Nat} {R : Bool → St → St → Prop} (hN : N ≤ 3072) (hst : StepOK F R) (c0 s0 : Nat) (hc0 : c0 + 600 ≤ 601024) (hs0 : s0 + 3600 ≤ 7293034) : ∀ (n k : Nat) (x : Bool) (σ1 σ2 : St) (w : Nat → Int64), R x σ1 σ2 → k ≤ 512 → N < 6 * k + 6 * n → WL N xs K 23 [some (.ref 0), some (.ref 1), some (.ref 2), some (.ref 3), some (vi ((6 * k : Nat) : Nat)), none, none, none] [] x σ1 σ2 w (c0 + k) (s0 + 6 * k) := by
  intro n
  induction n with
  | zero =>
    intro k x σ1 σ2 w hR hk hn
    refine l_iload dL_law_23 rfl ?_
    refine l_aload_n dL_law_25 rfl ?_
    refine l_slen dL_law_26 ?_
    refine l_bipush dL_law_27 bi_6 ?_
    refine l_isub dL_law_29 ?_
    refine l_icmp_gt ⟨⟨by omega, by omega⟩, ⟨by omega, by omega⟩⟩ dL_law_30 rfl (fun h => ?_) (fun h => ?_)
    · exact law_end (by omega) (by omega)
    · exfalso; omega
  | succ n ih =>
    intro k x σ1 σ2 w hR hk hn
    refine l_iload dL_law_23 rfl ?_
    refine l_aload_n dL_law_25 rfl ?_
    refine l_slen dL_law_26 ?_
    refine l_bipush dL_law_27 bi_6 ?_
    refine l_isub dL_law_29 ?_
    refine l_icmp_gt ⟨⟨by omega, by omega⟩, ⟨by omega, by omega⟩⟩ dL_law_30 rfl (fun h => ?_) (fun h => ?_)
    · exact law_end (by omega) (by omega)
    · refine law_body (i0 := 6 * k) hst hR (by omega) (by omega) (by omega) fun x' σ1' σ2' w' hR' => ?_
      refine l_iinc (y := ((6 * (k + 1) : Nat) : Int)) (L' := [some (.ref 0), some (.ref 1), some (.ref 2), some (.ref 3), some (vi ((6 * (k + 1) : Nat) : Int)), none, none, none]) dL_law_1382 rfl (by omega) rfl rfl rfl ?_
      refine l_goto dL_law_1385 rfl ?_
      exact ih (k + 1) x' σ1' σ2' w' hR' (by omega) (by omega)
