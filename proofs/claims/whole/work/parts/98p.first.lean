/-! THE START: the two new worlds are related -/
theorem latS_f : gF latS 0 = 12 ∧ gF latS 1 = PR 12 ∧ gF latS 2 = RT 12 ∧ ∀ i, i < 12 → gA latS 1 i = PW 12 i := by decide +kernel
def LatT (τ : St) : Prop := gF τ 0 = 12 ∧ gF τ 1 = PR 12 ∧ gF τ 2 = RT 12 ∧ ∀ i, i < 12 → gA τ 1 i = PW 12 i
theorem latW_0 {τ : St} (hτ : LatT τ) : LatW (σW τ) 0 12 := ⟨(show gF (σW τ) (1472 + 64 * 0) = gF τ 0 from rfl).trans hτ.1, (show gF (σW τ) (1473 + 64 * 0) = gF τ 1 from rfl).trans hτ.2.1, (show gF (σW τ) (1474 + 64 * 0) = gF τ 2 from rfl).trans hτ.2.2.1, fun i hi => (show gA (σW τ) (27 + 0) i = gA τ 1 i from rfl).trans (hτ.2.2.2 i hi)⟩
theorem latW_1 {τ : St} (hτ : LatT τ) : LatW (σW τ) 1 12 := ⟨(show gF (σW τ) (1472 + 64 * 1) = gF τ 0 from rfl).trans hτ.1, (show gF (σW τ) (1473 + 64 * 1) = gF τ 1 from rfl).trans hτ.2.1, (show gF (σW τ) (1474 + 64 * 1) = gF τ 2 from rfl).trans hτ.2.2.1, fun i hi => (show gA (σW τ) (27 + 1) i = gA τ 1 i from rfl).trans (hτ.2.2.2 i hi)⟩
set_option maxRecDepth 100000 in
theorem RR_start {σ τ : St} (hτ : LatT τ) (hs : f_M_settle 2000 σM1 = some (0, σ)) : RR false (σW τ) σ := by
  obtain ⟨σ', h0, h20, h21, h6, hF, hA⟩ := σM1_run
  have e : σ = σ' := by rw [h0] at hs; exact (Prod.mk.inj (Option.some.inj hs)).2.symm
  subst e
  have a0 : ∀ a, a ≠ 6 → a ≠ 5 → a ≠ 2 → ∀ i, gA σ a i = 0 := fun a h6 h5 h2 i => by
    rw [hA a h6]; simp [σM1, σM0, gA, sA, h5, h2]
  have b0 : gA σ 2 0 = 12 := (hA 2 (by decide) 0).trans rfl
  have hz : ∀ j, 1 ≤ j → gA σ 2 j = 0 := fun j hj => by
    rw [hA 2 (by decide)]
    have : ¬ j = 0 := by omega
    simp [σM1, σM0, gA, sA, this]
  have r0 : ∀ i, gA σ 5 i = gA σM1 5 i := hA 5 (by decide)
  have g2 : gF σ 2 = 0 := (hF 2 (by decide) (by decide)).trans rfl
  have g14 : gF σ 14 = 0 := (hF 14 (by decide) (by decide)).trans rfl
  have g31 : gF σ 31 = 0 := (hF 31 (by decide) (by decide)).trans rfl
  have g32 : gF σ 32 = 0 := (hF 32 (by decide) (by decide)).trans rfl
  have g33 : gF σ 33 = 0 := (hF 33 (by decide) (by decide)).trans rfl
  have g34 : gF σ 34 = 0 := (hF 34 (by decide) (by decide)).trans rfl
  have g37 : gF σ 37 = 0 := (hF 37 (by decide) (by decide)).trans rfl
  have g41 : gF σ 41 = -1 := (hF 41 (by decide) (by decide)).trans rfl
  have g43 : gF σ 43 = -1 := (hF 43 (by decide) (by decide)).trans rfl
  have g47 : gF σ 47 = -1 := (hF 47 (by decide) (by decide)).trans rfl
  have g56 : gF σ 56 = -1 := (hF 56 (by decide) (by decide)).trans rfl
  refine ⟨⟨(show gF (σW τ) 65 = 0 from rfl).trans g2.symm, by rw [g2]; decide, by rw [g2]; decide, fun i _ => by rw [a0 1 (by decide) (by decide) (by decide)]; rfl⟩, (show gF (σW τ) 193 = 0 from rfl).trans g14.symm, ⟨⟨by rw [b0]; exact ⟨by decide, by decide⟩, by rw [b0]; exact latW_0 hτ⟩,
    ⟨(show gF (σW τ) (5059 + 64 * 0) = 0 from rfl).trans (hz (0 + 1) (by decide)).symm, by rw [hz (0 + 1) (by decide)]; decide, by rw [hz (0 + 1) (by decide)]; decide⟩,
    ⟨(show gF (σW τ) (5062 + 64 * 0) = 0 from rfl).trans (hz (0 + 2) (by decide)).symm, by rw [hz (0 + 2) (by decide)]; decide, by rw [hz (0 + 2) (by decide)]; decide⟩,
    ⟨(show gF (σW τ) (1984 + 64 * 0) = 0 from rfl).trans (hz (0 + 3) (by decide)).symm, by rw [hz (0 + 3) (by decide)]; decide, by rw [hz (0 + 3) (by decide)]; decide⟩,
    ⟨(show gF (σW τ) (1987 + 64 * 0) = 0 from rfl).trans (hz (0 + 4) (by decide)).symm, by rw [hz (0 + 4) (by decide)]; decide, by rw [hz (0 + 4) (by decide)]; decide⟩,
    ⟨(show gF (σW τ) (5058 + 64 * 0) = 0 from rfl).trans (hz (0 + 5) (by decide)).symm, by rw [hz (0 + 5) (by decide)]; decide, by rw [hz (0 + 5) (by decide)]; decide⟩,
    fun h hh => by exfalso; rw [hz (0 + 1) (by decide)] at hh; omega,
    fun i j _ hh => by exfalso; rw [hz (0 + 1) (by decide)] at hh; omega,
    fun s hh => by exfalso; rw [hz (0 + 2) (by decide)] at hh; omega,
    fun t hh => by exfalso; rw [hz (0 + 3) (by decide)] at hh; omega,
    fun b hh => by exfalso; rw [hz (0 + 4) (by decide)] at hh; omega⟩, ⟨by rw [b0]; exact h20, by rw [b0]; exact h21, by rw [b0]; exact fun i hi => h6 i hi⟩, ⟨12, ⟨by decide, by decide⟩, latW_1 hτ⟩, ?_, ?_, ⟨?_, ?_, ?_, ?_, ?_, ?_⟩, ?_⟩
  · have q := a0 23 (by decide) (by decide) (by decide) 0
    exact ⟨(show gA (σW τ) 84 0 = 0 from rfl).trans q.symm, by rw [q]; decide, fun hh => by exfalso; rw [q] at hh; omega⟩
  · have q := a0 23 (by decide) (by decide) (by decide) 1
    exact ⟨(show gA (σW τ) 84 1 = 0 from rfl).trans q.symm, by rw [q]; decide, fun hh => by exfalso; rw [q] at hh; omega⟩
  · exact ⟨⟨(show gF (σW τ) 577 = 0 from rfl).trans g31.symm, by rw [g31]; decide, by rw [g31]; decide⟩, by rw [g34]; decide, fun _ => g31, fun i hh => by exfalso; rw [g31] at hh; omega, (show gF (σW τ) 451 = 0 from rfl).trans g33.symm, ⟨(show gF (σW τ) 705 = 0 from rfl).trans g32.symm, by rw [g32]; decide, by rw [g32]; decide⟩, fun i hh => by exfalso; rw [g32] at hh; omega⟩
  · exact ⟨by rw [g37]; decide, by rw [g37]; rfl, fun hh => by exfalso; rw [g37] at hh; omega⟩
  · exact Or.inl ⟨g41, rfl, rfl, rfl⟩
  · exact Or.inl ⟨g43, rfl, rfl⟩
  · exact Or.inl ⟨g47, rfl⟩
  · exact Or.inl ⟨g56, rfl⟩
  · exact ⟨(r0 0).trans rfl, (r0 1).trans rfl, (r0 2).trans rfl, (r0 3).trans rfl, (r0 4).trans rfl, (r0 5).trans rfl, (r0 6).trans rfl, (r0 7).trans rfl⟩
