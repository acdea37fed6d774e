/-! ===== both at their beginning (wip/whole/9z.py) ===== -/
/-- the store behind both constructors -/
def ST0 (σ : SG) : Prop := (σ 0 9 = 5 ∧ σ 4 1 = 16) ∧ (σ 2 1 = 0 ∧ σ 2 2 = 0 ∧ σ 2 3 = -1) ∧ (σ 42 1 = 0 ∧ σ 42 7 = 0 ∧ σ 42 8 = -1 ∧ σ 42 40 = 0 ∧ σ 42 41 = 0 ∧ σ 42 81 = 0) ∧ (σ 5 0 = 0 ∧ σ 5 1 = 0 ∧ σ 5 4 = 99) ∧ (∀ p i, (p = 1 ∨ p = 3 ∨ p = 14 ∨ p = 35 ∨ p = 43 ∨ p = 44 ∨ p = 61 ∨ p = 65 ∨ p = 68 ∨ p = 69) → σ p i = 0) ∧ (σ 38 1 = 0 ∧ σ 38 2 = 0 ∧ σ 40 1 = 0) ∧ WD σ
theorem SIM.start {σ : SG} (h : ST0 σ) : SIM 0 σ 5 16 := by
  obtain ⟨⟨a1, a2⟩, ⟨b1, b2, b3⟩, ⟨c1, c2, c3, c4, c5, c6⟩, ⟨d1, d2, d3⟩, hz, ⟨e1, e2, e3⟩, hW⟩ := h
  have z : ∀ p, (p = 1 ∨ p = 3 ∨ p = 14 ∨ p = 35 ∨ p = 43 ∨ p = 44 ∨ p = 61 ∨ p = 65 ∨ p = 68 ∨ p = 69) → ∀ i, σ p i = 0 := fun p hp i => hz p i hp
  have z35 := z 35 (by decide)
  have z69 := z 69 (by decide)
  refine ⟨Or.inl ⟨rfl, rfl⟩, ⟨by rw [a1]; rfl, by rw [a2]; rfl⟩, ⟨⟨by omega, by omega, by omega⟩, fun i _ _ => by rw [z 43 (by decide), z 3 (by decide)]; decide, by omega, by omega⟩, fun k _ _ => by rw [z 44 (by decide), z 1 (by decide)], ?_, ?_, ?_, ⟨⟨by omega, by omega, by omega⟩, fun k k0 k1 => by omega⟩, hW⟩
  · refine ⟨⟨by omega, by omega, fun t t0 t1 => by omega, fun g g0 g1 => by omega, by omega, fun k _ _ => by rw [z 14 (by decide)]; decide⟩, ⟨by rw [z 61 (by decide), d1], by rw [z 61 (by decide), d2]⟩, fun t t0 t1 => by omega, fun g g0 g1 => by omega, fun k _ _ => by rw [z 65 (by decide), z 14 (by decide)], Or.inr ⟨by rw [z 68 (by decide)], d3, d1⟩⟩
  · have f0 := z35 0
    have f1 := z35 1
    have g0 := z69 0
    have g1 := z69 1
    unfold RS
    refine ⟨⟨by omega, by omega, by omega⟩, ⟨by omega, by omega, by omega⟩, fun t t0 t1 => ?_, fun t t0 t1 => by omega, fun t _ t0 t1 => ⟨z35 _, z35 _, z35 _, z35 _⟩, fun i i0 i1 => by omega, fun i j i0 i1 j1 => by omega⟩
    rw [z35, z69]
    omega
  · exact ⟨⟨by omega, by omega, by omega⟩, ⟨by omega, by omega, by omega⟩, fun j j0 j1 => by omega⟩
