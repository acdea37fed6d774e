/-! ===== Prices.cheapest ===== -/
abbrev loS (lg s : Int) : Int := if 0 < s - lg then s - lg else 0
def chO (P : Int → Int) (lg : Int) : Int → (Int → Int) → (Int → Int) := fun i f => upf f (i + 1) (foI (chI P f (i + 1) (loS lg (i + 1))) (-1) (i + 1 - loS lg (i + 1)))
theorem loS_r {lg s : Int} (hl : 0 ≤ lg) (hs : 0 ≤ s) : 0 ≤ loS lg s ∧ loS lg s ≤ s := by
  unfold loS
  split <;> omega
theorem chO_r {P g : Int → Int} {lg ht : Int} (hl : 0 ≤ lg) (hP : ∀ s, 1 ≤ s → s ≤ ht → -1 ≤ P s ∧ P s ≤ 33554432) {i : Int} (h0 : 0 ≤ i) (h1 : i ≤ ht) : ∀ j, 0 ≤ j → j < i + 1 → -1 ≤ foI (chO P lg) (upf g 0 0) i j ∧ foI (chO P lg) (upf g 0 0) i j ≤ j * 33554432 := by
  have key : ∀ n : Nat, (n : Int) ≤ ht → ∀ j, 0 ≤ j → j < (n : Int) + 1 → -1 ≤ foI (chO P lg) (upf g 0 0) n j ∧ foI (chO P lg) (upf g 0 0) n j ≤ j * 33554432 := by
    intro n
    induction n with
    | zero =>
      intro _ j j0 j1
      obtain rfl : j = 0 := by omega
      show -1 ≤ upf g 0 0 0 ∧ upf g 0 0 0 ≤ 0 * 33554432
      rw [upf_at]
      decide
    | succ n ih =>
      intro hn j j0 j1
      have ih := ih (by omega)
      rw [show ((n + 1 : Nat) : Int) = (n : Int) + 1 by omega, foI_s _ _ (by omega)]
      generalize foI (chO P lg) (upf g 0 0) n = f at ih
      have hlo := loS_r (s := (n : Int) + 1) hl (by omega)
      unfold chO
      by_cases c : j = (n : Int) + 1
      · rw [c, upf_at]
        exact chI_r hlo.1 (hP _ (by omega) (by omega)) ih (by omega) (Int.le_refl _) (by omega)
      · rw [upf_ne c]
        exact ih j j0 (by omega)
  have := key i.toNat (by omega)
  rwa [show ((i.toNat : Nat) : Int) = i by omega] at this
abbrev chpO (d : Nat) (σ : SG) (ht lg : Int) : Prop := 1 ≤ d ∧ 0 ≤ ht ∧ ht ≤ 14 ∧ 0 ≤ lg ∧ lg ≤ 100 ∧ ∀ s, 1 ≤ s → s ≤ ht → -1 ≤ σ 31 s ∧ σ 31 s ≤ 33554432
theorem cheapest_ok {d : Nat} {σ : SG} {Q : Option AV → SG → Prop} {ht lg : Int} (h : chpO d σ ht lg ∧ Q (some (.inl (foI (chO (σ 31) lg) (upf (σ 32) 0 0) ht ht))) (putF σ 32 (foI (chO (σ 31) lg) (upf (σ 32) 0 0) ht))) : AW d mX2_cheapest 0 [some (.inr (.inr 30)), some (.inl ht), some (.inl lg), none, none, none] [] σ Q := by
  obtain ⟨⟨hd, g0, g1, l0, l1, hP⟩, hq⟩ := h
  refine cheapest_0 ?_
  have key := downInd (P := fun i => AW d mX2_cheapest 9 [some (.inr (.inr 30)), some (.inl ht), some (.inl lg), some (.inl (i + 1)), none, none] [] (putF σ 32 (foI (chO (σ 31) lg) (upf (σ 32) 0 0) i)) Q) (lo := 0) (hi := ht) g0 ?_ ?_
  · rw [up_putF]
    exact key
  · refine cheapest_9 ?_
    rw [putF_at]
    exact ⟨by omega, fun _ => ⟨by omega, hq⟩, fun c => by omega⟩
  · intro i h0 h1 ih
    have hr := chO_r (P := σ 31) (g := σ 32) l0 hP h0 (by omega)
    have hlo := loS_r (s := i + 1) l0 (by omega)
    have hPs := hP (i + 1) (by omega) (by omega)
    rw [foI_s _ _ h0] at ih
    generalize foI (chO (σ 31) lg) (upf (σ 32) 0 0) i = f at ih hr
    refine cheapest_9 ⟨by omega, fun c => by omega, fun _ => ⟨by omega, by omega, by omega, ?_⟩⟩
    rw [putF_up]
    exact cheap_in ⟨by omega, by omega⟩ hlo hPs hr ih
