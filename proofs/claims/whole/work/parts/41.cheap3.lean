/-! ===== cheapest: its answer does not depend on what the array held ===== -/
theorem chI_cong {P f g : Int → Int} {s lo : Int} (hlo : 0 ≤ lo) (h : ∀ j, 0 ≤ j → j < s → f j = g j) : foI (chI P f s lo) (-1) (s - lo) = foI (chI P g s lo) (-1) (s - lo) := by
  refine foI_cong (fun i x h0 h1 => ?_)
  unfold chI
  rw [h (lo + i) (by omega) (by omega)]
theorem chO_cong {P g g' : Int → Int} {lg : Int} (hl : 0 ≤ lg) {i : Int} (h0 : 0 ≤ i) : ∀ j, 0 ≤ j → j < i + 1 → foI (chO P lg) (upf g 0 0) i j = foI (chO P lg) (upf g' 0 0) i j := by
  have key : ∀ n : Nat, ∀ j, 0 ≤ j → j < (n : Int) + 1 → foI (chO P lg) (upf g 0 0) n j = foI (chO P lg) (upf g' 0 0) n j := by
    intro n
    induction n with
    | zero =>
      intro j j0 j1
      obtain rfl : j = 0 := by omega
      show upf g 0 0 0 = upf g' 0 0 0
      rw [upf_at, upf_at]
    | succ n ih =>
      intro j j0 j1
      rw [show ((n + 1 : Nat) : Int) = (n : Int) + 1 by omega, foI_s _ _ (by omega), foI_s _ _ (by omega)]
      generalize foI (chO P lg) (upf g 0 0) n = f at ih
      generalize foI (chO P lg) (upf g' 0 0) n = f' at ih
      have hlo := loS_r (s := (n : Int) + 1) hl (by omega)
      unfold chO
      by_cases c : j = (n : Int) + 1
      · rw [c, upf_at, upf_at]
        exact chI_cong hlo.1 ih
      · rw [upf_ne c, upf_ne c]
        exact ih j j0 (by omega)
  have := key i.toNat
  rwa [show ((i.toNat : Nat) : Int) = i by omega] at this
/-- the least sum of prices on a way to step ht -/
def chpV (P : Int → Int) (lg ht : Int) : Int := foI (chO P lg) (upf (fun _ => 0) 0 0) ht ht
theorem cheapest2_ok {d : Nat} {σ : SG} {Q : Option AV → SG → Prop} {ht lg : Int} (h : chpO d σ ht lg ∧ ∀ f : Int → Int, Q (some (.inl (chpV (σ 31) lg ht))) (putF σ 32 f)) : AW d mX2_cheapest 0 [some (.inr (.inr 30)), some (.inl ht), some (.inl lg), none, none, none] [] σ Q := by
  obtain ⟨ho, hq⟩ := h
  refine cheapest_ok ⟨ho, ?_⟩
  obtain ⟨_, g0, _, l0, _, _⟩ := ho
  rw [chO_cong (P := σ 31) (g := σ 32) (g' := fun _ => 0) l0 g0 ht g0 (by omega)]
  exact hq _
theorem chpV_r {P : Int → Int} {lg ht : Int} (hl : 0 ≤ lg) (hh : 0 ≤ ht) (hP : ∀ s, 1 ≤ s → s ≤ ht → -1 ≤ P s ∧ P s ≤ 33554432) : -1 ≤ chpV P lg ht ∧ chpV P lg ht ≤ ht * 33554432 :=
  chO_r (P := P) (g := fun _ => 0) hl hP hh (Int.le_refl _) ht hh (by omega)
theorem chpV_cong {P P' : Int → Int} {lg ht : Int} (h : ∀ s, 1 ≤ s → s ≤ ht → P s = P' s) : chpV P lg ht = chpV P' lg ht := by
  unfold chpV
  refine congrFun (foI_cong (fun i x h0 h1 => ?_)) ht
  unfold chO
  have e : chI P x (i + 1) (loS lg (i + 1)) = chI P' x (i + 1) (loS lg (i + 1)) := by
    unfold chI
    rw [h (i + 1) (by omega) (by omega)]
  rw [e]
