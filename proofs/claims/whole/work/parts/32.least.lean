/-! ===== held: by every guard, or by the guard of the least legs ===== -/
theorem clm_legs (S : Int → Bool) {lg lg' : Int} (fr : Int) (h : lg ≤ lg') : ∀ n : Nat, clm S lg fr n ≤ clm S lg' fr n := by
  intro n
  induction n with
  | zero => exact Int.le_refl _
  | succ n ih =>
    have h1 := clm_in S lg fr n
    have h2 := clm_in S lg' fr n
    rw [clm_s, clm_s]
    by_cases c : S (fr + (n + 1)) = true ∧ fr + (n + 1) - clm S lg fr n ≤ lg
    · rw [if_pos c, if_pos ⟨c.1, by omega⟩]
      exact Int.le_refl _
    · rw [if_neg c]
      split <;> omega
theorem climbV_legs {sd ht lg lg' : Int} (hh : 0 ≤ ht) (h : lg ≤ lg') (ht1 : climbV sd ht lg 0 = ht) : climbV sd ht lg' 0 = ht := by
  have h1 := climbV_r (sd := sd) (ht := ht) (lg := lg') (fr := 0) hh
  have h2 := clm_legs (sdS sd) 0 h (ht - 0).toNat
  have h3 : climbV sd ht lg 0 ≤ climbV sd ht lg' 0 := h2
  omega
theorem fstI_s1 (p : Int → Bool) {i : Int} (h : 0 ≤ i) : fstI p (i + 1) = -1 ↔ fstI p i = -1 ∧ p i = false := by
  rw [fstI_s p h]
  by_cases c : fstI p i = -1
  · rw [if_pos c]
    by_cases c2 : p i = true
    · rw [if_pos c2]
      constructor
      · intro z
        omega
      · intro z
        rw [z.2] at c2
        cases c2
    · rw [if_neg c2]
      constructor
      · intro _
        exact ⟨c, by simpa using c2⟩
      · intro _
        rfl
  · rw [if_neg c]
    constructor
    · intro z
      exact absurd z c
    · intro z
      exact z.1
theorem mh_least {σ : SG} (hG : MGR σ) {t sd ht : Int} (hh : 0 ≤ ht) : ∀ n : Nat, (n : Int) ≤ σ 61 5 → (fstI (mhB (σ 64) t sd ht) n = -1 ↔ (foI (mlgB (σ 64) t) (-1) n = -1 ∨ climbV sd ht (foI (mlgB (σ 64) t) (-1) n) 0 = ht)) := by
  intro n
  induction n with
  | zero =>
    intro _
    constructor
    · intro _
      exact Or.inl rfl
    · intro _
      rfl
  | succ n ih =>
    intro hn
    have ih := ih (by omega)
    have hg := hG.2 n (by omega) (by omega)
    have hl := mlgB_r (t := t) hG n (by omega) (by omega)
    rw [show ((n + 1 : Nat) : Int) = (n : Int) + 1 by omega, fstI_s1 _ (by omega), foI_s _ _ (by omega), ih]
    generalize foI (mlgB (σ 64) t) (-1) n = a at hl
    by_cases c : σ 64 (24 + 3 * n) = t
    · have hb : mhB (σ 64) t sd ht n = false ↔ climbV sd ht (σ 64 (24 + 3 * n + 1)) 0 = ht := by
        simp [mhB, c]
      rw [hb]
      by_cases c2 : a = -1 ∨ σ 64 (24 + 3 * n + 1) < a
      · rw [mlgB, if_pos ⟨c, c2⟩]
        constructor
        · intro z
          exact Or.inr z.2
        · intro z
          rcases z with z | z
          · omega
          · refine ⟨?_, z⟩
            rcases c2 with c2 | c2
            · exact Or.inl c2
            · exact Or.inr (climbV_legs hh (by omega) z)
      · rw [mlgB, if_neg (fun z => c2 z.2)]
        constructor
        · intro z
          exact z.1
        · intro z
          refine ⟨z, ?_⟩
          rcases z with z | z
          · exact absurd (Or.inl z) c2
          · exact climbV_legs hh (by omega) z
    · have hb : mhB (σ 64) t sd ht n = false := by
        simp [mhB, c]
      rw [mlgB, if_neg (fun z => c z.1), hb]
      constructor
      · intro z
        exact z.1
      · intro z
        exact ⟨z, rfl⟩
/-- the reference's isHeldBy is the class's, by the least legs -/
theorem mhV_hld {σ : SG} (hG : MGR σ) {t sd : Int} (hh : 0 ≤ σ 63 (8 + 2 * t)) : mhV σ t sd = hldV sd (σ 63 (8 + 2 * t)) (foI (mlgB (σ 64) t) (-1) (σ 61 5)) := by
  have key := mh_least hG (t := t) (sd := sd) hh (σ 61 5).toNat (by have := hG.1; omega)
  rw [show (((σ 61 5).toNat : Nat) : Int) = σ 61 5 by have := hG.1; omega] at key
  unfold mhV hldV
  by_cases c : fstI (mhB (σ 64) t sd (σ 63 (8 + 2 * t))) (σ 61 5) = -1
  · rw [if_pos c, if_pos (key.mp c)]
  · rw [if_neg c, if_neg (fun z => c (key.mpr z))]
