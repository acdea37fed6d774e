/-! ===== who reaches what: facts of the greedy climb ===== -/
theorem clm_s (S : Int → Bool) (lg fr : Int) (n : Nat) : clm S lg fr (n + 1) = if S (fr + (n + 1)) = true ∧ fr + (n + 1) - clm S lg fr n ≤ lg then fr + (n + 1) else clm S lg fr n := rfl
theorem clm_mono (S : Int → Bool) (lg fr : Int) {m n : Nat} (h : m ≤ n) : clm S lg fr m ≤ clm S lg fr n := by
  induction n with
  | zero =>
    obtain rfl : m = 0 := by omega
    exact Int.le_refl _
  | succ n ih =>
    by_cases hm : m = n + 1
    · subst hm
      exact Int.le_refl _
    · have h1 := ih (by omega)
      have h2 := clm_in S lg fr n
      rw [clm_s]
      split <;> omega
theorem clm_S (S : Int → Bool) (lg fr : Int) (n : Nat) : clm S lg fr n = fr ∨ S (clm S lg fr n) = true := by
  induction n with
  | zero => exact Or.inl rfl
  | succ n ih =>
    rw [clm_s]
    split
    · rename_i h
      exact Or.inr h.1
    · exact ih
/-- stuck once, stuck for good -/
theorem clm_stuck (S : Int → Bool) (lg fr : Int) {m : Nat} (h : fr + m + 1 - clm S lg fr m > lg) (n : Nat) : clm S lg fr (m + n) = clm S lg fr m := by
  induction n with
  | zero => rfl
  | succ n ih =>
    rw [show m + (n + 1) = (m + n) + 1 by omega, clm_s, ih, if_neg]
    rintro ⟨-, h2⟩
    have := Int.natCast_add m n
    omega
/-- what stands below the end is visited, by a hop of the legs -/
theorem clm_vis (S : Int → Bool) (lg fr : Int) {n : Nat} {s : Nat} (hs : S (fr + (s + 1)) = true) (hle : fr + (s + 1) ≤ clm S lg fr n) : clm S lg fr (s + 1) = fr + (s + 1) ∧ fr + (s + 1) - clm S lg fr s ≤ lg := by
  have hsn : s + 1 ≤ n := by
    have := clm_in S lg fr n
    omega
  by_cases h : fr + (s + 1) - clm S lg fr s ≤ lg
  · refine ⟨?_, h⟩
    rw [clm_s, if_pos ⟨hs, h⟩]
  · have h1 := clm_stuck S lg fr (m := s) (by omega) (n - s)
    rw [show s + (n - s) = n by omega] at h1
    have := clm_in S lg fr s
    omega
/-- beyond the end nothing stands within the legs -/
theorem clm_end (S : Int → Bool) (lg fr : Int) {n s : Nat} (hs : s ≤ n) (hS : S (fr + s) = true) (hlt : clm S lg fr n < fr + s) : lg < fr + s - clm S lg fr n := by
  rcases s with _ | s
  · have := clm_in S lg fr n
    omega
  · have h1 : clm S lg fr (s + 1) ≤ clm S lg fr n := clm_mono S lg fr hs
    have h0 : clm S lg fr s ≤ clm S lg fr (s + 1) := clm_mono S lg fr (by omega)
    have hr := clm_s S lg fr s
    have e : (fr + ((s + 1 : Nat) : Int)) = fr + ((s : Int) + 1) := by omega
    rw [e] at hS hlt ⊢
    by_cases hc : fr + ((s : Int) + 1) - clm S lg fr s ≤ lg
    · rw [if_pos ⟨hS, hc⟩] at hr
      omega
    · -- stuck at s already
      have h2 := clm_stuck S lg fr (m := s) (by omega) (n - s)
      rw [show s + (n - s) = n by omega] at h2
      omega
