/-! ===== the least sums on ways up ===== -/
/-- the least sum up to step s -/
def dpV (P : Int → Int) (lg ht s : Int) : Int := foI (chO P lg) (upf (fun _ => 0) 0 0) ht s
theorem dp_stab {P g : Int → Int} {lg : Int} {i : Int} (i0 : 0 ≤ i) : ∀ m : Nat, ∀ j, 0 ≤ j → j ≤ i → foI (chO P lg) g (i + m) j = foI (chO P lg) g i j := by
  intro m
  induction m with
  | zero => intro j _ _; rw [show i + ((0 : Nat) : Int) = i by omega]
  | succ m ih =>
    intro j j0 j1
    rw [show i + ((m + 1 : Nat) : Int) = i + m + 1 by omega, foI_s _ _ (by omega)]
    unfold chO
    rw [upf_ne (by omega)]
    exact ih j j0 j1
theorem dp_row {P : Int → Int} {lg ht i j : Int} (i0 : 0 ≤ i) (i1 : i ≤ ht) (j0 : 0 ≤ j) (j1 : j ≤ i) : foI (chO P lg) (upf (fun _ => 0) 0 0) i j = dpV P lg ht j := by
  unfold dpV
  have := dp_stab (P := P) (g := upf (fun _ => 0) 0 0) (lg := lg) i0 (ht - i).toNat j j0 j1
  rw [show i + (((ht - i).toNat : Nat) : Int) = ht by omega] at this
  exact this.symm
theorem dp_0 {P : Int → Int} {lg ht : Int} (h : 0 ≤ ht) : dpV P lg ht 0 = 0 := by
  rw [← dp_row (i := 0) (Int.le_refl 0) h (Int.le_refl 0) (Int.le_refl 0)]
  show upf (fun _ => (0 : Int)) 0 0 0 = 0
  exact upf_at _ _ _
theorem dp_s {P : Int → Int} {lg ht s : Int} (hl : 0 ≤ lg) (s0 : 1 ≤ s) (s1 : s ≤ ht) : dpV P lg ht s = foI (chI P (dpV P lg ht) s (loS lg s)) (-1) (s - loS lg s) := by
  have hlo := loS_r (s := s) hl (by omega)
  rw [← dp_row (i := s) (by omega) s1 (by omega) (Int.le_refl _), show s = s - 1 + 1 by omega, foI_s _ _ (by omega)]
  unfold chO
  rw [show s - 1 + 1 = s by omega, upf_at]
  exact chI_cong hlo.1 (fun j j0 j1 => dp_row (by omega) (by omega) j0 (by omega))
theorem chI_char {P D : Int → Int} {s lo : Int} (hP : -1 ≤ P s) (hD : ∀ k, 0 ≤ k → D (lo + k) = -1 ∨ 0 ≤ D (lo + k)) : ∀ n : Nat, (P s = -1 → foI (chI P D s lo) (-1) (n : Int) = -1) ∧ (P s ≠ -1 → ∀ k, 0 ≤ k → k < (n : Int) → D (lo + k) ≠ -1 → foI (chI P D s lo) (-1) (n : Int) ≠ -1 ∧ foI (chI P D s lo) (-1) (n : Int) ≤ D (lo + k) + P s) ∧ (foI (chI P D s lo) (-1) (n : Int) = -1 ∨ (P s ≠ -1 ∧ ∃ k, 0 ≤ k ∧ k < (n : Int) ∧ D (lo + k) ≠ -1 ∧ foI (chI P D s lo) (-1) (n : Int) = D (lo + k) + P s)) := by
  intro n
  induction n with
  | zero => exact ⟨fun _ => rfl, fun _ k k0 k1 => by omega, Or.inl rfl⟩
  | succ n ih =>
    obtain ⟨i1, i2, i3⟩ := ih
    have hDn := hD n (by omega)
    rw [show ((n + 1 : Nat) : Int) = (n : Int) + 1 by omega, foI_s _ _ (by omega)]
    generalize foI (chI P D s lo) (-1) (n : Int) = v at *
    unfold chI
    by_cases c1 : P s = -1 ∨ D (lo + n) = -1
    · rw [if_pos c1]
      refine ⟨i1, fun hp k k0 k1 hk => ?_, ?_⟩
      · by_cases hkn : k = n
        · subst hkn
          rcases c1 with c1 | c1
          · exact absurd c1 hp
          · exact absurd c1 hk
        · exact i2 hp k k0 (by omega) hk
      · rcases i3 with i3 | ⟨i3, k, k0, k1, k2, k3⟩
        · exact Or.inl i3
        · exact Or.inr ⟨i3, k, k0, by omega, k2, k3⟩
    · rw [if_neg c1]
      have c1a : P s ≠ -1 := fun z => c1 (Or.inl z)
      have c1b : D (lo + n) ≠ -1 := fun z => c1 (Or.inr z)
      have hpos : 0 ≤ D (lo + n) := by omega
      by_cases c2 : v = -1 ∨ D (lo + n) + P s < v
      · rw [if_pos c2]
        refine ⟨fun hp => absurd hp c1a, fun hp k k0 k1 hk => ?_, Or.inr ⟨c1a, n, by omega, by omega, c1b, rfl⟩⟩
        by_cases hkn : k = n
        · subst hkn
          omega
        · have := i2 hp k k0 (by omega) hk
          omega
      · rw [if_neg c2]
        refine ⟨fun hp => absurd hp c1a, fun hp k k0 k1 hk => ?_, ?_⟩
        · by_cases hkn : k = n
          · subst hkn
            omega
          · exact i2 hp k k0 (by omega) hk
        · rcases i3 with i3 | ⟨i3, k, k0, k1, k2, k3⟩
          · exact Or.inl i3
          · exact Or.inr ⟨i3, k, k0, by omega, k2, k3⟩
theorem dp_nn {P : Int → Int} {lg ht : Int} (hl : 0 ≤ lg) (hP : ∀ s, 1 ≤ s → s ≤ ht → -1 ≤ P s) : ∀ n : Nat, (n : Int) ≤ ht → ∀ s, 0 ≤ s → s ≤ (n : Int) → dpV P lg ht s = -1 ∨ 0 ≤ dpV P lg ht s := by
  intro n
  induction n with
  | zero =>
    intro hn s s0 s1
    have : s = 0 := by omega
    subst this
    rw [dp_0 (by omega)]
    exact Or.inr (Int.le_refl 0)
  | succ n ih =>
    intro hn s s0 s1
    by_cases hs : s = n + 1
    · have hlo := loS_r (s := s) hl s0
      rw [dp_s hl (by omega) (by omega)]
      have hc := chI_cong (P := P) (f := dpV P lg ht) (g := fun j => if 0 ≤ j ∧ j ≤ (n : Int) then dpV P lg ht j else 0) (s := s) (lo := loS lg s) hlo.1 (fun j j0 j1 => by rw [if_pos (by omega)])
      rw [hc]
      have ch := chI_char (P := P) (D := fun j => if 0 ≤ j ∧ j ≤ (n : Int) then dpV P lg ht j else 0) (s := s) (lo := loS lg s) (hP s (by omega) (by omega)) (fun k k0 => by
        split
        · rename_i h
          exact ih (by omega) _ h.1 h.2
        · exact Or.inr (Int.le_refl 0)) (s - loS lg s).toNat
      rw [show (((s - loS lg s).toNat : Nat) : Int) = s - loS lg s by omega] at ch
      rcases ch.2.2 with h | ⟨h, k, k0, k1, k2, k3⟩
      · exact Or.inl h
      · right
        rw [k3]
        have hp := hP s (by omega) (by omega)
        by_cases hin : 0 ≤ loS lg s + k ∧ loS lg s + k ≤ (n : Int)
        · rw [if_pos hin] at k2 ⊢
          have := ih (by omega) _ hin.1 hin.2
          omega
        · rw [if_neg hin]
          omega
    · exact ih (by omega) s s0 (by omega)
theorem dp_char {P : Int → Int} {lg ht s : Int} (hl : 0 ≤ lg) (hP : ∀ s, 1 ≤ s → s ≤ ht → -1 ≤ P s) (s0 : 1 ≤ s) (s1 : s ≤ ht) : (P s = -1 → dpV P lg ht s = -1) ∧ (P s ≠ -1 → ∀ f, 0 ≤ f → f < s → s - f ≤ lg → dpV P lg ht f ≠ -1 → dpV P lg ht s ≠ -1 ∧ dpV P lg ht s ≤ dpV P lg ht f + P s) ∧ (dpV P lg ht s = -1 ∨ (P s ≠ -1 ∧ ∃ f, 0 ≤ f ∧ f < s ∧ s - f ≤ lg ∧ dpV P lg ht f ≠ -1 ∧ dpV P lg ht s = dpV P lg ht f + P s)) := by
  have hlo := loS_r (s := s) hl (by omega)
  have hdef : (0 < s - lg ∧ loS lg s = s - lg) ∨ (s - lg ≤ 0 ∧ loS lg s = 0) := by
    unfold loS
    split <;> omega
  have hc := chI_cong (P := P) (f := dpV P lg ht) (g := fun j => if 0 ≤ j ∧ j ≤ ht then dpV P lg ht j else 0) (s := s) (lo := loS lg s) hlo.1 (fun j j0 j1 => by rw [if_pos (by omega)])
  have ch := chI_char (P := P) (D := fun j => if 0 ≤ j ∧ j ≤ ht then dpV P lg ht j else 0) (s := s) (lo := loS lg s) (hP s s0 s1) (fun k k0 => by
    split
    · rename_i h
      exact dp_nn hl hP ht.toNat (by omega) _ h.1 (by omega)
    · exact Or.inr (Int.le_refl 0)) (s - loS lg s).toNat
  rw [show (((s - loS lg s).toNat : Nat) : Int) = s - loS lg s by omega, ← hc, ← dp_s hl s0 s1] at ch
  obtain ⟨c1, c2, c3⟩ := ch
  refine ⟨c1, ?_, ?_⟩
  · clear c3
    intro hp f f0 f1 f2 f3
    have := c2 hp (f - loS lg s) (by omega) (by omega)
    rw [show loS lg s + (f - loS lg s) = f by omega, if_pos (by omega)] at this
    exact this f3
  · rcases c3 with c3 | ⟨c3, k, k0, k1, k2, k3⟩
    · exact Or.inl c3
    · rw [if_pos (by omega)] at k2 k3
      exact Or.inr ⟨c3, loS lg s + k, by omega, by omega, by omega, k2, k3⟩
