/-! ===== sets of loans, counted (by hand) ===== -/
noncomputable def cntP (P : Nat → Prop) : Nat → Nat
  | 0 => 0
  | n + 1 => cntP P n + @ite Nat (P n) (Classical.propDecidable _) 1 0
theorem cntP_y {P : Nat → Prop} {n : Nat} (h : P n) : cntP P (n + 1) = cntP P n + 1 := by
  show cntP P n + @ite Nat (P n) (Classical.propDecidable _) 1 0 = _
  rw [if_pos h]
theorem cntP_n {P : Nat → Prop} {n : Nat} (h : ¬ P n) : cntP P (n + 1) = cntP P n := by
  show cntP P n + @ite Nat (P n) (Classical.propDecidable _) 1 0 = _
  rw [if_neg h]
  rfl
theorem cntP_congr {P Q : Nat → Prop} {n : Nat} (h : ∀ i, i < n → (P i ↔ Q i)) : cntP P n = cntP Q n := by
  induction n with
  | zero => rfl
  | succ n ih =>
    have hi := ih (fun i a => h i (by omega))
    by_cases c : P n
    · rw [cntP_y c, cntP_y ((h n (by omega)).mp c), hi]
    · rw [cntP_n c, cntP_n (fun z => c ((h n (by omega)).mpr z)), hi]
theorem cntP_0 {P : Nat → Prop} {n : Nat} (h : ∀ i, i < n → ¬ P i) : cntP P n = 0 := by
  induction n with
  | zero => rfl
  | succ n ih => rw [cntP_n (h n (by omega)), ih (fun i a => h i (by omega))]
theorem cntP_or {P Q : Nat → Prop} {n : Nat} (h : ∀ i, P i → ¬ Q i) : cntP (fun i => P i ∨ Q i) n = cntP P n + cntP Q n := by
  induction n with
  | zero => rfl
  | succ n ih =>
    by_cases c : P n
    · rw [cntP_y (P := fun i => P i ∨ Q i) (Or.inl c), cntP_y c, cntP_n (h n c), ih]
      omega
    · by_cases c2 : Q n
      · rw [cntP_y (P := fun i => P i ∨ Q i) (Or.inr c2), cntP_n c, cntP_y c2, ih]
        omega
      · rw [cntP_n (P := fun i => P i ∨ Q i) (fun z => z.elim c c2), cntP_n c, cntP_n c2, ih]
theorem cntP_sh {P : Nat → Prop} {c N : Nat} (hc : c ≤ N) (h : ∀ i, P i → i + c < N) : cntP (fun i => ∃ j, i = j + c ∧ P j) N = cntP P N := by
  have h1 : ∀ n, cntP (fun i => ∃ j, i = j + c ∧ P j) (n + c) = cntP P n := by
    intro n
    induction n with
    | zero =>
      rw [Nat.zero_add]
      exact cntP_0 (fun i a ⟨j, e, _⟩ => by omega)
    | succ n ih =>
      rw [show n + 1 + c = (n + c) + 1 by omega]
      by_cases e : P n
      · rw [cntP_y (P := fun i => ∃ j, i = j + c ∧ P j) ⟨n, rfl, e⟩, cntP_y e, ih]
      · rw [cntP_n (P := fun i => ∃ j, i = j + c ∧ P j) (fun ⟨j, z, y⟩ => by
          obtain rfl : j = n := by omega
          exact e y), cntP_n e, ih]
  have h2 : ∀ m, cntP P (N - c + m) = cntP P (N - c) := by
    intro m
    induction m with
    | zero => rfl
    | succ m ih =>
      rw [show N - c + (m + 1) = (N - c + m) + 1 by omega, cntP_n (fun z => by have := h _ z; omega), ih]
  have a := h1 (N - c)
  have b := h2 c
  rw [show N - c + c = N by omega] at a b
  rw [a, b]
/-! bits of numbers -/
theorem tbA : ∀ (k M : Nat), M.testBit k = false → ∀ j, (M + 2 ^ k).testBit j = (M.testBit j || decide (j = k)) := by
  intro k
  induction k with
  | zero =>
    intro M h j
    rw [Nat.testBit_zero] at h
    have h' := of_decide_eq_false h
    cases j with
    | zero =>
      rw [Nat.testBit_zero, Nat.testBit_zero, decide_eq_true (show 0 = 0 from rfl), Bool.or_true]
      exact decide_eq_true (by rw [Nat.pow_zero]; omega)
    | succ j =>
      rw [Nat.testBit_succ, Nat.testBit_succ, decide_eq_false (show ¬ j + 1 = 0 by omega), Bool.or_false, show (M + 2 ^ 0) / 2 = M / 2 by rw [Nat.pow_zero]; omega]
  | succ k ih =>
    intro M h j
    rw [Nat.testBit_succ] at h
    have e1 : (M + 2 ^ (k + 1)) / 2 = M / 2 + 2 ^ k := by rw [Nat.pow_succ]; omega
    have e2 : (M + 2 ^ (k + 1)) % 2 = M % 2 := by rw [Nat.pow_succ]; omega
    cases j with
    | zero =>
      rw [Nat.testBit_zero, Nat.testBit_zero, e2, decide_eq_false (show ¬ 0 = k + 1 by omega), Bool.or_false]
    | succ j =>
      rw [Nat.testBit_succ, Nat.testBit_succ, e1, ih (M / 2) h j]
      congr 1
      exact decide_eq_decide.mpr ⟨fun z => by omega, fun z => by omega⟩
theorem tbR : ∀ (k M : Nat), M.testBit k = true → ∃ M', M = M' + 2 ^ k ∧ ∀ j, M'.testBit j = (M.testBit j && decide (j ≠ k)) := by
  intro k
  induction k with
  | zero =>
    intro M h
    rw [Nat.testBit_zero] at h
    have h' := of_decide_eq_true h
    refine ⟨M - 1, by rw [Nat.pow_zero]; omega, fun j => ?_⟩
    cases j with
    | zero =>
      rw [Nat.testBit_zero, decide_eq_false (show ¬ (0 ≠ 0) from fun z => z rfl), Bool.and_false]
      exact decide_eq_false (by omega)
    | succ j =>
      rw [Nat.testBit_succ, Nat.testBit_succ, decide_eq_true (show j + 1 ≠ 0 by omega), Bool.and_true, show (M - 1) / 2 = M / 2 by omega]
  | succ k ih =>
    intro M h
    rw [Nat.testBit_succ] at h
    obtain ⟨M', e, hb⟩ := ih (M / 2) h
    refine ⟨2 * M' + M % 2, by rw [Nat.pow_succ]; omega, fun j => ?_⟩
    cases j with
    | zero =>
      rw [Nat.testBit_zero, Nat.testBit_zero, decide_eq_true (show 0 ≠ k + 1 by omega), Bool.and_true, show (2 * M' + M % 2) % 2 = M % 2 by omega]
    | succ j =>
      rw [Nat.testBit_succ, Nat.testBit_succ, show (2 * M' + M % 2) / 2 = M' by omega, hb j]
      congr 1
      exact decide_eq_decide.mpr ⟨fun z => by omega, fun z => by omega⟩
theorem pcN_add : ∀ (f k M : Nat), k < f → M.testBit k = false → pcN f (M + 2 ^ k) = pcN f M + 1 := by
  intro f
  induction f with
  | zero => intro k M h; omega
  | succ f ih =>
    intro k M hk h
    show (M + 2 ^ k) % 2 + pcN f ((M + 2 ^ k) / 2) = M % 2 + pcN f (M / 2) + 1
    cases k with
    | zero =>
      rw [Nat.testBit_zero] at h
      have h' := of_decide_eq_false h
      rw [Nat.pow_zero, show (M + 1) / 2 = M / 2 by omega]
      omega
    | succ k =>
      rw [Nat.testBit_succ] at h
      have e1 : (M + 2 ^ (k + 1)) / 2 = M / 2 + 2 ^ k := by rw [Nat.pow_succ]; omega
      have e2 : (M + 2 ^ (k + 1)) % 2 = M % 2 := by rw [Nat.pow_succ]; omega
      rw [e1, e2, ih k (M / 2) (by omega) h]
      omega
def pcM (M : Nat) : Nat := pcN 24 M
/-- the fewest bits of the sets of P, of these the least set (as b), and how many have as few (w) -/
def BW (P : Nat → Prop) (b w : Int) : Prop := ((∀ M, ¬ P M) ∧ b = -1) ∨ ∃ n x : Nat, (P x ∧ pcM x = n) ∧ (∀ M, P M → n ≤ pcM M) ∧ (∀ M, P M → pcM M = n → x ≤ M) ∧ b = 16777216 * n + x ∧ w = ((cntP (fun M => P M ∧ pcM M = n) 16777216 : Nat) : Int)
theorem BW.congr {P Q : Nat → Prop} {b w : Int} (h : BW P b w) (e : ∀ M, P M ↔ Q M) : BW Q b w := by
  have : P = Q := funext fun M => propext (e M)
  rw [← this]
  exact h
theorem BW.r {P : Nat → Prop} {b w : Int} (h : BW P b w) (hP : ∀ M, P M → M < 16777216) : -1 ≤ b ∧ b < 419430400 := by
  rcases h with ⟨_, h⟩ | ⟨n, x, ⟨h1, h2⟩, _, _, h3, _⟩
  · omega
  · have := hP x h1
    have := pcN_le 24 x
    unfold pcM at h2
    omega
theorem BW.emp {P : Nat → Prop} {b w : Int} (h : BW P b w) (hb : b = -1) (M : Nat) : ¬ P M := by
  rcases h with ⟨h, _⟩ | ⟨n, x, _, _, _, h3, _⟩
  · exact h M
  · omega
/-- two kinds of sets, apart; those of the second with c added, which has δ bits more -/
theorem BW.join {P R : Nat → Prop} {b w b2 w2 : Int} {c δ : Nat} (h1 : BW P b w) (h2 : BW R b2 w2) (hb2 : b2 ≠ -1) (hP : ∀ M, P M → M < 16777216) (hR : ∀ M, R M → M + c < 16777216) (hpc : ∀ M, R M → pcM (M + c) = pcM M + δ) (hdis : ∀ M, R M → ¬ P (M + c)) :
    (b = -1 → BW (fun M => P M ∨ ∃ M', M = M' + c ∧ R M') (b2 + (16777216 * δ + c : Nat)) w2)
    ∧ (b ≠ -1 → Int.tdiv (b2 + (16777216 * δ + c : Nat)) 16777216 < Int.tdiv b 16777216 → BW (fun M => P M ∨ ∃ M', M = M' + c ∧ R M') (b2 + (16777216 * δ + c : Nat)) w2)
    ∧ (b ≠ -1 → Int.tdiv (b2 + (16777216 * δ + c : Nat)) 16777216 = Int.tdiv b 16777216 → BW (fun M => P M ∨ ∃ M', M = M' + c ∧ R M') (if b2 + (16777216 * δ + c : Nat) < b then b2 + (16777216 * δ + c : Nat) else b) (w + w2))
    ∧ (b ≠ -1 → Int.tdiv b 16777216 < Int.tdiv (b2 + (16777216 * δ + c : Nat)) 16777216 → BW (fun M => P M ∨ ∃ M', M = M' + c ∧ R M') b w) := by
  rcases h2 with ⟨_, z⟩ | ⟨n, x, ⟨g1, g2⟩, g3, g4, g5, g6⟩
  · exact absurd z hb2
  have hx := hR x g1
  have hs : b2 + (16777216 * δ + c : Nat) = 16777216 * ((n + δ : Nat) : Int) + ((x + c : Nat) : Int) := by omega
  have hcN : c ≤ 16777216 := by omega
  have hds : Int.tdiv (b2 + (16777216 * δ + c : Nat)) 16777216 = ((n + δ : Nat) : Int) := by
    rw [hs, Int.tdiv_eq_ediv_of_nonneg (by omega)]
    omega
  have hsh : cntP (fun M => (∃ M', M = M' + c ∧ R M') ∧ pcM M = n + δ) 16777216 = cntP (fun M => R M ∧ pcM M = n) 16777216 := by
    rw [← cntP_sh (P := fun M => R M ∧ pcM M = n) hcN (fun i z => hR i z.1)]
    apply cntP_congr
    intro i _
    constructor
    · intro ⟨⟨M', e, z⟩, y⟩
      refine ⟨M', e, z, ?_⟩
      have := hpc M' z
      rw [e] at y
      omega
    · intro ⟨M', e, z, y⟩
      refine ⟨⟨M', e, z⟩, ?_⟩
      have := hpc M' z
      rw [e]
      omega
  have hmin : ∀ M, (∃ M', M = M' + c ∧ R M') → n + δ ≤ pcM M := fun M ⟨M', e, z⟩ => by
    have := hpc M' z
    have := g3 M' z
    rw [e]
    omega
  have hlst : ∀ M, (∃ M', M = M' + c ∧ R M') → pcM M = n + δ → x + c ≤ M := fun M ⟨M', e, z⟩ y => by
    have := hpc M' z
    rw [e] at y
    have := g4 M' z (by omega)
    omega
  have hxs : pcM (x + c) = n + δ := by rw [hpc x g1, g2]
  have only : (∀ M, P M → n + δ < pcM M) → BW (fun M => P M ∨ ∃ M', M = M' + c ∧ R M') (b2 + (16777216 * δ + c : Nat)) w2 := by
    intro hgt
    refine Or.inr ⟨n + δ, x + c, ⟨Or.inr ⟨x, rfl, g1⟩, hxs⟩, fun M z => ?_, fun M z y => ?_, hs, ?_⟩
    · rcases z with z | z
      · have := hgt M z
        omega
      · exact hmin M z
    · rcases z with z | z
      · have := hgt M z
        omega
      · exact hlst M z y
    · rw [g6, ← hsh]
      refine congrArg Nat.cast (cntP_congr ?_)
      intro i _
      constructor
      · intro ⟨z, y⟩
        exact ⟨Or.inr z, y⟩
      · intro ⟨z, y⟩
        rcases z with z | z
        · have := hgt i z
          omega
        · exact ⟨z, y⟩
  rcases h1 with ⟨z0, zb⟩ | ⟨n1, x1, ⟨f1, f2⟩, f3, f4, f5, f6⟩
  · exact ⟨fun _ => only (fun M z => absurd z (z0 M)), fun z => absurd zb z, fun z => absurd zb z, fun z => absurd zb z⟩
  have hx1 := hP x1 f1
  have hdb : Int.tdiv b 16777216 = (n1 : Int) := by
    rw [f5, Int.tdiv_eq_ediv_of_nonneg (by omega)]
    omega
  rw [hds, hdb]
  refine ⟨fun z => by omega, fun _ z => only (fun M y => ?_), fun _ z => ?_, fun _ z => ?_⟩
  · have := f3 M y
    omega
  · have hn : n1 = n + δ := by omega
    subst hn
    have hcnt : cntP (fun M => (P M ∨ ∃ M', M = M' + c ∧ R M') ∧ pcM M = n + δ) 16777216 = cntP (fun M => P M ∧ pcM M = n + δ) 16777216 + cntP (fun M => (∃ M', M = M' + c ∧ R M') ∧ pcM M = n + δ) 16777216 := by
      rw [← cntP_or (P := fun M => P M ∧ pcM M = n + δ) (Q := fun M => (∃ M', M = M' + c ∧ R M') ∧ pcM M = n + δ) (fun i a b => by
        obtain ⟨⟨M', e, z⟩, _⟩ := b
        have := hdis M' z
        rw [← e] at this
        exact this a.1)]
      apply cntP_congr
      intro i _
      constructor
      · intro ⟨z, y⟩
        rcases z with z | z
        · exact Or.inl ⟨z, y⟩
        · exact Or.inr ⟨z, y⟩
      · intro z
        rcases z with ⟨z, y⟩ | ⟨z, y⟩
        · exact ⟨Or.inl z, y⟩
        · exact ⟨Or.inr z, y⟩
    have hw : w + w2 = ((cntP (fun M => (P M ∨ ∃ M', M = M' + c ∧ R M') ∧ pcM M = n + δ) 16777216 : Nat) : Int) := by
      rw [hcnt, hsh, f6, g6]
      omega
    have hle : ∀ M, (P M ∨ ∃ M', M = M' + c ∧ R M') → n + δ ≤ pcM M := fun M z => by
      rcases z with z | z
      · exact f3 M z
      · exact hmin M z
    by_cases cc : b2 + (16777216 * δ + c : Nat) < b
    · rw [if_pos cc]
      refine Or.inr ⟨n + δ, x + c, ⟨Or.inr ⟨x, rfl, g1⟩, hxs⟩, hle, fun M z y => ?_, hs, hw⟩
      rcases z with z | z
      · have := f4 M z y
        omega
      · exact hlst M z y
    · rw [if_neg cc]
      refine Or.inr ⟨n + δ, x1, ⟨Or.inl f1, f2⟩, hle, fun M z y => ?_, f5, hw⟩
      rcases z with z | z
      · exact f4 M z y
      · have := hlst M z y
        omega
  · have hlt : n1 < n + δ := by omega
    refine Or.inr ⟨n1, x1, ⟨Or.inl f1, f2⟩, fun M z => ?_, fun M z y => ?_, f5, ?_⟩
    · rcases z with z | z
      · exact f3 M z
      · have := hmin M z
        omega
    · rcases z with z | z
      · exact f4 M z y
      · have := hmin M z
        omega
    · rw [f6]
      refine congrArg Nat.cast (cntP_congr ?_)
      intro i _
      constructor
      · intro ⟨z, y⟩
        exact ⟨Or.inl z, y⟩
      · intro ⟨z, y⟩
        rcases z with z | z
        · exact ⟨z, y⟩
        · have := hmin i z
          omega
/-- sets of a larger kind that has no lesser ones -/
theorem BW.same {P R : Nat → Prop} {b w b2 w2 : Int} (h1 : BW P b w) (h2 : BW R b2 w2) (hs : ∀ M, P M → R M) (hm : ∀ M, R M → ¬ P M → ∃ M', R M' ∧ pcM M' < pcM M) : b = b2 ∧ (b ≠ -1 → w = w2) := by
  rcases h2 with ⟨z2, e2⟩ | ⟨n, x, ⟨g1, g2⟩, g3, g4, g5, g6⟩
  · rcases h1 with ⟨z1, e1⟩ | ⟨n1, x1, ⟨f1, f2⟩, _⟩
    · exact ⟨by omega, fun z => absurd e1 z⟩
    · exact absurd (hs x1 f1) (z2 x1)
  · have hmin : ∀ M, R M → pcM M = n → P M := fun M z y => Classical.byContradiction fun c => by
      obtain ⟨M', a, b⟩ := hm M z c
      have := g3 M' a
      omega
    have hPx := hmin x g1 g2
    rcases h1 with ⟨z1, e1⟩ | ⟨n1, x1, ⟨f1, f2⟩, f3, f4, f5, f6⟩
    · exact absurd hPx (z1 x)
    · have hn : n1 = n := by
        have := f3 x hPx
        have := g3 x1 (hs x1 f1)
        omega
      subst hn
      have hx : x1 = x := by
        have := f4 x hPx g2
        have := g4 x1 (hs x1 f1) f2
        omega
      subst hx
      refine ⟨by omega, fun _ => ?_⟩
      rw [f6, g6]
      refine congrArg Nat.cast (cntP_congr ?_)
      intro i _
      exact ⟨fun z => ⟨hs i z.1, z.2⟩, fun z => ⟨hmin i z.1 z.2, z.2⟩⟩
