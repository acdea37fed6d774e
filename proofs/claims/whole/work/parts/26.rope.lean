/-! ===== the reference's row and the class's climb are one ===== -/
theorem b1_tb {x : Int} (h : 0 ≤ x ∧ x ≤ 3) : band x 1 = 1 ↔ tb x 0 = true := by
  have e := sh1 (x := x) (k := 0) h.1 (by omega)
  rw [show (2 : Int) ^ 0 = 1 from rfl, Int.ediv_one] at e
  rw [e]
  split <;> simp_all
theorem inS_b {f : Int → Int} {lg rp s : Int} (hf : ∀ j, 0 ≤ j → j < s → 0 ≤ f j ∧ f j ≤ 3) : ∀ n : Nat, (n : Int) ≤ s →
    (tb (foI (inS f lg rp s) 0 n) 0 = true ↔ ∃ j, 0 ≤ j ∧ j < (n : Int) ∧ s - j ≤ lg ∧ tb (f j) 0 = true) ∧
    (tb (foI (inS f lg rp s) 0 n) 1 = true ↔ ∃ j, 0 ≤ j ∧ j < (n : Int) ∧ ((s - j ≤ lg ∧ tb (f j) 1 = true) ∨ (lg < s - j ∧ s - j ≤ lg + rp ∧ tb (f j) 0 = true))) := by
  intro n
  induction n with
  | zero =>
    intro _
    refine ⟨⟨fun h => ?_, fun h => ?_⟩, ⟨fun h => ?_, fun h => ?_⟩⟩
    · exact absurd (show tb 0 0 = true from h) (by decide)
    · obtain ⟨j, h0, h1, -⟩ := h
      omega
    · exact absurd (show tb 0 1 = true from h) (by decide)
    · obtain ⟨j, h0, h1, -⟩ := h
      omega
  | succ n ih =>
    intro hn
    obtain ⟨i0, i1⟩ := ih (by omega)
    have hj := hf n (by omega) (by omega)
    have hb := b1_tb hj
    rw [show ((n + 1 : Nat) : Int) = (n : Int) + 1 by omega, foI_s _ _ (by omega)]
    generalize foI (inS f lg rp s) 0 (n : Int) = a at i0 i1
    have ex0 : ∀ P : Int → Prop, (∃ j, 0 ≤ j ∧ j < (n : Int) + 1 ∧ P j) ↔ ((∃ j, 0 ≤ j ∧ j < (n : Int) ∧ P j) ∨ P n) := by
      intro P
      constructor
      · rintro ⟨j, h0, h1, h2⟩
        by_cases hjn : j = n
        · subst hjn
          exact Or.inr h2
        · exact Or.inl ⟨j, h0, by omega, h2⟩
      · rintro (⟨j, h0, h1, h2⟩ | h)
        · exact ⟨j, h0, by omega, h2⟩
        · exact ⟨n, by omega, by omega, h⟩
    rw [ex0 (fun j => s - j ≤ lg ∧ tb (f j) 0 = true), ex0 (fun j => (s - j ≤ lg ∧ tb (f j) 1 = true) ∨ (lg < s - j ∧ s - j ≤ lg + rp ∧ tb (f j) 0 = true)), ← i0, ← i1]
    have t10 : tb 1 0 = true := by decide
    have t11 : tb 1 1 = false := by decide
    have t20 : tb 2 0 = false := by decide
    have t21 : tb 2 1 = true := by decide
    unfold inS
    by_cases c1 : s - (n : Int) ≤ lg
    · rw [if_pos c1]
      by_cases c2 : s - (n : Int) ≤ lg + rp ∧ band (f n) 1 = 1
      · rw [if_pos c2]
        have hb2 := hb.mp c2.2
        rw [tb_bor, tb_bor, tb_bor, tb_bor, t10, t11, hb2]
        cases tb a 0 <;> cases tb a 1 <;> cases tb (f n) 1 <;> simp [c1] <;> omega
      · rw [if_neg c2]
        rw [tb_bor, tb_bor]
        cases tb a 0 <;> cases tb a 1 <;> cases tb (f n) 0 <;> cases tb (f n) 1 <;> simp [c1] <;> omega
    · rw [if_neg c1]
      by_cases c2 : s - (n : Int) ≤ lg + rp ∧ band (f n) 1 = 1
      · rw [if_pos c2]
        have hb2 := hb.mp c2.2
        rw [tb_bor, tb_bor, t20, t21, hb2]
        cases tb a 0 <;> cases tb a 1 <;> simp [c1] <;> omega
      · rw [if_neg c2]
        have c3 : ¬ (s - (n : Int) ≤ lg + rp ∧ tb (f n) 0 = true) := fun z => c2 ⟨z.1, hb.mpr z.2⟩
        constructor
        · simp [c1]
        · constructor
          · intro h
            exact Or.inl h
          · rintro (h | h)
            · exact h
            · rcases h with h | h
              · exact absurd h.1 c1
              · exact absurd ⟨h.2.1, h.2.2⟩ c3
/-- the last step on which one can stand among the n behind a; a if there is none -/
def lnd (S : Int → Bool) (a : Int) : Nat → Int
  | 0 => a
  | n + 1 => if S (a + (n + 1)) = true then a + (n + 1) else lnd S a n
theorem lnd_in (S : Int → Bool) (a : Int) : ∀ n, a ≤ lnd S a n ∧ lnd S a n ≤ a + n ∧ (lnd S a n = a ∨ S (lnd S a n) = true) ∧ ∀ s, lnd S a n < s → s ≤ a + n → S s = false
  | 0 => ⟨Int.le_refl _, by simp [lnd], Or.inl rfl, fun s h1 h2 => by simp [lnd] at h1; omega⟩
  | n + 1 => by
    obtain ⟨h1, h2, h3, h4⟩ := lnd_in S a n
    unfold lnd
    split
    · rename_i h
      exact ⟨by omega, by omega, Or.inr h, fun s g1 g2 => by omega⟩
    · rename_i h
      refine ⟨h1, by omega, h3, fun s g1 g2 => ?_⟩
      by_cases hs : s = a + (n + 1)
      · rw [hs]
        simpa using h
      · exact h4 s g1 (by omega)
def ropV (sd ht lg rp : Int) : Int := climbV sd ht lg (lnd (sdS sd) (climbV sd ht lg 0) ((if ht < climbV sd ht lg 0 + lg + rp then ht else climbV sd ht lg 0 + lg + rp) - climbV sd ht lg 0).toNat)
