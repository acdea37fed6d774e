/-! ===== hiV is ropV ===== -/
theorem clm_stay (S : Int → Bool) (lg a : Int) : ∀ n : Nat, (∀ s, a < s → s ≤ a + n → S s = true → lg < s - a) → clm S lg a n = a
  | 0, _ => rfl
  | n + 1, h => by
    have ih := clm_stay S lg a n (fun s h1 h2 h3 => h s h1 (by omega) h3)
    rw [clm_s, ih, if_neg]
    rintro ⟨h1, h2⟩
    have := h (a + (n + 1)) (by omega) (by omega) h1
    omega
theorem nz3 {x : Int} (h : 0 ≤ x ∧ x ≤ 3) (hx : x ≠ 0) : tb x 0 = true ∨ tb x 1 = true := by
  have : x = 1 ∨ x = 2 ∨ x = 3 := by omega
  rcases this with rfl | rfl | rfl <;> decide
/-- what climbing from fr up to ht comes to, in one piece -/
theorem climb_facts {S : Int → Bool} {lg fr ht a : Int} (hf : fr ≤ ht) (ha : clm S lg fr (ht - fr).toNat = a) : fr ≤ a ∧ a ≤ ht ∧ (a = fr ∨ S a = true) ∧ (∀ s, fr < s → s ≤ a → S s = true → ∃ j, fr ≤ j ∧ j < s ∧ s - j ≤ lg ∧ (j = fr ∨ S j = true)) ∧ ∀ s, a < s → s ≤ ht → S s = true → lg < s - a := by
  have hin := clm_in S lg fr (ht - fr).toNat
  have hS := clm_S S lg fr (ht - fr).toNat
  rw [ha] at hin hS
  refine ⟨hin.1, by omega, hS, fun s h1 h2 h3 => ?_, fun s h1 h2 h3 => ?_⟩
  · have es : fr + (((s - fr - 1).toNat : Int) + 1) = s := by omega
    have hv := clm_vis S lg fr (n := (ht - fr).toNat) (s := (s - fr - 1).toNat) (by rw [es]; exact h3) (by rw [es, ha]; exact h2)
    rw [es] at hv
    have hi := clm_in S lg fr (s - fr - 1).toNat
    exact ⟨clm S lg fr (s - fr - 1).toNat, hi.1, by omega, hv.2, clm_S S lg fr _⟩
  · have es : fr + ((s - fr).toNat : Int) = s := by omega
    have := clm_end S lg fr (n := (ht - fr).toNat) (s := (s - fr).toNat) (by omega) (by rw [es]; exact h3) (by rw [es, ha]; exact h1)
    rw [es, ha] at this
    exact this
theorem hiV_rop (g : Int → Int) {sd lg rp h : Int} (hh : 0 ≤ h) (hr : 0 ≤ rp) (hl : 0 ≤ lg) : (hiV g sd lg rp h).2 = ropV sd h lg rp := by
  generalize ea : climbV sd h lg 0 = a
  have fa := climb_facts (S := sdS sd) (lg := lg) (fr := 0) (ht := h) (a := a) hh (by rw [← ea]; rfl)
  obtain ⟨a0, a1, a2, a3, a4⟩ := fa
  generalize em : (if h < a + lg + rp then h else a + lg + rp) = mx
  have hmx : mx ≤ h ∧ mx ≤ a + lg + rp ∧ a ≤ mx ∧ (mx = h ∨ mx = a + lg + rp) := by rw [← em]; split <;> omega
  have fb := lnd_in (sdS sd) a (mx - a).toNat
  generalize eb : lnd (sdS sd) a (mx - a).toNat = b at fb
  obtain ⟨b0, b1, b2, b3⟩ := fb
  have efin : ropV sd h lg rp = climbV sd h lg b := by unfold ropV; rw [ea, em, eb]
  rw [efin]
  generalize ef : climbV sd h lg b = fin
  have ff := climb_facts (S := sdS sd) (lg := lg) (fr := b) (ht := h) (a := fin) (by omega) (by rw [← ef]; rfl)
  obtain ⟨f0, f1, f2, f3, f4⟩ := ff
  have hba : b = a → fin = a := by
    intro e
    subst e
    rw [← ef]
    exact clm_stay _ _ _ _ (fun s h1 h2 h3 => a4 s h1 (by omega) h3)
  have key : ∀ n : Nat, (n : Int) ≤ h →
      (∀ j, 0 ≤ j → j ≤ (n : Int) → (tb ((hiV g sd lg rp n).1 j) 0 = true ↔ (j = 0 ∨ (sdS sd j = true ∧ j ≤ a)))) ∧
      (∀ j, 0 ≤ j → j ≤ (n : Int) → tb ((hiV g sd lg rp n).1 j) 1 = true → 1 ≤ j ∧ sdS sd j = true ∧ j ≤ fin) ∧
      (∀ j, 0 ≤ j → j ≤ (n : Int) → a < b → b ≤ j → j ≤ fin → sdS sd j = true → tb ((hiV g sd lg rp n).1 j) 1 = true) ∧
      (0 ≤ (hiV g sd lg rp n).2 ∧ (hiV g sd lg rp n).2 ≤ (n : Int) ∧ (hiV g sd lg rp n).1 (hiV g sd lg rp n).2 ≠ 0 ∧ ∀ j, (hiV g sd lg rp n).2 < j → j ≤ (n : Int) → (hiV g sd lg rp n).1 j = 0) := by
    intro n
    induction n with
    | zero =>
      intro _
      have e1 : (hiV g sd lg rp ((0 : Nat) : Int)).1 0 = 1 := upf_at g 0 1
      have e2 : (hiV g sd lg rp ((0 : Nat) : Int)).2 = 0 := rfl
      refine ⟨fun j h0 h1 => ?_, fun j h0 h1 h2 => ?_, fun j h0 h1 h2 h3 => by omega, ?_⟩
      · obtain rfl : j = 0 := by omega
        rw [e1]
        exact ⟨fun _ => Or.inl rfl, fun _ => by decide⟩
      · obtain rfl : j = 0 := by omega
        rw [e1] at h2
        exact absurd h2 (by decide)
      · rw [e2, e1]
        exact ⟨Int.le_refl _, Int.le_refl _, by decide, fun j h1 h2 => by omega⟩
    | succ n ih =>
      intro hn
      obtain ⟨i1, i2, i3, i4⟩ := ih (by omega)
      have hr3 := (hiV_r g sd lg rp n).1
      rw [show ((n + 1 : Nat) : Int) = (n : Int) + 1 by omega, hiV_s g sd lg rp (i := (n : Int)) (by omega)]
      generalize hiV g sd lg rp (n : Int) = q at i1 i2 i3 i4 hr3 ⊢
      obtain ⟨f, bst⟩ := q
      dsimp only at i1 i2 i3 i4 hr3
      have eS : sdS sd ((n : Int) + 1) = tb sd ((n : Int)).toNat := by
        unfold sdS
        rw [show (n : Int) + 1 - 1 = (n : Int) by omega]
      -- the new row holds v at the new step
      have fin4 : ∀ v : Int, ∀ bs : Int, (bs = if v = 0 then bst else (n : Int) + 1) → (tb v 0 = true ↔ (sdS sd ((n : Int) + 1) = true ∧ (n : Int) + 1 ≤ a)) → (tb v 1 = true → sdS sd ((n : Int) + 1) = true ∧ (n : Int) + 1 ≤ fin) → (a < b → b ≤ (n : Int) + 1 → (n : Int) + 1 ≤ fin → sdS sd ((n : Int) + 1) = true → tb v 1 = true) →
          (∀ j, 0 ≤ j → j ≤ (n : Int) + 1 → (tb (upf f ((n : Int) + 1) v j) 0 = true ↔ (j = 0 ∨ (sdS sd j = true ∧ j ≤ a)))) ∧
          (∀ j, 0 ≤ j → j ≤ (n : Int) + 1 → tb (upf f ((n : Int) + 1) v j) 1 = true → 1 ≤ j ∧ sdS sd j = true ∧ j ≤ fin) ∧
          (∀ j, 0 ≤ j → j ≤ (n : Int) + 1 → a < b → b ≤ j → j ≤ fin → sdS sd j = true → tb (upf f ((n : Int) + 1) v j) 1 = true) ∧
          (0 ≤ bs ∧ bs ≤ (n : Int) + 1 ∧ upf f ((n : Int) + 1) v bs ≠ 0 ∧ ∀ j, bs < j → j ≤ (n : Int) + 1 → upf f ((n : Int) + 1) v j = 0) := by
        intro v bs hbs v1 v2 v3
        refine ⟨fun j h0 h1 => ?_, fun j h0 h1 h2 => ?_, fun j h0 h1 h2 h3 h4 h5 => ?_, ?_⟩
        · by_cases hj : j = (n : Int) + 1
          · rw [hj, upf_at, v1]
            constructor
            · intro z
              exact Or.inr z
            · rintro (z | z)
              · omega
              · exact z
          · rw [upf_ne hj]
            exact i1 j h0 (by omega)
        · by_cases hj : j = (n : Int) + 1
          · rw [hj, upf_at] at h2
            rw [hj]
            have := v2 h2
            exact ⟨by omega, this⟩
          · rw [upf_ne hj] at h2
            exact i2 j h0 (by omega) h2
        · by_cases hj : j = (n : Int) + 1
          · rw [hj] at h3 h4 h5 ⊢
            rw [upf_at]
            exact v3 h2 h3 h4 h5
          · rw [upf_ne hj]
            exact i3 j h0 (by omega) h2 h3 h4 h5
        · by_cases hv : v = 0
          · rw [if_pos hv] at hbs
            subst hbs
            refine ⟨i4.1, by omega, ?_, fun j h1 h2 => ?_⟩
            · rw [upf_ne (by omega)]
              exact i4.2.2.1
            · by_cases hj : j = (n : Int) + 1
              · rw [hj, upf_at, hv]
              · rw [upf_ne hj]
                exact i4.2.2.2 j h1 (by omega)
          · rw [if_neg hv] at hbs
            subst hbs
            exact ⟨by omega, Int.le_refl _, by rw [upf_at]; exact hv, fun j h1 h2 => by omega⟩
      unfold hiF
      by_cases hS : tb sd ((n : Int)).toNat = true
      · rw [if_pos hS]
        have hSs : sdS sd ((n : Int) + 1) = true := by rw [eS]; exact hS
        have hb := inS_b (f := f) (lg := lg) (rp := rp) (s := (n : Int) + 1) (fun j h0 h1 => hr3 j h0 (by omega)) (n + 1) (by omega)
        rw [show ((n + 1 : Nat) : Int) = (n : Int) + 1 by omega] at hb
        refine fin4 _ _ rfl ?_ ?_ ?_
        · rw [hb.1]
          constructor
          · rintro ⟨j, h0, h1, h2, h3⟩
            refine ⟨hSs, ?_⟩
            have := (i1 j h0 (by omega)).mp h3
            by_cases hc : a < (n : Int) + 1
            · have := a4 _ hc (by omega) hSs
              omega
            · omega
          · rintro ⟨-, h2⟩
            obtain ⟨j, g0, g1, g2, g3⟩ := a3 ((n : Int) + 1) (by omega) h2 hSs
            refine ⟨j, g0, g1, g2, (i1 j g0 (by omega)).mpr ?_⟩
            rcases g3 with g3 | g3
            · exact Or.inl g3
            · exact Or.inr ⟨g3, by omega⟩
        · intro hv
          obtain ⟨j, h0, h1, h2⟩ := hb.2.mp hv
          refine ⟨hSs, ?_⟩
          rcases h2 with ⟨h2, h3⟩ | ⟨h2, h3, h4⟩
          · have := i2 j h0 (by omega) h3
            by_cases hc : fin < (n : Int) + 1
            · have := f4 _ hc (by omega) hSs
              omega
            · omega
          · have hja := (i1 j h0 (by omega)).mp h4
            by_cases hc : b < (n : Int) + 1
            · have hle : (n : Int) + 1 ≤ a + (((mx - a).toNat : Nat) : Int) := by
                have q1 : j ≤ a := by
                  rcases hja with z | z
                  · rw [z]
                    exact a0
                  · exact z.2
                clear hb hv a3 f3 fin4 i1 i2 i3 i4 hja ih
                omega
              have := b3 ((n : Int) + 1) hc hle
              rw [hSs] at this
              cases this
            · omega
        · intro g1 g2 g3 _
          rw [hb.2]
          have hSb : sdS sd b = true := by
            rcases b2 with z | z
            · omega
            · exact z
          by_cases hsb : (n : Int) + 1 = b
          · have h5 := a4 b g1 (by omega) hSb
            have h6 : (n : Int) + 1 - a ≤ lg + rp := by
              clear hb a3 f3 fin4 i1 i2 i3 i4 ih
              omega
            refine ⟨a, a0, by omega, Or.inr ⟨by omega, h6, (i1 a a0 (by omega)).mpr ?_⟩⟩
            rcases a2 with z | z
            · exact Or.inl z
            · exact Or.inr ⟨z, Int.le_refl _⟩
          · obtain ⟨j, q0, q1, q2, q3⟩ := f3 ((n : Int) + 1) (by omega) g3 hSs
            refine ⟨j, by omega, q1, Or.inl ⟨q2, i3 j (by omega) (by omega) g1 q0 (by omega) ?_⟩⟩
            rcases q3 with z | z
            · rw [z]
              exact hSb
            · exact z
      · rw [if_neg hS]
        have hSs : sdS sd ((n : Int) + 1) = false := by rw [eS]; simpa using hS
        refine fin4 0 bst rfl ?_ ?_ ?_
        · rw [hSs]
          exact ⟨fun z => absurd z (by decide), fun z => absurd z.1 (by decide)⟩
        · intro z
          exact absurd z (by decide)
        · intro _ _ _ z
          rw [hSs] at z
          cases z
  obtain ⟨i1, i2, i3, i4⟩ := key h.toNat (by omega)
  have hr3 := (hiV_r g sd lg rp h.toNat).1
  rw [show ((h.toNat : Nat) : Int) = h by omega] at i1 i2 i3 i4 hr3
  generalize hiV g sd lg rp h = q at i1 i2 i3 i4 hr3 ⊢
  have hnz : q.1 fin ≠ 0 := by
    intro hz
    by_cases hab : a < b
    · have hSf : sdS sd fin = true := by
        rcases f2 with z | z
        · rcases b2 with y | y
          · omega
          · rw [z]
            exact y
        · exact z
      have := i3 fin (by omega) f1 hab f0 (Int.le_refl _) hSf
      rw [hz] at this
      exact absurd this (by decide)
    · have e := hba (by omega)
      have : tb (q.1 fin) 0 = true := (i1 fin (by omega) f1).mpr (by
        rw [e]
        rcases a2 with z | z
        · exact Or.inl z
        · exact Or.inr ⟨z, Int.le_refl _⟩)
      rw [hz] at this
      exact absurd this (by decide)
  have h1 : fin ≤ q.2 := by
    by_cases hc : q.2 < fin
    · exact absurd (i4.2.2.2 fin hc f1) hnz
    · omega
  have h2 : q.2 ≤ fin := by
    rcases nz3 (hr3 q.2 i4.1 i4.2.1) i4.2.2.1 with z | z
    · have := (i1 q.2 i4.1 i4.2.1).mp z
      omega
    · exact (i2 q.2 i4.1 i4.2.1 z).2.2
  omega
