/-! ===== rows under acts: a loan begins, a step is straightened, a loan's day, a day ===== -/
def stF (f : Int → Int) (t s to dy rn fl : Int) : Int → Int := fun j => if j = 1 then f 1 + 1 else if j = 22 + f 1 * 8 + 7 then 0 else if j = 22 + f 1 * 8 + 6 then fl else if j = 22 + f 1 * 8 + 5 then 0 else if j = 22 + f 1 * 8 + 4 then rn else if j = 22 + f 1 * 8 + 3 then dy else if j = 22 + f 1 * 8 + 2 then to else if j = 22 + f 1 * 8 + 1 then s else if j = 22 + f 1 * 8 + 0 then t else if fl ≠ 0 ∧ j = 18 + to then bor (f j) (1 * 2 ^ Int.toNat (fl - 1)) else if j = 10 + t then bor (f j) (1 * 2 ^ Int.toNat (s - 1)) else if j = 6 + t then band (f j) (bxor (1 * 2 ^ Int.toNat (s - 1)) (-1)) else f j
def mstF (g : Int → Int) (t s to dy rn fl : Int) : Int → Int := fun j => if j = 1 then g 1 + 1 else if j = 62 + 8 * g 1 + 7 then 0 else if j = 62 + 8 * g 1 + 6 then fl else if j = 62 + 8 * g 1 + 5 then 0 else if j = 62 + 8 * g 1 + 4 then rn else if j = 62 + 8 * g 1 + 3 then dy else if j = 62 + 8 * g 1 + 2 then to else if j = 62 + 8 * g 1 + 1 then s else if j = 62 + 8 * g 1 + 0 then t else if j = 6 + 14 * t + s - 1 then 2 else g j
theorem RS.starts {tw : Int} {H : Int → Int} {B D : Int} {f g : Int → Int} (h : RS tw H B D f g) (ht : tw ≤ 4) (hH : ∀ t, 0 ≤ t → t < tw → 3 ≤ H t ∧ H t ≤ 14) {t s to dy rn fl : Int} (t0 : 0 ≤ t) (t1 : t < tw) (s0 : 1 ≤ s) (s1 : s ≤ H t) (o0 : 0 ≤ to) (o1 : to < tw) (hg : g (6 + 14 * t + s - 1) = 0) (dy0 : 1 ≤ dy) (dy1 : dy ≤ 99) (rn0 : 0 ≤ rn) (rn1 : rn ≤ 99) (hn : f 1 < 24) (fl0 : 0 ≤ fl) (fl1 : fl ≤ H to) (flx : fl ≠ 0 → tb (f (18 + to)) (fl - 1).toNat = false) : RS tw H B D (stF f t s to dy rn fl) (mstF g t s to dy rn fl) := by
  have hM := h.mlr ht hH
  have hSR := h.sr ht hH
  obtain ⟨h0, h1, h2, h3, h4, h5, h6⟩ := h
  have hht := hH t t0 t1
  have hho := hH to o0 o1
  have F' : ∀ j, j ≠ 1 → ¬ (22 + f 1 * 8 ≤ j ∧ j ≤ 22 + f 1 * 8 + 7) → ¬ (fl ≠ 0 ∧ j = 18 + to) → j ≠ 10 + t → j ≠ 6 + t → stF f t s to dy rn fl j = f j := by
    intro j b1 b2 b3 b4 b5
    unfold stF
    rw [if_neg b1, if_neg (by omega), if_neg (by omega), if_neg (by omega), if_neg (by omega), if_neg (by omega), if_neg (by omega), if_neg (by omega), if_neg (by omega), if_neg b3, if_neg b4, if_neg b5]
  have G' : ∀ j, j ≠ 1 → ¬ (62 + 8 * f 1 ≤ j ∧ j ≤ 62 + 8 * f 1 + 7) → j ≠ 6 + 14 * t + s - 1 → mstF g t s to dy rn fl j = g j := by
    intro j b1 b2 b3
    unfold mstF
    rw [h1.2.2, if_neg b1, if_neg (by omega), if_neg (by omega), if_neg (by omega), if_neg (by omega), if_neg (by omega), if_neg (by omega), if_neg (by omega), if_neg (by omega), if_neg b3]
  have Gs : ∀ t', 0 ≤ t' → t' < tw → ∀ i, 0 ≤ i → i < H t' → mstF g t s to dy rn fl (6 + 14 * t' + i) = if t' = t ∧ i = s - 1 then 2 else g (6 + 14 * t' + i) := by
    intro t' t0' t1' i i0 i1
    have := hH t' t0' t1'
    by_cases hc : t' = t ∧ i = s - 1
    · rw [if_pos hc]
      unfold mstF
      rw [h1.2.2, if_neg (by omega), if_neg (by omega), if_neg (by omega), if_neg (by omega), if_neg (by omega), if_neg (by omega), if_neg (by omega), if_neg (by omega), if_neg (by omega), if_pos (by omega)]
    · rw [if_neg hc, G' _ (by omega) (by omega) (by omega)]
  have F1 : stF f t s to dy rn fl 1 = f 1 + 1 := by unfold stF; rw [if_pos rfl]
  have G1 : mstF g t s to dy rn fl 1 = f 1 + 1 := by unfold mstF; rw [if_pos rfl, h1.2.2]
  have n7 : stF f t s to dy rn fl (22 + f 1 * 8 + 7) = 0 := by unfold stF; rw [if_neg (by omega), if_pos rfl]
  have n6 : stF f t s to dy rn fl (22 + f 1 * 8 + 6) = fl := by unfold stF; rw [if_neg (by omega), if_neg (by omega), if_pos rfl]
  have n5 : stF f t s to dy rn fl (22 + f 1 * 8 + 5) = 0 := by unfold stF; rw [if_neg (by omega), if_neg (by omega), if_neg (by omega), if_pos rfl]
  have n4 : stF f t s to dy rn fl (22 + f 1 * 8 + 4) = rn := by unfold stF; rw [if_neg (by omega), if_neg (by omega), if_neg (by omega), if_neg (by omega), if_pos rfl]
  have n3 : stF f t s to dy rn fl (22 + f 1 * 8 + 3) = dy := by unfold stF; rw [if_neg (by omega), if_neg (by omega), if_neg (by omega), if_neg (by omega), if_neg (by omega), if_pos rfl]
  have n2 : stF f t s to dy rn fl (22 + f 1 * 8 + 2) = to := by unfold stF; rw [if_neg (by omega), if_neg (by omega), if_neg (by omega), if_neg (by omega), if_neg (by omega), if_neg (by omega), if_pos rfl]
  have n1 : stF f t s to dy rn fl (22 + f 1 * 8 + 1) = s := by unfold stF; rw [if_neg (by omega), if_neg (by omega), if_neg (by omega), if_neg (by omega), if_neg (by omega), if_neg (by omega), if_neg (by omega), if_pos rfl]
  have n0 : stF f t s to dy rn fl (22 + f 1 * 8 + 0) = t := by unfold stF; rw [if_neg (by omega), if_neg (by omega), if_neg (by omega), if_neg (by omega), if_neg (by omega), if_neg (by omega), if_neg (by omega), if_neg (by omega), if_pos rfl]
  have g7 : mstF g t s to dy rn fl (62 + 8 * f 1 + 7) = 0 := by unfold mstF; rw [h1.2.2, if_neg (by omega), if_pos rfl]
  have g6 : mstF g t s to dy rn fl (62 + 8 * f 1 + 6) = fl := by unfold mstF; rw [h1.2.2, if_neg (by omega), if_neg (by omega), if_pos rfl]
  have g5 : mstF g t s to dy rn fl (62 + 8 * f 1 + 5) = 0 := by unfold mstF; rw [h1.2.2, if_neg (by omega), if_neg (by omega), if_neg (by omega), if_pos rfl]
  have g4 : mstF g t s to dy rn fl (62 + 8 * f 1 + 4) = rn := by unfold mstF; rw [h1.2.2, if_neg (by omega), if_neg (by omega), if_neg (by omega), if_neg (by omega), if_pos rfl]
  have g3 : mstF g t s to dy rn fl (62 + 8 * f 1 + 3) = dy := by unfold mstF; rw [h1.2.2, if_neg (by omega), if_neg (by omega), if_neg (by omega), if_neg (by omega), if_neg (by omega), if_pos rfl]
  have g2 : mstF g t s to dy rn fl (62 + 8 * f 1 + 2) = to := by unfold mstF; rw [h1.2.2, if_neg (by omega), if_neg (by omega), if_neg (by omega), if_neg (by omega), if_neg (by omega), if_neg (by omega), if_pos rfl]
  have g1 : mstF g t s to dy rn fl (62 + 8 * f 1 + 1) = s := by unfold mstF; rw [h1.2.2, if_neg (by omega), if_neg (by omega), if_neg (by omega), if_neg (by omega), if_neg (by omega), if_neg (by omega), if_neg (by omega), if_pos rfl]
  have g0 : mstF g t s to dy rn fl (62 + 8 * f 1 + 0) = t := by unfold mstF; rw [h1.2.2, if_neg (by omega), if_neg (by omega), if_neg (by omega), if_neg (by omega), if_neg (by omega), if_neg (by omega), if_neg (by omega), if_neg (by omega), if_pos rfl]
  have Gl : ∀ i c, 0 ≤ i → i < f 1 → 0 ≤ c → c < 8 → mstF g t s to dy rn fl (62 + 8 * i + c) = g (62 + 8 * i + c) := fun i c b1 b2 b3 b4 => G' _ (by omega) (by omega) (by omega)
  have Fl : ∀ i c, 0 ≤ i → i < f 1 → 0 ≤ c → c < 8 → stF f t s to dy rn fl (22 + i * 8 + c) = f (22 + i * 8 + c) := fun i c b1 b2 b3 b4 => F' _ (by omega) (by omega) (by omega) (by omega) (by omega)
  have FIx : ∀ t' (m : Nat), FI (mstF g t s to dy rn fl) t' (f 1 + 1) m ↔ FI g t' (f 1) m ∨ (t' = to ∧ (m : Int) + 1 = fl) := by
    intro t' m
    constructor
    · rintro ⟨i, b1, b2, b3, b4, b5⟩
      by_cases hik : i = f 1
      · subst hik
        rw [g2] at b4
        rw [g6] at b5
        exact Or.inr ⟨b4.symm, b5.symm⟩
      · rw [Gl i 7 b1 (by omega) (by decide) (by decide)] at b3
        rw [Gl i 2 b1 (by omega) (by decide) (by decide)] at b4
        rw [Gl i 6 b1 (by omega) (by decide) (by decide)] at b5
        exact Or.inl ⟨i, b1, by omega, b3, b4, b5⟩
    · rintro (⟨i, b1, b2, b3, b4, b5⟩ | ⟨z1, z2⟩)
      · exact ⟨i, b1, by omega, by rw [Gl i 7 b1 b2 (by decide) (by decide)]; exact b3, by rw [Gl i 2 b1 b2 (by decide) (by decide)]; exact b4, by rw [Gl i 6 b1 b2 (by decide) (by decide)]; exact b5⟩
      · exact ⟨f 1, by omega, by omega, g7, by rw [g2]; exact z1.symm, by rw [g6]; exact z2.symm⟩
  have hM' : MLR (mstF g t s to dy rn fl) := by
    refine ⟨by rw [G1]; omega, fun i i0 i1 => ?_⟩
    rw [G1] at i1
    by_cases hik : i = f 1
    · subst hik
      rw [g0, g1, g2, g3, g4, g5, g6, g7]
      omega
    · have hm := hM.2 i i0 (by omega)
      rw [Gl i 0 i0 (by omega) (by decide) (by decide), Gl i 1 i0 (by omega) (by decide) (by decide), Gl i 2 i0 (by omega) (by decide) (by decide), Gl i 3 i0 (by omega) (by decide) (by decide), Gl i 4 i0 (by omega) (by decide) (by decide), Gl i 5 i0 (by omega) (by decide) (by decide), Gl i 6 i0 (by omega) (by decide) (by decide), Gl i 7 i0 (by omega) (by decide) (by decide)]
      exact hm
  refine ⟨?_, ?_, ?_, ?_, ?_, ?_, ?_⟩
  · rw [F' 0 (by omega) (by omega) (by omega) (by omega) (by omega), G' 0 (by omega) (by omega) (by omega)]
    exact h0
  · rw [F1, G1]
    omega
  · intro t' a b
    rw [F' (2 + t') (by omega) (by omega) (by omega) (by omega) (by omega), G' (2 + t') (by omega) (by omega) (by omega)]
    exact h2 t' a b
  · intro t' t0' t1'
    obtain ⟨m, b1, b2, b3, b4⟩ := h3 t' t0' t1'
    have hh := hH t' t0' t1'
    have hsr := hSR t' t0' (by omega)
    have gs := Gs t' t0' t1'
    have up2 : t' = t → ∀ i, 0 ≤ i → i < H t' → mstF g t s to dy rn fl (6 + 14 * t' + i) = if i = s - 1 then 2 else g (6 + 14 * t' + i) := by
      intro htT i i0 i1
      rw [gs i i0 i1]
      by_cases hi : i = s - 1
      · rw [if_pos ⟨htT, hi⟩, if_pos hi]
      · rw [if_neg (fun z => hi z.2), if_neg hi]
    refine ⟨fun i i0 i1 => ?_, ?_, ?_, ?_, ?_⟩
    · rw [gs i i0 i1]
      have := m i i0 i1
      split
      · omega
      · exact this
    · by_cases htT : t' = t
      · refine hw_upd (S := s) (w0 := 2) b1 (by omega) hh.2 (by rw [htT]; omega) (up2 htT) ?_
        refine Or.inr (Or.inl ⟨by decide, ?_⟩)
        unfold stF
        rw [if_neg (by omega), if_neg (by omega), if_neg (by omega), if_neg (by omega), if_neg (by omega), if_neg (by omega), if_neg (by omega), if_neg (by omega), if_neg (by omega), if_neg (by omega), if_neg (by omega), if_pos (by omega)]
      · rw [F' _ (by omega) (by omega) (by omega) (by omega) (by omega), hwB_cong (g := g) (fun i i0 i1 => by rw [gs i i0 i1, if_neg (fun z => htT z.1)])]
        exact b1
    · by_cases htT : t' = t
      · refine hw_upd (S := s) (w0 := 2) b2 (by omega) hh.2 (by rw [htT]; omega) (up2 htT) ?_
        refine Or.inl ⟨rfl, ?_⟩
        unfold stF
        rw [if_neg (by omega), if_neg (by omega), if_neg (by omega), if_neg (by omega), if_neg (by omega), if_neg (by omega), if_neg (by omega), if_neg (by omega), if_neg (by omega), if_neg (by omega), if_pos (by omega)]
      · rw [F' _ (by omega) (by omega) (by omega) (by omega) (by omega), hwB_cong (g := g) (fun i i0 i1 => by rw [gs i i0 i1, if_neg (fun z => htT z.1)])]
        exact b2
    · by_cases htT : t' = t
      · refine hw_upd (S := s) (w0 := 2) b3 (by omega) hh.2 (by rw [htT]; omega) (up2 htT) ?_
        refine Or.inr (Or.inr ⟨by decide, ?_, F' _ (by omega) (by omega) (by omega) (by omega) (by omega)⟩)
        rw [htT, show 6 + 14 * t + (s - 1) = 6 + 14 * t + s - 1 by omega, hg]
        decide
      · rw [F' _ (by omega) (by omega) (by omega) (by omega) (by omega), hwB_cong (g := g) (fun i i0 i1 => by rw [gs i i0 i1, if_neg (fun z => htT z.1)])]
        exact b3
    · by_cases hc : fl ≠ 0 ∧ t' = to
      · have ef : stF f t s to dy rn fl (18 + t') = bor (f (18 + t')) (1 * 2 ^ Int.toNat (fl - 1)) := by
          unfold stF
          rw [if_neg (by omega), if_neg (by omega), if_neg (by omega), if_neg (by omega), if_neg (by omega), if_neg (by omega), if_neg (by omega), if_neg (by omega), if_neg (by omega), if_pos (by omega)]
        rw [ef]
        refine fs_uni hM' (bor_r hsr.2.2.2 (pow_r (by omega) (by omega))) (fun m hm2 => ?_)
        rw [G1, FIx, tb_set (by omega), Bool.or_eq_true, b4, fs_tb hM, h1.2.2, decide_eq_true_eq]
        constructor
        · rintro (z | z)
          · exact Or.inl z
          · exact Or.inr ⟨hc.2, by omega⟩
        · rintro (z | z)
          · exact Or.inl z
          · exact Or.inr (by omega)
      · rw [F' _ (by omega) (by omega) (by omega) (by omega) (by omega)]
        refine fs_uni hM' hsr.2.2.2 (fun m hm2 => ?_)
        rw [G1, FIx, b4, fs_tb hM, h1.2.2]
        constructor
        · exact Or.inl
        · rintro (z | z)
          · exact z
          · exact absurd ⟨by omega, z.1⟩ hc
  · intro t' a b c
    rw [F' (6 + t') (by omega) (by omega) (by omega) (by omega) (by omega), F' (10 + t') (by omega) (by omega) (by omega) (by omega) (by omega), F' (14 + t') (by omega) (by omega) (by omega) (by omega) (by omega), F' (18 + t') (by omega) (by omega) (by omega) (by omega) (by omega)]
    exact h4 t' a b c
  · intro i i0 i1
    rw [F1] at i1
    by_cases hik : i = f 1
    · subst hik
      unfold LN
      rw [n0, n1, n2, n3, n4, n5, n6, n7]
      refine ⟨fun c c0 c1 => ?_, by omega, by omega, by omega, by omega, by omega, by omega, Or.inl ⟨rfl, Or.inl dy0, ?_⟩⟩
      · rcases (by omega : c = 0 ∨ c = 1 ∨ c = 2 ∨ c = 3 ∨ c = 4 ∨ c = 5 ∨ c = 6 ∨ c = 7) with rfl | rfl | rfl | rfl | rfl | rfl | rfl | rfl
        · rw [n0, g0]
        · rw [n1, g1]
        · rw [n2, g2]
        · rw [n3, g3]
        · rw [n4, g4]
        · rw [n5, g5]
        · rw [n6, g6]
        · rw [n7, g7]
      · rw [Gs t t0 t1 (s - 1) (by omega) (by omega), if_pos ⟨rfl, rfl⟩]
    · have q := fun c c0 c1 => Fl i c i0 (by omega) c0 c1
      obtain ⟨b0, b1, b2, b3, b4, b5, b6, b7⟩ := h5 i i0 (by omega)
      have hhi := hH _ b1.1 b1.2
      unfold LN
      rw [q 0 (by decide) (by decide), q 1 (by decide) (by decide), q 2 (by decide) (by decide), q 3 (by decide) (by decide), q 4 (by decide) (by decide), q 5 (by decide) (by decide), q 6 (by decide) (by decide), q 7 (by decide) (by decide)]
      refine ⟨fun c c0 c1 => ?_, b1, b2, b3, b4, b5, b6, ?_⟩
      · rw [q c c0 c1, Gl i c i0 (by omega) c0 c1]
        exact b0 c c0 c1
      · rcases b7 with b7 | b7
        · refine Or.inl ⟨b7.1, b7.2.1, ?_⟩
          rw [Gs _ b1.1 b1.2 _ (by omega) (by omega)]
          split
          · rfl
          · exact b7.2.2
        · exact Or.inr b7
  · intro i j i0 ij j1
    rw [F1] at j1
    have q := fun c c0 c1 => Fl i c i0 (by omega) c0 c1
    by_cases hjk : j = f 1
    · subst hjk
      rw [q 0 (by decide) (by decide), q 1 (by decide) (by decide), q 2 (by decide) (by decide), q 6 (by decide) (by decide), q 7 (by decide) (by decide), n0, n1, n2, n6, n7]
      intro io _
      obtain ⟨b0, b1, b2, b3, b4, b5, b6, b7⟩ := h5 i i0 ij
      constructor
      · rintro ⟨z1, z2⟩
        rcases b7 with b7 | b7
        · have := b7.2.2
          rw [z1, z2, show 6 + 14 * t + (s - 1) = 6 + 14 * t + s - 1 by omega, hg] at this
          omega
        · omega
      · rintro ⟨z1, z2, z3⟩
        have hf := flx (by omega)
        have : tb (f (18 + to)) (fl - 1).toNat = true := by
          rw [(h3 to o0 o1).2.2.2.2, fs_tb hM, h1.2.2]
          exact ⟨i, i0, ij, by rw [b0 7 (by decide) (by decide)]; exact io, by rw [b0 2 (by decide) (by decide)]; exact z1, by rw [b0 6 (by decide) (by decide)]; omega⟩
        rw [hf] at this
        cases this
    · have s' := fun c c0 c1 => Fl j c (by omega) (by omega) c0 c1
      rw [q 0 (by decide) (by decide), q 1 (by decide) (by decide), q 2 (by decide) (by decide), q 6 (by decide) (by decide), q 7 (by decide) (by decide), s' 0 (by decide) (by decide), s' 1 (by decide) (by decide), s' 2 (by decide) (by decide), s' 6 (by decide) (by decide), s' 7 (by decide) (by decide)]
      exact h6 i j i0 ij (by omega)
