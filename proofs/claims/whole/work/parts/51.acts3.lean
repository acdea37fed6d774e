/-! ===== rows under acts: a step is straightened, a loan's day, a day ===== -/
def rfF (f : Int → Int) (t s c : Int) : Int → Int := fun j => if j = 2 + t then f j - c else if j = 6 + t then bor (f j) (1 * 2 ^ Int.toNat (s - 1)) else if j = 14 + t then band (f j) (bxor (1 * 2 ^ Int.toNat (s - 1)) (-1)) else f j
def mrfF (g : Int → Int) (t s c : Int) : Int → Int := fun j => if j = 2 + t then g j - c else if j = 6 + 14 * t + s - 1 then 0 else g j
theorem RS.refit {tw : Int} {H : Int → Int} {B D : Int} {f g : Int → Int} (h : RS tw H B D f g) (ht : tw ≤ 4) (hH : ∀ t, 0 ≤ t → t < tw → 3 ≤ H t ∧ H t ≤ 14) {t s c : Int} (t0 : 0 ≤ t) (t1 : t < tw) (s0 : 1 ≤ s) (s1 : s ≤ H t) (hg : g (6 + 14 * t + s - 1) = 3) (c0 : 0 ≤ c) (c1 : c ≤ 99) : RS tw H (B + 99) D (rfF f t s c) (mrfF g t s c) := by
  have hM := h.mlr ht hH
  have hSR := h.sr ht hH
  obtain ⟨h0, h1, h2, h3, h4, h5, h6⟩ := h
  have hht := hH t t0 t1
  have F' : ∀ j, j ≠ 2 + t → j ≠ 6 + t → j ≠ 14 + t → rfF f t s c j = f j := by
    intro j b1 b2 b3
    unfold rfF
    rw [if_neg b1, if_neg b2, if_neg b3]
  have G' : ∀ j, j ≠ 2 + t → j ≠ 6 + 14 * t + s - 1 → mrfF g t s c j = g j := by
    intro j b1 b2
    unfold mrfF
    rw [if_neg b1, if_neg b2]
  have Gs : ∀ t', 0 ≤ t' → t' < tw → ∀ i, 0 ≤ i → i < H t' → mrfF g t s c (6 + 14 * t' + i) = if t' = t ∧ i = s - 1 then 0 else g (6 + 14 * t' + i) := by
    intro t' t0' t1' i i0 i1
    have := hH t' t0' t1'
    by_cases hc : t' = t ∧ i = s - 1
    · rw [if_pos hc]
      unfold mrfF
      rw [if_neg (by omega), if_pos (by omega)]
    · rw [if_neg hc, G' _ (by omega) (by omega)]
  have F1 : rfF f t s c 1 = f 1 := F' 1 (by omega) (by omega) (by omega)
  have G1 : mrfF g t s c 1 = g 1 := G' 1 (by omega) (by omega)
  have Gl : ∀ i e, 0 ≤ i → i < f 1 → 0 ≤ e → e < 8 → mrfF g t s c (62 + 8 * i + e) = g (62 + 8 * i + e) := fun i e b1 b2 b3 b4 => G' _ (by omega) (by omega)
  have Fl : ∀ i e, 0 ≤ i → i < f 1 → 0 ≤ e → e < 8 → rfF f t s c (22 + i * 8 + e) = f (22 + i * 8 + e) := fun i e b1 b2 b3 b4 => F' _ (by omega) (by omega) (by omega)
  refine ⟨?_, ?_, ?_, ?_, ?_, ?_, ?_⟩
  · rw [F' 0 (by omega) (by omega) (by omega), G' 0 (by omega) (by omega)]
    exact h0
  · rw [F1, G1]
    exact h1
  · intro t' a b
    have := h2 t' a b
    by_cases hc : t' = t
    · subst hc
      unfold rfF mrfF
      rw [if_pos rfl, if_pos rfl]
      omega
    · rw [F' (2 + t') (by omega) (by omega) (by omega), G' (2 + t') (by omega) (by omega)]
      omega
  · intro t' t0' t1'
    obtain ⟨m, b1, b2, b3, b4⟩ := h3 t' t0' t1'
    have hh := hH t' t0' t1'
    have gs := Gs t' t0' t1'
    have up2 : t' = t → ∀ i, 0 ≤ i → i < H t' → mrfF g t s c (6 + 14 * t' + i) = if i = s - 1 then 0 else g (6 + 14 * t' + i) := by
      intro htT i i0 i1
      rw [gs i i0 i1]
      by_cases hi : i = s - 1
      · rw [if_pos ⟨htT, hi⟩, if_pos hi]
      · rw [if_neg (fun z => hi z.2), if_neg hi]
    refine ⟨fun i i0 i1 => ?_, ?_, ?_, ?_, ?_⟩
    · rw [gs i i0 i1]
      have := m i i0 i1
      split
      · omega
      · exact this
    · by_cases htT : t' = t
      · refine hw_upd (S := s) (w0 := 0) b1 (by omega) hh.2 (by rw [htT]; omega) (up2 htT) (Or.inl ⟨rfl, ?_⟩)
        unfold rfF
        rw [if_neg (by omega), if_pos (by omega)]
      · rw [F' _ (by omega) (by omega) (by omega), hwB_cong (g := g) (fun i i0 i1 => by rw [gs i i0 i1, if_neg (fun z => htT z.1)])]
        exact b1
    · by_cases htT : t' = t
      · refine hw_upd (S := s) (w0 := 0) b2 (by omega) hh.2 (by rw [htT]; omega) (up2 htT) (Or.inr (Or.inr ⟨by decide, ?_, F' _ (by omega) (by omega) (by omega)⟩))
        rw [htT, show 6 + 14 * t + (s - 1) = 6 + 14 * t + s - 1 by omega, hg]
        decide
      · rw [F' _ (by omega) (by omega) (by omega), hwB_cong (g := g) (fun i i0 i1 => by rw [gs i i0 i1, if_neg (fun z => htT z.1)])]
        exact b2
    · by_cases htT : t' = t
      · refine hw_upd (S := s) (w0 := 0) b3 (by omega) hh.2 (by rw [htT]; omega) (up2 htT) (Or.inr (Or.inl ⟨by decide, ?_⟩))
        unfold rfF
        rw [if_neg (by omega), if_neg (by omega), if_pos (by omega)]
      · rw [F' _ (by omega) (by omega) (by omega), hwB_cong (g := g) (fun i i0 i1 => by rw [gs i i0 i1, if_neg (fun z => htT z.1)])]
        exact b3
    · rw [F' _ (by omega) (by omega) (by omega), G1, fsB_cong (g := g) (fun i e b1 b2 b3 b4 => Gl i e b1 (by omega) b3 b4)]
      exact b4
  · intro t' a b e
    rw [F' (6 + t') (by omega) (by omega) (by omega), F' (10 + t') (by omega) (by omega) (by omega), F' (14 + t') (by omega) (by omega) (by omega), F' (18 + t') (by omega) (by omega) (by omega)]
    exact h4 t' a b e
  · intro i i0 i1
    rw [F1] at i1
    have q := fun e e0 e1 => Fl i e i0 i1 e0 e1
    obtain ⟨b0, b1, b2, b3, b4, b5, b6, b7⟩ := h5 i i0 i1
    have hhi := hH _ b1.1 b1.2
    unfold LN
    rw [q 0 (by decide) (by decide), q 1 (by decide) (by decide), q 2 (by decide) (by decide), q 3 (by decide) (by decide), q 4 (by decide) (by decide), q 5 (by decide) (by decide), q 6 (by decide) (by decide), q 7 (by decide) (by decide)]
    refine ⟨fun e e0 e1 => ?_, b1, b2, b3, b4, b5, b6, ?_⟩
    · rw [q e e0 e1, Gl i e i0 i1 e0 e1]
      exact b0 e e0 e1
    · rcases b7 with b7 | b7
      · refine Or.inl ⟨b7.1, b7.2.1, ?_⟩
        rw [Gs _ b1.1 b1.2 _ (by omega) (by omega), if_neg]
        · exact b7.2.2
        · rintro ⟨z1, z2⟩
          have := b7.2.2
          rw [z1, z2, show 6 + 14 * t + (s - 1) = 6 + 14 * t + s - 1 by omega, hg] at this
          omega
      · exact Or.inr b7
  · intro i j i0 ij j1
    rw [F1] at j1
    have q := fun e e0 e1 => Fl i e i0 (by omega) e0 e1
    have s' := fun e e0 e1 => Fl j e (by omega) j1 e0 e1
    rw [q 0 (by decide) (by decide), q 1 (by decide) (by decide), q 2 (by decide) (by decide), q 6 (by decide) (by decide), q 7 (by decide) (by decide), s' 0 (by decide) (by decide), s' 1 (by decide) (by decide), s' 2 (by decide) (by decide), s' 6 (by decide) (by decide), s' 7 (by decide) (by decide)]
    exact h6 i j i0 ij j1
/-! a loan's day: rent, one day less -/
def payF (f : Int → Int) (k : Int) : Int → Int := fun j => if j = 22 + k * 8 + 3 then f j - 1 else if j = 22 + k * 8 + 5 then f j + 1 else if j = 2 + f (22 + k * 8 + 0) then (if j = 2 + f (22 + k * 8 + 2) then f j - f (22 + k * 8 + 4) else f j) + f (22 + k * 8 + 4) else if j = 2 + f (22 + k * 8 + 2) then f j - f (22 + k * 8 + 4) else f j
def mpayF (g : Int → Int) (k : Int) : Int → Int := fun j => if j = 62 + 8 * k + 3 then g j - 1 else if j = 62 + 8 * k + 5 then g j + 1 else if j = 2 + g (62 + 8 * k + 0) then (if j = 2 + g (62 + 8 * k + 2) then g j - g (62 + 8 * k + 4) else g j) + g (62 + 8 * k + 4) else if j = 2 + g (62 + 8 * k + 2) then g j - g (62 + 8 * k + 4) else g j
theorem RS.pay {tw : Int} {H : Int → Int} {B D : Int} {f g : Int → Int} (h : RS tw H B D f g) (ht : tw ≤ 4) (hH : ∀ t, 0 ≤ t → t < tw → 3 ≤ H t ∧ H t ≤ 14) {k : Int} (k0 : 0 ≤ k) (k1 : k < f 1) (ko : f (22 + k * 8 + 7) = 0) (kl : 1 ≤ f (22 + k * 8 + 3)) (hD : D ≤ 5000) : RS tw H (B + 99) 5000 (payF f k) (mpayF g k) := by
  obtain ⟨h0, h1, h2, h3, h4, h5, h6⟩ := h
  obtain ⟨e, a1, a2, a3, a4, a5, a6, a7⟩ := h5 k k0 k1
  have F' : ∀ j, j ≠ 22 + k * 8 + 3 → j ≠ 22 + k * 8 + 5 → j ≠ 2 + f (22 + k * 8 + 0) → j ≠ 2 + f (22 + k * 8 + 2) → payF f k j = f j := by
    intro j b1 b2 b3 b4
    unfold payF
    rw [if_neg b1, if_neg b2, if_neg b3, if_neg b4]
  have G' : ∀ j, j ≠ 62 + 8 * k + 3 → j ≠ 62 + 8 * k + 5 → j ≠ 2 + f (22 + k * 8 + 0) → j ≠ 2 + f (22 + k * 8 + 2) → mpayF g k j = g j := by
    intro j b1 b2 b3 b4
    unfold mpayF
    rw [e 0 (by decide) (by decide), e 2 (by decide) (by decide), if_neg b1, if_neg b2, if_neg b3, if_neg b4]
  have F1 : payF f k 1 = f 1 := F' 1 (by omega) (by omega) (by omega) (by omega)
  have G1 : mpayF g k 1 = g 1 := G' 1 (by omega) (by omega) (by omega) (by omega)
  have F3 : payF f k (22 + k * 8 + 3) = f (22 + k * 8 + 3) - 1 := by unfold payF; rw [if_pos rfl]
  have F5 : payF f k (22 + k * 8 + 5) = f (22 + k * 8 + 5) + 1 := by unfold payF; rw [if_neg (by omega), if_pos rfl]
  have G3 : mpayF g k (62 + 8 * k + 3) = f (22 + k * 8 + 3) - 1 := by unfold mpayF; rw [if_pos rfl, e 3 (by decide) (by decide)]
  have G5 : mpayF g k (62 + 8 * k + 5) = f (22 + k * 8 + 5) + 1 := by unfold mpayF; rw [if_neg (by omega), if_pos rfl, e 5 (by decide) (by decide)]
  have Gs : ∀ t, 0 ≤ t → t < tw → ∀ i, 0 ≤ i → i < H t → mpayF g k (6 + 14 * t + i) = g (6 + 14 * t + i) := by
    intro t t0 t1 i i0 i1
    have := hH t t0 t1
    exact G' _ (by omega) (by omega) (by omega) (by omega)
  have Gl : ∀ i c, 0 ≤ i → i < f 1 → 0 ≤ c → c < 8 → (i = k → c ≠ 3 ∧ c ≠ 5) → mpayF g k (62 + 8 * i + c) = g (62 + 8 * i + c) := fun i c b1 b2 b3 b4 b5 => G' _ (by omega) (by omega) (by omega) (by omega)
  have Fl : ∀ i c, 0 ≤ i → i < f 1 → 0 ≤ c → c < 8 → (i = k → c ≠ 3 ∧ c ≠ 5) → payF f k (22 + i * 8 + c) = f (22 + i * 8 + c) := fun i c b1 b2 b3 b4 b5 => F' _ (by omega) (by omega) (by omega) (by omega)
  refine ⟨?_, ?_, ?_, ?_, ?_, ?_, ?_⟩
  · rw [F' 0 (by omega) (by omega) (by omega) (by omega), G' 0 (by omega) (by omega) (by omega) (by omega)]
    omega
  · rw [F1, G1]
    exact h1
  · intro t a b
    have := h2 t a b
    have e0 := e 0 (by decide) (by decide)
    have e2 := e 2 (by decide) (by decide)
    have e4 := e 4 (by decide) (by decide)
    unfold payF mpayF
    rw [e0, e2, e4, if_neg (show ¬ (2 + t = 22 + k * 8 + 3) by omega), if_neg (show ¬ (2 + t = 22 + k * 8 + 5) by omega), if_neg (show ¬ (2 + t = 62 + 8 * k + 3) by omega), if_neg (show ¬ (2 + t = 62 + 8 * k + 5) by omega), this.1]
    refine ⟨rfl, ?_⟩
    split
    · split <;> omega
    · split <;> omega
  · intro t t0 t1
    obtain ⟨m, b1, b2, b3, b4⟩ := h3 t t0 t1
    have hh := hH t t0 t1
    have gs := Gs t t0 t1
    rw [F' (6 + t) (by omega) (by omega) (by omega) (by omega), F' (10 + t) (by omega) (by omega) (by omega) (by omega), F' (14 + t) (by omega) (by omega) (by omega) (by omega), F' (18 + t) (by omega) (by omega) (by omega) (by omega), hwB_cong gs, hwB_cong gs, hwB_cong gs, G1]
    refine ⟨MSR_cong gs m, b1, b2, b3, ?_⟩
    rw [b4]
    apply foI_cong
    intro i x c0 c1
    unfold fsB
    rw [Gl i 7 c0 (by omega) (by decide) (by decide) (fun _ => by omega), Gl i 2 c0 (by omega) (by decide) (by decide) (fun _ => by omega), Gl i 6 c0 (by omega) (by decide) (by decide) (fun _ => by omega)]
  · intro t a b c
    rw [F' (6 + t) (by omega) (by omega) (by omega) (by omega), F' (10 + t) (by omega) (by omega) (by omega) (by omega), F' (14 + t) (by omega) (by omega) (by omega) (by omega), F' (18 + t) (by omega) (by omega) (by omega) (by omega)]
    exact h4 t a b c
  · intro i i0 i1
    rw [F1] at i1
    by_cases hik : i = k
    · subst hik
      have q := fun c c0 c1 c2 => Fl i c i0 i1 c0 c1 (fun _ => c2)
      have hhi := hH _ a1.1 a1.2
      unfold LN
      rw [q 0 (by decide) (by decide) (by decide), q 1 (by decide) (by decide) (by decide), q 2 (by decide) (by decide) (by decide), q 4 (by decide) (by decide) (by decide), q 6 (by decide) (by decide) (by decide), q 7 (by decide) (by decide) (by decide), F3, F5]
      refine ⟨fun c c0 c1 => ?_, a1, a2, a3, by omega, a5, a6, ?_⟩
      · by_cases c3 : c = 3
        · subst c3
          rw [F3, G3]
        · by_cases c5 : c = 5
          · subst c5
            rw [F5, G5]
          · rw [Fl i c i0 i1 c0 c1 (fun _ => ⟨c3, c5⟩), Gl i c i0 i1 c0 c1 (fun _ => ⟨c3, c5⟩)]
            exact e c c0 c1
      · rcases a7 with a7 | a7
        · refine Or.inl ⟨a7.1, Or.inr (by omega), ?_⟩
          rw [Gs _ a1.1 a1.2 _ (by omega) (by omega)]
          exact a7.2.2
        · exact Or.inr a7
    · have q := fun c c0 c1 => Fl i c i0 i1 c0 c1 (fun z => absurd z hik)
      obtain ⟨b0, b1, b2, b3, b4, b5, b6, b7⟩ := h5 i i0 i1
      have hhi := hH _ b1.1 b1.2
      unfold LN
      rw [q 0 (by decide) (by decide), q 1 (by decide) (by decide), q 2 (by decide) (by decide), q 3 (by decide) (by decide), q 4 (by decide) (by decide), q 5 (by decide) (by decide), q 6 (by decide) (by decide), q 7 (by decide) (by decide)]
      refine ⟨fun c c0 c1 => ?_, b1, b2, b3, b4, b5, b6, ?_⟩
      · rw [q c c0 c1, Gl i c i0 i1 c0 c1 (fun z => absurd z hik)]
        exact b0 c c0 c1
      · rcases b7 with b7 | b7
        · refine Or.inl ⟨b7.1, Or.inr (by omega), ?_⟩
          rw [Gs _ b1.1 b1.2 _ (by omega) (by omega)]
          exact b7.2.2
        · exact Or.inr b7
  · intro i j i0 ij j1
    rw [F1] at j1
    have q := fun c c0 c1 c2 => Fl i c i0 (by omega) c0 c1 (fun _ => c2)
    have s := fun c c0 c1 c2 => Fl j c (by omega) j1 c0 c1 (fun _ => c2)
    rw [q 0 (by decide) (by decide) (by decide), q 1 (by decide) (by decide) (by decide), q 2 (by decide) (by decide) (by decide), q 6 (by decide) (by decide) (by decide), q 7 (by decide) (by decide) (by decide), s 0 (by decide) (by decide) (by decide), s 1 (by decide) (by decide) (by decide), s 2 (by decide) (by decide) (by decide), s 6 (by decide) (by decide) (by decide), s 7 (by decide) (by decide) (by decide)]
    exact h6 i j i0 ij j1
theorem RS.tick {tw : Int} {H : Int → Int} {B D : Int} {f g : Int → Int} (h : RS tw H B D f g) (ht : tw ≤ 4) (hH : ∀ t, 0 ≤ t → t < tw → 3 ≤ H t ∧ H t ≤ 14) : RS tw H B (D + 1) (upf f 0 (f 0 + 1)) (upf g 0 (g 0 + 1)) := by
  have h' := h.mono (Int.le_refl B) (show D ≤ D + 1 by omega)
  obtain ⟨h0, h1, h2, h3, h4, h5, h6⟩ := h'
  have hD := h.1.2.1
  have F' : ∀ j, j ≠ 0 → upf f 0 (f 0 + 1) j = f j := fun j hj => upf_ne hj
  have G' : ∀ j, j ≠ 0 → upf g 0 (g 0 + 1) j = g j := fun j hj => upf_ne hj
  have k := RS.cong (f' := upf f 0 (f 0)) (g' := upf g 0 (g 0)) ⟨h0, h1, h2, h3, h4, h5, h6⟩ ht hH (fun i _ _ => by by_cases hi : i = 0; subst hi; rw [upf_at]; rw [upf_ne hi]) (fun i _ _ => by by_cases hi : i = 0; subst hi; rw [upf_at]; rw [upf_ne hi])
  clear k
  refine ⟨?_, ?_, ?_, ?_, ?_, ?_, ?_⟩
  · rw [upf_at, upf_at]
    omega
  · rw [F' 1 (by decide), G' 1 (by decide)]
    exact h1
  · intro t a b
    rw [F' _ (by omega), G' _ (by omega)]
    exact h2 t a b
  · intro t t0 t1
    have gs : ∀ i, 0 ≤ i → i < H t → upf g 0 (g 0 + 1) (6 + 14 * t + i) = g (6 + 14 * t + i) := fun i _ _ => G' _ (by omega)
    obtain ⟨m, b1, b2, b3, b4⟩ := h3 t t0 t1
    rw [F' _ (by omega), F' _ (by omega), F' _ (by omega), F' _ (by omega), hwB_cong gs, hwB_cong gs, hwB_cong gs, G' 1 (by decide), fsB_cong (g := g) (fun i c _ _ _ _ => G' _ (by omega))]
    exact ⟨MSR_cong gs m, b1, b2, b3, b4⟩
  · intro t a b c
    rw [F' _ (by omega), F' _ (by omega), F' _ (by omega), F' _ (by omega)]
    exact h4 t a b c
  · intro i i0 i1
    rw [F' 1 (by decide)] at i1
    have q := fun c (c0 : 0 ≤ c) => F' (22 + i * 8 + c) (by omega)
    obtain ⟨b0, b1, b2, b3, b4, b5, b6, b7⟩ := h5 i i0 i1
    unfold LN
    rw [q 0 (by decide), q 1 (by decide), q 2 (by decide), q 3 (by decide), q 4 (by decide), q 5 (by decide), q 6 (by decide), q 7 (by decide), G' (6 + 14 * f (22 + i * 8 + 0) + (f (22 + i * 8 + 1) - 1)) (by omega)]
    exact ⟨fun c c0 c1 => by rw [q c c0, G' _ (by omega)]; exact b0 c c0 c1, b1, b2, b3, b4, b5, b6, b7⟩
  · intro i j i0 ij j1
    rw [F' 1 (by decide)] at j1
    have q := fun c (c0 : 0 ≤ c) => F' (22 + i * 8 + c) (by omega)
    have s := fun c (c0 : 0 ≤ c) => F' (22 + j * 8 + c) (by omega)
    rw [q 0 (by decide), q 1 (by decide), q 2 (by decide), q 6 (by decide), q 7 (by decide), s 0 (by decide), s 1 (by decide), s 2 (by decide), s 6 (by decide), s 7 (by decide)]
    exact h6 i j i0 ij j1
