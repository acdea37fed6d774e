/-! ===== rows under acts ===== -/
theorem tb_clr {x : Int} {n k : Nat} (hn : n < 32) (hk : k < 32) : tb (band x (bxor (1 * 2 ^ n) (-1))) k = (tb x k && !decide (n = k)) := by
  rw [tb_band, tb_bxor, tb_pow hn, tb_m1 hk, Bool.xor_true]
theorem tb_set {x : Int} {n k : Nat} (hn : n < 32) : tb (bor x (1 * 2 ^ n)) k = (tb x k || decide (n = k)) := by
  rw [tb_bor, tb_pow hn]
theorem hw_tb (g : Int → Int) (t w : Int) {ht : Int} (h0 : 0 ≤ ht) (h1 : ht ≤ 14) (k : Nat) : tb (foI (hwB g t w) 0 ht) k = decide ((k : Int) < ht ∧ g (6 + 14 * t + k) = w) := by
  have := tb_hwB g t w ht.toNat (by omega) k
  rwa [show ((ht.toNat : Nat) : Int) = ht by omega] at this
theorem hw_uni {g : Int → Int} {t w ht x : Int} (h0 : 0 ≤ ht) (h1 : ht ≤ 14) (hx : 0 ≤ x ∧ x < 16384) (h : ∀ k : Nat, k < 32 → tb x k = decide ((k : Int) < ht ∧ g (6 + 14 * t + k) = w)) : x = foI (hwB g t w) 0 ht := by
  have hr := hwB_r g t w h1
  refine tb_eq hx.1 (by omega) hr.1 (by omega) (fun k hk => ?_)
  rw [h k hk, hw_tb g t w h0 h1]
/-- one step of a tower changes -/
theorem hw_upd {g g' : Int → Int} {t ht w x x' S w0 : Int} (hx : x = foI (hwB g t w) 0 ht) (h0 : 0 ≤ ht) (h1 : ht ≤ 14) (hS : 1 ≤ S ∧ S ≤ ht) (hg : ∀ i, 0 ≤ i → i < ht → g' (6 + 14 * t + i) = if i = S - 1 then w0 else g (6 + 14 * t + i)) (hx' : (w0 = w ∧ x' = bor x (1 * 2 ^ Int.toNat (S - 1))) ∨ (w0 ≠ w ∧ x' = band x (bxor (1 * 2 ^ Int.toNat (S - 1)) (-1))) ∨ (w0 ≠ w ∧ g (6 + 14 * t + (S - 1)) ≠ w ∧ x' = x)) : x' = foI (hwB g' t w) 0 ht := by
  have hr := hwB_r g t w h1
  rw [← hx] at hr
  have hq : ∀ k, tb x k = decide ((k : Int) < ht ∧ g (6 + 14 * t + k) = w) := fun k => by rw [hx]; exact hw_tb g t w h0 h1 k
  have hp := pow_r (i := S - 1) (by omega) (by omega)
  have hr' : 0 ≤ x' ∧ x' < 16384 := by
    rcases hx' with ⟨_, e⟩ | ⟨_, e⟩ | ⟨_, _, e⟩
    · rw [e]; exact bor_r hr hp
    · rw [e]; exact band_r hr
    · rw [e]; exact hr
  refine hw_uni h0 h1 hr' (fun k hk => ?_)
  by_cases hkh : (k : Int) < ht
  · have hgk := hg k (by omega) hkh
    rw [hgk]
    by_cases hks : (k : Int) = S - 1
    · rw [if_pos hks]
      have hn : (S - 1).toNat = k := by omega
      rcases hx' with ⟨hw, e⟩ | ⟨hw, e⟩ | ⟨hw, hg2, e⟩
      · rw [e, tb_set (by omega), decide_eq_true hn, Bool.or_true, decide_eq_true ⟨hkh, hw⟩]
      · rw [e, tb_clr (by omega) hk, decide_eq_true hn, decide_eq_false (fun z => hw z.2), Bool.not_true, Bool.and_false]
      · rw [e, hq, decide_eq_false (p := (k : Int) < ht ∧ w0 = w) (fun z => hw z.2), decide_eq_false (fun z => hg2 (by rw [← hks]; exact z.2))]
    · rw [if_neg hks]
      have hn : ¬ (S - 1).toNat = k := by omega
      rcases hx' with ⟨hw, e⟩ | ⟨hw, e⟩ | ⟨hw, hg2, e⟩
      · rw [e, tb_set (by omega), decide_eq_false hn, Bool.or_false, hq]
      · rw [e, tb_clr (by omega) hk, decide_eq_false hn, Bool.not_false, Bool.and_true, hq]
      · rw [e, hq]
  · rw [decide_eq_false (fun z => hkh z.1)]
    have hn : ¬ (S - 1).toNat = k := by omega
    have hf : tb x k = false := by rw [hq, decide_eq_false (fun z => hkh z.1)]
    rcases hx' with ⟨hw, e⟩ | ⟨hw, e⟩ | ⟨hw, hg2, e⟩
    · rw [e, tb_set (by omega), decide_eq_false hn, Bool.or_false, hf]
    · rw [e, tb_clr (by omega) hk, hf, Bool.false_and]
    · rw [e, hf]
/-- steps filled -/
def FI (g : Int → Int) (t n : Int) (k : Nat) : Prop := ∃ i, 0 ≤ i ∧ i < n ∧ g (62 + 8 * i + 7) = 0 ∧ g (62 + 8 * i + 2) = t ∧ g (62 + 8 * i + 6) = k + 1
theorem tb_fsB {g : Int → Int} {t : Int} : ∀ n : Nat, (∀ i, 0 ≤ i → i < (n : Int) → 0 ≤ g (62 + 8 * i + 6) ∧ g (62 + 8 * i + 6) ≤ 14) → ∀ k : Nat, (tb (foI (fsB g t) 0 (n : Int)) k = true ↔ FI g t n k) := by
  intro n
  induction n with
  | zero =>
    intro _ k
    rw [show foI (fsB g t) 0 ((0 : Nat) : Int) = 0 from rfl, tb_zero]
    constructor
    · intro z
      cases z
    · rintro ⟨i, a, b, _⟩
      omega
  | succ n ih =>
    intro hr k
    have ih := ih (fun i a b => hr i a (by omega)) k
    have hrn := hr n (by omega) (by omega)
    rw [show ((n + 1 : Nat) : Int) = (n : Int) + 1 by omega, foI_s _ _ (by omega)]
    generalize foI (fsB g t) 0 (n : Int) = a at ih ⊢
    unfold fsB
    split
    · rename_i hc
      rw [tb_set (by omega), Bool.or_eq_true, ih, decide_eq_true_eq]
      constructor
      · rintro (⟨i, b1, b2, b3⟩ | z)
        · exact ⟨i, b1, by omega, b3⟩
        · exact ⟨n, by omega, by omega, hc.1, hc.2.1, by omega⟩
      · rintro ⟨i, b1, b2, b3, b4, b5⟩
        by_cases hi : i = n
        · subst hi
          exact Or.inr (by omega)
        · exact Or.inl ⟨i, b1, by omega, b3, b4, b5⟩
    · rename_i hc
      rw [ih]
      constructor
      · rintro ⟨i, b1, b2, b3⟩
        exact ⟨i, b1, by omega, b3⟩
      · rintro ⟨i, b1, b2, b3, b4, b5⟩
        by_cases hi : i = n
        · subst hi
          exact absurd ⟨b3, b4, by omega⟩ hc
        · exact ⟨i, b1, by omega, b3, b4, b5⟩
theorem fs_tb {g : Int → Int} {t : Int} (hM : MLR g) (k : Nat) : tb (foI (fsB g t) 0 (g 1)) k = true ↔ FI g t (g 1) k := by
  have h1 := hM.1
  have := tb_fsB (g := g) (t := t) (g 1).toNat (fun i a b => by have := hM.2 i a (by omega); omega) k
  rwa [show (((g 1).toNat : Nat) : Int) = g 1 by omega] at this
theorem fs_uni {g : Int → Int} {t x : Int} (hM : MLR g) (hx : 0 ≤ x ∧ x < 16384) (h : ∀ k : Nat, k < 32 → (tb x k = true ↔ FI g t (g 1) k)) : x = foI (fsB g t) 0 (g 1) := by
  have hr := fsB_r hM t
  refine tb_eq hx.1 (by omega) hr.1 (by omega) (fun k hk => ?_)
  have a := h k hk
  have b := fs_tb (t := t) hM k
  rw [← b] at a
  exact Bool.eq_iff_iff.mpr a
/-! a loan ends -/
def enF (f : Int → Int) (k hm : Int) : Int → Int := fun j => if j = 22 + k * 8 + 7 then 1 else if j = 22 + k * 8 + 6 then 0 else if f (22 + k * 8 + 6) ≠ 0 ∧ j = 18 + f (22 + k * 8 + 2) then band (f j) (bxor (1 * 2 ^ Int.toNat (f (22 + k * 8 + 6) - 1)) (-1)) else if j = hm + f (22 + k * 8 + 0) then bor (f j) (1 * 2 ^ Int.toNat (f (22 + k * 8 + 1) - 1)) else if j = 10 + f (22 + k * 8 + 0) then band (f j) (bxor (1 * 2 ^ Int.toNat (f (22 + k * 8 + 1) - 1)) (-1)) else f j
def menF (g : Int → Int) (k hm : Int) : Int → Int := fun j => if j = 6 + 14 * g (62 + 8 * k + 0) + g (62 + 8 * k + 1) - 1 then (if hm = 6 then 0 else 3) else if j = 62 + 8 * k + 7 then 1 else if j = 62 + 8 * k + 6 then 0 else g j
theorem RS.ends {tw : Int} {H : Int → Int} {B D : Int} {f g : Int → Int} (h : RS tw H B D f g) (ht : tw ≤ 4) (hH : ∀ t, 0 ≤ t → t < tw → 3 ≤ H t ∧ H t ≤ 14) {k hm : Int} (k0 : 0 ≤ k) (k1 : k < f 1) (ko : f (22 + k * 8 + 7) = 0) (hhm : hm = 6 ∨ hm = 14) : RS tw H B D (enF f k hm) (menF g k hm) := by
  have hM := h.mlr ht hH
  have hSR := h.sr ht hH
  obtain ⟨h0, h1, h2, h3, h4, h5, h6⟩ := h
  obtain ⟨e, a1, a2, a3, a4, a5, a6, a7⟩ := h5 k k0 k1
  have a8 : g (6 + 14 * f (22 + k * 8 + 0) + (f (22 + k * 8 + 1) - 1)) = 2 := by
    rcases a7 with a7 | a7
    · exact a7.2.2
    · omega
  have eG : menF g k hm = fun j => if j = 6 + 14 * f (22 + k * 8 + 0) + f (22 + k * 8 + 1) - 1 then (if hm = 6 then 0 else 3) else if j = 62 + 8 * k + 7 then 1 else if j = 62 + 8 * k + 6 then 0 else g j := by
    unfold menF
    rw [e 0 (by decide) (by decide), e 1 (by decide) (by decide)]
  have hht := hH _ a1.1 a1.2
  have hhu := hH _ a3.1 a3.2
  have e2 := e 2 (by decide) (by decide)
  have e6 := e 6 (by decide) (by decide)
  have e7 := e 7 (by decide) (by decide)
  have un6 := fun i (i0 : 0 ≤ i) (i1 : i < f 1) (ik : i ≠ k) (io : f (22 + i * 8 + 7) = 0) => (show ¬ (f (22 + i * 8 + 0) = f (22 + k * 8 + 0) ∧ f (22 + i * 8 + 1) = f (22 + k * 8 + 1)) ∧ ¬ (f (22 + i * 8 + 2) = f (22 + k * 8 + 2) ∧ f (22 + i * 8 + 6) = f (22 + k * 8 + 6) ∧ f (22 + i * 8 + 6) ≠ 0) by
    by_cases hik : i < k
    · exact h6 i k i0 hik k1 io ko
    · have := h6 k i k0 (by omega) i1 ko io
      omega)
  generalize hT : f (22 + k * 8 + 0) = T at *
  generalize hS : f (22 + k * 8 + 1) = S at *
  generalize hU : f (22 + k * 8 + 2) = U at *
  generalize hF : f (22 + k * 8 + 6) = F at *
  have F' : ∀ j, j ≠ 22 + k * 8 + 7 → j ≠ 22 + k * 8 + 6 → ¬ (F ≠ 0 ∧ j = 18 + U) → j ≠ hm + T → j ≠ 10 + T → enF f k hm j = f j := by
    intro j b1 b2 b3 b4 b5
    unfold enF
    rw [hT, hU, hF, if_neg b1, if_neg b2, if_neg b3, if_neg b4, if_neg b5]
  have G' : ∀ j, j ≠ 6 + 14 * T + S - 1 → j ≠ 62 + 8 * k + 7 → j ≠ 62 + 8 * k + 6 → menF g k hm j = g j := by
    intro j b1 b2 b3
    rw [eG]
    show (if _ then _ else _) = _
    rw [if_neg b1, if_neg b2, if_neg b3]
  have Gs : ∀ t, 0 ≤ t → t < tw → ∀ i, 0 ≤ i → i < H t → menF g k hm (6 + 14 * t + i) = if t = T ∧ i = S - 1 then (if hm = 6 then 0 else 3) else g (6 + 14 * t + i) := by
    intro t t0 t1 i i0 i1
    have := hH t t0 t1
    by_cases hc : t = T ∧ i = S - 1
    · rw [if_pos hc, eG]
      show (if _ then _ else _) = _
      rw [if_pos (by omega)]
    · rw [if_neg hc, G' _ (by omega) (by omega) (by omega)]
  have F1 : enF f k hm 1 = f 1 := F' 1 (by omega) (by omega) (by omega) (by omega) (by omega)
  have G1 : menF g k hm 1 = f 1 := by rw [G' 1 (by omega) (by omega) (by omega)]; exact h1.2.2
  have G7 : menF g k hm (62 + 8 * k + 7) = 1 := by
    rw [eG]
    show (if _ then _ else _) = _
    rw [if_neg (by omega), if_pos rfl]
  have G6 : menF g k hm (62 + 8 * k + 6) = 0 := by
    rw [eG]
    show (if _ then _ else _) = _
    rw [if_neg (by omega), if_neg (by omega), if_pos rfl]
  have F7 : enF f k hm (22 + k * 8 + 7) = 1 := by unfold enF; rw [if_pos rfl]
  have F6 : enF f k hm (22 + k * 8 + 6) = 0 := by unfold enF; rw [if_neg (by omega), if_pos rfl]
  have Gl : ∀ i c, 0 ≤ i → i < f 1 → 0 ≤ c → c < 8 → (i = k → c ≠ 6 ∧ c ≠ 7) → menF g k hm (62 + 8 * i + c) = g (62 + 8 * i + c) := fun i c b1 b2 b3 b4 b5 => G' _ (by omega) (by omega) (by omega)
  have Fl : ∀ i c, 0 ≤ i → i < f 1 → 0 ≤ c → c < 8 → (i = k → c ≠ 6 ∧ c ≠ 7) → enF f k hm (22 + i * 8 + c) = f (22 + i * 8 + c) := fun i c b1 b2 b3 b4 b5 => F' _ (by omega) (by omega) (by omega) (by omega) (by omega)
  have FIx : ∀ t (m : Nat), FI (menF g k hm) t (f 1) m ↔ FI g t (f 1) m ∧ ¬ (t = U ∧ (m : Int) + 1 = F) := by
    intro t m
    constructor
    · rintro ⟨i, b1, b2, b3, b4, b5⟩
      by_cases hik : i = k
      · subst hik
        rw [G7] at b3
        omega
      · rw [Gl i 7 b1 b2 (by decide) (by decide) (fun z => absurd z hik)] at b3
        rw [Gl i 2 b1 b2 (by decide) (by decide) (fun z => absurd z hik)] at b4
        rw [Gl i 6 b1 b2 (by decide) (by decide) (fun z => absurd z hik)] at b5
        refine ⟨⟨i, b1, b2, b3, b4, b5⟩, fun z => ?_⟩
        have ei := (h5 i b1 b2).1
        rw [ei 7 (by decide) (by decide)] at b3
        rw [ei 2 (by decide) (by decide)] at b4
        rw [ei 6 (by decide) (by decide)] at b5
        have := (un6 i b1 b2 hik b3).2
        omega
    · rintro ⟨⟨i, b1, b2, b3, b4, b5⟩, z⟩
      by_cases hik : i = k
      · subst hik
        omega
      · exact ⟨i, b1, b2, by rw [Gl i 7 b1 b2 (by decide) (by decide) (fun z => absurd z hik)]; exact b3, by rw [Gl i 2 b1 b2 (by decide) (by decide) (fun z => absurd z hik)]; exact b4, by rw [Gl i 6 b1 b2 (by decide) (by decide) (fun z => absurd z hik)]; exact b5⟩
  have hM' : MLR (menF g k hm) := by
    refine ⟨by rw [G1]; omega, fun i i0 i1 => ?_⟩
    rw [G1] at i1
    have hm := hM.2 i i0 (by omega)
    by_cases hik : i = k
    · subst hik
      rw [Gl i 0 i0 i1 (by decide) (by decide) (fun _ => by omega), Gl i 1 i0 i1 (by decide) (by decide) (fun _ => by omega), Gl i 2 i0 i1 (by decide) (by decide) (fun _ => by omega), Gl i 3 i0 i1 (by decide) (by decide) (fun _ => by omega), Gl i 4 i0 i1 (by decide) (by decide) (fun _ => by omega), Gl i 5 i0 i1 (by decide) (by decide) (fun _ => by omega), G6, G7]
      omega
    · rw [Gl i 0 i0 i1 (by decide) (by decide) (fun z => absurd z hik), Gl i 1 i0 i1 (by decide) (by decide) (fun z => absurd z hik), Gl i 2 i0 i1 (by decide) (by decide) (fun z => absurd z hik), Gl i 3 i0 i1 (by decide) (by decide) (fun z => absurd z hik), Gl i 4 i0 i1 (by decide) (by decide) (fun z => absurd z hik), Gl i 5 i0 i1 (by decide) (by decide) (fun z => absurd z hik), Gl i 6 i0 i1 (by decide) (by decide) (fun z => absurd z hik), Gl i 7 i0 i1 (by decide) (by decide) (fun z => absurd z hik)]
      exact hm
  refine ⟨?_, ?_, ?_, ?_, ?_, ?_, ?_⟩
  · rw [F' 0 (by omega) (by omega) (by omega) (by omega) (by omega), G' 0 (by omega) (by omega) (by omega)]
    exact h0
  · rw [F1, G1]
    omega
  · intro t t0 t1
    rw [F' (2 + t) (by omega) (by omega) (by omega) (by omega) (by omega), G' (2 + t) (by omega) (by omega) (by omega)]
    exact h2 t t0 t1
  · intro t t0 t1
    obtain ⟨m, b1, b2, b3, b4⟩ := h3 t t0 t1
    have hh := hH t t0 t1
    have hsr := hSR t t0 (by omega)
    have gs := Gs t t0 t1
    refine ⟨fun i i0 i1 => ?_, ?_, ?_, ?_, ?_⟩
    · rw [gs i i0 i1]
      have := m i i0 i1
      split
      · split <;> omega
      · exact this
    · by_cases htT : t = T
      · subst htT
        refine hw_upd (S := S) (w0 := if hm = 6 then 0 else 3) b1 (by omega) hh.2 (by omega) (fun i i0 i1 => ?_) ?_
        · rw [gs i i0 i1]
          by_cases hi : i = S - 1
          · rw [if_pos ⟨rfl, hi⟩, if_pos hi]
          · rw [if_neg (fun z => hi z.2), if_neg hi]
        · rcases hhm with hh6 | hh6
          · rw [if_pos hh6]
            refine Or.inl ⟨rfl, ?_⟩
            unfold enF
            rw [hT, hU, hF, hS, if_neg (by omega), if_neg (by omega), if_neg (by omega), if_pos (by omega)]
          · rw [if_neg (by omega)]
            exact Or.inr (Or.inr ⟨by omega, by omega, F' _ (by omega) (by omega) (by omega) (by omega) (by omega)⟩)
      · rw [F' _ (by omega) (by omega) (by omega) (by omega) (by omega), hwB_cong (g := g) (fun i i0 i1 => by rw [gs i i0 i1, if_neg (fun z => htT z.1)])]
        exact b1
    · by_cases htT : t = T
      · subst htT
        refine hw_upd (S := S) (w0 := if hm = 6 then 0 else 3) b2 (by omega) hh.2 (by omega) (fun i i0 i1 => ?_) ?_
        · rw [gs i i0 i1]
          by_cases hi : i = S - 1
          · rw [if_pos ⟨rfl, hi⟩, if_pos hi]
          · rw [if_neg (fun z => hi z.2), if_neg hi]
        · refine Or.inr (Or.inl ⟨by split <;> omega, ?_⟩)
          unfold enF
          rw [hT, hU, hF, hS, if_neg (by omega), if_neg (by omega), if_neg (by omega), if_neg (by omega), if_pos rfl]
      · rw [F' _ (by omega) (by omega) (by omega) (by omega) (by omega), hwB_cong (g := g) (fun i i0 i1 => by rw [gs i i0 i1, if_neg (fun z => htT z.1)])]
        exact b2
    · by_cases htT : t = T
      · subst htT
        refine hw_upd (S := S) (w0 := if hm = 6 then 0 else 3) b3 (by omega) hh.2 (by omega) (fun i i0 i1 => ?_) ?_
        · rw [gs i i0 i1]
          by_cases hi : i = S - 1
          · rw [if_pos ⟨rfl, hi⟩, if_pos hi]
          · rw [if_neg (fun z => hi z.2), if_neg hi]
        · rcases hhm with hh6 | hh6
          · rw [if_pos hh6]
            exact Or.inr (Or.inr ⟨by omega, by omega, F' _ (by omega) (by omega) (by omega) (by omega) (by omega)⟩)
          · rw [if_neg (by omega)]
            refine Or.inl ⟨rfl, ?_⟩
            unfold enF
            rw [hT, hU, hF, hS, if_neg (by omega), if_neg (by omega), if_neg (by omega), if_pos (by omega)]
      · rw [F' _ (by omega) (by omega) (by omega) (by omega) (by omega), hwB_cong (g := g) (fun i i0 i1 => by rw [gs i i0 i1, if_neg (fun z => htT z.1)])]
        exact b3
    · by_cases hc : F ≠ 0 ∧ t = U
      · have ef : enF f k hm (18 + t) = band (f (18 + t)) (bxor (1 * 2 ^ Int.toNat (F - 1)) (-1)) := by
          unfold enF
          rw [hU, hF, if_neg (by omega), if_neg (by omega), if_pos (by omega)]
        rw [ef]
        refine fs_uni hM' (band_r hsr.2.2.2) (fun m hm2 => ?_)
        rw [G1, FIx, tb_clr (by omega) hm2, Bool.and_eq_true, b4, fs_tb hM, h1.2.2, Bool.not_eq_true', decide_eq_false_iff_not]
        constructor
        · rintro ⟨z1, z2⟩
          exact ⟨z1, fun z => z2 (by omega)⟩
        · rintro ⟨z1, z2⟩
          exact ⟨z1, fun z => z2 (by omega)⟩
      · rw [F' _ (by omega) (by omega) (by omega) (by omega) (by omega)]
        refine fs_uni hM' hsr.2.2.2 (fun m hm2 => ?_)
        rw [G1, FIx, b4, fs_tb hM, h1.2.2]
        constructor
        · intro z1
          exact ⟨z1, fun z => by omega⟩
        · rintro ⟨z1, z2⟩
          exact z1
  · intro t t0 t1 t2
    rw [F' (6 + t) (by omega) (by omega) (by omega) (by omega) (by omega), F' (10 + t) (by omega) (by omega) (by omega) (by omega) (by omega), F' (14 + t) (by omega) (by omega) (by omega) (by omega) (by omega), F' (18 + t) (by omega) (by omega) (by omega) (by omega) (by omega)]
    exact h4 t t0 t1 t2
  · intro i i0 i1
    rw [F1] at i1
    by_cases hik : i = k
    · subst hik
      have q := fun c c0 c1 c2 => Fl i c i0 i1 c0 c1 (fun _ => c2)
      unfold LN
      rw [q 0 (by decide) (by decide) (by decide), q 1 (by decide) (by decide) (by decide), q 2 (by decide) (by decide) (by decide), q 3 (by decide) (by decide) (by decide), q 4 (by decide) (by decide) (by decide), q 5 (by decide) (by decide) (by decide), F6, F7, hT, hS, hU]
      refine ⟨fun c c0 c1 => ?_, a1, a2, a3, a4, a5, by omega, Or.inr ⟨rfl, rfl⟩⟩
      by_cases c7 : c = 7
      · subst c7
        rw [F7, G7]
      · by_cases c6 : c = 6
        · subst c6
          rw [F6, G6]
        · rw [Fl i c i0 i1 c0 c1 (fun _ => ⟨c6, c7⟩), Gl i c i0 i1 c0 c1 (fun _ => ⟨c6, c7⟩)]
          exact e c c0 c1
    · have q := fun c c0 c1 => Fl i c i0 i1 c0 c1 (fun z => absurd z hik)
      obtain ⟨b0, b1, b2, b3, b4, b5, b6, b7⟩ := h5 i i0 i1
      have hhi := hH _ b1.1 b1.2
      unfold LN
      rw [q 0 (by decide) (by decide), q 1 (by decide) (by decide), q 2 (by decide) (by decide), q 3 (by decide) (by decide), q 4 (by decide) (by decide), q 5 (by decide) (by decide), q 6 (by decide) (by decide), q 7 (by decide) (by decide)]
      refine ⟨fun c c0 c1 => ?_, b1, b2, b3, b4, b5, b6, ?_⟩
      · rw [q c c0 c1, Gl i c i0 i1 c0 c1 (fun z => absurd z hik)]
        exact b0 c c0 c1
      · rcases b7 with b7 | b7
        · refine Or.inl ⟨b7.1, b7.2.1, ?_⟩
          have := (un6 i i0 i1 hik b7.1).1
          rw [Gs _ b1.1 b1.2 _ (by omega) (by omega), if_neg (by omega)]
          exact b7.2.2
        · exact Or.inr b7
  · intro i j i0 ij j1
    rw [F1] at j1
    by_cases hik : i = k
    · subst hik
      rw [F7]
      intro z
      cases z
    · by_cases hjk : j = k
      · subst hjk
        rw [F7]
        intro _ z
        cases z
      · have q := fun c c0 c1 => Fl i c i0 (by omega) c0 c1 (fun z => absurd z hik)
        have s := fun c c0 c1 => Fl j c (by omega) j1 c0 c1 (fun z => absurd z hjk)
        rw [q 0 (by decide) (by decide), q 1 (by decide) (by decide), q 2 (by decide) (by decide), q 6 (by decide) (by decide), q 7 (by decide) (by decide), s 0 (by decide) (by decide), s 1 (by decide) (by decide), s 2 (by decide) (by decide), s 6 (by decide) (by decide), s 7 (by decide) (by decide)]
        exact h6 i j i0 ij j1
