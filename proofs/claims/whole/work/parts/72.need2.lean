/-! ===== the fewest steps to be filled: all sets gone through ===== -/
theorem popc_16 {x : Int} (h : 0 ≤ x ∧ x < 16384) : 0 ≤ popc x ∧ popc x ≤ 32 := ⟨popc_nn x, popc_le x⟩
theorem wt_lt {x y : Int} (hx : 0 ≤ x ∧ x < 16384) (hy : 0 ≤ y ∧ y < 16384) : (popc x < popc y → wt x < wt y) ∧ (popc x ≤ popc y → x < y → wt x ≤ wt y) ∧ (wt x = wt y → x = y) := by
  unfold wt
  refine ⟨fun h => by omega, fun h1 h2 => by omega, fun h => by omega⟩
theorem neB_min {σ : SG} {t st b0 : Int} : ∀ n : Nat, n ≤ 16384 → ((foI (neB σ t st) (b0, 0) (n : Int)).2 = 0 ∧ ∀ s, 0 ≤ s → s < (n : Int) → ¬ (band s st = 0 ∧ mhV σ t (bor st s) ≠ 0)) ∨ ((foI (neB σ t st) (b0, 0) (n : Int)).2 = 1 ∧ (0 ≤ (foI (neB σ t st) (b0, 0) (n : Int)).1 ∧ (foI (neB σ t st) (b0, 0) (n : Int)).1 < (n : Int)) ∧ (band (foI (neB σ t st) (b0, 0) (n : Int)).1 st = 0 ∧ mhV σ t (bor st (foI (neB σ t st) (b0, 0) (n : Int)).1) ≠ 0) ∧ ∀ s, 0 ≤ s → s < (n : Int) → band s st = 0 ∧ mhV σ t (bor st s) ≠ 0 → wt (foI (neB σ t st) (b0, 0) (n : Int)).1 ≤ wt s) := by
  intro n
  induction n with
  | zero => intro _; exact Or.inl ⟨rfl, fun s a b => by omega⟩
  | succ n ih =>
    intro hn
    have ih := ih (by omega)
    rw [show ((n + 1 : Nat) : Int) = (n : Int) + 1 by omega, foI_s _ _ (by omega)]
    generalize foI (neB σ t st) (b0, 0) (n : Int) = q at *
    obtain ⟨b, f⟩ := q
    dsimp only at ih
    unfold neB
    dsimp only
    by_cases hv : band (n : Int) st = 0 ∧ mhV σ t (bor st n) ≠ 0
    · by_cases hc : f = 0 ∨ popc (n : Int) < popc b
      · rw [if_pos ⟨hv.1, hc, hv.2⟩]
        refine Or.inr ⟨rfl, ⟨by dsimp only; omega, by dsimp only; omega⟩, hv, fun s s0 s1 hs => ?_⟩
        dsimp only
        by_cases hsn : s = n
        · rw [hsn]
          exact Int.le_refl _
        · rcases ih with ⟨i1, i2⟩ | ⟨i1, i2, i3, i4⟩
          · exact absurd hs (i2 s s0 (by omega))
          · have w1 := i4 s s0 (by omega) hs
            have w2 := (wt_lt (x := (n : Int)) (y := b) (by omega) (by omega)).1 (by omega)
            omega
      · rw [if_neg (fun z => hc z.2.1)]
        rcases ih with ⟨i1, i2⟩ | ⟨i1, i2, i3, i4⟩
        · exact absurd (Or.inl i1) hc
        · refine Or.inr ⟨i1, by dsimp only; omega, i3, fun s s0 s1 hs => ?_⟩
          dsimp only
          by_cases hsn : s = n
          · rw [hsn]
            exact (wt_lt (x := b) (y := (n : Int)) (by omega) (by omega)).2.1 (by omega) (by omega)
          · exact i4 s s0 (by omega) hs
    · rw [if_neg (fun z => hv ⟨z.1, z.2.2⟩)]
      rcases ih with ⟨i1, i2⟩ | ⟨i1, i2, i3, i4⟩
      · refine Or.inl ⟨i1, fun s s0 s1 => ?_⟩
        by_cases hsn : s = n
        · rw [hsn]
          exact hv
        · exact i2 s s0 (by omega)
      · refine Or.inr ⟨i1, by dsimp only; omega, i3, fun s s0 s1 hs => ?_⟩
        by_cases hsn : s = n
        · subst hsn
          exact absurd hs hv
        · exact i4 s s0 (by omega) hs
theorem need_some {sd ht lg : Int} (hh : 1 ≤ ht ∧ ht ≤ 14) (hl : 1 ≤ lg) : ∀ n : Nat, (n : Int) ≤ ht → dpV (npP sd) lg ht n ≠ -1 := by
  have hP : ∀ s, 1 ≤ s → s ≤ ht → -1 ≤ npP sd s := fun s _ _ => by have := npP_nn sd s; omega
  intro n
  induction n with
  | zero =>
    intro _
    rw [show ((0 : Nat) : Int) = 0 from rfl, dp_0 (by omega)]
    decide
  | succ n ih =>
    intro hn
    have := npP_nn sd ((n + 1 : Nat) : Int)
    exact ((dp_char (P := npP sd) (lg := lg) (ht := ht) (s := ((n + 1 : Nat) : Int)) (by omega) hP (by omega) hn).2.1 (by omega) n (by omega) (by omega) (by omega) (ih (by omega))).1
theorem band_dis {x y : Int} (hx : 0 ≤ x ∧ x < 16384) (h : ∀ k, tb x k = true → tb y k = false) : band x y = 0 := by
  refine tb_eq (band_nn x y) (by have := band_r (y := y) hx; omega) (by decide) (by decide) (fun k _ => ?_)
  rw [tb_band, tb_zero]
  cases hk : tb x k
  · rfl
  · rw [h k hk]
    rfl
theorem lo2_eq {x s : Int} (h0 : 0 ≤ x) (h1 : x < 2 ^ s.toNat) : lo2 x s = x := Int.emod_eq_of_lt h0 h1
/-- the reference's needSet: what the class finds by the least sum -/
theorem need_eq {σ : SG} (hG : MGR σ) {t sd ht lg b0 : Int} (hht : σ 63 (8 + 2 * t) = ht) (hh : 3 ≤ ht ∧ ht ≤ 14) (hlg : foI (mlgB (σ 64) t) (-1) (σ 61 5) = lg) (hl : 1 ≤ lg) : (foI (neB σ t sd) (b0, 0) (1 * 2 ^ Int.toNat ht - 1 + 1)).1 = band (dpV (npP sd) lg ht ht) 16777215 := by
  have hmh : ∀ x, mhV σ t x ≠ 0 ↔ climbV x ht lg 0 = ht := by
    intro x
    rw [mhV_hld hG (by omega), hht, hlg]
    unfold hldV
    constructor
    · intro z
      by_cases c : lg = -1 ∨ climbV x ht lg 0 = ht
      · rcases c with c | c
        · omega
        · exact c
      · rw [if_neg c] at z
        exact absurd rfl z
    · intro z
      rw [if_pos (Or.inr z)]
      decide
  have hp := pow2_r (s := ht) (by omega) (by omega)
  have hD := need_some (sd := sd) (ht := ht) (lg := lg) (by omega) hl ht.toNat (by omega)
  rw [show ((ht.toNat : Nat) : Int) = ht by omega] at hD
  obtain ⟨x, x0, x1, x2, x3, x4⟩ := need_B (sd := sd) (ht := ht) (lg := lg) (by omega) (by omega) ht.toNat ht (by omega) (by omega) (Int.le_refl _) hD
  have hxr : 0 ≤ x ∧ x < 16384 := by omega
  have hxv : band x sd = 0 ∧ mhV σ t (bor sd x) ≠ 0 := ⟨band_dis hxr x2, (hmh _).mpr (x4.climb (by omega))⟩
  have hm := neB_min (σ := σ) (t := t) (st := sd) (b0 := b0) (2 ^ ht.toNat) (by
    have : ((2 ^ ht.toNat : Nat) : Int) = (2 : Int) ^ ht.toNat := by push_cast; rfl
    omega)
  have en : ((2 ^ ht.toNat : Nat) : Int) = 1 * 2 ^ Int.toNat ht - 1 + 1 := by push_cast; omega
  rw [en] at hm
  generalize foI (neB σ t sd) (b0, 0) (1 * 2 ^ Int.toNat ht - 1 + 1) = q at *
  rcases hm with ⟨m1, m2⟩ | ⟨m1, m2, m3, m4⟩
  · exact absurd hxv (m2 x x0 (by omega))
  · have w1 := m4 x x0 (by omega) hxv
    have hqr : 0 ≤ q.1 ∧ q.1 < 16384 := by omega
    have w2 := (need_A (sd := sd) (ht := ht) (lg := lg) (x := q.1) (by omega) (by omega) hqr ((hmh _).mp m3.2)).2
    rw [lo2_eq m2.1 (by omega), x3] at w2
    have e := (wt_lt hqr hxr).2.2 (by omega)
    rw [e, x3]
    have hb : band (wt x) 16777215 = wt x % 16777216 := by
      unfold band
      rw [show un 16777215 = 2 ^ 24 - 1 from rfl, Nat.and_two_pow_sub_one_eq_mod]
      unfold un
      omega
    rw [hb]
    unfold wt
    omega
