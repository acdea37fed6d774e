/-! ===== the rows of a realm that begins ===== -/
theorem tb_ones {n k : Nat} (h : n < 32) : tb (1 * 2 ^ n - 1) k = decide (k < n) := by
  have h1 : (2 : Nat) ^ n < 4294967296 := Nat.lt_of_lt_of_le (Nat.pow_lt_pow_right (by decide : 1 < 2) h) (by decide : 2 ^ 32 ≤ 4294967296)
  have h0 : 1 ≤ (2 : Nat) ^ n := Nat.one_le_two_pow
  have e : ((1 : Int) * 2 ^ n) - 1 = ((2 ^ n - 1 : Nat) : Int) := by
    have e1 : ((1 : Int) * 2 ^ n) = ((2 ^ n : Nat) : Int) := by rw [Int.one_mul]; push_cast; rfl
    rw [e1]
    omega
  unfold tb
  rw [e, un_nat (by omega), Nat.testBit_two_pow_sub_one]
def lf0 (ρ : SG) : Int → Int := fun j => if 6 ≤ j ∧ j < 6 + ρ 0 0 then band (1 * 2 ^ Int.toNat (ρ 2 (j - 6)) - 1) (bxor (ρ 4 (j - 6)) (-1)) else 0
def lg0 (ρ : SG) : Int → Int := fun j => if 6 ≤ j ∧ j < 6 + 14 * ρ 0 0 ∧ tb (ρ 4 ((j - 6) / 14)) ((j - 6) % 14).toNat = true then 1 else 0
theorem lg0_at {ρ : SG} {t i : Int} (h0 : 0 ≤ t) (h1 : t < ρ 0 0) (i0 : 0 ≤ i) (i1 : i < 14) : lg0 ρ (6 + 14 * t + i) = if tb (ρ 4 t) i.toNat = true then 1 else 0 := by
  unfold lg0
  rw [show (6 + 14 * t + i - 6) / 14 = t by omega, show (6 + 14 * t + i - 6) % 14 = i by omega]
  by_cases c : tb (ρ 4 t) i.toNat = true
  · rw [if_pos ⟨by omega, by omega, c⟩, if_pos c]
  · rw [if_neg (fun z => c z.2.2), if_neg c]
theorem RS_begin {ρ : SG} (hO : ROk ρ) {B D : Int} (hB : 0 ≤ B) (hD : 0 ≤ D) : RS (ρ 0 0) (ρ 2) B D (lf0 ρ) (lg0 ρ) := by
  obtain ⟨⟨a0, a1, a2, a3, a4⟩, hT, hG, hE, hLo, hDi, hN, hM⟩ := hO
  have f : ∀ j, (j < 6 ∨ 10 ≤ j) → lf0 ρ j = 0 := fun j hj => if_neg (by omega)
  have g : ∀ j, (j < 6 ∨ 62 ≤ j) → lg0 ρ j = 0 := fun j hj => if_neg (by omega)
  refine ⟨⟨by rw [f 0 (by omega)]; omega, by rw [f 0 (by omega)]; exact hD, by rw [f 0 (by omega), g 0 (by omega)]⟩, ⟨by rw [f 1 (by omega)]; omega, by rw [f 1 (by omega)]; decide, by rw [f 1 (by omega), g 1 (by omega)]⟩, fun t t0 t1 => ?_, fun t t0 t1 => ?_, fun t t0 t1 t2 => ?_, fun i i0 i1 => ?_, fun i j i0 ij j1 => ?_⟩
  · rw [f (2 + t) (by omega), g (2 + t) (by omega)]
    exact ⟨rfl, by omega, hB⟩
  · obtain ⟨b1, b2, b3, b4, b5, b6⟩ := hT t t0 t1
    have gv : ∀ i, 0 ≤ i → i < ρ 2 t → lg0 ρ (6 + 14 * t + i) = if tb (ρ 4 t) i.toNat = true then 1 else 0 := fun i i0 i1 => lg0_at t0 t1 i0 (by omega)
    have gk : ∀ k : Nat, (k : Int) < ρ 2 t → lg0 ρ (6 + 14 * t + k) = if tb (ρ 4 t) k = true then 1 else 0 := fun k hk => by
      have := gv k (by omega) hk
      rwa [show ((k : Int)).toNat = k by omega] at this
    have no : ∀ w, w ≠ 0 → w ≠ 1 → (0 : Int) = foI (hwB (lg0 ρ) t w) 0 (ρ 2 t) := by
      intro w w0 w1
      refine hw_uni (by omega) b1.2 (by decide) (fun k hk => ?_)
      rw [tb_zero]
      refine (decide_eq_false ?_).symm
      rintro ⟨z1, z2⟩
      rw [gk k z1] at z2
      split at z2 <;> omega
    refine ⟨fun i i0 i1 => ?_, ?_, ?_, ?_, ?_⟩
    · rw [gv i i0 i1]
      split <;> decide
    · have e : lf0 ρ (6 + t) = band (1 * 2 ^ Int.toNat (ρ 2 t) - 1) (bxor (ρ 4 t) (-1)) := by
        unfold lf0
        rw [if_pos (by omega), show 6 + t - 6 = t by omega]
      have hp : 0 ≤ (1 : Int) * 2 ^ Int.toNat (ρ 2 t) - 1 ∧ (1 : Int) * 2 ^ Int.toNat (ρ 2 t) - 1 < 16384 := by
        have : ∀ n : Nat, n ≤ 14 → 0 ≤ (1 : Int) * 2 ^ n - 1 ∧ (1 : Int) * 2 ^ n - 1 < 16384 := by decide
        exact this _ (by omega)
      rw [e]
      refine hw_uni (by omega) b1.2 (band_r hp) (fun k hk => ?_)
      rw [tb_band, tb_ones (by omega), tb_bxor, tb_m1 hk, Bool.xor_true]
      by_cases c : (k : Int) < ρ 2 t
      · rw [decide_eq_true (show k < (ρ 2 t).toNat by omega), Bool.true_and, gk k c]
        cases tb (ρ 4 t) k
        · exact (decide_eq_true ⟨c, rfl⟩).symm
        · exact (decide_eq_false (fun z => absurd z.2 (by decide))).symm
      · rw [decide_eq_false (show ¬ k < (ρ 2 t).toNat by omega), Bool.false_and]
        exact (decide_eq_false (fun z => c z.1)).symm
    · rw [f (10 + t) (by omega)]
      exact no 2 (by decide) (by decide)
    · rw [f (14 + t) (by omega)]
      exact no 3 (by decide) (by decide)
    · rw [f (18 + t) (by omega), g 1 (by omega)]
      rfl
  · rw [f (10 + t) (by omega), f (14 + t) (by omega), f (18 + t) (by omega)]
    exact ⟨if_neg (by omega), rfl, rfl, rfl⟩
  · rw [f 1 (by omega)] at i1
    omega
  · rw [f 1 (by omega)] at j1
    omega
/-- what loan i fills, in a row -/
def lfl (ρ : SG) (f : Int → Int) (i : Int) : Int := lowO (bor (f (6 + ρ 10 (i * 5 + 2))) (f (18 + ρ 10 (i * 5 + 2)))) (ρ 2 (ρ 10 (i * 5 + 2)))
def lstF (ρ : SG) (f : Int → Int) (i : Int) : Int → Int := stF f (ρ 10 (i * 5)) (ρ 10 (i * 5 + 1)) (ρ 10 (i * 5 + 2)) (ρ 10 (i * 5 + 3)) (ρ 10 (i * 5 + 4)) (lfl ρ f i)
def lstG (ρ : SG) (f g : Int → Int) (i : Int) : Int → Int := mstF g (ρ 10 (i * 5)) (ρ 10 (i * 5 + 1)) (ρ 10 (i * 5 + 2)) (ρ 10 (i * 5 + 3)) (ρ 10 (i * 5 + 4)) (lfl ρ f i)
def lFG (ρ : SG) : Nat → (Int → Int) × (Int → Int)
  | 0 => (lf0 ρ, lg0 ρ)
  | n + 1 => (lstF ρ (lFG ρ n).1 n, lstG ρ (lFG ρ n).1 (lFG ρ n).2 n)
theorem mstF_ne {g : Int → Int} {t s to dy rn fl j : Int} (b1 : j ≠ 1) (b2 : ¬ (62 + 8 * g 1 ≤ j ∧ j ≤ 62 + 8 * g 1 + 7)) (b3 : j ≠ 6 + 14 * t + s - 1) : mstF g t s to dy rn fl j = g j := by
  unfold mstF
  rw [if_neg b1, if_neg (by omega), if_neg (by omega), if_neg (by omega), if_neg (by omega), if_neg (by omega), if_neg (by omega), if_neg (by omega), if_neg (by omega), if_neg b3]
theorem stF_1 {f : Int → Int} {t s to dy rn fl : Int} : stF f t s to dy rn fl 1 = f 1 + 1 := if_pos rfl
theorem RS_told {ρ : SG} (hO : ROk ρ) {B D : Int} (hB : 0 ≤ B) (hD : 0 ≤ D) : ∀ n : Nat, (n : Int) ≤ ρ 0 3 → RS (ρ 0 0) (ρ 2) B D (lFG ρ n).1 (lFG ρ n).2 ∧ (lFG ρ n).1 1 = n ∧ (∀ t s, 0 ≤ t → t < ρ 0 0 → 1 ≤ s → s ≤ 14 → (∀ j, 0 ≤ j → j < (n : Int) → ¬ (ρ 10 (j * 5) = t ∧ ρ 10 (j * 5 + 1) = s)) → (lFG ρ n).2 (6 + 14 * t + s - 1) = lg0 ρ (6 + 14 * t + s - 1)) := by
  intro n
  have hO' := hO
  obtain ⟨⟨a0, a1, a2, a3, a4⟩, hT, hG, hE, hLo, hDi, hN, hM⟩ := hO'
  have hH : ∀ t, 0 ≤ t → t < ρ 0 0 → 3 ≤ ρ 2 t ∧ ρ 2 t ≤ 14 := fun t x y => (hT t x y).1
  induction n with
  | zero =>
    intro _
    exact ⟨RS_begin hO hB hD, (by show lf0 ρ 1 = 0; unfold lf0; rw [if_neg (by omega)]), fun t s _ _ _ _ _ => rfl⟩
  | succ n ih =>
    intro hn
    obtain ⟨h1, h2, h3⟩ := ih (by omega)
    obtain ⟨l1, l2, l3, l4, l5, l6, l7⟩ := hLo n (by omega) (by omega)
    have hh := hH _ l1.1 l1.2
    have ho := hH _ l3.1 l3.2
    have hg : (lFG ρ n).2 (6 + 14 * ρ 10 ((n : Int) * 5) + ρ 10 ((n : Int) * 5 + 1) - 1) = 0 := by
      rw [h3 _ _ l1.1 l1.2 l2.1 (by omega) (fun j j0 j1 => hDi j n j0 j1 (by omega)), show 6 + 14 * ρ 10 ((n : Int) * 5) + ρ 10 ((n : Int) * 5 + 1) - 1 = 6 + 14 * ρ 10 ((n : Int) * 5) + (ρ 10 ((n : Int) * 5 + 1) - 1) by omega, lg0_at l1.1 l1.2 (by omega) (by omega)]
      rw [((hT _ l1.1 l1.2).2.2.2.2.2 _ l7).2, if_neg (by decide)]
    have hlo := lowO_r (bor ((lFG ρ n).1 (6 + ρ 10 ((n : Int) * 5 + 2))) ((lFG ρ n).1 (18 + ρ 10 ((n : Int) * 5 + 2)))) (ht := ρ 2 (ρ 10 ((n : Int) * 5 + 2))) (by omega)
    have hf : 0 ≤ (lFG ρ n).1 1 ∧ (lFG ρ n).2 1 = (lFG ρ n).1 1 := ⟨h1.2.1.1, h1.2.1.2.2⟩
    have st := h1.starts a0.2 hH (t := ρ 10 ((n : Int) * 5)) (s := ρ 10 ((n : Int) * 5 + 1)) (to := ρ 10 ((n : Int) * 5 + 2)) (dy := ρ 10 ((n : Int) * 5 + 3)) (rn := ρ 10 ((n : Int) * 5 + 4)) (fl := lfl ρ (lFG ρ n).1 n) l1.1 l1.2 l2.1 l2.2 l3.1 l3.2 hg l5.1 l5.2 l6.1 l6.2 (by omega) hlo.1 hlo.2.1 (fun z => by
      have := hlo.2.2 z
      rw [tb_bor, Bool.or_eq_false_iff] at this
      exact this.2)
    refine ⟨st, ?_, fun t s t0 t1 s0 s1 hj => ?_⟩
    · show lstF ρ (lFG ρ n).1 n 1 = _
      unfold lstF
      rw [stF_1, h2]
      omega
    · show lstG ρ (lFG ρ n).1 (lFG ρ n).2 n _ = _
      unfold lstG
      have hne := hj n (by omega) (by omega)
      rw [mstF_ne (by omega) (by omega) (by omega)]
      exact h3 t s t0 t1 s0 s1 (fun j j0 j1 => hj j j0 (by omega))
