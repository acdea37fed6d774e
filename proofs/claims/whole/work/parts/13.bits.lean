/-! ===== bits of numbers ===== -/
def tb (x : Int) (k : Nat) : Bool := (un x).testBit k
theorem band_nn (x y : Int) : 0 ≤ band x y := by unfold band; omega
theorem band_le_l {x y : Int} (h0 : 0 ≤ x) (h1 : x < 4294967296) : band x y ≤ x := by
  unfold band
  have : un x &&& un y ≤ un x := Nat.and_le_left
  rw [un_of h0 h1] at this
  rw [un_of h0 h1]
  omega
theorem band_le_r {x y : Int} (h0 : 0 ≤ y) (h1 : y < 4294967296) : band x y ≤ y := by
  unfold band
  have : un x &&& un y ≤ un y := Nat.and_le_right
  rw [un_of h0 h1] at this
  rw [un_of h0 h1]
  omega
theorem un_nat {n : Nat} (h : n < 4294967296) : un (n : Int) = n := by rw [un_of (by omega) (by omega)]; omega
theorem un_pow {k : Nat} (h : k < 32) : un (1 * 2 ^ k) = 2 ^ k := by
  have h1 : (2 : Nat) ^ k < 4294967296 := Nat.lt_of_lt_of_le (Nat.pow_lt_pow_right (by decide : 1 < 2) h) (by decide : 2 ^ 32 ≤ 4294967296)
  have e : ((1 : Int) * 2 ^ k) = ((2 ^ k : Nat) : Int) := by rw [Int.one_mul]; push_cast; rfl
  rw [e, un_nat h1]
theorem tb_band (x y : Int) (k : Nat) : tb (band x y) k = (tb x k && tb y k) := by
  unfold tb band
  rw [un_nat (Nat.lt_of_le_of_lt Nat.and_le_left (un_lt x)), Nat.testBit_and]
theorem tb_bor (x y : Int) (k : Nat) : tb (bor x y) k = (tb x k || tb y k) := by
  unfold tb bor
  rw [un_nat (Nat.or_lt_two_pow (n := 32) (un_lt x) (un_lt y)), Nat.testBit_or]
theorem tb_bxor (x y : Int) (k : Nat) : tb (bxor x y) k = (tb x k ^^ tb y k) := by
  unfold tb bxor
  rw [un_nat (Nat.xor_lt_two_pow (n := 32) (un_lt x) (un_lt y)), Nat.testBit_xor]
theorem tb_pow {k j : Nat} (h : k < 32) : tb (1 * 2 ^ k) j = decide (k = j) := by
  unfold tb
  rw [un_pow h, Nat.testBit_two_pow]
theorem tb_big {x : Int} {k : Nat} (h : 32 ≤ k) : tb x k = false := by
  unfold tb
  exact Nat.testBit_lt_two_pow (Nat.lt_of_lt_of_le (un_lt x) (Nat.pow_le_pow_right (n := 2) (by decide) h))
theorem tb_zero (k : Nat) : tb 0 k = false := by
  unfold tb
  rw [show un 0 = 0 from rfl, Nat.zero_testBit]
theorem tb_m1 {k : Nat} (h : k < 32) : tb (-1) k = true := by
  unfold tb
  rw [show un (-1) = 2 ^ 32 - 1 from rfl, Nat.testBit_two_pow_sub_one]
  simpa using h
theorem tb_ext {x y : Int} (h : ∀ k, k < 32 → tb x k = tb y k) : un x = un y := by
  apply Nat.eq_of_testBit_eq
  intro k
  by_cases hk : k < 32
  · exact h k hk
  · have h1 := tb_big (x := x) (k := k) (by omega)
    have h2 := tb_big (x := y) (k := k) (by omega)
    unfold tb at h1 h2
    rw [h1, h2]
theorem tb_eq {x y : Int} (hx : 0 ≤ x) (hx2 : x < 4294967296) (hy : 0 ≤ y) (hy2 : y < 4294967296) (h : ∀ k, k < 32 → tb x k = tb y k) : x = y := by
  have := tb_ext h
  rw [un_of hx hx2, un_of hy hy2] at this
  omega
theorem band_pow0 {x : Int} {k : Nat} (h : k < 32) : band x (1 * 2 ^ k) = 0 ↔ tb x k = false := by
  constructor
  · intro e
    have h1 := tb_band x (1 * 2 ^ k) k
    rw [e, tb_zero, tb_pow h] at h1
    simpa using h1.symm
  · intro e
    have hn := band_nn x (1 * 2 ^ k)
    refine tb_eq hn ?_ (by decide) (by decide) ?_
    · unfold band
      have := Nat.lt_of_le_of_lt (Nat.and_le_left (n := un x) (m := un (1 * 2 ^ k))) (un_lt x)
      omega
    · intro j _
      rw [tb_band, tb_pow h, tb_zero]
      by_cases hj : k = j
      · subst hj
        rw [e]
        rfl
      · simp [hj]
theorem band_r3 {x y : Int} (h0 : 0 ≤ x) (h1 : x ≤ 2147483647) : r3 (band x y) := ⟨by have := band_nn x y; omega, by have := band_le_l (y := y) h0 (show x < 4294967296 by omega); omega⟩
/-- a local that is read no more may be forgotten -/
theorem AW.drop {d M pc : Nat} {ls : LV} {st : List AV} {σ : SG} {Q : Option AV → SG → Prop} (i : Nat) (h : AW d M pc (ls.set i none) st σ Q) : AW d M pc ls st σ Q := by
  intro l G t p e s m args below meth c H locs la a1 a2 a3 a4 a5 a6
  refine h l G t p e s m args below meth c H locs la a1 (by rw [List.length_set]; exact a2) a3 a4 a5 (lv_mono a6 (fun q hq => ?_))
  obtain ⟨v, h1, h2⟩ := las_mem.mp hq
  refine las_mem.mpr ⟨v, ?_, h2⟩
  by_cases hi : i = q.1
  · by_cases hl : i < ls.length
    · rw [← hi, List.getElem?_set_self hl] at h1
      cases h1
    · rw [List.getElem?_eq_none (by rw [List.length_set]; omega)] at h1
      cases h1
  · rwa [List.getElem?_set_ne hi] at h1
