/-! ===== x without its lowest bit (by hand) ===== -/
theorem nat_low {n l : Nat} (hl : n.testBit l = true) (hm : ∀ j, j < l → n.testBit j = false) (k : Nat) : (n &&& (n - 1)).testBit k = (n.testBit k && decide (k ≠ l)) := by
  have hz : n % 2 ^ l = 0 := by
    apply Nat.eq_of_testBit_eq
    intro j
    rw [Nat.testBit_mod_two_pow, Nat.zero_testBit]
    by_cases c : j < l
    · rw [hm j c, Bool.and_false]
    · rw [decide_eq_false c, Bool.false_and]
  have hd := Nat.div_add_mod n (2 ^ l)
  rw [hz, Nat.add_zero] at hd
  rw [Nat.testBit_eq_decide_div_mod_eq, decide_eq_true_eq] at hl
  have hp := Nat.two_pow_pos l
  have hm2 : n / 2 ^ l = 2 * (n / 2 ^ l / 2) + 1 := by omega
  generalize n / 2 ^ l / 2 = m at hm2
  have e1 : n = 2 ^ l * (2 * m + 1) := by
    rw [← hm2]
    exact hd.symm
  have e2 : n - 1 = 2 ^ l * (2 * m) + (2 ^ l - 1) := by
    rw [e1, Nat.mul_add, Nat.mul_one]
    exact Nat.add_sub_assoc hp _
  rw [Nat.testBit_and, e2, Nat.testBit_two_pow_mul_add _ (Nat.sub_lt hp Nat.one_pos)]
  by_cases c : k < l
  · rw [hm k c, Bool.false_and, Bool.false_and]
  · rw [if_neg c]
    have e3 : n.testBit k = (2 * m + 1).testBit (k - l) := by
      rw [e1, Nat.testBit_two_pow_mul, decide_eq_true (show k ≥ l by omega), Bool.true_and]
    rw [e3]
    by_cases c2 : k = l
    · have e4 : (2 * m).testBit 0 = false := by
        rw [Nat.testBit_eq_decide_div_mod_eq]
        exact decide_eq_false (by rw [Nat.pow_zero, Nat.div_one]; omega)
      rw [c2, Nat.sub_self, e4, Bool.and_false, decide_eq_false (show ¬ l ≠ l from fun z => z rfl), Bool.and_false]
    · obtain ⟨j, hj⟩ : ∃ j, k - l = j + 1 := ⟨k - l - 1, by omega⟩
      have ea : (2 * m + 1).testBit (j + 1) = m.testBit j := by rw [Nat.testBit_succ, show (2 * m + 1) / 2 = m by omega]
      have eb : (2 * m).testBit (j + 1) = m.testBit j := by rw [Nat.testBit_succ, show (2 * m) / 2 = m by omega]
      rw [hj, ea, eb, decide_eq_true (show k ≠ l from c2), Bool.and_self, Bool.and_true]
