/-! ===== x without its lowest bit, its k-th bits (by hand) ===== -/
theorem lowB_mono (x : Int) {i : Int} (h : 0 ≤ i) (m : Nat) : lowB x i ≤ lowB x (i + m) := by
  induction m with
  | zero =>
    rw [show i + ((0 : Nat) : Int) = i by omega]
    exact Int.le_refl _
  | succ m ih =>
    rw [show i + ((m + 1 : Nat) : Int) = i + m + 1 by omega, lowB_s x (by omega)]
    split <;> omega
theorem low_z {x l : Int} (h : lowB x l = 0) (j : Nat) (hj : (j : Int) < l) : tb x j = false := by
  cases hb : tb x j
  · rfl
  · exfalso
    have s := lowB_s x (i := (j : Int)) (by omega)
    rw [show ((j : Int)).toNat = j by omega, hb, if_pos rfl] at s
    have r := lowB_r x (i := (j : Int)) (by omega)
    have m := lowB_mono x (i := (j : Int) + 1) (by omega) (l - j - 1).toNat
    rw [show (j : Int) + 1 + ((l - j - 1).toNat : Int) = l by omega] at m
    omega
def dlB (x : Int) : Int := band x (x - 1)
theorem dlB_tb {x l : Int} (hx : 0 ≤ x ∧ x < 16384) (hb : tb x l.toNat = true) (hl : lowB x l = 0) (l0 : 0 ≤ l) (k : Nat) : tb (dlB x) k = (tb x k && decide (k ≠ l.toNat)) := by
  have hz : x ≠ 0 := by
    intro z
    rw [z] at hb
    have : tb 0 l.toNat = false := by
      unfold tb
      rw [show un 0 = 0 from rfl]
      exact Nat.zero_testBit _
    rw [this] at hb
    cases hb
  have eu : un (x - 1) = un x - 1 := by
    rw [un_of (by omega) (by omega), un_of (by omega) (by omega)]
    omega
  unfold dlB
  rw [tb_band]
  show ((un x).testBit k && (un (x - 1)).testBit k) = ((un x).testBit k && decide (k ≠ l.toNat))
  rw [eu, ← Nat.testBit_and]
  exact nat_low hb (fun j hj => low_z hl j (by omega)) k
theorem dlB_low {x l : Int} (hx : 0 ≤ x ∧ x < 16384) (hb : tb x l.toNat = true) (hl : lowB x l = 0) (l0 : 0 ≤ l) (n : Nat) : lowB (dlB x) n = lowB x n - (if l < n then 1 else 0) := by
  induction n with
  | zero =>
    rw [if_neg (show ¬ l < ((0 : Nat) : Int) by omega)]
    rfl
  | succ n ih =>
    have ht := dlB_tb hx hb hl l0 n
    rw [show ((n + 1 : Nat) : Int) = (n : Int) + 1 by omega, lowB_s _ (by omega), lowB_s _ (by omega), show ((n : Int)).toNat = n by omega, ht, ih]
    by_cases c : n = l.toNat
    · rw [decide_eq_false (show ¬ n ≠ l.toNat from fun z => z c), Bool.and_false, c, hb, if_neg (by decide), if_pos rfl, if_neg (show ¬ l < (l.toNat : Int) by omega), if_pos (show l < (l.toNat : Int) + 1 by omega)]
      omega
    · rw [decide_eq_true (show n ≠ l.toNat from c), Bool.and_true]
      by_cases c2 : l < (n : Int)
      · rw [if_pos c2, if_pos (show l < (n : Int) + 1 by omega)]
        split <;> omega
      · rw [if_neg c2, if_neg (show ¬ l < (n : Int) + 1 by omega)]
        split <;> omega
theorem dlB_kth {x l k : Int} (hx : 0 ≤ x ∧ x < 16384) (hb : tb x l.toNat = true) (hl : lowB x l = 0) (l0 : 0 ≤ l) (k0 : 0 ≤ k) (n : Nat) : kthB (dlB x) k n = kthB x (k + 1) n := by
  unfold kthB
  rw [dlB_low hx hb hl l0 n, show ((n : Int)).toNat = n by omega, dlB_tb hx hb hl l0 n]
  by_cases c : n = l.toNat
  · rw [decide_eq_false (show ¬ n ≠ l.toNat from fun z => z c), Bool.and_false, Bool.false_and, c, show ((l.toNat : Nat) : Int) = l by omega, hl, decide_eq_false (show ¬ (0 : Int) = k + 1 by omega), Bool.and_false]
  · rw [decide_eq_true (show n ≠ l.toNat from c), Bool.and_true]
    by_cases c2 : l < (n : Int)
    · rw [if_pos c2]
      congr 1
      exact decide_eq_decide.mpr ⟨fun z => by omega, fun z => by omega⟩
    · rw [low_z hl n (by omega), Bool.false_and, Bool.false_and]
