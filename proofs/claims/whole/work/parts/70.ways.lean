/-! ===== ways up and sets of steps ===== -/
theorem pc_top : ∀ (f k y : Nat), k < f → y < 2 ^ k → pcN f (y + 2 ^ k) = pcN f y + 1
  | 0, k, y, h, _ => by omega
  | f + 1, 0, y, h, hy => by
    have : y = 0 := by simpa using hy
    subst this
    simp only [pcN]
    show (0 + 2 ^ 0) % 2 + pcN f ((0 + 2 ^ 0) / 2) = 0 % 2 + pcN f (0 / 2) + 1
    rw [show (0 + 2 ^ 0) % 2 = 1 from rfl, show (0 + 2 ^ 0) / 2 = 0 from rfl, show 0 % 2 = 0 from rfl]
    omega
  | f + 1, k + 1, y, h, hy => by
    have e1 : (y + 2 ^ (k + 1)) % 2 = y % 2 := by rw [Nat.pow_succ]; omega
    have e2 : (y + 2 ^ (k + 1)) / 2 = y / 2 + 2 ^ k := by rw [Nat.pow_succ]; omega
    have ih := pc_top f k (y / 2) (by omega) (by rw [Nat.pow_succ] at hy; omega)
    simp only [pcN]
    rw [e1, e2, ih]
    omega
theorem popc_top {x : Int} {k : Nat} (hk : k < 14) (h0 : 0 ≤ x) (h1 : x < 2 ^ k) : popc (x + 2 ^ k) = popc x + 1 := by
  have hp : (2 : Int) ^ k ≤ 8192 := by
    rcases (by omega : k = 0 ∨ k = 1 ∨ k = 2 ∨ k = 3 ∨ k = 4 ∨ k = 5 ∨ k = 6 ∨ k = 7 ∨ k = 8 ∨ k = 9 ∨ k = 10 ∨ k = 11 ∨ k = 12 ∨ k = 13) with z | z | z | z | z | z | z | z | z | z | z | z | z | z <;> rw [z] <;> decide
  unfold popc
  rw [un_of h0 (by omega), un_of (by omega) (by omega)]
  have e : (x + 2 ^ k).toNat = x.toNat + 2 ^ k := by
    have : ((2 ^ k : Nat) : Int) = (2 : Int) ^ k := by push_cast; rfl
    omega
  have hy : x.toNat < 2 ^ k := by
    have : ((2 ^ k : Nat) : Int) = (2 : Int) ^ k := by push_cast; rfl
    omega
  rw [e, pc_top 32 k x.toNat (by omega) hy]
  omega
/-- what a set of steps up to one weighs: how many, then which -/
def wt (x : Int) : Int := popc x * 16777216 + x
def lo2 (x : Int) (s : Int) : Int := x % 2 ^ s.toNat
theorem pow2_r {s : Int} (h0 : 0 ≤ s) (h1 : s ≤ 14) : 1 ≤ (2 : Int) ^ s.toNat ∧ (2 : Int) ^ s.toNat ≤ 16384 := by
  have := pow_r2 h0 h1
  rwa [Int.one_mul] at this
theorem lo2_r (x : Int) {s : Int} (h0 : 0 ≤ s) (h1 : s ≤ 14) : 0 ≤ lo2 x s ∧ lo2 x s < 2 ^ s.toNat := by
  have := pow2_r h0 h1
  unfold lo2
  exact ⟨Int.emod_nonneg _ (by omega), Int.emod_lt_of_pos _ (by omega)⟩
theorem lo2_s {x : Int} (hx : 0 ≤ x ∧ x < 16384) {s : Int} (h0 : 0 ≤ s) (h1 : s < 14) : lo2 x (s + 1) = lo2 x s + (if tb x s.toNat = true then 2 ^ s.toNat else 0) := by
  have hp := pow2_r h0 (by omega : s ≤ 14)
  have e := sh1 (x := x) (k := s.toNat) hx.1 (by omega)
  have eb : band (x / 2 ^ s.toNat) 1 = (x / 2 ^ s.toNat) % 2 := by
    unfold band
    rw [show un 1 = 2 ^ 1 - 1 from rfl, Nat.and_two_pow_sub_one_eq_mod]
    unfold un
    omega
  unfold lo2
  rw [show (s + 1).toNat = s.toNat + 1 by omega, Int.pow_succ]
  rw [eb] at e
  generalize hq : (2 : Int) ^ s.toNat = p at *
  have d1 : p * (x / p) + x % p = x := Int.mul_ediv_add_emod x p
  have r1 : 0 ≤ x % p ∧ x % p < p := ⟨Int.emod_nonneg _ (by omega), Int.emod_lt_of_pos _ (by omega)⟩
  have d2 : 2 * (x / p / 2) + x / p % 2 = x / p := by omega
  have hx2 : x = p * 2 * (x / p / 2) + (x % p + p * (x / p % 2)) := by
    have : p * (x / p) = p * (2 * (x / p / 2) + x / p % 2) := by rw [d2]
    rw [Int.mul_add, ← Int.mul_assoc] at this
    omega
  have hb : x / p % 2 = 0 ∨ x / p % 2 = 1 := by omega
  have res : x % (p * 2) = x % p + p * (x / p % 2) := by
    have hb2 : 0 ≤ x % p + p * (x / p % 2) ∧ x % p + p * (x / p % 2) < p * 2 := by
      rcases hb with hb | hb <;> rw [hb] <;> omega
    have aux : ∀ c y : Int, 0 ≤ y → y < p * 2 → (p * 2 * c + y) % (p * 2) = y := fun c y a b => by
      rw [Int.add_comm, Int.add_mul_emod_self_left]
      exact Int.emod_eq_of_lt a b
    exact (congrArg (fun z => z % (p * 2)) hx2).trans (aux _ _ hb2.1 hb2.2)
  rw [res]
  by_cases c : tb x s.toNat = true
  · rw [if_pos c] at e ⊢
    rw [e]
    omega
  · rw [if_neg c] at e ⊢
    rw [e]
    omega
theorem wt_s {x : Int} (hx : 0 ≤ x ∧ x < 16384) {s : Int} (h0 : 0 ≤ s) (h1 : s < 14) : wt (lo2 x (s + 1)) = wt (lo2 x s) + (if tb x s.toNat = true then 16777216 + 2 ^ s.toNat else 0) := by
  have hr := lo2_r x h0 (by omega : s ≤ 14)
  rw [lo2_s hx h0 h1]
  unfold wt
  by_cases c : tb x s.toNat = true
  · rw [if_pos c, if_pos c, popc_top (by omega) hr.1 hr.2]
    omega
  · rw [if_neg c, if_neg c, Int.add_zero, Int.add_zero]
theorem lo2_14 {x : Int} (hx : 0 ≤ x ∧ x < 16384) : lo2 x 14 = x := by
  unfold lo2
  rw [show (2 : Int) ^ (14 : Int).toNat = 16384 from rfl]
  omega
theorem lo2_0 (x : Int) : lo2 x 0 = 0 := by
  unfold lo2
  rw [show (2 : Int) ^ (0 : Int).toNat = 1 from rfl]
  omega
theorem wt_mono {x : Int} (hx : 0 ≤ x ∧ x < 16384) {j : Int} (j0 : 0 ≤ j) : ∀ m : Nat, j + m ≤ 14 → wt (lo2 x j) ≤ wt (lo2 x (j + m)) := by
  intro m
  induction m with
  | zero => intro _; rw [show j + ((0 : Nat) : Int) = j by omega]; exact Int.le_refl _
  | succ m ih =>
    intro hm
    have ih := ih (by omega)
    have hp := pow2_r (s := j + m) (by omega) (by omega)
    rw [show j + ((m + 1 : Nat) : Int) = j + m + 1 by omega, wt_s hx (by omega) (by omega)]
    split <;> omega
/-- every place below s is crossed by a hop -/
def RC (S : Int → Bool) (lg s : Int) : Prop := ∀ a, 0 ≤ a → a < s → ∃ j u, 0 ≤ j ∧ j ≤ a ∧ a < u ∧ u ≤ s ∧ u - j ≤ lg ∧ S u = true
theorem RC.step {S : Int → Bool} {lg f s : Int} (h : RC S lg f) (f0 : 0 ≤ f) (h1 : f < s) (h2 : s - f ≤ lg) (h3 : S s = true) : RC S lg s := by
  intro a a0 a1
  by_cases c : a < f
  · obtain ⟨j, u, b1, b2, b3, b4, b5, b6⟩ := h a a0 c
    exact ⟨j, u, b1, b2, b3, by omega, b5, b6⟩
  · exact ⟨f, s, f0, by omega, a1, Int.le_refl _, h2, h3⟩
theorem RC.mono {S S' : Int → Bool} {lg s : Int} (h : RC S lg s) (hs : ∀ u, 1 ≤ u → u ≤ s → S u = true → S' u = true) : RC S' lg s := by
  intro a a0 a1
  obtain ⟨j, u, b1, b2, b3, b4, b5, b6⟩ := h a a0 a1
  exact ⟨j, u, b1, b2, b3, b4, b5, hs u (by omega) b4 b6⟩
theorem RC.climb {sd ht lg : Int} (hh : 0 ≤ ht) (h : RC (sdS sd) lg ht) : climbV sd ht lg 0 = ht := by
  have f := climb_facts (S := sdS sd) (lg := lg) (fr := 0) (ht := ht) (a := climbV sd ht lg 0) hh rfl
  generalize climbV sd ht lg 0 = a at *
  by_cases c : a < ht
  · obtain ⟨j, u, b1, b2, b3, b4, b5, b6⟩ := h a f.1 c
    have := f.2.2.2.2 u b3 b4 b6
    omega
  · have := f.2.1
    omega
