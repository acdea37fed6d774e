/-! ===== loops ===== -/
/-- a place's contents replaced as a whole -/
def putF (σ : SG) (p : Nat) (f : Int → Int) : SG := fun q i => if q = p then f i else σ q i
theorem putF_at (σ : SG) (p : Nat) (f : Int → Int) : putF σ p f p = f := by funext i; simp [putF]
theorem putF_ne {σ : SG} {p q : Nat} {f : Int → Int} (h : q ≠ p) : putF σ p f q = σ q := by funext i; simp [putF, h]
theorem putF_putF (σ : SG) (p : Nat) (f g : Int → Int) : putF (putF σ p f) p g = putF σ p g := by
  funext q i
  simp only [putF]
  split <;> rfl
theorem putF_up (σ : SG) (p : Nat) (f : Int → Int) (i v : Int) : up (putF σ p f) p i v = putF σ p (fun j => if j = i then v else f j) := by
  funext q j
  simp only [putF, up]
  by_cases h : q = p
  · subst h
    simp
  · simp [h]
theorem putF_self (σ : SG) (p : Nat) : putF σ p (σ p) = σ := by
  funext q j
  simp only [putF]
  split
  · rename_i h
    rw [h]
  · rfl
theorem up_putF (σ : SG) (p : Nat) (i v : Int) : up σ p i v = putF σ p (fun j => if j = i then v else σ p j) := by
  funext q j
  simp only [putF, up]
  by_cases h : q = p
  · subst h
    simp
  · simp [h]
theorem downInd {P : Int → Prop} {lo hi : Int} (h : lo ≤ hi) (hl : P hi) (hs : ∀ i, lo ≤ i → i < hi → P (i + 1) → P i) : P lo := by
  have key : ∀ (n : Nat) (i : Int), lo ≤ i → i ≤ hi → (hi - i).toNat = n → P i := by
    intro n
    induction n with
    | zero =>
      intro i h1 h2 h3
      obtain rfl : i = hi := by omega
      exact hl
    | succ n ih =>
      intro i h1 h2 h3
      exact hs i h1 (by omega) (ih (i + 1) (by omega) (by omega) (by omega))
  exact key (hi - lo).toNat lo (Int.le_refl _) h rfl
/-- the value of 'for i = 0 .. n - 1: a = f i a' -/
def fo {α : Type} (f : Int → α → α) (a : α) : Nat → α
  | 0 => a
  | n + 1 => f (n : Int) (fo f a n)
def foI {α : Type} (f : Int → α → α) (a : α) (i : Int) : α := fo f a i.toNat
theorem foI_0 {α : Type} (f : Int → α → α) (a : α) : foI f a 0 = a := rfl
theorem foI_s {α : Type} (f : Int → α → α) (a : α) {i : Int} (h : 0 ≤ i) : foI f a (i + 1) = f i (foI f a i) := by
  unfold foI
  rw [show (i + 1).toNat = i.toNat + 1 by omega]
  show f ((i.toNat : Nat) : Int) (fo f a i.toNat) = _
  rw [show ((i.toNat : Nat) : Int) = i by omega]
theorem foI_cong {α : Type} {f g : Int → α → α} {a : α} {n : Int} (h : ∀ i x, 0 ≤ i → i < n → f i x = g i x) : foI f a n = foI g a n := by
  have key : ∀ k : Nat, (k : Int) ≤ n → fo f a k = fo g a k := by
    intro k
    induction k with
    | zero => intro _; rfl
    | succ k ih =>
      intro hk
      show f (k : Int) (fo f a k) = g (k : Int) (fo g a k)
      rw [ih (by omega), h _ _ (by omega) (by omega)]
  unfold foI
  by_cases hn : 0 ≤ n
  · exact key n.toNat (by omega)
  · rw [show n.toNat = 0 by omega]
    rfl
/-- the first i below n of which p holds; -1 if none -/
def fst (p : Int → Bool) : Nat → Int
  | 0 => -1
  | n + 1 => if fst p n = -1 then (if p (n : Int) = true then (n : Int) else -1) else fst p n
def fstI (p : Int → Bool) (n : Int) : Int := fst p n.toNat
theorem fstI_s (p : Int → Bool) {i : Int} (h : 0 ≤ i) : fstI p (i + 1) = if fstI p i = -1 then (if p i = true then i else -1) else fstI p i := by
  unfold fstI
  rw [show (i + 1).toNat = i.toNat + 1 by omega]
  show (if fst p i.toNat = -1 then (if p ((i.toNat : Nat) : Int) = true then ((i.toNat : Nat) : Int) else -1) else fst p i.toNat) = _
  rw [show ((i.toNat : Nat) : Int) = i by omega]
theorem fstI_hit (p : Int → Bool) {i n : Int} (h0 : 0 ≤ i) (hi : i < n) (hn : fstI p i = -1) (hp : p i = true) : fstI p n = i := by
  have key : ∀ k : Nat, fstI p (i + 1 + k) = i := by
    intro k
    induction k with
    | zero =>
      rw [show i + 1 + ((0 : Nat) : Int) = i + 1 by omega, fstI_s p h0, if_pos hn, if_pos hp]
    | succ k ih =>
      rw [show i + 1 + ((k + 1 : Nat) : Int) = (i + 1 + k) + 1 by omega, fstI_s p (by omega), ih, if_neg (by omega)]
  have := key (n - i - 1).toNat
  rwa [show i + 1 + (((n - i - 1).toNat : Nat) : Int) = n by omega] at this
theorem fstI_cong {p q : Int → Bool} {n : Int} (h : ∀ i, 0 ≤ i → i < n → p i = q i) : fstI p n = fstI q n := by
  have key : ∀ k : Nat, (k : Int) ≤ n → fst p k = fst q k := by
    intro k
    induction k with
    | zero => intro _; rfl
    | succ k ih =>
      intro hk
      unfold fst
      rw [ih (by omega), h _ (by omega) (by omega)]
  unfold fstI
  by_cases hn : 0 ≤ n
  · exact key n.toNat (by omega)
  · rw [show n.toNat = 0 by omega]
    rfl
theorem fstI_r (p : Int → Bool) (n : Int) : fstI p n = -1 ∨ (0 ≤ fstI p n ∧ fstI p n < n ∧ p (fstI p n) = true) := by
  have key : ∀ k : Nat, fst p k = -1 ∨ (0 ≤ fst p k ∧ fst p k < k ∧ p (fst p k) = true) := by
    intro k
    induction k with
    | zero => exact Or.inl rfl
    | succ k ih =>
      unfold fst
      by_cases h1 : fst p k = -1
      · rw [if_pos h1]
        by_cases h2 : p (k : Int) = true
        · rw [if_pos h2]
          exact Or.inr ⟨by omega, by omega, h2⟩
        · rw [if_neg h2]
          exact Or.inl rfl
      · rw [if_neg h1]
        rcases ih with ih | ih
        · exact absurd ih h1
        · exact Or.inr ⟨ih.1, by omega, ih.2.2⟩
  rcases key n.toNat with h | h
  · exact Or.inl h
  · exact Or.inr ⟨h.1, by have := h.2.1; unfold fstI; omega, h.2.2⟩
