/-! ===== howSet and filledSet: shorter words ===== -/
abbrev mhwO (d : Nat) (σ : SG) (t w : Int) : Prop := 1 ≤ d ∧ 0 ≤ t ∧ t < 4 ∧ r3 w ∧ 0 ≤ σ 63 (8 + 2 * t) ∧ σ 63 (8 + 2 * t) ≤ 14 ∧ MSR (σ 69) t (σ 63 (8 + 2 * t))
theorem mhow2_ok {d : Nat} {σ : SG} {Q : Option AV → SG → Prop} {t w : Int} (h : mhwO d σ t w ∧ Q (some (.inl (foI (hwB (σ 69) t w) 0 (σ 63 (8 + 2 * t))))) σ) : AW d mX9_howSet 0 [some (.inr (.inr 42)), some (.inl t), some (.inl w), none, none] [] σ Q := mhowSet_ok h
theorem pow_r {i : Int} (h0 : 0 ≤ i) (h1 : i < 14) : 0 ≤ (1 : Int) * 2 ^ i.toNat ∧ (1 : Int) * 2 ^ i.toNat < 16384 := by
  have h2 : i.toNat < 14 := by omega
  generalize i.toNat = n at h2
  have key : ∀ n : Fin 14, 0 ≤ (1 : Int) * 2 ^ n.val ∧ (1 : Int) * 2 ^ n.val < 16384 := by decide
  exact key ⟨n, h2⟩
theorem hwB_r (g : Int → Int) (t w : Int) {ht : Int} (h1 : ht ≤ 14) : 0 ≤ foI (hwB g t w) 0 ht ∧ foI (hwB g t w) 0 ht < 16384 := by
  have key : ∀ n : Nat, (n : Int) ≤ ht → 0 ≤ foI (hwB g t w) 0 n ∧ foI (hwB g t w) 0 n < 16384 := by
    intro n
    induction n with
    | zero => intro _; exact ⟨Int.le_refl _, by show (0 : Int) < 16384; decide⟩
    | succ n ih =>
      intro hn
      rw [show ((n + 1 : Nat) : Int) = (n : Int) + 1 by omega, foI_s _ _ (by omega)]
      unfold hwB
      split
      · exact bor_r (ih (by omega)) (pow_r (by omega) (by omega))
      · exact ih (by omega)
  by_cases hn : 0 ≤ ht
  · have := key ht.toNat (by omega)
    rwa [show ((ht.toNat : Nat) : Int) = ht by omega] at this
  · unfold foI
    rw [show ht.toNat = 0 by omega]
    exact ⟨Int.le_refl _, by show (0 : Int) < 16384; decide⟩
theorem fsB_r {g : Int → Int} (hL : MLR g) (t : Int) : 0 ≤ foI (fsB g t) 0 (g 1) ∧ foI (fsB g t) 0 (g 1) < 16384 := by
  have key : ∀ n : Nat, (n : Int) ≤ g 1 → 0 ≤ foI (fsB g t) 0 n ∧ foI (fsB g t) 0 n < 16384 := by
    intro n
    induction n with
    | zero => intro _; exact ⟨Int.le_refl _, by show (0 : Int) < 16384; decide⟩
    | succ n ih =>
      intro hn
      have hi := hL.2 n (by omega) (by omega)
      rw [show ((n + 1 : Nat) : Int) = (n : Int) + 1 by omega, foI_s _ _ (by omega)]
      unfold fsB
      split
      · rename_i c
        exact bor_r (ih (by omega)) (pow_r (by omega) (by omega))
      · exact ih (by omega)
  have := key (g 1).toNat (by have := hL.1; omega)
  rwa [show (((g 1).toNat : Nat) : Int) = g 1 by have := hL.1; omega] at this
