/-! ===== the fewest steps to be filled ===== -/
def npP (sd : Int) : Int → Int := fun s => if tb sd (s - 1).toNat = true then 0 else 16777216 + 2 ^ (s - 1).toNat
theorem npP_nn (sd s : Int) : 0 ≤ npP sd s := by
  unfold npP
  split
  · omega
  · have : (0 : Int) < 2 ^ (s - 1).toNat := Int.pow_pos (by decide)
    omega
theorem sdS_bor (a b s : Int) : sdS (bor a b) s = (sdS a s || sdS b s) := by
  unfold sdS
  exact tb_bor a b _
theorem need_A {sd ht lg x : Int} (hh : 1 ≤ ht ∧ ht ≤ 14) (hl : 0 ≤ lg) (hx : 0 ≤ x ∧ x < 16384) (hc : climbV (bor sd x) ht lg 0 = ht) : dpV (npP sd) lg ht ht ≠ -1 ∧ dpV (npP sd) lg ht ht ≤ wt (lo2 x ht) := by
  have hP : ∀ s, 1 ≤ s → s ≤ ht → -1 ≤ npP sd s := fun s _ _ => by have := npP_nn sd s; omega
  have f := climb_facts (S := sdS (bor sd x)) (lg := lg) (fr := 0) (ht := ht) (a := ht) (by omega) hc
  have key : ∀ n : Nat, ∀ s, 0 ≤ s → s ≤ (n : Int) → s ≤ ht → (s = 0 ∨ sdS (bor sd x) s = true) → dpV (npP sd) lg ht s ≠ -1 ∧ dpV (npP sd) lg ht s ≤ wt (lo2 x s) := by
    intro n
    induction n with
    | zero =>
      intro s s0 s1 _ _
      have : s = 0 := by omega
      subst this
      rw [dp_0 (by omega), lo2_0]
      exact ⟨by decide, by decide⟩
    | succ n ih =>
      intro s s0 s1 s2 hs
      by_cases hz : s = 0
      · subst hz
        exact ih 0 (by omega) (by omega) (by omega) (Or.inl rfl)
      · have hs2 := hs.resolve_left hz
        obtain ⟨j, j0, j1, j2, j3⟩ := f.2.2.2.1 s (by omega) s2 hs2
        have ihj := ih j j0 (by omega) (by omega) j3
        have hp := npP_nn sd s
        have c := (dp_char (P := npP sd) (lg := lg) (ht := ht) (s := s) hl hP (by omega) s2).2.1 (by omega) j j0 j1 j2 ihj.1
        refine ⟨c.1, ?_⟩
        have hw := wt_s hx (s := s - 1) (by omega) (by omega)
        have hm := wt_mono hx j0 (s - 1 - j).toNat (by omega)
        rw [show j + (((s - 1 - j).toNat : Nat) : Int) = s - 1 by omega] at hm
        rw [show s - 1 + 1 = s by omega] at hw
        have hpp : npP sd s ≤ (if tb x (s - 1).toNat = true then 16777216 + 2 ^ (s - 1).toNat else 0) := by
          rw [sdS_bor, Bool.or_eq_true] at hs2
          unfold npP
          by_cases c1 : tb sd (s - 1).toNat = true
          · rw [if_pos c1]
            split
            · have : (0 : Int) < 2 ^ (s - 1).toNat := Int.pow_pos (by decide)
              omega
            · omega
          · have c2 : tb x (s - 1).toNat = true := by
              rcases hs2 with z | z
              · exact absurd z c1
              · exact z
            rw [if_neg c1, if_pos c2]
            exact Int.le_refl _
        omega
  exact key ht.toNat ht (by omega) (by omega) (Int.le_refl _) (Or.inr (f.2.2.1.resolve_left (by omega)))
theorem add_bor {y : Int} {k : Nat} (hk : k < 14) (h0 : 0 ≤ y) (h1 : y < 2 ^ k) : y + 2 ^ k = bor y (1 * 2 ^ k) := by
  have e2 : ((2 ^ k : Nat) : Int) = (2 : Int) ^ k := by push_cast; rfl
  have hp := pow2_r (s := (k : Int)) (by omega) (by omega)
  rw [show ((k : Int)).toNat = k by omega] at hp
  unfold bor
  rw [un_pow (by omega), un_of h0 (by omega)]
  have := Nat.two_pow_add_eq_or_of_lt (i := k) (b := y.toNat) (by omega) 1
  rw [Nat.mul_one] at this
  rw [Nat.or_comm, ← this]
  omega
theorem pw_mono {a b : Nat} (h : a ≤ b) : (2 : Int) ^ a ≤ 2 ^ b := by
  have h1 := Nat.pow_le_pow_right (n := 2) (by decide) h
  have e : ∀ k : Nat, ((2 ^ k : Nat) : Int) = (2 : Int) ^ k := fun k => by push_cast; rfl
  rw [← e a, ← e b]
  omega
theorem need_B {sd ht lg : Int} (hh : 1 ≤ ht ∧ ht ≤ 14) (hl : 0 ≤ lg) : ∀ n : Nat, ∀ s, 0 ≤ s → s ≤ (n : Int) → s ≤ ht → dpV (npP sd) lg ht s ≠ -1 → ∃ x, 0 ≤ x ∧ x < 2 ^ s.toNat ∧ (∀ k, tb x k = true → tb sd k = false) ∧ dpV (npP sd) lg ht s = wt x ∧ RC (sdS (bor sd x)) lg s := by
  have hP : ∀ s, 1 ≤ s → s ≤ ht → -1 ≤ npP sd s := fun s _ _ => by have := npP_nn sd s; omega
  intro n
  induction n with
  | zero =>
    intro s s0 s1 _ _
    have : s = 0 := by omega
    subst this
    exact ⟨0, by omega, by decide, (fun k hk => by rw [tb_zero] at hk; cases hk), (by rw [dp_0 (by omega)]; decide), fun a a0 a1 => by omega⟩
  | succ n ih =>
    intro s s0 s1 s2 hd
    by_cases hz : s = 0
    · subst hz
      exact ih 0 (by omega) (by omega) (by omega) hd
    · rcases (dp_char (P := npP sd) (lg := lg) (ht := ht) (s := s) hl hP (by omega) s2).2.2 with c | ⟨c1, f, f0, f1, f2, f3, f4⟩
      · exact absurd c hd
      · obtain ⟨x, x0, x1, x2, x3, x4⟩ := ih f f0 (by omega) (by omega) f3
        have hpw : (2 : Int) ^ f.toNat ≤ 2 ^ (s - 1).toNat := pw_mono (by omega)
        have hps : (2 : Int) ^ s.toNat = 2 ^ (s - 1).toNat * 2 := by rw [show s.toNat = (s - 1).toNat + 1 by omega, Int.pow_succ]
        have hpp := pow2_r (s := s - 1) (by omega) (by omega)
        by_cases cb : tb sd (s - 1).toNat = true
        · have e0 : npP sd s = 0 := by unfold npP; rw [if_pos cb]
          refine ⟨x, x0, by omega, x2, by rw [f4, e0, x3, Int.add_zero], x4.step f0 f1 f2 ?_⟩
          rw [sdS_bor]
          unfold sdS
          rw [cb, Bool.true_or]
        · have e0 : npP sd s = 16777216 + 2 ^ (s - 1).toNat := by unfold npP; rw [if_neg cb]
          have ab := add_bor (y := x) (k := (s - 1).toNat) (by omega) x0 (by omega)
          have tbx : ∀ k, tb (x + 2 ^ (s - 1).toNat) k = (tb x k || decide ((s - 1).toNat = k)) := fun k => by rw [ab]; exact tb_set (by omega)
          refine ⟨x + 2 ^ (s - 1).toNat, by omega, by omega, fun k hk => ?_, ?_, ?_⟩
          · rw [tbx, Bool.or_eq_true, decide_eq_true_eq] at hk
            rcases hk with hk | hk
            · exact x2 k hk
            · rw [← hk]
              simpa using cb
          · rw [f4, e0, x3]
            unfold wt
            rw [popc_top (by omega) x0 (by omega)]
            omega
          · refine (x4.mono (fun u u0 u1 hu => ?_)).step f0 f1 f2 ?_
            · rw [sdS_bor, Bool.or_eq_true] at hu ⊢
              rcases hu with hu | hu
              · exact Or.inl hu
              · right
                unfold sdS at hu ⊢
                rw [tbx, hu, Bool.true_or]
            · rw [sdS_bor, Bool.or_eq_true]
              right
              unfold sdS
              rw [tbx, decide_eq_true rfl, Bool.or_true]
