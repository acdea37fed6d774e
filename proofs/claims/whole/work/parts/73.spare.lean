/-! ===== the most steps that can be lent ===== -/
def kpP (th fi ht : Int) : Int → Int := fun s => if tb fi (s - 1).toNat = true ∨ s = ht then 0 else if tb th (s - 1).toNat = true then 16777216 - 2 ^ (s - 1).toNat else -1
theorem kpP_r (th fi : Int) {ht s : Int} (h0 : 1 ≤ s) (h1 : s ≤ 14) : kpP th fi ht s = -1 ∨ 0 ≤ kpP th fi ht s := by
  have hp := pow2_r (s := s - 1) (by omega) (by omega)
  unfold kpP
  split
  · exact Or.inr (Int.le_refl 0)
  · split
    · exact Or.inr (by omega)
    · exact Or.inl rfl
def ws (m : Int) : Int := popc m * 16777216 - m
theorem ws_s {x : Int} (hx : 0 ≤ x ∧ x < 16384) {s : Int} (h0 : 0 ≤ s) (h1 : s < 14) : ws (lo2 x (s + 1)) = ws (lo2 x s) + (if tb x s.toNat = true then 16777216 - 2 ^ s.toNat else 0) := by
  have hr := lo2_r x h0 (by omega : s ≤ 14)
  rw [lo2_s hx h0 h1]
  unfold ws
  by_cases c : tb x s.toNat = true
  · rw [if_pos c, if_pos c, popc_top (by omega) hr.1 hr.2]
    omega
  · rw [if_neg c, if_neg c, Int.add_zero, Int.add_zero]
theorem ws_mono {x : Int} (hx : 0 ≤ x ∧ x < 16384) {j : Int} (j0 : 0 ≤ j) : ∀ m : Nat, j + m ≤ 14 → ws (lo2 x j) ≤ ws (lo2 x (j + m)) := by
  intro m
  induction m with
  | zero => intro _; rw [show j + ((0 : Nat) : Int) = j by omega]; exact Int.le_refl _
  | succ m ih =>
    intro hm
    have ih := ih (by omega)
    have hp := pow2_r (s := j + m) (by omega) (by omega)
    rw [show j + ((m + 1 : Nat) : Int) = j + m + 1 by omega, ws_s hx (by omega) (by omega)]
    split <;> omega
/-- X: what stays; m: what is kept of what could be lent -/
theorem keep_A {th fi ht lg X m : Int} (hh : 1 ≤ ht ∧ ht ≤ 14) (hl : 0 ≤ lg) (hm : 0 ≤ m ∧ m < 16384) (hX : ∀ s, 1 ≤ s → s ≤ ht → sdS X s = true → tb fi (s - 1).toNat = true ∨ s = ht ∨ (tb m (s - 1).toNat = true ∧ tb th (s - 1).toNat = true)) (hc : climbV X ht lg 0 = ht) : dpV (kpP th fi ht) lg ht ht ≠ -1 ∧ dpV (kpP th fi ht) lg ht ht ≤ ws (lo2 m ht) := by
  have hP : ∀ s, 1 ≤ s → s ≤ ht → -1 ≤ kpP th fi ht s := fun s a b => by have := kpP_r th fi (ht := ht) (s := s) a (by omega); omega
  have f := climb_facts (S := sdS X) (lg := lg) (fr := 0) (ht := ht) (a := ht) (by omega) hc
  have key : ∀ n : Nat, ∀ s, 0 ≤ s → s ≤ (n : Int) → s ≤ ht → (s = 0 ∨ sdS X s = true) → dpV (kpP th fi ht) lg ht s ≠ -1 ∧ dpV (kpP th fi ht) lg ht s ≤ ws (lo2 m s) := by
    intro n
    induction n with
    | zero =>
      intro s s0 s1 _ _
      have : s = 0 := by omega
      subst this
      rw [dp_0 (by omega), lo2_0]
      exact ⟨by decide, by decide⟩
    | succ n ih =>
      intro s s0 s1 s2 hs
      by_cases hz : s = 0
      · subst hz
        exact ih 0 (by omega) (by omega) (by omega) (Or.inl rfl)
      · have hs2 := hs.resolve_left hz
        obtain ⟨j, j0, j1, j2, j3⟩ := f.2.2.2.1 s (by omega) s2 hs2
        have ihj := ih j j0 (by omega) (by omega) j3
        have hp := pow2_r (s := s - 1) (by omega) (by omega)
        have hpp : 0 ≤ kpP th fi ht s ∧ kpP th fi ht s ≤ (if tb m (s - 1).toNat = true then 16777216 - 2 ^ (s - 1).toNat else 0) := by
          have hq := hX s (by omega) s2 hs2
          unfold kpP
          by_cases c1 : tb fi (s - 1).toNat = true ∨ s = ht
          · rw [if_pos c1]
            split <;> omega
          · have c2 : tb m (s - 1).toNat = true ∧ tb th (s - 1).toNat = true := by
              rcases hq with z | z | z
              · exact absurd (Or.inl z) c1
              · exact absurd (Or.inr z) c1
              · exact z
            rw [if_neg c1, if_pos c2.2, if_pos c2.1]
            omega
        have c := (dp_char (P := kpP th fi ht) (lg := lg) (ht := ht) (s := s) hl hP (by omega) s2).2.1 (by omega) j j0 j1 j2 ihj.1
        refine ⟨c.1, ?_⟩
        have hw := ws_s hm (s := s - 1) (by omega) (by omega)
        have hmo := ws_mono hm j0 (s - 1 - j).toNat (by omega)
        rw [show j + (((s - 1 - j).toNat : Nat) : Int) = s - 1 by omega] at hmo
        rw [show s - 1 + 1 = s by omega] at hw
        omega
  exact key ht.toNat ht (by omega) (by omega) (Int.le_refl _) (Or.inr (f.2.2.1.resolve_left (by omega)))
theorem keep_B {th fi ht lg : Int} (hh : 1 ≤ ht ∧ ht ≤ 14) (hl : 0 ≤ lg) : ∀ n : Nat, ∀ s, 0 ≤ s → s ≤ (n : Int) → s ≤ ht → dpV (kpP th fi ht) lg ht s ≠ -1 → ∃ m, 0 ≤ m ∧ m < 2 ^ s.toNat ∧ (∀ k, tb m k = true → tb th k = true ∧ k ≠ (ht - 1).toNat) ∧ dpV (kpP th fi ht) lg ht s = ws m ∧ RC (fun u => tb fi (u - 1).toNat || decide (u = ht) || tb m (u - 1).toNat) lg s := by
  have hP : ∀ s, 1 ≤ s → s ≤ ht → -1 ≤ kpP th fi ht s := fun s a b => by have := kpP_r th fi (ht := ht) (s := s) a (by omega); omega
  intro n
  induction n with
  | zero =>
    intro s s0 s1 _ _
    have : s = 0 := by omega
    subst this
    exact ⟨0, by omega, by decide, (fun k hk => by rw [tb_zero] at hk; cases hk), (by rw [dp_0 (by omega)]; decide), fun a a0 a1 => by omega⟩
  | succ n ih =>
    intro s s0 s1 s2 hd
    by_cases hz : s = 0
    · subst hz
      exact ih 0 (by omega) (by omega) (by omega) hd
    · rcases (dp_char (P := kpP th fi ht) (lg := lg) (ht := ht) (s := s) hl hP (by omega) s2).2.2 with c | ⟨c1, f, f0, f1, f2, f3, f4⟩
      · exact absurd c hd
      · obtain ⟨m, m0, m1, m2, m3, m4⟩ := ih f f0 (by omega) (by omega) f3
        have hpw : (2 : Int) ^ f.toNat ≤ 2 ^ (s - 1).toNat := pw_mono (by omega)
        have hps : (2 : Int) ^ s.toNat = 2 ^ (s - 1).toNat * 2 := by rw [show s.toNat = (s - 1).toNat + 1 by omega, Int.pow_succ]
        have hpp := pow2_r (s := s - 1) (by omega) (by omega)
        by_cases cb : tb fi (s - 1).toNat = true ∨ s = ht
        · have e0 : kpP th fi ht s = 0 := by unfold kpP; rw [if_pos cb]
          refine ⟨m, m0, by omega, m2, by rw [f4, e0, m3, Int.add_zero], m4.step f0 f1 f2 ?_⟩
          rw [Bool.or_eq_true, Bool.or_eq_true, decide_eq_true_eq]
          exact Or.inl cb
        · have ct : tb th (s - 1).toNat = true := by
            by_cases z : tb th (s - 1).toNat = true
            · exact z
            · exfalso
              apply c1
              unfold kpP
              rw [if_neg cb, if_neg z]
          have e0 : kpP th fi ht s = 16777216 - 2 ^ (s - 1).toNat := by unfold kpP; rw [if_neg cb, if_pos ct]
          have ab := add_bor (y := m) (k := (s - 1).toNat) (by omega) m0 (by omega)
          have tbx : ∀ k, tb (m + 2 ^ (s - 1).toNat) k = (tb m k || decide ((s - 1).toNat = k)) := fun k => by rw [ab]; exact tb_set (by omega)
          refine ⟨m + 2 ^ (s - 1).toNat, by omega, by omega, fun k hk => ?_, ?_, ?_⟩
          · rw [tbx, Bool.or_eq_true, decide_eq_true_eq] at hk
            rcases hk with hk | hk
            · exact m2 k hk
            · rw [← hk]
              exact ⟨ct, fun z => cb (Or.inr (by omega))⟩
          · rw [f4, e0, m3]
            unfold ws
            rw [popc_top (by omega) m0 (by omega)]
            omega
          · refine (m4.mono (fun u u0 u1 hu => ?_)).step f0 f1 f2 ?_
            · rw [Bool.or_eq_true] at hu ⊢
              rcases hu with hu | hu
              · exact Or.inl hu
              · right
                rw [tbx, hu, Bool.true_or]
            · rw [tbx, decide_eq_true rfl, Bool.or_true, Bool.or_true]
/-- a set within another, and what is left -/
theorem popc_sub {L s y : Int} (hL : 0 ≤ L ∧ L < 16384) (hs : 0 ≤ s ∧ s < 16384) (hy : 0 ≤ y ∧ y < 16384) (h : ∀ k, k < 14 → (tb L k = true ∧ ((tb s k = true ∧ tb y k = false) ∨ (tb s k = false ∧ tb y k = true))) ∨ (tb L k = false ∧ tb s k = false ∧ tb y k = false)) : L = s + y ∧ popc L = popc s + popc y := by
  have key : ∀ n : Nat, n ≤ 14 → lo2 L n = lo2 s n + lo2 y n ∧ popc (lo2 L n) = popc (lo2 s n) + popc (lo2 y n) := by
    intro n
    induction n with
    | zero =>
      intro _
      rw [show ((0 : Nat) : Int) = 0 from rfl, lo2_0, lo2_0, lo2_0]
      exact ⟨rfl, rfl⟩
    | succ n ih =>
      intro hn
      have ih := ih (by omega)
      have e : ((n : Nat) : Int).toNat = n := by omega
      have rL := lo2_r L (s := n) (by omega) (by omega)
      have rs := lo2_r s (s := n) (by omega) (by omega)
      have ry := lo2_r y (s := n) (by omega) (by omega)
      rw [show ((n + 1 : Nat) : Int) = (n : Int) + 1 by omega, lo2_s hL (by omega) (by omega), lo2_s hs (by omega) (by omega), lo2_s hy (by omega) (by omega)]
      rw [e] at rL rs ry ⊢
      rcases h n (by omega) with ⟨a, ⟨b, c⟩ | ⟨b, c⟩⟩ | ⟨a, b, c⟩
      · rw [a, b, c]
        simp only [if_true, Bool.false_eq_true, if_false, Int.add_zero]
        rw [popc_top (by omega) rL.1 rL.2, popc_top (by omega) rs.1 rs.2]
        omega
      · rw [a, b, c]
        simp only [if_true, Bool.false_eq_true, if_false, Int.add_zero]
        rw [popc_top (by omega) rL.1 rL.2, popc_top (by omega) ry.1 ry.2]
        omega
      · rw [a, b, c]
        simp only [Bool.false_eq_true, if_false, Int.add_zero]
        exact ih
  have k := key 14 (Nat.le_refl _)
  rw [show ((14 : Nat) : Int) = 14 from rfl, lo2_14 hL, lo2_14 hs, lo2_14 hy] at k
  exact k
