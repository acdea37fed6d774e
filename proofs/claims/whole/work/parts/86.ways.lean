/-! ===== sets of loans with which a step is reached (by hand) ===== -/
theorem clm_cong {S S' : Int → Bool} {lg : Int} : ∀ n : Nat, (∀ s : Int, 1 ≤ s → s ≤ n → S s = S' s) → clm S lg 0 n = clm S' lg 0 n := by
  intro n
  induction n with
  | zero => intro _; rfl
  | succ n ih =>
    intro h
    rw [clm_s, clm_s, ih (fun s a b => h s a (by omega)), h (0 + ((n : Int) + 1)) (by omega) (by omega)]
theorem clm_at {S : Int → Bool} {lg : Int} {n p : Nat} (h : clm S lg 0 n = p) : clm S lg 0 p = p := by
  cases p with
  | zero => rfl
  | succ p =>
    have h1 := clm_S S lg 0 n
    rw [h] at h1
    rcases h1 with h1 | h1
    · omega
    · have := (clm_vis S lg 0 (n := n) (s := p) (by rw [show (0 : Int) + ((p : Int) + 1) = ((p + 1 : Nat) : Int) by omega]; exact h1) (by omega)).1
      rw [this]
      omega
theorem clm_none {S : Int → Bool} {lg : Int} {p : Nat} (hp : clm S lg 0 p = p) : ∀ m : Nat, (∀ s : Int, (p : Int) < s → s ≤ p + m → S s = false) → clm S lg 0 (p + m) = p := by
  intro m
  induction m with
  | zero => intro _; exact hp
  | succ m ih =>
    intro h
    have hS := h (0 + (((p + m : Nat) : Int) + 1)) (by omega) (by omega)
    rw [show p + (m + 1) = (p + m) + 1 by omega, clm_s, hS, if_neg (fun z => by cases z.1)]
    exact ih (fun s a b => h s a (by omega))
/-- where one can stand if the loans of M were given back -/
def SMt (A : Int → Bool) (lam : Int → Int) (M : Nat) : Int → Bool := fun s => A s || (decide (lam s ≠ -1) && M.testBit (lam s).toNat)
def GW (A : Int → Bool) (lam : Int → Int) (lg : Int) (s M : Nat) : Prop := (∀ k, M.testBit k = true → ∃ j : Nat, (1 ≤ j ∧ j ≤ s) ∧ A j = false ∧ lam j = k) ∧ clm (SMt A lam M) lg 0 s = s
def LI (lam : Int → Int) : Prop := (∀ s, lam s = -1 ∨ (0 ≤ lam s ∧ lam s < 24)) ∧ ∀ s s', lam s = lam s' → lam s ≠ -1 → s = s'
def btL (A : Int → Bool) (lam : Int → Int) (s : Int) : Nat := if A s = true then 0 else 2 ^ (lam s).toNat
theorem SMt_t {A : Int → Bool} {lam : Int → Int} {M : Nat} {s : Int} (h : SMt A lam M s = true) : A s = true ∨ (lam s ≠ -1 ∧ M.testBit (lam s).toNat = true) := by
  unfold SMt at h
  rw [Bool.or_eq_true, Bool.and_eq_true] at h
  rcases h with h | ⟨h1, h2⟩
  · exact Or.inl h
  · exact Or.inr ⟨of_decide_eq_true h1, h2⟩
theorem SMt_a {A : Int → Bool} {lam : Int → Int} {M : Nat} {s : Int} (h : A s = true) : SMt A lam M s = true := by
  unfold SMt
  rw [h]
  rfl
theorem SMt_l {A : Int → Bool} {lam : Int → Int} {M : Nat} {s : Int} (h : lam s ≠ -1) (h2 : M.testBit (lam s).toNat = true) : SMt A lam M s = true := by
  unfold SMt
  rw [h2, decide_eq_true h, Bool.and_true, Bool.or_true]
theorem GW.none {A : Int → Bool} {lam : Int → Int} {lg : Int} {s M : Nat} (h : GW A lam lg (s + 1) M) : (A ((s + 1 : Nat) : Int) = true ∨ (lam ((s + 1 : Nat) : Int) ≠ -1 ∧ M.testBit (lam ((s + 1 : Nat) : Int)).toNat = true)) ∧ ((s + 1 : Nat) : Int) - clm (SMt A lam M) lg 0 s ≤ lg := by
  have h2 := h.2
  have hin := clm_in (SMt A lam M) lg 0 s
  rw [clm_s] at h2
  split at h2
  · rename_i c
    rw [show (0 : Int) + ((s : Int) + 1) = ((s + 1 : Nat) : Int) by omega] at c
    exact ⟨SMt_t c.1, c.2⟩
  · omega
/-- a set has one last step but one -/
theorem GW.one {A : Int → Bool} {lam : Int → Int} {lg : Int} {p p' M : Nat} (hL : LI lam) (h : GW A lam lg p M) (h' : GW A lam lg p' M) (hA : A (p' : Int) = false) (hlt : p < p') : False := by
  obtain ⟨q, rfl⟩ : ∃ q, p' = q + 1 := ⟨p' - 1, by omega⟩
  rcases h'.none.1 with c | ⟨c1, c2⟩
  · rw [hA] at c
    cases c
  · obtain ⟨j, j1, j2, j3⟩ := h.1 _ c2
    have hl := hL.1 ((q + 1 : Nat) : Int)
    have := hL.2 j ((q + 1 : Nat) : Int) (by omega) (by omega)
    omega
theorem GW.back {A : Int → Bool} {lam : Int → Int} {lg : Int} {s M : Nat} (hL : LI lam) (h : GW A lam lg (s + 1) M) : ∃ p : Nat, p ≤ s ∧ ((s + 1 : Nat) : Int) - p ≤ lg ∧ (∀ q : Nat, p < q → q < s + 1 → A q = false) ∧ ∃ M', M = M' + btL A lam ((s + 1 : Nat) : Int) ∧ GW A lam lg p M' := by
  obtain ⟨hs, hg⟩ := h.none
  have hin := clm_in (SMt A lam M) lg 0 s
  obtain ⟨p, hp⟩ : ∃ p : Nat, clm (SMt A lam M) lg 0 s = p := ⟨(clm (SMt A lam M) lg 0 s).toNat, by omega⟩
  have hcp := clm_at hp
  have hno : ∀ q : Nat, p < q → q < s + 1 → SMt A lam M q = false := by
    intro q q1 q2
    cases c : SMt A lam M q
    · rfl
    · have := clm_end (SMt A lam M) lg 0 (n := s) (s := q) (by omega) (by rw [show (0 : Int) + (q : Int) = q by omega]; exact c) (by omega)
      omega
  refine ⟨p, by omega, by omega, fun q q1 q2 => ?_, ?_⟩
  · cases c : A q
    · rfl
    · have := hno q q1 q2
      rw [SMt_a c] at this
      cases this
  · -- a bit of M lies at or below p, or at s + 1
    have hbit : ∀ k, M.testBit k = true → (∃ j : Nat, (1 ≤ j ∧ j ≤ p) ∧ A j = false ∧ lam j = k) ∨ (A ((s + 1 : Nat) : Int) = false ∧ lam ((s + 1 : Nat) : Int) = k) := by
      intro k hk
      obtain ⟨j, j1, j2, j3⟩ := h.1 k hk
      by_cases c1 : j ≤ p
      · exact Or.inl ⟨j, ⟨j1.1, c1⟩, j2, j3⟩
      · by_cases c2 : j = s + 1
        · subst c2
          exact Or.inr ⟨j2, j3⟩
        · have := hno j (by omega) (by omega)
          rw [SMt_l (by omega) (by rw [j3, show ((k : Int)).toNat = k by omega]; exact hk)] at this
          cases this
    cases hA : A ((s + 1 : Nat) : Int)
    · rw [hA] at hs hbit
      rcases hs with c | ⟨c1, c2⟩
      · cases c
      have hl := hL.1 ((s + 1 : Nat) : Int)
      obtain ⟨M', e, hb⟩ := tbR _ _ c2
      refine ⟨M', by unfold btL; rw [hA, if_neg (by decide)]; exact e, fun k hk => ?_, ?_⟩
      · rw [hb, Bool.and_eq_true] at hk
        rcases hbit k hk.1 with z | ⟨_, z⟩
        · exact z
        · have := of_decide_eq_true hk.2
          omega
      · refine (clm_cong p (fun q q1 q2 => ?_)).trans hcp
        unfold SMt
        rw [hb]
        have hq := hL.1 q
        by_cases c : lam q = -1
        · rw [decide_eq_false (show ¬ lam q ≠ -1 from fun z => z c), Bool.false_and, Bool.false_and]
        · have : (lam q).toNat ≠ (lam ((s + 1 : Nat) : Int)).toNat := fun z => by
            have := hL.2 q ((s + 1 : Nat) : Int) (by omega) c
            omega
          rw [decide_eq_true this, Bool.and_true]
    · refine ⟨M, by unfold btL; rw [hA, if_pos rfl]; rfl, fun k hk => ?_, hcp⟩
      rcases hbit k hk with z | ⟨z, _⟩
      · exact z
      · rw [hA] at z
        cases z
theorem GW.fwd {A : Int → Bool} {lam : Int → Int} {lg : Int} {s p M' : Nat} (hL : LI lam) (hp : p ≤ s) (hg : ((s + 1 : Nat) : Int) - p ≤ lg) (hA : ∀ q : Nat, p < q → q < s + 1 → A q = false) (hs : A ((s + 1 : Nat) : Int) = true ∨ lam ((s + 1 : Nat) : Int) ≠ -1) (h : GW A lam lg p M') : (A ((s + 1 : Nat) : Int) = false → M'.testBit (lam ((s + 1 : Nat) : Int)).toNat = false) ∧ GW A lam lg (s + 1) (M' + btL A lam ((s + 1 : Nat) : Int)) := by
  have hl := hL.1 ((s + 1 : Nat) : Int)
  have hfree : lam ((s + 1 : Nat) : Int) ≠ -1 → M'.testBit (lam ((s + 1 : Nat) : Int)).toNat = false := fun c => by
    cases hb : M'.testBit (lam ((s + 1 : Nat) : Int)).toNat
    · rfl
    · obtain ⟨j, j1, j2, j3⟩ := h.1 _ hb
      have := hL.2 j ((s + 1 : Nat) : Int) (by omega) (by omega)
      omega
  have hbits : ∀ k, (M' + btL A lam ((s + 1 : Nat) : Int)).testBit k = (M'.testBit k || (decide (k = (lam ((s + 1 : Nat) : Int)).toNat) && !A ((s + 1 : Nat) : Int))) := by
    intro k
    unfold btL
    cases c : A ((s + 1 : Nat) : Int)
    · rw [if_neg (by decide)]
      have hn : lam ((s + 1 : Nat) : Int) ≠ -1 := by
        rcases hs with z | z
        · rw [c] at z
          cases z
        · exact z
      rw [tbA _ _ (hfree hn) k, Bool.not_false, Bool.and_true]
    · rw [if_pos rfl, Nat.add_zero, Bool.not_true, Bool.and_false, Bool.or_false]
  generalize hM : M' + btL A lam ((s + 1 : Nat) : Int) = M at hbits
  refine ⟨fun c => hfree (by
    rcases hs with z | z
    · rw [c] at z
      cases z
    · exact z), fun k hk => ?_, ?_⟩
  · rw [hbits, Bool.or_eq_true, Bool.and_eq_true] at hk
    rcases hk with hk | ⟨hk1, hk2⟩
    · obtain ⟨j, j1, j2⟩ := h.1 k hk
      exact ⟨j, by omega, j2⟩
    · have hA0 : A ((s + 1 : Nat) : Int) = false := by
        cases c : A ((s + 1 : Nat) : Int)
        · rfl
        · rw [c] at hk2
          cases hk2
      have := of_decide_eq_true hk1
      refine ⟨s + 1, by omega, hA0, ?_⟩
      rcases hs with z | z
      · rw [hA0] at z
        cases z
      · omega
  · -- below s + 1 the two stand alike
    have hsame : ∀ q : Int, 1 ≤ q → q ≤ s → SMt A lam M q = SMt A lam M' q := by
      intro q q1 q2
      unfold SMt
      rw [hbits]
      by_cases c : lam q = -1
      · rw [decide_eq_false (show ¬ lam q ≠ -1 from fun z => z c), Bool.false_and, Bool.false_and]
      · cases ca : A ((s + 1 : Nat) : Int)
        · have hn : lam ((s + 1 : Nat) : Int) ≠ -1 := by
            rcases hs with z | z
            · rw [ca] at z
              cases z
            · exact z
          have hq := hL.1 q
          rw [decide_eq_false (show ¬ (lam q).toNat = (lam ((s + 1 : Nat) : Int)).toNat from fun z => by
            have := hL.2 q ((s + 1 : Nat) : Int) (by omega) c
            omega), Bool.false_and, Bool.or_false]
        · rw [Bool.not_true, Bool.and_false, Bool.or_false]
    have hcp : clm (SMt A lam M) lg 0 p = p := (clm_cong p (fun q a b => hsame q a (by omega))).trans h.2
    have hcs : clm (SMt A lam M) lg 0 s = p := by
      have := clm_none hcp (s - p) (fun q a b => by
        rw [hsame q (by omega) (by omega)]
        cases c : SMt A lam M' q
        · rfl
        · obtain ⟨qn, rfl⟩ : ∃ qn : Nat, q = qn := ⟨q.toNat, by omega⟩
          rcases SMt_t c with z | ⟨z1, z2⟩
          · rw [hA qn (by omega) (by omega)] at z
            cases z
          · obtain ⟨j, j1, j2, j3⟩ := h.1 _ z2
            have hq := hL.1 qn
            have := hL.2 j qn (by omega) (by omega)
            omega)
      rwa [show p + (s - p) = s by omega] at this
    have hst : SMt A lam M ((s + 1 : Nat) : Int) = true := by
      cases ca : A ((s + 1 : Nat) : Int)
      · have hn : lam ((s + 1 : Nat) : Int) ≠ -1 := by
          rcases hs with z | z
          · rw [ca] at z
            cases z
          · exact z
        exact SMt_l hn (by rw [hbits, ca, decide_eq_true rfl, Bool.not_false, Bool.and_true, Bool.or_true])
      · exact SMt_a ca
    rw [clm_s, hcs, show (0 : Int) + ((s : Int) + 1) = ((s + 1 : Nat) : Int) by omega, if_pos ⟨hst, hg⟩]
theorem GW.lt {A : Int → Bool} {lam : Int → Int} {lg : Int} {s M : Nat} (hL : LI lam) (h : GW A lam lg s M) : M < 16777216 := by
  apply Nat.lt_pow_two_of_testBit (n := 24)
  intro i hi
  cases c : M.testBit i
  · rfl
  · obtain ⟨j, _, _, j3⟩ := h.1 i c
    have := hL.1 j
    omega
theorem GW.zero {A : Int → Bool} {lam : Int → Int} {lg : Int} {M : Nat} : GW A lam lg 0 M ↔ M = 0 := by
  constructor
  · intro h
    apply Nat.eq_of_testBit_eq
    intro i
    rw [Nat.zero_testBit]
    cases c : M.testBit i
    · rfl
    · obtain ⟨j, j1, _⟩ := h.1 i c
      omega
  · intro h
    subst h
    exact ⟨fun k hk => (by rw [Nat.zero_testBit] at hk; exact absurd hk (by decide)), rfl⟩
theorem pcM_bt {A : Int → Bool} {lam : Int → Int} {s : Int} {M : Nat} (hL : LI lam) (hs : A s = true ∨ lam s ≠ -1) (hf : A s = false → M.testBit (lam s).toNat = false) : pcM (M + btL A lam s) = pcM M + (if A s = true then 0 else 1) := by
  unfold btL pcM
  cases c : A s
  · rw [if_neg (by decide), if_neg (by decide)]
    have hl := hL.1 s
    refine pcN_add 24 _ M ?_ (hf c)
    rcases hs with z | z
    · rw [c] at z
      cases z
    · omega
  · rw [if_pos rfl, if_pos rfl, Nat.add_zero, Nat.add_zero]
