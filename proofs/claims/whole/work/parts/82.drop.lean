/-! ===== x without its m lowest bits (by hand) ===== -/
theorem low_ex {x : Int} (hx : 0 ≤ x ∧ x < 16384) (hz : x ≠ 0) : ∃ l : Int, (0 ≤ l ∧ l < 14) ∧ tb x l.toNat = true ∧ lowB x l = 0 := by
  have key : ∀ m : Nat, lowB x m = 0 ∨ ∃ l : Int, (0 ≤ l ∧ l < m) ∧ tb x l.toNat = true ∧ lowB x l = 0 := by
    intro m
    induction m with
    | zero => exact Or.inl rfl
    | succ m ih =>
      rcases ih with ih | ⟨l, hl, h2⟩
      · cases hb : tb x m
        · left
          rw [show ((m + 1 : Nat) : Int) = (m : Int) + 1 by omega, lowB_s x (by omega), show ((m : Int)).toNat = m by omega, hb, if_neg (by decide)]
          exact ih
        · right
          exact ⟨m, by omega, by rw [show ((m : Int)).toNat = m by omega]; exact hb, ih⟩
      · right
        exact ⟨l, by omega, h2⟩
  rcases key 14 with h | h
  · exfalso
    apply hz
    apply tb_eq hx.1 (by omega) (by omega) (by omega)
    intro k _
    rw [tb_zero]
    cases hb : tb x k
    · rfl
    · have h14 := tb_lt hx hb
      rw [low_z h k (by omega)] at hb
      exact hb.symm
  · exact h
theorem dlB_zero : dlB 0 = 0 := by
  unfold dlB
  have h0 := band_nn 0 (0 - 1)
  have h1 := band_le_l (x := 0) (y := 0 - 1) (by omega) (by omega)
  omega
theorem dlB_r {x : Int} (hx : 0 ≤ x ∧ x < 16384) : 0 ≤ dlB x ∧ dlB x < 16384 := by
  unfold dlB
  have h0 := band_nn x (x - 1)
  have h1 := band_le_l (x := x) (y := x - 1) (by omega) (by omega)
  omega
theorem dlB_pop {x : Int} (hx : 0 ≤ x ∧ x < 16384) (hz : x ≠ 0) : popc (dlB x) = popc x - 1 ∧ dlB x < x := by
  have h := dr_ok (n := x.toNat) (by omega) (by omega)
  have e : dlB x = ((x.toNat &&& (x.toNat - 1) : Nat) : Int) := by
    unfold dlB
    have := band_nat (a := x.toNat) (b := x.toNat - 1) (by omega) (by omega)
    rw [← this]
    congr 1 <;> omega
  have hu : un (dlB x) = x.toNat &&& (x.toNat - 1) := by
    rw [e, un_nat (by omega)]
  constructor
  · unfold popc
    rw [hu, un_of (show 0 ≤ x by omega) (by omega)]
    omega
  · omega
theorem popc_0 : popc 0 = 0 := by decide
theorem lowB_0 (i : Nat) : lowB 0 i = 0 := by
  induction i with
  | zero => rfl
  | succ i ih =>
    rw [show ((i + 1 : Nat) : Int) = (i : Int) + 1 by omega, lowB_s _ (by omega), tb_zero, if_neg (by decide)]
    exact ih
/-- bits counted from below -/
theorem popc_low {x : Int} (hx : 0 ≤ x ∧ x < 16384) : popc x = lowB x 14 := by
  have key : ∀ m : Nat, ∀ x : Int, 0 ≤ x → x < 16384 → x ≤ m → popc x = lowB x 14 := by
    intro m
    induction m with
    | zero =>
      intro x h0 _ h1
      obtain rfl : x = 0 := by omega
      exact popc_0.trans (lowB_0 14).symm
    | succ m ih =>
      intro x h0 h1 h2
      by_cases c : x = 0
      · subst c
        exact popc_0.trans (lowB_0 14).symm
      · obtain ⟨l, hl, hb, hz⟩ := low_ex ⟨h0, h1⟩ c
        have hp := dlB_pop ⟨h0, h1⟩ c
        have hr := dlB_r ⟨h0, h1⟩
        have hi := ih (dlB x) hr.1 hr.2 (by omega)
        have hd := dlB_low ⟨h0, h1⟩ hb hz hl.1 14
        rw [if_pos (show l < ((14 : Nat) : Int) by omega)] at hd
        rw [show ((14 : Nat) : Int) = 14 from rfl] at hd
        omega
  exact key x.toNat x hx.1 hx.2 (by omega)
theorem popc_z {x : Int} (hx : 0 ≤ x ∧ x < 16384) (h : popc x = 0) : x = 0 := by
  by_cases c : x = 0
  · exact c
  · have := dlB_pop hx c
    have := popc_nn (dlB x)
    omega
def dropN (x : Int) : Nat → Int
  | 0 => x
  | m + 1 => dlB (dropN x m)
theorem dropN_r {x : Int} (hx : 0 ≤ x ∧ x < 16384) (m : Nat) : 0 ≤ dropN x m ∧ dropN x m < 16384 := by
  induction m with
  | zero => exact hx
  | succ m ih => exact dlB_r ih
theorem dropN_pop {x : Int} (hx : 0 ≤ x ∧ x < 16384) (m : Nat) : popc (dropN x m) = if (m : Int) < popc x then popc x - m else 0 := by
  induction m with
  | zero =>
    have := popc_nn x
    show popc x = _
    split <;> omega
  | succ m ih =>
    have hr := dropN_r hx m
    show popc (dlB (dropN x m)) = _
    by_cases c : dropN x m = 0
    · rw [c, dlB_zero, popc_0]
      rw [c, popc_0] at ih
      split at ih
      · omega
      · rw [if_neg (by omega)]
    · have h1 := dlB_pop hr c
      have h2 : popc (dropN x m) ≠ 0 := fun z => c (popc_z hr z)
      split at ih
      · split <;> omega
      · omega
theorem dropN_z {x : Int} (hx : 0 ≤ x ∧ x < 16384) (m : Nat) : dropN x m = 0 ↔ popc x ≤ m := by
  have h := dropN_pop hx m
  constructor
  · intro c
    rw [c, popc_0] at h
    split at h <;> omega
  · intro c
    rw [if_neg (by omega)] at h
    exact popc_z (dropN_r hx m) h
theorem kthB_eq {x y k j : Int} (h : ∀ n : Nat, kthB x k n = kthB y j n) (m : Int) : fstI (kthB x k) m = fstI (kthB y j) m := by
  apply fstI_cong
  intro i i0 _
  have := h i.toNat
  rwa [show ((i.toNat : Nat) : Int) = i by omega] at this
theorem dropN_kth {x : Int} (hx : 0 ≤ x ∧ x < 16384) (m : Nat) (hm : (m : Int) < popc x) (k : Nat) (n : Nat) : kthB (dropN x m) k n = kthB x (k + m : Int) n := by
  induction m generalizing k with
  | zero =>
    show kthB x k n = _
    rw [show (k : Int) + ((0 : Nat) : Int) = k by omega]
  | succ m ih =>
    have hr := dropN_r hx m
    have hz : dropN x m ≠ 0 := fun c => by
      have := (dropN_z hx m).mp c
      omega
    obtain ⟨l, hl, hb, hlz⟩ := low_ex hr hz
    show kthB (dlB (dropN x m)) k n = _
    rw [dlB_kth hr hb hlz hl.1 (by omega) n, show (k : Int) + 1 = ((k + 1 : Nat) : Int) by omega, ih (by omega) (k + 1), show ((k + 1 : Nat) : Int) + (m : Int) = (k : Int) + ((m + 1 : Nat) : Int) by omega]
theorem kth_here {x s : Int} {n : Int} (h0 : 0 ≤ s) (hn : s < n) (hb : tb x s.toNat = true) : fstI (kthB x (lowB x s)) n = s := by
  refine fstI_hit _ h0 hn ?_ ?_
  · have key : ∀ m : Nat, (m : Int) ≤ s → fstI (kthB x (lowB x s)) m = -1 := by
      intro m
      induction m with
      | zero => intro _; rfl
      | succ m ih =>
        intro hm
        rw [show ((m + 1 : Nat) : Int) = (m : Int) + 1 by omega]
        refine (fstI_s1 _ (by omega)).mpr ⟨ih (by omega), ?_⟩
        unfold kthB
        cases hc : tb x ((m : Int)).toNat
        · rfl
        · have hs := lowB_s x (i := (m : Int)) (by omega)
          rw [hc, if_pos rfl] at hs
          have hm2 := lowB_mono x (i := (m : Int) + 1) (by omega) (s - m - 1).toNat
          rw [show (m : Int) + 1 + ((s - m - 1).toNat : Int) = s by omega] at hm2
          exact decide_eq_false (by omega)
    have := key s.toNat (by omega)
    rwa [show ((s.toNat : Nat) : Int) = s by omega] at this
  · unfold kthB
    rw [hb, decide_eq_true rfl]
    rfl
theorem kth0_ex {x : Int} (hx : 0 ≤ x ∧ x < 16384) (hz : x ≠ 0) : 0 ≤ fstI (kthB x 0) 24 ∧ fstI (kthB x 0) 24 < 14 := by
  obtain ⟨l, hl, hb, hlz⟩ := low_ex hx hz
  have := kth_here (x := x) (s := l) (n := 24) hl.1 (by omega) hb
  rw [hlz] at this
  omega
