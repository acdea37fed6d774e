/-! ===== SIM of a store that has changed in parts ===== -/
def ER (r : Nat) (σ σ' : SG) : Prop := (∀ p, (p = 0 ∨ p = 4 ∨ (45 ≤ p ∧ p ≤ 60) ∨ (76 ≤ p ∧ p ≤ 95) ∨ (r ≤ p ∧ p ≤ r + 10)) → σ' p = σ p) ∧ (∀ i, 4 ≤ i → σ' 61 i = σ 61 i) ∧ (∀ i, 16 ≤ i → σ' 62 i = σ 62 i) ∧ (∀ i, 8 ≤ i → σ' 63 i = σ 63 i) ∧ (∀ i, 24 ≤ i → σ' 64 i = σ 64 i) ∧ (∀ i, 7 ≤ i → σ' 65 i = σ 65 i) ∧ σ' 68 1 = σ 68 1
theorem ER.rlr {r : Nat} {σ σ' : SG} (E : ER r σ σ') (h : RLR σ r) : RLR σ' r := by
  obtain ⟨E0, E61, E62, E63, E64, E65, E68⟩ := E
  have e : ∀ k, k ≤ 10 → σ' (r + k) = σ (r + k) := fun k hk => E0 _ (by omega)
  have e0 : σ' r = σ r := e 0 (by decide)
  obtain ⟨a0, a1, a2, a3, a4, a5⟩ := h
  refine ⟨?_, ?_, ?_, ?_, ?_, ?_⟩
  · unfold RLM
    rw [e0, e 2 (by decide), e 3 (by decide), e 6 (by decide), e 7 (by decide), e 8 (by decide), e 9 (by decide)]
    exact a0
  · rw [E61 4 (by decide), E61 5 (by decide), e0]
    exact a1
  · intro t b c
    rw [e0] at c
    rw [E63 _ (by omega), E63 _ (by omega), e 2 (by decide), e 3 (by decide), e 1 (by decide), E62 _ (by omega)]
    exact a2 t b c
  · intro g b c
    rw [e0] at c
    rw [E64 _ (by omega), E64 _ (by omega), E64 _ (by omega), e 6 (by decide), e 7 (by decide), e 8 (by decide), e 1 (by decide), E62 _ (by omega)]
    exact a3 g b c
  · intro k b c
    rw [E65 _ (by omega), e 9 (by decide)]
    exact a4 k b c
  · rw [E68, e0]
    exact a5
theorem ER.tw {r : Nat} {σ σ' : SG} (E : ER r σ σ') : σ' r = σ r ∧ σ' (r + 2) = σ (r + 2) := ⟨E.1 _ (by omega), E.1 _ (by omega)⟩
theorem SIM.re {n n' : Int} {σ σ' : SG} {r q : Nat} (h : SIM n σ r q) (E : ER r σ σ') (hT : TP σ') (hF : RF σ') (hR : RS (σ r 0) (σ (r + 2)) (n' * 300000) 999 (σ' 35) (σ' 69)) (hH : HI n' σ' r) (hP : PI σ') : SIM n' σ' r q := by
  refine ⟨h.1, ?_, hT, hF, E.rlr h.2.2.2.2.1, ?_, hH, hP, fun p hp => ?_⟩
  · rw [E.1 0 (by omega), E.1 4 (by omega)]
    exact h.2.1
  · rw [E.tw.1, E.tw.2]
    exact hR
  · rw [E.1 p (by omega)]
    exact h.2.2.2.2.2.2.2.2 p hp
theorem HI.cong {n : Int} {σ σ' : SG} {r : Nat} (h : HI n σ r) (e0 : σ' r = σ r) (e2 : σ' (r + 2) = σ (r + 2)) (e38 : σ' 38 = σ 38) (e39 : σ' 39 = σ 39) (e71 : σ' 71 = σ 71) (h40 : σ' 42 40 = σ 42 40) (h41 : σ' 42 41 = σ 42 41) : HI n σ' r := by
  unfold HI
  rw [e0, e2, e38, e39, e71, h40, h41]
  exact h
theorem PI.cong {σ σ' : SG} (h : PI σ) (e40 : σ' 40 = σ 40) (e41 : σ' 41 = σ 41) (e99 : σ' 99 = σ 99) (h81 : σ' 42 81 = σ 42 81) : PI σ' := by
  unfold PI
  rw [e40, e41, e99, h81]
  exact h
theorem TP.cong {σ σ' : SG} (h : TP σ) (h1 : σ' 2 1 = σ 2 1) (h2 : σ' 2 2 = σ 2 2) (h3 : σ' 2 3 = σ 2 3) (e3 : σ' 3 = σ 3) (e43 : σ' 43 = σ 43) (k1 : σ' 42 1 = σ 42 1) (k7 : σ' 42 7 = σ 42 7) (k8 : σ' 42 8 = σ 42 8) : TP σ' := by
  unfold TP
  rw [h1, h2, h3, e3, e43, k1, k7, k8]
  exact h
theorem RF.cong {σ σ' : SG} (h : RF σ) (e1 : σ' 1 = σ 1) (e44 : σ' 44 = σ 44) : RF σ' := by
  unfold RF
  rw [e1, e44]
  exact h
/-- the answer to a refused call -/
theorem SIM.refuse {n : Int} {σ : SG} {r q : Nat} (h : SIM n σ r q) {k v w : Int} (h0 : 0 ≤ k) (h4 : k < 4) (hv : v = σ 1 k + 1) (hw : w = σ 44 k + 1) : SIM n (up (up σ 1 k v) 44 k w) r q := by
  have ne : ∀ p, p ≠ 1 → p ≠ 44 → (up (up σ 1 k v) 44 k w) p = σ p := fun p a b => by rw [up_pf b, up_pf a]
  have hr := h.rr.1
  refine h.re ⟨fun p hp => ne p (by omega) (by omega), ?_⟩ ?_ ?_ ?_ ?_ ?_
  · rw [ne 61 (by decide) (by decide), ne 62 (by decide) (by decide), ne 63 (by decide) (by decide), ne 64 (by decide) (by decide), ne 65 (by decide) (by decide), ne 68 (by decide) (by decide)]
    exact ⟨fun _ _ => rfl, fun _ _ => rfl, fun _ _ => rfl, fun _ _ => rfl, fun _ _ => rfl, rfl⟩
  · have e2 := ne 2 (by decide) (by decide)
    have e42 := ne 42 (by decide) (by decide)
    exact h.2.2.1.cong (by rw [e2]) (by rw [e2]) (by rw [e2]) (ne 3 (by decide) (by decide)) (ne 43 (by decide) (by decide)) (by rw [e42]) (by rw [e42]) (by rw [e42])
  · intro j j0 j4
    have e := h.2.2.2.1 j j0 j4
    by_cases hj : j = k
    · subst hj
      rw [up_at, up_p (by decide), up_at, hv, hw, e]
    · rw [up_i hj, up_p (by decide), up_p (by decide), up_i hj, e]
  · rw [ne 35 (by decide) (by decide), ne 69 (by decide) (by decide)]
    exact h.2.2.2.2.2.1
  · have e42 := ne 42 (by decide) (by decide)
    exact h.2.2.2.2.2.2.1.cong (ne _ (by omega) (by omega)) (ne _ (by omega) (by omega)) (ne 38 (by decide) (by decide)) (ne 39 (by decide) (by decide)) (ne 71 (by decide) (by decide)) (by rw [e42]) (by rw [e42])
  · have e42 := ne 42 (by decide) (by decide)
    exact h.2.2.2.2.2.2.2.1.cong (ne 40 (by decide) (by decide)) (ne 41 (by decide) (by decide)) (ne 99 (by decide) (by decide)) (by rw [e42])
/-- a tape of another length, with other octets -/
theorem SIM.tape {n : Int} {σ σ' : SG} {r q : Nat} (h : SIM n σ r q) (ne : ∀ p, p ≠ 2 → p ≠ 3 → p ≠ 42 → p ≠ 43 → σ' p = σ p) (hT : TP σ') (h40 : σ' 42 40 = σ 42 40) (h41 : σ' 42 41 = σ 42 41) (h81 : σ' 42 81 = σ 42 81) : SIM n σ' r q := by
  have hr := h.rr.1
  refine h.re ⟨fun p hp => ne p (by omega) (by omega) (by omega) (by omega), ?_⟩ hT ?_ ?_ ?_ ?_
  · rw [ne 61 (by decide) (by decide) (by decide) (by decide), ne 62 (by decide) (by decide) (by decide) (by decide), ne 63 (by decide) (by decide) (by decide) (by decide), ne 64 (by decide) (by decide) (by decide) (by decide), ne 65 (by decide) (by decide) (by decide) (by decide), ne 68 (by decide) (by decide) (by decide) (by decide)]
    exact ⟨fun _ _ => rfl, fun _ _ => rfl, fun _ _ => rfl, fun _ _ => rfl, fun _ _ => rfl, rfl⟩
  · exact h.2.2.2.1.cong (ne 1 (by decide) (by decide) (by decide) (by decide)) (ne 44 (by decide) (by decide) (by decide) (by decide))
  · rw [ne 35 (by decide) (by decide) (by decide) (by decide), ne 69 (by decide) (by decide) (by decide) (by decide)]
    exact h.2.2.2.2.2.1
  · exact h.2.2.2.2.2.2.1.cong (ne _ (by omega) (by omega) (by omega) (by omega)) (ne _ (by omega) (by omega) (by omega) (by omega)) (ne 38 (by decide) (by decide) (by decide) (by decide)) (ne 39 (by decide) (by decide) (by decide) (by decide)) (ne 71 (by decide) (by decide) (by decide) (by decide)) h40 h41
  · exact h.2.2.2.2.2.2.2.1.cong (ne 40 (by decide) (by decide) (by decide) (by decide)) (ne 41 (by decide) (by decide) (by decide) (by decide)) (ne 99 (by decide) (by decide) (by decide) (by decide)) h81
theorem SIM.len {n : Int} {σ : SG} {r q : Nat} (h : SIM n σ r q) {k : Int} (h0 : 0 ≤ k) (h1 : k ≤ σ 2 1) : SIM n (up (up σ 2 1 k) 42 1 k) r q := by
  obtain ⟨a, b, c⟩ := h.2.2.1
  refine h.tape (fun p p2 p3 p42 p43 => by rw [up_pf p42, up_pf p2]) ?_ ?_ ?_ ?_
  · refine ⟨?_, ?_, ?_, ?_⟩
    · rw [up_at, up_p (by decide), up_at]
      omega
    · rw [up_pf (by decide), up_pf (by decide), up_pf (by decide), up_pf (by decide)]
      exact b
    · rw [up_i (by decide), up_p (by decide), up_p (by decide), up_i (by decide)]
      exact c.1
    · rw [up_i (by decide), up_p (by decide), up_p (by decide), up_i (by decide)]
      exact c.2
  · rw [up_i (by decide), up_p (by decide)]
  · rw [up_i (by decide), up_p (by decide)]
  · rw [up_i (by decide), up_p (by decide)]
