/-! ===== a question's value: both tell the same (wip/whole/9q.py) ===== -/
theorem foI_b {F : Int → Int → Int} {B n0 : Int} (hF : ∀ i a, a ≤ F i a ∧ F i a ≤ a + B) : ∀ m : Nat, n0 ≤ foI F n0 (m : Int) ∧ foI F n0 (m : Int) ≤ n0 + B * (m : Int) := by
  intro m
  induction m with
  | zero =>
    rw [show ((0 : Nat) : Int) = 0 from rfl, foI_0, Int.mul_zero]
    omega
  | succ m ih =>
    rw [show ((m + 1 : Nat) : Int) = (m : Int) + 1 by omega, foI_s _ _ (by omega)]
    have h := hF (m : Int) (foI F n0 (m : Int))
    rw [Int.mul_add, Int.mul_one]
    omega
theorem foI_bI {F : Int → Int → Int} {B n0 m : Int} (hF : ∀ i a, a ≤ F i a ∧ F i a ≤ a + B) (hm : 0 ≤ m) : n0 ≤ foI F n0 m ∧ foI F n0 m ≤ n0 + B * m := by
  have := foI_b (n0 := n0) hF m.toNat
  rwa [show ((m.toNat : Nat) : Int) = m by omega] at this
theorem coK_b (g : Int → Int) (w i a : Int) : a ≤ coK g w i a ∧ coK g w i a ≤ a + 1 := by
  unfold coK
  split <;> omega
theorem coA_b (σ : SG) (w i a : Int) : a ≤ coA σ w i a ∧ coA σ w i a ≤ a + 32 := by
  unfold coA
  split
  · split <;> omega
  · split
    · have h1 := popc_nn (foI (hwB (σ 69) i 3) 0 (σ 63 (8 + 2 * i)))
      have h2 := popc_le (foI (hwB (σ 69) i 3) 0 (σ 63 (8 + 2 * i)))
      omega
    · omega
theorem cnt_b (σ : SG) (w : Int) (h1 : 0 ≤ σ 61 4 ∧ σ 61 4 ≤ 4) (h2 : 0 ≤ σ 69 1 ∧ σ 69 1 ≤ 24) : 0 ≤ foI (coK (σ 69) w) (foI (coA σ w) 0 (σ 61 4)) (σ 69 1) ∧ foI (coK (σ 69) w) (foI (coA σ w) 0 (σ 61 4)) (σ 69 1) ≤ 200 := by
  have a := foI_bI (n0 := 0) (coA_b σ w) h1.1
  have b := foI_bI (n0 := foI (coA σ w) 0 (σ 61 4)) (coK_b (σ 69) w) h2.1
  omega
theorem qcp_i {v : Int} (h : QV v) : qcp v = v := by
  unfold QV at h
  unfold qcp
  rw [if_neg (by omega), if_neg (by omega)]
theorem brT {U : SG} {r : Nat} {B D : Int} {F : Int → Int} (hL : RLR U r) (hRS : RS (U r 0) (U (r + 2)) B D F (U 69)) (hB : B ≤ 2000000000) (hD : D ≤ 2000) : TOk U ∧ ∀ k, 0 ≤ mPv U k ∧ mPv U k ≤ 2000 := by
  have h4 : 0 ≤ U 61 4 ∧ U 61 4 ≤ 4 := by rw [hL.2.1.1]; exact hL.1.1
  have hml := hRS.mlr hL.1.1.2 hL.hH
  have hc := fun w => cnt_b U w h4 hml.1
  have h0 := hRS.1
  have hb : ∀ k, 0 ≤ mPv U k ∧ mPv U k ≤ 2000 := by
    intro k
    unfold mPv
    split
    · omega
    · split
      · have := hc 6; omega
      · split
        · have := hc 3; omega
        · split
          · have := hc 7; omega
          · have := hc 8; omega
  refine ⟨⟨⟨hL.mgr, hml, h4, fun t a b => ?_⟩, fun g a b => ?_, ⟨by omega, fun t a b => ?_⟩, fun k => by have := hb k; omega⟩, hb⟩
  · have b' : t < U r 0 := by rw [← hL.2.1.1]; exact b
    have e := (hL.2.2.1 t a b').1
    rw [e]
    exact ⟨hL.hH t a b', (hRS.2.2.2.1 t a b').1, (hRS.st hL a b').2⟩
  · have b' : g < U r 1 := by rw [← hL.2.1.2]; exact b
    rw [(hL.2.2.2.1 g a b').1, hL.2.1.1]
    exact (hL.1.2.2.2.1 g a b').2.1
  · have := hRS.2.2.1 t a b
    omega
theorem brPv {U : SG} {r : Nat} {B D : Int} (hL : RLR U r) (hRS : RS (U r 0) (U (r + 2)) B D (U 37) (U 69)) (hB : B ≤ 2000000000) (hD : D ≤ 2000) : mfP U 0 = U 37 0 ∧ mfP U 1 = foI (htB U 36 r) 0 (U r 0) ∧ mfP U 2 = foI (opB (U 37)) 0 (U 37 1) ∧ mfP U 3 = foI (bsB (U 37)) 0 4 ∧ mfP U 4 = foI (yaB (U 37)) 0 (U 37 1) := by
  obtain ⟨hT, hb⟩ := brT hL hRS hB hD
  have e : ∀ k, mfP U k = mPv U k := fun k => qcp_i (by have := hb k; unfold QV; omega)
  rw [e, e, e, e, e]
  refine ⟨hRS.1.2.2, ?_, ?_, ?_, ?_⟩
  · show foI (coK (U 69) 6) (foI (coA U 6) 0 (U 61 4)) (U 69 1) = _
    rw [coK_no (by decide) (by decide)]
    exact (RS.cHeld (p := 36) hRS hL).symm
  · show foI (coK (U 69) 3) (foI (coA U 3) 0 (U 61 4)) (U 69 1) = _
    rw [coA_no (by decide) (by decide)]
    exact hRS.cOpen.symm
  · show foI (coK (U 69) 7) (foI (coA U 7) 0 (U 61 4)) (U 69 1) = _
    rw [coK_no (by decide) (by decide)]
    exact (hRS.cBent hL).symm
  · show foI (coK (U 69) 8) (foI (coA U 8) 0 (U 61 4)) (U 69 1) = _
    rw [coA_no (by decide) (by decide)]
    exact hRS.cYard.symm
theorem brC {U : SG} {r : Nat} {B D : Int} (hL : RLR U r) (hRS : RS (U r 0) (U (r + 2)) B D (U 37) (U 69)) (hB : B ≤ 2000000000) : COk U r := by
  refine ⟨hL.1.1, hL.1.2.1, fun t a b => ?_, fun g a b => ?_⟩
  · have h4 := hL.1.1.2
    have hs := hRS.st hL a b
    have hp := hRS.2.2.1 t a (by omega)
    have hh := hL.hH t a b
    rw [hs.1]
    exact ⟨hs.2, by omega, by omega⟩
  · have := hL.1.2.2.2.1 g a b
    omega
theorem brO {U : SG} {r : Nat} {B D : Int} (hL : RLR U r) (hRS : RS (U r 0) (U (r + 2)) B D (U 37) (U 69)) (hB : B ≤ 2000000000) (hD : D ≤ 2000) (k x : Int) (hk : 0 ≤ k ∧ k ≤ 2) : mfO U k x = cOv U r k x := by
  have h4 := hL.1.1.2
  have e4 := hL.2.1.1
  have e5 := hL.2.1.2
  have q0 : qcp 0 = 0 := rfl
  unfold mfO mOv cOv
  by_cases k0 : k = 0
  · rw [if_pos k0, if_pos k0]
    by_cases c : 0 ≤ x ∧ x < U r 0
    · rw [if_pos (by omega), if_pos c, (hRS.2.2.1 x c.1 (by omega)).1]
    · rw [if_neg (by omega), if_neg c]
      exact q0
  · rw [if_neg k0, if_neg k0]
    by_cases k1 : k = 1
    · rw [if_pos k1, if_pos k1]
      by_cases c : 0 ≤ x ∧ x < U r 0
      · rw [if_pos (by omega), if_pos c, ← (hRS.st hL c.1 c.2).1]
        have h1 := popc_nn (bor (U 37 (6 + x)) (U 37 (18 + x)))
        have h2 := popc_le (bor (U 37 (6 + x)) (U 37 (18 + x)))
        exact qcp_i (by unfold QV; omega)
      · rw [if_neg (by omega), if_neg c]
        exact q0
    · rw [if_neg k1, if_neg k1]
      by_cases c : 0 ≤ x ∧ x < U r 1
      · rw [if_pos (by omega), if_pos c]
        obtain ⟨g1, g2, g3, _⟩ := hL.2.2.2.1 x c.1 c.2
        have hg := hL.1.2.2.2.1 x c.1 c.2
        have hh := hL.hH _ hg.1 hg.2.1
        unfold mRv
        rw [g1, g2, ← (hRS.st hL hg.1 hg.2.1).1, (hL.2.2.1 _ hg.1 hg.2.1).1, ropV_0 (by omega) (by omega)]
        have := climbV_r (sd := bor (U 37 (6 + U (r + 6) x)) (U 37 (18 + U (r + 6) x))) (ht := U (r + 2) (U (r + 6) x)) (lg := U (r + 7) x) (fr := 0) (by omega)
        exact qcp_i (by unfold QV; omega)
      · rw [if_neg (by omega), if_neg c]
        exact q0
/-- a question that was read has a value at every state -/
theorem val_ex {o : Int → Int} {L : Int} {f : Int → Int} {g : Int → Int → Int} (hD : QD f g) {n k : Nat} {p e p' e' : Int} {c : List Int} (hk : k = 2 ∨ k = 8) (hX : qx o L n k 0 p e = .inr (c, p', e')) : ∃ v, (k = 8 → QB v) ∧ QV v ∧ qrun f g 64 c [] = some [v] := by
  have H := evAll (o := o) (L := L) (h := 64) hD n 0 p e c p' e' (by decide) (by decide)
  rcases hk with z | z
  · subst z
    obtain ⟨v, hv, e1⟩ := H.2.2.1 hX [] (by decide)
    refine ⟨v, fun z => absurd z (by decide), hv, ?_⟩
    have := e1 []
    rw [List.append_nil] at this
    exact this
  · subst z
    obtain ⟨v, hv, e1⟩ := H.2.2.2.2.2.2.2.2.1 hX [] (by decide)
    refine ⟨v, fun _ => hv, qb_v hv, ?_⟩
    have := e1 []
    rw [List.append_nil] at this
    exact this
