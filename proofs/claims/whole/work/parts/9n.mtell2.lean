/-! ===== a question's value, told by the reference (wip/whole/9n.py) ===== -/
theorem mul_r {a b : Int} (ha : QV a) (hb : QV b) : r6 (a * b) := by
  unfold QV at ha hb
  have h1 : (a * b).natAbs ≤ 1000000 * 1000000 := by
    rw [Int.natAbs_mul]
    exact Nat.mul_le_mul (by omega) (by omega)
  omega
theorem mOv_r {σ : SG} {k n : Int} (hT : TOk σ) : r3 (mOv σ k n) := by
  obtain ⟨⟨hG, hL, h4, hTw⟩, hg, ⟨h0, hp⟩, hr⟩ := hT
  unfold mOv
  split
  · split
    · exact hp n (by omega) (by omega)
    · decide
  · split
    · split
      · exact popc_r3 _
      · decide
    · split
      · rename_i c
        have g2 := hG.2 n c.1 (by omega)
        have hl := hg n c.1 (by omega)
        have ht := hTw _ g2.1 hl
        unfold mRv
        rw [ropV_0 (by omega) (by omega)]
        have := climbV_r (sd := mstV σ (σ 64 (24 + 3 * n))) (ht := σ 63 (8 + 2 * σ 64 (24 + 3 * n))) (lg := σ 64 (24 + 3 * n + 1)) (fr := 0) (by omega)
        omega
      · decide
theorem meO {d : Nat} {k n i : Int} {σ : SG} {Q : Option AV → SG → Prop} (hd : 12 ≤ d) (hT : TOk σ) (hk : 0 ≤ k ∧ k ≤ 1000) (hn : QV n) (hq : ∀ f, Q (some (.inr (.inl (mOv σ k n)))) (putF σ 70 f)) : AW d mX9_qOf 0 [some (.inr (.inr 42)), some (.inl k), some (.inr (.inl n)), none, some (.inl i)] [] σ Q := by
  have hrr := mOv_r (k := k) (n := n) hT
  obtain ⟨⟨hG, hL, h4, hTw⟩, hg, ⟨h0, hp⟩, hr⟩ := hT
  have q0 := hq (σ 70)
  rw [putF_self] at q0
  unfold QV at hn
  have hG5 := hG.1
  unfold mOv at q0 hq hrr
  refine eO_0 ⟨by omega, fun c => ⟨by omega, by omega, by omega, by omega, fun c1 => ?_, fun c1 => ⟨by omega, fun c2 => ?_, fun c2 => ⟨by omega, hp n c1 (by omega), ?_⟩⟩⟩, fun c => ⟨fun c0 => ⟨by omega, by omega, by omega, by omega, fun c1 => ?_, fun c1 => ⟨by omega, fun c2 => ?_, fun c2 => ?_⟩⟩, fun c0 => ⟨by omega, by omega, by omega, by omega, fun c1 => ?_, fun c1 => ⟨by omega, fun c2 => ?_, fun c2 => ?_⟩⟩⟩⟩
  · rwa [if_pos c, if_neg (by omega)] at q0
  · rwa [if_pos c, if_neg (by omega)] at q0
  · rwa [if_pos c, if_pos ⟨c1, c2⟩] at q0
  · rwa [if_neg c, if_pos c0, if_neg (by omega)] at q0
  · rwa [if_neg c, if_pos c0, if_neg (by omega)] at q0
  · rw [if_neg c, if_pos c0, if_pos ⟨c1, c2⟩] at q0
    obtain ⟨t1, t2, t3⟩ := hTw n c1 (by omega)
    exact ⟨by omega, by omega, ⟨by omega, c1, by omega, by decide, by omega, by omega, t2⟩, by omega, ⟨by omega, hL, by omega⟩, by omega, t3, popc_r3 _, q0⟩
  · rwa [if_neg c, if_neg c0, if_neg (by omega)] at q0
  · rwa [if_neg c, if_neg c0, if_neg (by omega)] at q0
  · rw [if_neg c, if_neg c0, if_pos ⟨c1, c2⟩] at hrr
    have g2 := hG.2 n c1 (by omega)
    have hl := hg n c1 (by omega)
    obtain ⟨t1, t2, t3⟩ := hTw _ g2.1 hl
    refine ⟨by omega, by omega, by omega, by omega, by omega, by omega, by omega, fun z => by omega, fun _ => ⟨by omega, fun z => by omega, fun _ => ⟨by omega, by omega, by omega, by omega, by omega, ⟨by omega, g2.1, g2.2.1, by decide, by omega, by omega, t2⟩, by omega, ⟨by omega, hL, by omega⟩, by omega, ⟨by omega, g2.1, g2.2.1, by omega, by omega, t3.1, t3.2, by omega, by omega, by decide, by decide⟩, fun f => ⟨hrr, ?_⟩⟩⟩⟩
    have := hq f
    rw [if_neg c, if_neg c0, if_pos ⟨c1, c2⟩] at this
    exact this
theorem meJ {d : Nat} {k a b : Int} {t : List Int} {T σ : SG} {Q : Option AV → SG → Prop} (hd : 3 ≤ d) (h : PLE T (b :: a :: t) σ) (hk : 1 ≤ k ∧ k ≤ 11) (hv : QV (qjn k a b)) (hl : t.length + 2 ≤ 1650) (hq : ∀ σ', PLE T (qjn k a b :: t) σ' → Q none σ') : AW d mX9_qJoins 0 [some (.inr (.inr 42)), some (.inl k), none, none, none, none] [] σ Q := by
  obtain ⟨hE, h77, ⟨p1, pb, p2, pa, p3⟩⟩ := h
  rw [List.length_cons, List.length_cons] at h77
  rw [List.length_cons] at p1
  have e1 : σ 98 (σ 42 77 - 1) = b := by rw [h77, show ((t.length + 1 + 1 : Nat) : Int) - 1 = ((t.length + 1 : Nat) : Int) by omega]; exact p1
  have e2 : σ 98 (σ 42 77 - 2) = a := by rw [h77, show ((t.length + 1 + 1 : Nat) : Int) - 2 = (t.length : Int) by omega]; exact p2
  have hS : ∀ S : SG, S = up σ 42 77 (σ 42 77 - 2) → 0 ≤ S 42 77 ∧ S 42 77 < 1700 := by
    intro S eS
    rw [eS, up_at]
    omega
  have fin : ∀ S : SG, S = up σ 42 77 (σ 42 77 - 2) → ∀ (v : Int) (S1 S2 : SG), S1 = up S 98 (S 42 77) v → S2 = up S1 42 77 (S1 42 77 + 1) → qjn k a b = v → Q none S2 := by
    intro S eS v S1 S2 f1 f2 ev
    have s77 : S 42 77 = (t.length : Int) := by rw [eS, up_at]; omega
    have s98 : S 98 = σ 98 := by rw [eS, up_pf (by decide)]
    rw [s77] at f1
    have t77 : S1 42 77 = (t.length : Int) := by rw [f1, up_p (by decide)]; exact s77
    rw [t77] at f2
    refine hq S2 (ple_put hE p3 hv (fun i i0 i1 => ?_) ?_ ?_ (fun p x y z => ?_) (fun i x => ?_))
    · rw [f2, up_p (by decide), f1, up_i (by omega), s98]
    · rw [f2, up_p (by decide), f1, up_at, ev]
    · rw [f2, up_at]
      omega
    · rw [f2, up_pf x, f1, up_pf y, eS, up_pf x]
    · rw [f2, up_i (by omega), f1, up_p (by decide), eS, up_i (by omega)]
  have hmul := mul_r pa pb
  unfold QV at pa pb
  refine eJ_0 ?_
  rw [e1, e2]
  exact ⟨by omega, by omega, fun S eS => have b77 := hS S eS; have fin := fin S eS; ⟨by omega, ⟨fun c => ⟨by omega, by omega, ⟨by omega, b77, fun S1 e1 S2 e2 => fin _ S1 S2 e1 e2 (by unfold qjn; rw [if_pos c])⟩⟩, ⟨fun c => ⟨by omega, by omega, ⟨by omega, b77, fun S1 e1 S2 e2 => fin _ S1 S2 e1 e2 (by unfold qjn; rw [if_neg (by omega), if_pos c])⟩⟩, ⟨fun c => ⟨by omega, hmul, ⟨by omega, b77, fun S1 e1 S2 e2 => fin _ S1 S2 e1 e2 (by unfold qjn; rw [if_neg (by omega), if_neg (by omega), if_pos c])⟩⟩, ⟨fun c => ⟨by omega, ⟨by omega, by omega⟩, ⟨by omega, b77, fun S1 e1 S2 e2 => fin _ S1 S2 e1 e2 (by unfold qjn; rw [if_neg (by omega), if_neg (by omega), if_neg (by omega), if_pos c]; rfl)⟩⟩, ⟨fun c => ⟨⟨by omega, by omega⟩, fun z => ⟨by omega, b77, fun S1 e1 S2 e2 => fin _ S1 S2 e1 e2 (by unfold qjn; rw [if_neg (by omega), if_neg (by omega), if_neg (by omega), if_neg (by omega), if_pos c, if_neg (by omega)])⟩, fun z => ⟨by omega, b77, fun S1 e1 S2 e2 => fin _ S1 S2 e1 e2 (by unfold qjn; rw [if_neg (by omega), if_neg (by omega), if_neg (by omega), if_neg (by omega), if_pos c, if_pos z])⟩⟩, ⟨fun c => ⟨⟨by omega, by omega⟩, fun z => ⟨by omega, b77, fun S1 e1 S2 e2 => fin _ S1 S2 e1 e2 (by unfold qjn; rw [if_neg (by omega), if_neg (by omega), if_neg (by omega), if_neg (by omega), if_neg (by omega), if_pos c, if_neg (by omega)])⟩, fun z => ⟨by omega, b77, fun S1 e1 S2 e2 => fin _ S1 S2 e1 e2 (by unfold qjn; rw [if_neg (by omega), if_neg (by omega), if_neg (by omega), if_neg (by omega), if_neg (by omega), if_pos c, if_pos z])⟩⟩, ⟨fun c => ⟨⟨by omega, by omega⟩, fun z => ⟨by omega, b77, fun S1 e1 S2 e2 => fin _ S1 S2 e1 e2 (by unfold qjn; rw [if_neg (by omega), if_neg (by omega), if_neg (by omega), if_neg (by omega), if_neg (by omega), if_neg (by omega), if_pos c, if_neg (by omega)])⟩, fun z => ⟨by omega, b77, fun S1 e1 S2 e2 => fin _ S1 S2 e1 e2 (by unfold qjn; rw [if_neg (by omega), if_neg (by omega), if_neg (by omega), if_neg (by omega), if_neg (by omega), if_neg (by omega), if_pos c, if_pos z])⟩⟩, ⟨fun c => ⟨⟨by omega, by omega⟩, fun z => ⟨by omega, b77, fun S1 e1 S2 e2 => fin _ S1 S2 e1 e2 (by unfold qjn; rw [if_neg (by omega), if_neg (by omega), if_neg (by omega), if_neg (by omega), if_neg (by omega), if_neg (by omega), if_neg (by omega), if_pos c, if_neg (by omega)])⟩, fun z => ⟨by omega, b77, fun S1 e1 S2 e2 => fin _ S1 S2 e1 e2 (by unfold qjn; rw [if_neg (by omega), if_neg (by omega), if_neg (by omega), if_neg (by omega), if_neg (by omega), if_neg (by omega), if_neg (by omega), if_pos c, if_pos z])⟩⟩, ⟨fun c => ⟨⟨by omega, by omega⟩, fun z => ⟨by omega, b77, fun S1 e1 S2 e2 => fin _ S1 S2 e1 e2 (by unfold qjn; rw [if_neg (by omega), if_neg (by omega), if_neg (by omega), if_neg (by omega), if_neg (by omega), if_neg (by omega), if_neg (by omega), if_neg (by omega), if_pos c, if_neg z])⟩, fun z => ⟨by omega, b77, fun S1 e1 S2 e2 => fin _ S1 S2 e1 e2 (by unfold qjn; rw [if_neg (by omega), if_neg (by omega), if_neg (by omega), if_neg (by omega), if_neg (by omega), if_neg (by omega), if_neg (by omega), if_neg (by omega), if_pos c, if_pos z])⟩⟩, ⟨fun c => ⟨by omega, b77, fun S1 e1 S2 e2 => fin _ S1 S2 e1 e2 (by unfold qjn; rw [if_neg (by omega), if_neg (by omega), if_neg (by omega), if_neg (by omega), if_neg (by omega), if_neg (by omega), if_neg (by omega), if_neg (by omega), if_neg (by omega), if_pos c])⟩, trivial⟩⟩⟩⟩⟩⟩⟩⟩⟩⟩, fun c => ⟨by omega, fun z => ⟨by omega, b77, fun S1 e1 S2 e2 => fin _ S1 S2 e1 e2 (by unfold qjn; rw [if_neg (by omega), if_neg (by omega), if_neg (by omega), if_neg (by omega), if_neg (by omega), if_neg (by omega), if_neg (by omega), if_neg (by omega), if_neg (by omega), if_neg (by omega), if_neg (by omega)])⟩, fun z => ⟨by omega, b77, fun S1 e1 S2 e2 => fin _ S1 S2 e1 e2 (by unfold qjn; rw [if_neg (by omega), if_neg (by omega), if_neg (by omega), if_neg (by omega), if_neg (by omega), if_neg (by omega), if_neg (by omega), if_neg (by omega), if_neg (by omega), if_neg (by omega), if_pos z])⟩⟩⟩⟩
/-- the codes from one of them on -/
theorem mtold {d h : Nat} {T : SG} {C : List Int} {v : Int} {Q : Option AV → SG → Prop} (hd : 14 ≤ d) (hh : h ≤ 1600) (hT : TOk T) (hC : T 42 71 = (C.length : Int) ∧ ∀ i : Nat, i < C.length → T 96 (i : Int) = C.getD i 0) (hl : C.length ≤ 1600) (hq : ∀ σ, EQT T σ → Q (some (.inr (.inl v))) σ) (hrun : qrun (mfP T) (mfO T) h C [] = some [v]) : AW d mX9_qTold 0 [some (.inr (.inr 42)), some (.inl (T 69 0)), none, none] [] T Q := by
  have key : ∀ (cs : List Int) (j : Nat) (st : List Int) (σ : SG), j ≤ C.length → C.drop j = cs → PLE T st σ → st.length ≤ h → qrun (mfP T) (mfO T) h cs st = some [v] → AW d mX9_qTold 7 [some (.inr (.inr 42)), some (.inl (T 69 0)), some (.inl (j : Int)), none] [] σ Q := by
    intro cs
    induction cs with
    | nil =>
      intro j st σ hjm hj hP hs hr
      have hst : st = [v] := Option.some.inj hr
      rw [hst] at hP
      obtain ⟨hE, h77, p1, _⟩ := hP
      have hjl : C.length ≤ j := by
        have := congrArg List.length hj
        rw [List.length_drop, List.length_nil] at this
        omega
      have p1 : σ 98 0 = v := p1
      have h71 : σ 42 71 = (C.length : Int) := by rw [hE.2 71 (by decide)]; exact hC.1
      refine eT_7 ⟨by omega, fun _ => ?_, fun c => by omega⟩
      rw [p1]
      exact hq σ hE
    | cons c cs ih =>
      intro j st σ hjm hj hP hs hr
      have hjl : j < C.length := by
        have := congrArg List.length hj
        rw [List.length_drop, List.length_cons] at this
        omega
      have hc : C.getD j 0 = c := by
        have e := List.drop_eq_getElem_cons hjl
        rw [hj] at e
        have := (List.cons.inj e).1
        rw [List.getD_eq_getElem?_getD, List.getElem?_eq_getElem hjl, this]
        rfl
      have hj' : C.drop (j + 1) = cs := by
        have e := List.drop_eq_getElem_cons hjl
        rw [hj] at e
        exact (List.cons.inj e).2.symm
      obtain ⟨hE, h77, hp⟩ := hP
      have h71 : σ 42 71 = (C.length : Int) := by rw [hE.2 71 (by decide)]; exact hC.1
      have h96 : σ 96 (j : Int) = c := by rw [hE.1 96 (by decide) (by decide) (by decide), hC.2 j hjl]; exact hc
      have h69 : σ 69 = T 69 := hE.1 69 (by decide) (by decide) (by decide)
      have hTs : TOk σ := hT.q hE
      have hr : (match qst (mfP T) (mfO T) c st with
        | none => none
        | some st' => if st'.length ≤ h ∧ (-1000000 ≤ st'.headD 0 ∧ st'.headD 0 ≤ 1000000) then qrun (mfP T) (mfO T) h cs st' else none) = some [v] := hr
      have nxt : ∀ st' σ', qst (mfP T) (mfO T) c st = some st' → (QV (st'.headD 0) → PLE T st' σ') → AW d mX9_qTold 7 [some (.inr (.inr 42)), some (.inl (T 69 0)), some (.inl ((j : Int) + 1)), none] [] σ' Q := by
        intro st' σ' e hp'
        rw [e] at hr
        have hr : (if st'.length ≤ h ∧ (-1000000 ≤ st'.headD 0 ∧ st'.headD 0 ≤ 1000000) then qrun (mfP T) (mfO T) h cs st' else none) = some [v] := hr
        split at hr
        · rename_i hcc
          have := ih (j + 1) st' σ' (by omega) hj' (hp' hcc.2) hcc.1 hr
          rw [show ((j + 1 : Nat) : Int) = (j : Int) + 1 by omega] at this
          exact this
        · cases hr
      -- a value put on top
      have put : ∀ (x : Int) (S1 S2 : SG), S1 = up σ 98 (σ 42 77) x → S2 = up S1 42 77 (S1 42 77 + 1) → QV x → PLE T (x :: st) S2 := by
        intro x S1 S2 f1 f2 hx
        rw [h77] at f1
        have t77 : S1 42 77 = (st.length : Int) := by rw [f1, up_p (by decide)]; exact h77
        rw [t77] at f2
        refine ple_put hE hp hx (fun i i0 i1 => ?_) ?_ ?_ (fun p a b e => ?_) (fun i a => ?_)
        · rw [f2, up_p (by decide), f1, up_i (by omega)]
        · rw [f2, up_p (by decide), f1, up_at]
        · rw [f2, up_at]
          omega
        · rw [f2, up_pf a, f1, up_pf b]
        · rw [f2, up_i (by omega), f1, up_p (by decide)]
      -- the top put anew
      have top : ∀ (y x : Int) (t : List Int) (S1 : SG), st = y :: t → S1 = up σ 98 (σ 42 77 - 1) x → QV x → PLE T (x :: t) S1 := by
        intro y x t S1 est f1 hx
        rw [est, List.length_cons] at h77
        rw [est] at hp
        rw [h77, show ((t.length + 1 : Nat) : Int) - 1 = (t.length : Int) by omega] at f1
        refine ple_put hE hp.2.2 hx (fun i i0 i1 => ?_) ?_ ?_ (fun p a b e => ?_) (fun i a => ?_)
        · rw [f1, up_i (by omega)]
        · rw [f1, up_at]
        · rw [f1, up_p (by decide)]
          exact h77
        · rw [f1, up_pf b]
        · rw [f1, up_p (by decide)]
      have b77 : 0 ≤ σ 42 77 ∧ σ 42 77 < 1700 := by omega
      have some_st : ∃ st', qst (mfP T) (mfO T) c st = some st' := by
        cases hq : qst (mfP T) (mfO T) c st with
        | none => rw [hq] at hr; cases hr
        | some st' => exact ⟨st', rfl⟩
      obtain ⟨st', hst'⟩ := some_st
      have q6 : ∀ S f, EQT T S → EQT T (putF S 70 f) := fun S f hS => ⟨fun p a b e => by rw [putF_ne e]; exact hS.1 p a b e, fun i a => by rw [putF_ne (by decide)]; exact hS.2 i a⟩
      refine eT_7 ?_
      rw [h96, h71]
      by_cases c1 : 1000 ≤ c
      · have e := qst_n (f := mfP T) (g := mfO T) (st := st) c1
        have hcr : r3 c ∧ r3 (c - 1000) := by
          rw [e] at hr
          have hr : (if ((c - 1000) :: st).length ≤ h ∧ (-1000000 ≤ c - 1000 ∧ c - 1000 ≤ 1000000) then qrun (mfP T) (mfO T) h cs ((c - 1000) :: st) else none) = some [v] := hr
          split at hr
          · omega
          · cases hr
        exact ⟨by omega, fun z => by omega, fun _ => ⟨by omega, hcr.1, fun z => by omega, fun _ => ⟨hcr.2, by omega, b77, fun S1 f1 S2 f2 => nxt _ _ e (fun hv => put _ S1 S2 f1 f2 hv)⟩⟩⟩
      · by_cases c2 : 60 ≤ c
        · cases hs0 : st with
          | nil =>
            rw [hs0] at hst'
            unfold qst at hst'
            rw [if_neg c1, if_pos c2] at hst'
            cases hst'
          | cons y t =>
            have c62 : c ≤ 62 := by
              rw [hs0] at hst'
              unfold qst at hst'
              rw [if_neg c1, if_pos c2] at hst'
              have hst' : (if c ≤ 62 then some (mfO T (c - 60) y :: t) else none) = some st' := hst'
              split at hst'
              · assumption
              · cases hst'
            have e : qst (mfP T) (mfO T) c st = some (mfO T (c - 60) y :: t) := by rw [hs0]; exact qst_o (f := mfP T) (g := mfO T) (x := y) (t := t) ⟨c2, c62⟩
            have hp2 := hp
            rw [hs0] at hp2
            have h772 := h77
            rw [hs0, List.length_cons] at h772
            have ey : σ 98 (σ 42 77 - 1) = y := by rw [h772, show ((t.length + 1 : Nat) : Int) - 1 = (t.length : Int) by omega]; exact hp2.1
            refine ⟨by omega, fun z => by omega, fun _ => ⟨by omega, by omega, fun _ => ⟨by omega, fun z => by omega, fun _ => ⟨by omega, by omega, ?_⟩⟩, fun z => by omega⟩⟩
            rw [ey]
            refine meO (by omega) hTs (by omega) hp2.2.1 (fun f => ?_)
            refine eT_78 ⟨by omega, by have := mOv_r (k := c - 60) (n := y) hTs; omega, by omega, fun S1 f1 => nxt _ _ e (fun hv => ?_)⟩
            have hv : QV (mfO T (c - 60) y) := hv
            rw [mO_q hE, h772, show ((t.length + 1 : Nat) : Int) - 1 = (t.length : Int) by omega] at f1
            refine ple_put (σ := σ) hE hp2.2.2 hv (fun i i0 i1 => ?_) ?_ ?_ (fun p a b e => ?_) (fun i a => ?_)
            · rw [f1, up_i (by omega), putF_ne (by decide)]
            · rw [f1, up_at]
              rfl
            · rw [f1, up_p (by decide), putF_ne (by decide)]
              exact h772
            · rw [f1, up_pf b, putF_ne e]
            · rw [f1, up_p (by decide), putF_ne (by decide)]
        · by_cases c3 : 40 ≤ c
          · have c44 : c ≤ 44 := by
              unfold qst at hst'
              rw [if_neg c1, if_neg c2, if_pos c3] at hst'
              split at hst'
              · assumption
              · cases hst'
            have e := qst_p (f := mfP T) (g := mfO T) (st := st) (c := c) ⟨c3, c44⟩
            refine ⟨by omega, fun z => by omega, fun _ => ⟨by omega, by omega, fun _ => ⟨by omega, fun _ => ⟨by omega, fun z => by omega, fun _ => ⟨by omega, ?_⟩⟩, fun z => by omega⟩, fun z => by omega⟩⟩
            rw [← h69]
            refine meP (by omega) hTs (by omega) (fun f => ?_)
            rw [h69]
            have hr6 := hTs.2.2.2 (c - 40)
            refine eT_101 ⟨by omega, by omega, by omega, by rw [putF_ne (by decide)]; exact b77, fun S1 f1 S2 f2 => nxt _ _ e (fun hv => ?_)⟩
            have hv : QV (mfP T (c - 40)) := hv
            rw [putF_ne (show 42 ≠ 70 by decide), mP_q hE] at f1
            have s77 : S1 42 77 = σ 42 77 := by rw [f1, up_p (by decide), putF_ne (by decide)]
            rw [h77] at f1 s77
            rw [s77] at f2
            refine ple_put (σ := σ) hE hp hv (fun i i0 i1 => ?_) ?_ ?_ (fun p a b e => ?_) (fun i a => ?_)
            · rw [f2, up_p (by decide), f1, up_i (by omega), putF_ne (by decide)]
            · rw [f2, up_p (by decide), f1, up_at]
              rfl
            · rw [f2, up_at]
              omega
            · rw [f2, up_pf a, f1, up_pf b, putF_ne e]
            · rw [f2, up_i (by omega), f1, up_p (by decide), putF_ne (by decide)]
          · by_cases c4 : c = 13
            · have e : qst (mfP T) (mfO T) c st = some (1 :: st) := by rw [c4]; exact qst_a
              exact ⟨by omega, fun z => by omega, fun _ => ⟨by omega, by omega, fun _ => ⟨by omega, fun _ => ⟨by omega, fun _ => ⟨by omega, fun z => by omega, fun _ => ⟨by omega, b77, fun S1 f1 S2 f2 => nxt _ _ e (fun hv => put _ S1 S2 f1 f2 hv)⟩⟩, fun z => by omega⟩, fun z => by omega⟩, fun z => by omega⟩⟩
            · by_cases c5 : c = 12
              · cases hs0 : st with
                | nil =>
                  rw [hs0, c5] at hst'
                  cases hst'
                | cons y t =>
                  have hp2 := hp
                  rw [hs0] at hp2
                  have h772 := h77
                  rw [hs0, List.length_cons] at h772
                  have ey : σ 98 (σ 42 77 - 1) = y := by rw [h772, show ((t.length + 1 : Nat) : Int) - 1 = (t.length : Int) by omega]; exact hp2.1
                  have hy : QB y := by
                    rw [hs0, c5] at hst'
                    have hst' : (if y = 0 ∨ y = 1 then some ((1 - y) :: t) else none) = some st' := hst'
                    split at hst'
                    · assumption
                    · cases hst'
                  have e : qst (mfP T) (mfO T) c st = some ((1 - y) :: t) := by rw [c5, hs0]; exact qst_t hy
                  rw [ey]
                  exact ⟨by omega, fun z => by omega, fun _ => ⟨by omega, by omega, fun _ => ⟨by omega, fun _ => ⟨by omega, fun _ => ⟨by omega, fun _ => ⟨by omega, fun z => absurd c5 z, fun _ => ⟨by omega, by omega, fun S1 f1 => nxt _ _ e (fun hv => top y _ t S1 hs0 f1 hv)⟩⟩, fun z => by omega⟩, fun z => by omega⟩, fun z => by omega⟩, fun z => by omega⟩⟩
              · -- two joined
                have hst2 := hst'
                unfold qst at hst2
                rw [if_neg c1, if_neg c2, if_neg c3, if_neg c4, if_neg c5] at hst2
                cases hs0 : st with
                | nil => rw [hs0] at hst2; cases hst2
                | cons b t1 =>
                  cases hs1 : t1 with
                  | nil => rw [hs0, hs1] at hst2; cases hst2
                  | cons a t =>
                    rw [hs0, hs1] at hst2
                    have hst2 : (if (1 ≤ c ∧ c ≤ 11) ∧ (c < 10 ∨ ((a = 0 ∨ a = 1) ∧ (b = 0 ∨ b = 1))) then some (qjn c a b :: t) else none) = some st' := hst2
                    split at hst2
                    · rename_i hcc
                      have e : qst (mfP T) (mfO T) c st = some (qjn c a b :: t) := by rw [hst']; exact hst2.symm
                      have hls : st.length = t.length + 2 := by rw [hs0, hs1]; rfl
                      have hv : QV (qjn c a b) := by
                        rw [e] at hr
                        have hr : (if (qjn c a b :: t).length ≤ h ∧ (-1000000 ≤ qjn c a b ∧ qjn c a b ≤ 1000000) then qrun (mfP T) (mfO T) h cs (qjn c a b :: t) else none) = some [v] := hr
                        split at hr
                        · rename_i z
                          exact z.2
                        · cases hr
                      refine ⟨by omega, fun z => by omega, fun _ => ⟨by omega, by omega, fun _ => ⟨by omega, fun _ => ⟨by omega, fun _ => ⟨by omega, fun _ => ⟨by omega, fun _ => ⟨by omega, ?_⟩, fun z => absurd z c5⟩, fun z => absurd z c4⟩, fun z => by omega⟩, fun z => by omega⟩, fun z => by omega⟩⟩
                      refine meJ (T := T) (t := t) (a := a) (b := b) (by omega) ⟨hE, ?_, ?_⟩ hcc.1 hv (by omega) (fun σ' hP' => eT_162 (nxt _ σ' e (fun _ => hP')))
                      · rw [h77, hs0, hs1]
                      · rw [hs0, hs1] at hp
                        exact hp
                    · cases hst2
  refine eT_0 (fun S eS => ?_)
  refine key C 0 [] S (Nat.zero_le _) rfl ⟨⟨fun p a _ _ => by rw [eS, up_pf a], fun i a => by rw [eS, up_i (by omega)]⟩, by rw [eS, up_at]; rfl, trivial⟩ (Nat.zero_le _) hrun
