/-! ===== ask: the reference's reading (wip/whole/9u.py) ===== -/
theorem mqk {d : Nat} {o : Int → Int} {L v p e : Int} {σ : SG} {Q : Option AV → SG → Prop} (hd : 6 ≤ d) (h : RTp o L (.inr (v, p, e)) σ) (h1 : qwd o L 1 p e ≠ -1 → ∀ σ', MFr σ σ' → RTp o L (.inr (0, te o L (sk o L p), te o L (sk o L p))) σ' → Q (some (.inl (qwd o L 1 p e))) σ') (h0 : qwd o L 1 p e = -1 → ∀ σ', MFr σ σ' → RTp o L (.inl (1, sk o L p)) σ' → Q (some (.inl 5)) σ') : AW d mX9_qKind 0 [some (.inr (.inr 42)), none] [] σ Q := by
  have hwl := qw_lt (o := o) (L := L) (p := p) (e := e) (j := 1)
  have hwl2 : ((WL 1).length : Int) = 6 := rfl
  rw [hwl2] at hwl
  have w0 : pxW o L (WC 76) p e = if qwd o L 1 p e = (0 : Nat) then .inr (0, te o L (sk o L p), te o L (sk o L p)) else .inl (1, sk o L p) := pxW_q (j := 1) (i := 0) (by decide) (by decide) rfl
  have yes0 : ∀ z, pxW o L (WC 76) p e = .inr z → qwd o L 1 p e = 0 ∧ z = (0, te o L (sk o L p), te o L (sk o L p)) := by
    intro z hz
    rw [w0] at hz
    split at hz
    · rename_i c
      cases hz
      exact ⟨c, rfl⟩
    · cases hz
  have no0 : pxW o L (WC 76) p e = .inl (1, sk o L p) → qwd o L 1 p e ≠ 0 := by
    intro hz c
    rw [w0, if_pos (show qwd o L 1 p e = (0 : Nat) from c)] at hz
    cases hz
  have w1 : pxW o L (WC 77) p e = if qwd o L 1 p e = (1 : Nat) then .inr (0, te o L (sk o L p), te o L (sk o L p)) else .inl (1, sk o L p) := pxW_q (j := 1) (i := 1) (by decide) (by decide) rfl
  have yes1 : ∀ z, pxW o L (WC 77) p e = .inr z → qwd o L 1 p e = 1 ∧ z = (0, te o L (sk o L p), te o L (sk o L p)) := by
    intro z hz
    rw [w1] at hz
    split at hz
    · rename_i c
      cases hz
      exact ⟨c, rfl⟩
    · cases hz
  have no1 : pxW o L (WC 77) p e = .inl (1, sk o L p) → qwd o L 1 p e ≠ 1 := by
    intro hz c
    rw [w1, if_pos (show qwd o L 1 p e = (1 : Nat) from c)] at hz
    cases hz
  have w2 : pxW o L (WC 78) p e = if qwd o L 1 p e = (2 : Nat) then .inr (0, te o L (sk o L p), te o L (sk o L p)) else .inl (1, sk o L p) := pxW_q (j := 1) (i := 2) (by decide) (by decide) rfl
  have yes2 : ∀ z, pxW o L (WC 78) p e = .inr z → qwd o L 1 p e = 2 ∧ z = (0, te o L (sk o L p), te o L (sk o L p)) := by
    intro z hz
    rw [w2] at hz
    split at hz
    · rename_i c
      cases hz
      exact ⟨c, rfl⟩
    · cases hz
  have no2 : pxW o L (WC 78) p e = .inl (1, sk o L p) → qwd o L 1 p e ≠ 2 := by
    intro hz c
    rw [w2, if_pos (show qwd o L 1 p e = (2 : Nat) from c)] at hz
    cases hz
  have w3 : pxW o L (WC 79) p e = if qwd o L 1 p e = (3 : Nat) then .inr (0, te o L (sk o L p), te o L (sk o L p)) else .inl (1, sk o L p) := pxW_q (j := 1) (i := 3) (by decide) (by decide) rfl
  have yes3 : ∀ z, pxW o L (WC 79) p e = .inr z → qwd o L 1 p e = 3 ∧ z = (0, te o L (sk o L p), te o L (sk o L p)) := by
    intro z hz
    rw [w3] at hz
    split at hz
    · rename_i c
      cases hz
      exact ⟨c, rfl⟩
    · cases hz
  have no3 : pxW o L (WC 79) p e = .inl (1, sk o L p) → qwd o L 1 p e ≠ 3 := by
    intro hz c
    rw [w3, if_pos (show qwd o L 1 p e = (3 : Nat) from c)] at hz
    cases hz
  have w4 : pxW o L (WC 80) p e = if qwd o L 1 p e = (4 : Nat) then .inr (0, te o L (sk o L p), te o L (sk o L p)) else .inl (1, sk o L p) := pxW_q (j := 1) (i := 4) (by decide) (by decide) rfl
  have yes4 : ∀ z, pxW o L (WC 80) p e = .inr z → qwd o L 1 p e = 4 ∧ z = (0, te o L (sk o L p), te o L (sk o L p)) := by
    intro z hz
    rw [w4] at hz
    split at hz
    · rename_i c
      cases hz
      exact ⟨c, rfl⟩
    · cases hz
  have no4 : pxW o L (WC 80) p e = .inl (1, sk o L p) → qwd o L 1 p e ≠ 4 := by
    intro hz c
    rw [w4, if_pos (show qwd o L 1 p e = (4 : Nat) from c)] at hz
    cases hz
  have w5 : pxW o L (WC 81) p e = if qwd o L 1 p e = (5 : Nat) then .inr (0, te o L (sk o L p), te o L (sk o L p)) else .inl (1, sk o L p) := pxW_q (j := 1) (i := 5) (by decide) (by decide) rfl
  refine wK_0 ⟨by omega, mtakesW (Or.inr (by decide)) (by omega) h (fun S z hz hM hR => ?_) (fun S0 hz0 hM0 hR0 hS0 => ?_)⟩
  · obtain ⟨e1, e2⟩ := yes0 z hz
    rw [e2] at hR
    have hQ := h1 (by omega) S hM hR
    rw [e1] at hQ
    exact wK_8 ⟨by decide, fun z => absurd z (by decide), fun _ => hQ⟩
  refine wK_8 ⟨by decide, fun _ => ⟨by omega, mtakesW (Or.inr (by decide)) (by omega) hR0 (fun S z hz hM hR => ?_) (fun S1 hz1 hM1 hR1 hS1 => ?_)⟩, fun z => absurd rfl z⟩
  · obtain ⟨e1, e2⟩ := yes1 z hz
    rw [e2] at hR
    have hQ := h1 (by omega) S (hM0.tr hM) hR
    rw [e1] at hQ
    exact wK_23 ⟨by decide, fun z => absurd z (by decide), fun _ => hQ⟩
  refine wK_23 ⟨by decide, fun _ => ⟨by omega, mtakesW (Or.inr (by decide)) (by omega) hR1 (fun S z hz hM hR => ?_) (fun S2 hz2 hM2 hR2 hS2 => ?_)⟩, fun z => absurd rfl z⟩
  · obtain ⟨e1, e2⟩ := yes2 z hz
    rw [e2] at hR
    have hQ := h1 (by omega) S (hM0.tr (hM1.tr hM)) hR
    rw [e1] at hQ
    exact wK_38 ⟨by decide, fun z => absurd z (by decide), fun _ => hQ⟩
  refine wK_38 ⟨by decide, fun _ => ⟨by omega, mtakesW (Or.inr (by decide)) (by omega) hR2 (fun S z hz hM hR => ?_) (fun S3 hz3 hM3 hR3 hS3 => ?_)⟩, fun z => absurd rfl z⟩
  · obtain ⟨e1, e2⟩ := yes3 z hz
    rw [e2] at hR
    have hQ := h1 (by omega) S (hM0.tr (hM1.tr (hM2.tr hM))) hR
    rw [e1] at hQ
    exact wK_53 ⟨by decide, fun z => absurd z (by decide), fun _ => hQ⟩
  refine wK_53 ⟨by decide, fun _ => ⟨by omega, mtakesW (Or.inr (by decide)) (by omega) hR3 (fun S z hz hM hR => ?_) (fun S4 hz4 hM4 hR4 hS4 => ?_)⟩, fun z => absurd rfl z⟩
  · obtain ⟨e1, e2⟩ := yes4 z hz
    rw [e2] at hR
    have hQ := h1 (by omega) S (hM0.tr (hM1.tr (hM2.tr (hM3.tr hM)))) hR
    rw [e1] at hQ
    exact wK_68 ⟨by decide, fun z => absurd z (by decide), fun _ => hQ⟩
  refine wK_68 ⟨by decide, fun _ => ⟨by omega, masksW (Or.inr (by decide)) (by omega) hR4 (fun S hM5 hR5 => wK_90 ?_)⟩, fun z => absurd rfl z⟩
  change RTp o L (pxW o L (WC 81) p e) S at hR5
  have n0 := no0 hz0
  have n1 := no1 hz1
  have n2 := no2 hz2
  have n3 := no3 hz3
  have n4 := no4 hz4
  rw [w5] at hR5
  by_cases c : qwd o L 1 p e = (5 : Nat)
  · rw [if_pos c] at hR5
    have hQ := h1 (by omega) S (hM0.tr (hM1.tr (hM2.tr (hM3.tr (hM4.tr hM5))))) hR5
    rw [c] at hQ
    exact hQ
  · rw [if_neg c] at hR5
    exact h0 (by omega) S (hM0.tr (hM1.tr (hM2.tr (hM3.tr (hM4.tr hM5))))) hR5
/-- a whole question, read -/
def qrd (o : Int → Int) (L : Int) : Sum (Int × Int) (Int × List Int) := if qwd o L 1 0 (-1) = -1 then .inl (1, sk o L 0) else match qx o L 17000 (if qwd o L 1 0 (-1) ≤ 2 then 8 else 2) 0 (te o L (sk o L 0)) (te o L (sk o L 0)) with
  | .inl z => .inl z
  | .inr z => if kd o L z.2.2 (sk o L z.2.1) = 0 then .inr (qwd o L 1 0 (-1), z.1) else .inl (1, sk o L z.2.1)
def AFm (τ T : SG) : Prop := (∀ p, p ≠ 42 → p ≠ 96 → p ≠ 97 → T p = τ p) ∧ ∀ i, (i = 9 ∨ (10 < i ∧ i < 27) ∨ (27 < i ∧ i < 71) ∨ 79 < i) → T 42 i = τ 42 i
theorem AFm.w {τ S T : SG} (h : AFm τ S) (k : MQw S T) : AFm τ T := ⟨fun p a b c => (k.1 p a b c).trans (h.1 p a b c), fun i a => (k.2 i (by omega)).trans (h.2 i a)⟩
theorem AFm.u {τ S T : SG} (h : AFm τ S) {i v : Int} (hi : (0 < i ∧ i < 9) ∨ i = 78 ∨ i = 79) (e : T = up S 42 i v) : AFm τ T := ⟨fun p a b c => by rw [e, up_pf a]; exact h.1 p a b c, fun j a => by rw [e, up_i (by omega)]; exact h.2 j a⟩
theorem mask {d : Nat} {o : Int → Int} {L : Int} {τ : SG} {Q : Option AV → SG → Prop} (hd : 60 ≤ d) (h43 : ∀ i, 0 ≤ i → i < 1600 → τ 43 i = o i) (hL1 : τ 42 1 = L) (hL : 0 ≤ L ∧ L ≤ 1600) (ho : OCT o) (hW : WD τ)
    (hq0 : ∀ T z, qrd o L = .inl z → AFm τ T → T 42 1 = 0 → T 42 7 = z.1 → T 42 8 = z.2 → Q (some (.inr (.inl (-1000000000)))) T)
    (hq1 : ∀ T K C, qrd o L = .inr (K, C) → AFm τ T → T 42 1 = 0 → T 42 7 = 0 → T 42 8 = -1 → (T 42 71 = (C.length : Int) ∧ ∀ i : Nat, i < C.length → T 96 (i : Int) = C.getD i 0) → C.length ≤ 1600 → T 42 78 = (if K < 2 then -1 else 0) → T 42 79 = 1 → (0 ≤ K ∧ K ≤ 5) → AW d mX9_ask 166 [some (.inr (.inr 42)), some (.inl K), some (.inl 0)] [] (putF T 72 (cpR (T 72) (T 69) 0 0 254)) Q) : AW d mX9_ask 0 [some (.inr (.inr 42)), none, none] [] τ Q := by
  refine aM_0 (fun S1 e1 S2 e2 S3 e3 S4 e4 S5 e5 S6 e6 S7 e7 S8 e8 S9 e9 S e10 => ⟨by omega, ?_⟩)
  have eS : ∀ p, p ≠ 42 → S p = τ p := fun p a => by rw [e10, up_pf a, e9, up_pf a, e8, up_pf a, e7, up_pf a, e6, up_pf a, e5, up_pf a, e4, up_pf a, e3, up_pf a, e2, up_pf a, e1, up_pf a]
  have z42 : S 42 = upf (upf (upf (upf (upf (upf (upf (upf (upf (upf (τ 42) 3 (τ 42 1)) 1 0) 2 0) 4 (-1)) 5 0) 6 (-1)) 71 0) 73 0) 74 0) 75 0 := by
    rw [e10, up_rw, putF_at, e9, up_rw, putF_at, e8, up_rw, putF_at, e7, up_rw, putF_at, e6, up_rw, putF_at, e5, up_rw, putF_at, e4, up_rw, putF_at, e3, up_rw, putF_at, e2, up_rw, putF_at, e1, up_rw, putF_at]
  have k : ∀ i, S 42 i = if i = 75 then 0 else if i = 74 then 0 else if i = 73 then 0 else if i = 71 then 0 else if i = 6 then -1 else if i = 5 then 0 else if i = 4 then -1 else if i = 2 then 0 else if i = 1 then 0 else if i = 3 then L else τ 42 i := by
    intro i
    rw [z42, ← hL1]
    unfold upf
    rfl
  have hA : AFm τ S := by
    refine ⟨fun p a _ _ => eS p a, fun i hi => ?_⟩
    rw [k i]
    repeat (rw [if_neg (by omega)])
  have hR : RTp o L (.inr (0, 0, -1)) S := by
    refine RTp.mk ⟨fun i i0 i1 => ?_, ?_, hL, ho, hW.cong (fun p hp => eS p (by unfold WP at hp; omega))⟩ ⟨?_, ?_⟩ ?_ (by decide) ?_ ?_
    · rw [eS 43 (by decide)]
      exact h43 i i0 i1
    · rw [k 3]; rfl
    · rw [k 5]; rfl
    · rw [k 6]; rfl
    · rw [show S 42 2 = 0 by rw [k 2]; rfl]
      exact ⟨by decide, hL.1, rfl⟩
    · rw [show S 42 4 = -1 by rw [k 4]; rfl]
      decide
    · rw [show S 42 4 = -1 by rw [k 4]; rfl]
      exact fun s _ => Iff.rfl
  have hq : RQs [] [] 0 0 S := ⟨⟨by rw [k 71]; rfl, fun i hi => absurd hi (Nat.not_lt_zero _)⟩, ⟨by rw [k 73]; rfl, trivial⟩, by rw [k 74]; rfl, by rw [k 75]; rfl, by decide⟩
  have hS1 : S 42 1 = 0 := by rw [k 1]; rfl
  -- a fault
  have bad : ∀ (T : SG) (z : Int × Int), qrd o L = .inl z → AFm τ T → T 42 1 = 0 → RTp o L (.inl z) T → ∀ U, U = up T 42 7 (T 42 5) → ∀ W, W = up U 42 8 (U 42 6) → r3 (W 42 5) ∧ W 42 5 ≠ 0 ∧ Q (some (.inr (.inl (-1000000000)))) W := by
    intro T z hz hA h1 hR U eU W eW
    have h5 := rt1 hR
    have g := hR.2
    have w5 : W 42 5 = T 42 5 := by rw [eW, up_i (by decide), eU, up_i (by decide)]
    rw [w5]
    refine ⟨by omega, by omega, hq0 W z hz ((hA.u (by omega) eU).u (by omega) eW) ?_ ?_ ?_⟩
    · rw [eW, up_i (by decide), eU, up_i (by decide)]
      exact h1
    · rw [eW, up_i (by decide), eU, up_at]
      exact g.1
    · rw [eW, up_at, eU, up_i (by decide)]
      exact g.2.1
  have hwl := qw_lt (o := o) (L := L) (p := 0) (e := -1) (j := 1)
  have hwl2 : ((WL 1).length : Int) = 6 := rfl
  rw [hwl2] at hwl
  refine mqk (by omega) hR (fun hw T hMT hRT => ?_) (fun hw T hMT hRT => ?_)
  · have hAT := hA.w (MQf.of hMT).w
    have h5 := rt0 hRT
    have hT1 : T 42 1 = 0 := by rw [hMT.2 1 (by decide) (by decide) (by decide) (by decide) (by decide) (by decide)]; exact hS1
    have hqT := hq.mf hMT
    have ht := tok (o := o) (L := L) (-1) (p := 0) (by decide) hL.1
    have hnl := (name_lt (p := 0) (by decide) hL.1 (qwd_t hw)).1
    have er : qrd o L = match qx o L 17000 (if qwd o L 1 0 (-1) ≤ 2 then 8 else 2) 0 (te o L (sk o L 0)) (te o L (sk o L 0)) with
      | .inl z => .inl z
      | .inr z => if kd o L z.2.2 (sk o L z.2.1) = 0 then .inr (qwd o L 1 0 (-1), z.1) else .inl (1, sk o L z.2.1) := by
      unfold qrd
      rw [if_neg hw]
    generalize qwd o L 1 0 (-1) = K at *
    -- behind the reading
    have tail : ∀ (C : List Int) (p' e' v' : Int) (U : SG), qrd o L = (if kd o L e' (sk o L p') = 0 then .inr (K, C) else .inl (1, sk o L p')) → MQw T U → RTp o L (.inr (v', p', e')) U → RQs C [] 0 0 U → AW (d - 1) mX9_look 0 [some (.inr (.inr 42))] [] U (fun rr σ' => AW d mX9_ask 99 [some (.inr (.inr 42)), some (.inl K), none] (rtS rr []) σ' Q) := by
      intro C p' e' v' U ez hMU hRU hqU
      have hp0 := hRU.f.2.2.2.1
      have hp1 := hRU.f.2.2.1
      have ht2 := tok (o := o) (L := L) e' hp0 (by omega)
      have hlr := lkV_r (o := o) (L := L) (s := sk o L p') ho (by omega) hL.2
      refine mlook hRU (fun W _ hMW hRW hW2 => ?_)
      have hAW := (hAT.w hMU).w (MQf.of hMW).w
      have hW1 : W 42 1 = 0 := by rw [hMW.2 1 (by decide) (by decide) (by decide) (by decide) (by decide) (by decide), hMU.2 1 (by omega)]; exact hT1
      have g5 := hRW.f.2.1
      have hqW := hqU.mf hMW
      have hlk : lkV o L (sk o L p') = -1 ↔ kd o L e' (sk o L p') = 0 := by
        rw [ht2.2.2.1]
        unfold lkV
        by_cases c : sk o L p' < L
        · rw [if_pos c]
          have := ho (sk o L p') (by omega) (by omega)
          exact ⟨fun z => by omega, fun z => by omega⟩
        · rw [if_neg c]
          exact ⟨fun _ => by omega, fun _ => rfl⟩
      refine aM_99 ⟨by omega, fun c X eX Y eY => ?_, fun c => ⟨by omega, by omega, fun _ A1 f1 A2 f2 A3 f3 A4 f4 => ?_, fun z => absurd g5.1 z⟩⟩
      · rw [if_pos (hlk.mp c)] at ez
        have hAY := (hAW.u (by omega) eX).u (by omega) eY
        have y5 : Y 42 5 = 0 := by rw [eY, up_i (by decide), eX, up_i (by decide)]; exact g5.1
        have fin : ∀ (x : Int) (P1 P2 : SG), x = (if K < 2 then -1 else 0) → P1 = up Y 42 78 x → P2 = up P1 42 79 1 → AW d mX9_ask 166 [some (.inr (.inr 42)), some (.inl K), some (.inl 0)] [] (putF P2 72 (cpR (P2 72) (P2 69) 0 0 254)) Q := by
          intro x P1 P2 hx f1 f2
          have y : ∀ i, i ≠ 78 → i ≠ 79 → i ≠ 7 → i ≠ 8 → P2 42 i = W 42 i := fun i a b c e => by rw [f2, up_i b, f1, up_i a, eY, up_i e, eX, up_i c]
          refine hq1 P2 K C ez ((hAY.u (by omega) f1).u (by omega) f2) ?_ ?_ ?_ ⟨?_, fun i hi => ?_⟩ ?_ ?_ ?_ (by omega)
          · rw [y 1 (by decide) (by decide) (by decide) (by decide)]
            exact hW1
          · rw [f2, up_i (by decide), f1, up_i (by decide), eY, up_i (by decide), eX, up_at]
            exact g5.1
          · rw [f2, up_i (by decide), f1, up_i (by decide), eY, up_at, eX, up_i (by decide)]
            exact g5.2
          · rw [y 71 (by decide) (by decide) (by decide) (by decide)]
            exact hqW.1.1
          · rw [f2, up_p (by decide), f1, up_p (by decide), eY, up_p (by decide), eX, up_p (by decide)]
            exact hqW.1.2 i hi
          · have := hqW.2.2.2.2
            omega
          · rw [f2, up_i (by decide), f1, up_at]
            exact hx
          · rw [f2, up_at]
        rw [y5]
        exact ⟨by decide, fun _ => ⟨by omega, fun c2 P1 f1 P2 f2 => ⟨by omega, fin 0 P1 P2 (by rw [if_neg (by omega)]) f1 f2⟩, fun c2 P1 f1 P2 f2 => ⟨by omega, fin (-1) P1 P2 (by rw [if_pos c2]) f1 f2⟩⟩, fun z => absurd rfl z⟩
      · rw [if_neg (fun z => c (hlk.mpr z))] at ez
        have hf := mfail (k := 1) (pl := sk o L p') hRW (by decide)
        rw [hW2] at f2
        rw [f1] at f2
        rw [← f2] at hf
        have hA2 := hAW.w (MQf.of hf.2).w
        have h21 : A2 42 1 = 0 := by rw [hf.2.2 1 (by decide) (by decide) (by decide) (by decide) (by decide) (by decide)]; exact hW1
        obtain ⟨b1, b2, b3⟩ := bad A2 _ ez hA2 h21 hf.1 A3 f3 A4 f4
        exact ⟨b1, fun z => absurd z b2, fun _ => b3⟩
    have hn : 10 * (L - te o L (sk o L 0)) + 7 ≤ ((17000 : Nat) : Int) := by omega
    have faulty : ∀ (U : SG) (z : Int × Int), qrd o L = .inl z → MQw T U → RTp o L (.inl z) U → ∀ A, A = up U 42 7 (U 42 5) → ∀ A2, A2 = up A 42 8 (A 42 6) → r3 (A2 42 5) ∧ A2 42 5 ≠ 0 ∧ Q (some (.inr (.inl (-1000000000)))) A2 := by
      intro U z hz hMU hRU
      exact bad U z hz (hAT.w hMU) (by rw [hMU.2 1 (by omega)]; exact hT1) hRU
    by_cases c3 : K ≤ 2
    · rw [if_pos c3] at er
      refine aM_57 ⟨by omega, fun z => absurd h5 z, fun _ => ⟨by omega, fun z => by omega, fun _ => ⟨by omega, ?_⟩⟩⟩
      refine mtest (n := 17000) (by omega) hn (by decide) hRT hqT (by rw [List.length_nil]; omega) (fun z U hX hMU hRU => ?_) (fun C p' e' v' U hX hMU hRU hqU => ?_)
      · have h5U := rt1 hRU
        rw [hX] at er
        refine aM_74 ⟨by omega, fun _ A f1 A2 f2 => ?_, fun z => by omega⟩
        obtain ⟨b1, b2, b3⟩ := faulty U z er hMU hRU A f1 A2 f2
        exact ⟨b1, fun z => absurd z b2, fun _ => b3⟩
      · have h5U := rt0 hRU
        rw [hX] at er
        rw [List.nil_append] at hqU
        exact aM_74 ⟨by omega, fun z => absurd h5U z, fun _ => ⟨by omega, tail C p' e' v' U er hMU.w hRU hqU⟩⟩
    · rw [if_neg c3] at er
      refine aM_57 ⟨by omega, fun z => absurd h5 z, fun _ => ⟨by omega, fun _ => ⟨by omega, fun z => absurd h5 z, fun _ => ⟨by omega, ?_⟩⟩, fun z => by omega⟩⟩
      have nh : ∀ x : Int, ([] : List Int).head? ≠ some x := fun x z => by cases z
      refine msum (n := 17000) (by omega) (by omega) (by decide) ⟨nh 1, nh 2, nh 3, nh 4⟩ hRT hqT (by rw [List.length_nil]; omega) (fun z U hX hMU hRU => ?_) (fun C p' e' v' U hX _ hMU hRU hqU => ?_)
      · have h5U := rt1 hRU
        rw [hX] at er
        refine aM_88 ⟨by omega, fun _ A f1 A2 f2 => ?_, fun z => by omega⟩
        obtain ⟨b1, b2, b3⟩ := faulty U z er hMU.w hRU A f1 A2 f2
        exact ⟨b1, fun z => absurd z b2, fun _ => b3⟩
      · have h5U := rt0 hRU
        rw [hX] at er
        rw [List.nil_append] at hqU
        exact aM_88 ⟨by omega, fun z => absurd h5U z, fun _ => ⟨by omega, tail C p' e' v' U er hMU.w hRU hqU⟩⟩
  · have hAT := hA.w (MQf.of hMT).w
    have h5 := rt1 hRT
    have hT1 : T 42 1 = 0 := by rw [hMT.2 1 (by decide) (by decide) (by decide) (by decide) (by decide) (by decide)]; exact hS1
    have ez : qrd o L = .inl (1, sk o L 0) := by
      unfold qrd
      rw [if_pos hw]
    refine aM_57 ⟨by omega, fun _ => ⟨by omega, fun _ => ⟨by omega, fun _ A f1 A2 f2 => ?_, fun z => by omega⟩, fun z => by omega⟩, fun z => by omega⟩
    obtain ⟨b1, b2, b3⟩ := bad T _ ez hAT hT1 hRT A f1 A2 f2
    exact ⟨b1, fun z => absurd z b2, fun _ => b3⟩
