/-! ===== ask (wip/whole/9y.py) ===== -/
theorem SIM.ask {n : Int} {σ T : SG} {r q : Nat} (h : SIM n σ r q) (e : ∀ p, p ≠ 2 → p ≠ 27 → p ≠ 28 → p ≠ 29 → p ≠ 37 → p ≠ 42 → p ≠ 69 → p ≠ 70 → p ≠ 72 → p ≠ 96 → p ≠ 97 → p ≠ 98 → T p = σ p) (e69 : ∀ i, 0 ≤ i → i < 254 → T 69 i = σ 69 i) (e40 : T 42 40 = σ 42 40) (e41 : T 42 41 = σ 42 41) (e81 : T 42 81 = σ 42 81) (t1 : T 2 1 = 0 ∧ T 42 1 = 0) (t7 : T 42 7 = T 2 2 ∧ T 42 8 = T 2 3) : SIM n T r q := by
  have hrr := h.rr
  obtain ⟨hrq, hxy, hTP, hRF, hRL, hRS, hHI, hPI, hWD⟩ := h
  have er : ∀ p, (r ≤ p ∧ p ≤ r + 10) → T p = σ p := fun p hp => e p (by omega) (by omega) (by omega) (by omega) (by omega) (by omega) (by omega) (by omega) (by omega) (by omega) (by omega) (by omega)
  have ed : ∀ p, p = 0 ∨ p = 1 ∨ p = 3 ∨ p = 4 ∨ p = 35 ∨ p = 38 ∨ p = 39 ∨ p = 40 ∨ p = 41 ∨ p = 43 ∨ p = 44 ∨ (45 ≤ p ∧ p ≤ 60) ∨ p = 61 ∨ p = 62 ∨ p = 63 ∨ p = 64 ∨ p = 65 ∨ p = 68 ∨ p = 71 ∨ (76 ≤ p ∧ p ≤ 95) ∨ p = 99 → T p = σ p := fun p hp => e p (by omega) (by omega) (by omega) (by omega) (by omega) (by omega) (by omega) (by omega) (by omega) (by omega) (by omega) (by omega)
  refine ⟨hrq, ?_, ⟨⟨by omega, by omega, by omega⟩, ?_, t7.1, t7.2⟩, ?_, ?_, ?_, ?_, ?_, ?_⟩
  · rw [ed 0 (by omega), ed 4 (by omega)]
    exact hxy
  · rw [ed 43 (by omega), ed 3 (by omega)]
    exact hTP.2.1
  · unfold RF
    rw [ed 44 (by omega), ed 1 (by omega)]
    exact hRF
  · refine ER.rlr (σ := σ) ⟨fun p hp => ?_, ?_⟩ hRL
    · by_cases c : r ≤ p ∧ p ≤ r + 10
      · exact er p c
      · exact ed p (by omega)
    · rw [ed 61 (by omega), ed 62 (by omega), ed 63 (by omega), ed 64 (by omega), ed 65 (by omega), ed 68 (by omega)]
      exact ⟨fun _ _ => rfl, fun _ _ => rfl, fun _ _ => rfl, fun _ _ => rfl, fun _ _ => rfl, rfl⟩
  · rw [er r (by omega), er (r + 2) (by omega), ed 35 (by omega)]
    exact hRS.cong hRL.1.1.2 hRL.hH (fun _ _ _ => rfl) e69
  · unfold HI
    rw [er r (by omega), er (r + 2) (by omega), ed 38 (by omega), ed 39 (by omega), ed 71 (by omega), e40, e41]
    exact hHI
  · unfold PI
    rw [ed 40 (by omega), ed 41 (by omega), ed 99 (by omega), e81]
    exact hPI
  · exact hWD.cong (fun p hp => ed p (by unfold WP at hp; omega))
theorem qrd_x {o : Int → Int} {L K : Int} {C : List Int} (h : qrd o L = .inr (K, C)) : ∃ p e p' e', qx o L 17000 (if K ≤ 2 then 8 else 2) 0 p e = .inr (C, p', e') := by
  unfold qrd at h
  split at h
  · cases h
  · split at h
    · cases h
    · rename_i z hz
      split at h
      · cases h
        exact ⟨_, _, z.2.1, z.2.2, hz⟩
      · cases h
theorem an_ca {K : Int} {V : Int → Int} {td m : Int} (hK : 0 ≤ K ∧ K ≤ 5) (hB : K ≤ 2 → ∀ i, 0 ≤ i → QB (V i)) (hm : 0 ≤ m) : anV K V td m = caV K V td m := by
  have e : ((m.toNat : Nat) : Int) = m := by omega
  unfold anV caV
  by_cases c1 : K ≤ 1
  · have := an_fn (K := K) (V := V) (td := td) (by omega) (hB (by omega)) m.toNat
    rw [e] at this
    rw [if_pos c1, ← this]
  · by_cases c3 : K ≤ 3
    · have := an_sm (K := K) (V := V) (td := td) (by
        by_cases c : K = 2
        · exact Or.inl ⟨c, hB (by omega)⟩
        · exact Or.inr (by omega)) m.toNat
      rw [e] at this
      rw [if_neg c1, if_pos c3, ← this]
    · have := an_bs (K := K) (V := V) (td := td) (by omega) m.toNat
      rw [e] at this
      rw [if_neg c1, if_neg c3, ← this]
theorem call_ask {d : Nat} {n : Int} {σ : SG} {r q : Nat} (hd : 100 ≤ d) (hB : n * 300000 ≤ 1000000000) (h : SIM n σ r q) : AW d mX8_ask 0 [some (.inr (.inr 0)), none] [] σ (SAME d n r q mX9_ask [some (.inr (.inr 42)), none, none]) := by
  obtain ⟨hr, hq, hx, hy⟩ := h.rr
  obtain ⟨x1, x2, x3, x4, m1, m2, m3, e4, e1, b1, b2, b3⟩ := h.fx
  obtain ⟨_, _, ⟨⟨tL0, tL1, tL2⟩, t43, t7, t8⟩, hRF, hRL, hRS, hHI, hPI, hWD⟩ := id h
  have ho : OCT (σ 3) := fun i a b => (t43 i a b).2
  refine aC_0 ⟨by omega, cask (o := σ 3) (L := σ 2 1) (by omega) rfl rfl ⟨tL0, tL1⟩ ho (fun S z hz hp s2 s3 => ?_) (fun S K C hz hp s23 hQS s4 hCl hK => ?_)⟩
  · -- refused
    refine aC_7 hr (by rw [hp 0 (by decide) (by decide) (by decide)]; exact hx) (fun S1 f1 => ⟨by decide, fun z => absurd rfl z, fun _ => ?_⟩)
    have p1 : ∀ p, p ≠ 2 → p ≠ 27 → p ≠ 28 → S1 p = σ p := fun p a b c => by rw [f1, up_pf a]; exact hp p a b c
    unfold SAME
    refine mask (o := σ 3) (L := σ 2 1) (by omega) (fun i a b => ?_) ?_ ⟨tL0, tL1⟩ ho ?_ (fun T z' hz' hA u1 u7 u8 => ?_) (fun T K C hz' => by rw [hz] at hz'; cases hz')
    · rw [p1 43 (by decide) (by decide) (by decide)]
      exact (t43 i a b).1
    · rw [p1 42 (by decide) (by decide) (by decide)]
      exact tL2
    · exact hWD.cong (fun p hp => p1 p (by unfold WP at hp; omega) (by unfold WP at hp; omega) (by unfold WP at hp; omega))
    · rw [hz] at hz'
      cases hz'
      refine ⟨rfl, h.ask (fun p a b c e f g i j k l m o => ?_) (fun i a b => ?_) ?_ ?_ ?_ ⟨?_, u1⟩ ⟨?_, ?_⟩⟩
      · rw [hA.1 p g l m]
        exact p1 p a b c
      · rw [hA.1 69 (by decide) (by decide) (by decide), p1 69 (by decide) (by decide) (by decide)]
      · rw [hA.2 40 (by decide), p1 42 (by decide) (by decide) (by decide)]
      · rw [hA.2 41 (by decide), p1 42 (by decide) (by decide) (by decide)]
      · rw [hA.2 81 (by decide), p1 42 (by decide) (by decide) (by decide)]
      · rw [hA.1 2 (by decide) (by decide) (by decide), f1, up_at]
      · rw [u7, hA.1 2 (by decide) (by decide) (by decide), f1, up_i (by decide), s2]
      · rw [u8, hA.1 2 (by decide) (by decide) (by decide), f1, up_i (by decide), s3]
  · -- read
    refine aC_7 hr (by rw [hp 0 (by decide) (by decide) (by decide)]; exact hx) (fun S1 f1 => ⟨by decide, fun _ => ⟨by omega, by omega, fun S2 f2 => ?_⟩, fun z => absurd z (by decide)⟩)
    have p1 : ∀ p, p ≠ 2 → p ≠ 27 → p ≠ 28 → S1 p = σ p := fun p a b c => by rw [f1, up_pf a]; exact hp p a b c
    have q2 : ∀ p, p ≠ 37 → S2 p = S1 p := fun p a => by
      rw [f2]
      funext i
      unfold cpy
      rw [if_neg (fun z => a z.1)]
    have p2 : ∀ p, p ≠ 2 → p ≠ 27 → p ≠ 28 → p ≠ 37 → S2 p = σ p := fun p a b c e => by rw [q2 p e]; exact p1 p a b c
    have f37 : ∀ j, 0 ≤ j → j < 214 → S2 37 j = σ 35 j := by
      intro j j0 j1
      rw [f2]
      unfold cpy
      rw [if_pos ⟨rfl, by omega, by omega⟩, p1 35 (by decide) (by decide) (by decide)]
      congr 1
      omega
    have z35 : S2 35 0 = σ 35 0 := by rw [p2 35 (by decide) (by decide) (by decide) (by decide)]
    have htd := hRS.1
    have htd2 : 0 ≤ σ 35 0 ∧ σ 35 0 ≤ 999 := by omega
    generalize htd0 : σ 35 0 = td at *
    rw [z35]
    refine ⟨by omega, by omega, by omega, by omega, by omega, ?_⟩
    have eN : (if 999 < td + 100 then (999 : Int) else td + 100) = td + ((if 999 < td + 100 then 999 else td + 100) - td) := by omega
    rw [eN]
    generalize hNN : (if 999 < td + 100 then (999 : Int) else td + 100) - td = N
    have N0 : (0 ≤ N ∧ N ≤ 100) ∧ (N = 100 ∨ td + N = 999) ∧ td + N ≤ 999 := by
      rw [← hNN]
      split <;> omega
    have hL2 : RLR S2 r := by
      refine ER.rlr (σ := σ) ⟨fun p hp => p2 p (by omega) (by omega) (by omega) (by omega), ?_⟩ hRL
      rw [p2 61 (by decide) (by decide) (by decide) (by decide), p2 62 (by decide) (by decide) (by decide) (by decide), p2 63 (by decide) (by decide) (by decide) (by decide), p2 64 (by decide) (by decide) (by decide) (by decide), p2 65 (by decide) (by decide) (by decide) (by decide), p2 68 (by decide) (by decide) (by decide) (by decide)]
      exact ⟨fun _ _ => rfl, fun _ _ => rfl, fun _ _ => rfl, fun _ _ => rfl, fun _ _ => rfl, rfl⟩
    have zr : S2 r = σ r := p2 r (by omega) (by omega) (by omega) (by omega)
    have zr2 : S2 (r + 2) = σ (r + 2) := p2 (r + 2) (by omega) (by omega) (by omega) (by omega)
    have hRS0 := hRS.cong hRL.1.1.2 hRL.hH f37 (fun _ _ _ => rfl)
    have days := fun (i : Int) (i0 : 0 ≤ i) (i1 : i ≤ 101) => (by
      have s := hRS0.days hRL.1.1.2 hRL.hH (by decide) (σ r 4) i.toNat (by omega)
      rwa [show ((i.toNat : Nat) : Int) = i by omega] at s : RS (σ r 0) (σ (r + 2)) (n * 300000 + 2376 * i) (999 + i) (foI (dsF (σ r 4)) (S2 37, 0) i).1 (foI (mdsF (σ r 4)) (σ 69, 0) i).1 ∧ (foI (dsF (σ r 4)) (S2 37, 0) i).2 = (foI (mdsF (σ r 4)) (σ 69, 0) i).2 ∧ (foI (dsF (σ r 4)) (S2 37, 0) i).1 0 = S2 37 0 + i ∧ (foI (dsF (σ r 4)) (S2 37, 0) i).1 1 = S2 37 1 ∧ (0 ≤ (foI (dsF (σ r 4)) (S2 37, 0) i).2 ∧ (foI (dsF (σ r 4)) (S2 37, 0) i).2 ≤ 24 * i))
    have f370 := f37 0 (by decide) (by decide)
    have f371 := f37 1 (by decide) (by decide)
    generalize hF : (fun i => (foI (dsF (σ r 4)) (S2 37, 0) i).1) = F
    generalize hM : (fun i => (foI (mdsF (σ r 4)) (σ 69, 0) i).1) = M
    have eF : ∀ i, (foI (dsF (σ r 4)) (S2 37, 0) i).1 = F i := fun i => by rw [← hF]
    have eM : ∀ i, (foI (mdsF (σ r 4)) (σ 69, 0) i).1 = M i := fun i => by rw [← hM]
    have hF0 : F 0 = S2 37 := by rw [← hF]; rfl
    have hM0 : M 0 = σ 69 := by rw [← hM]; rfl
    have hFs : ∀ i, 0 ≤ i → F (i + 1) = dyR (F i) (σ r 4) := fun i i0 => by rw [← eF (i + 1), ← eF i, foI_s _ _ i0]; rfl
    have hMs : ∀ i, 0 ≤ i → M (i + 1) = mdyR (M i) (σ r 4) := fun i i0 => by rw [← eM (i + 1), ← eM i, foI_s _ _ i0]; rfl
    have hR : ∀ i, 0 ≤ i → i ≤ 101 → RS (σ r 0) (σ (r + 2)) (n * 300000 + 2376 * i) (999 + i) (F i) (M i) ∧ F i 0 = td + i ∧ M i 0 = td + i ∧ M i 1 = σ 69 1 := by
      intro i i0 i1
      obtain ⟨d1, _, d3, d4, _⟩ := days i i0 i1
      rw [eF, eM] at d1
      rw [eF] at d3 d4
      have g0 := d1.1
      have g1 := d1.2.1
      exact ⟨d1, by omega, by omega, by omega⟩
    -- the values
    obtain ⟨px, ex, px', ex', hqx⟩ := qrd_x hz
    have ev : ∀ i, ∃ v, ((if K ≤ 2 then 8 else 2) = 8 → QB v) ∧ QV v ∧ qrun (mfP (putF S2 69 (M i))) (mfO (putF S2 69 (M i))) 64 C [] = some [v] := fun i => val_ex (mQD _) (by split <;> simp) hqx
    generalize hV : (fun i => ((qrun (mfP (putF S2 69 (M i))) (mfO (putF S2 69 (M i))) 64 C []).getD []).headD 0) = V
    have hVr : ∀ i, qrun (mfP (putF S2 69 (M i))) (mfO (putF S2 69 (M i))) 64 C [] = some [V i] ∧ QV (V i) ∧ (K ≤ 2 → QB (V i)) := by
      intro i
      obtain ⟨v, v1, v2, v3⟩ := ev i
      have e : V i = v := by
        rw [← hV]
        show ((qrun (mfP (putF S2 69 (M i))) (mfO (putF S2 69 (M i))) 64 C []).getD []).headD 0 = v
        rw [v3]
        rfl
      rw [e]
      exact ⟨v3, v2, fun c => v1 (by rw [if_pos c])⟩
    have hQ2 : QSc C 0 S2 := by
      unfold QSc
      rw [q2 27 (by decide), q2 28 (by decide), f1, up_pf (by decide), up_pf (by decide)]
      exact hQS
    refine cdl (F := F) (M := M) (V := V) (C := C) (K := K) (B := n * 300000) (by omega) hr hK hL2 hB htd2 (fun i i0 i1 => ?_) hF0 (fun i i0 => by rw [zr]; exact hFs i i0) (fun i _ => (hVr i).2.1) (fun i _ _ => (hVr i).1) hQ2 hCl ?_ ⟨N0.1, N0.2.2⟩ (fun T hT => aC_54 ?_)
    · rw [zr, zr2]
      obtain ⟨a, b, _, _⟩ := hR i i0 i1
      exact ⟨a, b⟩
    · rw [q2 27 (by decide), f1, up_pf (by decide)]
      exact s4
    have pT : ∀ p, p ≠ 2 → p ≠ 27 → p ≠ 28 → p ≠ 29 → p ≠ 37 → T p = σ p := fun p a b c e f => by rw [hT p b e f]; exact p2 p a b c f
    have pT2 : ∀ i, T 2 i = S1 2 i := fun i => by rw [hT 2 (by decide) (by decide) (by decide), q2 2 (by decide)]
    unfold SAME
    refine mask (o := σ 3) (L := σ 2 1) (by omega) (fun i a b => ?_) ?_ ⟨tL0, tL1⟩ ho ?_ (fun T' z' hz' => by rw [hz] at hz'; cases hz') (fun T' K' C' hz' hA u1 u7 u8 hC' hl' u78 u79 hK' => ?_)
    · rw [pT 43 (by decide) (by decide) (by decide) (by decide) (by decide)]
      exact (t43 i a b).1
    · rw [pT 42 (by decide) (by decide) (by decide) (by decide) (by decide)]
      exact tL2
    · exact hWD.cong (fun p hp => pT p (by unfold WP at hp; omega) (by unfold WP at hp; omega) (by unfold WP at hp; omega) (by unfold WP at hp; omega) (by unfold WP at hp; omega))
    rw [hz] at hz'
    cases hz'
    generalize hG : putF T' 72 (cpR (T' 72) (T' 69) 0 0 254) = G
    have g1 : ∀ p, p ≠ 72 → G p = T' p := fun p a => by rw [← hG, putF_ne a]
    have pG : ∀ p, p ≠ 2 → p ≠ 27 → p ≠ 28 → p ≠ 29 → p ≠ 37 → p ≠ 42 → p ≠ 72 → p ≠ 96 → p ≠ 97 → G p = σ p := fun p a b c e f g i j k => by rw [g1 p i, hA.1 p g j k]; exact pT p a b c e f
    have g69 : G 69 = σ 69 := pG 69 (by decide) (by decide) (by decide) (by decide) (by decide) (by decide) (by decide) (by decide) (by decide)
    have hLG : RLR G r := by
      refine ER.rlr (σ := σ) ⟨fun p hp => pG p (by omega) (by omega) (by omega) (by omega) (by omega) (by omega) (by omega) (by omega) (by omega), ?_⟩ hRL
      rw [pG 61 (by decide) (by decide) (by decide) (by decide) (by decide) (by decide) (by decide) (by decide) (by decide), pG 62 (by decide) (by decide) (by decide) (by decide) (by decide) (by decide) (by decide) (by decide) (by decide), pG 63 (by decide) (by decide) (by decide) (by decide) (by decide) (by decide) (by decide) (by decide) (by decide), pG 64 (by decide) (by decide) (by decide) (by decide) (by decide) (by decide) (by decide) (by decide) (by decide), pG 65 (by decide) (by decide) (by decide) (by decide) (by decide) (by decide) (by decide) (by decide) (by decide), pG 68 (by decide) (by decide) (by decide) (by decide) (by decide) (by decide) (by decide) (by decide) (by decide)]
      exact ⟨fun _ _ => rfl, fun _ _ => rfl, fun _ _ => rfl, fun _ _ => rfl, fun _ _ => rfl, rfl⟩
    have gr : G r = σ r := pG r (by omega) (by omega) (by omega) (by omega) (by omega) (by omega) (by omega) (by omega) (by omega)
    have gr2 : G (r + 2) = σ (r + 2) := pG (r + 2) (by omega) (by omega) (by omega) (by omega) (by omega) (by omega) (by omega) (by omega) (by omega)
    have gd : ∀ p, p = 61 ∨ p = 63 ∨ p = 64 → G p = S2 p := fun p hp => by
      rw [pG p (by omega) (by omega) (by omega) (by omega) (by omega) (by omega) (by omega) (by omega) (by omega)]
      exact (p2 p (by omega) (by omega) (by omega) (by omega)).symm
    refine mdl (F := F) (M := M) (V := V) (C := C) (K := K) (td := td) (N := N) (B := n * 300000) (b := σ r 4) (by omega) hr hK hLG hB htd2 (by omega) (fun i i0 i1 => ?_) (by rw [g69]; exact hM0) hMs ?_ (fun i _ => (hVr i).2.1) (fun i _ _ => ?_) ⟨?_, fun i hi => ?_⟩ hCl N0 ?_ ?_ (fun X hX => ?_)
    · rw [gr, gr2, g69]
      obtain ⟨a, _, b, c⟩ := hR i i0 i1
      exact ⟨a, b, c⟩
    · rw [g69, pG 68 (by decide) (by decide) (by decide) (by decide) (by decide) (by decide) (by decide) (by decide) (by decide)]
      exact b3
    · have := (hVr i).1
      have hmf := mf_c (T := putF G 69 (M i)) (U := putF S2 69 (M i)) (fun p hp => by
        by_cases c : p = 69
        · rw [c, putF_at, putF_at]
        · rw [putF_ne c, putF_ne c]
          exact gd p (by omega))
      rw [hmf.1, hmf.2]
      exact this
    · rw [g1 42 (by decide)]
      exact hC'.1
    · rw [g1 96 (by decide)]
      exact hC'.2 i hi
    · rw [g1 42 (by decide)]
      exact u78
    · rw [g1 42 (by decide)]
      exact u79
    · obtain ⟨k1, k2, k3, k4, k5⟩ := hX
      refine ⟨by rw [an_ca hK (fun c i _ => (hVr i).2.2 c) (by omega)], h.ask (fun p a b c e f g i j k l m o => ?_) (fun i a b => ?_) ?_ ?_ ?_ ⟨?_, ?_⟩ ⟨?_, ?_⟩⟩
      · rw [putF_ne i, k1 p g i j o]
        exact pG p a b c e f g k l m
      · rw [putF_at]
        unfold cpR
        rw [if_pos (by omega), k1 72 (by decide) (by decide) (by decide) (by decide), ← hG, putF_at]
        unfold cpR
        rw [if_pos (by omega), hA.1 69 (by decide) (by decide) (by decide), pT 69 (by decide) (by decide) (by decide) (by decide) (by decide)]
        congr 1
        omega
      · rw [putF_ne (by decide), k2 40 (by decide) (by decide) (by decide), g1 42 (by decide), hA.2 40 (by decide), pT 42 (by decide) (by decide) (by decide) (by decide) (by decide)]
      · rw [putF_ne (by decide), k2 41 (by decide) (by decide) (by decide), g1 42 (by decide), hA.2 41 (by decide), pT 42 (by decide) (by decide) (by decide) (by decide) (by decide)]
      · rw [putF_ne (by decide), k2 81 (by decide) (by decide) (by decide), g1 42 (by decide), hA.2 81 (by decide), pT 42 (by decide) (by decide) (by decide) (by decide) (by decide)]
      · rw [putF_ne (by decide), k1 2 (by decide) (by decide) (by decide) (by decide), g1 2 (by decide), hA.1 2 (by decide) (by decide) (by decide), pT2, f1, up_at]
      · rw [putF_ne (by decide), k2 1 (by decide) (by decide) (by decide), g1 42 (by decide)]
        exact u1
      · rw [putF_ne (by decide), putF_ne (by decide), k2 7 (by decide) (by decide) (by decide), g1 42 (by decide), u7, k1 2 (by decide) (by decide) (by decide) (by decide), g1 2 (by decide), hA.1 2 (by decide) (by decide) (by decide), pT2, f1, up_i (by decide)]
        exact s23.1.symm
      · rw [putF_ne (by decide), putF_ne (by decide), k2 8 (by decide) (by decide) (by decide), g1 42 (by decide), u8, k1 2 (by decide) (by decide) (by decide) (by decide), g1 2 (by decide), hA.1 2 (by decide) (by decide) (by decide), pT2, f1, up_i (by decide)]
        exact s23.2.symm
