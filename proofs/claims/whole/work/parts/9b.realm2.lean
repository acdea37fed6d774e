/-! ===== realm: the class's call against the reference's ===== -/
theorem SIM.n0 {n : Int} {σ : SG} {r q : Nat} (h : SIM n σ r q) : 0 ≤ n * 300000 := by
  have := h.2.2.2.2.2.1.2.2.1 0 (by decide) (by decide)
  omega
theorem call_realm {d : Nat} {n : Int} {σ : SG} {r q : Nat} (hd : 100 ≤ d) (h : SIM n σ r q) : AW d mX8_realm 0 [some (.inr (.inr 0)), none, none] [] σ (fun v τ => AW d mX9_realm 0 [some (.inr (.inr 42)), none] [] τ (fun v' σ' => v' = v ∧ (SIM n σ' r q ∨ SIM n σ' q r))) := by
  obtain ⟨hr, hq, hx, hy⟩ := h.rr
  have hB := h.n0
  have hrq := h.1
  obtain ⟨_, _, ⟨⟨tL0, tL1, tL2⟩, t43, t7, t8⟩, hRF, hRL, hRS, hHI, hPI, hWD⟩ := id h
  have ho : OCT (σ 3) := fun i a b => (t43 i a b).2
  have hRC : RCl q (fun j => σ (q + j)) σ := fun j _ => rfl
  generalize hρ : (fun j => σ (q + j) : SG) = ρ at hRC
  clear hρ
  refine xR_0 ⟨by omega, cread hq hy (by omega) rfl rfl ⟨tL0, tL1⟩ ho hRC (fun S z hz hF hC => ?_) (fun S c ρ' p e hz hc hF hC hR hO => ?_)⟩
  · -- refused
    have sp : ∀ p, p ≠ 2 → ¬ (q ≤ p ∧ p ≤ q + 10) → S p = σ p := hF
    have hC2 : S 2 2 = z.1 ∧ S 2 3 = z.2 := hC.2
    refine xR_7 hr hq (by rw [sp 0 (by decide) (by omega)]; exact hx) (by rw [sp 4 (by decide) (by omega)]; exact hy) (fun S1 e1 => ⟨by decide, fun z => absurd rfl z, fun _ S4 e4 => ?_⟩)
    have p4 : ∀ p, p ≠ 1 → p ≠ 2 → ¬ (q ≤ p ∧ p ≤ q + 10) → S4 p = σ p := fun p a b c => by rw [e4, up_pf a, e1, up_pf b]; exact sp p b c
    have k2 : S4 2 = upf (S 2) 1 0 := by rw [e4, up_pf (by decide), e1, up_rw, putF_at]
    have k1 : S4 1 = upf (σ 1) 1 (σ 1 1 + 1) := by rw [e4, up_rw, putF_at, e1, up_pf (by decide), sp 1 (by decide) (by omega)]
    refine mref (o := σ 3) (L := σ 2 1) (ρ := ρ) (by omega) (fun i a b => ?_) ?_ ⟨tL0, tL1⟩ ho ?_ (fun T z' hz' hT hRT => ?_) (fun T c ρ' p e hz' => ?_)
    · rw [p4 43 (by decide) (by decide) (by omega)]
      exact (t43 i a b).1
    · rw [p4 42 (by decide) (by decide) (by omega)]
      exact tL2
    · exact hWD.cong (fun p hp => p4 p (by unfold WP at hp; omega) (by unfold WP at hp; omega) (by unfold WP at hp; omega))
    · rw [hz] at hz'
      cases hz'
      have hb := rt1 hRT
      have hT5 : T 42 5 = z.1 ∧ T 42 6 = z.2 := ⟨hRT.2.1, hRT.2.2.1⟩
      obtain ⟨m1, ⟨m2, m3, m4, m5⟩, m61, m62, m63, m64, m65, m68⟩ := hT
      refine uR_87 ⟨by omega, fun _ T1 f1 T2 f2 => ?_, fun z => by omega⟩
      have g5 : T2 42 5 = T 42 5 := by rw [f2, up_i (by decide), f1, up_i (by decide)]
      rw [g5]
      refine ⟨by omega, fun z => by omega, fun _ T3 f3 => ⟨rfl, Or.inl ?_⟩⟩
      have w : ∀ p, p ≠ 42 → p ≠ 44 → T3 p = T p := fun p a b => by rw [f3, up_pf b, f2, up_pf a, f1, up_pf a]
      have wp : ∀ p, p ≠ 42 → p ≠ 44 → ¬ (61 ≤ p ∧ p ≤ 68) → p ≠ 1 → p ≠ 2 → ¬ (q ≤ p ∧ p ≤ q + 10) → T3 p = σ p := fun p a b c e f g => by rw [w p a b, m1 p a c, up_pf a]; exact p4 p e f g
      have w42 : ∀ i, i ≠ 7 → i ≠ 8 → T3 42 i = T 42 i := fun i a b => by rw [f3, up_p (by decide), f2, up_i b, f1, up_i a]
      have w7 : T3 42 7 = z.1 := by rw [f3, up_p (by decide), f2, up_i (by decide), f1, up_at]; exact hT5.1
      have w8 : T3 42 8 = z.2 := by rw [f3, up_p (by decide), f2, up_at, f1, up_i (by decide)]; exact hT5.2
      have w44 : T3 44 = upf (σ 44) 1 (σ 44 1 + 1) := by
        have a44 : T2 44 = σ 44 := by rw [f2, up_pf (by decide), f1, up_pf (by decide), m1 44 (by decide) (by omega), up_pf (by decide), p4 44 (by decide) (by decide) (by omega)]
        rw [f3, up_rw, putF_at, a44]
      have w2 : T3 2 = upf (S 2) 1 0 := by rw [w 2 (by decide) (by decide), m1 2 (by decide) (by omega), up_pf (by decide)]; exact k2
      have w1 : T3 1 = upf (σ 1) 1 (σ 1 1 + 1) := by rw [w 1 (by decide) (by decide), m1 1 (by decide) (by omega), up_pf (by decide)]; exact k1
      have v42 : ∀ i, i ≠ 1 → up S4 42 1 0 42 i = σ 42 i := fun i hi => by rw [up_i hi, p4 42 (by decide) (by decide) (by omega)]
      have vv : ∀ p, 61 ≤ p → p ≤ 68 → up S4 42 1 0 p = σ p := fun p a b => by rw [up_pf (by omega), p4 p (by omega) (by omega) (by omega)]
      refine h.re ⟨fun p hp => wp p (by omega) (by omega) (by omega) (by omega) (by omega) (by omega), fun i hi => ?_, fun i hi => ?_, fun i hi => ?_, fun i hi => ?_, fun i hi => ?_, ?_⟩ ?_ ?_ ?_ ?_ ?_
      · rw [w 61 (by decide) (by decide), m61 i hi, vv 61 (by decide) (by decide)]
      · rw [w 62 (by decide) (by decide), m62 i hi, vv 62 (by decide) (by decide)]
      · rw [w 63 (by decide) (by decide), m63 i hi, vv 63 (by decide) (by decide)]
      · rw [w 64 (by decide) (by decide), m64 i hi, vv 64 (by decide) (by decide)]
      · rw [w 65 (by decide) (by decide), m65 i hi, vv 65 (by decide) (by decide)]
      · rw [w 68 (by decide) (by decide), m68, vv 68 (by decide) (by decide)]
      · unfold TP
        rw [w2, upf_at, upf_ne (by decide), upf_ne (by decide), w42 1 (by decide) (by decide), m2, up_at, w7, w8, hC2.1, hC2.2, wp 3 (by decide) (by decide) (by decide) (by decide) (by decide) (by omega), wp 43 (by decide) (by decide) (by decide) (by decide) (by decide) (by omega)]
        exact ⟨⟨by decide, by decide, rfl⟩, t43, rfl, rfl⟩
      · unfold RF
        rw [w1, w44]
        intro k k0 k1
        by_cases c : k = 1
        · rw [c, upf_at, upf_at, hRF 1 (by decide) (by decide)]
        · rw [upf_ne c, upf_ne c]
          exact hRF k k0 k1
      · rw [wp 35 (by decide) (by decide) (by decide) (by decide) (by decide) (by omega), wp 69 (by decide) (by decide) (by decide) (by decide) (by decide) (by omega)]
        exact hRS
      · exact hHI.cong (wp r (by omega) (by omega) (by omega) (by omega) (by omega) (by omega)) (wp (r + 2) (by omega) (by omega) (by omega) (by omega) (by omega) (by omega)) (wp 38 (by decide) (by decide) (by decide) (by decide) (by decide) (by omega)) (wp 39 (by decide) (by decide) (by decide) (by decide) (by decide) (by omega)) (wp 71 (by decide) (by decide) (by decide) (by decide) (by decide) (by omega)) (by rw [w42 40 (by decide) (by decide), m3, v42 40 (by decide)]) (by rw [w42 41 (by decide) (by decide), m4, v42 41 (by decide)])
      · exact hPI.cong (wp 40 (by decide) (by decide) (by decide) (by decide) (by decide) (by omega)) (wp 41 (by decide) (by decide) (by decide) (by decide) (by decide) (by omega)) (wp 99 (by decide) (by decide) (by decide) (by decide) (by decide) (by omega)) (by rw [w42 81 (by decide) (by decide), m5, v42 81 (by decide)])
    · rw [hz] at hz'
      cases hz'
  · -- told
    have sp : ∀ p, p ≠ 2 → ¬ (q ≤ p ∧ p ≤ q + 10) → S p = σ p := hF
    have hC2 := hC.f.2.1
    refine xR_7 hr hq (by rw [sp 0 (by decide) (by omega)]; exact hx) (by rw [sp 4 (by decide) (by omega)]; exact hy) (fun S1 e1 => ⟨by omega, fun _ S2 e2 S3 e3 => ?_, fun z => by omega⟩)
    have p3 : ∀ p, p ≠ 0 → p ≠ 2 → p ≠ 4 → S3 p = S p := fun p a b c => by rw [e3, up_pf a, e2, up_pf c, e1, up_pf b]
    have k09 : (S3 0 9).toNat = q := by rw [e3, up_at]; omega
    have hR3 : RCl q ρ' S3 := fun j hj => by rw [p3 _ (by omega) (by omega) (by omega)]; exact hR j hj
    refine xR_57 (aw_rl k09 (xR_65 hq ⟨by omega, cbegin hq (by omega) hR3 hO (fun F hFF => xR_68 ⟨by omega, fun S6 e6 => ?_⟩)⟩))
    have p6 : ∀ p, p ≠ 0 → p ≠ 2 → p ≠ 4 → p ≠ 35 → p ≠ 38 → S6 p = S p := fun p a b c e f => by rw [e6, up_pf f, putF_ne e]; exact p3 p a b c
    have q6 : ∀ p, p ≠ 0 → p ≠ 2 → p ≠ 4 → p ≠ 35 → p ≠ 38 → ¬ (q ≤ p ∧ p ≤ q + 10) → S6 p = σ p := fun p a b c e f g => by rw [p6 p a b c e f]; exact sp p b g
    refine mref (o := σ 3) (L := σ 2 1) (ρ := ρ) (by omega) (fun i a b => ?_) ?_ ⟨tL0, tL1⟩ ho ?_ (fun T z' hz' => ?_) (fun T c2 ρ2 p2 e2' hz' hT hRT hPT hOT h36 => ?_)
    · rw [q6 43 (by decide) (by decide) (by decide) (by decide) (by decide) (by omega)]
      exact (t43 i a b).1
    · rw [q6 42 (by decide) (by decide) (by decide) (by decide) (by decide) (by omega)]
      exact tL2
    · exact hWD.cong (fun p hp => q6 p (by unfold WP at hp; omega) (by unfold WP at hp; omega) (by unfold WP at hp; omega) (by unfold WP at hp; omega) (by unfold WP at hp; omega) (by unfold WP at hp; omega))
    · rw [hz] at hz'
      cases hz'
    · rw [hz] at hz'
      cases hz'
      have hb := rt0 hRT
      have hT6 : T 42 6 = -1 := hRT.f.2.1.2
      obtain ⟨m1, ⟨m2, m3, m4, m5⟩, m61, m62, m63, m64, m65, m68⟩ := hT
      refine uR_98 ⟨by decide, fun _ T1 f1 T2 f2 => ?_, fun z => absurd rfl z⟩
      have g5 : T2 42 5 = T 42 5 := by rw [f2, up_i (by decide), f1, up_i (by decide)]
      rw [g5]
      refine ⟨by omega, fun _ => ⟨by omega, ?_⟩, fun z => absurd hb z⟩
      have g : ∀ p, p ≠ 42 → T2 p = T p := fun p a => by rw [f2, up_pf a, f1, up_pf a]
      have g42 : ∀ i, i ≠ 7 → i ≠ 8 → T2 42 i = T 42 i := fun i a b => by rw [f2, up_i b, f1, up_i a]
      have g7 : T2 42 7 = 0 := by rw [f2, up_i (by decide), f1, up_at]; exact hb
      have g8 : T2 42 8 = -1 := by rw [f2, up_at, f1, up_i (by decide)]; exact hT6
      have hP2 : PRl ρ' T2 := hPT.fr (fun p a b => g p (by omega))
      have hO' := hO
      obtain ⟨⟨a0, a1, a2, a3, a4⟩, oT, oG, oE, oL, oD, oN, oM⟩ := hO'
      obtain ⟨⟨b0, b1, b2, b3⟩, c1, c2', c3, c4, c5, c6, c7, c8⟩ := hP2
      refine uN_0 (sn_2 ?_)
      generalize hU1 : putF T2 61 _ = U1
      have u1 : ∀ p, p ≠ 61 → U1 p = T2 p := fun p hp => by rw [← hU1, putF_ne hp]
      have v1 : ∀ j, U1 61 j = if 4 ≤ j ∧ j < 8 then T2 61 (j - 4) else T2 61 j := fun j => by rw [← hU1, putF_at]
      refine sn_29 ?_
      generalize hU2 : putF U1 62 _ = U2
      have u2 : ∀ p, p ≠ 62 → U2 p = U1 p := fun p hp => by rw [← hU2, putF_ne hp]
      have v2 : ∀ j, U2 62 j = if 16 ≤ j ∧ j < 32 then T2 62 (j - 16) else T2 62 j := fun j => by rw [← hU2, putF_at, u1 62 (by decide)]
      refine sn_58 ?_
      generalize hU3 : putF U2 63 _ = U3
      have u3 : ∀ p, p ≠ 63 → U3 p = U2 p := fun p hp => by rw [← hU3, putF_ne hp]
      have v3 : ∀ j, U3 63 j = if 8 ≤ j ∧ j < 16 then T2 63 (j - 8) else T2 63 j := fun j => by rw [← hU3, putF_at, u2 63 (by decide), u1 63 (by decide)]
      refine sn_87 ?_
      generalize hU4 : putF U3 64 _ = U4
      have u4 : ∀ p, p ≠ 64 → U4 p = U3 p := fun p hp => by rw [← hU4, putF_ne hp]
      have v4 : ∀ j, U4 64 j = if 24 ≤ j ∧ j < 48 then T2 64 (j - 24) else T2 64 j := fun j => by rw [← hU4, putF_at, u3 64 (by decide), u2 64 (by decide), u1 64 (by decide)]
      refine sn_116 (fun U5 hU5 => ?_)
      have u5 : ∀ p, p ≠ 65 → p ≠ 68 → U5 p = U4 p := fun p hp hp' => by rw [hU5, up_pf hp', putF_ne hp]
      have v5 : ∀ j, U5 65 j = if 7 ≤ j ∧ j < 14 then T2 65 (j - 7) else T2 65 j := fun j => by rw [hU5, up_pf (by decide), putF_at, u4 65 (by decide), u3 65 (by decide), u2 65 (by decide), u1 65 (by decide)]
      have v68 : U5 68 1 = T2 68 0 := by rw [hU5, up_at, u4 68 (by decide), u3 68 (by decide), u2 68 (by decide), u1 68 (by decide)]
      have u : ∀ p, p ≠ 61 → p ≠ 62 → p ≠ 63 → p ≠ 64 → p ≠ 65 → p ≠ 68 → U5 p = T2 p := fun p a b c e f g => by rw [u5 p f g, u4 p e, u3 p c, u2 p b, u1 p a]
      have w61 : ∀ j, U5 61 j = if 4 ≤ j ∧ j < 8 then T2 61 (j - 4) else T2 61 j := fun j => by rw [u5 61 (by decide) (by decide), u4 61 (by decide), u3 61 (by decide), u2 61 (by decide)]; exact v1 j
      have w62 : ∀ j, U5 62 j = if 16 ≤ j ∧ j < 32 then T2 62 (j - 16) else T2 62 j := fun j => by rw [u5 62 (by decide) (by decide), u4 62 (by decide), u3 62 (by decide)]; exact v2 j
      have w63 : ∀ j, U5 63 j = if 8 ≤ j ∧ j < 16 then T2 63 (j - 8) else T2 63 j := fun j => by rw [u5 63 (by decide) (by decide), u4 63 (by decide)]; exact v3 j
      have w64 : ∀ j, U5 64 j = if 24 ≤ j ∧ j < 48 then T2 64 (j - 24) else T2 64 j := fun j => by rw [u5 64 (by decide) (by decide)]; exact v4 j
      refine sn_157 (fun g0 hg0 => ?_)
      refine sn_179 (ρ := ρ') ?_ a0 ?_ ?_ (fun g1 hg1 => ?_)
      · rw [putF_ne (by decide), w61, if_neg (by decide)]
        exact b0
      · rw [putF_ne (by decide), u 66 (by decide) (by decide) (by decide) (by decide) (by decide) (by decide)]
        exact c6
      · rw [putF_at]
        exact hg0
      rw [putF_putF]
      refine sn_230 (ρ := ρ') (by omega) hO ?_ ?_ ?_ ?_ (fun g2 hg2 => ?_)
      · rw [putF_ne (by decide), w61, if_neg (by decide)]
        exact b2
      · rw [putF_ne (by decide), u 67 (by decide) (by decide) (by decide) (by decide) (by decide) (by decide)]
        exact c7
      · intro t t0 t1
        rw [putF_ne (by decide), w63, if_pos (by omega), show 8 + 2 * t - 8 = 2 * t by omega]
        exact (c3 t t0 t1).1
      · rw [putF_at]
        exact hg1
      rw [putF_putF]
      generalize hW : up (putF U5 69 g2) 42 40 0 = W
      refine uR_148 ⟨?_, Or.inr ?_⟩
      · have : W 42 36 = c := by rw [← hW, up_i (by decide), putF_ne (by decide), u 42 (by decide) (by decide) (by decide) (by decide) (by decide) (by decide), g42 36 (by decide) (by decide)]; exact h36
        rw [this]
      · have x : ∀ p, p ≠ 42 → p ≠ 69 → W p = U5 p := fun p a b => by rw [← hW, up_pf a, putF_ne b]
        have xs : ∀ p, p < 61 → p ≠ 42 → W p = S6 p := fun p a b => by rw [x p b (by omega), u p (by omega) (by omega) (by omega) (by omega) (by omega) (by omega), g p b, m1 p b (by omega), up_pf b]
        have xh : ∀ p, 70 ≤ p → W p = σ p := fun p a => by rw [x p (by omega) (by omega), u p (by omega) (by omega) (by omega) (by omega) (by omega) (by omega), g p (by omega), m1 p (by omega) (by omega), up_pf (by omega), q6 p (by omega) (by omega) (by omega) (by omega) (by omega) (by omega)]
        have x42 : ∀ i, i ≠ 40 → W 42 i = T2 42 i := fun i hi => by rw [← hW, up_i hi, putF_ne (by decide), u 42 (by decide) (by decide) (by decide) (by decide) (by decide) (by decide)]
        have x40 : W 42 40 = 0 := by rw [← hW, up_at]
        have x69 : W 69 = g2 := by rw [← hW, up_pf (by decide), putF_at]
        have xq : ∀ j, j ≤ 10 → W (q + j) = ρ' j := fun j hj => by rw [xs _ (by omega) (by omega), p6 _ (by omega) (by omega) (by omega) (by omega) (by omega)]; exact hR j hj
        have xq0 : W q = ρ' 0 := xq 0 (by decide)
        have x35 : W 35 = F := by rw [xs 35 (by decide) (by decide), e6, up_pf (by decide), putF_at]
        have x2 : W 2 = upf (S 2) 1 0 := by rw [xs 2 (by decide) (by decide), e6, up_pf (by decide), putF_ne (by decide), e3, up_pf (by decide), e2, up_pf (by decide), e1, up_rw, putF_at]
        have xw : ∀ p, p < 61 → p ≠ 42 → p ≠ 0 → p ≠ 2 → p ≠ 4 → p ≠ 35 → p ≠ 38 → ¬ (q ≤ p ∧ p ≤ q + 10) → W p = σ p := fun p a b c e f g k l => by rw [xs p a b]; exact q6 p c e f g k l
        have x38 : W 38 = upf (σ 38) 2 0 := by rw [xs 38 (by decide) (by decide), e6, up_rw, putF_at, putF_ne (by decide), p3 38 (by decide) (by decide) (by decide), sp 38 (by decide) (by omega)]
        have v42 : ∀ i, i ≠ 1 → up S6 42 1 0 42 i = σ 42 i := fun i hi => by rw [up_i hi, q6 42 (by decide) (by decide) (by decide) (by decide) (by decide) (by omega)]
        have hH : ∀ t, 0 ≤ t → t < ρ' 0 0 → 3 ≤ ρ' 2 t ∧ ρ' 2 t ≤ 14 := fun t a b => (oT t a b).1
        refine ⟨by omega, ⟨?_, ?_⟩, ?_, ?_, ?_, ?_, ?_, ?_, ?_⟩
        · rw [xs 0 (by decide) (by decide), e6, up_pf (by decide), putF_ne (by decide)]
          exact k09
        · rw [xs 4 (by decide) (by decide), e6, up_pf (by decide), putF_ne (by decide), e3, up_pf (by decide), e2, up_at]
          omega
        · unfold TP
          rw [x2, upf_at, upf_ne (by decide), upf_ne (by decide), hC2.1, hC2.2, x42 1 (by decide), g42 1 (by decide) (by decide), m2, up_at, x42 7 (by decide), g7, x42 8 (by decide), g8, xw 3 (by decide) (by decide) (by decide) (by decide) (by decide) (by decide) (by decide) (by omega), xw 43 (by decide) (by decide) (by decide) (by decide) (by decide) (by decide) (by decide) (by omega)]
          exact ⟨⟨by decide, by decide, rfl⟩, t43, rfl, rfl⟩
        · unfold RF
          rw [xw 1 (by decide) (by decide) (by decide) (by decide) (by decide) (by decide) (by decide) (by omega), xw 44 (by decide) (by decide) (by decide) (by decide) (by decide) (by decide) (by decide) (by omega)]
          exact hRF
        · unfold RLR RLM
          rw [xq0, xq 1 (by decide), xq 2 (by decide), xq 3 (by decide), xq 6 (by decide), xq 7 (by decide), xq 8 (by decide), xq 9 (by decide), x 61 (by decide) (by decide), x 62 (by decide) (by decide), x 63 (by decide) (by decide), x 64 (by decide) (by decide), x 65 (by decide) (by decide), x 68 (by decide) (by decide)]
          refine ⟨⟨a0, a1, fun t t0 t1 => ?_, fun g g0 g1 => ?_, a4, oE⟩, ⟨?_, ?_⟩, fun t t0 t1 => ⟨?_, ?_, ?_⟩, fun k k0 k1 => ⟨?_, ?_, ?_, ?_⟩, fun k k0 k1 => ?_, Or.inl ?_⟩
          · have := oT t t0 t1
            exact ⟨this.1.1, this.1.2, this.2.1.1, this.2.1.2⟩
          · have := oG g g0 g1
            exact ⟨this.1.1, this.1.2, this.2.1.1, this.2.1.2, this.2.2.1, this.2.2.2⟩
          · rw [w61, if_pos (by decide)]
            exact b0
          · rw [w61, if_pos (by decide)]
            exact b1
          · rw [w63, if_pos (by omega), show 8 + 2 * t - 8 = 2 * t by omega]
            exact (c3 t t0 t1).1
          · rw [w63, if_pos (by omega), show 8 + 2 * t + 1 - 8 = 2 * t + 1 by omega]
            exact (c3 t t0 t1).2
          · rw [w62, if_pos (by omega), show 16 + 8 * 0 + t - 16 = t by omega]
            exact c1 t t0 t1
          · rw [w64, if_pos (by omega), show 24 + 3 * k - 24 = 3 * k by omega]
            exact (c4 k k0 k1).1
          · rw [w64, if_pos (by omega), show 24 + 3 * k + 1 - 24 = 3 * k + 1 by omega]
            exact (c4 k k0 k1).2.1
          · rw [w64, if_pos (by omega), show 24 + 3 * k + 2 - 24 = 3 * k + 2 by omega]
            exact (c4 k k0 k1).2.2
          · rw [w62, if_pos (by omega), show 16 + 8 * 1 + k - 16 = 8 + k by omega]
            exact c2' k k0 k1
          · rw [v5, if_pos (by omega), show 7 + k - 7 = k by omega]
            exact c5 k (by omega) k1
          · rw [v68]
            exact c8
        · obtain ⟨h1, _, _⟩ := RS_told hO (B := n * 300000) (D := 999) hB (by decide) (ρ' 0 3).toNat (by omega)
          rw [xq0, xq 2 (by decide), x35, x69]
          exact h1.cong a0.2 hH hFF hg2
        · refine ⟨?_, ?_, fun j j0 j1 => ?_⟩
          · rw [x38, upf_ne (by decide), x42 41 (by decide), g42 41 (by decide) (by decide), m4, v42 41 (by decide)]
            exact hHI.1
          · rw [x38, upf_at, x40]
            decide
          · rw [x38, upf_at] at j1
            omega
        · exact hPI.cong (xw 40 (by decide) (by decide) (by decide) (by decide) (by decide) (by decide) (by decide) (by omega)) (xw 41 (by decide) (by decide) (by decide) (by decide) (by decide) (by decide) (by decide) (by omega)) (xh 99 (by decide)) (by rw [x42 81 (by decide), g42 81 (by decide) (by decide), m5, v42 81 (by decide)])
        · refine hWD.cong (fun p hp => ?_)
          unfold WP at hp
          by_cases c : p < 61
          · exact xw p c (by omega) (by omega) (by omega) (by omega) (by omega) (by omega) (by omega)
          · exact xh p (by omega)
