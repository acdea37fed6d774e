/-! ===== SIM behind an act ===== -/
theorem SIM.act {n : Int} {σ : SG} {r q : Nat} (h : SIM n σ r q) {f' g' : Int → Int} (hR : RS (σ r 0) (σ (r + 2)) ((n + 1) * 300000) 999 f' g') : SIM (n + 1) (putF (kpM (putF (kpX σ) 35 f')) 69 g') r q := by
  have hr := h.rr.1
  have ne : ∀ p, p ≠ 35 → p ≠ 38 → p ≠ 39 → p ≠ 42 → p ≠ 69 → p ≠ 71 → putF (kpM (putF (kpX σ) 35 f')) 69 g' p = σ p := by
    intro p a b c d e f
    rw [putF_ne e, kpM_ne d f, putF_ne a, kpX_ne b c]
  have e42 : ∀ i, i ≠ 40 → i ≠ 41 → putF (kpM (putF (kpX σ) 35 f')) 69 g' 42 i = σ 42 i := by
    intro i a b
    rw [putF_ne (by decide)]
    unfold kpM
    rw [if_neg (by decide), if_pos rfl, if_neg b, if_neg a, putF_ne (by decide), kpX_ne (by decide) (by decide)]
  have z42 : putF (kpX σ) 35 f' 42 = σ 42 := by rw [putF_ne (by decide), kpX_ne (by decide) (by decide)]
  have e40 : putF (kpM (putF (kpX σ) 35 f')) 69 g' 42 40 = if σ 42 40 < 20 then σ 42 40 + 1 else σ 42 40 := by
    rw [putF_ne (by decide)]
    unfold kpM
    rw [if_neg (by decide), if_pos rfl, if_neg (by decide), if_pos rfl, z42]
  have e41 : putF (kpM (putF (kpX σ) 35 f')) 69 g' 42 41 = (σ 42 41 + 1) % 20 := by
    rw [putF_ne (by decide)]
    unfold kpM
    rw [if_neg (by decide), if_pos rfl, if_pos rfl, z42]
  have e38 : putF (kpM (putF (kpX σ) 35 f')) 69 g' 38 = kpX σ 38 := by rw [putF_ne (by decide), kpM_ne (by decide) (by decide), putF_ne (by decide)]
  have e39 : putF (kpM (putF (kpX σ) 35 f')) 69 g' 39 = cpR (σ 39) (σ 35) (σ 38 1 * 214) 0 214 := by
    rw [putF_ne (by decide), kpM_ne (by decide) (by decide), putF_ne (by decide)]
    funext i
    unfold kpX
    rw [if_pos rfl]
  have e71 : putF (kpM (putF (kpX σ) 35 f')) 69 g' 71 = cpR (σ 71) (σ 69) (254 * ((σ 42 41 + 1) % 20)) 0 254 := by
    rw [putF_ne (by decide)]
    funext i
    unfold kpM
    rw [if_pos rfl, z42, putF_ne (by decide), putF_ne (by decide), kpX_ne (by decide) (by decide), kpX_ne (by decide) (by decide)]
  have k1 : kpX σ 38 1 = (σ 38 1 + 1) % 20 := by
    unfold kpX
    rw [if_neg (by decide), if_pos rfl, if_pos rfl]
  have k2 : kpX σ 38 2 = if 20 < σ 38 2 + 1 then 20 else σ 38 2 + 1 := by
    unfold kpX
    rw [if_neg (by decide), if_pos rfl, if_neg (by decide), if_pos rfl]
  have e0 : putF (kpM (putF (kpX σ) 35 f')) 69 g' r = σ r := ne _ (by omega) (by omega) (by omega) (by omega) (by omega) (by omega)
  have e2 : putF (kpM (putF (kpX σ) 35 f')) 69 g' (r + 2) = σ (r + 2) := ne _ (by omega) (by omega) (by omega) (by omega) (by omega) (by omega)
  have e35 : putF (kpM (putF (kpX σ) 35 f')) 69 g' 35 = f' := by rw [putF_ne (by decide), kpM_ne (by decide) (by decide), putF_at]
  have e69 : putF (kpM (putF (kpX σ) 35 f')) 69 g' 69 = g' := putF_at _ _ _
  have hL := h.2.2.2.2.1
  have hRo := h.2.2.2.2.2.1
  generalize putF (kpM (putF (kpX σ) 35 f')) 69 g' = τ at *
  obtain ⟨hn, hk, hj⟩ := h.2.2.2.2.2.2.1
  refine h.re ⟨fun p hp => ne p (by omega) (by omega) (by omega) (by omega) (by omega) (by omega), ?_⟩ ?_ ?_ ?_ ⟨?_, ?_, ?_⟩ ?_
  · rw [ne 61 (by decide) (by decide) (by decide) (by decide) (by decide) (by decide), ne 62 (by decide) (by decide) (by decide) (by decide) (by decide) (by decide), ne 63 (by decide) (by decide) (by decide) (by decide) (by decide) (by decide), ne 64 (by decide) (by decide) (by decide) (by decide) (by decide) (by decide), ne 65 (by decide) (by decide) (by decide) (by decide) (by decide) (by decide), ne 68 (by decide) (by decide) (by decide) (by decide) (by decide) (by decide)]
    exact ⟨fun _ _ => rfl, fun _ _ => rfl, fun _ _ => rfl, fun _ _ => rfl, fun _ _ => rfl, rfl⟩
  · have q2 := ne 2 (by decide) (by decide) (by decide) (by decide) (by decide) (by decide)
    exact h.2.2.1.cong (by rw [q2]) (by rw [q2]) (by rw [q2]) (ne 3 (by decide) (by decide) (by decide) (by decide) (by decide) (by decide)) (ne 43 (by decide) (by decide) (by decide) (by decide) (by decide) (by decide)) (e42 1 (by decide) (by decide)) (e42 7 (by decide) (by decide)) (e42 8 (by decide) (by decide))
  · exact h.2.2.2.1.cong (ne 1 (by decide) (by decide) (by decide) (by decide) (by decide) (by decide)) (ne 44 (by decide) (by decide) (by decide) (by decide) (by decide) (by decide))
  · rw [e35, e69]
    exact hR
  · rw [e38, k1, e41, hn.2.2]
    omega
  · rw [e38, k2, e40, hk.2.2]
    split
    · rw [if_neg (by omega)]
      omega
    · rw [if_pos (by omega)]
      omega
  · intro j j1 j2
    rw [e38, k2] at j2
    rw [e0, e2, e38, k1, e39, e71, hn.2.2]
    have hc := hL.hH
    have ht := hL.1.1.2
    by_cases hj1 : j = 1
    · subst hj1
      refine (hRo.mono (B' := (n + 1) * 300000) (D' := 999) (by omega) (Int.le_refl _)).cong ht hc (fun i i0 i1 => ?_) (fun i i0 i1 => ?_)
      · show cpR (σ 39) (σ 35) (σ 38 1 * 214) 0 214 (((σ 38 1 + 1) % 20 - 1) % 20 * 214 + i) = σ 35 i
        unfold cpR
        rw [if_pos (by omega)]
        congr 1
        omega
      · show cpR (σ 71) (σ 69) (254 * ((σ 38 1 + 1) % 20)) 0 254 (254 * (((σ 38 1 + 1) % 20 + 1 - 1) % 20) + i) = σ 69 i
        unfold cpR
        rw [if_pos (by omega)]
        congr 1
        omega
    · have hjj : j - 1 ≤ σ 38 2 ∧ j ≤ 20 := by
        split at j2 <;> omega
      refine ((hj (j - 1) (by omega) hjj.1).mono (B' := (n + 1) * 300000) (D' := 999) (by omega) (Int.le_refl _)).cong ht hc (fun i i0 i1 => ?_) (fun i i0 i1 => ?_)
      · show cpR (σ 39) (σ 35) (σ 38 1 * 214) 0 214 (((σ 38 1 + 1) % 20 - j) % 20 * 214 + i) = σ 39 ((σ 38 1 - (j - 1)) % 20 * 214 + i)
        unfold cpR
        rw [if_neg (by omega)]
        congr 1
        omega
      · show cpR (σ 71) (σ 69) (254 * ((σ 38 1 + 1) % 20)) 0 254 (254 * (((σ 38 1 + 1) % 20 + 1 - j) % 20) + i) = σ 71 (254 * ((σ 38 1 + 1 - (j - 1)) % 20) + i)
        unfold cpR
        rw [if_neg (by omega)]
        congr 1
        omega
  · exact h.2.2.2.2.2.2.2.1.cong (ne 40 (by decide) (by decide) (by decide) (by decide) (by decide) (by decide)) (ne 41 (by decide) (by decide) (by decide) (by decide) (by decide) (by decide)) (ne 99 (by decide) (by decide) (by decide) (by decide) (by decide) (by decide)) (e42 81 (by decide) (by decide))
/-- what an act needs to know -/
theorem SIM.fx {n : Int} {σ : SG} {r q : Nat} (h : SIM n σ r q) : SR (σ 35) ∧ LR (σ 35) ∧ (0 ≤ σ r 0 ∧ σ r 0 ≤ 4 ∧ 0 ≤ σ 35 1 ∧ σ 35 1 ≤ 24) ∧ (0 ≤ σ 38 1 ∧ σ 38 1 < 20 ∧ 0 ≤ σ 38 2 ∧ σ 38 2 ≤ 20) ∧ MLR (σ 69) ∧ (0 ≤ σ 61 4 ∧ σ 61 4 ≤ 4 ∧ 0 ≤ σ 69 1 ∧ σ 69 1 ≤ 24) ∧ (0 ≤ σ 42 41 ∧ σ 42 41 < 20 ∧ 0 ≤ σ 42 40 ∧ σ 42 40 ≤ 20) ∧ σ 61 4 = σ r 0 ∧ σ 69 1 = σ 35 1 ∧ (1 ≤ σ r 4 ∧ σ r 4 ≤ 99) ∧ (0 ≤ σ 68 1 ∧ σ 68 1 ≤ 99) ∧ (0 < σ 69 1 → σ 68 1 = σ r 4) := by
  obtain ⟨a, b, c, d, e, f, g⟩ := h.lr
  obtain ⟨hn, hk, _⟩ := h.2.2.2.2.2.2.1
  have hb := h.2.2.2.2.1.2.2.2.2.2
  have hb2 := e.2.2.2.2.1
  refine ⟨b, a, by omega, by omega, c, by omega, by omega, by omega, by omega, hb2, by omega, fun z => ?_⟩
  have := (h.2.2.2.2.2.1.2.2.2.2.2.1 0 (by omega) (by omega)).2.1
  omega
theorem SIM.mst {n : Int} {σ : SG} {r q : Nat} (h : SIM n σ r q) {t : Int} (h0 : 0 ≤ t) (h1 : t < σ r 0) : lowO (bor (σ 35 (6 + t)) (σ 35 (18 + t))) (σ (r + 2) t) = lowO (mstV σ t) (σ 63 (8 + 2 * t)) := by
  obtain ⟨_, a, _, _, b, _⟩ := h.tw h0 h1
  rw [a, b]
theorem hwV_r (f : Int → Int) (t s : Int) : 0 ≤ hwV f t s ∧ hwV f t s ≤ 3 := by
  unfold hwV
  split
  · omega
  · split
    · omega
    · split <;> omega
/-- the reference's call behind one that the class refused -/
theorem SIM.r12 {σ : SG} {v : Int} {p : Nat} (h : p ≠ 1) : up σ 1 2 v p = σ p := up_pf h
theorem call_lend {d : Nat} {n : Int} {σ : SG} {r q : Nat} {t s to dy rn : Int} (hd : 100 ≤ d) (h : SIM n σ r q) (ht : r3 t) (hs : r3 s) (hto : r3 to) (hdy : r3 dy) (hrn : r3 rn) : AW d mX8_lend 0 [some (.inr (.inr 0)), some (.inl t), some (.inl s), some (.inl to), some (.inl dy), some (.inl rn), none] [] σ (SAME d (n + 1) r q mX9_lend [some (.inr (.inr 42)), some (.inl t), some (.inl s), some (.inl to), some (.inl dy), some (.inl rn), none]) := by
  obtain ⟨hr, _, hx, _⟩ := h.rr
  obtain ⟨x1, x2, x3, x4, m1, m2, m3, e4, e1, b1, b2, b3⟩ := h.fx
  have hL := h.2.2.2.2.1
  have hRS := h.2.2.2.2.2.1
  have hV := hwV_r (σ 35) t s
  have hA : 0 ≤ t ∧ t < σ r 0 → 3 ≤ σ (r + 2) t ∧ σ (r + 2) t ≤ 14 := fun z => hL.hH t z.1 z.2
  have hB : 0 ≤ to ∧ to < σ r 0 → 3 ≤ σ (r + 2) to ∧ σ (r + 2) to ≤ 14 := fun z => hL.hH to z.1 z.2
  have h63 : 0 ≤ t ∧ t < σ r 0 → σ 63 (8 + 2 * t) = σ (r + 2) t := fun z => (h.tw z.1 z.2).2.1
  have h63o : 0 ≤ to ∧ to < σ r 0 → σ 63 (8 + 2 * to) = σ (r + 2) to := fun z => (h.tw z.1 z.2).2.1
  have hw : 0 ≤ t ∧ t < σ r 0 → 1 ≤ s ∧ s ≤ σ (r + 2) t → hwV (σ 35) t s = σ 69 (6 + 14 * t + s - 1) := fun z y => hRS.how hL.hH z.1 z.2 y.1 y.2
  by_cases hC : (0 ≤ t ∧ t < σ r 0) ∧ (1 ≤ s ∧ s ≤ σ (r + 2) t) ∧ (0 ≤ to ∧ to < σ r 0) ∧ t ≠ to ∧ hwV (σ 35) t s = 0 ∧ (1 ≤ dy ∧ dy ≤ 99) ∧ (0 ≤ rn ∧ rn ≤ 99) ∧ σ 35 1 < 24
  · have hlow := h.mst hC.2.2.1.1 hC.2.2.1.2
    refine xlend_yes hr hx hd x1 x2 x3 x4 hA (by omega) ht hs hB hto hdy hrn hC ?_
    rw [hlow]
    have hst := (h.tw hC.2.2.1.1 hC.2.2.1.2)
    have hfl := lowO_r (mstV σ to) (ht := σ 63 (8 + 2 * to)) (by have := h63o hC.2.2.1; have := hB hC.2.2.1; omega)
    generalize hfl2 : lowO (mstV σ to) (σ 63 (8 + 2 * to)) = fl at *
    unfold SAME
    have q61 : putF (kpX σ) 35 (stF (σ 35) t s to dy rn fl) 61 = σ 61 := by rw [putF_ne (by decide), kpX_ne (by decide) (by decide)]
    have q63 : putF (kpX σ) 35 (stF (σ 35) t s to dy rn fl) 63 = σ 63 := by rw [putF_ne (by decide), kpX_ne (by decide) (by decide)]
    have q69 : putF (kpX σ) 35 (stF (σ 35) t s to dy rn fl) 69 = σ 69 := by rw [putF_ne (by decide), kpX_ne (by decide) (by decide)]
    have q42 : putF (kpX σ) 35 (stF (σ 35) t s to dy rn fl) 42 = σ 42 := by rw [putF_ne (by decide), kpX_ne (by decide) (by decide)]
    have qm : mstV (putF (kpX σ) 35 (stF (σ 35) t s to dy rn fl)) to = mstV σ to := by unfold mstV; rw [q63, q69]
    have hR := hRS.starts hL.1.1.2 hL.hH (t := t) (s := s) (to := to) (dy := dy) (rn := rn) (fl := fl) hC.1.1 hC.1.2 hC.2.1.1 hC.2.1.2 hC.2.2.1.1 hC.2.2.1.2 (by rw [← hw hC.1 hC.2.1]; exact hC.2.2.2.2.1) hC.2.2.2.2.2.1.1 hC.2.2.2.2.2.1.2 hC.2.2.2.2.2.2.1.1 hC.2.2.2.2.2.2.1.2 hC.2.2.2.2.2.2.2 hfl.1 (by have := h63o hC.2.2.1; omega) (fun z => ?_)
    · have hS := h.act (hR.mono (by omega) (Int.le_refl _))
      refine mlend_yes hd (by rw [q69]; exact m1) (by rw [q61, q69]; exact m2) (by rw [q42]; exact m3) (by rw [q61, q63]; intro z; have := h63 (by omega); have := hA (by omega); omega) (by rw [q61, q63, q69]; intro z y; have := hw (by omega) (by have := h63 (by omega); omega); omega) ht hs (by rw [q61, q63]; intro z; have := h63o (by omega); have := hB (by omega); omega) hto hdy hrn (by rw [q63, q69]; exact hst.2.2.2.1) ?_ ?_
      · rw [q61, q63, q69]
        have := h63 hC.1
        have := hw hC.1 hC.2.1
        omega
      · rw [q63, q69, qm, hfl2]
        exact ⟨by rw [e1], hS⟩
    · have hb := hfl.2.2 z
      rw [← hst.2.2.2.2.1] at hb
      rw [tb_bor] at hb
      simpa using (Bool.or_eq_false_iff.mp hb).2
  · refine xlend_no hr hx hd x1 x2 x3 x4 hA (by omega) ht hs hB hto hdy hrn hC ?_
    unfold SAME
    have q61 := SIM.r12 (σ := σ) (v := σ 1 2 + 1) (show 61 ≠ 1 by decide)
    have q63 := SIM.r12 (σ := σ) (v := σ 1 2 + 1) (show 63 ≠ 1 by decide)
    have q69 := SIM.r12 (σ := σ) (v := σ 1 2 + 1) (show 69 ≠ 1 by decide)
    have q42 := SIM.r12 (σ := σ) (v := σ 1 2 + 1) (show 42 ≠ 1 by decide)
    refine mlend_no hd (by rw [q69]; exact m1) (by rw [q61, q69]; exact m2) (by rw [q42]; exact m3) (by rw [q61, q63]; intro z; have := h63 (by omega); have := hA (by omega); omega) (by rw [q61, q63, q69]; intro z y; have := hw (by omega) (by have := h63 (by omega); omega); omega) ht hs (by rw [q61, q63]; intro z; have := h63o (by omega); have := hB (by omega); omega) hto hdy hrn ?_ ⟨rfl, (h.refuse (by decide) (by decide) rfl rfl).mono (by omega)⟩
    rw [q61, q63, q69]
    intro z
    apply hC
    have g1 := h63 (by omega)
    have g2 := hw (by omega) (by omega)
    omega
theorem call_back {d : Nat} {n : Int} {σ : SG} {r q : Nat} {k : Int} (hd : 100 ≤ d) (h : SIM n σ r q) (hk : r3 k) : AW d mX8_back 0 [some (.inr (.inr 0)), some (.inl k)] [] σ (SAME d (n + 1) r q mX9_back [some (.inr (.inr 42)), some (.inl k)]) := by
  obtain ⟨hr, _, hx, _⟩ := h.rr
  obtain ⟨x1, x2, x3, x4, m1, m2, m3, e4, e1, b1, b2, b3⟩ := h.fx
  have hL := h.2.2.2.2.1
  have hRS := h.2.2.2.2.2.1
  have hE : 0 ≤ k ∧ k < σ 35 1 → σ 35 (22 + k * 8 + 7) = 0 ∨ σ 35 (22 + k * 8 + 7) = 1 := fun z => (x2.2 k z.1 z.2).2.2.2.2.2.2.2
  have hE2 : 0 ≤ k ∧ k < σ 35 1 → σ 69 (62 + 8 * k + 7) = σ 35 (22 + k * 8 + 7) ∧ σ 69 (62 + 8 * k + 5) = σ 35 (22 + k * 8 + 5) := fun z => ⟨(hRS.2.2.2.2.2.1 k z.1 z.2).1 7 (by decide) (by decide), (hRS.2.2.2.2.2.1 k z.1 z.2).1 5 (by decide) (by decide)⟩
  by_cases hC : (0 ≤ k ∧ k < σ 35 1) ∧ σ 35 (22 + k * 8 + 7) = 0
  · refine xback_yes hr hx hd x1 x2 x3 x4 hk (by omega) hE hC ?_
    unfold SAME
    generalize hf : enF (σ 35) k (enH (σ 35) k (σ r 4)) = f'
    have q61 : putF (kpX σ) 35 f' 61 = σ 61 := by rw [putF_ne (by decide), kpX_ne (by decide) (by decide)]
    have q68 : putF (kpX σ) 35 f' 68 = σ 68 := by rw [putF_ne (by decide), kpX_ne (by decide) (by decide)]
    have q69 : putF (kpX σ) 35 f' 69 = σ 69 := by rw [putF_ne (by decide), kpX_ne (by decide) (by decide)]
    have q42 : putF (kpX σ) 35 f' 42 = σ 42 := by rw [putF_ne (by decide), kpX_ne (by decide) (by decide)]
    have hz := hE2 hC.1
    have hR := hRS.ends hL.1.1.2 hL.hH (k := k) (hm := enH (σ 35) k (σ r 4)) hC.1.1 hC.1.2 hC.2 (by unfold enH; split; exact Or.inl rfl; exact Or.inr rfl)
    rw [hf] at hR
    have hS := h.act (hR.mono (by omega) (Int.le_refl _))
    refine mback_yes hd (by rw [q69]; exact m1) (by rw [q61, q69]; exact m2) (by rw [q42]; exact m3) hk (by rw [q68]; omega) (by rw [q69]; intro z; have := hE (by omega); omega) (by rw [q69]; omega) ?_
    rw [q68, q69, hz.2, b3 (by omega)]
    exact ⟨rfl, hS⟩
  · refine xback_no hr hx hd x1 x2 x3 x4 hk (by omega) hE hC ?_
    unfold SAME
    have q61 := SIM.r12 (σ := σ) (v := σ 1 2 + 1) (show 61 ≠ 1 by decide)
    have q68 := SIM.r12 (σ := σ) (v := σ 1 2 + 1) (show 68 ≠ 1 by decide)
    have q69 := SIM.r12 (σ := σ) (v := σ 1 2 + 1) (show 69 ≠ 1 by decide)
    have q42 := SIM.r12 (σ := σ) (v := σ 1 2 + 1) (show 42 ≠ 1 by decide)
    refine mback_no hd (by rw [q69]; exact m1) (by rw [q61, q69]; exact m2) (by rw [q42]; exact m3) hk (by rw [q68]; omega) (by rw [q69]; intro z; have := hE (by omega); have := hE2 (by omega); omega) ?_ ⟨rfl, (h.refuse (by decide) (by decide) rfl rfl).mono (by omega)⟩
    rw [q69]
    intro z
    apply hC
    have := hE2 (by omega)
    omega
theorem call_refit {d : Nat} {n : Int} {σ : SG} {r q : Nat} {t s : Int} (hd : 100 ≤ d) (h : SIM n σ r q) (ht : r3 t) (hs : r3 s) : AW d mX8_refit 0 [some (.inr (.inr 0)), some (.inl t), some (.inl s)] [] σ (SAME d (n + 1) r q mX9_refit [some (.inr (.inr 42)), some (.inl t), some (.inl s)]) := by
  obtain ⟨hr, _, hx, _⟩ := h.rr
  obtain ⟨x1, x2, x3, x4, m1, m2, m3, e4, e1, b1, b2, b3⟩ := h.fx
  have hL := h.2.2.2.2.1
  have hRS := h.2.2.2.2.2.1
  have hV := hwV_r (σ 35) t s
  have hA : 0 ≤ t ∧ t < σ r 0 → 3 ≤ σ (r + 2) t ∧ σ (r + 2) t ≤ 14 := fun z => hL.hH t z.1 z.2
  have h63 : 0 ≤ t ∧ t < σ r 0 → σ 63 (8 + 2 * t) = σ (r + 2) t := fun z => (h.tw z.1 z.2).2.1
  have hw : 0 ≤ t ∧ t < σ r 0 → 1 ≤ s ∧ s ≤ σ (r + 2) t → hwV (σ 35) t s = σ 69 (6 + 14 * t + s - 1) := fun z y => hRS.how hL.hH z.1 z.2 y.1 y.2
  by_cases hC : (0 ≤ t ∧ t < σ r 0) ∧ (1 ≤ s ∧ s ≤ σ (r + 2) t) ∧ hwV (σ 35) t s = 3
  · refine xrefit_yes hr hx hd x1 x2 x3 x4 hA (by omega) ht hs hC ?_
    have hcost := (h.tw hC.1.1 hC.1.2).2.2.1
    have hcr := hL.1.2.2.1 t hC.1.1 hC.1.2
    unfold SAME
    have hR := hRS.refit hL.1.1.2 hL.hH (t := t) (s := s) (c := σ (r + 3) t) hC.1.1 hC.1.2 hC.2.1.1 hC.2.1.2 (by rw [← hw hC.1 hC.2.1]; exact hC.2.2) hcr.2.2.1 hcr.2.2.2
    generalize hf : rfF (σ 35) t s (σ (r + 3) t) = f' at *
    have q61 : putF (kpX σ) 35 f' 61 = σ 61 := by rw [putF_ne (by decide), kpX_ne (by decide) (by decide)]
    have q63 : putF (kpX σ) 35 f' 63 = σ 63 := by rw [putF_ne (by decide), kpX_ne (by decide) (by decide)]
    have q69 : putF (kpX σ) 35 f' 69 = σ 69 := by rw [putF_ne (by decide), kpX_ne (by decide) (by decide)]
    have q42 : putF (kpX σ) 35 f' 42 = σ 42 := by rw [putF_ne (by decide), kpX_ne (by decide) (by decide)]
    have hS := h.act (hR.mono (by omega) (Int.le_refl _))
    refine mrefit_yes hd (by rw [q69]; exact m1) (by rw [q61, q69]; exact m2) (by rw [q42]; exact m3) (by rw [q61, q63]; intro z; have := h63 (by omega); have := hA (by omega); omega) (by rw [q61, q63, q69]; intro z y; have := hw (by omega) (by have := h63 (by omega); omega); omega) ht hs ?_ ?_
    · rw [q61, q63, q69]
      have := h63 hC.1
      have := hw hC.1 hC.2.1
      omega
    · rw [q63, q69, hcost]
      exact ⟨rfl, hS⟩
  · refine xrefit_no hr hx hd x1 x2 x3 x4 hA (by omega) ht hs hC ?_
    unfold SAME
    have q61 := SIM.r12 (σ := σ) (v := σ 1 2 + 1) (show 61 ≠ 1 by decide)
    have q63 := SIM.r12 (σ := σ) (v := σ 1 2 + 1) (show 63 ≠ 1 by decide)
    have q69 := SIM.r12 (σ := σ) (v := σ 1 2 + 1) (show 69 ≠ 1 by decide)
    have q42 := SIM.r12 (σ := σ) (v := σ 1 2 + 1) (show 42 ≠ 1 by decide)
    refine mrefit_no hd (by rw [q69]; exact m1) (by rw [q61, q69]; exact m2) (by rw [q42]; exact m3) (by rw [q61, q63]; intro z; have := h63 (by omega); have := hA (by omega); omega) (by rw [q61, q63, q69]; intro z y; have := hw (by omega) (by have := h63 (by omega); omega); omega) ht hs ?_ ⟨rfl, (h.refuse (by decide) (by decide) rfl rfl).mono (by omega)⟩
    rw [q61, q63, q69]
    intro z
    apply hC
    have g1 := h63 (by omega)
    have g2 := hw (by omega) (by omega)
    omega
