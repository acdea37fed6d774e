/-! ===== ask: the class's reading (wip/whole/9v.py) ===== -/
theorem cask {d : Nat} {o : Int → Int} {L : Int} {σ : SG} {Q : Option AV → SG → Prop} (hd : 95 ≤ d) (h3 : σ 3 = o) (h1 : σ 2 1 = L) (hL : 0 ≤ L ∧ L ≤ 1600) (ho : OCT o)
    (hq0 : ∀ S z, qrd o L = .inl z → (∀ p, p ≠ 2 → p ≠ 27 → p ≠ 28 → S p = σ p) → S 2 2 = z.1 → S 2 3 = z.2 → Q (some (.inl 0)) S)
    (hq1 : ∀ S K C, qrd o L = .inr (K, C) → (∀ p, p ≠ 2 → p ≠ 27 → p ≠ 28 → S p = σ p) → (S 2 2 = 0 ∧ S 2 3 = -1) → QSc C 0 S → S 27 4 = K → C.length ≤ 1600 → (0 ≤ K ∧ K ≤ 5) → Q (some (.inl 1)) S) : AW d mX3_read 0 [some (.inr (.inr 27)), none] [] σ Q := by
  refine qR_0 ⟨by omega, crewind (by omega) h3 h1 hL ho (fun S0 hA0 hC0 => ?_)⟩
  refine qR_7 (fun S1 e1 S2 e2 => ⟨by omega, ?_⟩)
  have hp2 : ∀ p, p ≠ 27 → S2 p = S0 p := fun p a => by rw [e2, up_pf a, e1, up_pf a]
  have hC2 : CTp o L (.inr (0, 0, -1)) S2 := by
    unfold CTp
    rw [hp2 3 (by decide), hp2 2 (by decide)]
    exact hC0
  have hwl := qw_lt (o := o) (L := L) (p := 0) (e := -1) (j := 1)
  have hwl2 : ((WL 1).length : Int) = 6 := rfl
  rw [hwl2] at hwl
  refine cwa (i := 1) (by decide) (by omega) hC2 ?_
  rw [show (if kd o L (-1) (sk o L 0) = 1 then fstW o (sk o L 0) (te o L (sk o L 0)) (WL 1) 0 else -1) = qwd o L 1 0 (-1) from rfl]
  refine qR_27 (fun S3 e3 => ?_)
  have s34 : S3 27 4 = qwd o L 1 0 (-1) := by rw [e3, up_at]
  have hp3 : ∀ p, p ≠ 27 → S3 p = S0 p := fun p a => by rw [e3, up_pf a]; exact hp2 p a
  have hC3 : CTp o L (.inr (0, 0, -1)) S3 := by
    unfold CTp
    rw [hp3 3 (by decide), hp3 2 (by decide)]
    exact hC0
  have z3 : ∀ p, p ≠ 2 → p ≠ 27 → S3 p = σ p := fun p a b => by rw [hp3 p b]; exact hA0 p a
  have ht0 := tok (o := o) (L := L) (-1) (p := 0) (by decide) hL.1
  rw [s34]
  refine ⟨by omega, fun hw => ⟨by omega, ?_⟩, fun hw => ⟨by omega, by omega, ?_⟩⟩
  · have k1 := qwd_t hw
    have hnl := (name_lt (p := 0) (by decide) hL.1 k1).1
    refine cadv 0 (by omega) hC3 (fun S4 hA4 hC4 => ?_)
    rw [if_pos (Or.inl k1)] at hC4
    have s44 : S4 27 4 = qwd o L 1 0 (-1) := by rw [hA4 27 (by decide)]; exact s34
    have hQ4 : QSc [] 0 S4 := by
      refine ⟨?_, ?_, fun i hi => absurd hi (Nat.not_lt_zero _)⟩
      · rw [hA4 27 (by decide), e3, up_i (by decide), e2, up_i (by decide), e1, up_at]
        rfl
      · rw [hA4 27 (by decide), e3, up_i (by decide), e2, up_at]
    have z4 : ∀ p, p ≠ 2 → p ≠ 27 → S4 p = σ p := fun p a b => by rw [hA4 p a]; exact z3 p a b
    have er : qrd o L = match qx o L 17000 (if qwd o L 1 0 (-1) ≤ 2 then 8 else 2) 0 (te o L (sk o L 0)) (te o L (sk o L 0)) with
      | .inl z => .inl z
      | .inr z => if kd o L z.2.2 (sk o L z.2.1) = 0 then .inr (qwd o L 1 0 (-1), z.1) else .inl (1, sk o L z.2.1) := by
      unfold qrd
      rw [if_neg hw]
      rfl
    generalize qwd o L 1 0 (-1) = K at *
    -- behind the reading
    have fin0 : ∀ (z : Int × Int) (U : SG), qrd o L = .inl z → QFr S4 U → CTp o L (.inl z) U → Q (some (.inl 0)) U := by
      intro z U ez hF hC
      exact hq0 U z ez (fun p a b c => by rw [hF.1 p a b c]; exact z4 p a b) hC.2.1 hC.2.2
    have fin1 : ∀ (c : List Int) (p' e' : Int) (U : SG), qrd o L = (if kd o L e' (sk o L p') = 0 then .inr (K, c) else .inl (1, sk o L p')) → (c.length : Int) ≤ L → QFr S4 U → CTp o L (.inr (0, p', e')) U → QSc c 0 U → (r3 (U 2 4)) ∧ ((U 2 4) = 0 → Q (some (.inl 1)) U) ∧ ((U 2 4) ≠ 0 → (0 < d) ∧ (0 < d - 1) ∧ (r3 (U 2 2)) ∧ ((U 2 2) ≠ 0 → Q (some (.inl 0)) U) ∧ ((U 2 2) = 0 → (∀ A : SG, A = up U 2 2 1 → (∀ A2 : SG, A2 = up A 2 3 (U 2 5) → Q (some (.inl 0)) A2)))) := by
      intro c p' e' U ez hcl hF hC hQ
      obtain ⟨h0, ⟨g2, g3⟩, hTS, hp⟩ := hC
      have hp : 0 ≤ p' ∧ p' ≤ L := hp
      have hTS : TS o L p' e' (U 2) := hTS
      have ht := tok (o := o) (L := L) e' hp.1 hp.2
      obtain ⟨k5, k4, k6⟩ : U 2 5 = sk o L p' ∧ U 2 4 = kd o L e' (sk o L p') ∧ True := ⟨hTS.1, hTS.2.1, trivial⟩
      rw [k4]
      refine ⟨by omega, fun c0 => ?_, fun c0 => ⟨by omega, by omega, by omega, fun z => absurd g2 z, fun _ A f1 A2 f2 => ?_⟩⟩
      · rw [if_pos c0] at ez
        refine hq1 U K c ez (fun p a b e => by rw [hF.1 p a b e]; exact z4 p a b) ⟨g2, g3⟩ hQ ?_ (by omega) (by omega)
        rw [hF.2 4 (by decide) (by decide)]
        exact s44
      · rw [if_neg c0] at ez
        have hf := cfail (k := 1) (pl := sk o L p') (v := 0) (p := p') (e := e') ⟨h0, ⟨g2, g3⟩, hTS, hp⟩
        rw [k5] at f2
        rw [f1] at f2
        rw [← f2] at hf
        exact hq0 A2 _ ez (fun p a b e => by rw [hf.2 p a, hF.1 p a b e]; exact z4 p a b) hf.1.2.1 hf.1.2.2
    have hcq := cqAll (o := o) (L := L) 17000
    rw [← s44] at hwl
    by_cases c3 : K ≤ 2
    · rw [if_pos c3] at er
      refine qR_53 ⟨by omega, fun z => by omega, fun _ => ⟨by omega, ?_⟩⟩
      refine hcq.2.2.2.2.2.2.2.2.1 (d - 1) 0 (te o L (sk o L 0)) (te o L (sk o L 0)) 0 0 S4 [] _ (by omega) (by decide) (by omega) (by omega) hC4 hQ4 (by rw [List.length_nil]; omega) (fun z U hX hF hC => ?_) (fun c p' e' U hX hF hC hQ => ?_)
      · rw [hX] at er
        exact qR_65 ⟨by decide, fun _ => fin0 z U er hF hC, fun z => absurd rfl z⟩
      · have q := qx_r 17000 _ _ _ _ _ (by omega) (by omega) hX
        unfold QOk at q
        dsimp only at q
        rw [hX] at er
        rw [List.nil_append] at hQ
        exact qR_65 ⟨by decide, fun z => absurd z (by decide), fun _ => fin1 c p' e' U er (by omega) hF hC hQ⟩
    · rw [if_neg c3] at er
      refine qR_53 ⟨by omega, fun _ => ⟨by omega, ?_⟩, fun z => by omega⟩
      refine hcq.2.2.1 (d - 1) 0 (te o L (sk o L 0)) (te o L (sk o L 0)) 0 0 S4 [] _ (by omega) (by decide) (by omega) (by omega) hC4 hQ4 (by rw [List.length_nil]; omega) (fun z U hX hF hC => ?_) (fun c p' e' U hX hF hC hQ => ?_)
      · rw [hX] at er
        exact qR_72 ⟨by decide, fun _ => fin0 z U er hF hC, fun z => absurd rfl z⟩
      · have q := qx_r 17000 _ _ _ _ _ (by omega) (by omega) hX
        unfold QOk at q
        dsimp only at q
        rw [hX] at er
        rw [List.nil_append] at hQ
        exact qR_72 ⟨by decide, fun z => absurd z (by decide), fun _ => fin1 c p' e' U er (by omega) hF hC hQ⟩
  · have ez : qrd o L = .inl (1, sk o L 0) := by
      unfold qrd
      rw [if_pos hw]
    have hf := cfail (k := 1) (pl := sk o L 0) hC3
    obtain ⟨h0, ⟨g2, g3⟩, hTS, hp⟩ := hC3
    have hTS : TS o L 0 (-1) (S3 2) := hTS
    have k5 : S3 2 5 = sk o L 0 := hTS.1
    refine ⟨by omega, fun z => absurd g2 z, fun _ A f1 A2 f2 => ?_⟩
    rw [k5] at f2
    rw [f1] at f2
    rw [← f2] at hf
    exact hq0 A2 _ ez (fun p a b e => by rw [hf.2 p a]; exact z3 p a b) hf.1.2.1 hf.1.2.2
