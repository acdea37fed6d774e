/-! ===== tests read by the reference: by fuel (wip/whole/9k.py) ===== -/
def A10 (P : List Int) : Prop := ∀ x ∈ P, x = 10
def A11 (P : List Int) : Prop := ∀ x ∈ P, x = 10 ∨ x = 11
theorem A10.m {P : List Int} (h : A10 P) : A11 P := fun x hx => Or.inl (h x hx)
theorem hdn {x y : Int} {s : List Int} (h : x ≠ y) : (x :: s).head? ≠ some y := fun z => h (Option.some.inj z)
def RT6 (o : Int → Int) (L : Int) (d : Nat) (σ0 : SG) (Q : Option AV → SG → Prop) (n : Nat) : Prop := ∀ (op p e : Int) (C s : List Int), 10 * (L - p) + 5 ≤ (n : Int) → 0 ≤ p → p ≤ L → (0 ≤ op ∧ op ≤ 6) → HD14 s → (∀ z, qx o L n 6 op p e = .inl z → BTs o L σ0 Q z) → (∀ c p' e', qx o L n 6 op p e = .inr (c, p', e') → NAs (GTs o L d σ0 Q p' e') (C ++ c) s op) → TLs o L d σ0 Q p e C s op
def RT7 (o : Int → Int) (L : Int) (d : Nat) (σ0 : SG) (Q : Option AV → SG → Prop) (n : Nat) : Prop := ∀ (op p e : Int) (C s : List Int), 10 * (L - p) + 6 ≤ (n : Int) → 0 ≤ p → p ≤ L → (0 ≤ op ∧ op ≤ 6) → HD14 s → s.head? ≠ some 10 → s.head? ≠ some 12 → (∀ z, qx o L n 7 op p e = .inl z → BTs o L σ0 Q z) → (∀ c p' e', qx o L n 7 op p e = .inr (c, p', e') → ∀ C2 P2 : List Int, A10 P2 → C2 ++ P2 = C ++ c → qwd o L 5 p' e' = -1 → GTs o L d σ0 Q p' e' C2 (P2 ++ s) op) → TLs o L d σ0 Q p e C s op
def RT9 (o : Int → Int) (L : Int) (d : Nat) (σ0 : SG) (Q : Option AV → SG → Prop) (n : Nat) : Prop := ∀ (op p e : Int) (C P s : List Int), 10 * (L - p) + 8 ≤ (n : Int) → 0 ≤ p → p ≤ L → (0 ≤ op ∧ op ≤ 6) → HD14 s → A10 P → s.head? ≠ some 10 → (∀ z, qx o L n 9 op p e = .inl z → BTs o L σ0 Q z) → (∀ c p' e', qx o L n 9 op p e = .inr (c, p', e') → ∀ C2 P2 : List Int, A10 P2 → C2 ++ P2 = C ++ P ++ c → qwd o L 5 p' e' = -1 → GTs o L d σ0 Q p' e' C2 (P2 ++ s) op) → GTs o L d σ0 Q p e C (P ++ s) op
def RT8 (o : Int → Int) (L : Int) (d : Nat) (σ0 : SG) (Q : Option AV → SG → Prop) (n : Nat) : Prop := ∀ (op p e : Int) (C s : List Int), 10 * (L - p) + 7 ≤ (n : Int) → 0 ≤ p → p ≤ L → (0 ≤ op ∧ op ≤ 6) → HD14 s → s.head? ≠ some 10 → s.head? ≠ some 11 → s.head? ≠ some 12 → (∀ z, qx o L n 8 op p e = .inl z → BTs o L σ0 Q z) → (∀ c p' e', qx o L n 8 op p e = .inr (c, p', e') → ∀ C2 P2 : List Int, A11 P2 → C2 ++ P2 = C ++ c → qwd o L 5 p' e' = -1 → qwd o L 6 p' e' = -1 → GTs o L d σ0 Q p' e' C2 (P2 ++ s) op) → TLs o L d σ0 Q p e C s op
def RT10 (o : Int → Int) (L : Int) (d : Nat) (σ0 : SG) (Q : Option AV → SG → Prop) (n : Nat) : Prop := ∀ (op p e : Int) (C P s : List Int), 10 * (L - p) + 8 ≤ (n : Int) → 0 ≤ p → p ≤ L → (0 ≤ op ∧ op ≤ 6) → HD14 s → A11 P → s.head? ≠ some 10 → s.head? ≠ some 11 → qwd o L 5 p e = -1 → (∀ z, qx o L n 10 op p e = .inl z → BTs o L σ0 Q z) → (∀ c p' e', qx o L n 10 op p e = .inr (c, p', e') → ∀ C2 P2 : List Int, A11 P2 → C2 ++ P2 = C ++ P ++ c → qwd o L 5 p' e' = -1 → qwd o L 6 p' e' = -1 → GTs o L d σ0 Q p' e' C2 (P2 ++ s) op) → GTs o L d σ0 Q p e C (P ++ s) op
theorem rt7 {o : Int → Int} {L : Int} {d : Nat} {σ0 : SG} {Q : Option AV → SG → Prop} {n : Nat} (i6 : RT6 o L d σ0 Q n) (i9 : RT9 o L d σ0 Q n) : RT7 o L d σ0 Q (n + 1) := by
  intro op p e C s hn h0 h1 ho hh hs10 hs12 bad good
  have bad : ∀ z, qxC (qx o L n) 6 9 op p e = .inl z → _ := bad
  have good : ∀ c p' e', qxC (qx o L n) 6 9 op p e = .inr (c, p', e') → _ := good
  unfold qxC at bad good
  refine i6 op p e C s (by omega) h0 h1 ho hh (fun z hz => bad z (by rw [hz]; rfl)) (fun c p1 e1 hX => NAs_stop hs12 ?_)
  have q := qx_r n _ _ _ _ _ h0 h1 hX
  unfold QOk at q
  dsimp only at q
  rw [hX] at bad good
  have bad : ∀ z, qbd (qx o L n 9 op p1 e1) (fun c2 p2 e2 => .inr (c ++ c2, p2, e2)) = .inl z → _ := bad
  have good : ∀ c' p' e', qbd (qx o L n 9 op p1 e1) (fun c2 p2 e2 => .inr (c ++ c2, p2, e2)) = .inr (c', p', e') → _ := good
  refine i9 op p1 e1 (C ++ c) [] s (by omega) (by omega) (by omega) ho hh (fun x hx => by cases hx) hs10 (fun z hz => bad z (by rw [hz]; rfl)) (fun c2 p2 e2 hY C2 P2 hP hc hn => good (c ++ c2) p2 e2 (by rw [hY]; rfl) C2 P2 hP ?_ hn)
  rw [hc, List.append_nil, List.append_assoc]
theorem rt8 {o : Int → Int} {L : Int} {d : Nat} {σ0 : SG} {Q : Option AV → SG → Prop} {n : Nat} (i7 : RT7 o L d σ0 Q n) (i10 : RT10 o L d σ0 Q n) : RT8 o L d σ0 Q (n + 1) := by
  intro op p e C s hn h0 h1 ho hh hs10 hs11 hs12 bad good
  have bad : ∀ z, qxC (qx o L n) 7 10 op p e = .inl z → _ := bad
  have good : ∀ c p' e', qxC (qx o L n) 7 10 op p e = .inr (c, p', e') → _ := good
  unfold qxC at bad good
  refine i7 op p e C s (by omega) h0 h1 ho hh hs10 hs12 (fun z hz => bad z (by rw [hz]; rfl)) (fun c p1 e1 hX C2 P2 hP hc hm => ?_)
  have q := qx_r n _ _ _ _ _ h0 h1 hX
  unfold QOk at q
  dsimp only at q
  rw [hX] at bad good
  have bad : ∀ z, qbd (qx o L n 10 op p1 e1) (fun c2 p2 e2 => .inr (c ++ c2, p2, e2)) = .inl z → _ := bad
  have good : ∀ c' p' e', qbd (qx o L n 10 op p1 e1) (fun c2 p2 e2 => .inr (c ++ c2, p2, e2)) = .inr (c', p', e') → _ := good
  refine i10 op p1 e1 C2 P2 s (by omega) (by omega) (by omega) ho hh hP.m hs10 hs11 hm (fun z hz => bad z (by rw [hz]; rfl)) (fun c2 p2 e2 hY C3 P3 hP3 hc3 => good (c ++ c2) p2 e2 (by rw [hY]; rfl) C3 P3 hP3 ?_)
  rw [hc3, hc, List.append_assoc]
theorem rt9 {o : Int → Int} {L : Int} {d : Nat} {σ0 : SG} {Q : Option AV → SG → Prop} {n : Nat} (hd : 14 ≤ d) (i6 : RT6 o L d σ0 Q n) (i9 : RT9 o L d σ0 Q n) : RT9 o L d σ0 Q (n + 1) := by
  intro op p e C P s hn h0 h1 ho hh hP hs10 bad good
  have bad : ∀ z, qxV o L (qx o L n) 5 10 6 9 op p e = .inl z → _ := bad
  have good : ∀ c p' e', qxV o L (qx o L n) 5 10 6 9 op p e = .inr (c, p', e') → _ := good
  unfold qxV at bad good
  have ht := tok (o := o) (L := L) e h0 h1
  by_cases hx : qwd o L 5 p e ≠ -1
  · have hnl := (name_lt h0 h1 (qwd_t hx)).1
    rw [if_pos hx] at bad good
    refine gt_and hd hx hP hs10 ?_
    refine i6 op _ _ (C ++ P) (10 :: s) (by omega) (by omega) (by omega) ho (hd_c (by omega)) (fun z hz => bad z (by rw [hz]; rfl)) (fun c p1 e1 hX => NAs_stop (hdn (by decide)) ?_)
    have q := qx_r n _ _ _ _ _ (by omega) (by omega) hX
    unfold QOk at q
    dsimp only at q
    rw [hX] at bad good
    have bad : ∀ z, qbd (qx o L n 9 op p1 e1) (fun c2 p2 e2 => .inr (c ++ 10 :: c2, p2, e2)) = .inl z → _ := bad
    have good : ∀ c' p' e', qbd (qx o L n 9 op p1 e1) (fun c2 p2 e2 => .inr (c ++ 10 :: c2, p2, e2)) = .inr (c', p', e') → _ := good
    refine i9 op p1 e1 (C ++ P ++ c) [10] s (by omega) (by omega) (by omega) ho hh (fun x hx => by rw [List.mem_singleton] at hx; exact hx) hs10 (fun z hz => bad z (by rw [hz]; rfl)) (fun c2 p2 e2 hY C2 P2 hP hc hn => good (c ++ 10 :: c2) p2 e2 (by rw [hY]; rfl) C2 P2 hP ?_ hn)
    rw [hc]
    simp only [List.append_assoc, List.cons_append, List.nil_append]
  · rw [if_neg hx] at good
    exact good [] p e rfl C P hP (by rw [List.append_nil]) (Decidable.not_not.mp hx)
theorem rt10 {o : Int → Int} {L : Int} {d : Nat} {σ0 : SG} {Q : Option AV → SG → Prop} {n : Nat} (hd : 14 ≤ d) (i7 : RT7 o L d σ0 Q n) (i10 : RT10 o L d σ0 Q n) : RT10 o L d σ0 Q (n + 1) := by
  intro op p e C P s hn h0 h1 ho hh hP hs10 hs11 hn5 bad good
  have bad : ∀ z, qxV o L (qx o L n) 6 11 7 10 op p e = .inl z → _ := bad
  have good : ∀ c p' e', qxV o L (qx o L n) 6 11 7 10 op p e = .inr (c, p', e') → _ := good
  unfold qxV at bad good
  have ht := tok (o := o) (L := L) e h0 h1
  by_cases hx : qwd o L 6 p e ≠ -1
  · have hnl := (name_lt h0 h1 (qwd_t hx)).1
    rw [if_pos hx] at bad good
    refine gt_or hd hn5 hx hP ⟨hs10, hs11⟩ ?_
    refine i7 op _ _ (C ++ P) (11 :: s) (by omega) (by omega) (by omega) ho (hd_c (by omega)) (hdn (by decide)) (hdn (by decide)) (fun z hz => bad z (by rw [hz]; rfl)) (fun c p1 e1 hX C2 P2 hP2 hc hm2 => ?_)
    have q := qx_r n _ _ _ _ _ (by omega) (by omega) hX
    unfold QOk at q
    dsimp only at q
    rw [hX] at bad good
    have bad : ∀ z, qbd (qx o L n 10 op p1 e1) (fun c2 p2 e2 => .inr (c ++ 11 :: c2, p2, e2)) = .inl z → _ := bad
    have good : ∀ c' p' e', qbd (qx o L n 10 op p1 e1) (fun c2 p2 e2 => .inr (c ++ 11 :: c2, p2, e2)) = .inr (c', p', e') → _ := good
    rw [show P2 ++ 11 :: s = (P2 ++ [11]) ++ s by rw [List.append_assoc]; rfl]
    refine i10 op p1 e1 C2 (P2 ++ [11]) s (by omega) (by omega) (by omega) ho hh (fun x hx => ?_) hs10 hs11 hm2 (fun z hz => bad z (by rw [hz]; rfl)) (fun c2 p2 e2 hY C3 P3 hP3 hc3 => good (c ++ 11 :: c2) p2 e2 (by rw [hY]; rfl) C3 P3 hP3 ?_)
    · rw [List.mem_append, List.mem_singleton] at hx
      rcases hx with z | z
      · exact Or.inl (hP2 x z)
      · exact Or.inr z
    · rw [hc3, ← List.append_assoc C2 P2 [11], hc]
      simp only [List.append_assoc, List.cons_append, List.nil_append]
  · rw [if_neg hx] at good
    exact good [] p e rfl C P hP (by rw [List.append_nil]) hn5 (Decidable.not_not.mp hx)
theorem all_not {o : Int → Int} {L p e : Int} (h : qwd o L 2 p e ≠ -1) : qwd o L 3 p e = -1 := by
  have a2 := qw1 (o := o) (L := L) (p := p) (e := e) (j := 2) rfl
  have a3 := qw1 (o := o) (L := L) (p := p) (e := e) (j := 3) rfl
  by_cases z : qwd o L 3 p e = -1
  · exact z
  · have w2 := ((qw_at (o := o) (L := L) (p := p) (e := e) (j := 2) (i := 0) (by decide) (by decide)).mp (by omega)).2
    have w3 := ((qw_at (o := o) (L := L) (p := p) (e := e) (j := 3) (i := 0) (by decide) (by decide)).mp (by omega)).2
    have := weq_one _ _ _ _ w2 w3
    exact absurd this (by decide)
theorem rt6 {o : Int → Int} {L : Int} {d : Nat} {σ0 : SG} {Q : Option AV → SG → Prop} {n : Nat} (hd : 14 ≤ d) (i6 : RT6 o L d σ0 Q n) (i8 : RT8 o L d σ0 Q n) : RT6 o L d σ0 Q (n + 1) := by
  intro op p e C s hn h0 h1 ho hh bad good
  have bad : ∀ z, qxF o L (qx o L n) op p e = .inl z → _ := bad
  have good : ∀ c p' e', qxF o L (qx o L n) op p e = .inr (c, p', e') → _ := good
  unfold qxF at bad good
  have ht := tok (o := o) (L := L) e h0 h1
  by_cases w2 : qwd o L 2 p e ≠ -1
  · rw [if_pos w2] at good
    exact tl_all hd w2 (all_not w2) (good _ _ _ rfl)
  · rw [if_neg w2] at bad good
    by_cases w3 : qwd o L 3 p e ≠ -1
    · rw [if_pos w3] at bad good
      have hnl := (name_lt h0 h1 (qwd_t w3)).1
      refine tl_not hd ho w3 (fun c => bad _ (by rw [if_pos c])) (fun c => ?_)
      rw [if_neg (by omega)] at bad good
      refine i6 (op + 1) _ _ C (12 :: s) (by omega) (by omega) (by omega) (by omega) (hd_c (by omega)) (fun z hz => bad z (by rw [hz]; rfl)) (fun c p1 e1 hX => ?_)
      have hE := good _ _ _ (by rw [hX]; rfl)
      show if (12 : Int) = 12 then _ else _
      rw [if_pos rfl, List.append_assoc, show op + 1 - 1 = op by omega]
      exact hE
    · rw [if_neg w3] at bad good
      by_cases h91 : qsg o L p e = 91
      · rw [if_pos h91] at bad good
        have hsl := (ht.2.2.2.1 (qsg_t h91 (by decide)).1).1
        refine tl_open hd ho h91 (fun c => bad _ (by rw [if_pos c])) (fun c => ?_)
        rw [if_neg (by omega)] at bad good
        refine i8 (op + 1) (sk o L p + 1) (-1) C (25 :: s) (by omega) (by omega) (by omega) (by omega) (hd_c (by omega)) (hdn (by decide)) (hdn (by decide)) (hdn (by decide)) (fun z hz => bad z (qcl_b hz)) (fun c p1 e1 hX C2 P2 hP hc hm5 hm6 => ?_)
        have hq := qcl_g (o := o) (L := L) (c := 93) (by decide) hX
        by_cases h93 : qsg o L p1 e1 = 93
        · rw [if_pos h93] at hq
          have hE := good _ _ _ hq
          refine gt_close hd h93 hP ?_
          rw [hc, show op + 1 - 1 = op by omega]
          exact hE
        · rw [if_neg h93] at hq
          exact gt_fail hd hm5 hm6 h93 (List.mem_append.mpr (Or.inr (List.mem_cons_self ..))) (bad _ hq)
      · rw [if_neg h91] at bad good
        obtain ⟨m, hm⟩ : ∃ m, n = m + 1 := ⟨n - 1, by omega⟩
        rw [hm] at bad good
        have bad : ∀ z, qxK o L (qx o L m) op p e = .inl z → _ := bad
        have good : ∀ c p' e', qxK o L (qx o L m) op p e = .inr (c, p', e') → _ := good
        exact tl_cmp hd (by omega) ho hh h91 (Decidable.not_not.mp w2) (Decidable.not_not.mp w3) bad good
theorem rtAll {o : Int → Int} {L : Int} {d : Nat} {σ0 : SG} {Q : Option AV → SG → Prop} (hd : 14 ≤ d) : ∀ n, RT6 o L d σ0 Q n ∧ RT7 o L d σ0 Q n ∧ RT8 o L d σ0 Q n ∧ RT9 o L d σ0 Q n ∧ RT10 o L d σ0 Q n := by
  intro n
  induction n with
  | zero => exact ⟨fun _ _ _ _ _ hn _ _ => by omega, fun _ _ _ _ _ hn _ _ => by omega, fun _ _ _ _ _ hn _ _ => by omega, fun _ _ _ _ _ _ hn _ _ => by omega, fun _ _ _ _ _ _ hn _ _ => by omega⟩
  | succ n ih =>
    obtain ⟨i6, i7, i8, i9, i10⟩ := ih
    exact ⟨rt6 hd i6 i8, rt7 i6 i9, rt8 i7 i10, rt9 hd i6 i9, rt10 hd i7 i10⟩
theorem mtest {o : Int → Int} {L v p e op : Int} {d n : Nat} {C : List Int} {σ : SG} {Q : Option AV → SG → Prop} (hd : 14 ≤ d) (hn : 10 * (L - p) + 7 ≤ (n : Int)) (ho : 0 ≤ op ∧ op ≤ 6) (hR : RTp o L (.inr (v, p, e)) σ) (hq : RQs C [] op 0 σ) (hl : (C.length : Int) ≤ p) (hb : ∀ z σ', qx o L n 8 op p e = .inl z → MQw σ σ' → RTp o L (.inl z) σ' → Q none σ') (hg : ∀ c p' e' v' σ', qx o L n 8 op p e = .inr (c, p', e') → MQf σ σ' → RTp o L (.inr (v', p', e')) σ' → RQs (C ++ c) [] op 0 σ' → Q none σ') : AW d mX9_qTest 0 [some (.inr (.inr 42)), none, none] [] σ Q := by
  have hp0 := hR.f.2.2.2.1
  have hp1 := hR.f.2.2.1
  have hmain := (rtAll (o := o) (L := L) (d := d) (σ0 := σ) (Q := Q) hd n).2.2.1
  have nh : ∀ x : Int, ([] : List Int).head? ≠ some x := fun x z => by cases z
  refine wT_0 (hmain op p e C [] hn hp0 (by omega) ho ⟨nh 1, nh 2, nh 3, nh 4⟩ (nh 10) (nh 11) (nh 12) (fun z hz σ' hM' hR' => hb z σ' hz hM' hR') (fun c p1 e1 hX C2 P2 hP hc h5 h6 => ?_) σ v (MQf.rf σ) hR hq (by rw [List.length_nil]; omega))
  refine gt_end hd h5 h6 (fun z => ?_) (fun σ' v' hM' hR' hq' => hg c p1 e1 v' σ' hX hM' hR' ?_)
  · rw [List.append_nil] at z
    rcases hP 25 z with y | y <;> omega
  · rw [List.append_nil, hc] at hq'
    exact hq'
