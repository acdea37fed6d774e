/-! ===== tests read by the reference, state by state (wip/whole/9j.py) ===== -/
def TLs (o : Int → Int) (L : Int) (d : Nat) (σ0 : SG) (Q : Option AV → SG → Prop) (p e : Int) (C s : List Int) (op : Int) : Prop := ∀ (σ : SG) (v : Int), MQf σ0 σ → RTp o L (.inr (v, p, e)) σ → RQs C s op 0 σ → ((C.length + s.length : Nat) : Int) ≤ p → AW d mX9_qTest 2 [some (.inr (.inr 42)), some (.inl 1), none] [] σ Q
def GTs (o : Int → Int) (L : Int) (d : Nat) (σ0 : SG) (Q : Option AV → SG → Prop) (p e : Int) (C s : List Int) (op : Int) : Prop := ∀ (σ : SG) (v l2 : Int), MQf σ0 σ → RTp o L (.inr (v, p, e)) σ → RQs C s op 0 σ → ((C.length + s.length : Nat) : Int) ≤ p → AW (d - 1) mX9_qGoesOnTest 0 [some (.inr (.inr 42))] [] σ (fun rr σ' => AW d mX9_qTest 98 [some (.inr (.inr 42)), some (.inl 1), some (.inl l2)] (rtS rr []) σ' Q)
def MQw (σ σ' : SG) : Prop := (∀ p, p ≠ 42 → p ≠ 96 → p ≠ 97 → σ' p = σ p) ∧ ∀ i, (i < 2 ∨ i = 3 ∨ i = 7 ∨ i = 8 ∨ i = 9 ∨ (10 < i ∧ i < 27) ∨ (27 < i ∧ i < 71) ∨ i = 72 ∨ 75 < i) → σ' 42 i = σ 42 i
theorem MQf.w {σ σ' : SG} (h : MQf σ σ') : MQw σ σ' := ⟨h.1, h.2.1⟩
def BTs (o : Int → Int) (L : Int) (σ0 : SG) (Q : Option AV → SG → Prop) (z : Int × Int) : Prop := ∀ σ : SG, MQw σ0 σ → RTp o L (.inl z) σ → Q none σ
theorem kt_badw {o : Int → Int} {L : Int} {d : Nat} {σ0 : SG} {Q : Option AV → SG → Prop} {z : Int × Int} (hb : BTs o L σ0 Q z) {σ : SG} {m : Int} (hm : m = 0 ∨ m = 1) (hM : MQw σ0 σ) (hR : RTp o L (.inl z) σ) : AW d mX9_qTest 2 [some (.inr (.inr 42)), some (.inl m), none] [] σ Q := by
  have h5 := rt1 hR
  have hk : AW d mX9_qTest 110 [some (.inr (.inr 42)), none, none] [] σ Q := wT_110 ⟨by omega, fun _ => hb σ hM hR, fun c => by omega⟩
  exact wT_2 ⟨by omega, fun _ => hk, fun _ => ⟨by omega, fun _ => hk, fun c => by omega⟩⟩
theorem kt_bad {o : Int → Int} {L : Int} {d : Nat} {σ0 : SG} {Q : Option AV → SG → Prop} {z : Int × Int} (hb : BTs o L σ0 Q z) {σ : SG} {m : Int} (hm : m = 0 ∨ m = 1) (hM : MQf σ0 σ) (hR : RTp o L (.inl z) σ) : AW d mX9_qTest 2 [some (.inr (.inr 42)), some (.inl m), none] [] σ Q := kt_badw hb hm hM.w hR
theorem kg_tbad {o : Int → Int} {L : Int} {d : Nat} {σ0 : SG} {Q : Option AV → SG → Prop} {z : Int × Int} {l2 : Int} (hb : BTs o L σ0 Q z) {σ : SG} (hM : MQf σ0 σ) (hR : RTp o L (.inl z) σ) : AW d mX9_qTest 98 [some (.inr (.inr 42)), some (.inl 1), some (.inl l2)] [.inl 0] σ Q :=
  wT_98 ⟨by decide, fun _ => kt_bad hb (Or.inl rfl) hM hR, fun z => absurd rfl z⟩
theorem kf_badw {o : Int → Int} {L : Int} {d : Nat} {σ0 : SG} {Q : Option AV → SG → Prop} {z : Int × Int} {l2 : Int} (hd : 14 ≤ d) (hb : BTs o L σ0 Q z) {σ : SG} (hM : MQw σ0 σ) (hR : RTp o L (.inl z) σ) : AW d mX9_qTest 83 [some (.inr (.inr 42)), some (.inl 1), some (.inl l2)] [] σ Q := by
  have h5 := rt1 hR
  exact wT_83 ⟨by omega, wN_0 ⟨by omega, fun _ => wT_87 ⟨by omega, fun _ => kt_badw hb (Or.inl rfl) hM hR, fun c => by omega⟩, fun c => by omega⟩⟩
theorem kf_bad {o : Int → Int} {L : Int} {d : Nat} {σ0 : SG} {Q : Option AV → SG → Prop} {z : Int × Int} {l2 : Int} (hd : 14 ≤ d) (hb : BTs o L σ0 Q z) {σ : SG} (hM : MQf σ0 σ) (hR : RTp o L (.inl z) σ) : AW d mX9_qTest 83 [some (.inr (.inr 42)), some (.inl 1), some (.inl l2)] [] σ Q := kf_badw hd hb hM.w hR
/-- nots that wait are told -/
def NAs (G : List Int → List Int → Int → Prop) : List Int → List Int → Int → Prop
  | C, [], op => G C [] op
  | C, x :: s, op => if x = 12 then NAs G (C ++ [x]) s (op - 1) else G C (x :: s) op
theorem rq_74 {C s : List Int} {op op' : Int} {bs : Nat} {σ : SG} (h : RQs C s op bs σ) : RQs C s op' bs (up σ 42 74 op') := by
  obtain ⟨⟨a1, a2⟩, ⟨b1, b2⟩, c', e', f'⟩ := h
  refine ⟨⟨?_, fun i hi => ?_⟩, ⟨?_, ?_⟩, ?_, ?_, f'⟩
  · rw [up_i (by decide)]
    exact a1
  · rw [up_p (by decide)]
    exact a2 i hi
  · rw [up_i (by decide)]
    exact b1
  · rw [up_pf (by decide)]
    exact b2
  · rw [up_at]
  · rw [up_i (by decide)]
    exact e'
theorem mnots {d : Nat} {o : Int → Int} {L v p e : Int} {bs : Nat} {G : List Int → List Int → Int → Prop} {σ0 : SG} {Q : Option AV → SG → Prop} (hd : 3 ≤ d) (hG : ∀ C s op, G C s op → ∀ σ, MQf σ0 σ → RTp o L (.inr (v, p, e)) σ → RQs C s op bs σ → Q none σ) : ∀ (s C : List Int) (op : Int) (σ : SG), NAs G C s op → MQf σ0 σ → RTp o L (.inr (v, p, e)) σ → RQs C s op bs σ → AW d mX9_qDropsNots 0 [some (.inr (.inr 42))] [] σ Q := by
  intro s
  induction s with
  | nil =>
    intro C op σ hE hM hR hq
    have hQ := hG C [] op hE σ hM hR hq
    have h5 := rt0 hR
    obtain ⟨i1, i2, i3⟩ := rq_ion (w := 12) hq (by decide)
    exact wN_0 ⟨by omega, fun z => absurd h5 z, fun _ => ⟨by omega, i1, i2, fun _ => hQ, fun z => by cases i3.mp z⟩⟩
  | cons x s ih =>
    intro C op σ hE hM hR hq
    have h5 := rt0 hR
    have e74 := hq.2.2.1
    obtain ⟨i1, i2, i3⟩ := rq_ion (w := 12) hq (by decide)
    have hE : if x = 12 then NAs G (C ++ [x]) s (op - 1) else G C (x :: s) op := hE
    refine wN_0 ⟨by omega, fun z => absurd h5 z, fun _ => ⟨by omega, i1, i2, fun c => ?_, fun c S1 e1 => ?_⟩⟩
    · rw [if_neg (fun z => i3.mpr (by rw [z]; rfl) c)] at hE
      exact hG C (x :: s) op hE σ hM hR hq
    · have hx : x = 12 := Option.some.inj (i3.mp c)
      rw [if_pos hx] at hE
      rw [e74] at e1
      have hq1 : RQs C (x :: s) (op - 1) bs S1 := by rw [e1]; exact rq_74 hq
      have hR1 : RTp o L (.inr (v, p, e)) S1 := by rw [e1]; exact hR.p6 (fun i a b => up_i (by omega)) (fun p a b c => up_pf a)
      obtain ⟨q1, q2, q3, q4⟩ := rq_dr hq1
      refine ⟨by omega, q3 _ (by omega), fun S2 e2 => ?_⟩
      rw [e2]
      exact ih (C ++ [x]) (op - 1) (drS S1) hE ((hM.tr (by rw [e1]; exact mqf_up (by omega))).tr q2) (q4 hR1) q1
theorem NAs_len {G : List Int → List Int → Int → Prop} {m : Int} : ∀ (s' C' : List Int) (op' : Int), ((C'.length + s'.length : Nat) : Int) ≤ m → NAs G C' s' op' → NAs (fun C' s' op' => G C' s' op' ∧ ((C'.length + s'.length : Nat) : Int) ≤ m) C' s' op' := by
  intro s'
  induction s' with
  | nil => intro C' op' hb h; exact ⟨h, hb⟩
  | cons x s' ih =>
    intro C' op' hb h
    have h : if x = 12 then NAs G (C' ++ [x]) s' (op' - 1) else G C' (x :: s') op' := h
    show if x = 12 then _ else _
    by_cases c : x = 12
    · rw [if_pos c] at h ⊢
      refine ih (C' ++ [x]) (op' - 1) ?_ h
      rw [List.length_append, List.length_cons, List.length_nil]
      rw [List.length_cons] at hb
      omega
    · rw [if_neg c] at h ⊢
      exact ⟨h, hb⟩
theorem NAs_stop {G : List Int → List Int → Int → Prop} {C s : List Int} {op : Int} (h : s.head? ≠ some 12) (hG : G C s op) : NAs G C s op := by
  cases s with
  | nil => exact hG
  | cons x t =>
    show if x = 12 then _ else _
    rw [if_neg (fun z => h (by rw [z]; rfl))]
    exact hG
/-- is a square open -/
theorem WSt_sq {f : Int → Int} : ∀ s : List Int, WSt f s → (∀ i : Nat, i < s.length → (0 ≤ f (i : Int) ∧ f (i : Int) ≤ 100)) ∧ ((25 : Int) ∈ s ↔ ∃ i : Nat, i < s.length ∧ f (i : Int) = 25) := by
  intro s
  induction s with
  | nil => intro _; exact ⟨fun i hi => absurd hi (Nat.not_lt_zero _), ⟨fun z => (by cases z), fun ⟨i, hi, _⟩ => absurd hi (Nat.not_lt_zero _)⟩⟩
  | cons x s ih =>
    intro h
    obtain ⟨h1, h2, h3⟩ := h
    obtain ⟨i1, i2⟩ := ih h3
    refine ⟨fun i hi => ?_, ⟨fun z => ?_, fun ⟨i, hi, hf⟩ => ?_⟩⟩
    · rw [List.length_cons] at hi
      by_cases c : i = s.length
      · rw [c, h1]
        exact h2
      · exact i1 i (by omega)
    · rcases List.mem_cons.mp z with c | c
      · exact ⟨s.length, by rw [List.length_cons]; omega, by rw [h1, c]⟩
      · obtain ⟨i, hi, hf⟩ := i2.mp c
        exact ⟨i, by rw [List.length_cons]; omega, hf⟩
    · rw [List.length_cons] at hi
      by_cases c : i = s.length
      · rw [c, h1] at hf
        rw [hf]
        exact List.mem_cons_self ..
      · exact List.mem_cons_of_mem _ (i2.mpr ⟨i, by omega, hf⟩)
theorem mhsq {d : Nat} {C s : List Int} {op : Int} {bs : Nat} {σ : SG} {Q : Option AV → SG → Prop} (h : RQs C s op bs σ) (h1 : (25 : Int) ∈ s → Q (some (.inl 1)) σ) (h0 : ¬ (25 : Int) ∈ s → Q (some (.inl 0)) σ) : AW d mX9_qHasSquare 0 [some (.inr (.inr 42)), none] [] σ Q := by
  obtain ⟨_, ⟨b1, b2⟩, _, _, f⟩ := h
  obtain ⟨w1, w2⟩ := WSt_sq s b2
  have key : ∀ k j : Nat, j + k = s.length → (∀ i : Nat, i < j → σ 97 (i : Int) ≠ 25) → AW d mX9_qHasSquare 2 [some (.inr (.inr 42)), some (.inl (j : Int))] [] σ Q := by
    intro k
    induction k with
    | zero =>
      intro j hj hn
      refine wH_2 ⟨by omega, fun _ => h0 (fun z => ?_), fun c => by omega⟩
      obtain ⟨i, hi, hf⟩ := w2.mp z
      exact hn i (by omega) hf
    | succ k ih =>
      intro j hj hn
      have := w1 j (by omega)
      refine wH_2 ⟨by omega, fun c => by omega, fun _ => ⟨by omega, by omega, fun c => ?_, fun c => h1 (w2.mpr ⟨j, by omega, c⟩)⟩⟩
      have hh := ih (j + 1) (by omega) (fun i hi => by
        by_cases z : i = j
        · rw [z]
          exact c
        · exact hn i (by omega))
      rw [show ((j + 1 : Nat) : Int) = (j : Int) + 1 by omega] at hh
      exact hh
  exact wH_0 (key s.length 0 (by omega) (fun i hi => by omega))
theorem qw1 {o : Int → Int} {L p e : Int} {j : Nat} (h : (WL j).length = 1) : qwd o L j p e = -1 ∨ qwd o L j p e = 0 := by
  have := qw_lt (o := o) (L := L) (p := p) (e := e) (j := j)
  omega
theorem gt_head {o : Int → Int} {L : Int} {d : Nat} {σ0 : SG} {Q : Option AV → SG → Prop} {p e op : Int} {C s : List Int} (hd : 14 ≤ d) (hb : qsg o L p e = 93 → ¬ (25 : Int) ∈ s) (hq : ∀ (σ : SG) (v l2 : Int), MQf σ0 σ → RTp o L (.inr (v, p, e)) σ → RQs C s op 0 σ → ((C.length + s.length : Nat) : Int) ≤ p → σ 42 2 = sk o L p → AW (d - 1 - 1) mX9_takes 0 [some (.inr (.inr 42)), some (.inr (.inr 83))] [] σ (fun rr σ' => AW (d - 1) mX9_qGoesOnTest 84 [some (.inr (.inr 42))] (rtS rr []) σ' (fun rr σ' => AW d mX9_qTest 98 [some (.inr (.inr 42)), some (.inl 1), some (.inl l2)] (rtS rr []) σ' Q))) : GTs o L d σ0 Q p e C s op := by
  intro σ v l2 hM hR hqs hl
  have h5 := rt0 hR
  have hL0 := hR.f.1.2.2.1
  have ho := hR.f.1.2.2.2.1
  have hp0 := hR.f.2.2.2.1
  have hp1 := hR.f.2.2.1
  have ht := tok (o := o) (L := L) e hp0 (by omega)
  have hlr := lkV_r (o := o) (L := L) (s := sk o L p) ho (by omega) hL0.2
  refine wG_0 ⟨by omega, fun z => absurd h5 z, fun _ => ⟨by omega, mlook hR (fun S _ hMS hRS hS => ?_)⟩⟩
  have hh := hq S v l2 (hM.tr (MQf.of hMS)) hRS (hqs.mf hMS) hl hS
  refine wG_11 ⟨by omega, fun _ => ⟨by omega, hh⟩, fun c => ⟨by omega, mhsq (hqs.mf hMS) (fun z => absurd z (hb ((lk_sg (by decide) (by decide)).mp c))) (fun _ => wG_20 ⟨by decide, fun _ => ⟨by omega, hh⟩, fun z => absurd rfl z⟩)⟩⟩
/-- behind and, behind or -/
theorem m87 {d : Nat} {op : Int} {bs : Nat} {s : List Int} {Q : Option AV → SG → Prop} (hd : 6 ≤ d) (hs : s.head? ≠ some 10) : ∀ (P C : List Int) (σ : SG), (∀ x ∈ P, x = 10) → RQs C (P ++ s) op bs σ → C.length + (P.length + s.length) + 1 ≤ 1600 → (∀ σ', MQf σ σ' → RQs (C ++ P) (10 :: s) op bs σ' → (∀ {o : Int → Int} {L : Int} {X : PXv}, RTp o L X σ → RTp o L X σ') → Q (some (.inl 1)) σ') → AW d mX9_qGoesOnTest 87 [some (.inr (.inr 42))] [] σ Q := by
  intro P
  induction P with
  | nil =>
    intro C σ _ h hl hq
    rw [List.nil_append] at h
    obtain ⟨i1, i2, i3⟩ := rq_ion (w := 10) h (by decide)
    rw [List.length_nil] at hl
    obtain ⟨q1, q2, q3⟩ := rq_push (x := 10) h (by decide) (by omega)
    have b1 := h.2.1.1
    refine wG_87 ⟨by omega, i1, i2, fun _ => ⟨by omega, fun S1 e1 S2 e2 => ?_⟩, fun z => absurd (i3.mp z) hs⟩
    rw [e2, e1]
    exact hq _ q2 (by rw [List.append_nil]; exact q1) (fun z => q3 z)
  | cons x P ih =>
    intro C σ hP h hl hq
    have h : RQs C (x :: (P ++ s)) op bs σ := h
    rw [List.length_cons] at hl
    obtain ⟨i1, i2, i3⟩ := rq_ion (w := 10) h (by decide)
    obtain ⟨q1, q2, q3, q4⟩ := rq_dr h
    have hx := hP x (List.mem_cons_self ..)
    refine wG_87 ⟨by omega, i1, i2, fun z => absurd z (i3.mpr (by rw [hx]; rfl)), fun _ => ⟨by omega, q3 _ (by omega), fun S eS => ?_⟩⟩
    rw [eS]
    exact ih (C ++ [x]) (drS σ) (fun y hy => hP y (List.mem_cons_of_mem _ hy)) q1 (by rw [List.length_append, List.length_cons, List.length_nil]; omega) (fun σ' hM hR hT => hq σ' (q2.tr hM) (by rw [List.append_assoc] at hR; exact hR) (fun z => hT (q4 z)))
theorem m137 {d : Nat} {op : Int} {bs : Nat} {s : List Int} {Q : Option AV → SG → Prop} (hd : 6 ≤ d) (hs : s.head? ≠ some 10 ∧ s.head? ≠ some 11) : ∀ (P C : List Int) (σ : SG), (∀ x ∈ P, x = 10 ∨ x = 11) → RQs C (P ++ s) op bs σ → C.length + (P.length + s.length) + 1 ≤ 1600 → (∀ σ', MQf σ σ' → RQs (C ++ P) (11 :: s) op bs σ' → (∀ {o : Int → Int} {L : Int} {X : PXv}, RTp o L X σ → RTp o L X σ') → Q (some (.inl 1)) σ') → AW d mX9_qGoesOnTest 137 [some (.inr (.inr 42))] [] σ Q := by
  intro P
  induction P with
  | nil =>
    intro C σ _ h hl hq
    rw [List.nil_append] at h
    obtain ⟨i1, i2, i3⟩ := rq_ion (w := 10) h (by decide)
    obtain ⟨j1, j2, j3⟩ := rq_ion (w := 11) h (by decide)
    rw [List.length_nil] at hl
    obtain ⟨q1, q2, q3⟩ := rq_push (x := 11) h (by decide) (by omega)
    have b1 := h.2.1.1
    refine wG_137 ⟨by omega, i1, i2, fun z => absurd (i3.mp z) hs.1, fun _ => ⟨by omega, j1, j2, fun _ => ⟨by omega, fun S1 e1 S2 e2 => ?_⟩, fun z => absurd (j3.mp z) hs.2⟩⟩
    rw [e2, e1]
    exact hq _ q2 (by rw [List.append_nil]; exact q1) (fun z => q3 z)
  | cons x P ih =>
    intro C σ hP h hl hq
    have h : RQs C (x :: (P ++ s)) op bs σ := h
    rw [List.length_cons] at hl
    obtain ⟨i1, i2, i3⟩ := rq_ion (w := 10) h (by decide)
    obtain ⟨j1, j2, j3⟩ := rq_ion (w := 11) h (by decide)
    obtain ⟨q1, q2, q3, q4⟩ := rq_dr h
    have go : AW d mX9_qGoesOnTest 137 [some (.inr (.inr 42))] [] (drS σ) Q := ih (C ++ [x]) (drS σ) (fun y hy => hP y (List.mem_cons_of_mem _ hy)) q1 (by rw [List.length_append, List.length_cons, List.length_nil]; omega) (fun σ' hM hR hT => hq σ' (q2.tr hM) (by rw [List.append_assoc] at hR; exact hR) (fun z => hT (q4 z)))
    refine wG_137 ⟨by omega, i1, i2, fun _ => ⟨by omega, q3 _ (by omega), fun S eS => by rw [eS]; exact go⟩, fun c1 => ⟨by omega, j1, j2, fun c2 => ?_, fun _ => ⟨by omega, q3 _ (by omega), fun S eS => by rw [eS]; exact go⟩⟩⟩
    exfalso
    rcases hP x (List.mem_cons_self ..) with z | z
    · exact i3.mpr (by rw [z]; rfl) c1
    · exact j3.mpr (by rw [z]; rfl) c2
theorem w83 {o : Int → Int} {L p e : Int} : pxW o L (WC 83) p e = if qwd o L 5 p e = (0 : Nat) then .inr (0, te o L (sk o L p), te o L (sk o L p)) else .inl (1, sk o L p) := pxW_q (j := 5) (i := 0) (by decide) (by decide) rfl
theorem w84 {o : Int → Int} {L p e : Int} : pxW o L (WC 84) p e = if qwd o L 6 p e = (0 : Nat) then .inr (0, te o L (sk o L p), te o L (sk o L p)) else .inl (1, sk o L p) := pxW_q (j := 6) (i := 0) (by decide) (by decide) rfl
theorem w85 {o : Int → Int} {L p e : Int} : pxW o L (WC 85) p e = if qwd o L 2 p e = (0 : Nat) then .inr (0, te o L (sk o L p), te o L (sk o L p)) else .inl (1, sk o L p) := pxW_q (j := 2) (i := 0) (by decide) (by decide) rfl
theorem w82 {o : Int → Int} {L p e : Int} : pxW o L (WC 82) p e = if qwd o L 3 p e = (0 : Nat) then .inr (0, te o L (sk o L p), te o L (sk o L p)) else .inl (1, sk o L p) := pxW_q (j := 3) (i := 0) (by decide) (by decide) rfl
theorem sg_w {o : Int → Int} {L p e : Int} {j : Nat} (h : qwd o L j p e ≠ -1) : qsg o L p e = -1 := by
  unfold qsg
  rw [qwd_t h, if_neg (by decide)]
theorem kt_true {o : Int → Int} {L : Int} {d : Nat} {σ0 : SG} {Q : Option AV → SG → Prop} {p e op v l2 : Int} {C s : List Int} (hG : TLs o L d σ0 Q p e C s op) {σ : SG} (hM : MQf σ0 σ) (hR : RTp o L (.inr (v, p, e)) σ) (hqs : RQs C s op 0 σ) (hl : ((C.length + s.length : Nat) : Int) ≤ p) : AW d mX9_qTest 98 [some (.inr (.inr 42)), some (.inl 1), some (.inl l2)] [.inl 1] σ Q :=
  wT_98 ⟨by decide, fun z => absurd z (by decide), fun _ => hG σ v hM hR hqs hl⟩
theorem gt_and {o : Int → Int} {L : Int} {d : Nat} {σ0 : SG} {Q : Option AV → SG → Prop} {p e op : Int} {C P s : List Int} (hd : 14 ≤ d) (hw : qwd o L 5 p e ≠ -1) (hP : ∀ x ∈ P, x = 10) (hs : s.head? ≠ some 10) (hG : TLs o L d σ0 Q (te o L (sk o L p)) (te o L (sk o L p)) (C ++ P) (10 :: s) op) : GTs o L d σ0 Q p e C (P ++ s) op := by
  refine gt_head hd (fun z => by rw [sg_w hw] at z; omega) (fun σ v l2 hM hR hqs hl hS => ?_)
  have hL0 := hR.f.1.2.2.1
  have hp0 := hR.f.2.2.2.1
  have hp1 := hR.f.2.2.1
  have ht := tok (o := o) (L := L) e hp0 (by omega)
  have hnl := (name_lt hp0 (by omega) (qwd_t hw)).1
  have hw0 : qwd o L 5 p e = (0 : Nat) := by have := qw1 (o := o) (L := L) (p := p) (e := e) (j := 5) rfl; omega
  rw [List.length_append] at hl
  refine mtakesW (Or.inr (by decide)) (by omega) hR (fun U z hz hMU hRU => ?_) (fun U hz => by rw [w83, if_pos hw0] at hz; cases hz)
  rw [w83, if_pos hw0] at hz
  cases hz
  refine wG_84 ⟨by decide, fun z => absurd z (by decide), fun _ => m87 (by omega) hs P C U hP (hqs.mf hMU) (by omega) (fun V hMV hqV hTV => ?_)⟩
  refine kt_true hG ((hM.tr (MQf.of hMU)).tr hMV) (hTV hRU) hqV ?_
  rw [List.length_append, List.length_cons]
  omega
theorem gt_or {o : Int → Int} {L : Int} {d : Nat} {σ0 : SG} {Q : Option AV → SG → Prop} {p e op : Int} {C P s : List Int} (hd : 14 ≤ d) (hw5 : qwd o L 5 p e = -1) (hw : qwd o L 6 p e ≠ -1) (hP : ∀ x ∈ P, x = 10 ∨ x = 11) (hs : s.head? ≠ some 10 ∧ s.head? ≠ some 11) (hG : TLs o L d σ0 Q (te o L (sk o L p)) (te o L (sk o L p)) (C ++ P) (11 :: s) op) : GTs o L d σ0 Q p e C (P ++ s) op := by
  refine gt_head hd (fun z => by rw [sg_w hw] at z; omega) (fun σ v l2 hM hR hqs hl hS => ?_)
  have hL0 := hR.f.1.2.2.1
  have hp0 := hR.f.2.2.2.1
  have hp1 := hR.f.2.2.1
  have ht := tok (o := o) (L := L) e hp0 (by omega)
  have hnl := (name_lt hp0 (by omega) (qwd_t hw)).1
  have hw0 : qwd o L 6 p e = (0 : Nat) := by have := qw1 (o := o) (L := L) (p := p) (e := e) (j := 6) rfl; omega
  have hn5 : qwd o L 5 p e ≠ (0 : Nat) := by omega
  rw [List.length_append] at hl
  refine mtakesW (Or.inr (by decide)) (by omega) hR (fun U z hz => by rw [w83, if_neg hn5] at hz; cases hz) (fun U hz hMU hRU hU => ?_)
  refine wG_84 ⟨by decide, fun _ => ⟨by omega, mtakesW (Or.inr (by decide)) (by omega) hRU (fun V z hz hMV hRV => ?_) (fun V hz => by rw [w84, if_pos hw0] at hz; cases hz)⟩, fun z => absurd rfl z⟩
  rw [w84, if_pos hw0] at hz
  cases hz
  refine wG_134 ⟨by decide, fun z => absurd z (by decide), fun _ => m137 (by omega) hs P C V hP ((hqs.mf hMU).mf hMV) (by omega) (fun W hMW hqW hTW => ?_)⟩
  refine kt_true hG (((hM.tr (MQf.of hMU)).tr (MQf.of hMV)).tr hMW) (hTW hRV) hqW ?_
  rw [List.length_append, List.length_cons]
  omega
theorem gt_none {o : Int → Int} {L : Int} {d : Nat} {σ0 : SG} {Q : Option AV → SG → Prop} {p e op : Int} {C s : List Int} (hd : 14 ≤ d) (hw5 : qwd o L 5 p e = -1) (hw6 : qwd o L 6 p e = -1) (hb : qsg o L p e = 93 → ¬ (25 : Int) ∈ s) (hq : ∀ (σ : SG) (v l2 : Int), MQf σ0 σ → RTp o L (.inr (v, p, e)) σ → RQs C s op 0 σ → ((C.length + s.length : Nat) : Int) ≤ p → σ 42 2 = sk o L p → AW (d - 1) mX9_qGoesOnTest 134 [some (.inr (.inr 42))] [.inl 0] σ (fun rr σ' => AW d mX9_qTest 98 [some (.inr (.inr 42)), some (.inl 1), some (.inl l2)] (rtS rr []) σ' Q)) : GTs o L d σ0 Q p e C s op := by
  refine gt_head hd hb (fun σ v l2 hM hR hqs hl hS => ?_)
  have hn5 : qwd o L 5 p e ≠ (0 : Nat) := by omega
  have hn6 : qwd o L 6 p e ≠ (0 : Nat) := by omega
  refine mtakesW (Or.inr (by decide)) (by omega) hR (fun U z hz => by rw [w83, if_neg hn5] at hz; cases hz) (fun U hz hMU hRU hU => ?_)
  refine wG_84 ⟨by decide, fun _ => ⟨by omega, mtakesW (Or.inr (by decide)) (by omega) hRU (fun V z hz => by rw [w84, if_neg hn6] at hz; cases hz) (fun V hz hMV hRV hV => ?_)⟩, fun z => absurd rfl z⟩
  exact hq V v l2 ((hM.tr (MQf.of hMU)).tr (MQf.of hMV)) hRV ((hqs.mf hMU).mf hMV) hl hV
theorem gt_fail {o : Int → Int} {L : Int} {d : Nat} {σ0 : SG} {Q : Option AV → SG → Prop} {p e op : Int} {C s : List Int} (hd : 14 ≤ d) (hw5 : qwd o L 5 p e = -1) (hw6 : qwd o L 6 p e = -1) (h93 : qsg o L p e ≠ 93) (hs : (25 : Int) ∈ s) (hB : BTs o L σ0 Q (1, sk o L p)) : GTs o L d σ0 Q p e C s op := by
  refine gt_none hd hw5 hw6 (fun z => absurd z h93) (fun σ v l2 hM hR hqs hl hS => ?_)
  have h5 := rt0 hR
  refine wG_134 ⟨by decide, fun _ => ⟨by omega, fun z => absurd h5 z, fun _ => ⟨by omega, mhsq hqs (fun _ => ?_) (fun z => absurd hs z)⟩⟩, fun z => absurd rfl z⟩
  refine wG_196 ⟨by decide, fun z => absurd z (by decide), fun _ => ⟨by omega, by omega, fun _ T1 f1 T2 f2 => ?_, fun z => absurd h5 z⟩⟩
  have hf := mfail (k := 1) (pl := sk o L p) hR (by decide)
  rw [f2, f1, hS]
  exact kg_tbad hB (hM.tr (MQf.of hf.2)) hf.1
theorem gt_end {o : Int → Int} {L : Int} {d : Nat} {σ0 : SG} {Q : Option AV → SG → Prop} {p e op : Int} {C s : List Int} (hd : 14 ≤ d) (hw5 : qwd o L 5 p e = -1) (hw6 : qwd o L 6 p e = -1) (hs : ¬ (25 : Int) ∈ s) (hQ : ∀ (σ : SG) (v : Int), MQf σ0 σ → RTp o L (.inr (v, p, e)) σ → RQs (C ++ s) [] op 0 σ → Q none σ) : GTs o L d σ0 Q p e C s op := by
  have drops : ∀ (P C : List Int) (σ : SG) (v : Int), MQf σ0 σ → RTp o L (.inr (v, p, e)) σ → RQs C P op 0 σ → (∀ (σ : SG) (v : Int), MQf σ0 σ → RTp o L (.inr (v, p, e)) σ → RQs (C ++ P) [] op 0 σ → Q none σ) → AW d mX9_qTest 110 [some (.inr (.inr 42)), none, none] [] σ Q := by
    intro P
    induction P with
    | nil =>
      intro C σ v hM hR hqs hq
      have h5 := rt0 hR
      have hQ := hq σ v hM hR (by rw [List.append_nil]; exact hqs)
      have b1 := hqs.2.1.1
      rw [List.length_nil] at b1
      exact wT_110 ⟨by omega, fun z => absurd h5 z, fun _ => ⟨by omega, fun _ => hQ, fun z => by omega⟩⟩
    | cons x P ih =>
      intro C σ v hM hR hqs hq
      have h5 := rt0 hR
      obtain ⟨q1, q2, q3, q4⟩ := rq_dr hqs
      have b1 := hqs.2.1.1
      have f := hqs.2.2.2.2
      rw [List.length_cons] at b1 f
      refine wT_110 ⟨by omega, fun z => absurd h5 z, fun _ => ⟨by omega, fun z => by omega, fun _ => ⟨by omega, q3 _ (by omega), fun S eS => ?_⟩⟩⟩
      rw [eS]
      exact ih (C ++ [x]) (drS σ) v (hM.tr q2) (q4 hR) q1 (fun T w hMT hRT hqT => hq T w hMT hRT (by rw [List.append_assoc] at hqT; exact hqT))
  refine gt_none hd hw5 hw6 (fun _ => hs) (fun σ v l2 hM hR hqs hl hS => ?_)
  have h5 := rt0 hR
  refine wG_134 ⟨by decide, fun _ => ⟨by omega, fun z => absurd h5 z, fun _ => ⟨by omega, mhsq hqs (fun z => absurd z hs) (fun _ => ?_)⟩⟩, fun z => absurd rfl z⟩
  refine wG_196 ⟨by decide, fun _ => ?_, fun z => absurd rfl z⟩
  exact wT_98 ⟨by decide, fun _ => wT_2 ⟨by decide, fun _ => drops s C σ v hM hR hqs hQ, fun z => absurd rfl z⟩, fun z => absurd rfl z⟩
theorem rt_step {o : Int → Int} {L v p e : Int} {σ σ' : SG} (h : RTp o L (.inr (v, p, e)) σ) (hs : σ 42 2 = sk o L p) (hl : sk o L p < L) (e1 : σ' = up σ 42 2 (σ 42 2 + 1)) : MFr σ σ' ∧ RTp o L (.inr (0, sk o L p + 1, -1)) σ' := by
  rw [hs] at e1
  have hM : MFr σ σ' := by rw [e1]; exact (MFr.rf σ).up (by omega)
  refine ⟨hM, ?_⟩
  obtain ⟨_, ⟨g5, g6⟩, g2, g0, he0, he⟩ := h.f
  have ht := tok (o := o) (L := L) e g0 (by omega)
  have y2 : σ' 42 2 = sk o L p + 1 := by rw [e1, up_at]
  have y4 : σ' 42 4 = σ 42 4 := by rw [e1, up_i (by decide)]
  refine RTp.mk (h.b hM.1 (hM.2 3 (by decide) (by decide) (by decide) (by decide) (by decide) (by decide))) ⟨?_, ?_⟩ ⟨by omega, by omega, by rw [y2]⟩ (by omega) (by omega) ?_
  · rw [e1, up_i (by decide)]
    exact g5
  · rw [e1, up_i (by decide)]
    exact g6
  · intro s hs
    rw [y4]
    exact ⟨fun z => by omega, fun z => by omega⟩
theorem rt_stepb {o : Int → Int} {L x : Int} {z : Int × Int} {σ σ' : SG} (h : RTp o L (.inl z) σ) (e1 : σ' = up σ 42 2 x) : MFr σ σ' ∧ RTp o L (.inl z) σ' := by
  have hM : MFr σ σ' := by rw [e1]; exact (MFr.rf σ).up (by omega)
  refine ⟨hM, h.b hM.1 (hM.2 3 (by decide) (by decide) (by decide) (by decide) (by decide) (by decide)), ?_⟩
  have h2 := h.2
  show σ' 42 5 = z.1 ∧ σ' 42 6 = z.2 ∧ _
  rw [e1, up_i (by decide), up_i (by decide)]
  exact h2
theorem gt_close {o : Int → Int} {L : Int} {d : Nat} {σ0 : SG} {Q : Option AV → SG → Prop} {p e op : Int} {C P r : List Int} (hd : 14 ≤ d) (h93 : qsg o L p e = 93) (hP : ∀ x ∈ P, x = 10 ∨ x = 11) (hE : NAs (GTs o L d σ0 Q (sk o L p + 1) (-1)) (C ++ P) r (op - 1)) : GTs o L d σ0 Q p e C (P ++ 25 :: r) op := by
  intro σ v l2 hM hR hqs hl
  have h5 := rt0 hR
  have hL0 := hR.f.1.2.2.1
  have hp0 := hR.f.2.2.2.1
  have hp1 := hR.f.2.2.1
  have ht := tok (o := o) (L := L) e hp0 (by omega)
  have hsl := (ht.2.2.2.1 (qsg_t h93 (by decide)).1).1
  have hlk : lkV o L (sk o L p) = 93 := (lk_sg (by decide) (by decide)).mpr h93
  rw [List.length_append, List.length_cons] at hl
  refine wG_0 ⟨by omega, fun z => absurd h5 z, fun _ => ⟨by omega, mlook hR (fun S _ hMS hRS hS => ?_)⟩⟩
  rw [hlk]
  refine wG_11 ⟨by decide, fun z => absurd rfl z, fun _ => ⟨by omega, mhsq (hqs.mf hMS) (fun _ => ?_) (fun z => absurd (List.mem_append.mpr (Or.inr (List.mem_cons_self ..))) z)⟩⟩
  refine wG_20 ⟨by decide, fun z => absurd z (by decide), fun _ T eT => ?_⟩
  obtain ⟨hMT, hRT⟩ := rt_step hRS hS hsl eT
  have drops : ∀ (P C : List Int) (σ : SG), (∀ x ∈ P, x = 10 ∨ x = 11) → MQf σ0 σ → RTp o L (.inr (0, sk o L p + 1, -1)) σ → RQs C (P ++ 25 :: r) op 0 σ → NAs (GTs o L d σ0 Q (sk o L p + 1) (-1)) (C ++ P) r (op - 1) → ((C.length + P.length + r.length : Nat) : Int) ≤ sk o L p + 1 → AW (d - 1) mX9_qGoesOnTest 33 [some (.inr (.inr 42))] [] σ (fun rr σ' => AW d mX9_qTest 98 [some (.inr (.inr 42)), some (.inl 1), some (.inl l2)] (rtS rr []) σ' Q) := by
    intro P
    induction P with
    | nil =>
      intro C σ _ hM hR hq hE hl
      rw [List.append_nil] at hE
      rw [List.length_nil] at hl
      have hq : RQs C (25 :: r) op 0 σ := hq
      obtain ⟨i1, i2, i3⟩ := rq_ion (w := 25) hq (by decide)
      obtain ⟨p1, p2, p3, p4⟩ := rq_pop hq
      refine wG_33 ⟨by omega, i1, i2, fun _ V eV W eW => ⟨by omega, ?_⟩, fun z => absurd z (i3.mpr rfl)⟩
      rw [← eV] at p1
      have hqW : RQs C r (op - 1) 0 W := by
        rw [p1.2.2.1] at eW
        rw [eW]
        exact rq_74 p1
      have hMW : MQf σ0 W := hM.tr (by rw [eW, eV]; exact (mqf_up (by omega)).tr (mqf_up (by omega)))
      have hRW : RTp o L (.inr (0, sk o L p + 1, -1)) W := by
        rw [eW, eV]
        exact (hR.p6 (fun i a b => up_i (by omega)) (fun p a b c => up_pf a)).p6 (fun i a b => up_i (by omega)) (fun p a b c => up_pf a)
      exact mnots (by omega) (fun C' s' op' hg S hMS hRS hqS => wG_73 (hg.1 S 0 l2 hMS hRS hqS hg.2)) r C (op - 1) W (NAs_len r C (op - 1) (by omega) hE) hMW hRW hqW
    | cons x P ih =>
      intro C σ hP hM hR hq hE hl
      rw [List.length_cons] at hl
      have hx := hP x (List.mem_cons_self ..)
      have hq : RQs C (x :: (P ++ 25 :: r)) op 0 σ := hq
      obtain ⟨i1, i2, i3⟩ := rq_ion (w := 25) hq (by decide)
      obtain ⟨q1, q2, q3, q4⟩ := rq_dr hq
      refine wG_33 ⟨by omega, i1, i2, fun z => ?_, fun _ => ⟨by omega, q3 _ (by omega), fun S eS => ?_⟩⟩
      · have := Option.some.inj (i3.mp z)
        omega
      · rw [eS]
        refine ih (C ++ [x]) (drS σ) (fun y hy => hP y (List.mem_cons_of_mem _ hy)) (hM.tr q2) (q4 hR) q1 (by rw [List.append_assoc]; exact hE) ?_
        rw [List.length_append, List.length_cons, List.length_nil]
        omega
  exact drops P C T hP ((hM.tr (MQf.of hMS)).tr (MQf.of hMT)) hRT ((hqs.mf hMS).mf hMT) hE (by omega)
/-- behind a fact -/
theorem kf_good {o : Int → Int} {L : Int} {d : Nat} {σ0 : SG} {Q : Option AV → SG → Prop} {p e op v l2 : Int} {C s : List Int} (hd : 14 ≤ d) (hE : NAs (GTs o L d σ0 Q p e) C s op) {σ : SG} (hM : MQf σ0 σ) (hR : RTp o L (.inr (v, p, e)) σ) (hqs : RQs C s op 0 σ) (hl : ((C.length + s.length : Nat) : Int) ≤ p) : AW d mX9_qTest 83 [some (.inr (.inr 42)), some (.inl 1), some (.inl l2)] [] σ Q := by
  refine wT_83 ⟨by omega, mnots (v := v) (G := fun C' s' op' => GTs o L d σ0 Q p e C' s' op' ∧ ((C'.length + s'.length : Nat) : Int) ≤ p) (by omega) (fun C' s' op' hg S hMS hRS hqS => ?_) s C op σ (NAs_len s C op hl hE) hM hR hqs⟩
  have h5 := rt0 hRS
  exact wT_87 ⟨by omega, fun z => absurd h5 z, fun _ => ⟨by omega, hg.1 S v l2 hMS hRS hqS hg.2⟩⟩
theorem tl_head {o : Int → Int} {L : Int} {d : Nat} {σ0 : SG} {Q : Option AV → SG → Prop} {p e op : Int} {C s : List Int} (hd : 14 ≤ d) (hq : ∀ (σ : SG) (v : Int), MQf σ0 σ → RTp o L (.inr (v, p, e)) σ → RQs C s op 0 σ → ((C.length + s.length : Nat) : Int) ≤ p → σ 42 2 = sk o L p → AW d mX9_qTest 17 [some (.inr (.inr 42)), some (.inl 1), none] [.inl (lkV o L (sk o L p))] σ Q) : TLs o L d σ0 Q p e C s op := by
  intro σ v hM hR hqs hl
  have h5 := rt0 hR
  refine wT_2 ⟨by decide, fun z => absurd z (by decide), fun _ => ⟨by omega, fun z => absurd h5 z, fun _ => ⟨by omega, mlook hR (fun S _ hMS hRS hS => ?_)⟩⟩⟩
  exact hq S v (hM.tr (MQf.of hMS)) hRS (hqs.mf hMS) hl hS
theorem tl_open {o : Int → Int} {L : Int} {d : Nat} {σ0 : SG} {Q : Option AV → SG → Prop} {p e op : Int} {C s : List Int} (hd : 14 ≤ d) (hop : 0 ≤ op ∧ op ≤ 6) (h91 : qsg o L p e = 91) (h4 : 6 ≤ op → BTs o L σ0 Q (4, sk o L p)) (hG : op < 6 → TLs o L d σ0 Q (sk o L p + 1) (-1) C (25 :: s) (op + 1)) : TLs o L d σ0 Q p e C s op := by
  refine tl_head hd (fun S v hM hR hqs hl hS => ?_)
  have hL0 := hR.f.1.2.2.1
  have hp0 := hR.f.2.2.2.1
  have hp1 := hR.f.2.2.1
  have ht := tok (o := o) (L := L) e hp0 (by omega)
  have hsl := ht.2.2.2.1 (qsg_t h91 (by decide)).1
  have hlk : lkV o L (sk o L p) = 91 := (lk_sg (by decide) (by decide)).mpr h91
  rw [hlk]
  refine wT_17 ⟨by decide, fun z => absurd rfl z, fun _ => ⟨by omega, ?_⟩⟩
  rw [hS]
  refine mopens (by omega) (by decide) hop hR hqs (by omega) (fun c T hMT hRT hT hqT => ?_) (fun c T hMT hRT => ?_)
  · refine wT_34 (fun U eU => ?_)
    obtain ⟨hMU, hRU⟩ := rt_step hRT (hT.trans hS) hsl.1 eU
    refine hG c U 0 ((hM.tr hMT).tr (MQf.of hMU)) hRU (hqT.mf hMU) ?_
    rw [List.length_cons]
    omega
  · refine wT_34 (fun U eU => ?_)
    obtain ⟨hMU, hRU⟩ := rt_stepb hRT eU
    exact kt_bad (h4 c) (Or.inr rfl) ((hM.tr hMT).tr (MQf.of hMU)) hRU
theorem tl_not {o : Int → Int} {L : Int} {d : Nat} {σ0 : SG} {Q : Option AV → SG → Prop} {p e op : Int} {C s : List Int} (hd : 14 ≤ d) (hop : 0 ≤ op ∧ op ≤ 6) (hw : qwd o L 3 p e ≠ -1) (h4 : 6 ≤ op → BTs o L σ0 Q (4, sk o L p)) (hG : op < 6 → TLs o L d σ0 Q (te o L (sk o L p)) (te o L (sk o L p)) C (12 :: s) (op + 1)) : TLs o L d σ0 Q p e C s op := by
  refine tl_head hd (fun S v hM hR hqs hl hS => ?_)
  have hL0 := hR.f.1.2.2.1
  have ho := hR.f.1.2.2.2.1
  have hp0 := hR.f.2.2.2.1
  have hp1 := hR.f.2.2.1
  have ht := tok (o := o) (L := L) e hp0 (by omega)
  have hlr := lkV_r (o := o) (L := L) (s := sk o L p) ho (by omega) hL0.2
  have hnl := (name_lt hp0 (by omega) (qwd_t hw)).1
  have hw0 : qwd o L 3 p e = (0 : Nat) := by have := qw1 (o := o) (L := L) (p := p) (e := e) (j := 3) rfl; omega
  have n91 : lkV o L (sk o L p) ≠ 91 := fun z => by
    have := (lk_sg (o := o) (L := L) (p := p) (e := e) (c := 91) (by decide) (by decide)).mp z
    rw [sg_w hw] at this
    omega
  refine wT_17 ⟨by omega, fun _ => ⟨by omega, misQ (j := 3) (i := 0) (Or.inr (by decide)) (by decide) (by decide) rfl (by omega) hR (fun _ T hMT hRT hT => ?_) (fun c => absurd hw0 c)⟩, fun z => absurd z n91⟩
  refine wT_55 ⟨by decide, fun z => absurd z (by decide), fun _ => ⟨by omega, ?_⟩⟩
  rw [hT]
  refine mopens (by omega) (by decide) hop hRT (hqs.mf hMT) (by omega) (fun c U hMU hRU hU hqU => ?_) (fun c U hMU hRU => ?_)
  · refine wT_68 ⟨by omega, masksW (Or.inr (by decide)) (by omega) hRU (fun V hMV hRV => wT_76 ?_)⟩
    change RTp o L (pxW o L (WC 82) p e) V at hRV
    rw [w82, if_pos hw0] at hRV
    refine hG c V 0 (((hM.tr (MQf.of hMT)).tr hMU).tr (MQf.of hMV)) hRV (hqU.mf hMV) ?_
    rw [List.length_cons]
    omega
  · refine wT_68 ⟨by omega, masksW (Or.inr (by decide)) (by omega) hRU (fun V hMV hRV => wT_76 ?_)⟩
    exact kt_bad (h4 c) (Or.inr rfl) (((hM.tr (MQf.of hMT)).tr hMU).tr (MQf.of hMV)) hRV
theorem tl_fact {o : Int → Int} {L : Int} {d : Nat} {σ0 : SG} {Q : Option AV → SG → Prop} {p e op : Int} {C s : List Int} (hd : 14 ≤ d) (h91 : qsg o L p e ≠ 91) (hw : qwd o L 3 p e = -1) (hF : ∀ (σ : SG) (v l2 : Int), MQf σ0 σ → RTp o L (.inr (v, p, e)) σ → RQs C s op 0 σ → ((C.length + s.length : Nat) : Int) ≤ p → AW (d - 1) mX9_qFact 0 [some (.inr (.inr 42)), none] [] σ (fun rr σ' => AW d mX9_qTest 83 [some (.inr (.inr 42)), some (.inl 1), some (.inl l2)] (rtS rr []) σ' Q)) : TLs o L d σ0 Q p e C s op := by
  refine tl_head hd (fun S v hM hR hqs hl hS => ?_)
  have hL0 := hR.f.1.2.2.1
  have ho := hR.f.1.2.2.2.1
  have hp0 := hR.f.2.2.2.1
  have hp1 := hR.f.2.2.1
  have ht := tok (o := o) (L := L) e hp0 (by omega)
  have hlr := lkV_r (o := o) (L := L) (s := sk o L p) ho (by omega) hL0.2
  have n91 : lkV o L (sk o L p) ≠ 91 := fun z => h91 ((lk_sg (by decide) (by decide)).mp z)
  refine wT_17 ⟨by omega, fun _ => ⟨by omega, misQ (j := 3) (i := 0) (Or.inr (by decide)) (by decide) (by decide) rfl (by omega) hR (fun c => by omega) (fun _ T hMT hRT hT => ?_)⟩, fun z => absurd z n91⟩
  exact wT_55 ⟨by decide, fun _ => ⟨by omega, hF T v _ (hM.tr (MQf.of hMT)) hRT (hqs.mf hMT) hl⟩, fun z => absurd rfl z⟩
theorem tl_all {o : Int → Int} {L : Int} {d : Nat} {σ0 : SG} {Q : Option AV → SG → Prop} {p e op : Int} {C s : List Int} (hd : 14 ≤ d) (hw : qwd o L 2 p e ≠ -1) (hw3 : qwd o L 3 p e = -1) (hE : NAs (GTs o L d σ0 Q (te o L (sk o L p)) (te o L (sk o L p))) (C ++ [13]) s op) : TLs o L d σ0 Q p e C s op := by
  refine tl_fact hd (by rw [sg_w hw]; decide) hw3 (fun σ v l2 hM hR hqs hl => ?_)
  have hL0 := hR.f.1.2.2.1
  have hp0 := hR.f.2.2.2.1
  have hp1 := hR.f.2.2.1
  have ht := tok (o := o) (L := L) e hp0 (by omega)
  have hnl := (name_lt hp0 (by omega) (qwd_t hw)).1
  have hw0 : qwd o L 2 p e = (0 : Nat) := by have := qw1 (o := o) (L := L) (p := p) (e := e) (j := 2) rfl; omega
  refine wF_0 ⟨by omega, mtakesW (Or.inr (by decide)) (by omega) hR (fun U z hz hMU hRU => ?_) (fun U hz => by rw [w85, if_pos hw0] at hz; cases hz)⟩
  rw [w85, if_pos hw0] at hz
  cases hz
  obtain ⟨q1, q2, q3, q4⟩ := rq_cd (v := 13) (hqs.mf hMU) (by omega)
  refine wF_8 ⟨by decide, fun z => absurd z (by decide), fun _ => ⟨by omega, q3, fun V eV => ?_⟩⟩
  rw [eV]
  refine kf_good hd hE ((hM.tr (MQf.of hMU)).tr q2) (q4 hRU) q1 ?_
  rw [List.length_append, List.length_cons, List.length_nil]
  omega
theorem tl_cmp {o : Int → Int} {L : Int} {d : Nat} {σ0 : SG} {Q : Option AV → SG → Prop} {n : Nat} {p e op : Int} {C s : List Int} (hd : 14 ≤ d) (hn : 10 * (L - p) + 3 ≤ (n : Int)) (ho : 0 ≤ op ∧ op ≤ 6) (hh : HD14 s) (h91 : qsg o L p e ≠ 91) (hw2 : qwd o L 2 p e = -1) (hw3 : qwd o L 3 p e = -1) (bad : ∀ z, qxK o L (qx o L n) op p e = .inl z → BTs o L σ0 Q z) (good : ∀ c p' e', qxK o L (qx o L n) op p e = .inr (c, p', e') → NAs (GTs o L d σ0 Q p' e') (C ++ c) s op) : TLs o L d σ0 Q p e C s op := by
  refine tl_fact hd h91 hw3 (fun σ v l2 hM hR hqs hl => ?_)
  unfold qxK at bad good
  have hL0 := hR.f.1.2.2.1
  have hoc := hR.f.1.2.2.2.1
  have hp0 := hR.f.2.2.2.1
  have hp1 := hR.f.2.2.1
  have hn2 : qwd o L 2 p e ≠ (0 : Nat) := by omega
  refine wF_0 ⟨by omega, mtakesW (Or.inr (by decide)) (by omega) hR (fun U z hz => by rw [w85, if_neg hn2] at hz; cases hz) (fun U hz hMU hRU hU => ?_)⟩
  refine wF_8 ⟨by decide, fun _ => ⟨by omega, msum (by omega) hn ho hh hRU (hqs.mf hMU) hl (fun z S hX hMS hRS => ?_) (fun c1 p1 e1 v1 S hX hns hMS hRS hqS => ?_)⟩, fun z => absurd rfl z⟩
  · have h5 := rt1 hRS
    exact wF_22 ⟨by omega, fun c => by omega, fun _ => kf_bad hd (bad z (by rw [hX]; rfl)) ((hM.tr (MQf.of hMU)).tr hMS) hRS⟩
  · have h5 := rt0 hRS
    have q := qx_r n _ _ _ _ _ hp0 (by omega) hX
    unfold QOk at q
    dsimp only at q
    rw [hX] at bad good
    have bad : ∀ z, (if qsg o L p1 e1 = 60 ∨ qsg o L p1 e1 = 62 ∨ qsg o L p1 e1 = 61 then qbd (qx o L n 2 op (sk o L p1 + 1) (-1)) (fun c2 p2 e2 => .inr (c1 ++ c2 ++ [qcm (qsg o L p1 e1)], p2, e2)) else .inl (1, sk o L p1)) = .inl z → _ := bad
    have good : ∀ c p' e', (if qsg o L p1 e1 = 60 ∨ qsg o L p1 e1 = 62 ∨ qsg o L p1 e1 = 61 then qbd (qx o L n 2 op (sk o L p1 + 1) (-1)) (fun c2 p2 e2 => .inr (c1 ++ c2 ++ [qcm (qsg o L p1 e1)], p2, e2)) else .inl (1, sk o L p1)) = .inr (c, p', e') → _ := good
    have ht1 := tok (o := o) (L := L) e1 (show 0 ≤ p1 by omega) (by omega)
    have hlr := lkV_r (o := o) (L := L) (s := sk o L p1) hoc (by omega) hL0.2
    have hMS' := (hM.tr (MQf.of hMU)).tr hMS
    refine wF_22 ⟨by omega, fun _ => ⟨by omega, mlook hRS (fun T _ hMT hRT hT => ?_)⟩, fun z => absurd h5 z⟩
    have h5T := rt0 hRT
    have e60 := lk_sg (o := o) (L := L) (p := p1) (e := e1) (c := 60) (by decide) (by decide)
    have e62 := lk_sg (o := o) (L := L) (p := p1) (e := e1) (c := 62) (by decide) (by decide)
    have e61 := lk_sg (o := o) (L := L) (p := p1) (e := e1) (c := 61) (by decide) (by decide)
    -- the second sum
    have go : ∀ (x : Int), (x = 60 ∨ x = 62 ∨ x = 61) → lkV o L (sk o L p1) = x → qsg o L p1 e1 = x → ∀ V, V = up T 42 2 (T 42 2 + 1) → AW (d - 1 - 1) mX9_qSums 0 [some (.inr (.inr 42)), none, none] [] V (fun rr σ' => AW (d - 1) mX9_qFact 77 [some (.inr (.inr 42)), some (.inl (lkV o L (sk o L p1)))] (rtS rr []) σ' (fun rr σ' => AW d mX9_qTest 83 [some (.inr (.inr 42)), some (.inl 1), some (.inl l2)] (rtS rr []) σ' Q)) := by
      intro x hx hlx hsx V eV
      have hsl : sk o L p1 < L := (ht1.2.2.2.1 (qsg_t hsx (by omega)).1).1
      obtain ⟨hMV, hRV⟩ := rt_step hRT hT hsl eV
      have hqV := (hqS.mf hMT).mf hMV
      rw [hsx, if_pos hx] at bad good
      rw [hlx]
      refine msum (n := n) (by omega) (by omega) ho hh hRV hqV ?_ (fun z S2 hY hM2 hR2 => ?_) (fun c2 p2 e2 v2 S2 hY hns2 hM2 hR2 hq2 => ?_)
      · rw [List.length_append]
        omega
      · have hb := bad z (by rw [hY]; rfl)
        have hc71 := hM2.2.2
        have ha71 := hqV.1.1
        have hf71 := hqV.2.2.2.2
        have cdo : cdO S2 := by unfold cdO; omega
        have fin : ∀ (w : Int) (W : SG), W = cdS S2 w → AW d mX9_qTest 83 [some (.inr (.inr 42)), some (.inl 1), some (.inl l2)] [] W Q := by
          intro w W eW
          have g3 : ∀ p, p ≠ 42 → p ≠ 96 → p ≠ 97 → W p = S2 p := fun p a b c => by rw [eW]; unfold cdS; rw [up_pf a, up_pf b]
          have g2 : ∀ i, i ≠ 71 → W 42 i = S2 42 i := fun i a => by rw [eW]; unfold cdS; rw [up_i (by omega), up_p (by decide)]
          have g71 : W 42 71 = S2 42 71 + 1 := by rw [eW]; unfold cdS; rw [up_at]
          have hR3 : RTp o L (.inl z) W := hR2.p6 (fun i a b => g2 i (by omega)) g3
          have hS0 := hMS'.tr ((MQf.of hMT).tr (MQf.of hMV))
          have hM3 : MQf σ0 S2 := hS0.tr hM2
          exact kf_badw hd hb ⟨fun p a b c => (g3 p a b c).trans (hM3.1 p a b c), fun i a => (g2 i (by omega)).trans (hM3.2.1 i a)⟩ hR3
        refine wF_77 ⟨by omega, fun _ => ⟨by omega, fun _ => ⟨by omega, cdo, fun W eW => fin 9 W eW⟩, fun _ => ⟨by omega, cdo, fun W eW => fin 8 W eW⟩⟩, fun _ => ⟨by omega, cdo, fun W eW => fin 7 W eW⟩⟩
      · have hE := good _ _ _ (by rw [hY]; rfl)
        have q2 := qx_r n _ _ _ _ _ (by omega) (by omega) hY
        unfold QOk at q2
        dsimp only at q2
        have hll : ((C ++ c1 ++ c2).length : Int) = C.length + c1.length + c2.length := by rw [List.length_append, List.length_append]; omega
        have fin : ∀ (w : Int), qcm x = w → cdO S2 ∧ ∀ W : SG, W = cdS S2 w → AW d mX9_qTest 83 [some (.inr (.inr 42)), some (.inl 1), some (.inl l2)] [] W Q := by
          intro w hw
          obtain ⟨r1, r2, r3', r4⟩ := rq_cd (v := w) hq2 (by omega)
          refine ⟨r3', fun W eW => ?_⟩
          rw [eW]
          rw [hw] at hE
          have hS0 := hMS'.tr ((MQf.of hMT).tr (MQf.of hMV))
          refine kf_good hd (C := C ++ c1 ++ c2 ++ [w]) (by rw [List.append_assoc C, List.append_assoc C]; exact hE) ((hS0.tr hM2).tr r2) (r4 hR2) r1 ?_
          rw [List.length_append, List.length_cons, List.length_nil]
          omega
        refine wF_77 ⟨by omega, fun _ => ⟨by omega, fun _ => ⟨by omega, ?_⟩, fun _ => ⟨by omega, ?_⟩⟩, fun _ => ⟨by omega, ?_⟩⟩
        · exact fin 9 (by unfold qcm; rw [if_neg (by omega), if_neg (by omega)])
        · exact fin 8 (by unfold qcm; rw [if_neg (by omega), if_pos (by omega)])
        · exact fin 7 (by unfold qcm; rw [if_pos (by omega)])
    refine wF_34 ⟨by omega, fun c V eV => ⟨by omega, go 60 (by omega) c (e60.mp c) V eV⟩, fun n60 => ⟨by omega, fun c V eV => ⟨by omega, go 62 (by omega) c (e62.mp c) V eV⟩, fun n62 => ⟨by omega, fun c V eV => ⟨by omega, go 61 (by omega) c (e61.mp c) V eV⟩, fun n61 => ⟨by omega, by omega, fun _ T1 f1 T2 f2 => ?_, fun z => absurd h5T z⟩⟩⟩⟩
    have hno : ¬ (qsg o L p1 e1 = 60 ∨ qsg o L p1 e1 = 62 ∨ qsg o L p1 e1 = 61) := fun z => by
      rcases z with z | z | z
      · exact n60 (e60.mpr z)
      · exact n62 (e62.mpr z)
      · exact n61 (e61.mpr z)
    rw [if_neg hno] at bad
    have hf := mfail (k := 1) (pl := sk o L p1) hRT (by decide)
    rw [f2, f1, hT]
    exact kf_bad hd (bad _ rfl) ((hMS'.tr (MQf.of hMT)).tr (MQf.of hf.2)) hf.1
