/-! ===== sums read by the reference: state by state (wip/whole/9f.py) ===== -/
def GAs (o : Int → Int) (L : Int) (d : Nat) (l1 : Int) (bs : Nat) (σ0 : SG) (Q : Option AV → SG → Prop) (p e : Int) (C s : List Int) (op : Int) : Prop := ∀ (σ : SG) (v : Int), MQf σ0 σ → RTp o L (.inr (v, p, e)) σ → RQs C s op bs σ → ((C.length + s.length : Nat) : Int) ≤ p → AW (d - 1) mX9_qGoesOn 0 [some (.inr (.inr 42)), none] [] σ (fun rr σ' => AW d mX9_qSums 41 [some (.inr (.inr 42)), some (.inl l1), some (.inl 1)] (rtS rr []) σ' Q)
def PLs (o : Int → Int) (L : Int) (d : Nat) (l1 : Int) (bs : Nat) (σ0 : SG) (Q : Option AV → SG → Prop) (p e : Int) (C s : List Int) (op : Int) : Prop := ∀ (σ : SG) (v : Int), MQf σ0 σ → RTp o L (.inr (v, p, e)) σ → RQs C s op bs σ → ((C.length + s.length : Nat) : Int) ≤ p → AW (d - 1) mX9_qPartTold 2 [some (.inr (.inr 42)), some (.inl 1), none, none, none, none] [] σ (fun rr σ' => AW d mX9_qSums 30 [some (.inr (.inr 42)), some (.inl l1), some (.inl 1)] (rtS rr []) σ' Q)
def BDs (o : Int → Int) (L : Int) (l1 : Int) (σ0 : SG) (Q : Option AV → SG → Prop) (z : Int × Int) : Prop := ∀ σ : SG, MQf σ0 σ → RTp o L (.inl z) σ → Q none (up σ 42 75 l1)
theorem ks_bad {o : Int → Int} {L : Int} {d : Nat} {l1 : Int} {σ0 : SG} {Q : Option AV → SG → Prop} {z : Int × Int} (hb : BDs o L l1 σ0 Q z) {σ : SG} (hM : MQf σ0 σ) (hR : RTp o L (.inl z) σ) : AW d mX9_qSums 53 [some (.inr (.inr 42)), some (.inl l1), none] [] σ Q := by
  have h5 := rt1 hR
  refine vS_53 ⟨by omega, fun _ S eS => ?_, fun c => by omega⟩
  rw [eS]
  exact hb σ hM hR
theorem kp_bad {o : Int → Int} {L : Int} {d : Nat} {l1 : Int} {σ0 : SG} {Q : Option AV → SG → Prop} {z : Int × Int} (hd : 12 ≤ d) (hb : BDs o L l1 σ0 Q z) {σ : SG} (hM : MQf σ0 σ) (hR : RTp o L (.inl z) σ) : AW d mX9_qSums 30 [some (.inr (.inr 42)), some (.inl l1), some (.inl 1)] [] σ Q := by
  have h5 := rt1 hR
  exact vS_30 ⟨by omega, fun _ => vS_15 ⟨by decide, fun _ => ks_bad hb hM hR, fun z => absurd rfl z⟩, fun c => by omega⟩
theorem kg_bad {o : Int → Int} {L : Int} {d : Nat} {l1 : Int} {σ0 : SG} {Q : Option AV → SG → Prop} {z : Int × Int} (hd : 12 ≤ d) (hb : BDs o L l1 σ0 Q z) {σ : SG} (hM : MQf σ0 σ) (hR : RTp o L (.inl z) σ) : AW d mX9_qSums 41 [some (.inr (.inr 42)), some (.inl l1), some (.inl 1)] [.inl 0] σ Q := by
  have h5 := rt1 hR
  exact vS_41 ⟨by decide, fun _ => vS_15 ⟨by decide, fun _ => ks_bad hb hM hR, fun z => absurd rfl z⟩, fun z => absurd rfl z⟩
theorem pt_bad {o : Int → Int} {L : Int} {d : Nat} {l1 : Int} {σ0 : SG} {Q : Option AV → SG → Prop} {z : Int × Int} (hd : 12 ≤ d) (hb : BDs o L l1 σ0 Q z) {σ : SG} {m : Int} (hm : m = 0 ∨ m = 1) (hM : MQf σ0 σ) (hR : RTp o L (.inl z) σ) : AW (d - 1) mX9_qPartTold 2 [some (.inr (.inr 42)), some (.inl m), none, none, none, none] [] σ (fun rr σ' => AW d mX9_qSums 30 [some (.inr (.inr 42)), some (.inl l1), some (.inl 1)] (rtS rr []) σ' Q) := by
  have h5 := rt1 hR
  have hk := kp_bad hd hb hM hR
  exact vP_2 ⟨by omega, fun _ => ⟨by omega, fun c => by omega, fun _ => hk⟩, fun _ => ⟨by omega, fun _ => ⟨by omega, fun c => by omega, fun _ => hk⟩, fun c => by omega⟩⟩
theorem kp_good {o : Int → Int} {L : Int} {d : Nat} {l1 : Int} {bs : Nat} {σ0 : SG} {Q : Option AV → SG → Prop} {p e v op : Int} {C s : List Int} (hd : 12 ≤ d) (hG : GAs o L d l1 bs σ0 Q p e C s op) {σ : SG} (hM : MQf σ0 σ) (hR : RTp o L (.inr (v, p, e)) σ) (hq : RQs C s op bs σ) (hl : ((C.length + s.length : Nat) : Int) ≤ p) : AW d mX9_qSums 30 [some (.inr (.inr 42)), some (.inl l1), some (.inl 1)] [] σ Q := by
  have h5 := rt0 hR
  exact vS_30 ⟨by omega, fun z => absurd h5 z, fun _ => ⟨by omega, hG σ v hM hR hq hl⟩⟩
theorem pa_good {o : Int → Int} {L : Int} {d : Nat} {l1 : Int} {bs : Nat} {σ0 : SG} {Q : Option AV → SG → Prop} {p e v op : Int} {C s : List Int} (hd : 12 ≤ d) (hG : PLs o L d l1 bs σ0 Q p e C s op) {σ : SG} (hM : MQf σ0 σ) (hR : RTp o L (.inr (v, p, e)) σ) (hq : RQs C s op bs σ) (hl : ((C.length + s.length : Nat) : Int) ≤ p) : AW d mX9_qSums 15 [some (.inr (.inr 42)), some (.inl l1), some (.inl 1)] [] σ Q := by
  have h5 := rt0 hR
  exact vS_15 ⟨by decide, fun z => absurd z (by decide), fun _ => ⟨by omega, fun z => absurd h5 z, fun _ => ⟨by omega, vP_0 (hG σ v hM hR hq hl)⟩⟩⟩
theorem kg_true {o : Int → Int} {L : Int} {d : Nat} {l1 : Int} {bs : Nat} {σ0 : SG} {Q : Option AV → SG → Prop} {p e v op : Int} {C s : List Int} (hd : 12 ≤ d) (hG : PLs o L d l1 bs σ0 Q p e C s op) {σ : SG} (hM : MQf σ0 σ) (hR : RTp o L (.inr (v, p, e)) σ) (hq : RQs C s op bs σ) (hl : ((C.length + s.length : Nat) : Int) ≤ p) : AW d mX9_qSums 41 [some (.inr (.inr 42)), some (.inl l1), some (.inl 1)] [.inl 1] σ Q := by
  exact vS_41 ⟨by decide, fun z => absurd z (by decide), fun _ => pa_good hd hG hM hR hq hl⟩
theorem lk_sg {o : Int → Int} {L p e c : Int} (hc : 0 ≤ c) (hcl : chL c = 0 ∧ chD c = 0) : lkV o L (sk o L p) = c ↔ qsg o L p e = c := by
  have k3 := kd_3 (o := o) (L := L) (e := e) (s := sk o L p)
  unfold lkV qsg
  by_cases h : sk o L p < L
  · rw [if_pos h]
    by_cases z : o (sk o L p) = c
    · rw [if_pos (k3.mpr ⟨h, by rw [z]; exact hcl.1, by rw [z]; exact hcl.2⟩)]
    · constructor
      · intro y
        exact absurd y z
      · intro y
        split at y
        · exact y
        · omega
  · rw [if_neg h, if_neg (fun z => h (k3.mp z).1)]
theorem pxS_q {o : Int → Int} {L p e c : Int} (hc : c ≠ -1) : pxS o L c p e = if qsg o L p e = c then .inr (0, sk o L p + 1, -1) else .inl (1, sk o L p) := by
  unfold pxS qsg
  by_cases k : kd o L e (sk o L p) = 3
  · rw [if_pos k]
    by_cases z : o (sk o L p) = c
    · rw [if_pos ⟨k, z⟩, if_pos z]
    · rw [if_neg (fun y => z y.2), if_neg z]
  · rw [if_neg (fun y => k y.1), if_neg k, if_neg (fun z => hc z.symm)]
/-- behind an operator's sign: what waits and is stronger is dropped, the operator waits -/
theorem m162 {d : Nat} {op m : Int} {bs : Nat} {s : List Int} {Q : Option AV → SG → Prop} (hd : 6 ≤ d) (hm : 0 ≤ m ∧ m ≤ 100) (hs : s.head? ≠ some 3 ∧ s.head? ≠ some 4) : ∀ (P C : List Int) (σ : SG), (∀ x ∈ P, x = 3 ∨ x = 4) → RQs C (P ++ s) op bs σ → C.length + (P.length + s.length) + 1 ≤ 1600 → (∀ σ', MQf σ σ' → RQs (C ++ P) (m :: s) op bs σ' → (∀ {o : Int → Int} {L : Int} {X : PXv}, RTp o L X σ → RTp o L X σ') → Q (some (.inl 1)) σ') → AW d mX9_qGoesOn 162 [some (.inr (.inr 42)), some (.inl m)] [] σ Q := by
  intro P
  induction P with
  | nil =>
    intro C σ _ h hl hq
    rw [List.nil_append] at h
    obtain ⟨i1, i2, i3⟩ := rq_ion (w := 3) h (by decide)
    obtain ⟨j1, j2, j3⟩ := rq_ion (w := 4) h (by decide)
    rw [List.length_nil] at hl
    obtain ⟨q1, q2, q3⟩ := rq_push (x := m) h hm (by omega)
    have b1 := h.2.1.1
    refine vG_162 ⟨by omega, i1, i2, fun z => absurd (i3.mp z) hs.1, fun _ => ⟨by omega, j1, j2, fun _ => ⟨by omega, fun S1 e1 S2 e2 => ?_⟩, fun z => absurd (j3.mp z) hs.2⟩⟩
    rw [e2, e1]
    exact hq _ q2 (by rw [List.append_nil]; exact q1) (fun z => q3 z)
  | cons x P ih =>
    intro C σ hP h hl hq
    have h : RQs C (x :: (P ++ s)) op bs σ := h
    rw [List.length_cons] at hl
    obtain ⟨i1, i2, i3⟩ := rq_ion (w := 3) h (by decide)
    obtain ⟨j1, j2, j3⟩ := rq_ion (w := 4) h (by decide)
    obtain ⟨q1, q2, q3, q4⟩ := rq_dr h
    have go : AW d mX9_qGoesOn 162 [some (.inr (.inr 42)), some (.inl m)] [] (drS σ) Q := ih (C ++ [x]) (drS σ) (fun y hy => hP y (List.mem_cons_of_mem _ hy)) q1 (by rw [List.length_append, List.length_cons, List.length_nil]; omega) (fun σ' hM hR hT => hq σ' (q2.tr hM) (by rw [List.append_assoc] at hR; exact hR) (fun z => hT (q4 z)))
    rcases hP x (List.mem_cons_self ..) with hx | hx
    · refine vG_162 ⟨by omega, i1, i2, fun _ => ⟨by omega, q3 _ (by omega), fun S eS => ?_⟩, fun z => absurd z (i3.mpr (by rw [hx]; rfl))⟩
      rw [eS]
      exact go
    · refine vG_162 ⟨by omega, i1, i2, fun z => ?_, fun _ => ⟨by omega, j1, j2, fun z => absurd z (j3.mpr (by rw [hx]; rfl)), fun _ => ⟨by omega, q3 _ (by omega), fun S eS => ?_⟩⟩⟩
      · have := i3.mp z
        rw [hx] at this
        exact absurd (Option.some.inj this) (by decide)
      · rw [eS]
        exact go
theorem m247 {d : Nat} {op m : Int} {bs : Nat} {s : List Int} {Q : Option AV → SG → Prop} (hd : 6 ≤ d) (hm : 0 ≤ m ∧ m ≤ 100) (hs : s.head? ≠ some 1 ∧ s.head? ≠ some 2 ∧ s.head? ≠ some 3 ∧ s.head? ≠ some 4) : ∀ (P C : List Int) (σ : SG), (∀ x ∈ P, 1 ≤ x ∧ x ≤ 4) → RQs C (P ++ s) op bs σ → C.length + (P.length + s.length) + 1 ≤ 1600 → (∀ σ', MQf σ σ' → RQs (C ++ P) (m :: s) op bs σ' → (∀ {o : Int → Int} {L : Int} {X : PXv}, RTp o L X σ → RTp o L X σ') → Q (some (.inl 1)) σ') → AW d mX9_qGoesOn 247 [some (.inr (.inr 42)), some (.inl m)] [] σ Q := by
  intro P
  induction P with
  | nil =>
    intro C σ _ h hl hq
    rw [List.nil_append] at h
    obtain ⟨i1, i2, i3⟩ := rq_ion (w := 3) h (by decide)
    obtain ⟨j1, j2, j3⟩ := rq_ion (w := 4) h (by decide)
    obtain ⟨k1, k2, k3⟩ := rq_ion (w := 1) h (by decide)
    obtain ⟨l1, l2, l3⟩ := rq_ion (w := 2) h (by decide)
    rw [List.length_nil] at hl
    obtain ⟨q1, q2, q3⟩ := rq_push (x := m) h hm (by omega)
    have b1 := h.2.1.1
    refine vG_247 ⟨by omega, i1, i2, fun z => absurd (i3.mp z) hs.2.2.1, fun _ => ⟨by omega, j1, j2, fun z => absurd (j3.mp z) hs.2.2.2, fun _ => ⟨by omega, k1, k2, fun z => absurd (k3.mp z) hs.1, fun _ => ⟨by omega, l1, l2, fun _ => ⟨by omega, fun S1 e1 S2 e2 => ?_⟩, fun z => absurd (l3.mp z) hs.2.1⟩⟩⟩⟩
    rw [e2, e1]
    exact hq _ q2 (by rw [List.append_nil]; exact q1) (fun z => q3 z)
  | cons x P ih =>
    intro C σ hP h hl hq
    have h : RQs C (x :: (P ++ s)) op bs σ := h
    rw [List.length_cons] at hl
    obtain ⟨i1, i2, i3⟩ := rq_ion (w := 3) h (by decide)
    obtain ⟨j1, j2, j3⟩ := rq_ion (w := 4) h (by decide)
    obtain ⟨k1, k2, k3⟩ := rq_ion (w := 1) h (by decide)
    obtain ⟨l1, l2, l3⟩ := rq_ion (w := 2) h (by decide)
    obtain ⟨q1, q2, q3, q4⟩ := rq_dr h
    have go : AW d mX9_qGoesOn 247 [some (.inr (.inr 42)), some (.inl m)] [] (drS σ) Q := ih (C ++ [x]) (drS σ) (fun y hy => hP y (List.mem_cons_of_mem _ hy)) q1 (by rw [List.length_append, List.length_cons, List.length_nil]; omega) (fun σ' hM hR hT => hq σ' (q2.tr hM) (by rw [List.append_assoc] at hR; exact hR) (fun z => hT (q4 z)))
    have hx := hP x (List.mem_cons_self ..)
    have hd' : ∀ w, (x :: (P ++ s)).head? = some w → x = w := fun w z => Option.some.inj z
    refine vG_247 ⟨by omega, i1, i2, fun _ => ⟨by omega, q3 _ (by omega), fun S eS => by rw [eS]; exact go⟩, fun c1 => ⟨by omega, j1, j2, fun _ => ⟨by omega, q3 _ (by omega), fun S eS => by rw [eS]; exact go⟩, fun c2 => ⟨by omega, k1, k2, fun _ => ⟨by omega, q3 _ (by omega), fun S eS => by rw [eS]; exact go⟩, fun c3 => ⟨by omega, l1, l2, fun c4 => ?_, fun _ => ⟨by omega, q3 _ (by omega), fun S eS => by rw [eS]; exact go⟩⟩⟩⟩⟩
    exfalso
    have n3 : x ≠ 3 := fun z => i3.mpr (by rw [z]; rfl) c1
    have n4 : x ≠ 4 := fun z => j3.mpr (by rw [z]; rfl) c2
    have n1 : x ≠ 1 := fun z => k3.mpr (by rw [z]; rfl) c3
    have n2 : x ≠ 2 := fun z => l3.mpr (by rw [z]; rfl) c4
    omega
/-- one sign tried and not found -/
theorem tsg_no {d : Nat} {o : Int → Int} {L v p e c : Int} {σ : SG} {Q : Option AV → SG → Prop} (hc : 0 ≤ c ∧ c ≤ 255) (hcl : chL c = 0 ∧ chD c = 0) (hd : 2 ≤ d) (h : RTp o L (.inr (v, p, e)) σ) (hn : qsg o L p e ≠ c) (hq : ∀ σ', MFr σ σ' → RTp o L (.inr (v, p, e)) σ' → σ' 42 2 = sk o L p → Q (some (.inl 0)) σ') : AW d mX9_takesSign 0 [some (.inr (.inr 42)), some (.inl c)] [] σ Q :=
  mtakesS hc hcl hd h (fun S z hz => by rw [pxS_q (by omega), if_neg hn] at hz; cases hz) (fun S _ => hq S)
theorem tsg_yes {d : Nat} {o : Int → Int} {L v p e c : Int} {σ : SG} {Q : Option AV → SG → Prop} (hc : 0 ≤ c ∧ c ≤ 255) (hcl : chL c = 0 ∧ chD c = 0) (hd : 2 ≤ d) (h : RTp o L (.inr (v, p, e)) σ) (hn : qsg o L p e = c) (hq : ∀ σ', MFr σ σ' → RTp o L (.inr (0, sk o L p + 1, -1)) σ' → σ' 42 2 = sk o L p + 1 → σ' 43 (σ' 42 2 - 1) = c → (0 ≤ σ' 42 2 - 1 ∧ σ' 42 2 - 1 < 1600) → Q (some (.inl 1)) σ') : AW d mX9_takesSign 0 [some (.inr (.inr 42)), some (.inl c)] [] σ Q := by
  have hp0 := h.f.2.2.2.1
  have hp1 := h.f.2.2.1
  have hL0 := h.f.1.2.2.1
  have ht := tok (o := o) (L := L) e hp0 (by omega)
  have k3 := qsg_t hn (by omega)
  have hsl := ht.2.2.2.1 k3.1
  refine mtakesS hc hcl hd h (fun S z hz hM hR hS => ?_) (fun S hz => by rw [pxS_q (by omega), if_pos hn] at hz; cases hz)
  rw [pxS_q (by omega), if_pos hn] at hz
  cases hz
  refine hq S hM hR hS ?_ (by omega)
  rw [hS, show sk o L p + 1 - 1 = sk o L p by omega, hR.f.1.1 _ (by omega) (by omega)]
  exact k3.2
/-- from the head of qGoesOn to the first sign tried -/
theorem ga_head {o : Int → Int} {L : Int} {d : Nat} {l1 : Int} {bs : Nat} {σ0 : SG} {Q : Option AV → SG → Prop} {p e op : Int} {C s : List Int} (hd : 12 ≤ d) (hbs : bs ≤ 1600) (hb : qsg o L p e = 41 → brF bs s ≠ 20 ∧ brF bs s ≠ 23 ∧ brF bs s ≠ 24) (hbr : -1 ≤ brF bs s ∧ brF bs s ≤ 24) (hq : ∀ (σ : SG) (v : Int), MQf σ0 σ → RTp o L (.inr (v, p, e)) σ → RQs C s op bs σ → AW (d - 1 - 1) mX9_takesSign 0 [some (.inr (.inr 42)), some (.inl 42)] [] σ (fun rr σ' => AW (d - 1) mX9_qGoesOn 128 [some (.inr (.inr 42)), none] (rtS rr []) σ' (fun rr σ' => AW d mX9_qSums 41 [some (.inr (.inr 42)), some (.inl l1), some (.inl 1)] (rtS rr []) σ' Q))) : GAs o L d l1 bs σ0 Q p e C s op := by
  intro σ v hM hR hqs hl
  have h5 := rt0 hR
  have hL0 := hR.f.1.2.2.1
  have ho := hR.f.1.2.2.2.1
  have hp0 := hR.f.2.2.2.1
  have hp1 := hR.f.2.2.1
  have ht := tok (o := o) (L := L) e hp0 (by omega)
  have hlr := lkV_r (o := o) (L := L) (s := sk o L p) ho (by omega) hL0.2
  refine vG_0 ⟨by omega, fun z => absurd h5 z, fun _ => ⟨by omega, mlook hR (fun S _ hMS hRS hS => ?_)⟩⟩
  have hMS' := hM.tr (MQf.of hMS)
  have hqS := hqs.mf hMS
  have hh := hq S v hMS' hRS hqS
  refine vG_11 ⟨by omega, fun _ => ⟨by omega, hh⟩, fun c => ⟨by omega, mbr (by omega) hqS hbs ?_⟩⟩
  have h41 := (lk_sg (o := o) (L := L) (p := p) (e := e) (c := 41) (by decide) (by decide)).mp c
  obtain ⟨n0, n3, n4⟩ := hb h41
  refine vG_20 ⟨by omega, fun z => absurd z n0, fun _ => ⟨by omega, mbr (by omega) hqS hbs ?_⟩⟩
  refine vG_29 ⟨by omega, fun z => absurd z n3, fun _ => ⟨by omega, mbr (by omega) hqS hbs ?_⟩⟩
  exact vG_38 ⟨by omega, fun _ => ⟨by omega, hh⟩, fun z => absurd z n4⟩
theorem brF_r {bs : Nat} : ∀ s : List Int, -1 ≤ brF bs s ∧ brF bs s ≤ 24 := by
  intro s
  induction s with
  | nil => exact ⟨by show (-1:Int) ≤ -1; decide, by show (-1:Int) ≤ 24; decide⟩
  | cons x s ih =>
    show -1 ≤ (if s.length < bs then -1 else if 20 ≤ x ∧ x ≤ 24 then x else brF bs s) ∧ (if s.length < bs then -1 else if 20 ≤ x ∧ x ≤ 24 then x else brF bs s) ≤ 24
    split
    · decide
    · split
      · omega
      · exact ih
theorem ga_mul {o : Int → Int} {L : Int} {d : Nat} {l1 : Int} {bs : Nat} {σ0 : SG} {Q : Option AV → SG → Prop} {p e op : Int} {C Pm s : List Int} (hd : 12 ≤ d) (hbs : bs ≤ 1600) (hx : qsg o L p e = 42 ∨ qsg o L p e = 47) (hP : ∀ x ∈ Pm, x = 3 ∨ x = 4) (hs : s.head? ≠ some 3 ∧ s.head? ≠ some 4) (hG : PLs o L d l1 bs σ0 Q (sk o L p + 1) (-1) (C ++ Pm) ((if qsg o L p e = 42 then 3 else 4) :: s) op) : GAs o L d l1 bs σ0 Q p e C (Pm ++ s) op := by
  intro σ v hM hR hqs hl
  have hL0 := hR.f.1.2.2.1
  have hp0 := hR.f.2.2.2.1
  have hp1 := hR.f.2.2.1
  have ht := tok (o := o) (L := L) e hp0 (by omega)
  have hsl : sk o L p < L := by
    rcases hx with z | z <;> exact (ht.2.2.2.1 (qsg_t z (by decide)).1).1
  rw [List.length_append] at hl
  have fin : ∀ (S : SG) (m : Int), MQf σ0 S → RTp o L (.inr (0, sk o L p + 1, -1)) S → RQs C (Pm ++ s) op bs S → (if qsg o L p e = 42 then 3 else 4) = m → AW (d - 1) mX9_qGoesOn 162 [some (.inr (.inr 42)), some (.inl m)] [] S (fun rr σ' => AW d mX9_qSums 41 [some (.inr (.inr 42)), some (.inl l1), some (.inl 1)] (rtS rr []) σ' Q) := by
    intro S m hMS hRS hqS hm
    rw [hm] at hG
    have hm2 : m = 3 ∨ m = 4 := by
      rw [← hm]
      split
      · exact Or.inl rfl
      · exact Or.inr rfl
    refine m162 (by omega) (by omega) hs Pm C S hP hqS (by omega) (fun T hMT hqT hT => kg_true hd hG (hMS.tr hMT) (hT hRS) hqT ?_)
    rw [List.length_append, List.length_cons]
    omega
  refine ga_head hd hbs (fun z => by omega) (brF_r _) (fun S w hMS hRS hqS => ?_) σ v hM hR hqs (by rw [List.length_append]; omega)
  by_cases h42 : qsg o L p e = 42
  · refine tsg_yes (by decide) (by decide) (by omega) hRS h42 (fun T hMT hRT hT hc hr => ?_)
    refine vG_128 ?_
    rw [hc]
    refine ⟨by decide, fun _ => ⟨by omega, by decide, fun z => absurd rfl z, fun _ => fin T 3 (hMS.tr (MQf.of hMT)) hRT (hqS.mf hMT) (if_pos h42)⟩, fun z => absurd z (by decide)⟩
  · have h47 : qsg o L p e = 47 := hx.resolve_left h42
    refine tsg_no (by decide) (by decide) (by omega) hRS h42 (fun T hMT hRT hT => ?_)
    refine vG_128 ⟨by decide, fun z => absurd rfl z, fun _ => ⟨by omega, tsg_yes (by decide) (by decide) (by omega) hRT h47 (fun U hMU hRU hU hc hr => ?_)⟩⟩
    refine vG_137 ?_
    rw [hc]
    exact ⟨by decide, fun z => absurd z (by decide), fun _ => ⟨by omega, by decide, fun _ => fin U 4 ((hMS.tr (MQf.of hMT)).tr (MQf.of hMU)) hRU ((hqS.mf hMT).mf hMU) (if_neg h42), fun z => absurd z (by decide)⟩⟩
theorem ga_add {o : Int → Int} {L : Int} {d : Nat} {l1 : Int} {bs : Nat} {σ0 : SG} {Q : Option AV → SG → Prop} {p e op : Int} {C P s : List Int} (hd : 12 ≤ d) (hbs : bs ≤ 1600) (hx : qsg o L p e = 43 ∨ qsg o L p e = 45) (hP : ∀ x ∈ P, 1 ≤ x ∧ x ≤ 4) (hs : s.head? ≠ some 1 ∧ s.head? ≠ some 2 ∧ s.head? ≠ some 3 ∧ s.head? ≠ some 4) (hG : PLs o L d l1 bs σ0 Q (sk o L p + 1) (-1) (C ++ P) ((if qsg o L p e = 43 then 1 else 2) :: s) op) : GAs o L d l1 bs σ0 Q p e C (P ++ s) op := by
  intro σ v hM hR hqs hl
  have hL0 := hR.f.1.2.2.1
  have hp0 := hR.f.2.2.2.1
  have hp1 := hR.f.2.2.1
  have ht := tok (o := o) (L := L) e hp0 (by omega)
  have hsl : sk o L p < L := by
    rcases hx with z | z <;> exact (ht.2.2.2.1 (qsg_t z (by decide)).1).1
  rw [List.length_append] at hl
  have fin : ∀ (S : SG) (m : Int), MQf σ0 S → RTp o L (.inr (0, sk o L p + 1, -1)) S → RQs C (P ++ s) op bs S → (if qsg o L p e = 43 then 1 else 2) = m → AW (d - 1) mX9_qGoesOn 247 [some (.inr (.inr 42)), some (.inl m)] [] S (fun rr σ' => AW d mX9_qSums 41 [some (.inr (.inr 42)), some (.inl l1), some (.inl 1)] (rtS rr []) σ' Q) := by
    intro S m hMS hRS hqS hm
    rw [hm] at hG
    have hm2 : m = 1 ∨ m = 2 := by
      rw [← hm]
      split
      · exact Or.inl rfl
      · exact Or.inr rfl
    refine m247 (by omega) (by omega) hs P C S hP hqS (by omega) (fun T hMT hqT hT => kg_true hd hG (hMS.tr hMT) (hT hRS) hqT ?_)
    rw [List.length_append, List.length_cons]
    omega
  refine ga_head hd hbs (fun z => by omega) (brF_r _) (fun S w hMS hRS hqS => ?_) σ v hM hR hqs (by rw [List.length_append]; omega)
  refine tsg_no (by decide) (by decide) (by omega) hRS (by omega) (fun T hMT hRT hT => ?_)
  refine vG_128 ⟨by decide, fun z => absurd rfl z, fun _ => ⟨by omega, tsg_no (by decide) (by decide) (by omega) hRT (by omega) (fun U hMU hRU hU => ?_)⟩⟩
  have hM2 := (hMS.tr (MQf.of hMT)).tr (MQf.of hMU)
  have hq2 := (hqS.mf hMT).mf hMU
  by_cases h43 : qsg o L p e = 43
  · refine vG_137 ⟨by decide, fun _ => ⟨by omega, tsg_yes (by decide) (by decide) (by omega) hRU h43 (fun V hMV hRV hV hc hr => ?_)⟩, fun z => absurd rfl z⟩
    refine vG_213 ?_
    rw [hc]
    exact ⟨by decide, fun _ => ⟨by omega, by decide, fun z => absurd rfl z, fun _ => fin V 1 (hM2.tr (MQf.of hMV)) hRV (hq2.mf hMV) (if_pos h43)⟩, fun z => absurd z (by decide)⟩
  · have h45 : qsg o L p e = 45 := hx.resolve_left h43
    refine vG_137 ⟨by decide, fun _ => ⟨by omega, tsg_no (by decide) (by decide) (by omega) hRU h43 (fun V hMV hRV hV => ?_)⟩, fun z => absurd rfl z⟩
    refine vG_213 ⟨by decide, fun z => absurd rfl z, fun _ => ⟨by omega, tsg_yes (by decide) (by decide) (by omega) hRV h45 (fun W hMW hRW hW hc hr => ?_)⟩⟩
    refine vG_222 ?_
    rw [hc]
    exact ⟨by decide, fun z => absurd z (by decide), fun _ => ⟨by omega, by decide, fun _ => fin W 2 ((hM2.tr (MQf.of hMV)).tr (MQf.of hMW)) hRW ((hq2.mf hMV).mf hMW) (if_neg h43), fun z => absurd z (by decide)⟩⟩
/-- no operator stands here, and nothing is closed -/
theorem ga_none {o : Int → Int} {L : Int} {d : Nat} {l1 : Int} {bs : Nat} {σ0 : SG} {Q : Option AV → SG → Prop} {p e op : Int} {C s : List Int} (hd : 12 ≤ d) (hbs : bs ≤ 1600) (hx : qsg o L p e ≠ 42 ∧ qsg o L p e ≠ 47 ∧ qsg o L p e ≠ 43 ∧ qsg o L p e ≠ 45) (hb : qsg o L p e = 41 → brF bs s ≠ 20 ∧ brF bs s ≠ 23 ∧ brF bs s ≠ 24) (hq : ∀ (σ : SG) (v : Int), MQf σ0 σ → RTp o L (.inr (v, p, e)) σ → RQs C s op bs σ → σ 42 2 = sk o L p → AW (d - 1) mX9_qGoesOn 312 [some (.inr (.inr 42)), none] [.inl (brF bs s)] σ (fun rr σ' => AW d mX9_qSums 41 [some (.inr (.inr 42)), some (.inl l1), some (.inl 1)] (rtS rr []) σ' Q)) : GAs o L d l1 bs σ0 Q p e C s op := by
  refine ga_head hd hbs hb (brF_r _) (fun S w hMS hRS hqS => ?_)
  refine tsg_no (by decide) (by decide) (by omega) hRS hx.1 (fun T hMT hRT hT => ?_)
  refine vG_128 ⟨by decide, fun z => absurd rfl z, fun _ => ⟨by omega, tsg_no (by decide) (by decide) (by omega) hRT hx.2.1 (fun U hMU hRU hU => ?_)⟩⟩
  refine vG_137 ⟨by decide, fun _ => ⟨by omega, tsg_no (by decide) (by decide) (by omega) hRU hx.2.2.1 (fun V hMV hRV hV => ?_)⟩, fun z => absurd rfl z⟩
  refine vG_213 ⟨by decide, fun z => absurd rfl z, fun _ => ⟨by omega, tsg_no (by decide) (by decide) (by omega) hRV hx.2.2.2 (fun W hMW hRW hW => ?_)⟩⟩
  have hqW := (((hqS.mf hMT).mf hMU).mf hMV).mf hMW
  refine vG_222 ⟨by decide, fun _ => ⟨by omega, mbr (by omega) hqW hbs ?_⟩, fun z => absurd rfl z⟩
  exact hq W w ((((hMS.tr (MQf.of hMT)).tr (MQf.of hMU)).tr (MQf.of hMV)).tr (MQf.of hMW)) hRW hqW hW
/-- a bracket that is not closed -/
theorem ga_fail {o : Int → Int} {L : Int} {d : Nat} {l1 : Int} {bs : Nat} {σ0 : SG} {Q : Option AV → SG → Prop} {p e op b : Int} {C P r : List Int} (hd : 12 ≤ d) (hbs : bs ≤ 1600) (hx : qsg o L p e ≠ 42 ∧ qsg o L p e ≠ 47 ∧ qsg o L p e ≠ 43 ∧ qsg o L p e ≠ 45) (h41 : qsg o L p e ≠ 41) (hP : Ops P) (hb : b = 20 ∨ b = 23 ∨ b = 24) (hr : bs ≤ r.length) (hB : BDs o L l1 σ0 Q (1, sk o L p)) : GAs o L d l1 bs σ0 Q p e C (P ++ b :: r) op := by
  have e1 : brF bs (P ++ b :: r) = b := by rw [brF_ops P _ hP (by rw [List.length_cons]; omega), brF_br (by omega) hr]
  refine ga_none hd hbs hx (fun z => absurd z h41) (fun S v hM hR hq hS => ?_)
  have h5 := rt0 hR
  rw [e1]
  refine vG_312 ⟨by omega, fun z => by omega, fun _ => ⟨by omega, mbr (by omega) hq hbs ?_⟩⟩
  rw [e1]
  refine vG_321 ⟨by omega, fun _ => ⟨by omega, mbr (by omega) hq hbs ?_⟩, fun z => by omega⟩
  rw [e1]
  refine vG_366 ?_
  rw [hS]
  refine ⟨by omega, fun z => by omega, fun _ => ⟨by omega, fun z => absurd h5 z, fun _ => ⟨by omega, by omega, fun _ T1 f1 T2 f2 => ?_, fun z => absurd h5 z⟩⟩⟩
  have hf := mfail (k := 1) (pl := sk o L p) hR (by decide)
  rw [f2, f1]
  exact kg_bad hd hB (hM.tr (MQf.of hf.2)) hf.1
/-- the comma of min and max -/
theorem ga_comma {o : Int → Int} {L : Int} {d : Nat} {l1 : Int} {bs : Nat} {σ0 : SG} {Q : Option AV → SG → Prop} {p e op b : Int} {C P r : List Int} (hd : 12 ≤ d) (hbs : bs ≤ 1600) (hx : qsg o L p e ≠ 42 ∧ qsg o L p e ≠ 47 ∧ qsg o L p e ≠ 43 ∧ qsg o L p e ≠ 45) (hP : Ops P) (hb : b = 21 ∨ b = 22) (hr : bs ≤ r.length) (h0 : qsg o L p e ≠ 44 → BDs o L l1 σ0 Q (1, sk o L p)) (h1 : qsg o L p e = 44 → PLs o L d l1 bs σ0 Q (sk o L p + 1) (-1) (C ++ P) ((b + 2) :: r) op) : GAs o L d l1 bs σ0 Q p e C (P ++ b :: r) op := by
  intro σ v hM hR hqs hl
  have hL0 := hR.f.1.2.2.1
  have hp0 := hR.f.2.2.2.1
  have hp1 := hR.f.2.2.1
  rw [List.length_append, List.length_cons] at hl
  have e1 : brF bs (P ++ b :: r) = b := by rw [brF_ops P _ hP (by rw [List.length_cons]; omega), brF_br (by omega) hr]
  have com : ∀ (S : SG) (v : Int), MQf σ0 S → RTp o L (.inr (v, p, e)) S → RQs C (P ++ b :: r) op bs S → AW (d - 1 - 1) mX9_asksSign 0 [some (.inr (.inr 42)), some (.inl 44)] [] S (fun rr σ' => AW (d - 1) mX9_qGoesOn 332 [some (.inr (.inr 42)), none] (rtS rr []) σ' (fun rr σ' => AW d mX9_qSums 41 [some (.inr (.inr 42)), some (.inl l1), some (.inl 1)] (rtS rr []) σ' Q)) := by
    intro S v hM hR hq
    refine masksS (by decide) (by decide) (by omega) hR (fun T hMT hRT => ?_)
    change RTp o L (pxS o L 44 p e) T at hRT
    rw [pxS_q (by decide)] at hRT
    have hM2 := hM.tr (MQf.of hMT)
    have hq2 := hq.mf hMT
    by_cases h44 : qsg o L p e = 44
    · rw [if_pos h44] at hRT
      have hb5 := rt0 hRT
      have k3 := (qsg_t h44 (by decide)).1
      have ht := tok (o := o) (L := L) e hp0 (by omega)
      have hsl := ht.2.2.2.1 k3
      refine vG_332 ⟨by omega, fun _ => ⟨by omega, mdtb (by omega) hbs (Or.inr ⟨b, r, rfl, by omega, hr⟩) P C T hP hq2 (fun U hMU hqU hTU => ?_)⟩, fun z => absurd hb5 z⟩
      obtain ⟨p1, p2, p3, p4⟩ := rq_pop hqU
      have hf := hqU.2.2.2.2
      rw [List.length_cons] at hf
      refine vG_345 ?_
      rw [p2, p4]
      refine ⟨by omega, by omega, fun V eV => ?_⟩
      have hqV : RQs (C ++ P) ((b + 2) :: r) op bs V := by
        obtain ⟨⟨a1, a2⟩, ⟨b1, b2⟩, c', e', f'⟩ := hqU
        refine ⟨⟨?_, fun i hi => ?_⟩, ⟨?_, ?_⟩, ?_, ?_, f'⟩
        · rw [eV, up_p (by decide)]
          exact a1
        · rw [eV, up_p (by decide)]
          exact a2 i hi
        · rw [eV, up_p (by decide)]
          exact b1
        · rw [eV]
          refine ⟨up_at .., by omega, WSt_cong r (fun i i0 i1 => ?_) b2.2.2⟩
          rw [up_i (by omega)]
        · rw [eV, up_p (by decide)]
          exact c'
        · rw [eV, up_p (by decide)]
          exact e'
      have hRV : RTp o L (.inr (0, sk o L p + 1, -1)) V := by
        rw [eV]
        exact (hTU hRT).p6 (fun i a b => up_p (by decide)) (fun p a b c => up_pf c)
      refine kg_true hd (h1 h44) ((hM2.tr hMU).tr (by rw [eV]; exact mqf_97 (Or.inr rfl))) hRV hqV ?_
      rw [List.length_append, List.length_cons]
      omega
    · rw [if_neg h44] at hRT
      have hb5 := rt1 hRT
      exact vG_332 ⟨by omega, fun c => by omega, fun _ => kg_bad hd (h0 h44) hM2 hRT⟩
  refine ga_none hd hbs hx (fun _ => by rw [e1]; omega) (fun S v hM hR hq hS => ?_) σ v hM hR hqs (by rw [List.length_append, List.length_cons]; omega)
  rw [e1]
  rcases hb with hb | hb
  · exact vG_312 ⟨by omega, fun _ => ⟨by omega, com S v hM hR hq⟩, fun z => absurd hb z⟩
  · refine vG_312 ⟨by omega, fun z => by omega, fun _ => ⟨by omega, mbr (by omega) hq hbs ?_⟩⟩
    rw [e1]
    exact vG_321 ⟨by omega, fun z => absurd hb z, fun _ => ⟨by omega, com S v hM hR hq⟩⟩
/-- a bracket closed -/
def clC (b : Int) : List Int := if b = 20 then [] else if b = 23 then [5] else [6]
theorem ga_close {o : Int → Int} {L : Int} {d : Nat} {l1 : Int} {bs : Nat} {σ0 : SG} {Q : Option AV → SG → Prop} {p e op b : Int} {C P r : List Int} (hd : 12 ≤ d) (hbs : bs ≤ 1600) (h41 : qsg o L p e = 41) (hP : Ops P) (hb : b = 20 ∨ b = 23 ∨ b = 24) (hr : bs ≤ r.length) (hE : EAs (GAs o L d l1 bs σ0 Q (sk o L p + 1) (-1)) bs (C ++ P ++ clC b) r (op - 1)) : GAs o L d l1 bs σ0 Q p e C (P ++ b :: r) op := by
  intro σ v hM hR hqs hl
  have h5 := rt0 hR
  have hL0 := hR.f.1.2.2.1
  have ho := hR.f.1.2.2.2.1
  have hp0 := hR.f.2.2.2.1
  have hp1 := hR.f.2.2.1
  have ht := tok (o := o) (L := L) e hp0 (by omega)
  have hsl := ht.2.2.2.1 (qsg_t h41 (by decide)).1
  have hlr := lkV_r (o := o) (L := L) (s := sk o L p) ho (by omega) hL0.2
  have e1 : brF bs (P ++ b :: r) = b := by rw [brF_ops P _ hP (by rw [List.length_cons]; omega), brF_br (by omega) hr]
  rw [List.length_append, List.length_cons] at hl
  refine vG_0 ⟨by omega, fun z => absurd h5 z, fun _ => ⟨by omega, mlook hR (fun S _ hMS hRS hS => ?_)⟩⟩
  have hMS' := hM.tr (MQf.of hMS)
  have hqS := hqs.mf hMS
  have hlk := (lk_sg (o := o) (L := L) (p := p) (e := e) (c := 41) (by decide) (by decide)).mpr h41
  rw [hlk]
  -- behind the sign
  have go : ∀ T, T = up S 42 2 (S 42 2 + 1) → AW (d - 1 - 1) mX9_qDropsToBracket 0 [some (.inr (.inr 42))] [] T (fun rr σ' => AW (d - 1) mX9_qGoesOn 57 [some (.inr (.inr 42)), none] (rtS rr []) σ' (fun rr σ' => AW d mX9_qSums 41 [some (.inr (.inr 42)), some (.inl l1), some (.inl 1)] (rtS rr []) σ' Q)) := by
    intro T eT
    rw [hS] at eT
    have hMT : MFr S T := by rw [eT]; exact (MFr.rf S).up (by omega)
    have hRT : RTp o L (.inr (0, sk o L p + 1, -1)) T := by
      obtain ⟨_, ⟨g5, g6⟩, _, _, he0, he⟩ := hRS.f
      have y2 : T 42 2 = sk o L p + 1 := by rw [eT, up_at]
      have y4 : T 42 4 = S 42 4 := by rw [eT, up_i (by decide)]
      refine RTp.mk (hRS.b hMT.1 (hMT.2 3 (by decide) (by decide) (by decide) (by decide) (by decide) (by decide))) ⟨?_, ?_⟩ ⟨by omega, by omega, by rw [y2]⟩ (by omega) (by omega) ?_
      · rw [eT, up_i (by decide)]
        exact g5
      · rw [eT, up_i (by decide)]
        exact g6
      · intro s hs
        rw [y4]
        exact ⟨fun z => by omega, fun z => by omega⟩
    refine mdtb (by omega) hbs (Or.inr ⟨b, r, rfl, by omega, hr⟩) P C T hP (hqS.mf hMT) (fun U hMU hqU hTU => ?_)
    have hRU := hTU hRT
    have hMU' := (hMS'.tr (MQf.of hMT)).tr hMU
    obtain ⟨p1, p2, p3, p4⟩ := rq_pop hqU
    refine vG_57 (fun V eV W eW => ?_)
    have w73 : W 42 73 = (r.length : Int) := by rw [eW, up_i (by decide), eV, up_at, p4]
    have w97 : W 97 = U 97 := by rw [eW, up_pf (by decide), eV, up_pf (by decide)]
    have wb : W 97 (W 42 73) = b := by rw [w73, w97, ← p4]; exact p2
    have hqW : RQs (C ++ P) r (op - 1) bs W := by
      rw [← eV] at p1
      obtain ⟨⟨a1, a2⟩, ⟨b1, b2⟩, c', e', f'⟩ := p1
      refine ⟨⟨?_, fun i hi => ?_⟩, ⟨?_, ?_⟩, ?_, ?_, f'⟩
      · rw [eW, up_i (by decide)]
        exact a1
      · rw [eW, up_p (by decide)]
        exact a2 i hi
      · rw [eW, up_i (by decide)]
        exact b1
      · rw [eW, up_pf (by decide)]
        exact b2
      · rw [eW, up_at, c']
      · rw [eW, up_i (by decide)]
        exact e'
    have hMW : MQf σ0 W := hMU'.tr (by rw [eW, eV]; exact (mqf_up (by omega)).tr (mqf_up (by omega)))
    have hRW : RTp o L (.inr (0, sk o L p + 1, -1)) W := by
      rw [eW, eV]
      exact (hRU.p6 (fun i a b => up_i (by omega)) (fun p a b c => up_pf a)).p6 (fun i a b => up_i (by omega)) (fun p a b c => up_pf a)
    have hfW := hqW.2.2.2.2
    have hlC : ((C ++ P).length : Int) = C.length + P.length := by rw [List.length_append]; omega
    have hG : ∀ C' s' op', (GAs o L d l1 bs σ0 Q (sk o L p + 1) (-1) C' s' op' ∧ ((C'.length + s'.length : Nat) : Int) ≤ sk o L p + 1) → ∀ σ, MQf σ0 σ → RTp o L (.inr (0, sk o L p + 1, -1)) σ → RQs C' s' op' bs σ → AW (d - 1) mX9_qGoesOn 119 [some (.inr (.inr 42)), none] [] σ (fun rr σ' => AW d mX9_qSums 41 [some (.inr (.inr 42)), some (.inl l1), some (.inl 1)] (rtS rr []) σ' Q) := fun C' s' op' hg σ hM hR hq => vG_119 (hg.1 σ 0 hM hR hq hg.2)
    have hE2 : ∀ (s' C' : List Int) (op' : Int), ((C'.length + s'.length : Nat) : Int) ≤ sk o L p + 1 → EAs (GAs o L d l1 bs σ0 Q (sk o L p + 1) (-1)) bs C' s' op' → EAs (fun C' s' op' => GAs o L d l1 bs σ0 Q (sk o L p + 1) (-1) C' s' op' ∧ ((C'.length + s'.length : Nat) : Int) ≤ sk o L p + 1) bs C' s' op' := by
      intro s'
      induction s' with
      | nil => intro C' op' hb h; exact ⟨h, hb⟩
      | cons x s' ih =>
        intro C' op' hb h
        have h : if 60 ≤ x ∧ bs ≤ s'.length then EAs (GAs o L d l1 bs σ0 Q (sk o L p + 1) (-1)) bs (C' ++ [x]) s' (op' - 1) else GAs o L d l1 bs σ0 Q (sk o L p + 1) (-1) C' (x :: s') op' := h
        show if 60 ≤ x ∧ bs ≤ s'.length then _ else _
        by_cases c : 60 ≤ x ∧ bs ≤ s'.length
        · rw [if_pos c] at h ⊢
          refine ih (C' ++ [x]) (op' - 1) ?_ h
          rw [List.length_append, List.length_cons, List.length_nil]
          rw [List.length_cons] at hb
          omega
        · rw [if_neg c] at h ⊢
          exact ⟨h, hb⟩
    rw [wb, w73]
    have hle : ((C ++ P ++ clC b).length + r.length : Int) ≤ sk o L p + 1 := by
      have : ((clC b).length : Int) ≤ 1 := by
        unfold clC
        split
        · decide
        · split <;> decide
      rw [List.length_append, List.length_append]
      omega
    refine ⟨by omega, by omega, fun c => ⟨by omega, ?_⟩, fun c => ⟨by omega, by omega, fun c2 => ⟨by omega, ?_⟩, fun c2 => ⟨by omega, ?_⟩⟩⟩
    · have hcl : clC b = [] := if_pos c
      rw [hcl, List.append_nil] at hE hle
      exact mends2 (by omega) hbs hG r (C ++ P) (op - 1) W (hE2 r _ _ (by omega) hE) hMW hRW hqW
    · have hcl : clC b = [6] := by unfold clC; rw [if_neg c, if_neg c2]
      rw [hcl] at hE hle
      obtain ⟨q1, q2, q3, q4⟩ := rq_cd (v := 6) hqW (by omega)
      refine ⟨q3, fun X eX => ⟨by omega, ?_⟩⟩
      rw [eX]
      exact mends2 (by omega) hbs hG r (C ++ P ++ [6]) (op - 1) (cdS W 6) (hE2 r _ _ (by omega) hE) (hMW.tr q2) (q4 hRW) q1
    · have hcl : clC b = [5] := by unfold clC; rw [if_neg c, if_pos c2]
      rw [hcl] at hE hle
      obtain ⟨q1, q2, q3, q4⟩ := rq_cd (v := 5) hqW (by omega)
      refine ⟨q3, fun X eX => ⟨by omega, ?_⟩⟩
      rw [eX]
      exact mends2 (by omega) hbs hG r (C ++ P ++ [5]) (op - 1) (cdS W 5) (hE2 r _ _ (by omega) hE) (hMW.tr q2) (q4 hRW) q1
  refine vG_11 ⟨by decide, fun z => absurd rfl z, fun _ => ⟨by omega, mbr (by omega) hqS hbs ?_⟩⟩
  rw [e1]
  rcases hb with hb | hb | hb
  · exact vG_20 ⟨by omega, fun _ T eT => ⟨by omega, go T eT⟩, fun z => absurd hb z⟩
  · refine vG_20 ⟨by omega, fun z => by omega, fun _ => ⟨by omega, mbr (by omega) hqS hbs ?_⟩⟩
    rw [e1]
    exact vG_29 ⟨by omega, fun _ T eT => ⟨by omega, go T eT⟩, fun z => absurd hb z⟩
  · refine vG_20 ⟨by omega, fun z => by omega, fun _ => ⟨by omega, mbr (by omega) hqS hbs ?_⟩⟩
    rw [e1]
    refine vG_29 ⟨by omega, fun z => by omega, fun _ => ⟨by omega, mbr (by omega) hqS hbs ?_⟩⟩
    rw [e1]
    exact vG_38 ⟨by omega, fun z => absurd hb z, fun _ T eT => ⟨by omega, go T eT⟩⟩
/-- the end of a sum -/
theorem ga_end {o : Int → Int} {L : Int} {d : Nat} {l1 : Int} {bs : Nat} {σ0 : SG} {Q : Option AV → SG → Prop} {p e op : Int} {C P K : List Int} (hd : 12 ≤ d) (hbs : bs ≤ 1600) (hx : qsg o L p e ≠ 42 ∧ qsg o L p e ≠ 47 ∧ qsg o L p e ≠ 43 ∧ qsg o L p e ≠ 45) (hP : Ops P) (hK : K.length = bs) (hq : ∀ (σ : SG) (v : Int), MQf σ0 σ → RTp o L (.inr (v, p, e)) σ → RQs (C ++ P) K op bs σ → Q none (up σ 42 75 l1)) : GAs o L d l1 bs σ0 Q p e C (P ++ K) op := by
  have e1 : brF bs (P ++ K) = -1 := by rw [brF_ops P _ hP (by omega), brF_base hK]
  have drops : ∀ (P C : List Int) (σ : SG) (v : Int), Ops P → MQf σ0 σ → RTp o L (.inr (v, p, e)) σ → RQs C (P ++ K) op bs σ → (∀ (σ : SG) (v : Int), MQf σ0 σ → RTp o L (.inr (v, p, e)) σ → RQs (C ++ P) K op bs σ → Q none (up σ 42 75 l1)) → AW d mX9_qSums 53 [some (.inr (.inr 42)), some (.inl l1), none] [] σ Q := by
    intro P
    induction P with
    | nil =>
      intro C σ v _ hM hR hqs hq
      have h5 := rt0 hR
      rw [List.nil_append] at hqs
      have hQ := hq σ v hM hR (by rw [List.append_nil]; exact hqs)
      obtain ⟨_, ⟨b1, _⟩, _, e75, _⟩ := hqs
      refine vS_53 ?_
      rw [b1, e75]
      refine ⟨by omega, fun z => absurd h5 z, fun _ => ⟨by omega, fun _ S eS => ?_, fun z => by omega⟩⟩
      rw [eS]
      exact hQ
    | cons x P ih =>
      intro C σ v hP hM hR hqs hq
      have h5 := rt0 hR
      have hqs : RQs C (x :: (P ++ K)) op bs σ := hqs
      obtain ⟨q1, q2, q3, q4⟩ := rq_dr hqs
      have b1 := hqs.2.1.1
      have e75 := hqs.2.2.2.1
      have f := hqs.2.2.2.2
      rw [List.length_cons, List.length_append] at b1 f
      refine vS_53 ?_
      rw [b1, e75]
      refine ⟨by omega, fun z => absurd h5 z, fun _ => ⟨by omega, fun z => by omega, fun _ => ⟨by omega, q3 _ (by omega), fun S eS => ?_⟩⟩⟩
      rw [eS]
      exact ih (C ++ [x]) (drS σ) v (fun y hy => hP y (List.mem_cons_of_mem _ hy)) (hM.tr q2) (q4 hR) q1 (fun T w hMT hRT hqT => hq T w hMT hRT (by rw [List.append_assoc] at hqT; exact hqT))
  refine ga_none hd hbs hx (fun _ => by rw [e1]; decide) (fun S v hM hR hqs hS => ?_)
  rw [e1]
  refine vG_312 ⟨by decide, fun z => absurd z (by decide), fun _ => ⟨by omega, mbr (by omega) hqs hbs ?_⟩⟩
  rw [e1]
  refine vG_321 ⟨by decide, fun _ => ⟨by omega, mbr (by omega) hqs hbs ?_⟩, fun z => absurd z (by decide)⟩
  rw [e1]
  refine vG_366 ⟨by decide, fun _ => ?_, fun z => absurd rfl z⟩
  exact vS_41 ⟨by decide, fun _ => vS_15 ⟨by decide, fun _ => drops P C S v hP hM hR hqs hq, fun z => absurd rfl z⟩, fun z => absurd rfl z⟩
