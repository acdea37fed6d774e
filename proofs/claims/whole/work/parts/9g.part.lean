/-! ===== words and parts of a question, told by the reference (wip/whole/9g.py) ===== -/
theorem qw_at {o : Int → Int} {L p e : Int} {j i : Nat} (hj : j < 7) (hi : i < (WL j).length) : qwd o L j p e = (i : Int) ↔ (kd o L e (sk o L p) = 1 ∧ weq o ((WL j).getD i []) (sk o L p) (te o L (sk o L p)) = true) := by
  have h := fstW_at (o := o) (s := sk o L p) (t := te o L (sk o L p)) (WL_nd j hj) hi
  unfold qwd
  by_cases k : kd o L e (sk o L p) = 1
  · rw [if_pos k, h]
    exact ⟨fun z => ⟨k, z⟩, fun z => z.2⟩
  · rw [if_neg k]
    exact ⟨fun z => by omega, fun z => absurd z.1 k⟩
theorem qw_lt {o : Int → Int} {L p e : Int} {j : Nat} : -1 ≤ qwd o L j p e ∧ qwd o L j p e < (WL j).length := by
  unfold qwd
  split
  · rcases fstW_r (o := o) (s := sk o L p) (t := te o L (sk o L p)) (WL j) 0 (by decide) with z | z
    · omega
    · omega
  · omega
theorem misQ {d w j i : Nat} {o : Int → Int} {L v p e : Int} {σ : SG} {Q : Option AV → SG → Prop} (hw : WP w) (hj : j < 7) (hi : i < (WL j).length) (hwc : WC w = (WL j).getD i []) (hd : 2 ≤ d) (h : RTp o L (.inr (v, p, e)) σ) (h1 : qwd o L j p e = (i : Int) → ∀ σ', MFr σ σ' → RTp o L (.inr (v, p, e)) σ' → σ' 42 2 = sk o L p → Q (some (.inl 1)) σ') (h0 : qwd o L j p e ≠ (i : Int) → ∀ σ', MFr σ σ' → RTp o L (.inr (v, p, e)) σ' → σ' 42 2 = sk o L p → Q (some (.inl 0)) σ') : AW d mX9_isHere 0 [some (.inr (.inr 42)), some (.inr (.inr w)), none, none] [] σ Q := by
  refine misH hw hd h (fun S hM hR hS => ?_)
  rw [hwc]
  by_cases c : qwd o L j p e = (i : Int)
  · rw [if_pos ((qw_at hj hi).mp c)]
    exact h1 c S hM hR hS
  · rw [if_neg (fun z => c ((qw_at hj hi).mpr z))]
    exact h0 c S hM hR hS
theorem pxW_q {o : Int → Int} {L p e : Int} {w j i : Nat} (hj : j < 7) (hi : i < (WL j).length) (hwc : WC w = (WL j).getD i []) : pxW o L (WC w) p e = if qwd o L j p e = (i : Int) then .inr (0, te o L (sk o L p), te o L (sk o L p)) else .inl (1, sk o L p) := by
  unfold pxW
  rw [hwc]
  by_cases c : qwd o L j p e = (i : Int)
  · rw [if_pos ((qw_at hj hi).mp c), if_pos c]
  · rw [if_neg (fun z => c ((qw_at hj hi).mpr z)), if_neg c]
theorem mwh {d : Nat} {o : Int → Int} {L v p e : Int} {σ : SG} {Q : Option AV → SG → Prop} (hd : 3 ≤ d) (h : RTp o L (.inr (v, p, e)) σ) (hq : ∀ σ', MFr σ σ' → RTp o L (.inr (v, p, e)) σ' → σ' 42 2 = sk o L p → Q (some (.inl (if qwd o L 4 p e < 8 then qwd o L 4 p e else -1))) σ') : AW d mX9_qWordHere 0 [some (.inr (.inr 42))] [] σ Q := by
  have hl := (qw_lt (o := o) (L := L) (p := p) (e := e) (j := 4)).1
  refine vH_0 ⟨by omega, misQ (j := 4) (i := 0) (Or.inr (by decide)) (by decide) (by decide) rfl (by omega) h (fun c S0 hM0 hR0 hS0 => ?_) (fun c0 S0 hM0 hR0 hS0 => ?_)⟩
  · have hQ := hq S0 hM0 hR0 hS0
    rw [if_pos (by omega), show qwd o L 4 p e = 0 from c] at hQ
    exact vH_8 ⟨by decide, fun z => absurd z (by decide), fun _ => hQ⟩
  refine vH_8 ⟨by decide, fun _ => ⟨by omega, misQ (j := 4) (i := 1) (Or.inr (by decide)) (by decide) (by decide) rfl (by omega) hR0 (fun c S1 hM1 hR1 hS1 => ?_) (fun c1 S1 hM1 hR1 hS1 => ?_)⟩, fun z => absurd rfl z⟩
  · have hQ := hq S1 (hM0.tr hM1) hR1 hS1
    rw [if_pos (by omega), show qwd o L 4 p e = 1 from c] at hQ
    exact vH_21 ⟨by decide, fun z => absurd z (by decide), fun _ => hQ⟩
  refine vH_21 ⟨by decide, fun _ => ⟨by omega, misQ (j := 4) (i := 2) (Or.inr (by decide)) (by decide) (by decide) rfl (by omega) hR1 (fun c S2 hM2 hR2 hS2 => ?_) (fun c2 S2 hM2 hR2 hS2 => ?_)⟩, fun z => absurd rfl z⟩
  · have hQ := hq S2 ((hM0.tr hM1).tr hM2) hR2 hS2
    rw [if_pos (by omega), show qwd o L 4 p e = 2 from c] at hQ
    exact vH_34 ⟨by decide, fun z => absurd z (by decide), fun _ => hQ⟩
  refine vH_34 ⟨by decide, fun _ => ⟨by omega, misQ (j := 4) (i := 3) (Or.inr (by decide)) (by decide) (by decide) rfl (by omega) hR2 (fun c S3 hM3 hR3 hS3 => ?_) (fun c3 S3 hM3 hR3 hS3 => ?_)⟩, fun z => absurd rfl z⟩
  · have hQ := hq S3 (((hM0.tr hM1).tr hM2).tr hM3) hR3 hS3
    rw [if_pos (by omega), show qwd o L 4 p e = 3 from c] at hQ
    exact vH_47 ⟨by decide, fun z => absurd z (by decide), fun _ => hQ⟩
  refine vH_47 ⟨by decide, fun _ => ⟨by omega, misQ (j := 4) (i := 4) (Or.inr (by decide)) (by decide) (by decide) rfl (by omega) hR3 (fun c S4 hM4 hR4 hS4 => ?_) (fun c4 S4 hM4 hR4 hS4 => ?_)⟩, fun z => absurd rfl z⟩
  · have hQ := hq S4 ((((hM0.tr hM1).tr hM2).tr hM3).tr hM4) hR4 hS4
    rw [if_pos (by omega), show qwd o L 4 p e = 4 from c] at hQ
    exact vH_60 ⟨by decide, fun z => absurd z (by decide), fun _ => hQ⟩
  refine vH_60 ⟨by decide, fun _ => ⟨by omega, misQ (j := 4) (i := 5) (Or.inr (by decide)) (by decide) (by decide) rfl (by omega) hR4 (fun c S5 hM5 hR5 hS5 => ?_) (fun c5 S5 hM5 hR5 hS5 => ?_)⟩, fun z => absurd rfl z⟩
  · have hQ := hq S5 (((((hM0.tr hM1).tr hM2).tr hM3).tr hM4).tr hM5) hR5 hS5
    rw [if_pos (by omega), show qwd o L 4 p e = 5 from c] at hQ
    exact vH_73 ⟨by decide, fun z => absurd z (by decide), fun _ => hQ⟩
  refine vH_73 ⟨by decide, fun _ => ⟨by omega, misQ (j := 4) (i := 6) (Or.inr (by decide)) (by decide) (by decide) rfl (by omega) hR5 (fun c S6 hM6 hR6 hS6 => ?_) (fun c6 S6 hM6 hR6 hS6 => ?_)⟩, fun z => absurd rfl z⟩
  · have hQ := hq S6 ((((((hM0.tr hM1).tr hM2).tr hM3).tr hM4).tr hM5).tr hM6) hR6 hS6
    rw [if_pos (by omega), show qwd o L 4 p e = 6 from c] at hQ
    exact vH_86 ⟨by decide, fun z => absurd z (by decide), fun _ => hQ⟩
  refine vH_86 ⟨by decide, fun _ => ⟨by omega, misQ (j := 4) (i := 7) (Or.inr (by decide)) (by decide) (by decide) rfl (by omega) hR6 (fun c S7 hM7 hR7 hS7 => ?_) (fun c7 S7 hM7 hR7 hS7 => ?_)⟩, fun z => absurd rfl z⟩
  · have hQ := hq S7 (((((((hM0.tr hM1).tr hM2).tr hM3).tr hM4).tr hM5).tr hM6).tr hM7) hR7 hS7
    rw [if_pos (by omega), show qwd o L 4 p e = 7 from c] at hQ
    exact vH_100 ⟨by decide, fun z => absurd z (by decide), fun _ => hQ⟩
  have hQ := hq S7 (((((((hM0.tr hM1).tr hM2).tr hM3).tr hM4).tr hM5).tr hM6).tr hM7) hR7 hS7
  have hv : (if qwd o L 4 p e < 8 then qwd o L 4 p e else -1) = -1 := by
    split
    · omega
    · rfl
  rw [hv] at hQ
  exact vH_100 ⟨by decide, fun _ => hQ, fun z => absurd rfl z⟩
def wfV (w f t : Int) : Int := if f ≤ w ∧ w < t then w else -1
theorem mwo {d : Nat} {o : Int → Int} {L v p e f t : Int} {σ : SG} {Q : Option AV → SG → Prop} (hd : 4 ≤ d) (hf : 0 ≤ f ∧ f ≤ 8) (ht : 0 ≤ t ∧ t ≤ 8) (h : RTp o L (.inr (v, p, e)) σ) (hq : ∀ σ', MFr σ σ' → RTp o L (.inr (v, p, e)) σ' → σ' 42 2 = sk o L p → Q (some (.inl (wfV (qwd o L 4 p e) f t))) σ') : AW d mX9_qWordOf 0 [some (.inr (.inr 42)), some (.inl f), some (.inl t), none] [] σ Q := by
  have hl := (qw_lt (o := o) (L := L) (p := p) (e := e) (j := 4)).1
  refine vF_0 ⟨by omega, mwh (by omega) h (fun S hM hR hS => ?_)⟩
  have hQ := hq S hM hR hS
  unfold wfV at hQ
  by_cases c : qwd o L 4 p e < 8
  · rw [if_pos c]
    refine vF_4 ⟨by omega, fun z => ?_, fun z => ⟨by omega, fun y => ?_, fun y => ?_⟩⟩
    · rwa [if_neg (by omega)] at hQ
    · rwa [if_neg (by omega)] at hQ
    · rwa [if_pos ⟨z, y⟩] at hQ
  · rw [if_neg c]
    rw [if_neg (by omega)] at hQ
    exact vF_4 ⟨by omega, fun z => hQ, fun z => by omega⟩
theorem mqaw {d k : Nat} {o : Int → Int} {L : Int} {X : PXv} {σ : SG} {Q : Option AV → SG → Prop} (hd : 5 ≤ d) (hk : k < 8) (h : RTp o L X σ) (hq : ∀ σ', MFr σ σ' → RTp o L (pxb X (pxW o L (WC (88 + k)))) σ' → Q none σ') : AW d mX9_qAsksWord 0 [some (.inr (.inr 42)), some (.inl (k : Int))] [] σ Q := by
  have hc : k = 0 ∨ k = 1 ∨ k = 2 ∨ k = 3 ∨ k = 4 ∨ k = 5 ∨ k = 6 ∨ k = 7 := by omega
  rcases hc with c | c | c | c | c | c | c | c <;> subst c
  · exact vA_0 ⟨by decide, ⟨fun _ => ⟨by omega, masksW (Or.inr (by decide)) (by omega) h (fun S hM hR => vA_52 (hq S hM hR))⟩, ⟨fun z => absurd z (by decide), ⟨fun z => absurd z (by decide), ⟨fun z => absurd z (by decide), ⟨fun z => absurd z (by decide), ⟨fun z => absurd z (by decide), ⟨fun z => absurd z (by decide), True.intro⟩⟩⟩⟩⟩⟩⟩, fun z => absurd z (by decide)⟩
  · exact vA_0 ⟨by decide, ⟨fun z => absurd z (by decide), ⟨fun _ => ⟨by omega, masksW (Or.inr (by decide)) (by omega) h (fun S hM hR => vA_63 (hq S hM hR))⟩, ⟨fun z => absurd z (by decide), ⟨fun z => absurd z (by decide), ⟨fun z => absurd z (by decide), ⟨fun z => absurd z (by decide), ⟨fun z => absurd z (by decide), True.intro⟩⟩⟩⟩⟩⟩⟩, fun z => absurd z (by decide)⟩
  · exact vA_0 ⟨by decide, ⟨fun z => absurd z (by decide), ⟨fun z => absurd z (by decide), ⟨fun _ => ⟨by omega, masksW (Or.inr (by decide)) (by omega) h (fun S hM hR => vA_74 (hq S hM hR))⟩, ⟨fun z => absurd z (by decide), ⟨fun z => absurd z (by decide), ⟨fun z => absurd z (by decide), ⟨fun z => absurd z (by decide), True.intro⟩⟩⟩⟩⟩⟩⟩, fun z => absurd z (by decide)⟩
  · exact vA_0 ⟨by decide, ⟨fun z => absurd z (by decide), ⟨fun z => absurd z (by decide), ⟨fun z => absurd z (by decide), ⟨fun _ => ⟨by omega, masksW (Or.inr (by decide)) (by omega) h (fun S hM hR => vA_85 (hq S hM hR))⟩, ⟨fun z => absurd z (by decide), ⟨fun z => absurd z (by decide), ⟨fun z => absurd z (by decide), True.intro⟩⟩⟩⟩⟩⟩⟩, fun z => absurd z (by decide)⟩
  · exact vA_0 ⟨by decide, ⟨fun z => absurd z (by decide), ⟨fun z => absurd z (by decide), ⟨fun z => absurd z (by decide), ⟨fun z => absurd z (by decide), ⟨fun _ => ⟨by omega, masksW (Or.inr (by decide)) (by omega) h (fun S hM hR => vA_96 (hq S hM hR))⟩, ⟨fun z => absurd z (by decide), ⟨fun z => absurd z (by decide), True.intro⟩⟩⟩⟩⟩⟩⟩, fun z => absurd z (by decide)⟩
  · exact vA_0 ⟨by decide, ⟨fun z => absurd z (by decide), ⟨fun z => absurd z (by decide), ⟨fun z => absurd z (by decide), ⟨fun z => absurd z (by decide), ⟨fun z => absurd z (by decide), ⟨fun _ => ⟨by omega, masksW (Or.inr (by decide)) (by omega) h (fun S hM hR => vA_107 (hq S hM hR))⟩, ⟨fun z => absurd z (by decide), True.intro⟩⟩⟩⟩⟩⟩⟩, fun z => absurd z (by decide)⟩
  · exact vA_0 ⟨by decide, ⟨fun z => absurd z (by decide), ⟨fun z => absurd z (by decide), ⟨fun z => absurd z (by decide), ⟨fun z => absurd z (by decide), ⟨fun z => absurd z (by decide), ⟨fun z => absurd z (by decide), ⟨fun _ => ⟨by omega, masksW (Or.inr (by decide)) (by omega) h (fun S hM hR => vA_118 (hq S hM hR))⟩, True.intro⟩⟩⟩⟩⟩⟩⟩, fun z => absurd z (by decide)⟩
  · exact vA_0 ⟨by decide, ⟨fun z => absurd z (by decide), ⟨fun z => absurd z (by decide), ⟨fun z => absurd z (by decide), ⟨fun z => absurd z (by decide), ⟨fun z => absurd z (by decide), ⟨fun z => absurd z (by decide), ⟨fun z => absurd z (by decide), True.intro⟩⟩⟩⟩⟩⟩⟩, fun _ => ⟨by omega, masksW (Or.inr (by decide)) (by omega) h (fun S hM hR => vA_129 (hq S hM hR))⟩⟩
/-- something opens -/
theorem mopens {d : Nat} {o : Int → Int} {L v p e w0 pl op : Int} {C s : List Int} {bs : Nat} {σ : SG} {Q : Option AV → SG → Prop} (hd : 1 ≤ d) (hw : 0 ≤ w0 ∧ w0 ≤ 100) (hop : 0 ≤ op ∧ op ≤ 6) (h : RTp o L (.inr (v, p, e)) σ) (hqs : RQs C s op bs σ) (hl : C.length + (s.length + 1) ≤ 1600) (h1 : op < 6 → ∀ σ', MQf σ σ' → RTp o L (.inr (v, p, e)) σ' → σ' 42 2 = σ 42 2 → RQs C (w0 :: s) (op + 1) bs σ' → Q none σ') (h2 : 6 ≤ op → ∀ σ', MQf σ σ' → RTp o L (.inl (4, pl)) σ' → Q none σ') : AW d mX9_qOpens 0 [some (.inr (.inr 42)), some (.inl w0), some (.inl pl)] [] σ Q := by
  have h5 := rt0 h
  have e74 := hqs.2.2.1
  have e73 := hqs.2.1.1
  refine vO_0 ?_
  rw [e74]
  refine ⟨by omega, fun _ => ⟨by omega, fun c S eS => ?_, fun c => ⟨by omega, by omega, fun _ S eS U eU => ?_, fun z => absurd h5 z⟩⟩, fun z => absurd h5 z⟩
  · have hq1 : RQs C s (op + 1) bs S := by
      obtain ⟨⟨a1, a2⟩, ⟨b1, b2⟩, c', e', f'⟩ := hqs
      refine ⟨⟨?_, fun i hi => ?_⟩, ⟨?_, ?_⟩, ?_, ?_, f'⟩
      · rw [eS, up_i (by decide)]
        exact a1
      · rw [eS, up_p (by decide)]
        exact a2 i hi
      · rw [eS, up_i (by decide)]
        exact b1
      · rw [eS, up_pf (by decide)]
        exact b2
      · rw [eS, up_at]
      · rw [eS, up_i (by decide)]
        exact e'
    have hR1 : RTp o L (.inr (v, p, e)) S := by rw [eS]; exact h.p6 (fun i a b => up_i (by omega)) (fun p a b c => up_pf a)
    have hM1 : MQf σ S := by rw [eS]; exact mqf_up (by omega)
    obtain ⟨q1, q2, q3⟩ := rq_push (x := w0) hq1 hw hl
    have s73 : S 42 73 = (s.length : Int) := hq1.2.1.1
    refine ⟨by omega, fun U eU V eV => ?_⟩
    rw [eV, eU]
    refine h1 (by omega) _ (hM1.tr q2) (q3 hR1) ?_ q1
    rw [up_i (by decide), up_p (by decide), eS, up_i (by decide)]
  · have hf := mfail (k := 4) (pl := pl) h (by decide)
    rw [eU, eS]
    exact h2 (by omega) _ (MQf.of hf.2) hf.1
theorem EAs_len {G : List Int → List Int → Int → Prop} {bs : Nat} {m : Int} : ∀ (s' C' : List Int) (op' : Int), ((C'.length + s'.length : Nat) : Int) ≤ m → EAs G bs C' s' op' → EAs (fun C' s' op' => G C' s' op' ∧ ((C'.length + s'.length : Nat) : Int) ≤ m) bs C' s' op' := by
  intro s'
  induction s' with
  | nil => intro C' op' hb h; exact ⟨h, hb⟩
  | cons x s' ih =>
    intro C' op' hb h
    have h : if 60 ≤ x ∧ bs ≤ s'.length then EAs G bs (C' ++ [x]) s' (op' - 1) else G C' (x :: s') op' := h
    show if 60 ≤ x ∧ bs ≤ s'.length then _ else _
    by_cases c : 60 ≤ x ∧ bs ≤ s'.length
    · rw [if_pos c] at h ⊢
      refine ih (C' ++ [x]) (op' - 1) ?_ h
      rw [List.length_append, List.length_cons, List.length_nil]
      rw [List.length_cons] at hb
      omega
    · rw [if_neg c] at h ⊢
      exact ⟨h, hb⟩
/-- from the head of qPartTold to the words -/
theorem pl_head {o : Int → Int} {L : Int} {d : Nat} {l1 : Int} {bs : Nat} {σ0 : SG} {Q : Option AV → SG → Prop} {p e op : Int} {C s : List Int} (hd : 12 ≤ d) (hq : ∀ (σ : SG) (v : Int), MQf σ0 σ → RTp o L (.inr (v, p, e)) σ → RQs C s op bs σ → ((C.length + s.length : Nat) : Int) ≤ p → σ 42 2 = sk o L p → AW (d - 1) mX9_qPartTold 25 [some (.inr (.inr 42)), some (.inl 1), some (.inl (lkV o L (sk o L p))), none, none, none] [.inl (wfV (qwd o L 4 p e) 5 8)] σ (fun rr σ' => AW d mX9_qSums 30 [some (.inr (.inr 42)), some (.inl l1), some (.inl 1)] (rtS rr []) σ' Q)) : PLs o L d l1 bs σ0 Q p e C s op := by
  intro σ v hM hR hqs hl
  have h5 := rt0 hR
  refine vP_2 ⟨by decide, fun z => absurd z (by decide), fun _ => ⟨by omega, fun z => absurd h5 z, fun _ => ⟨by omega, mlook hR (fun S _ hMS hRS hS => ?_)⟩⟩⟩
  refine vP_17 ⟨by omega, mwo (by omega) (by decide) (by decide) hRS (fun T hMT hRT hT => ?_)⟩
  exact hq T v ((hM.tr (MQf.of hMS)).tr (MQf.of hMT)) hRT ((hqs.mf hMS).mf hMT) hl hT
/-- nothing opens: no bracket, no min, no max -/
theorem pl_word {o : Int → Int} {L : Int} {d : Nat} {l1 : Int} {bs : Nat} {σ0 : SG} {Q : Option AV → SG → Prop} {p e op : Int} {C s : List Int} (hd : 12 ≤ d) (h40 : qsg o L p e ≠ 40) (h8 : qwd o L 4 p e < 8) (hq : ∀ (σ : SG) (v : Int), MQf σ0 σ → RTp o L (.inr (v, p, e)) σ → RQs C s op bs σ → ((C.length + s.length : Nat) : Int) ≤ p → σ 42 2 = sk o L p → AW (d - 1) mX9_qPartTold 74 [some (.inr (.inr 42)), some (.inl 1), some (.inl (lkV o L (sk o L p))), some (.inl (wfV (qwd o L 4 p e) 5 8)), none, none] [.inl 0] σ (fun rr σ' => AW d mX9_qSums 30 [some (.inr (.inr 42)), some (.inl l1), some (.inl 1)] (rtS rr []) σ' Q)) : PLs o L d l1 bs σ0 Q p e C s op := by
  refine pl_head hd (fun S v hM hR hqs hl hS => ?_)
  have hL0 := hR.f.1.2.2.1
  have ho := hR.f.1.2.2.2.1
  have hp0 := hR.f.2.2.2.1
  have hp1 := hR.f.2.2.1
  have ht := tok (o := o) (L := L) e hp0 (by omega)
  have hlr := lkV_r (o := o) (L := L) (s := sk o L p) ho (by omega) hL0.2
  have n40 : lkV o L (sk o L p) ≠ 40 := fun z => h40 ((lk_sg (by decide) (by decide)).mp z)
  refine vP_25 ⟨by omega, fun _ => ⟨by omega, misQ (j := 4) (i := 8) (Or.inr (by decide)) (by decide) (by decide) rfl (by omega) hR (fun c => by omega) (fun _ T hMT hRT hT => ?_)⟩, fun z => absurd z n40⟩
  refine vP_63 ⟨by decide, fun z => absurd rfl z, fun _ => ⟨by omega, misQ (j := 4) (i := 9) (Or.inr (by decide)) (by decide) (by decide) rfl (by omega) hRT (fun c => by omega) (fun _ U hMU hRU hU => ?_)⟩⟩
  exact hq U v ((hM.tr (MQf.of hMT)).tr (MQf.of hMU)) hRU ((hqs.mf hMT).mf hMU) hl hU
/-- purse, stands, reach -/
theorem pl_of {o : Int → Int} {L : Int} {d : Nat} {l1 : Int} {bs : Nat} {σ0 : SG} {Q : Option AV → SG → Prop} {p e op : Int} {C s : List Int} (hd : 12 ≤ d) (hop : 0 ≤ op ∧ op ≤ 6) (hw : 5 ≤ qwd o L 4 p e ∧ qwd o L 4 p e ≤ 7) (h4 : 6 ≤ op → BDs o L l1 σ0 Q (4, sk o L p)) (hG : op < 6 → PLs o L d l1 bs σ0 Q (te o L (sk o L p)) (te o L (sk o L p)) C ((55 + qwd o L 4 p e) :: s) (op + 1)) : PLs o L d l1 bs σ0 Q p e C s op := by
  have k1 := qwd_t (o := o) (L := L) (p := p) (e := e) (i := 4) (by omega)
  have h40 : qsg o L p e ≠ 40 := by
    unfold qsg
    rw [k1, if_neg (by decide)]
    decide
  refine pl_word hd h40 (by omega) (fun S v hM hR hqs hl hS => ?_)
  have hL0 := hR.f.1.2.2.1
  have hp0 := hR.f.2.2.2.1
  have hp1 := hR.f.2.2.1
  have ht := tok (o := o) (L := L) e hp0 (by omega)
  have hnl := (name_lt hp0 (by omega) k1).1
  have ev : wfV (qwd o L 4 p e) 5 8 = qwd o L 4 p e := if_pos ⟨by omega, by omega⟩
  rw [ev]
  obtain ⟨k, hk⟩ : ∃ k : Nat, qwd o L 4 p e = (k : Int) := ⟨(qwd o L 4 p e).toNat, by omega⟩
  refine vP_74 ⟨by decide, fun _ => ⟨by omega, fun z => by omega, fun _ => ⟨by omega, ?_⟩⟩, fun z => absurd rfl z⟩
  rw [hS, show 60 + qwd o L 4 p e - 5 = 55 + qwd o L 4 p e by omega]
  refine mopens (by omega) (by omega) hop hR hqs (by omega) (fun c T hMT hRT hT hqT => ?_) (fun c T hMT hRT => ?_)
  · rw [hk] at hqT ⊢
    refine vP_171 ⟨by omega, mqaw (by omega) (by omega) hRT (fun U hMU hRU => ?_)⟩
    change RTp o L (pxW o L (WC (88 + k)) p e) U at hRU
    have hk8 : k < 8 := by omega
    have hwc : WC (88 + k) = (WL 4).getD k [] := by
      have hc : k = 0 ∨ k = 1 ∨ k = 2 ∨ k = 3 ∨ k = 4 ∨ k = 5 ∨ k = 6 ∨ k = 7 := by omega
      rcases hc with c | c | c | c | c | c | c | c <;> subst c <;> rfl
    rw [pxW_q (j := 4) (i := k) (by decide) (by show k < 10; omega) hwc, if_pos hk] at hRU
    refine vP_176 ?_
    have hG := hG c
    rw [hk] at hG
    refine hG U 0 ((hM.tr hMT).tr (MQf.of hMU)) hRU (hqT.mf hMU) ?_
    rw [List.length_cons]
    omega
  · rw [hk]
    refine vP_171 ⟨by omega, mqaw (by omega) (by omega) hRT (fun U hMU hRU => ?_)⟩
    exact vP_176 (pt_bad hd (h4 c) (Or.inr rfl) ((hM.tr hMT).tr (MQf.of hMU)) hRU)
/-- a bracket opens -/
theorem pl_open {o : Int → Int} {L : Int} {d : Nat} {l1 : Int} {bs : Nat} {σ0 : SG} {Q : Option AV → SG → Prop} {p e op : Int} {C s : List Int} (hd : 12 ≤ d) (hop : 0 ≤ op ∧ op ≤ 6) (h40 : qsg o L p e = 40) (h4 : 6 ≤ op → BDs o L l1 σ0 Q (4, sk o L p)) (hG : op < 6 → PLs o L d l1 bs σ0 Q (sk o L p + 1) (-1) C (20 :: s) (op + 1)) : PLs o L d l1 bs σ0 Q p e C s op := by
  refine pl_head hd (fun S v hM hR hqs hl hS => ?_)
  have hL0 := hR.f.1.2.2.1
  have hp0 := hR.f.2.2.2.1
  have hp1 := hR.f.2.2.1
  have ht := tok (o := o) (L := L) e hp0 (by omega)
  have hsl := ht.2.2.2.1 (qsg_t h40 (by decide)).1
  have hlk : lkV o L (sk o L p) = 40 := (lk_sg (by decide) (by decide)).mpr h40
  rw [hlk]
  refine vP_25 ⟨by decide, fun z => absurd rfl z, fun _ => ⟨by omega, ?_⟩⟩
  rw [hS]
  refine mopens (by omega) (by decide) hop hR hqs (by omega) (fun c T hMT hRT hT hqT => ?_) (fun c T hMT hRT => ?_)
  · refine vP_42 (fun U eU => ?_)
    rw [hT, hS] at eU
    have hMU : MFr T U := by rw [eU]; exact (MFr.rf T).up (by omega)
    have hRU : RTp o L (.inr (0, sk o L p + 1, -1)) U := by
      obtain ⟨_, ⟨g5, g6⟩, _, _, he0, he⟩ := hRT.f
      have y2 : U 42 2 = sk o L p + 1 := by rw [eU, up_at]
      have y4 : U 42 4 = T 42 4 := by rw [eU, up_i (by decide)]
      refine RTp.mk (hRT.b hMU.1 (hMU.2 3 (by decide) (by decide) (by decide) (by decide) (by decide) (by decide))) ⟨?_, ?_⟩ ⟨by omega, by omega, by rw [y2]⟩ (by omega) (by omega) ?_
      · rw [eU, up_i (by decide)]
        exact g5
      · rw [eU, up_i (by decide)]
        exact g6
      · intro s hs
        rw [y4]
        exact ⟨fun z => by omega, fun z => by omega⟩
    refine hG c U 0 ((hM.tr hMT).tr (MQf.of hMU)) hRU (hqT.mf hMU) ?_
    rw [List.length_cons]
    omega
  · refine vP_42 (fun U eU => ?_)
    have hMU : MFr T U := by rw [eU]; exact (MFr.rf T).up (by omega)
    have hRU : RTp o L (.inl (4, sk o L p)) U := by
      refine ⟨hRT.b hMU.1 (hMU.2 3 (by decide) (by decide) (by decide) (by decide) (by decide) (by decide)), ?_⟩
      show U 42 5 = 4 ∧ U 42 6 = sk o L p ∧ _
      rw [eU, up_i (by decide), up_i (by decide)]
      exact hRT.2
    exact pt_bad hd (h4 c) (Or.inr rfl) ((hM.tr hMT).tr (MQf.of hMU)) hRU
/-- min and max: the bracket behind the word -/
theorem pl_br {o : Int → Int} {L : Int} {d : Nat} {l1 : Int} {bs : Nat} {σ0 : SG} {Q : Option AV → SG → Prop} {p e op l2 l3 : Int} {C s : List Int} {m : Int} (hd : 12 ≤ d) (hop : 0 ≤ op ∧ op ≤ 6) (hm : m = 0 ∨ m = 1) (h1 : qsg o L p e ≠ 40 → BDs o L l1 σ0 Q (1, sk o L p)) (h4 : qsg o L p e = 40 → 6 ≤ op → BDs o L l1 σ0 Q (4, sk o L p)) (hG : qsg o L p e = 40 → op < 6 → PLs o L d l1 bs σ0 Q (sk o L p + 1) (-1) C ((22 - m) :: s) (op + 1)) {σ : SG} {v : Int} (hM : MQf σ0 σ) (hR : RTp o L (.inr (v, p, e)) σ) (hqs : RQs C s op bs σ) (hl : ((C.length + s.length : Nat) : Int) ≤ p) : AW (d - 1 - 1) mX9_look 0 [some (.inr (.inr 42))] [] σ (fun rr σ' => AW (d - 1) mX9_qPartTold 104 [some (.inr (.inr 42)), some (.inl 1), some (.inl l2), some (.inl l3), some (.inl m), none] (rtS rr []) σ' (fun rr σ' => AW d mX9_qSums 30 [some (.inr (.inr 42)), some (.inl l1), some (.inl 1)] (rtS rr []) σ' Q)) := by
  have hL0 := hR.f.1.2.2.1
  have ho := hR.f.1.2.2.2.1
  have hp0 := hR.f.2.2.2.1
  have hp1 := hR.f.2.2.1
  have ht := tok (o := o) (L := L) e hp0 (by omega)
  have hlr := lkV_r (o := o) (L := L) (s := sk o L p) ho (by omega) hL0.2
  refine mlook hR (fun S _ hMS hRS hS => ?_)
  have hM2 := hM.tr (MQf.of hMS)
  have hq2 := hqs.mf hMS
  have e2 := lk_sg (o := o) (L := L) (p := p) (e := e) (c := 40) (by decide) (by decide)
  refine vP_104 ⟨by omega, fun c => ⟨by omega, ?_⟩, fun c => ⟨by omega, fun z => by omega, fun _ => ⟨by omega, fun cm => ⟨by omega, ?_⟩, fun cm => ⟨by omega, ?_⟩⟩⟩⟩
  · have n40 : qsg o L p e ≠ 40 := fun z => c (e2.mpr z)
    refine masksS (by decide) (by decide) (by omega) hRS (fun T hMT hRT => vP_149 ?_)
    change RTp o L (pxS o L 40 p e) T at hRT
    rw [pxS_q (by decide), if_neg n40] at hRT
    exact pt_bad hd (h1 n40) (Or.inr rfl) (hM2.tr (MQf.of hMT)) hRT
  · have h40 := e2.mp c
    have hsl := ht.2.2.2.1 (qsg_t h40 (by decide)).1
    have hm1 : m = 0 := by omega
    rw [hS]
    refine mopens (by omega) (by decide) hop hRS hq2 (by omega) (fun co T hMT hRT hT hqT => ?_) (fun co T hMT hRT => ?_)
    · refine vP_143 ⟨by omega, masksS (by decide) (by decide) (by omega) hRT (fun U hMU hRU => vP_149 ?_)⟩
      change RTp o L (pxS o L 40 p e) U at hRU
      rw [pxS_q (by decide), if_pos h40] at hRU
      have hG := hG h40 co
      rw [show 22 - m = 22 by omega] at hG
      refine hG U 0 ((hM2.tr hMT).tr (MQf.of hMU)) hRU (hqT.mf hMU) ?_
      rw [List.length_cons]
      omega
    · refine vP_143 ⟨by omega, masksS (by decide) (by decide) (by omega) hRT (fun U hMU hRU => vP_149 ?_)⟩
      exact pt_bad hd (h4 h40 co) (Or.inr rfl) ((hM2.tr hMT).tr (MQf.of hMU)) hRU
  · have h40 := e2.mp c
    have hsl := ht.2.2.2.1 (qsg_t h40 (by decide)).1
    have hm1 : m = 1 := by omega
    rw [hS]
    refine mopens (by omega) (by decide) hop hRS hq2 (by omega) (fun co T hMT hRT hT hqT => ?_) (fun co T hMT hRT => ?_)
    · refine vP_143 ⟨by omega, masksS (by decide) (by decide) (by omega) hRT (fun U hMU hRU => vP_149 ?_)⟩
      change RTp o L (pxS o L 40 p e) U at hRU
      rw [pxS_q (by decide), if_pos h40] at hRU
      have hG := hG h40 co
      rw [show 22 - m = 21 by omega] at hG
      refine hG U 0 ((hM2.tr hMT).tr (MQf.of hMU)) hRU (hqT.mf hMU) ?_
      rw [List.length_cons]
      omega
    · refine vP_143 ⟨by omega, masksS (by decide) (by decide) (by omega) hRT (fun U hMU hRU => vP_149 ?_)⟩
      exact pt_bad hd (h4 h40 co) (Or.inr rfl) ((hM2.tr hMT).tr (MQf.of hMU)) hRU
theorem pl_mm {o : Int → Int} {L : Int} {d : Nat} {l1 : Int} {bs : Nat} {σ0 : SG} {Q : Option AV → SG → Prop} {p e op : Int} {C s : List Int} (hd : 12 ≤ d) (hop : 0 ≤ op ∧ op ≤ 6) (hw : qwd o L 4 p e = 8 ∨ qwd o L 4 p e = 9) (h1 : qsg o L (te o L (sk o L p)) (te o L (sk o L p)) ≠ 40 → BDs o L l1 σ0 Q (1, sk o L (te o L (sk o L p)))) (h4 : qsg o L (te o L (sk o L p)) (te o L (sk o L p)) = 40 → 6 ≤ op → BDs o L l1 σ0 Q (4, sk o L (te o L (sk o L p)))) (hG : qsg o L (te o L (sk o L p)) (te o L (sk o L p)) = 40 → op < 6 → PLs o L d l1 bs σ0 Q (sk o L (te o L (sk o L p)) + 1) (-1) C ((qwd o L 4 p e + 13) :: s) (op + 1)) : PLs o L d l1 bs σ0 Q p e C s op := by
  have k1 := qwd_t (o := o) (L := L) (p := p) (e := e) (i := 4) (by omega)
  have h40 : qsg o L p e ≠ 40 := by
    unfold qsg
    rw [k1, if_neg (by decide)]
    decide
  refine pl_head hd (fun S v hM hR hqs hl hS => ?_)
  have hL0 := hR.f.1.2.2.1
  have ho := hR.f.1.2.2.2.1
  have hp0 := hR.f.2.2.2.1
  have hp1 := hR.f.2.2.1
  have ht := tok (o := o) (L := L) e hp0 (by omega)
  have hnl := (name_lt hp0 (by omega) k1).1
  have hlr := lkV_r (o := o) (L := L) (s := sk o L p) ho (by omega) hL0.2
  have n40 : lkV o L (sk o L p) ≠ 40 := fun z => h40 ((lk_sg (by decide) (by decide)).mp z)
  have w86 : pxW o L (WC 86) p e = if qwd o L 4 p e = (8 : Nat) then .inr (0, te o L (sk o L p), te o L (sk o L p)) else .inl (1, sk o L p) := pxW_q (j := 4) (i := 8) (by decide) (by decide) rfl
  have w87 : pxW o L (WC 87) p e = if qwd o L 4 p e = (9 : Nat) then .inr (0, te o L (sk o L p), te o L (sk o L p)) else .inl (1, sk o L p) := pxW_q (j := 4) (i := 9) (by decide) (by decide) rfl
  -- behind the questions: min is taken, or max is asked
  have go : ∀ (T : SG), MQf σ0 T → RTp o L (.inr (v, p, e)) T → RQs C s op bs T → AW (d - 1 - 1) mX9_takes 0 [some (.inr (.inr 42)), some (.inr (.inr 86))] [] T (fun rr σ' => AW (d - 1) mX9_qPartTold 85 [some (.inr (.inr 42)), some (.inl 1), some (.inl (lkV o L (sk o L p))), some (.inl (wfV (qwd o L 4 p e) 5 8)), none, none] (rtS rr []) σ' (fun rr σ' => AW d mX9_qSums 30 [some (.inr (.inr 42)), some (.inl l1), some (.inl 1)] (rtS rr []) σ' Q)) := by
    intro T hMT hRT hqT
    refine mtakesW (Or.inr (by decide)) (by omega) hRT (fun U z hz hMU hRU => ?_) (fun U hz hMU hRU hU => ?_)
    · rw [w86] at hz
      by_cases c : qwd o L 4 p e = (8 : Nat)
      · rw [if_pos c] at hz
        cases hz
        refine vP_85 ⟨by decide, fun _ => ⟨by omega, ?_⟩, fun z => absurd z (by decide)⟩
        exact pl_br hd hop (Or.inr rfl) h1 h4 (fun a b => by have := hG a b; rw [show qwd o L 4 p e + 13 = 22 - 1 by omega] at this; exact this) (hMT.tr (MQf.of hMU)) hRU (hqT.mf hMU) (by omega)
      · rw [if_neg c] at hz
        cases hz
    · rw [w86] at hz
      by_cases c : qwd o L 4 p e = (8 : Nat)
      · rw [if_pos c] at hz
        cases hz
      · have c9 : qwd o L 4 p e = (9 : Nat) := by omega
        refine vP_85 ⟨by decide, fun z => absurd rfl z, fun _ => ⟨by omega, masksW (Or.inr (by decide)) (by omega) hRU (fun V hMV hRV => ?_)⟩⟩
        change RTp o L (pxW o L (WC 87) p e) V at hRV
        rw [w87, if_pos c9] at hRV
        refine vP_100 ⟨by omega, ?_⟩
        exact pl_br hd hop (Or.inl rfl) h1 h4 (fun a b => by have := hG a b; rw [show qwd o L 4 p e + 13 = 22 - 0 by omega] at this; exact this) ((hMT.tr (MQf.of hMU)).tr (MQf.of hMV)) hRV ((hqT.mf hMU).mf hMV) (by omega)
  have hwf : -1 ≤ wfV (qwd o L 4 p e) 5 8 ∧ wfV (qwd o L 4 p e) 5 8 ≤ 8 := by
    unfold wfV
    split <;> omega
  refine vP_25 ⟨by omega, fun _ => ⟨by omega, misQ (j := 4) (i := 8) (Or.inr (by decide)) (by decide) (by decide) rfl (by omega) hR (fun c T hMT hRT hT => ?_) (fun c T hMT hRT hT => ?_)⟩, fun z => absurd z n40⟩
  · exact vP_63 ⟨by decide, fun _ => ⟨by omega, go T (hM.tr (MQf.of hMT)) hRT (hqs.mf hMT)⟩, fun z => absurd z (by decide)⟩
  · refine vP_63 ⟨by decide, fun z => absurd rfl z, fun _ => ⟨by omega, misQ (j := 4) (i := 9) (Or.inr (by decide)) (by decide) (by decide) rfl (by omega) hRT (fun c U hMU hRU hU => ?_) (fun c => by omega)⟩⟩
    exact vP_74 ⟨by decide, fun z => absurd z (by decide), fun _ => ⟨by omega, go U ((hM.tr (MQf.of hMT)).tr (MQf.of hMU)) hRU ((hqs.mf hMT).mf hMU)⟩⟩
/-- what ends a part -/
theorem pl_done {o : Int → Int} {L : Int} {d : Nat} {l1 : Int} {bs : Nat} {σ0 : SG} {Q : Option AV → SG → Prop} {p e op v l2 l3 : Int} {C s : List Int} (hd : 12 ≤ d) (hbs : bs ≤ 1600) (hE : EAs (GAs o L d l1 bs σ0 Q p e) bs C s op) {σ : SG} (hM : MQf σ0 σ) (hR : RTp o L (.inr (v, p, e)) σ) (hqs : RQs C s op bs σ) (hl : ((C.length + s.length : Nat) : Int) ≤ p) : AW (d - 1 - 1) mX9_qEndsPart 0 [some (.inr (.inr 42))] [] σ (fun rr σ' => AW (d - 1) mX9_qPartTold 241 [some (.inr (.inr 42)), some (.inl l2), some (.inl l3), none, none, none] (rtS rr []) σ' (fun rr σ' => AW d mX9_qSums 30 [some (.inr (.inr 42)), some (.inl l1), some (.inl 1)] (rtS rr []) σ' Q)) :=
  mends2 (G := fun C' s' op' => GAs o L d l1 bs σ0 Q p e C' s' op' ∧ ((C'.length + s'.length : Nat) : Int) ≤ p) (by omega) hbs (fun C' s' op' hg S hMS hRS hqS => vP_241 (kp_good hd hg.1 hMS hRS hqS hg.2)) s C op σ (EAs_len s C op hl hE) hM hR hqs
/-- a figure's word -/
theorem pl_fig {o : Int → Int} {L : Int} {d : Nat} {l1 : Int} {bs : Nat} {σ0 : SG} {Q : Option AV → SG → Prop} {p e op : Int} {C s : List Int} (hd : 12 ≤ d) (hbs : bs ≤ 1600) (hw : 0 ≤ qwd o L 4 p e ∧ qwd o L 4 p e ≤ 4) (hE : EAs (GAs o L d l1 bs σ0 Q (te o L (sk o L p)) (te o L (sk o L p))) bs (C ++ [40 + qwd o L 4 p e]) s op) : PLs o L d l1 bs σ0 Q p e C s op := by
  have k1 := qwd_t (o := o) (L := L) (p := p) (e := e) (i := 4) (by omega)
  have h40 : qsg o L p e ≠ 40 := by
    unfold qsg
    rw [k1, if_neg (by decide)]
    decide
  refine pl_word hd h40 (by omega) (fun S v hM hR hqs hl hS => ?_)
  have h5 := rt0 hR
  have hL0 := hR.f.1.2.2.1
  have hp0 := hR.f.2.2.2.1
  have hp1 := hR.f.2.2.1
  have ht := tok (o := o) (L := L) e hp0 (by omega)
  have hnl := (name_lt hp0 (by omega) k1).1
  have ev : wfV (qwd o L 4 p e) 5 8 = -1 := if_neg (by omega)
  have ev2 : wfV (qwd o L 4 p e) 0 5 = qwd o L 4 p e := if_pos ⟨by omega, by omega⟩
  rw [ev]
  obtain ⟨k, hk⟩ : ∃ k : Nat, qwd o L 4 p e = (k : Int) := ⟨(qwd o L 4 p e).toNat, by omega⟩
  refine vP_74 ⟨by decide, fun _ => ⟨by decide, fun _ => ?_, fun z => absurd rfl z⟩, fun z => absurd rfl z⟩
  refine vP_2 ⟨by decide, fun _ => ⟨by omega, fun _ => ⟨by omega, mwo (by omega) (by decide) (by decide) hR (fun T hMT hRT hT => ?_)⟩, fun z => absurd h5 z⟩, fun z => absurd rfl z⟩
  rw [ev2]
  rw [hk] at hE ⊢
  refine vP_198 ⟨by omega, fun z => by omega, fun _ => ⟨by omega, mqaw (by omega) (by omega) hRT (fun U hMU hRU => ?_)⟩⟩
  change RTp o L (pxW o L (WC (88 + k)) p e) U at hRU
  have hwc : WC (88 + k) = (WL 4).getD k [] := by
    have hc : k = 0 ∨ k = 1 ∨ k = 2 ∨ k = 3 ∨ k = 4 := by omega
    rcases hc with c | c | c | c | c <;> subst c <;> rfl
  rw [pxW_q (j := 4) (i := k) (by decide) (by show k < 10; omega) hwc, if_pos hk] at hRU
  have hqU := (hqs.mf hMT).mf hMU
  obtain ⟨q1, q2, q3, q4⟩ := rq_cd (v := 40 + (k : Int)) hqU (by omega)
  refine vP_209 ⟨by omega, fun z => by omega, fun _ => ⟨by omega, q3, fun V eV => ⟨by omega, ?_⟩⟩⟩
  rw [eV]
  refine pl_done hd hbs hE ((((hM.tr (MQf.of hMT)).tr (MQf.of hMU))).tr q2) (q4 hRU) q1 ?_
  rw [List.length_append, List.length_cons, List.length_nil]
  omega
/-- a number, or nothing that begins a part -/
theorem pl_num {o : Int → Int} {L : Int} {d : Nat} {l1 : Int} {bs : Nat} {σ0 : SG} {Q : Option AV → SG → Prop} {p e op : Int} {C s : List Int} (hd : 12 ≤ d) (hbs : bs ≤ 1600) (h40 : qsg o L p e ≠ 40) (hw : qwd o L 4 p e = -1) (h0 : ∀ z, pxN o L 0 9999 p e = .inl z → BDs o L l1 σ0 Q z) (h1 : ∀ z, pxN o L 0 9999 p e = .inr z → (p < z.2.1) ∧ EAs (GAs o L d l1 bs σ0 Q z.2.1 z.2.2) bs (C ++ [1000 + z.1]) s op) : PLs o L d l1 bs σ0 Q p e C s op := by
  refine pl_word hd h40 (by omega) (fun S v hM hR hqs hl hS => ?_)
  have h5 := rt0 hR
  have hL0 := hR.f.1.2.2.1
  have hp0 := hR.f.2.2.2.1
  have hp1 := hR.f.2.2.1
  have ht := tok (o := o) (L := L) e hp0 (by omega)
  have ev : wfV (qwd o L 4 p e) 5 8 = -1 := if_neg (by omega)
  have ev2 : wfV (qwd o L 4 p e) 0 5 = -1 := if_neg (by omega)
  rw [ev]
  refine vP_74 ⟨by decide, fun _ => ⟨by decide, fun _ => ?_, fun z => absurd rfl z⟩, fun z => absurd rfl z⟩
  refine vP_2 ⟨by decide, fun _ => ⟨by omega, fun _ => ⟨by omega, mwo (by omega) (by decide) (by decide) hR (fun T hMT hRT hT => ?_)⟩, fun z => absurd h5 z⟩, fun z => absurd rfl z⟩
  rw [ev2]
  refine vP_198 ⟨by decide, fun _ => ⟨by decide, fun _ => ⟨by omega, mnumW (by decide) (by decide) (by omega) hRT (fun U v2 hMU hRU hv2 hv3 => ?_)⟩, fun z => absurd rfl z⟩, fun z => absurd rfl z⟩
  change RTp o L (pxN o L 0 9999 p e) U at hRU
  have hqU := (hqs.mf hMT).mf hMU
  have hMM := (hM.tr (MQf.of hMT)).tr (MQf.of hMU)
  have hv3 := hv3 (v, p, e)
  rcases hX : pxN o L 0 9999 p e with z | ⟨zv, zp, ze⟩
  · rw [hX] at hRU
    have hb := h0 z hX
    have hlt : ((C.length + s.length : Nat) : Int) + 1 ≤ 1601 := by omega
    obtain ⟨⟨a1, a2⟩, b, c', e', f'⟩ := hqU
    obtain ⟨m1, m2, m3⟩ := cdS_f U (1000 + v2) (by omega)
    refine vP_233 ⟨by omega, by unfold cdO; omega, fun V eV => ⟨by omega, ?_⟩⟩
    have hRV : RTp o L (.inl z) V := by rw [eV]; exact hRU.p6 m2 m3
    have hMV : MQf σ0 V := by rw [eV]; exact hMM.tr m1
    have h5V := rt1 hRV
    exact vE_0 ⟨by omega, fun _ => vP_241 (kp_bad hd hb hMV hRV), fun z => by omega⟩
  · rw [hX] at hRU
    obtain ⟨lt, hE⟩ := h1 _ hX
    have hz : v2 = zv := (hv3 _ rfl hX).1
    have lt : p < zp := lt
    have hE : EAs (GAs o L d l1 bs σ0 Q zp ze) bs (C ++ [1000 + zv]) s op := hE
    rw [← hz] at hE
    have hlt := hRU.f.2.2.1
    obtain ⟨q1, q2, q3, q4⟩ := rq_cd (v := 1000 + v2) hqU (by omega)
    refine vP_233 ⟨by omega, q3, fun V eV => ⟨by omega, ?_⟩⟩
    rw [eV]
    refine pl_done (v := zv) hd hbs hE (hMM.tr q2) (q4 hRU) q1 ?_
    rw [List.length_append, List.length_cons, List.length_nil]
    omega
