/-! ===== sums read by the reference: by fuel (wip/whole/9h.py) ===== -/
def M34 (P : List Int) : Prop := ∀ x ∈ P, x = 3 ∨ x = 4
def M14 (P : List Int) : Prop := ∀ x ∈ P, 1 ≤ x ∧ x ≤ 4
def HD34 (s : List Int) : Prop := s.head? ≠ some 3 ∧ s.head? ≠ some 4
def HD14 (s : List Int) : Prop := s.head? ≠ some 1 ∧ s.head? ≠ some 2 ∧ s.head? ≠ some 3 ∧ s.head? ≠ some 4
def ESt (bs : Nat) (s : List Int) : Prop := ∀ x t, s = x :: t → ¬ (60 ≤ x ∧ bs ≤ t.length)
def NMs (o : Int → Int) (L p e : Int) : Prop := qsg o L p e ≠ 42 ∧ qsg o L p e ≠ 47
def NSs (o : Int → Int) (L p e : Int) : Prop := qsg o L p e ≠ 42 ∧ qsg o L p e ≠ 47 ∧ qsg o L p e ≠ 43 ∧ qsg o L p e ≠ 45
theorem M34.m {P : List Int} (h : M34 P) : M14 P := fun x hx => by rcases h x hx with z | z <;> omega
theorem M14.o {P : List Int} (h : M14 P) : Ops P := fun x hx => by have := h x hx; omega
theorem HD14.m {s : List Int} (h : HD14 s) : HD34 s := ⟨h.2.2.1, h.2.2.2⟩
theorem hd_c {x : Int} {s : List Int} (h : x < 1 ∨ 4 < x) : HD14 (x :: s) := ⟨fun z => by have := Option.some.inj z; omega, fun z => by have := Option.some.inj z; omega, fun z => by have := Option.some.inj z; omega, fun z => by have := Option.some.inj z; omega⟩
theorem hd_c3 {x : Int} {s : List Int} (h : x < 3) : HD34 (x :: s) := ⟨fun z => by have := Option.some.inj z; omega, fun z => by have := Option.some.inj z; omega⟩
theorem es_c {bs : Nat} {x : Int} {s : List Int} (h : x < 60) : ESt bs (x :: s) := fun y t e => by
  have := (List.cons.inj e).1
  omega
theorem EAs_stop {G : List Int → List Int → Int → Prop} {bs : Nat} {C s : List Int} {op : Int} (h : ESt bs s) (hG : G C s op) : EAs G bs C s op := by
  cases s with
  | nil => exact hG
  | cons x t =>
    show if 60 ≤ x ∧ bs ≤ t.length then _ else _
    rw [if_neg (h x t rfl)]
    exact hG
def RS0 (o : Int → Int) (L : Int) (d : Nat) (l1 : Int) (bs : Nat) (σ0 : SG) (Q : Option AV → SG → Prop) (n : Nat) : Prop := ∀ (op p e : Int) (C s : List Int), 10 * (L - p) + 1 ≤ (n : Int) → 0 ≤ p → p ≤ L → (0 ≤ op ∧ op ≤ 6) → bs ≤ s.length → (∀ z, qx o L n 0 op p e = .inl z → BDs o L l1 σ0 Q z) → (∀ c p' e', qx o L n 0 op p e = .inr (c, p', e') → EAs (GAs o L d l1 bs σ0 Q p' e') bs (C ++ c) s op) → PLs o L d l1 bs σ0 Q p e C s op
def RS1 (o : Int → Int) (L : Int) (d : Nat) (l1 : Int) (bs : Nat) (σ0 : SG) (Q : Option AV → SG → Prop) (n : Nat) : Prop := ∀ (op p e : Int) (C s : List Int), 10 * (L - p) + 2 ≤ (n : Int) → 0 ≤ p → p ≤ L → (0 ≤ op ∧ op ≤ 6) → bs ≤ s.length → HD34 s → ESt bs s → (∀ z, qx o L n 1 op p e = .inl z → BDs o L l1 σ0 Q z) → (∀ c p' e', qx o L n 1 op p e = .inr (c, p', e') → ∀ C2 P2 : List Int, M34 P2 → C2 ++ P2 = C ++ c → NMs o L p' e' → GAs o L d l1 bs σ0 Q p' e' C2 (P2 ++ s) op) → PLs o L d l1 bs σ0 Q p e C s op
def RS3 (o : Int → Int) (L : Int) (d : Nat) (l1 : Int) (bs : Nat) (σ0 : SG) (Q : Option AV → SG → Prop) (n : Nat) : Prop := ∀ (op p e : Int) (C P s : List Int), 10 * (L - p) + 8 ≤ (n : Int) → 0 ≤ p → p ≤ L → (0 ≤ op ∧ op ≤ 6) → bs ≤ s.length → M34 P → HD34 s → (∀ z, qx o L n 3 op p e = .inl z → BDs o L l1 σ0 Q z) → (∀ c p' e', qx o L n 3 op p e = .inr (c, p', e') → ∀ C2 P2 : List Int, M34 P2 → C2 ++ P2 = C ++ P ++ c → NMs o L p' e' → GAs o L d l1 bs σ0 Q p' e' C2 (P2 ++ s) op) → GAs o L d l1 bs σ0 Q p e C (P ++ s) op
def RS2 (o : Int → Int) (L : Int) (d : Nat) (l1 : Int) (bs : Nat) (σ0 : SG) (Q : Option AV → SG → Prop) (n : Nat) : Prop := ∀ (op p e : Int) (C s : List Int), 10 * (L - p) + 3 ≤ (n : Int) → 0 ≤ p → p ≤ L → (0 ≤ op ∧ op ≤ 6) → bs ≤ s.length → HD14 s → ESt bs s → (∀ z, qx o L n 2 op p e = .inl z → BDs o L l1 σ0 Q z) → (∀ c p' e', qx o L n 2 op p e = .inr (c, p', e') → ∀ C2 P2 : List Int, M14 P2 → C2 ++ P2 = C ++ c → NSs o L p' e' → GAs o L d l1 bs σ0 Q p' e' C2 (P2 ++ s) op) → PLs o L d l1 bs σ0 Q p e C s op
def RS4 (o : Int → Int) (L : Int) (d : Nat) (l1 : Int) (bs : Nat) (σ0 : SG) (Q : Option AV → SG → Prop) (n : Nat) : Prop := ∀ (op p e : Int) (C P s : List Int), 10 * (L - p) + 8 ≤ (n : Int) → 0 ≤ p → p ≤ L → (0 ≤ op ∧ op ≤ 6) → bs ≤ s.length → M14 P → HD14 s → NMs o L p e → (∀ z, qx o L n 4 op p e = .inl z → BDs o L l1 σ0 Q z) → (∀ c p' e', qx o L n 4 op p e = .inr (c, p', e') → ∀ C2 P2 : List Int, M14 P2 → C2 ++ P2 = C ++ P ++ c → NSs o L p' e' → GAs o L d l1 bs σ0 Q p' e' C2 (P2 ++ s) op) → GAs o L d l1 bs σ0 Q p e C (P ++ s) op
theorem rs1 {o : Int → Int} {L : Int} {d : Nat} {l1 : Int} {bs : Nat} {σ0 : SG} {Q : Option AV → SG → Prop} {n : Nat} (i0 : RS0 o L d l1 bs σ0 Q n) (i3 : RS3 o L d l1 bs σ0 Q n) : RS1 o L d l1 bs σ0 Q (n + 1) := by
  intro op p e C s hn h0 h1 ho hb hh he bad good
  have bad : ∀ z, qxC (qx o L n) 0 3 op p e = .inl z → _ := bad
  have good : ∀ c p' e', qxC (qx o L n) 0 3 op p e = .inr (c, p', e') → _ := good
  unfold qxC at bad good
  refine i0 op p e C s (by omega) h0 h1 ho hb (fun z hz => bad z (by rw [hz]; rfl)) (fun c p1 e1 hX => EAs_stop he ?_)
  have q := qx_r n _ _ _ _ _ h0 h1 hX
  unfold QOk at q
  dsimp only at q
  rw [hX] at bad good
  have bad : ∀ z, qbd (qx o L n 3 op p1 e1) (fun c2 p2 e2 => .inr (c ++ c2, p2, e2)) = .inl z → _ := bad
  have good : ∀ c' p' e', qbd (qx o L n 3 op p1 e1) (fun c2 p2 e2 => .inr (c ++ c2, p2, e2)) = .inr (c', p', e') → _ := good
  refine i3 op p1 e1 (C ++ c) [] s (by omega) (by omega) (by omega) ho hb (fun x hx => by cases hx) hh (fun z hz => bad z (by rw [hz]; rfl)) (fun c2 p2 e2 hY C2 P2 hP hc hn => good (c ++ c2) p2 e2 (by rw [hY]; rfl) C2 P2 hP ?_ hn)
  rw [hc, List.append_nil, List.append_assoc]
theorem rs2 {o : Int → Int} {L : Int} {d : Nat} {l1 : Int} {bs : Nat} {σ0 : SG} {Q : Option AV → SG → Prop} {n : Nat} (i1 : RS1 o L d l1 bs σ0 Q n) (i4 : RS4 o L d l1 bs σ0 Q n) : RS2 o L d l1 bs σ0 Q (n + 1) := by
  intro op p e C s hn h0 h1 ho hb hh he bad good
  have bad : ∀ z, qxC (qx o L n) 1 4 op p e = .inl z → _ := bad
  have good : ∀ c p' e', qxC (qx o L n) 1 4 op p e = .inr (c, p', e') → _ := good
  unfold qxC at bad good
  refine i1 op p e C s (by omega) h0 h1 ho hb hh.m he (fun z hz => bad z (by rw [hz]; rfl)) (fun c p1 e1 hX C2 P2 hP hc hm => ?_)
  have q := qx_r n _ _ _ _ _ h0 h1 hX
  unfold QOk at q
  dsimp only at q
  rw [hX] at bad good
  have bad : ∀ z, qbd (qx o L n 4 op p1 e1) (fun c2 p2 e2 => .inr (c ++ c2, p2, e2)) = .inl z → _ := bad
  have good : ∀ c' p' e', qbd (qx o L n 4 op p1 e1) (fun c2 p2 e2 => .inr (c ++ c2, p2, e2)) = .inr (c', p', e') → _ := good
  refine i4 op p1 e1 C2 P2 s (by omega) (by omega) (by omega) ho hb hP.m hh hm (fun z hz => bad z (by rw [hz]; rfl)) (fun c2 p2 e2 hY C3 P3 hP3 hc3 hn => good (c ++ c2) p2 e2 (by rw [hY]; rfl) C3 P3 hP3 ?_ hn)
  rw [hc3, hc, List.append_assoc]
theorem rs3 {o : Int → Int} {L : Int} {d : Nat} {l1 : Int} {bs : Nat} {σ0 : SG} {Q : Option AV → SG → Prop} {n : Nat} (hd : 12 ≤ d) (hbs : bs ≤ 1600) (i0 : RS0 o L d l1 bs σ0 Q n) (i3 : RS3 o L d l1 bs σ0 Q n) : RS3 o L d l1 bs σ0 Q (n + 1) := by
  intro op p e C P s hn h0 h1 ho hb hP hh bad good
  have bad : ∀ z, qxR o L (qx o L n) 42 47 3 4 0 3 op p e = .inl z → _ := bad
  have good : ∀ c p' e', qxR o L (qx o L n) 42 47 3 4 0 3 op p e = .inr (c, p', e') → _ := good
  unfold qxR at bad good
  have ht := tok (o := o) (L := L) e h0 h1
  by_cases hx : qsg o L p e = 42 ∨ qsg o L p e = 47
  · have hsl : sk o L p < L := by
      rcases hx with z | z <;> exact (ht.2.2.2.1 (qsg_t z (by decide)).1).1
    rw [if_pos hx] at bad good
    generalize hm : (if qsg o L p e = 42 then (3 : Int) else 4) = m at bad good
    have hm34 : m = 3 ∨ m = 4 := by
      rw [← hm]
      split
      · exact Or.inl rfl
      · exact Or.inr rfl
    refine ga_mul hd hbs hx hP hh ?_
    rw [hm]
    refine i0 op (sk o L p + 1) (-1) (C ++ P) (m :: s) (by omega) (by omega) (by omega) ho (by rw [List.length_cons]; omega) (fun z hz => bad z (by rw [hz]; rfl)) (fun c p1 e1 hX => EAs_stop (es_c (by omega)) ?_)
    have q := qx_r n _ _ _ _ _ (by omega) (by omega) hX
    unfold QOk at q
    dsimp only at q
    rw [hX] at bad good
    have bad : ∀ z, qbd (qx o L n 3 op p1 e1) (fun c2 p2 e2 => .inr (c ++ m :: c2, p2, e2)) = .inl z → _ := bad
    have good : ∀ c' p' e', qbd (qx o L n 3 op p1 e1) (fun c2 p2 e2 => .inr (c ++ m :: c2, p2, e2)) = .inr (c', p', e') → _ := good
    refine i3 op p1 e1 (C ++ P ++ c) [m] s (by omega) (by omega) (by omega) ho hb (fun x hx => by rw [List.mem_singleton] at hx; omega) hh (fun z hz => bad z (by rw [hz]; rfl)) (fun c2 p2 e2 hY C2 P2 hP hc hn => good (c ++ m :: c2) p2 e2 (by rw [hY]; rfl) C2 P2 hP ?_ hn)
    rw [hc]
    simp only [List.append_assoc, List.cons_append, List.nil_append]
  · rw [if_neg hx] at good
    exact good [] p e rfl C P hP (by rw [List.append_nil]) ⟨fun z => hx (Or.inl z), fun z => hx (Or.inr z)⟩
theorem rs4 {o : Int → Int} {L : Int} {d : Nat} {l1 : Int} {bs : Nat} {σ0 : SG} {Q : Option AV → SG → Prop} {n : Nat} (hd : 12 ≤ d) (hbs : bs ≤ 1600) (i1 : RS1 o L d l1 bs σ0 Q n) (i4 : RS4 o L d l1 bs σ0 Q n) : RS4 o L d l1 bs σ0 Q (n + 1) := by
  intro op p e C P s hn h0 h1 ho hb hP hh hnm bad good
  have bad : ∀ z, qxR o L (qx o L n) 43 45 1 2 1 4 op p e = .inl z → _ := bad
  have good : ∀ c p' e', qxR o L (qx o L n) 43 45 1 2 1 4 op p e = .inr (c, p', e') → _ := good
  unfold qxR at bad good
  have ht := tok (o := o) (L := L) e h0 h1
  by_cases hx : qsg o L p e = 43 ∨ qsg o L p e = 45
  · have hsl : sk o L p < L := by
      rcases hx with z | z <;> exact (ht.2.2.2.1 (qsg_t z (by decide)).1).1
    rw [if_pos hx] at bad good
    generalize hm : (if qsg o L p e = 43 then (1 : Int) else 2) = m at bad good
    have hm12 : m = 1 ∨ m = 2 := by
      rw [← hm]
      split
      · exact Or.inl rfl
      · exact Or.inr rfl
    refine ga_add hd hbs hx hP hh ?_
    rw [hm]
    refine i1 op (sk o L p + 1) (-1) (C ++ P) (m :: s) (by omega) (by omega) (by omega) ho (by rw [List.length_cons]; omega) (hd_c3 (by omega)) (es_c (by omega)) (fun z hz => bad z (by rw [hz]; rfl)) (fun c p1 e1 hX C2 P2 hP2 hc hm2 => ?_)
    have q := qx_r n _ _ _ _ _ (by omega) (by omega) hX
    unfold QOk at q
    dsimp only at q
    rw [hX] at bad good
    have bad : ∀ z, qbd (qx o L n 4 op p1 e1) (fun c2 p2 e2 => .inr (c ++ m :: c2, p2, e2)) = .inl z → _ := bad
    have good : ∀ c' p' e', qbd (qx o L n 4 op p1 e1) (fun c2 p2 e2 => .inr (c ++ m :: c2, p2, e2)) = .inr (c', p', e') → _ := good
    rw [show P2 ++ m :: s = (P2 ++ [m]) ++ s by rw [List.append_assoc]; rfl]
    refine i4 op p1 e1 C2 (P2 ++ [m]) s (by omega) (by omega) (by omega) ho hb (fun x hx => ?_) hh hm2 (fun z hz => bad z (by rw [hz]; rfl)) (fun c2 p2 e2 hY C3 P3 hP3 hc3 hn => good (c ++ m :: c2) p2 e2 (by rw [hY]; rfl) C3 P3 hP3 ?_ hn)
    · rw [List.mem_append, List.mem_singleton] at hx
      rcases hx with z | z
      · exact hP2.m x z
      · omega
    · rw [hc3, ← List.append_assoc C2 P2 [m], hc]
      simp only [List.append_assoc, List.cons_append, List.nil_append]
  · rw [if_neg hx] at good
    exact good [] p e rfl C P hP (by rw [List.append_nil]) ⟨hnm.1, hnm.2, fun z => hx (Or.inl z), fun z => hx (Or.inr z)⟩
theorem qcl_b {o : Int → Int} {L c : Int} {X : QXv} {z : Int × Int} (h : X = .inl z) : qcl o L c X = .inl z := by
  rw [h]
  rfl
theorem qcl_g {o : Int → Int} {L c : Int} {X : QXv} {k : List Int} {p e : Int} (hc : c ≠ -1) (h : X = .inr (k, p, e)) : qcl o L c X = if qsg o L p e = c then .inr (k, sk o L p + 1, -1) else .inl (1, sk o L p) := by
  rw [h]
  show (match pxS o L c p e with
  | .inl z => (.inl z : QXv)
  | .inr z => .inr (k, z.2.1, z.2.2)) = _
  rw [pxS_q hc]
  by_cases z : qsg o L p e = c
  · rw [if_pos z, if_pos z]
  · rw [if_neg z, if_neg z]
theorem pxN_k {o : Int → Int} {L lo hi p e : Int} (h : kd o L e (sk o L p) ≠ 2) : pxN o L lo hi p e = .inl (1, sk o L p) := by
  unfold pxN
  rw [if_neg h]
theorem rs0 {o : Int → Int} {L : Int} {d : Nat} {l1 : Int} {bs : Nat} {σ0 : SG} {Q : Option AV → SG → Prop} {n : Nat} (hd : 12 ≤ d) (hbs : bs ≤ 1600) (i0 : RS0 o L d l1 bs σ0 Q n) (i2 : RS2 o L d l1 bs σ0 Q n) : RS0 o L d l1 bs σ0 Q (n + 1) := by
  intro op p e C s hn h0 h1 ho hb bad good
  have bad : ∀ z, qxP o L (qx o L n) op p e = .inl z → _ := bad
  have good : ∀ c p' e', qxP o L (qx o L n) op p e = .inr (c, p', e') → _ := good
  unfold qxP at bad good
  have ht := tok (o := o) (L := L) e h0 h1
  have hwl := qw_lt (o := o) (L := L) (p := p) (e := e) (j := 4)
  have hwl2 : ((WL 4).length : Int) = 10 := rfl
  rw [hwl2] at hwl
  by_cases k2 : kd o L e (sk o L p) = 2
  · rw [if_pos k2] at bad good
    have n40 : qsg o L p e ≠ 40 := by
      unfold qsg
      rw [k2, if_neg (by decide)]
      decide
    have nw : qwd o L 4 p e = -1 := by
      unfold qwd
      rw [k2, if_neg (by decide)]
    refine pl_num hd hbs n40 nw (fun z hz => bad z (by rw [hz])) (fun z hz => ⟨?_, good _ _ _ (by rw [hz])⟩)
    have hlt : sk o L p < te o L (sk o L p) := by
      obtain ⟨a, b, c⟩ := ht.2.2.2.2.2.1 k2
      have := (rn_all (P := dgB o) (L := L) (p := sk o L p + 1)).1
      rw [c, rn_y a b]
      omega
    have e1 : z.2.1 = te o L (sk o L p) := by
      unfold pxN at hz
      rw [if_pos k2] at hz
      split at hz
      · split at hz
        · cases hz
          rfl
        · cases hz
      · cases hz
    rw [e1]
    omega
  · rw [if_neg k2] at bad good
    by_cases h40 : qsg o L p e = 40
    · rw [if_pos h40] at bad good
      have hsl := (ht.2.2.2.1 (qsg_t h40 (by decide)).1).1
      refine pl_open hd ho h40 (fun c => bad _ (by rw [if_pos c])) (fun c => ?_)
      rw [if_neg (by omega)] at bad good
      refine i2 (op + 1) (sk o L p + 1) (-1) C (20 :: s) (by omega) (by omega) (by omega) (by omega) (by rw [List.length_cons]; omega) (hd_c (by omega)) (es_c (by omega)) (fun z hz => bad z (qcl_b hz)) (fun c p1 e1 hX C2 P2 hP hc hm => ?_)
      have hq := qcl_g (o := o) (L := L) (c := 41) (by decide) hX
      by_cases h41 : qsg o L p1 e1 = 41
      · rw [if_pos h41] at hq
        have hE := good _ _ _ hq
        refine ga_close hd hbs h41 hP.o (Or.inl rfl) hb ?_
        rw [show clC 20 = [] from rfl, List.append_nil, hc, show op + 1 - 1 = op by omega]
        exact hE
      · rw [if_neg h41] at hq
        exact ga_fail hd hbs hm h41 hP.o (Or.inl rfl) hb (bad _ hq)
    · rw [if_neg h40] at bad good
      by_cases w0 : qwd o L 4 p e = -1
      · rw [if_pos w0] at bad
        exact pl_num hd hbs h40 w0 (fun z hz => by rw [pxN_k k2] at hz; cases hz; exact bad _ rfl) (fun z hz => by rw [pxN_k k2] at hz; cases hz)
      · rw [if_neg w0] at bad good
        have hwt := name_lt h0 h1 (qwd_t w0)
        by_cases w4 : qwd o L 4 p e ≤ 4
        · rw [if_pos w4] at good
          exact pl_fig hd hbs (by omega) (good _ _ _ rfl)
        · rw [if_neg w4] at bad good
          by_cases w7 : qwd o L 4 p e ≤ 7
          · rw [if_pos w7] at bad good
            refine pl_of hd ho (by omega) (fun c => bad _ (by rw [if_pos c])) (fun c => ?_)
            rw [if_neg (by omega)] at bad good
            refine i0 (op + 1) _ _ C _ (by omega) (by omega) (by omega) (by omega) (by rw [List.length_cons]; omega) (fun z hz => bad z (by rw [hz]; rfl)) (fun c p1 e1 hX => ?_)
            have hE := good _ _ _ (by rw [hX]; rfl)
            show if 60 ≤ 55 + qwd o L 4 p e ∧ bs ≤ s.length then _ else _
            rw [if_pos ⟨by omega, hb⟩, List.append_assoc, show op + 1 - 1 = op by omega]
            exact hE
          · rw [if_neg w7] at bad good
            unfold qxA at bad good
            have ht2 := tok (o := o) (L := L) (te o L (sk o L p)) (show 0 ≤ te o L (sk o L p) by omega) (by omega)
            refine pl_mm hd ho (by omega) (fun c => bad _ (by rw [if_neg c]; rfl)) (fun c c6 => bad _ (by rw [if_pos c, if_pos c6]; rfl)) (fun c c6 => ?_)
            rw [if_pos c, if_neg (by omega)] at bad good
            have hsl := (ht2.2.2.2.1 (qsg_t c (by decide)).1).1
            generalize hb1 : qwd o L 4 p e = w at *
            refine i2 (op + 1) _ (-1) C ((w + 13) :: s) (by omega) (by omega) (by omega) (by omega) (by rw [List.length_cons]; omega) (hd_c (by omega)) (es_c (by omega)) (fun z hz => bad z (by rw [hz]; rfl)) (fun c1 p1 e1 hX C2 P2 hP hc hm => ?_)
            have q := qx_r n _ _ _ _ _ (by omega) (by omega) hX
            unfold QOk at q
            dsimp only at q
            rw [hX] at bad good
            have ht3 := tok (o := o) (L := L) e1 (show 0 ≤ p1 by omega) (by omega)
            have e44 := pxS_q (o := o) (L := L) (c := 44) (p := p1) (e := e1) (by decide)
            refine ga_comma hd hbs hm hP.o (by omega) hb (fun c44 => bad _ ?_) (fun c44 => ?_)
            · show qbd (match pxS o L 44 p1 e1 with
              | .inl z => (.inl z : QXv)
              | .inr z => _) _ = _
              rw [e44, if_neg c44]
              rfl
            · rw [if_pos c44] at e44
              have hsl2 := (ht3.2.2.2.1 (qsg_t c44 (by decide)).1).1
              rw [hc, show w + 13 + 2 = w + 15 by omega]
              refine i2 (op + 1) _ (-1) (C ++ c1) ((w + 15) :: s) (by omega) (by omega) (by omega) (by omega) (by rw [List.length_cons]; omega) (hd_c (by omega)) (es_c (by omega)) (fun z hz => bad z ?_) (fun c2 p2 e2 hY C3 P3 hP3 hc3 hm3 => ?_)
              · show qbd (match pxS o L 44 p1 e1 with
                | .inl z => (.inl z : QXv)
                | .inr z => qcl o L 41 (qbd (qx o L n 2 (op + 1) z.2.1 z.2.2) (fun c2 p2 e2 => .inr (c1 ++ c2, p2, e2)))) _ = _
                rw [e44]
                show qbd (qcl o L 41 (qbd (qx o L n 2 (op + 1) (sk o L p1 + 1) (-1)) (fun c2 p2 e2 => .inr (c1 ++ c2, p2, e2)))) _ = _
                rw [hz]
                rfl
              · have hq := qcl_g (o := o) (L := L) (c := 41) (X := qbd (qx o L n 2 (op + 1) (sk o L p1 + 1) (-1)) (fun c2 p2 e2 => .inr (c1 ++ c2, p2, e2))) (k := c1 ++ c2) (p := p2) (e := e2) (by decide) (by rw [hY]; rfl)
                by_cases h41 : qsg o L p2 e2 = 41
                · rw [if_pos h41] at hq
                  have hE := good (c1 ++ c2 ++ [w - 3]) (sk o L p2 + 1) (-1) (by
                    show qbd (match pxS o L 44 p1 e1 with
                    | .inl z => (.inl z : QXv)
                    | .inr z => qcl o L 41 (qbd (qx o L n 2 (op + 1) z.2.1 z.2.2) (fun c2 p2 e2 => .inr (c1 ++ c2, p2, e2)))) _ = _
                    rw [e44]
                    show qbd (qcl o L 41 (qbd (qx o L n 2 (op + 1) (sk o L p1 + 1) (-1)) (fun c2 p2 e2 => .inr (c1 ++ c2, p2, e2)))) _ = _
                    rw [hq]
                    rfl)
                  refine ga_close hd hbs h41 hP3.o (by omega) hb ?_
                  have hcl : clC (w + 15) = [w - 3] := by
                    have hw89 : w = 8 ∨ w = 9 := by omega
                    rcases hw89 with z | z <;> rw [z] <;> rfl
                  rw [hcl, hc3, show op + 1 - 1 = op by omega, List.append_assoc, List.append_assoc]
                  rw [List.append_assoc] at hE
                  exact hE
                · rw [if_neg h41] at hq
                  refine ga_fail hd hbs hm3 h41 hP3.o (by omega) hb (bad _ ?_)
                  show qbd (match pxS o L 44 p1 e1 with
                    | .inl z => (.inl z : QXv)
                    | .inr z => qcl o L 41 (qbd (qx o L n 2 (op + 1) z.2.1 z.2.2) (fun c2 p2 e2 => .inr (c1 ++ c2, p2, e2)))) _ = _
                  rw [e44]
                  show qbd (qcl o L 41 (qbd (qx o L n 2 (op + 1) (sk o L p1 + 1) (-1)) (fun c2 p2 e2 => .inr (c1 ++ c2, p2, e2)))) _ = _
                  rw [hq]
                  rfl
theorem rsAll {o : Int → Int} {L : Int} {d : Nat} {l1 : Int} {bs : Nat} {σ0 : SG} {Q : Option AV → SG → Prop} (hd : 12 ≤ d) (hbs : bs ≤ 1600) : ∀ n, RS0 o L d l1 bs σ0 Q n ∧ RS1 o L d l1 bs σ0 Q n ∧ RS2 o L d l1 bs σ0 Q n ∧ RS3 o L d l1 bs σ0 Q n ∧ RS4 o L d l1 bs σ0 Q n := by
  intro n
  induction n with
  | zero => exact ⟨fun _ _ _ _ _ hn _ _ => by omega, fun _ _ _ _ _ hn _ _ => by omega, fun _ _ _ _ _ hn _ _ => by omega, fun _ _ _ _ _ _ hn _ _ => by omega, fun _ _ _ _ _ _ hn _ _ => by omega⟩
  | succ n ih =>
    obtain ⟨i0, i1, i2, i3, i4⟩ := ih
    exact ⟨rs0 hd hbs i0 i2, rs1 i0 i3, rs2 i1 i4, rs3 hd hbs i0 i3, rs4 hd hbs i1 i4⟩
/-- a sum, read by the reference -/
theorem msum {o : Int → Int} {L v p e op : Int} {d n : Nat} {C s : List Int} {bs0 : Nat} {σ : SG} {Q : Option AV → SG → Prop} (hd : 12 ≤ d) (hn : 10 * (L - p) + 3 ≤ (n : Int)) (ho : 0 ≤ op ∧ op ≤ 6) (hh : HD14 s) (hR : RTp o L (.inr (v, p, e)) σ) (hq : RQs C s op bs0 σ) (hl : ((C.length + s.length : Nat) : Int) ≤ p) (hb : ∀ z σ', qx o L n 2 op p e = .inl z → MQf σ σ' → RTp o L (.inl z) σ' → Q none σ') (hg : ∀ c p' e' v' σ', qx o L n 2 op p e = .inr (c, p', e') → NSs o L p' e' → MQf σ σ' → RTp o L (.inr (v', p', e')) σ' → RQs (C ++ c) s op bs0 σ' → Q none σ') : AW d mX9_qSums 0 [some (.inr (.inr 42)), none, none] [] σ Q := by
  refine vS_0 (fun S eS => ?_)
  have hp0 := hR.f.2.2.2.1
  have hp1 := hR.f.2.2.1
  have hL0 := hR.f.1.2.2.1
  obtain ⟨⟨a1, a2⟩, ⟨b1, b2⟩, c', e', f'⟩ := hq
  have hMS : MQf σ S := by rw [eS]; exact mqf_up (by omega)
  have hRS : RTp o L (.inr (v, p, e)) S := by
    rw [eS]
    exact hR.p6 (fun i a b => up_i (by omega)) (fun p a b c => up_pf a)
  have hqS : RQs C s op s.length S := by
    refine ⟨⟨?_, fun i hi => ?_⟩, ⟨?_, ?_⟩, ?_, ?_, f'⟩
    · rw [eS, up_i (by decide)]
      exact a1
    · rw [eS, up_p (by decide)]
      exact a2 i hi
    · rw [eS, up_i (by decide)]
      exact b1
    · rw [eS, up_pf (by decide)]
      exact b2
    · rw [eS, up_i (by decide)]
      exact c'
    · rw [eS, up_at]
      exact b1
  rw [e']
  have hbk : ∀ (σ' : SG) (X : PXv), MQf σ σ' → RTp o L X σ' → MQf σ (up σ' 42 75 (bs0 : Int)) ∧ RTp o L X (up σ' 42 75 (bs0 : Int)) := fun σ' X hM hR => ⟨hM.tr (mqf_up (by omega)), hR.p6 (fun i a b => up_i (by omega)) (fun p a b c => up_pf a)⟩
  have hmain := (rsAll (o := o) (L := L) (d := d) (l1 := (bs0 : Int)) (bs := s.length) (σ0 := σ) (Q := Q) hd (by omega) n).2.2.1
  refine pa_good hd (hmain op p e C s hn hp0 (by omega) ho (Nat.le_refl _) hh (fun x t ht => by rw [ht, List.length_cons]; omega) ?_ ?_) hMS hRS hqS hl
  · intro z hz σ' hM' hR'
    obtain ⟨m1, m2⟩ := hbk σ' _ hM' hR'
    exact hb z _ hz m1 m2
  · intro c p1 e1 hX C2 P2 hP hc hns
    refine ga_end hd (by omega) hns hP.o rfl (fun σ' v' hM' hR' hq' => ?_)
    obtain ⟨m1, m2⟩ := hbk σ' _ hM' hR'
    refine hg c p1 e1 v' _ hX hns m1 m2 ?_
    rw [hc] at hq'
    obtain ⟨⟨a1, a2⟩, ⟨b1, b2⟩, c', e', f'⟩ := hq'
    refine ⟨⟨?_, fun i hi => ?_⟩, ⟨?_, ?_⟩, ?_, ?_, f'⟩
    · rw [up_i (by decide)]
      exact a1
    · rw [up_p (by decide)]
      exact a2 i hi
    · rw [up_i (by decide)]
      exact b1
    · rw [up_pf (by decide)]
      exact b2
    · rw [up_i (by decide)]
      exact c'
    · rw [up_at]
