/-! ===== a question, read: pure ===== -/
abbrev QXv : Type := Sum (Int × Int) (List Int × Int × Int)
def qbd (X : QXv) (f : List Int → Int → Int → QXv) : QXv := match X with
  | .inl z => .inl z
  | .inr z => f z.1 z.2.1 z.2.2
/-- the sign that stands here; the word of text i -/
def qsg (o : Int → Int) (L p e : Int) : Int := if kd o L e (sk o L p) = 3 then o (sk o L p) else -1
def qwd (o : Int → Int) (L : Int) (i : Nat) (p e : Int) : Int := if kd o L e (sk o L p) = 1 then fstW o (sk o L p) (te o L (sk o L p)) (WL i) 0 else -1
abbrev RFn : Type := Nat → Int → Int → Int → QXv
def qcl (o : Int → Int) (L c : Int) (X : QXv) : QXv := qbd X (fun k p e => match pxS o L c p e with
  | .inl z => .inl z
  | .inr z => .inr (k, z.2.1, z.2.2))
def qxA (o : Int → Int) (L : Int) (R : RFn) (op p e : Int) : QXv := if qsg o L p e = 40 then (if 6 ≤ op then .inl (4, sk o L p) else qbd (R 2 (op + 1) (sk o L p + 1) (-1)) (fun c1 p1 e1 => match pxS o L 44 p1 e1 with
  | .inl z => .inl z
  | .inr z => qcl o L 41 (qbd (R 2 (op + 1) z.2.1 z.2.2) (fun c2 p2 e2 => .inr (c1 ++ c2, p2, e2))))) else .inl (1, sk o L p)
def qxP (o : Int → Int) (L : Int) (R : RFn) (op p e : Int) : QXv :=
  if kd o L e (sk o L p) = 2 then (match pxN o L 0 9999 p e with
    | .inl z => .inl z
    | .inr z => .inr ([1000 + z.1], z.2.1, z.2.2))
  else if qsg o L p e = 40 then (if 6 ≤ op then .inl (4, sk o L p) else qcl o L 41 (R 2 (op + 1) (sk o L p + 1) (-1)))
  else if qwd o L 4 p e = -1 then .inl (1, sk o L p)
  else if qwd o L 4 p e ≤ 4 then .inr ([40 + qwd o L 4 p e], te o L (sk o L p), te o L (sk o L p))
  else if qwd o L 4 p e ≤ 7 then (if 6 ≤ op then .inl (4, sk o L p) else qbd (R 0 (op + 1) (te o L (sk o L p)) (te o L (sk o L p))) (fun c p1 e1 => .inr (c ++ [55 + qwd o L 4 p e], p1, e1)))
  else qbd (qxA o L R op (te o L (sk o L p)) (te o L (sk o L p))) (fun c p1 e1 => .inr (c ++ [qwd o L 4 p e - 3], p1, e1))
def qxC (R : RFn) (a b : Nat) (op p e : Int) : QXv := qbd (R a op p e) (fun c p1 e1 => qbd (R b op p1 e1) (fun c2 p2 e2 => .inr (c ++ c2, p2, e2)))
def qxR (o : Int → Int) (L : Int) (R : RFn) (x y cx cy : Int) (a b : Nat) (op p e : Int) : QXv := if qsg o L p e = x ∨ qsg o L p e = y then qbd (R a op (sk o L p + 1) (-1)) (fun c p1 e1 => qbd (R b op p1 e1) (fun c2 p2 e2 => .inr (c ++ (if qsg o L p e = x then cx else cy) :: c2, p2, e2))) else .inr ([], p, e)
def qxV (o : Int → Int) (L : Int) (R : RFn) (i : Nat) (cx : Int) (a b : Nat) (op p e : Int) : QXv := if qwd o L i p e ≠ -1 then qbd (R a op (te o L (sk o L p)) (te o L (sk o L p))) (fun c p1 e1 => qbd (R b op p1 e1) (fun c2 p2 e2 => .inr (c ++ cx :: c2, p2, e2))) else .inr ([], p, e)
def qcm (v : Int) : Int := if v = 60 then 7 else if v = 62 then 8 else 9
def qxK (o : Int → Int) (L : Int) (R : RFn) (op p e : Int) : QXv := qbd (R 2 op p e) (fun c p1 e1 => if qsg o L p1 e1 = 60 ∨ qsg o L p1 e1 = 62 ∨ qsg o L p1 e1 = 61 then qbd (R 2 op (sk o L p1 + 1) (-1)) (fun c2 p2 e2 => .inr (c ++ c2 ++ [qcm (qsg o L p1 e1)], p2, e2)) else .inl (1, sk o L p1))
def qxF (o : Int → Int) (L : Int) (R : RFn) (op p e : Int) : QXv :=
  if qwd o L 2 p e ≠ -1 then .inr ([13], te o L (sk o L p), te o L (sk o L p))
  else if qwd o L 3 p e ≠ -1 then (if 6 ≤ op then .inl (4, sk o L p) else qbd (R 6 (op + 1) (te o L (sk o L p)) (te o L (sk o L p))) (fun c p1 e1 => .inr (c ++ [12], p1, e1)))
  else if qsg o L p e = 91 then (if 6 ≤ op then .inl (4, sk o L p) else qcl o L 93 (R 8 (op + 1) (sk o L p + 1) (-1)))
  else R 5 op p e
/-- 0 part, 1 product, 2 sum, 3 and 4 what follows in them, 5 comparison, 6 fact, 7 both, 8 test, 9 and 10 what follows in them -/
def qxN (o : Int → Int) (L : Int) (R : RFn) : RFn
  | 0, op, p, e => qxP o L R op p e
  | 1, op, p, e => qxC R 0 3 op p e
  | 2, op, p, e => qxC R 1 4 op p e
  | 3, op, p, e => qxR o L R 42 47 3 4 0 3 op p e
  | 4, op, p, e => qxR o L R 43 45 1 2 1 4 op p e
  | 5, op, p, e => qxK o L R op p e
  | 6, op, p, e => qxF o L R op p e
  | 7, op, p, e => qxC R 6 9 op p e
  | 8, op, p, e => qxC R 7 10 op p e
  | 9, op, p, e => qxV o L R 5 10 6 9 op p e
  | _, op, p, e => qxV o L R 6 11 7 10 op p e
def qx (o : Int → Int) (L : Int) : Nat → RFn
  | 0 => fun _ _ p _ => .inl (0, p)
  | n + 1 => qxN o L (qx o L n)
theorem qbd_r {X : QXv} {f : List Int → Int → Int → QXv} {z : List Int × Int × Int} (h : qbd X f = .inr z) : ∃ c p e, X = .inr (c, p, e) ∧ f c p e = .inr z := by
  rcases X with y | ⟨c, p, e⟩
  · cases h
  · exact ⟨c, p, e, rfl, h⟩
theorem pxS_r {o : Int → Int} {L c p e : Int} {z : Int × Int × Int} (h : pxS o L c p e = .inr z) : z = (0, sk o L p + 1, -1) ∧ kd o L e (sk o L p) = 3 ∧ o (sk o L p) = c := by
  unfold pxS at h
  split at h
  · rename_i k
    cases h
    exact ⟨rfl, k.1, k.2⟩
  · cases h
/-- what holds of what was read -/
def QOk (L : Int) (k : Nat) (p : Int) (z : List Int × Int × Int) : Prop := p ≤ z.2.1 ∧ z.2.1 ≤ L ∧ (z.1.length : Int) ≤ z.2.1 - p ∧ (k ≠ 3 → k ≠ 4 → k ≠ 9 → k < 10 → p < z.2.1)
def RPr (L : Int) (R : RFn) : Prop := ∀ k op p e z, 0 ≤ p → p ≤ L → R k op p e = .inr z → QOk L k p z
theorem qsg_t {o : Int → Int} {L p e c : Int} (h : qsg o L p e = c) (hc : c ≠ -1) : kd o L e (sk o L p) = 3 ∧ o (sk o L p) = c := by
  unfold qsg at h
  split at h
  · rename_i k
    exact ⟨k, h⟩
  · exact absurd h.symm hc
theorem qwd_t {o : Int → Int} {L p e : Int} {i : Nat} (h : qwd o L i p e ≠ -1) : kd o L e (sk o L p) = 1 := by
  unfold qwd at h
  split at h
  · assumption
  · exact absurd rfl h
theorem QOk.c {o : Int → Int} {L x : Int} {X : QXv} {p0 : Int} {k k' : Nat} {z : List Int × Int × Int} (h : qcl o L x X = .inr z) (hX : ∀ y, X = .inr y → QOk L k p0 y) (h0 : 0 ≤ p0) : QOk L k' p0 z ∧ p0 + 1 ≤ z.2.1 ∧ (z.1.length : Int) + 1 ≤ z.2.1 - p0 := by
  obtain ⟨c, p, e, e1, e2⟩ := qbd_r h
  have hy := hX _ e1
  unfold QOk at hy
  dsimp only at hy
  have ht := tok (o := o) (L := L) e (show 0 ≤ p by omega) hy.2.1
  split at e2
  · cases e2
  · rename_i w hw
    obtain ⟨w1, w2, w3⟩ := pxS_r hw
    have := ht.2.2.2.1 w2
    cases e2
    rw [w1]
    unfold QOk
    dsimp only
    omega
theorem qxA_r {o : Int → Int} {L : Int} {R : RFn} (hR : RPr L R) {op p e : Int} {z : List Int × Int × Int} (h0 : 0 ≤ p) (h1 : p ≤ L) (h : qxA o L R op p e = .inr z) : QOk L 0 p z ∧ (z.1.length : Int) + 1 ≤ z.2.1 - p := by
  unfold qxA at h
  split at h
  · rename_i hs
    have ks := qsg_t hs (by decide)
    have ht := tok (o := o) (L := L) e h0 h1
    have ht3 := ht.2.2.2.1 ks.1
    split at h
    · cases h
    · obtain ⟨c1, p1, e1, x1, x2⟩ := qbd_r h
      have q1 := hR _ _ _ _ _ (by omega) (by omega) x1
      unfold QOk at q1
      dsimp only at q1
      split at x2
      · cases x2
      · rename_i w hw
        obtain ⟨w1, w2, w3⟩ := pxS_r hw
        have ht1 := tok (o := o) (L := L) e1 (show 0 ≤ p1 by omega) q1.2.1
        have ht4 := ht1.2.2.2.1 w2
        rw [w1] at x2
        have q2 := QOk.c (k := 0) (k' := 0) (p0 := p) x2 (fun y hy => ?_) h0
        · unfold QOk at q2 ⊢
          omega
        · obtain ⟨c2, p2, e2, y1, y2⟩ := qbd_r hy
          have q2 := hR _ _ _ _ _ (show 0 ≤ sk o L p1 + 1 by omega) (by omega) y1
          unfold QOk at q2
          dsimp only at q2
          cases y2
          unfold QOk
          dsimp only
          rw [List.length_append]
          omega
  · cases h
theorem qwd_r (o : Int → Int) (L : Int) (i : Nat) (hi : i < 7) (p e : Int) : -1 ≤ qwd o L i p e ∧ qwd o L i p e < 16 := waV_r o _ _ _ i hi
theorem qx_r {o : Int → Int} {L : Int} : ∀ n, RPr L (qx o L n) := by
  intro n
  induction n with
  | zero =>
    intro k op p e z _ _ h
    cases h
  | succ n ih =>
    generalize hR : qx o L n = R at ih
    intro k op p e z h0 h1 h
    have h : qxN o L R k op p e = .inr z := by rw [← hR]; exact h
    have ht := tok (o := o) (L := L) e h0 h1
    have chain : ∀ a b k', (a ≠ 3 ∧ a ≠ 4 ∧ a ≠ 9 ∧ a < 10) → qxC R a b op p e = .inr z → QOk L k' p z := by
      intro a b k' ha h
      obtain ⟨c1, p1, e1, x1, x2⟩ := qbd_r h
      have q1 := ih _ _ _ _ _ h0 h1 x1
      unfold QOk at q1
      dsimp only at q1
      obtain ⟨c2, p2, e2, y1, y2⟩ := qbd_r x2
      have q2 := ih _ _ _ _ _ (by omega) q1.2.1 y1
      unfold QOk at q2
      dsimp only at q2
      cases y2
      have := q1.2.2.2 ha.1 ha.2.1 ha.2.2.1 ha.2.2.2
      unfold QOk
      dsimp only
      rw [List.length_append]
      omega
    have rest : ∀ a b x p0 k', p ≤ p0 - 1 → p0 ≤ L → qbd (R a op p0 x) (fun c p1 e1 => qbd (R b op p1 e1) (fun c2 p2 e2 => .inr (c ++ k' :: c2, p2, e2))) = .inr z → QOk L 3 p z := by
      intro a b x p0 k' hp hp1 h
      obtain ⟨c1, p1, e1, x1, x2⟩ := qbd_r h
      have q1 := ih _ _ _ _ _ (by omega) hp1 x1
      unfold QOk at q1
      dsimp only at q1
      obtain ⟨c2, p2, e2, y1, y2⟩ := qbd_r x2
      have q2 := ih _ _ _ _ _ (by omega) q1.2.1 y1
      unfold QOk at q2
      dsimp only at q2
      cases y2
      unfold QOk
      dsimp only
      rw [List.length_append, List.length_cons]
      omega
    have nilc : .inr ([], p, e) = (.inr z : QXv) → QOk L 3 p z := by
      intro h
      cases h
      unfold QOk
      exact ⟨Int.le_refl _, h1, by simp, fun a => absurd rfl a⟩
    have r3k : ∀ k', (k' = 3 ∨ k' = 4 ∨ k' = 9 ∨ 10 ≤ k') → QOk L 3 p z → QOk L k' p z := by
      intro k' hk h
      unfold QOk at h ⊢
      exact ⟨h.1, h.2.1, h.2.2.1, fun a b c d => by omega⟩
    have sg : ∀ c, qsg o L p e = c → c ≠ -1 → sk o L p < L := fun c hs hc => (ht.2.2.2.1 (qsg_t hs hc).1).1
    have wdp : ∀ i, qwd o L i p e ≠ -1 → sk o L p < te o L (sk o L p) := fun i hw => (name_lt h0 h1 (qwd_t hw)).1
    match k, h with
    | 0, h =>
      have h : qxP o L R op p e = .inr z := h
      unfold qxP at h
      split at h
      · rename_i k2
        split at h
        · cases h
        · rename_i w hw
          have hd : sk o L p < te o L (sk o L p) := by
            obtain ⟨a, b, c⟩ := ht.2.2.2.2.2.1 k2
            have := (rn_all (P := dgB o) (L := L) (p := sk o L p + 1)).1
            rw [c, rn_y a b]
            omega
          have e1 : w.2.1 = te o L (sk o L p) := by
            unfold pxN at hw
            rw [if_pos k2] at hw
            split at hw
            · split at hw
              · cases hw
                rfl
              · cases hw
            · cases hw
          cases h
          unfold QOk
          dsimp only
          rw [e1]
          simp only [List.length_cons, List.length_nil]
          omega
      · split at h
        · rename_i hs
          have hsl := sg 40 hs (by decide)
          split at h
          · cases h
          · have q := QOk.c (k := 2) (k' := 0) (p0 := sk o L p + 1) h (fun y hy => ih _ _ _ _ _ (by omega) (by omega) hy) (by omega)
            unfold QOk at q ⊢
            omega
        · split at h
          · cases h
          · rename_i hw
            have hwl := wdp 4 hw
            split at h
            · cases h
              unfold QOk
              dsimp only
              simp only [List.length_cons, List.length_nil]
              omega
            · split at h
              · split at h
                · cases h
                · obtain ⟨c1, p1, e1, x1, x2⟩ := qbd_r h
                  have q1 := ih _ _ _ _ _ (by omega) (by omega) x1
                  unfold QOk at q1
                  dsimp only at q1
                  cases x2
                  unfold QOk
                  dsimp only
                  rw [List.length_append, List.length_cons, List.length_nil]
                  omega
              · obtain ⟨c1, p1, e1, x1, x2⟩ := qbd_r h
                have q1 := qxA_r ih (by omega) (by omega) x1
                unfold QOk at q1
                dsimp only at q1
                cases x2
                unfold QOk
                dsimp only
                rw [List.length_append, List.length_cons, List.length_nil]
                omega
    | 1, h => exact chain 0 3 1 (by decide) h
    | 2, h => exact chain 1 4 2 (by decide) h
    | 3, h =>
      have h : qxR o L R 42 47 3 4 0 3 op p e = .inr z := h
      unfold qxR at h
      split at h
      · rename_i hs
        have hsl : sk o L p < L := hs.elim (fun a => sg 42 a (by decide)) (fun a => sg 47 a (by decide))
        exact rest _ _ _ _ _ (by omega) (by omega) h
      · exact nilc h
    | 4, h =>
      have h : qxR o L R 43 45 1 2 1 4 op p e = .inr z := h
      unfold qxR at h
      split at h
      · rename_i hs
        have hsl : sk o L p < L := hs.elim (fun a => sg 43 a (by decide)) (fun a => sg 45 a (by decide))
        exact r3k 4 (by decide) (rest _ _ _ _ _ (by omega) (by omega) h)
      · exact r3k 4 (by decide) (nilc h)
    | 5, h =>
      have h : qxK o L R op p e = .inr z := h
      unfold qxK at h
      obtain ⟨c1, p1, e1, x1, x2⟩ := qbd_r h
      have q1 := ih _ _ _ _ _ h0 h1 x1
      unfold QOk at q1
      dsimp only at q1
      have ht1 := tok (o := o) (L := L) e1 (show 0 ≤ p1 by omega) q1.2.1
      split at x2
      · rename_i hs
        have hsl : sk o L p1 < L := by
          rcases hs with a | a | a <;> exact (ht1.2.2.2.1 (qsg_t a (by decide)).1).1
        obtain ⟨c2, p2, e2, y1, y2⟩ := qbd_r x2
        have q2 := ih _ _ _ _ _ (by omega) (by omega) y1
        unfold QOk at q2
        dsimp only at q2
        cases y2
        unfold QOk
        dsimp only
        rw [List.length_append, List.length_append, List.length_cons, List.length_nil]
        omega
      · cases x2
    | 6, h =>
      have h : qxF o L R op p e = .inr z := h
      unfold qxF at h
      split at h
      · rename_i hw
        have hwl := wdp 2 hw
        cases h
        unfold QOk
        dsimp only
        simp only [List.length_cons, List.length_nil]
        omega
      · split at h
        · rename_i hw
          have hwl := wdp 3 hw
          split at h
          · cases h
          · obtain ⟨c1, p1, e1, x1, x2⟩ := qbd_r h
            have q1 := ih _ _ _ _ _ (by omega) (by omega) x1
            unfold QOk at q1
            dsimp only at q1
            cases x2
            unfold QOk
            dsimp only
            rw [List.length_append, List.length_cons, List.length_nil]
            omega
        · split at h
          · rename_i hs
            have hsl := sg 91 hs (by decide)
            split at h
            · cases h
            · have q := QOk.c (k := 8) (k' := 6) (p0 := sk o L p + 1) h (fun y hy => ih _ _ _ _ _ (by omega) (by omega) hy) (by omega)
              unfold QOk at q ⊢
              omega
          · have q := ih _ _ _ _ _ h0 h1 h
            unfold QOk at q ⊢
            omega
    | 7, h => exact chain 6 9 7 (by decide) h
    | 8, h => exact chain 7 10 8 (by decide) h
    | 9, h =>
      have h : qxV o L R 5 10 6 9 op p e = .inr z := h
      unfold qxV at h
      split at h
      · rename_i hw
        have hwl := wdp 5 hw
        exact r3k 9 (by decide) (rest _ _ _ _ _ (by omega) (by omega) h)
      · exact r3k 9 (by decide) (nilc h)
    | k + 10, h =>
      have h : qxV o L R 6 11 7 10 op p e = .inr z := h
      unfold qxV at h
      split at h
      · rename_i hw
        have hwl := wdp 6 hw
        exact r3k (k + 10) (by omega) (rest _ _ _ _ _ (by omega) (by omega) h)
      · exact r3k (k + 10) (by omega) (nilc h)
