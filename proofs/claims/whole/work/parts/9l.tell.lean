/-! ===== what a question's codes tell: pure (wip/whole/9l.py) ===== -/
def qcp (v : Int) : Int := if 1000000 < v then 1000000 else if v < -1000000 then -1000000 else v
def qjn (c a b : Int) : Int := if c = 1 then qcp (a + b) else if c = 2 then qcp (a - b) else if c = 3 then qcp (a * b) else if c = 4 then (if b = 0 then 0 else a.fdiv b) else if c = 5 then (if a < b then a else b) else if c = 6 then (if b < a then a else b) else if c = 7 then (if a < b then 1 else 0) else if c = 8 then (if b < a then 1 else 0) else if c = 9 then (if a = b then 1 else 0) else if c = 10 then a * b else if 0 < a + b then 1 else 0
/-- one code; f: parts without one behind them, g: parts of a number -/
def qst (f : Int → Int) (g : Int → Int → Int) (c : Int) (st : List Int) : Option (List Int) :=
  if 1000 ≤ c then some ((c - 1000) :: st)
  else if 60 ≤ c then (match st with
    | x :: t => if c ≤ 62 then some (g (c - 60) x :: t) else none
    | [] => none)
  else if 40 ≤ c then (if c ≤ 44 then some (f (c - 40) :: st) else none)
  else if c = 13 then some (1 :: st)
  else if c = 12 then (match st with
    | x :: t => if x = 0 ∨ x = 1 then some ((1 - x) :: t) else none
    | [] => none)
  else (match st with
    | b :: a :: t => if (1 ≤ c ∧ c ≤ 11) ∧ (c < 10 ∨ ((a = 0 ∨ a = 1) ∧ (b = 0 ∨ b = 1))) then some (qjn c a b :: t) else none
    | _ => none)
def qrun (f : Int → Int) (g : Int → Int → Int) (h : Nat) : List Int → List Int → Option (List Int)
  | [], st => some st
  | c :: cs, st => match qst f g c st with
    | none => none
    | some st' => if st'.length ≤ h ∧ (-1000000 ≤ st'.headD 0 ∧ st'.headD 0 ≤ 1000000) then qrun f g h cs st' else none
def QV (v : Int) : Prop := -1000000 ≤ v ∧ v ≤ 1000000
def QB (v : Int) : Prop := v = 0 ∨ v = 1
def QD (f : Int → Int) (g : Int → Int → Int) : Prop := (∀ i, 0 ≤ i → i ≤ 4 → QV (f i)) ∧ ∀ i x, 0 ≤ i → i ≤ 2 → QV x → QV (g i x)
theorem qcp_r (v : Int) : QV (qcp v) := by
  unfold qcp QV
  split
  · omega
  · split <;> omega
theorem fdiv_r {a b : Int} (h : QV a) (hb : b ≠ 0) : QV (a.fdiv b) := by
  unfold QV at h ⊢
  by_cases hp : 0 < b
  · have h1 := Int.fdiv_eq_ediv_of_nonneg a (Int.le_of_lt hp)
    rw [h1]
    have h2 : b * (a / b) ≤ a := Int.mul_ediv_self_le (by omega)
    have h3 : a < b * (a / b) + b := Int.lt_mul_ediv_self_add hp
    generalize a / b = q at *
    constructor
    · by_cases z : q < -1000000
      · exfalso
        have : b * q ≤ b * (-1000001) := Int.mul_le_mul_of_nonneg_left (by omega) (by omega)
        omega
      · omega
    · by_cases z : 1000000 < q
      · exfalso
        have : b * 1000001 ≤ b * q := Int.mul_le_mul_of_nonneg_left (by omega) (by omega)
        omega
      · omega
  · have e1 : a.fdiv b = (-a).fdiv (-b) := by rw [Int.neg_fdiv_neg]
    rw [e1, Int.fdiv_eq_ediv_of_nonneg _ (by omega)]
    have hp : 0 < -b := by omega
    have h2 : (-b) * ((-a) / (-b)) ≤ -a := Int.mul_ediv_self_le (by omega)
    have h3 : -a < (-b) * ((-a) / (-b)) + (-b) := Int.lt_mul_ediv_self_add hp
    generalize (-a) / (-b) = q at *
    generalize -b = b' at *
    constructor
    · by_cases z : q < -1000000
      · exfalso
        have : b' * q ≤ b' * (-1000001) := Int.mul_le_mul_of_nonneg_left (by omega) (by omega)
        omega
      · omega
    · by_cases z : 1000000 < q
      · exfalso
        have : b' * 1000001 ≤ b' * q := Int.mul_le_mul_of_nonneg_left (by omega) (by omega)
        omega
      · omega
theorem qjn_v {c a b : Int} (hc : 1 ≤ c ∧ c ≤ 6) (ha : QV a) (hb : QV b) : QV (qjn c a b) := by
  have hc' : c = 1 ∨ c = 2 ∨ c = 3 ∨ c = 4 ∨ c = 5 ∨ c = 6 := by omega
  unfold qjn
  rcases hc' with z | z | z | z | z | z <;> rw [z]
  · rw [if_pos rfl]
    exact qcp_r _
  · rw [if_neg (by decide), if_pos rfl]
    exact qcp_r _
  · rw [if_neg (by decide), if_neg (by decide), if_pos rfl]
    exact qcp_r _
  · rw [if_neg (by decide), if_neg (by decide), if_neg (by decide), if_pos rfl]
    split
    · unfold QV; omega
    · exact fdiv_r ha (by assumption)
  · rw [if_neg (by decide), if_neg (by decide), if_neg (by decide), if_neg (by decide), if_pos rfl]
    split <;> assumption
  · rw [if_neg (by decide), if_neg (by decide), if_neg (by decide), if_neg (by decide), if_neg (by decide), if_pos rfl]
    split <;> assumption
theorem qjn_c {c a b : Int} (hc : 7 ≤ c ∧ c ≤ 9) : QB (qjn c a b) := by
  have hc' : c = 7 ∨ c = 8 ∨ c = 9 := by omega
  rcases hc' with z | z | z <;> subst z
  · show QB (if a < b then 1 else 0)
    split
    · exact Or.inr rfl
    · exact Or.inl rfl
  · show QB (if b < a then 1 else 0)
    split
    · exact Or.inr rfl
    · exact Or.inl rfl
  · show QB (if a = b then 1 else 0)
    split
    · exact Or.inr rfl
    · exact Or.inl rfl
theorem qjn_b {c a b : Int} (hc : c = 10 ∨ c = 11) (ha : QB a) (hb : QB b) : QB (qjn c a b) := by
  rcases hc with z | z <;> subst z
  · show QB (a * b)
    rcases ha with z | z <;> rcases hb with y | y <;> rw [z, y]
    · exact Or.inl rfl
    · exact Or.inl rfl
    · exact Or.inl rfl
    · exact Or.inr rfl
  · show QB (if 0 < a + b then 1 else 0)
    split
    · exact Or.inr rfl
    · exact Or.inl rfl
theorem qb_v {v : Int} (h : QB v) : QV v := by
  unfold QB at h
  unfold QV
  omega
/-- one code before others -/
theorem qr_c {f : Int → Int} {g : Int → Int → Int} {h : Nat} {c : Int} {cs st st' : List Int} (e : qst f g c st = some st') (hl : st'.length ≤ h) (hv : QV (st'.headD 0)) : qrun f g h (c :: cs) st = qrun f g h cs st' := by
  show (match qst f g c st with
    | none => none
    | some st' => if st'.length ≤ h ∧ (-1000000 ≤ st'.headD 0 ∧ st'.headD 0 ≤ 1000000) then qrun f g h cs st' else none) = _
  rw [e]
  show (if st'.length ≤ h ∧ (-1000000 ≤ st'.headD 0 ∧ st'.headD 0 ≤ 1000000) then qrun f g h cs st' else none) = _
  rw [if_pos ⟨hl, hv⟩]
theorem qst_n {f : Int → Int} {g : Int → Int → Int} {c : Int} {st : List Int} (hc : 1000 ≤ c) : qst f g c st = some ((c - 1000) :: st) := if_pos hc
theorem qst_o {f : Int → Int} {g : Int → Int → Int} {c x : Int} {t : List Int} (hc : 60 ≤ c ∧ c ≤ 62) : qst f g c (x :: t) = some (g (c - 60) x :: t) := by
  unfold qst
  rw [if_neg (by omega), if_pos hc.1]
  exact if_pos hc.2
theorem qst_p {f : Int → Int} {g : Int → Int → Int} {c : Int} {st : List Int} (hc : 40 ≤ c ∧ c ≤ 44) : qst f g c st = some (f (c - 40) :: st) := by
  unfold qst
  rw [if_neg (by omega), if_neg (by omega), if_pos hc.1, if_pos hc.2]
theorem qst_a {f : Int → Int} {g : Int → Int → Int} {st : List Int} : qst f g 13 st = some (1 :: st) := rfl
theorem qst_t {f : Int → Int} {g : Int → Int → Int} {x : Int} {t : List Int} (hx : QB x) : qst f g 12 (x :: t) = some ((1 - x) :: t) := by
  show (if x = 0 ∨ x = 1 then some ((1 - x) :: t) else none) = _
  exact if_pos hx
theorem qst_j {f : Int → Int} {g : Int → Int → Int} {c a b : Int} {t : List Int} (hc : 1 ≤ c ∧ c ≤ 11) (hq : c < 10 ∨ (QB a ∧ QB b)) : qst f g c (b :: a :: t) = some (qjn c a b :: t) := by
  unfold qst
  rw [if_neg (by omega), if_neg (by omega), if_neg (by omega), if_neg (by omega), if_neg (by omega)]
  show (if (1 ≤ c ∧ c ≤ 11) ∧ (c < 10 ∨ ((a = 0 ∨ a = 1) ∧ (b = 0 ∨ b = 1))) then some (qjn c a b :: t) else none) = _
  exact if_pos ⟨hc, hq⟩
/-- what is read tells one value: a value, a test, and what follows them -/
def EVv (f : Int → Int) (g : Int → Int → Int) (h : Nat) (V : Int → Prop) (m : Int) (c : List Int) : Prop := ∀ st : List Int, (st.length : Int) + m ≤ h → ∃ v, V v ∧ ∀ r, qrun f g h (c ++ r) st = qrun f g h r (v :: st)
def EVr (f : Int → Int) (g : Int → Int → Int) (h : Nat) (V : Int → Prop) (m : Int) (c : List Int) : Prop := ∀ (st : List Int) (u : Int), V u → (st.length : Int) + m ≤ h → ∃ v, V v ∧ ∀ r, qrun f g h (c ++ r) (u :: st) = qrun f g h r (v :: st)
def EVn (o : Int → Int) (L : Int) (f : Int → Int) (g : Int → Int → Int) (h n : Nat) : Prop := ∀ (op p e : Int) (c : List Int) (p' e' : Int), 0 ≤ op → op ≤ 6 →
  (qx o L n 0 op p e = .inr (c, p', e') → EVv f g h QV (3 * (6 - op) + 1) c) ∧ (qx o L n 1 op p e = .inr (c, p', e') → EVv f g h QV (3 * (6 - op) + 2) c) ∧ (qx o L n 2 op p e = .inr (c, p', e') → EVv f g h QV (3 * (6 - op) + 3) c) ∧ (qx o L n 3 op p e = .inr (c, p', e') → EVr f g h QV (3 * (6 - op) + 2) c) ∧ (qx o L n 4 op p e = .inr (c, p', e') → EVr f g h QV (3 * (6 - op) + 3) c) ∧ (qx o L n 5 op p e = .inr (c, p', e') → EVv f g h QB (3 * (6 - op) + 4) c) ∧ (qx o L n 6 op p e = .inr (c, p', e') → EVv f g h QB (3 * (6 - op) + 4) c) ∧ (qx o L n 7 op p e = .inr (c, p', e') → EVv f g h QB (3 * (6 - op) + 5) c) ∧ (qx o L n 8 op p e = .inr (c, p', e') → EVv f g h QB (3 * (6 - op) + 6) c) ∧ (qx o L n 9 op p e = .inr (c, p', e') → EVr f g h QB (3 * (6 - op) + 5) c) ∧ (qx o L n 10 op p e = .inr (c, p', e') → EVr f g h QB (3 * (6 - op) + 6) c)
theorem ev_m {f : Int → Int} {g : Int → Int → Int} {h : Nat} {V : Int → Prop} {m m' : Int} {c : List Int} (H : EVv f g h V m c) (hm : m ≤ m') : EVv f g h V m' c := fun st hs => H st (by omega)
/-- a thing and what follows it -/
theorem ev_vr {f : Int → Int} {g : Int → Int → Int} {h : Nat} {V : Int → Prop} {m m' : Int} {c c2 : List Int} (H : EVv f g h V m c) (H2 : EVr f g h V m' c2) (hm : m ≤ m') : EVv f g h V m' (c ++ c2) := by
  intro st hs
  obtain ⟨v, hv, e1⟩ := H st (by omega)
  obtain ⟨w, hw, e2⟩ := H2 st v hv hs
  exact ⟨w, hw, fun r => by rw [List.append_assoc, e1, e2]⟩
theorem ev_nil {f : Int → Int} {g : Int → Int → Int} {h : Nat} {V : Int → Prop} {m : Int} : EVr f g h V m [] := fun st u hu _ => ⟨u, hu, fun r => rfl⟩
theorem ev_rr {f : Int → Int} {g : Int → Int → Int} {h : Nat} {V : Int → Prop} {m m' x : Int} {c c2 : List Int} (H : EVv f g h V m c) (H2 : EVr f g h V m' c2) (hm : m + 1 ≤ m') (hm0 : 2 ≤ m') (hx : 1 ≤ x ∧ x ≤ 11) (hj : ∀ a b, V a → V b → V (qjn x a b)) (hV : ∀ v, V v → QV v) (hq : ∀ a b, V a → V b → x < 10 ∨ (QB a ∧ QB b)) : EVr f g h V m' (c ++ x :: c2) := by
  intro st u hu hs
  obtain ⟨v, hv, e1⟩ := H (u :: st) (by rw [List.length_cons]; omega)
  obtain ⟨w, hw, e2⟩ := H2 st (qjn x u v) (hj u v hu hv) hs
  refine ⟨w, hw, fun r => ?_⟩
  rw [List.append_assoc, e1, List.cons_append, qr_c (qst_j hx (hq u v hu hv)) (by rw [List.length_cons]; omega) (hV _ (hj u v hu hv)), e2]
/-- two values and what joins them -/
theorem ev_two {f : Int → Int} {g : Int → Int → Int} {h : Nat} {V W : Int → Prop} {m m' x : Int} {c c2 : List Int} (H : EVv f g h V m c) (H2 : EVv f g h V m c2) (hm : m + 1 ≤ m') (hm0 : 1 ≤ m) (hx : 1 ≤ x ∧ x ≤ 9) (hj : ∀ a b, V a → V b → W (qjn x a b)) (hW : ∀ v, W v → QV v) : EVv f g h W m' (c ++ c2 ++ [x]) := by
  intro st hs
  obtain ⟨u, hu, e1⟩ := H st (by omega)
  obtain ⟨v, hv, e2⟩ := H2 (u :: st) (by rw [List.length_cons]; omega)
  refine ⟨qjn x u v, hj u v hu hv, fun r => ?_⟩
  rw [List.append_assoc, List.append_assoc, e1, e2]
  exact qr_c (qst_j (by omega) (Or.inl (by omega))) (by rw [List.length_cons]; omega) (hW _ (hj u v hu hv))
theorem qcl_r {o : Int → Int} {L x : Int} {X : QXv} {c : List Int} {p e : Int} (h : qcl o L x X = .inr (c, p, e)) : ∃ p1 e1, X = .inr (c, p1, e1) := by
  obtain ⟨c1, p1, e1, h1, h2⟩ := qbd_r h
  split at h2
  · cases h2
  · cases h2
    exact ⟨p1, e1, h1⟩
theorem evAll {o : Int → Int} {L : Int} {f : Int → Int} {g : Int → Int → Int} {h : Nat} (hD : QD f g) : ∀ n, EVn o L f g h n := by
  intro n
  induction n with
  | zero =>
    intro op p e c p' e' h0 h6
    refine ⟨?_, ?_, ?_, ?_, ?_, ?_, ?_, ?_, ?_, ?_, ?_⟩ <;> (intro z; cases z)
  | succ n ih =>
    intro op p e c p' e' h0 h6
    have chain : ∀ (a b : Nat) (V : Int → Prop) (m m' : Int), (∀ p e c p' e', qx o L n a op p e = .inr (c, p', e') → EVv f g h V m c) → (∀ p e c p' e', qx o L n b op p e = .inr (c, p', e') → EVr f g h V m' c) → m ≤ m' → qxC (qx o L n) a b op p e = .inr (c, p', e') → EVv f g h V m' c := by
      intro a b V m m' ha hb hm hX
      obtain ⟨c1, p1, e1, x1, x2⟩ := qbd_r hX
      obtain ⟨c2, p2, e2, y1, y2⟩ := qbd_r x2
      cases y2
      exact ev_vr (ha _ _ _ _ _ x1) (hb _ _ _ _ _ y1) hm
    refine ⟨fun hX => ?_, fun hX => ?_, fun hX => ?_, fun hX => ?_, fun hX => ?_, fun hX => ?_, fun hX => ?_, fun hX => ?_, fun hX => ?_, fun hX => ?_, fun hX => ?_⟩
    · have hX : qxP o L (qx o L n) op p e = .inr (c, p', e') := hX
      unfold qxP at hX
      split at hX
      · rename_i k2
        split at hX
        · cases hX
        · rename_i w hw
          have hr : 0 ≤ w.1 ∧ w.1 ≤ 9999 := by
            unfold pxN at hw
            rw [if_pos k2] at hw
            split at hw
            · split at hw
              · rename_i q
                cases hw
                exact q
              · cases hw
            · cases hw
          cases hX
          intro st hs
          refine ⟨w.1, by unfold QV; omega, fun r => ?_⟩
          show qrun f g h ((1000 + w.1) :: r) st = _
          rw [qr_c (qst_n (by omega)) (by rw [List.length_cons]; omega) (by show QV (1000 + w.1 - 1000); unfold QV; omega), show 1000 + w.1 - 1000 = w.1 by omega]
      · split at hX
        · split at hX
          · cases hX
          · obtain ⟨p1, e1, h1⟩ := qcl_r hX
            exact ev_m ((ih (op + 1) _ _ _ _ _ (by omega) (by omega)).2.2.1 h1) (by omega)
        · split at hX
          · cases hX
          · have hwl := qw_lt (o := o) (L := L) (p := p) (e := e) (j := 4)
            have hwl2 : ((WL 4).length : Int) = 10 := rfl
            rw [hwl2] at hwl
            split at hX
            · cases hX
              intro st hs
              refine ⟨f (qwd o L 4 p e), hD.1 _ (by omega) (by omega), fun r => ?_⟩
              show qrun f g h ((40 + qwd o L 4 p e) :: r) st = _
              rw [qr_c (qst_p (by omega)) (by rw [List.length_cons]; omega) (hD.1 _ (by omega) (by omega)), show 40 + qwd o L 4 p e - 40 = qwd o L 4 p e by omega]
            · split at hX
              · split at hX
                · cases hX
                · obtain ⟨c1, p1, e1, x1, x2⟩ := qbd_r hX
                  cases x2
                  have H := (ih (op + 1) _ _ _ _ _ (by omega) (by omega)).1 x1
                  intro st hs
                  obtain ⟨v, hv, e2⟩ := H st (by omega)
                  refine ⟨g (55 + qwd o L 4 p e - 60) v, hD.2 _ _ (by omega) (by omega) hv, fun r => ?_⟩
                  rw [List.append_assoc, e2]
                  exact qr_c (qst_o (by omega)) (by rw [List.length_cons]; omega) (hD.2 _ _ (by omega) (by omega) hv)
              · obtain ⟨c0, p0, e0, x0, x9⟩ := qbd_r hX
                cases x9
                unfold qxA at x0
                split at x0
                · split at x0
                  · cases x0
                  · obtain ⟨c1, p1, e1, x1, x2⟩ := qbd_r x0
                    split at x2
                    · cases x2
                    · obtain ⟨p3, e3, h3⟩ := qcl_r x2
                      obtain ⟨c2, p2, e2, y1, y2⟩ := qbd_r h3
                      cases y2
                      exact ev_two (W := QV) ((ih (op + 1) _ _ _ _ _ (by omega) (by omega)).2.2.1 x1) ((ih (op + 1) _ _ _ _ _ (by omega) (by omega)).2.2.1 y1) (by omega) (by omega) (by omega) (fun a b ha hb => qjn_v (by omega) ha hb) (fun v hv => hv)
                · cases x0
    · exact chain 0 3 QV _ _ (fun p e c p' e' z => (ih op p e c p' e' h0 h6).1 z) (fun p e c p' e' z => (ih op p e c p' e' h0 h6).2.2.2.1 z) (by omega) hX
    · exact chain 1 4 QV _ _ (fun p e c p' e' z => (ih op p e c p' e' h0 h6).2.1 z) (fun p e c p' e' z => (ih op p e c p' e' h0 h6).2.2.2.2.1 z) (by omega) hX
    · have hX : qxR o L (qx o L n) 42 47 3 4 0 3 op p e = .inr (c, p', e') := hX
      unfold qxR at hX
      split at hX
      · obtain ⟨c1, p1, e1, x1, x2⟩ := qbd_r hX
        obtain ⟨c2, p2, e2, y1, y2⟩ := qbd_r x2
        cases y2
        have hm : ∃ m, (if qsg o L p e = 42 then (3 : Int) else 4) = m ∧ (1 ≤ m ∧ m ≤ 6) := by
          split
          · exact ⟨3, rfl, by decide⟩
          · exact ⟨4, rfl, by decide⟩
        obtain ⟨m, em, hm⟩ := hm
        rw [em]
        exact ev_rr ((ih op _ _ _ _ _ h0 h6).1 x1) ((ih op _ _ _ _ _ h0 h6).2.2.2.1 y1) (by omega) (by omega) (by omega) (fun a b ha hb => qjn_v hm ha hb) (fun v hv => hv) (fun a b ha hb => Or.inl (by omega))
      · cases hX
        exact ev_nil
    · have hX : qxR o L (qx o L n) 43 45 1 2 1 4 op p e = .inr (c, p', e') := hX
      unfold qxR at hX
      split at hX
      · obtain ⟨c1, p1, e1, x1, x2⟩ := qbd_r hX
        obtain ⟨c2, p2, e2, y1, y2⟩ := qbd_r x2
        cases y2
        have hm : ∃ m, (if qsg o L p e = 43 then (1 : Int) else 2) = m ∧ (1 ≤ m ∧ m ≤ 6) := by
          split
          · exact ⟨1, rfl, by decide⟩
          · exact ⟨2, rfl, by decide⟩
        obtain ⟨m, em, hm⟩ := hm
        rw [em]
        exact ev_rr ((ih op _ _ _ _ _ h0 h6).2.1 x1) ((ih op _ _ _ _ _ h0 h6).2.2.2.2.1 y1) (by omega) (by omega) (by omega) (fun a b ha hb => qjn_v hm ha hb) (fun v hv => hv) (fun a b ha hb => Or.inl (by omega))
      · cases hX
        exact ev_nil
    · have hX : qxK o L (qx o L n) op p e = .inr (c, p', e') := hX
      unfold qxK at hX
      obtain ⟨c1, p1, e1, x1, x2⟩ := qbd_r hX
      split at x2
      · obtain ⟨c2, p2, e2, y1, y2⟩ := qbd_r x2
        cases y2
        have hm : 7 ≤ qcm (qsg o L p1 e1) ∧ qcm (qsg o L p1 e1) ≤ 9 := by
          unfold qcm
          split
          · decide
          · split <;> decide
        exact ev_two ((ih op _ _ _ _ _ h0 h6).2.2.1 x1) ((ih op _ _ _ _ _ h0 h6).2.2.1 y1) (by omega) (by omega) (by omega) (fun a b ha hb => qjn_c hm) (fun v hv => qb_v hv)
      · cases x2
    · have hX : qxF o L (qx o L n) op p e = .inr (c, p', e') := hX
      unfold qxF at hX
      split at hX
      · cases hX
        intro st hs
        refine ⟨1, Or.inr rfl, fun r => ?_⟩
        exact qr_c qst_a (by rw [List.length_cons]; omega) (qb_v (Or.inr rfl))
      · split at hX
        · split at hX
          · cases hX
          · obtain ⟨c1, p1, e1, x1, x2⟩ := qbd_r hX
            cases x2
            have H := (ih (op + 1) _ _ _ _ _ (by omega) (by omega)).2.2.2.2.2.2.1 x1
            intro st hs
            obtain ⟨v, hv, e2⟩ := H st (by omega)
            have hv1 : QB (1 - v) := by unfold QB at hv ⊢; omega
            refine ⟨1 - v, hv1, fun r => ?_⟩
            rw [List.append_assoc, e2]
            exact qr_c (qst_t hv) (by rw [List.length_cons]; omega) (qb_v hv1)
        · split at hX
          · split at hX
            · cases hX
            · obtain ⟨p1, e1, h1⟩ := qcl_r hX
              exact ev_m ((ih (op + 1) _ _ _ _ _ (by omega) (by omega)).2.2.2.2.2.2.2.2.1 h1) (by omega)
          · exact (ih op _ _ _ _ _ h0 h6).2.2.2.2.2.1 hX
    · exact chain 6 9 QB _ _ (fun p e c p' e' z => (ih op p e c p' e' h0 h6).2.2.2.2.2.2.1 z) (fun p e c p' e' z => (ih op p e c p' e' h0 h6).2.2.2.2.2.2.2.2.2.1 z) (by omega) hX
    · exact chain 7 10 QB _ _ (fun p e c p' e' z => (ih op p e c p' e' h0 h6).2.2.2.2.2.2.2.1 z) (fun p e c p' e' z => (ih op p e c p' e' h0 h6).2.2.2.2.2.2.2.2.2.2 z) (by omega) hX
    · have hX : qxV o L (qx o L n) 5 10 6 9 op p e = .inr (c, p', e') := hX
      unfold qxV at hX
      split at hX
      · obtain ⟨c1, p1, e1, x1, x2⟩ := qbd_r hX
        obtain ⟨c2, p2, e2, y1, y2⟩ := qbd_r x2
        cases y2
        exact ev_rr ((ih op _ _ _ _ _ h0 h6).2.2.2.2.2.2.1 x1) ((ih op _ _ _ _ _ h0 h6).2.2.2.2.2.2.2.2.2.1 y1) (by omega) (by omega) (by decide) (fun a b ha hb => qjn_b (Or.inl rfl) ha hb) (fun v hv => qb_v hv) (fun a b ha hb => Or.inr ⟨ha, hb⟩)
      · cases hX
        exact ev_nil
    · have hX : qxV o L (qx o L n) 6 11 7 10 op p e = .inr (c, p', e') := hX
      unfold qxV at hX
      split at hX
      · obtain ⟨c1, p1, e1, x1, x2⟩ := qbd_r hX
        obtain ⟨c2, p2, e2, y1, y2⟩ := qbd_r x2
        cases y2
        exact ev_rr ((ih op _ _ _ _ _ h0 h6).2.2.2.2.2.2.2.1 x1) ((ih op _ _ _ _ _ h0 h6).2.2.2.2.2.2.2.2.2.2 y1) (by omega) (by omega) (by decide) (fun a b ha hb => qjn_b (Or.inr rfl) ha hb) (fun v hv => qb_v hv) (fun a b ha hb => Or.inr ⟨ha, hb⟩)
      · cases hX
        exact ev_nil
