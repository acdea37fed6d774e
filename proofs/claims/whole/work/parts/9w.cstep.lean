/-! ===== ask: one day of the class's loop (wip/whole/9w.py) ===== -/
theorem cstep {d r : Nat} {K ld l4 l6 l8 td i v : Int} {V : Int → Int} {σ : SG} {Q : Option AV → SG → Prop} (hr : r = 5 ∨ r = 16) (hK : σ 27 4 = K) (hK5 : 0 ≤ K ∧ K ≤ 5) (hV : V i = v) (hv : QV v) (h4 : r6 l4) (h8 : QV l8) (ht : 0 ≤ td ∧ td ≤ 999) (hi : 0 ≤ i ∧ i ≤ 200) (nx : ∀ l13, (0 < d) ∧ AW (d - 1) mX6_passDay 0 [some (.inr (.inr 36)), some (.inl (σ r 4)), none, none, none] [] σ (fun rr σ' => AW d mX3_answer 142 [some (.inr (.inr 27)), some (.inr (.inr r)), some (.inr (.inr 36)), some (.inl ld), some (.inr (.inl (fnF K V td i l4))), none, some (.inr (.inl (l6 + v))), none, some (.inr (.inl (bsF K V i l8))), none, some (.inl td), some (.inl (td + i)), some (.inl v), some (.inl l13)] (rtS rr []) σ' Q)) : AW d mX3_answer 39 [some (.inr (.inr 27)), some (.inr (.inr r)), some (.inr (.inr 36)), some (.inl ld), some (.inr (.inl l4)), none, some (.inr (.inl l6)), none, some (.inr (.inl l8)), none, some (.inl td), some (.inl (td + i)), none, none] [.inl v] σ Q := by
  have go : ∀ f' b' l13, f' = fnF K V td i l4 → b' = bsF K V i l8 → (0 < d) ∧ AW (d - 1) mX6_passDay 0 [some (.inr (.inr 36)), some (.inl (σ r 4)), none, none, none] [] σ (fun rr σ' => AW d mX3_answer 142 [some (.inr (.inr 27)), some (.inr (.inr r)), some (.inr (.inr 36)), some (.inl ld), some (.inr (.inl f')), none, some (.inr (.inl (l6 + v))), none, some (.inr (.inl b')), none, some (.inl td), some (.inl (td + i)), some (.inl v), some (.inl l13)] (rtS rr []) σ' Q) := by
    intro f' b' l13 e1 e2
    rw [e1, e2]
    exact nx l13
  have eA : K ≠ 4 → bsF K V i l8 = if i = 0 ∨ v < l8 then v else l8 := by
    intro c
    unfold bsF
    rw [hV]
    by_cases c2 : i = 0 ∨ v < l8
    · rw [if_pos c2, if_pos (c2.elim Or.inl (fun w => Or.inr (by rw [if_neg c]; exact w)))]
    · rw [if_neg c2, if_neg (fun w => c2 (w.elim Or.inl (fun y => Or.inr (by rw [if_neg c] at y; exact y))))]
  have eB : K = 4 → bsF K V i l8 = if i = 0 ∨ l8 < v then v else l8 := by
    intro c
    unfold bsF
    rw [hV]
    by_cases c2 : i = 0 ∨ l8 < v
    · rw [if_pos c2, if_pos (c2.elim Or.inl (fun w => Or.inr (by rw [if_pos c]; exact w)))]
    · rw [if_neg c2, if_neg (fun w => c2 (w.elim Or.inl (fun y => Or.inr (by rw [if_pos c] at y; exact y))))]
  unfold QV at hv h8
  refine cN_39 hr ?_
  rw [hK]
  exact ⟨by omega, by omega, fun c => ⟨by omega, ⟨by omega, by omega⟩, fun w => ⟨⟨by omega, by omega⟩, fun u => ⟨by omega, ⟨by omega, fun z => go l4 v 0 (by unfold fnF; rw [hV]; split <;> omega) (by rw [eA c]; split <;> omega), fun z => ⟨by omega, fun y => ⟨by omega, go (td + i) v 0 (by unfold fnF; rw [hV]; split <;> omega) (by rw [eA c]; split <;> omega)⟩, fun y => ⟨by omega, fun x => go l4 v 0 (by unfold fnF; rw [hV]; split <;> omega) (by rw [eA c]; split <;> omega), fun x => ⟨by omega, go (td + i) v 0 (by unfold fnF; rw [hV]; split <;> omega) (by rw [eA c]; split <;> omega)⟩⟩⟩⟩⟩, fun u => ⟨by omega, fun z => go l4 l8 0 (by unfold fnF; rw [hV]; split <;> omega) (by rw [eA c]; split <;> omega), fun z => ⟨by omega, fun y => ⟨by omega, go (td + i) l8 0 (by unfold fnF; rw [hV]; split <;> omega) (by rw [eA c]; split <;> omega)⟩, fun y => ⟨by omega, fun x => go l4 l8 0 (by unfold fnF; rw [hV]; split <;> omega) (by rw [eA c]; split <;> omega), fun x => ⟨by omega, go (td + i) l8 0 (by unfold fnF; rw [hV]; split <;> omega) (by rw [eA c]; split <;> omega)⟩⟩⟩⟩⟩, fun w => ⟨⟨by omega, by omega⟩, fun u => ⟨by omega, ⟨by omega, fun z => go l4 v 1 (by unfold fnF; rw [hV]; split <;> omega) (by rw [eA c]; split <;> omega), fun z => ⟨by omega, fun y => ⟨by omega, go (td + i) v 1 (by unfold fnF; rw [hV]; split <;> omega) (by rw [eA c]; split <;> omega)⟩, fun y => ⟨by omega, fun x => go l4 v 1 (by unfold fnF; rw [hV]; split <;> omega) (by rw [eA c]; split <;> omega), fun x => ⟨by omega, go (td + i) v 1 (by unfold fnF; rw [hV]; split <;> omega) (by rw [eA c]; split <;> omega)⟩⟩⟩⟩⟩, fun u => ⟨by omega, ⟨by omega, fun z => go l4 v 1 (by unfold fnF; rw [hV]; split <;> omega) (by rw [eA c]; split <;> omega), fun z => ⟨by omega, fun y => ⟨by omega, go (td + i) v 1 (by unfold fnF; rw [hV]; split <;> omega) (by rw [eA c]; split <;> omega)⟩, fun y => ⟨by omega, fun x => go l4 v 1 (by unfold fnF; rw [hV]; split <;> omega) (by rw [eA c]; split <;> omega), fun x => ⟨by omega, go (td + i) v 1 (by unfold fnF; rw [hV]; split <;> omega) (by rw [eA c]; split <;> omega)⟩⟩⟩⟩⟩⟩⟩, fun c => ⟨by omega, ⟨by omega, by omega⟩, fun w => ⟨⟨by omega, by omega⟩, fun u => ⟨by omega, ⟨by omega, fun z => go l4 v 0 (by unfold fnF; rw [hV]; split <;> omega) (by rw [eB c]; split <;> omega), fun z => ⟨by omega, fun y => ⟨by omega, go (td + i) v 0 (by unfold fnF; rw [hV]; split <;> omega) (by rw [eB c]; split <;> omega)⟩, fun y => ⟨by omega, fun x => go l4 v 0 (by unfold fnF; rw [hV]; split <;> omega) (by rw [eB c]; split <;> omega), fun x => ⟨by omega, go (td + i) v 0 (by unfold fnF; rw [hV]; split <;> omega) (by rw [eB c]; split <;> omega)⟩⟩⟩⟩⟩, fun u => ⟨by omega, fun z => go l4 l8 0 (by unfold fnF; rw [hV]; split <;> omega) (by rw [eB c]; split <;> omega), fun z => ⟨by omega, fun y => ⟨by omega, go (td + i) l8 0 (by unfold fnF; rw [hV]; split <;> omega) (by rw [eB c]; split <;> omega)⟩, fun y => ⟨by omega, fun x => go l4 l8 0 (by unfold fnF; rw [hV]; split <;> omega) (by rw [eB c]; split <;> omega), fun x => ⟨by omega, go (td + i) l8 0 (by unfold fnF; rw [hV]; split <;> omega) (by rw [eB c]; split <;> omega)⟩⟩⟩⟩⟩, fun w => ⟨⟨by omega, by omega⟩, fun u => ⟨by omega, ⟨by omega, fun z => go l4 v 1 (by unfold fnF; rw [hV]; split <;> omega) (by rw [eB c]; split <;> omega), fun z => ⟨by omega, fun y => ⟨by omega, go (td + i) v 1 (by unfold fnF; rw [hV]; split <;> omega) (by rw [eB c]; split <;> omega)⟩, fun y => ⟨by omega, fun x => go l4 v 1 (by unfold fnF; rw [hV]; split <;> omega) (by rw [eB c]; split <;> omega), fun x => ⟨by omega, go (td + i) v 1 (by unfold fnF; rw [hV]; split <;> omega) (by rw [eB c]; split <;> omega)⟩⟩⟩⟩⟩, fun u => ⟨by omega, ⟨by omega, fun z => go l4 v 1 (by unfold fnF; rw [hV]; split <;> omega) (by rw [eB c]; split <;> omega), fun z => ⟨by omega, fun y => ⟨by omega, go (td + i) v 1 (by unfold fnF; rw [hV]; split <;> omega) (by rw [eB c]; split <;> omega)⟩, fun y => ⟨by omega, fun x => go l4 v 1 (by unfold fnF; rw [hV]; split <;> omega) (by rw [eB c]; split <;> omega), fun x => ⟨by omega, go (td + i) v 1 (by unfold fnF; rw [hV]; split <;> omega) (by rw [eB c]; split <;> omega)⟩⟩⟩⟩⟩⟩⟩⟩
theorem day_same2 {tw : Int} {H : Int → Int} {B D : Int} {f g : Int → Int} (h : RS tw H B D f g) (ht : tw ≤ 4) (hH : ∀ t, 0 ≤ t → t < tw → 3 ≤ H t ∧ H t ≤ 14) (hD : D < 5000) (bn : Int) (hz : (dayV f bn).2 = 0) : ∀ j, 22 ≤ j → ((j - 22) % 8 = 6 ∨ (j - 22) % 8 = 7) → dyR f bn j = f j := by
  have h1 := h.2.1
  have key : ∀ n : Nat, (n : Int) ≤ f 1 → (foI (dyF bn) (f, 0) (n : Int)).2 = 0 → ∀ j, 22 ≤ j → ((j - 22) % 8 = 6 ∨ (j - 22) % 8 = 7) → (foI (dyF bn) (f, 0) (n : Int)).1 j = f j := by
    intro n
    induction n with
    | zero => intro _ _ j _ _; rfl
    | succ n ih =>
      intro hn hz j j0 j1
      obtain ⟨s1, s2, s3, s4, s5⟩ := h.steps ht hH hD bn n (by omega)
      have ih := ih (by omega)
      rw [show ((n + 1 : Nat) : Int) = (n : Int) + 1 by omega, foI_s _ _ (by omega)] at hz ⊢
      generalize foI (dyF bn) (f, 0) (n : Int) = q at *
      obtain ⟨fq, eq⟩ := q
      dsimp only at *
      obtain ⟨el, a1, a2, a3, a4, a5, a6, a7⟩ := s1.2.2.2.2.2.1 n (by omega) (by omega)
      unfold dyF at hz ⊢
      dsimp only at hz ⊢
      split at hz
      · rename_i c
        rw [if_pos c]
        exact ih hz j j0 j1
      · rename_i c
        rw [if_neg c]
        split at hz
        · rename_i c2
          dsimp only at hz
          omega
        · rename_i c2
          rw [if_neg c2]
          dsimp only
          rw [payF_ne (by omega) (by omega) (by omega) (by omega)]
          exact ih hz j j0 j1
  intro j j0 j1
  have k := key (f 1).toNat (by omega)
  rw [show (((f 1).toNat : Nat) : Int) = f 1 by omega] at k
  unfold dyR
  rw [upf_ne (by omega)]
  exact k hz j j0 j1
theorem foI_c {α : Type} {F G : Int → α → α} {a : α} : ∀ m : Nat, (∀ i x, 0 ≤ i → i < (m : Int) → F i x = G i x) → foI F a (m : Int) = foI G a (m : Int) := by
  intro m
  induction m with
  | zero => intro _; rfl
  | succ m ih =>
    intro h
    rw [show ((m + 1 : Nat) : Int) = (m : Int) + 1 by omega, foI_s _ _ (by omega), foI_s _ _ (by omega), ih (fun i x a b => h i x a (by omega)), h _ _ (by omega) (by omega)]
theorem foI_cI {α : Type} {F G : Int → α → α} {a : α} {m : Int} (hm : 0 ≤ m) (h : ∀ i x, 0 ≤ i → i < m → F i x = G i x) : foI F a m = foI G a m := by
  have := foI_c (F := F) (G := G) (a := a) m.toNat (fun i x a b => h i x a (by omega))
  rwa [show ((m.toNat : Nat) : Int) = m by omega] at this
/-- the class's four counts at a row -/
def c4 (σ : SG) (r : Nat) (f : Int → Int) : Int → Int := fun k => if k = 6 then foI (fun t a => if hldV (bor (f (6 + t)) (f (18 + t))) (σ (r + 2) t) (foI (leB σ r t) (-1) (σ r 1)) = 0 then a else a + 1) 0 (σ r 0) else if k = 7 then foI (opB f) 0 (f 1) else if k = 8 then foI (bsB f) 0 4 else foI (yaB f) 0 (f 1)
theorem c4_same {σ : SG} {r : Nat} {tw : Int} {H : Int → Int} {B D : Int} {f g : Int → Int} (h : RS tw H B D f g) (ht : tw ≤ 4) (hH : ∀ t, 0 ≤ t → t < tw → 3 ≤ H t ∧ H t ≤ 14) (hD : D < 5000) (bn : Int) (hz : (dayV f bn).2 = 0) (h0 : 0 ≤ σ r 0 ∧ σ r 0 ≤ 4) (h1 : dyR f bn 1 = f 1) (k : Int) : c4 σ r (dyR f bn) k = c4 σ r f k := by
  have d1 := day_same h ht hH hD bn hz
  have d2 := day_same2 h ht hH hD bn hz
  have hf1 := h.2.1
  unfold c4
  split
  · exact foI_cI h0.1 (fun t a t0 t1 => by rw [d1 (6 + t) (by omega) (by omega), d1 (18 + t) (by omega) (by omega)])
  · split
    · rw [h1]
      exact foI_cI hf1.1 (fun i a i0 i1 => by unfold opB; rw [d2 (22 + i * 8 + 7) (by omega) (by omega)])
    · split
      · exact foI_cI (by decide) (fun t a t0 t1 => by unfold bsB; rw [d1 (14 + t) (by omega) (by omega)])
      · rw [h1]
        exact foI_cI hf1.1 (fun i a i0 i1 => by unfold yaB; rw [d2 (22 + i * 8 + 7) (by omega) (by omega), d2 (22 + i * 8 + 6) (by omega) (by omega)])
