/-! ===== a question's value, told by the class (wip/whole/9p.py) ===== -/
theorem fd_at0 : (MT[mX3_ofTwo]?.all fun t => decide (decode t.2.1 105 = .ok (.invokestatic 230, 3)) && decide (Cond.methodLink (cnm t.2.2.2.2) 230 fdY ∈ TX)) = true := by decide +kernel
theorem fd_at : ∀ t, MT[mX3_ofTwo]? = some t → decode t.2.1 105 = .ok (.invokestatic 230, 3) ∧ Cond.methodLink (cnm t.2.2.2.2) 230 fdY ∈ TX := by
  intro t ht
  have h := fd_at0
  rw [ht] at h
  have h : (decide (decode t.2.1 105 = .ok (.invokestatic 230, 3)) && decide (Cond.methodLink (cnm t.2.2.2.2) 230 fdY ∈ TX)) = true := h
  rw [Bool.and_eq_true] at h
  exact ⟨of_decide_eq_true h.1, of_decide_eq_true h.2⟩
theorem fdI_f {a b : Int} (hb : b ≠ 0) : fdI a b = a.fdiv b := by
  rw [fdiv_t hb]
  unfold fdI
  have h1 := Int.mul_tdiv_add_tmod a b
  have e : a.tdiv b * b = a ↔ Int.tmod a b = 0 := by
    rw [Int.mul_comm]
    constructor <;> intro z <;> omega
  by_cases c : ¬ a.tdiv b * b = a ∧ (decide (a < 0) != decide (b < 0)) = true
  · rw [if_pos c, if_pos ⟨fun z => c.1 (e.mpr z), fun z => ?_⟩]
    have h2 := c.2
    by_cases y : a < 0
    · have y2 := z.mp y
      rw [decide_eq_true y, decide_eq_true y2] at h2
      exact absurd h2 (by decide)
    · have y2 : ¬ b < 0 := fun w => y (z.mpr w)
      rw [decide_eq_false y, decide_eq_false y2] at h2
      exact absurd h2 (by decide)
  · rw [if_neg c, if_neg (fun z => c ⟨fun w => z.1 (e.mp w), ?_⟩)]
    by_cases y : a < 0
    · have y2 : ¬ b < 0 := fun w => z.2 ⟨fun _ => w, fun _ => y⟩
      rw [decide_eq_true y, decide_eq_false y2]
      decide
    · by_cases y2 : b < 0
      · rw [decide_eq_false y, decide_eq_true y2]
        decide
      · exact absurd ⟨fun w => absurd w y, fun w => absurd w y2⟩ z.2
theorem cof2 {d : Nat} {c a b : Int} {σ : SG} {Q : Option AV → SG → Prop} (hd : 4 ≤ d) (hc : 1 ≤ c ∧ c ≤ 11) (ha : QV a) (hb : QV b) (hq : c < 10 ∨ (QB a ∧ QB b)) (hQ : Q (some (.inl (qjn c a b))) σ) : AW d mX3_ofTwo 0 [some (.inl (-1 - ccq c)), some (.inl a), some (.inl b)] [] σ Q := by
  have hm := mul_r ha hb
  unfold QV at ha hb
  have hc' : c = 1 ∨ c = 2 ∨ c = 3 ∨ c = 4 ∨ c = 5 ∨ c = 6 ∨ c = 7 ∨ c = 8 ∨ c = 9 ∨ c = 10 ∨ c = 11 := by omega
  rcases hc' with z | z | z | z | z | z | z | z | z | z | z <;> subst z
  · rw [show (-1 - ccq 1 : Int) = 10 by decide]
    exact cT_0 ⟨by decide, ⟨fun z => absurd z (by decide), ⟨fun z => absurd z (by decide), ⟨fun _ => ⟨by omega, by omega, by omega, ⟨by omega, by omega⟩, by have hQ := hQ; unfold qjn at hQ; rwa [if_pos rfl] at hQ⟩, ⟨fun z => absurd z (by decide), ⟨fun z => absurd z (by decide), ⟨fun z => absurd z (by decide), ⟨fun z => absurd z (by decide), ⟨fun z => absurd z (by decide), ⟨fun z => absurd z (by decide), ⟨fun z => absurd z (by decide), trivial⟩⟩⟩⟩⟩⟩⟩⟩⟩⟩, fun z => absurd z (by decide)⟩
  · rw [show (-1 - ccq 2 : Int) = 11 by decide]
    exact cT_0 ⟨by decide, ⟨fun z => absurd z (by decide), ⟨fun z => absurd z (by decide), ⟨fun z => absurd z (by decide), ⟨fun _ => ⟨by omega, by omega, by omega, ⟨by omega, by omega⟩, by have hQ := hQ; unfold qjn at hQ; rwa [if_neg (by decide), if_pos rfl] at hQ⟩, ⟨fun z => absurd z (by decide), ⟨fun z => absurd z (by decide), ⟨fun z => absurd z (by decide), ⟨fun z => absurd z (by decide), ⟨fun z => absurd z (by decide), ⟨fun z => absurd z (by decide), trivial⟩⟩⟩⟩⟩⟩⟩⟩⟩⟩, fun z => absurd z (by decide)⟩
  · rw [show (-1 - ccq 3 : Int) = 12 by decide]
    exact cT_0 ⟨by decide, ⟨fun z => absurd z (by decide), ⟨fun z => absurd z (by decide), ⟨fun z => absurd z (by decide), ⟨fun z => absurd z (by decide), ⟨fun _ => ⟨by omega, by omega, by omega, ⟨by omega, hm⟩, by have hQ := hQ; unfold qjn at hQ; rwa [if_neg (by decide), if_neg (by decide), if_pos rfl] at hQ⟩, ⟨fun z => absurd z (by decide), ⟨fun z => absurd z (by decide), ⟨fun z => absurd z (by decide), ⟨fun z => absurd z (by decide), ⟨fun z => absurd z (by decide), trivial⟩⟩⟩⟩⟩⟩⟩⟩⟩⟩, fun z => absurd z (by decide)⟩
  · rw [show (-1 - ccq 4 : Int) = 13 by decide]
    exact cT_0 ⟨by decide, ⟨fun z => absurd z (by decide), ⟨fun z => absurd z (by decide), ⟨fun z => absurd z (by decide), ⟨fun z => absurd z (by decide), ⟨fun z => absurd z (by decide), ⟨fun _ => ⟨by omega, fun z => aw_fdiv fd_at (by omega) (by omega) (by omega) z (by decide) (cT_108 (by rw [fdI_f z]; have hQ := hQ; unfold qjn at hQ; rwa [if_neg (by decide), if_neg (by decide), if_neg (by decide), if_pos rfl, if_neg z] at hQ)), fun z => by have hQ := hQ; unfold qjn at hQ; rwa [if_neg (by decide), if_neg (by decide), if_neg (by decide), if_pos rfl, if_pos z] at hQ⟩, ⟨fun z => absurd z (by decide), ⟨fun z => absurd z (by decide), ⟨fun z => absurd z (by decide), ⟨fun z => absurd z (by decide), trivial⟩⟩⟩⟩⟩⟩⟩⟩⟩⟩, fun z => absurd z (by decide)⟩
  · rw [show (-1 - ccq 5 : Int) = 8 by decide]
    exact cT_0 ⟨by decide, ⟨fun _ => ⟨by omega, ⟨by omega, by omega⟩, by rw [show (if b < a then b else a) = (if a < b then a else b) by split <;> split <;> omega]; have hQ := hQ; unfold qjn at hQ; rwa [if_neg (by decide), if_neg (by decide), if_neg (by decide), if_neg (by decide), if_pos rfl] at hQ⟩, ⟨fun z => absurd z (by decide), ⟨fun z => absurd z (by decide), ⟨fun z => absurd z (by decide), ⟨fun z => absurd z (by decide), ⟨fun z => absurd z (by decide), ⟨fun z => absurd z (by decide), ⟨fun z => absurd z (by decide), ⟨fun z => absurd z (by decide), ⟨fun z => absurd z (by decide), trivial⟩⟩⟩⟩⟩⟩⟩⟩⟩⟩, fun z => absurd z (by decide)⟩
  · rw [show (-1 - ccq 6 : Int) = 9 by decide]
    exact cT_0 ⟨by decide, ⟨fun z => absurd z (by decide), ⟨fun _ => ⟨by omega, ⟨by omega, by omega⟩, by rw [show (if a < b then b else a) = (if b < a then a else b) by split <;> split <;> omega]; have hQ := hQ; unfold qjn at hQ; rwa [if_neg (by decide), if_neg (by decide), if_neg (by decide), if_neg (by decide), if_neg (by decide), if_pos rfl] at hQ⟩, ⟨fun z => absurd z (by decide), ⟨fun z => absurd z (by decide), ⟨fun z => absurd z (by decide), ⟨fun z => absurd z (by decide), ⟨fun z => absurd z (by decide), ⟨fun z => absurd z (by decide), ⟨fun z => absurd z (by decide), ⟨fun z => absurd z (by decide), trivial⟩⟩⟩⟩⟩⟩⟩⟩⟩⟩, fun z => absurd z (by decide)⟩
  · rw [show (-1 - ccq 7 : Int) = 14 by decide]
    exact cT_0 ⟨by decide, ⟨fun z => absurd z (by decide), ⟨fun z => absurd z (by decide), ⟨fun z => absurd z (by decide), ⟨fun z => absurd z (by decide), ⟨fun z => absurd z (by decide), ⟨fun z => absurd z (by decide), ⟨fun _ => ⟨⟨by omega, by omega⟩, fun z => by have hQ := hQ; unfold qjn at hQ; rwa [if_neg (by decide), if_neg (by decide), if_neg (by decide), if_neg (by decide), if_neg (by decide), if_neg (by decide), if_pos rfl, if_neg (by omega)] at hQ, fun z => by have hQ := hQ; unfold qjn at hQ; rwa [if_neg (by decide), if_neg (by decide), if_neg (by decide), if_neg (by decide), if_neg (by decide), if_neg (by decide), if_pos rfl, if_pos z] at hQ⟩, ⟨fun z => absurd z (by decide), ⟨fun z => absurd z (by decide), ⟨fun z => absurd z (by decide), trivial⟩⟩⟩⟩⟩⟩⟩⟩⟩⟩, fun z => absurd z (by decide)⟩
  · rw [show (-1 - ccq 8 : Int) = 15 by decide]
    exact cT_0 ⟨by decide, ⟨fun z => absurd z (by decide), ⟨fun z => absurd z (by decide), ⟨fun z => absurd z (by decide), ⟨fun z => absurd z (by decide), ⟨fun z => absurd z (by decide), ⟨fun z => absurd z (by decide), ⟨fun z => absurd z (by decide), ⟨fun _ => ⟨⟨by omega, by omega⟩, fun z => by have hQ := hQ; unfold qjn at hQ; rwa [if_neg (by decide), if_neg (by decide), if_neg (by decide), if_neg (by decide), if_neg (by decide), if_neg (by decide), if_neg (by decide), if_pos rfl, if_neg (by omega)] at hQ, fun z => by have hQ := hQ; unfold qjn at hQ; rwa [if_neg (by decide), if_neg (by decide), if_neg (by decide), if_neg (by decide), if_neg (by decide), if_neg (by decide), if_neg (by decide), if_pos rfl, if_pos z] at hQ⟩, ⟨fun z => absurd z (by decide), ⟨fun z => absurd z (by decide), trivial⟩⟩⟩⟩⟩⟩⟩⟩⟩⟩, fun z => absurd z (by decide)⟩
  · rw [show (-1 - ccq 9 : Int) = 16 by decide]
    exact cT_0 ⟨by decide, ⟨fun z => absurd z (by decide), ⟨fun z => absurd z (by decide), ⟨fun z => absurd z (by decide), ⟨fun z => absurd z (by decide), ⟨fun z => absurd z (by decide), ⟨fun z => absurd z (by decide), ⟨fun z => absurd z (by decide), ⟨fun z => absurd z (by decide), ⟨fun _ => ⟨⟨by omega, by omega⟩, fun z => by have hQ := hQ; unfold qjn at hQ; rwa [if_neg (by decide), if_neg (by decide), if_neg (by decide), if_neg (by decide), if_neg (by decide), if_neg (by decide), if_neg (by decide), if_neg (by decide), if_pos rfl, if_neg z] at hQ, fun z => by have hQ := hQ; unfold qjn at hQ; rwa [if_neg (by decide), if_neg (by decide), if_neg (by decide), if_neg (by decide), if_neg (by decide), if_neg (by decide), if_neg (by decide), if_neg (by decide), if_pos rfl, if_pos z] at hQ⟩, ⟨fun z => absurd z (by decide), trivial⟩⟩⟩⟩⟩⟩⟩⟩⟩⟩, fun z => absurd z (by decide)⟩
  · rw [show (-1 - ccq 10 : Int) = 17 by decide]
    obtain ⟨qa, qb⟩ : QB a ∧ QB b := hq.elim (fun z => absurd z (by decide)) id
    unfold QB at qa qb
    exact cT_0 ⟨by decide, ⟨fun z => absurd z (by decide), ⟨fun z => absurd z (by decide), ⟨fun z => absurd z (by decide), ⟨fun z => absurd z (by decide), ⟨fun z => absurd z (by decide), ⟨fun z => absurd z (by decide), ⟨fun z => absurd z (by decide), ⟨fun z => absurd z (by decide), ⟨fun z => absurd z (by decide), ⟨fun _ => ⟨by omega, fun z => by have hQ := hQ; unfold qjn at hQ; rw [if_neg (by decide), if_neg (by decide), if_neg (by decide), if_neg (by decide), if_neg (by decide), if_neg (by decide), if_neg (by decide), if_neg (by decide), if_neg (by decide), if_pos rfl, z, Int.zero_mul] at hQ; exact hQ, fun z => ⟨by omega, fun y => by have hQ := hQ; unfold qjn at hQ; rw [if_neg (by decide), if_neg (by decide), if_neg (by decide), if_neg (by decide), if_neg (by decide), if_neg (by decide), if_neg (by decide), if_neg (by decide), if_neg (by decide), if_pos rfl, y, Int.mul_zero] at hQ; exact hQ, fun y => by have hQ := hQ; unfold qjn at hQ; rw [if_neg (by decide), if_neg (by decide), if_neg (by decide), if_neg (by decide), if_neg (by decide), if_neg (by decide), if_neg (by decide), if_neg (by decide), if_neg (by decide), if_pos rfl, show a = 1 by omega, show b = 1 by omega] at hQ; exact hQ⟩⟩, trivial⟩⟩⟩⟩⟩⟩⟩⟩⟩⟩, fun z => absurd z (by decide)⟩
  · rw [show (-1 - ccq 11 : Int) = 18 by decide]
    obtain ⟨qa, qb⟩ : QB a ∧ QB b := hq.elim (fun z => absurd z (by decide)) id
    unfold QB at qa qb
    exact cT_0 ⟨by decide, ⟨fun z => absurd z (by decide), ⟨fun z => absurd z (by decide), ⟨fun z => absurd z (by decide), ⟨fun z => absurd z (by decide), ⟨fun z => absurd z (by decide), ⟨fun z => absurd z (by decide), ⟨fun z => absurd z (by decide), ⟨fun z => absurd z (by decide), ⟨fun z => absurd z (by decide), ⟨fun z => absurd z (by decide), trivial⟩⟩⟩⟩⟩⟩⟩⟩⟩⟩, fun _ => ⟨by omega, fun z => by have hQ := hQ; unfold qjn at hQ; rwa [if_neg (by decide), if_neg (by decide), if_neg (by decide), if_neg (by decide), if_neg (by decide), if_neg (by decide), if_neg (by decide), if_neg (by decide), if_neg (by decide), if_neg (by decide), if_pos (by omega)] at hQ, fun z => ⟨by omega, fun y => by have hQ := hQ; unfold qjn at hQ; rwa [if_neg (by decide), if_neg (by decide), if_neg (by decide), if_neg (by decide), if_neg (by decide), if_neg (by decide), if_neg (by decide), if_neg (by decide), if_neg (by decide), if_neg (by decide), if_neg (by omega)] at hQ, fun y => by have hQ := hQ; unfold qjn at hQ; rwa [if_neg (by decide), if_neg (by decide), if_neg (by decide), if_neg (by decide), if_neg (by decide), if_neg (by decide), if_neg (by decide), if_neg (by decide), if_neg (by decide), if_neg (by decide), if_pos (by omega)] at hQ⟩⟩⟩
def EQC (T σ : SG) : Prop := ∀ p, p ≠ 29 → σ p = T p
def cOv (T : SG) (r : Nat) (k x : Int) : Int := if k = 0 then (if 0 ≤ x ∧ x < T r 0 then qcp (T 37 (2 + x)) else 0) else if k = 1 then (if 0 ≤ x ∧ x < T r 0 then popc (bor (T 37 (6 + x)) (T 37 (18 + x))) else 0) else (if 0 ≤ x ∧ x < T r 1 then climbV (bor (T 37 (6 + T (r + 6) x)) (T 37 (18 + T (r + 6) x))) (T (r + 2) (T (r + 6) x)) (T (r + 7) x) 0 else 0)
def cPv (T : SG) (k : Int) : Int := if k = 0 then T 37 0 else if k = 1 then T 27 6 else if k = 2 then T 27 7 else if k = 3 then T 27 8 else T 27 9
def COk (T : SG) (r : Nat) : Prop := (0 ≤ T r 0 ∧ T r 0 ≤ 4) ∧ (0 ≤ T r 1 ∧ T r 1 ≤ 8) ∧ (∀ t, 0 ≤ t → t < T r 0 → (0 ≤ bor (T 37 (6 + t)) (T 37 (18 + t)) ∧ bor (T 37 (6 + t)) (T 37 (18 + t)) < 16384) ∧ r3 (T 37 (2 + t)) ∧ (0 ≤ T (r + 2) t ∧ T (r + 2) t ≤ 14)) ∧ ∀ g, 0 ≤ g → g < T r 1 → (0 ≤ T (r + 6) g ∧ T (r + 6) g < T r 0) ∧ (0 ≤ T (r + 7) g ∧ T (r + 7) g ≤ 100)
theorem cof1 {d r : Nat} {k x : Int} {σ : SG} {Q : Option AV → SG → Prop} (hr : r = 5 ∨ r = 16) (hd : 5 ≤ d) (hk : 5 ≤ k ∧ k ≤ 7) (hx : QV x) (hT : COk σ r) (hQ : Q (some (.inl (cOv σ r (k - 5) x))) σ) : AW d mX3_ofOne 0 [some (.inl k), some (.inl x), some (.inr (.inr r)), some (.inr (.inr 36)), none] [] σ Q := by
  obtain ⟨h0, h1, hTw, hG⟩ := hT
  unfold QV at hx
  unfold cOv at hQ
  have q0 : k = 5 → ¬ (0 ≤ x ∧ x < σ r 0) → Q (some (.inl 0)) σ := fun a b => by rwa [if_pos (by omega), if_neg b] at hQ
  have q1 : k = 6 → ¬ (0 ≤ x ∧ x < σ r 0) → Q (some (.inl 0)) σ := fun a b => by rwa [if_neg (by omega), if_pos (by omega), if_neg b] at hQ
  have q2 : k = 7 → ¬ (0 ≤ x ∧ x < σ r 1) → Q (some (.inl 0)) σ := fun a b => by rwa [if_neg (by omega), if_neg (by omega), if_neg b] at hQ
  have r7 : k = 7 → (0 < d) ∧ (r3 x) ∧ (x < 0 → Q (some (.inl 0)) σ) ∧ (0 ≤ x → (r3 x ∧ r3 (σ r 1)) ∧ (x < (σ r 1) → (0 ≤ x ∧ x < 8) ∧ (0 < d - 1) ∧ (0 ≤ (6 + (σ (r + 6) x)) ∧ (6 + (σ (r + 6) x)) < 214) ∧ (0 ≤ (18 + (σ (r + 6) x)) ∧ (18 + (σ (r + 6) x)) < 214) ∧ (0 ≤ (σ (r + 6) x) ∧ (σ (r + 6) x) < 4) ∧ (0 ≤ x ∧ x < 8) ∧ (0 < d - 1) ∧ (clsO (d - 1 - 1) (bor (σ 37 (6 + (σ (r + 6) x))) (σ 37 (18 + (σ (r + 6) x)))) (σ (r + 2) (σ (r + 6) x)) (σ (r + 7) x) 0) ∧ Q (some (.inl (climbV (bor (σ 37 (6 + (σ (r + 6) x))) (σ 37 (18 + (σ (r + 6) x)))) (σ (r + 2) (σ (r + 6) x)) (σ (r + 7) x) 0))) σ) ∧ ((σ r 1) ≤ x → Q (some (.inl 0)) σ)) := by
    intro ck
    refine ⟨by omega, by omega, fun z => q2 ck (by omega), fun z => ⟨by omega, fun y => ?_, fun y => q2 ck (by omega)⟩⟩
    obtain ⟨g1, g2⟩ := hG x z y
    obtain ⟨t1, t2, t3⟩ := hTw _ g1.1 g1.2
    rw [if_neg (by omega), if_neg (by omega), if_pos ⟨z, y⟩] at hQ
    exact ⟨by omega, by omega, by omega, by omega, by omega, by omega, by omega, ⟨by omega, t1.1, by omega, by decide, by decide, by omega, by omega, by omega, by omega⟩, hQ⟩
  refine cO_0 hr ⟨by omega, fun z => ⟨by omega, ⟨fun c => q0 c (by omega), fun c => q1 c (by omega), r7, trivial⟩, fun c => by omega⟩, fun z => ⟨by omega, fun y => ⟨by omega, ⟨fun c => q0 c (by omega), fun c => q1 c (by omega), r7, trivial⟩, fun c => by omega⟩, fun y => ⟨by omega, ⟨fun c => ?_, fun c => ?_, r7, trivial⟩, fun c => by omega⟩⟩⟩
  · obtain ⟨t1, t2, t3⟩ := hTw x z y
    rw [if_pos (by omega), if_pos ⟨z, y⟩] at hQ
    exact ⟨by omega, by omega, t2, by omega, ⟨by omega, by omega⟩, hQ⟩
  · obtain ⟨t1, t2, t3⟩ := hTw x z y
    rw [if_neg (by omega), if_pos (by omega), if_pos ⟨z, y⟩] at hQ
    exact ⟨by omega, by omega, by omega, by omega, t1, hQ⟩
theorem cofN {d r : Nat} {x : Int} {σ : SG} {Q : Option AV → SG → Prop} (hr : r = 5 ∨ r = 16) (hd : 5 ≤ d) (hx : QB x) (hT : COk σ r) (hQ : Q (some (.inl (1 - x))) σ) : AW d mX3_ofOne 0 [some (.inl 19), some (.inl x), some (.inr (.inr r)), some (.inr (.inr 36)), none] [] σ Q := by
  obtain ⟨h0, h1, hTw, hG⟩ := hT
  unfold QB at hx
  have q0 : x ≠ 0 → Q (some (.inl 0)) σ := fun a => by rwa [show 1 - x = 0 by omega] at hQ
  have q1 : x = 0 → Q (some (.inl 1)) σ := fun a => by rwa [show 1 - x = 1 by omega] at hQ
  have no : ∀ {P : Prop} {m : Int}, m < 19 → ((19 : Int) = m → P) := fun a b => by omega
  exact cO_0 hr ⟨by omega, fun z => by omega, fun z => ⟨by omega, fun y => ⟨by omega, ⟨no (by decide), no (by decide), no (by decide), trivial⟩, fun _ => ⟨by omega, q0, q1⟩⟩, fun y => ⟨by omega, ⟨no (by decide), no (by decide), no (by decide), trivial⟩, fun _ => ⟨by omega, q0, q1⟩⟩⟩⟩
