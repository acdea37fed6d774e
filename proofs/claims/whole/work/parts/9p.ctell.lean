/-! ===== a question's value, told by the class (wip/whole/9p.py) ===== -/
theorem fd_at0 : (MT[mX3_ofTwo]?.all fun t => decide (decode t.2.1 105 = .ok (.invokestatic 230, 3)) && decide (Cond.methodLink (cnm t.2.2.2.2) 230 fdY ∈ TX)) = true := by decide +kernel
theorem fd_at : ∀ t, MT[mX3_ofTwo]? = some t → decode t.2.1 105 = .ok (.invokestatic 230, 3) ∧ Cond.methodLink (cnm t.2.2.2.2) 230 fdY ∈ TX := by
  intro t ht
  have h := fd_at0
  rw [ht] at h
  have h : (decide (decode t.2.1 105 = .ok (.invokestatic 230, 3)) && decide (Cond.methodLink (cnm t.2.2.2.2) 230 fdY ∈ TX)) = true := h
  rw [Bool.and_eq_true] at h
  exact ⟨of_decide_eq_true h.1, of_decide_eq_true h.2⟩
theorem fdI_f {a b : Int} (hb : b ≠ 0) : fdI a b = a.fdiv b := by
  rw [fdiv_t hb]
  unfold fdI
  have h1 := Int.mul_tdiv_add_tmod a b
  have e : a.tdiv b * b = a ↔ Int.tmod a b = 0 := by
    rw [Int.mul_comm]
    constructor <;> intro z <;> omega
  by_cases c : ¬ a.tdiv b * b = a ∧ (decide (a < 0) != decide (b < 0)) = true
  · have hz : ¬ (a < 0 ↔ b < 0) := by
      intro z
      have h2 := c.2
      by_cases y : a < 0
      · have y2 := z.mp y
        rw [decide_eq_true y, decide_eq_true y2] at h2
        exact absurd h2 (by decide)
      · have y2 : ¬ b < 0 := fun w => y (z.mpr w)
        rw [decide_eq_false y, decide_eq_false y2] at h2
        exact absurd h2 (by decide)
    rw [if_pos c, if_pos ⟨fun z => c.1 (e.mpr z), hz⟩]
  · have hz : ¬ (Int.tmod a b ≠ 0 ∧ ¬ (a < 0 ↔ b < 0)) := by
      intro z
      refine c ⟨fun w => z.1 (e.mp w), ?_⟩
      by_cases y : a < 0
      · have y2 : ¬ b < 0 := fun w => z.2 ⟨fun _ => w, fun _ => y⟩
        rw [decide_eq_true y, decide_eq_false y2]
        decide
      · by_cases y2 : b < 0
        · rw [decide_eq_false y, decide_eq_true y2]
          decide
        · exact absurd ⟨fun w => absurd w y, fun w => absurd w y2⟩ z.2
    rw [if_neg c, if_neg hz]
theorem cof2 {d : Nat} {c a b : Int} {σ : SG} {Q : Option AV → SG → Prop} (hd : 4 ≤ d) (hc : 1 ≤ c ∧ c ≤ 11) (ha : QV a) (hb : QV b) (hq : c < 10 ∨ (QB a ∧ QB b)) (hQ : Q (some (.inl (qjn c a b))) σ) : AW d mX3_ofTwo 0 [some (.inl (-1 - ccq c)), some (.inl a), some (.inl b)] [] σ Q := by
  have hm := mul_r ha hb
  unfold QV at ha hb
  have hc' : c = 1 ∨ c = 2 ∨ c = 3 ∨ c = 4 ∨ c = 5 ∨ c = 6 ∨ c = 7 ∨ c = 8 ∨ c = 9 ∨ c = 10 ∨ c = 11 := by omega
  rcases hc' with z | z | z | z | z | z | z | z | z | z | z <;> subst z
  · rw [show (-1 - ccq 1 : Int) = 10 by decide]
    exact cT_0 ⟨by decide, ⟨fun z => absurd z (by decide), ⟨fun z => absurd z (by decide), ⟨fun _ => ⟨by omega, by omega, by omega, ⟨by omega, by omega⟩, by have hQ := hQ; unfold qjn at hQ; rwa [if_pos rfl] at hQ⟩, ⟨fun z => absurd z (by decide), ⟨fun z => absurd z (by decide), ⟨fun z => absurd z (by decide), ⟨fun z => absurd z (by decide), ⟨fun z => absurd z (by decide), ⟨fun z => absurd z (by decide), ⟨fun z => absurd z (by decide), trivial⟩⟩⟩⟩⟩⟩⟩⟩⟩⟩, fun z => absurd z (by decide)⟩
  · rw [show (-1 - ccq 2 : Int) = 11 by decide]
    exact cT_0 ⟨by decide, ⟨fun z => absurd z (by decide), ⟨fun z => absurd z (by decide), ⟨fun z => absurd z (by decide), ⟨fun _ => ⟨by omega, by omega, by omega, ⟨by omega, by omega⟩, by have hQ := hQ; unfold qjn at hQ; rwa [if_neg (by decide), if_pos rfl] at hQ⟩, ⟨fun z => absurd z (by decide), ⟨fun z => absurd z (by decide), ⟨fun z => absurd z (by decide), ⟨fun z => absurd z (by decide), ⟨fun z => absurd z (by decide), ⟨fun z => absurd z (by decide), trivial⟩⟩⟩⟩⟩⟩⟩⟩⟩⟩, fun z => absurd z (by decide)⟩
  · rw [show (-1 - ccq 3 : Int) = 12 by decide]
    exact cT_0 ⟨by decide, ⟨fun z => absurd z (by decide), ⟨fun z => absurd z (by decide), ⟨fun z => absurd z (by decide), ⟨fun z => absurd z (by decide), ⟨fun _ => ⟨by omega, by omega, by omega, ⟨by omega, hm⟩, by have hQ := hQ; unfold qjn at hQ; rwa [if_neg (by decide), if_neg (by decide), if_pos rfl] at hQ⟩, ⟨fun z => absurd z (by decide), ⟨fun z => absurd z (by decide), ⟨fun z => absurd z (by decide), ⟨fun z => absurd z (by decide), ⟨fun z => absurd z (by decide), trivial⟩⟩⟩⟩⟩⟩⟩⟩⟩⟩, fun z => absurd z (by decide)⟩
  · rw [show (-1 - ccq 4 : Int) = 13 by decide]
    exact cT_0 ⟨by decide, ⟨fun z => absurd z (by decide), ⟨fun z => absurd z (by decide), ⟨fun z => absurd z (by decide), ⟨fun z => absurd z (by decide), ⟨fun z => absurd z (by decide), ⟨fun _ => ⟨by omega, fun z => aw_fdiv fd_at (by omega) (by omega) (by omega) z (by decide) (cT_108 (by rw [fdI_f z]; have hQ := hQ; unfold qjn at hQ; rwa [if_neg (by decide), if_neg (by decide), if_neg (by decide), if_pos rfl, if_neg z] at hQ)), fun z => by have hQ := hQ; unfold qjn at hQ; rwa [if_neg (by decide), if_neg (by decide), if_neg (by decide), if_pos rfl, if_pos z] at hQ⟩, ⟨fun z => absurd z (by decide), ⟨fun z => absurd z (by decide), ⟨fun z => absurd z (by decide), ⟨fun z => absurd z (by decide), trivial⟩⟩⟩⟩⟩⟩⟩⟩⟩⟩, fun z => absurd z (by decide)⟩
  · rw [show (-1 - ccq 5 : Int) = 8 by decide]
    exact cT_0 ⟨by decide, ⟨fun _ => ⟨by omega, ⟨by omega, by omega⟩, by rw [show (if b < a then b else a) = (if a < b then a else b) by split <;> split <;> omega]; have hQ := hQ; unfold qjn at hQ; rwa [if_neg (by decide), if_neg (by decide), if_neg (by decide), if_neg (by decide), if_pos rfl] at hQ⟩, ⟨fun z => absurd z (by decide), ⟨fun z => absurd z (by decide), ⟨fun z => absurd z (by decide), ⟨fun z => absurd z (by decide), ⟨fun z => absurd z (by decide), ⟨fun z => absurd z (by decide), ⟨fun z => absurd z (by decide), ⟨fun z => absurd z (by decide), ⟨fun z => absurd z (by decide), trivial⟩⟩⟩⟩⟩⟩⟩⟩⟩⟩, fun z => absurd z (by decide)⟩
  · rw [show (-1 - ccq 6 : Int) = 9 by decide]
    exact cT_0 ⟨by decide, ⟨fun z => absurd z (by decide), ⟨fun _ => ⟨by omega, ⟨by omega, by omega⟩, by rw [show (if a < b then b else a) = (if b < a then a else b) by split <;> split <;> omega]; have hQ := hQ; unfold qjn at hQ; rwa [if_neg (by decide), if_neg (by decide), if_neg (by decide), if_neg (by decide), if_neg (by decide), if_pos rfl] at hQ⟩, ⟨fun z => absurd z (by decide), ⟨fun z => absurd z (by decide), ⟨fun z => absurd z (by decide), ⟨fun z => absurd z (by decide), ⟨fun z => absurd z (by decide), ⟨fun z => absurd z (by decide), ⟨fun z => absurd z (by decide), ⟨fun z => absurd z (by decide), trivial⟩⟩⟩⟩⟩⟩⟩⟩⟩⟩, fun z => absurd z (by decide)⟩
  · rw [show (-1 - ccq 7 : Int) = 14 by decide]
    exact cT_0 ⟨by decide, ⟨fun z => absurd z (by decide), ⟨fun z => absurd z (by decide), ⟨fun z => absurd z (by decide), ⟨fun z => absurd z (by decide), ⟨fun z => absurd z (by decide), ⟨fun z => absurd z (by decide), ⟨fun _ => ⟨⟨by omega, by omega⟩, fun z => by have hQ := hQ; unfold qjn at hQ; rwa [if_neg (by decide), if_neg (by decide), if_neg (by decide), if_neg (by decide), if_neg (by decide), if_neg (by decide), if_pos rfl, if_neg (by omega)] at hQ, fun z => by have hQ := hQ; unfold qjn at hQ; rwa [if_neg (by decide), if_neg (by decide), if_neg (by decide), if_neg (by decide), if_neg (by decide), if_neg (by decide), if_pos rfl, if_pos z] at hQ⟩, ⟨fun z => absurd z (by decide), ⟨fun z => absurd z (by decide), ⟨fun z => absurd z (by decide), trivial⟩⟩⟩⟩⟩⟩⟩⟩⟩⟩, fun z => absurd z (by decide)⟩
  · rw [show (-1 - ccq 8 : Int) = 15 by decide]
    exact cT_0 ⟨by decide, ⟨fun z => absurd z (by decide), ⟨fun z => absurd z (by decide), ⟨fun z => absurd z (by decide), ⟨fun z => absurd z (by decide), ⟨fun z => absurd z (by decide), ⟨fun z => absurd z (by decide), ⟨fun z => absurd z (by decide), ⟨fun _ => ⟨⟨by omega, by omega⟩, fun z => by have hQ := hQ; unfold qjn at hQ; rwa [if_neg (by decide), if_neg (by decide), if_neg (by decide), if_neg (by decide), if_neg (by decide), if_neg (by decide), if_neg (by decide), if_pos rfl, if_neg (by omega)] at hQ, fun z => by have hQ := hQ; unfold qjn at hQ; rwa [if_neg (by decide), if_neg (by decide), if_neg (by decide), if_neg (by decide), if_neg (by decide), if_neg (by decide), if_neg (by decide), if_pos rfl, if_pos z] at hQ⟩, ⟨fun z => absurd z (by decide), ⟨fun z => absurd z (by decide), trivial⟩⟩⟩⟩⟩⟩⟩⟩⟩⟩, fun z => absurd z (by decide)⟩
  · rw [show (-1 - ccq 9 : Int) = 16 by decide]
    exact cT_0 ⟨by decide, ⟨fun z => absurd z (by decide), ⟨fun z => absurd z (by decide), ⟨fun z => absurd z (by decide), ⟨fun z => absurd z (by decide), ⟨fun z => absurd z (by decide), ⟨fun z => absurd z (by decide), ⟨fun z => absurd z (by decide), ⟨fun z => absurd z (by decide), ⟨fun _ => ⟨⟨by omega, by omega⟩, fun z => by have hQ := hQ; unfold qjn at hQ; rwa [if_neg (by decide), if_neg (by decide), if_neg (by decide), if_neg (by decide), if_neg (by decide), if_neg (by decide), if_neg (by decide), if_neg (by decide), if_pos rfl, if_neg z] at hQ, fun z => by have hQ := hQ; unfold qjn at hQ; rwa [if_neg (by decide), if_neg (by decide), if_neg (by decide), if_neg (by decide), if_neg (by decide), if_neg (by decide), if_neg (by decide), if_neg (by decide), if_pos rfl, if_pos z] at hQ⟩, ⟨fun z => absurd z (by decide), trivial⟩⟩⟩⟩⟩⟩⟩⟩⟩⟩, fun z => absurd z (by decide)⟩
  · rw [show (-1 - ccq 10 : Int) = 17 by decide]
    obtain ⟨qa, qb⟩ : QB a ∧ QB b := hq.elim (fun z => absurd z (by decide)) id
    unfold QB at qa qb
    exact cT_0 ⟨by decide, ⟨fun z => absurd z (by decide), ⟨fun z => absurd z (by decide), ⟨fun z => absurd z (by decide), ⟨fun z => absurd z (by decide), ⟨fun z => absurd z (by decide), ⟨fun z => absurd z (by decide), ⟨fun z => absurd z (by decide), ⟨fun z => absurd z (by decide), ⟨fun z => absurd z (by decide), ⟨fun _ => ⟨by omega, fun z => by have hQ := hQ; unfold qjn at hQ; rw [if_neg (by decide), if_neg (by decide), if_neg (by decide), if_neg (by decide), if_neg (by decide), if_neg (by decide), if_neg (by decide), if_neg (by decide), if_neg (by decide), if_pos rfl, z, Int.zero_mul] at hQ; exact hQ, fun z => ⟨by omega, fun y => by have hQ := hQ; unfold qjn at hQ; rw [if_neg (by decide), if_neg (by decide), if_neg (by decide), if_neg (by decide), if_neg (by decide), if_neg (by decide), if_neg (by decide), if_neg (by decide), if_neg (by decide), if_pos rfl, y, Int.mul_zero] at hQ; exact hQ, fun y => by have hQ := hQ; unfold qjn at hQ; rw [if_neg (by decide), if_neg (by decide), if_neg (by decide), if_neg (by decide), if_neg (by decide), if_neg (by decide), if_neg (by decide), if_neg (by decide), if_neg (by decide), if_pos rfl, show a = 1 by omega, show b = 1 by omega] at hQ; exact hQ⟩⟩, trivial⟩⟩⟩⟩⟩⟩⟩⟩⟩⟩, fun z => absurd z (by decide)⟩
  · rw [show (-1 - ccq 11 : Int) = 18 by decide]
    obtain ⟨qa, qb⟩ : QB a ∧ QB b := hq.elim (fun z => absurd z (by decide)) id
    unfold QB at qa qb
    exact cT_0 ⟨by decide, ⟨fun z => absurd z (by decide), ⟨fun z => absurd z (by decide), ⟨fun z => absurd z (by decide), ⟨fun z => absurd z (by decide), ⟨fun z => absurd z (by decide), ⟨fun z => absurd z (by decide), ⟨fun z => absurd z (by decide), ⟨fun z => absurd z (by decide), ⟨fun z => absurd z (by decide), ⟨fun z => absurd z (by decide), trivial⟩⟩⟩⟩⟩⟩⟩⟩⟩⟩, fun _ => ⟨by omega, fun z => by have hQ := hQ; unfold qjn at hQ; rwa [if_neg (by decide), if_neg (by decide), if_neg (by decide), if_neg (by decide), if_neg (by decide), if_neg (by decide), if_neg (by decide), if_neg (by decide), if_neg (by decide), if_neg (by decide), if_pos (by omega)] at hQ, fun z => ⟨by omega, fun y => by have hQ := hQ; unfold qjn at hQ; rwa [if_neg (by decide), if_neg (by decide), if_neg (by decide), if_neg (by decide), if_neg (by decide), if_neg (by decide), if_neg (by decide), if_neg (by decide), if_neg (by decide), if_neg (by decide), if_neg (by omega)] at hQ, fun y => by have hQ := hQ; unfold qjn at hQ; rwa [if_neg (by decide), if_neg (by decide), if_neg (by decide), if_neg (by decide), if_neg (by decide), if_neg (by decide), if_neg (by decide), if_neg (by decide), if_neg (by decide), if_neg (by decide), if_pos (by omega)] at hQ⟩⟩⟩
def EQC (T σ : SG) : Prop := ∀ p, p ≠ 29 → σ p = T p
def cOv (T : SG) (r : Nat) (k x : Int) : Int := if k = 0 then (if 0 ≤ x ∧ x < T r 0 then qcp (T 37 (2 + x)) else 0) else if k = 1 then (if 0 ≤ x ∧ x < T r 0 then popc (bor (T 37 (6 + x)) (T 37 (18 + x))) else 0) else (if 0 ≤ x ∧ x < T r 1 then climbV (bor (T 37 (6 + T (r + 6) x)) (T 37 (18 + T (r + 6) x))) (T (r + 2) (T (r + 6) x)) (T (r + 7) x) 0 else 0)
def cPv (T : SG) (k : Int) : Int := if k = 0 then T 37 0 else if k = 1 then T 27 6 else if k = 2 then T 27 7 else if k = 3 then T 27 8 else T 27 9
def COk (T : SG) (r : Nat) : Prop := (0 ≤ T r 0 ∧ T r 0 ≤ 4) ∧ (0 ≤ T r 1 ∧ T r 1 ≤ 8) ∧ (∀ t, 0 ≤ t → t < T r 0 → (0 ≤ bor (T 37 (6 + t)) (T 37 (18 + t)) ∧ bor (T 37 (6 + t)) (T 37 (18 + t)) < 16384) ∧ r3 (T 37 (2 + t)) ∧ (0 ≤ T (r + 2) t ∧ T (r + 2) t ≤ 14)) ∧ ∀ g, 0 ≤ g → g < T r 1 → (0 ≤ T (r + 6) g ∧ T (r + 6) g < T r 0) ∧ (0 ≤ T (r + 7) g ∧ T (r + 7) g ≤ 100)
theorem cof1 {d r : Nat} {k x : Int} {σ : SG} {Q : Option AV → SG → Prop} (hr : r = 5 ∨ r = 16) (hd : 5 ≤ d) (hk : 5 ≤ k ∧ k ≤ 7) (hx : QV x) (hT : COk σ r) (hQ : Q (some (.inl (cOv σ r (k - 5) x))) σ) : AW d mX3_ofOne 0 [some (.inl k), some (.inl x), some (.inr (.inr r)), some (.inr (.inr 36)), none] [] σ Q := by
  obtain ⟨h0, h1, hTw, hG⟩ := hT
  unfold QV at hx
  unfold cOv at hQ
  have q0 : k = 5 → ¬ (0 ≤ x ∧ x < σ r 0) → Q (some (.inl 0)) σ := fun a b => by rwa [if_pos (by omega), if_neg b] at hQ
  have q1 : k = 6 → ¬ (0 ≤ x ∧ x < σ r 0) → Q (some (.inl 0)) σ := fun a b => by rwa [if_neg (by omega), if_pos (by omega), if_neg b] at hQ
  have q2 : k = 7 → ¬ (0 ≤ x ∧ x < σ r 1) → Q (some (.inl 0)) σ := fun a b => by rwa [if_neg (by omega), if_neg (by omega), if_neg b] at hQ
  have r7 : k = 7 → (0 < d) ∧ (r3 x) ∧ (x < 0 → Q (some (.inl 0)) σ) ∧ (0 ≤ x → (r3 x ∧ r3 (σ r 1)) ∧ (x < (σ r 1) → (0 ≤ x ∧ x < 8) ∧ (0 < d - 1) ∧ (0 ≤ (6 + (σ (r + 6) x)) ∧ (6 + (σ (r + 6) x)) < 214) ∧ (0 ≤ (18 + (σ (r + 6) x)) ∧ (18 + (σ (r + 6) x)) < 214) ∧ (0 ≤ (σ (r + 6) x) ∧ (σ (r + 6) x) < 4) ∧ (0 ≤ x ∧ x < 8) ∧ (0 < d - 1) ∧ (clsO (d - 1 - 1) (bor (σ 37 (6 + (σ (r + 6) x))) (σ 37 (18 + (σ (r + 6) x)))) (σ (r + 2) (σ (r + 6) x)) (σ (r + 7) x) 0) ∧ Q (some (.inl (climbV (bor (σ 37 (6 + (σ (r + 6) x))) (σ 37 (18 + (σ (r + 6) x)))) (σ (r + 2) (σ (r + 6) x)) (σ (r + 7) x) 0))) σ) ∧ ((σ r 1) ≤ x → Q (some (.inl 0)) σ)) := by
    intro ck
    refine ⟨by omega, by omega, fun z => q2 ck (by omega), fun z => ⟨by omega, fun y => ?_, fun y => q2 ck (by omega)⟩⟩
    obtain ⟨g1, g2⟩ := hG x z y
    obtain ⟨t1, t2, t3⟩ := hTw _ g1.1 g1.2
    rw [if_neg (by omega), if_neg (by omega), if_pos ⟨z, y⟩] at hQ
    exact ⟨by omega, by omega, by omega, by omega, by omega, by omega, by omega, ⟨by omega, t1.1, by omega, by decide, by decide, by omega, by omega, by omega, by omega⟩, hQ⟩
  refine cO_0 hr ⟨by omega, fun z => ⟨by omega, ⟨fun c => q0 c (by omega), fun c => q1 c (by omega), r7, trivial⟩, fun c => by omega⟩, fun z => ⟨by omega, fun y => ⟨by omega, ⟨fun c => q0 c (by omega), fun c => q1 c (by omega), r7, trivial⟩, fun c => by omega⟩, fun y => ⟨by omega, ⟨fun c => ?_, fun c => ?_, r7, trivial⟩, fun c => by omega⟩⟩⟩
  · obtain ⟨t1, t2, t3⟩ := hTw x z y
    rw [if_pos (by omega), if_pos ⟨z, y⟩] at hQ
    exact ⟨by omega, by omega, t2, by omega, ⟨by omega, by omega⟩, hQ⟩
  · obtain ⟨t1, t2, t3⟩ := hTw x z y
    rw [if_neg (by omega), if_pos (by omega), if_pos ⟨z, y⟩] at hQ
    exact ⟨by omega, by omega, by omega, by omega, t1, hQ⟩
theorem cofN {d r : Nat} {x : Int} {σ : SG} {Q : Option AV → SG → Prop} (hr : r = 5 ∨ r = 16) (hd : 5 ≤ d) (hx : QB x) (hT : COk σ r) (hQ : Q (some (.inl (1 - x))) σ) : AW d mX3_ofOne 0 [some (.inl 19), some (.inl x), some (.inr (.inr r)), some (.inr (.inr 36)), none] [] σ Q := by
  obtain ⟨h0, h1, hTw, hG⟩ := hT
  unfold QB at hx
  have q0 : x ≠ 0 → Q (some (.inl 0)) σ := fun a => by rwa [show 1 - x = 0 by omega] at hQ
  have q1 : x = 0 → Q (some (.inl 1)) σ := fun a => by rwa [show 1 - x = 1 by omega] at hQ
  have no : ∀ {P : Prop} {m : Int}, m < 19 → ((19 : Int) = m → P) := fun a b => by omega
  exact cO_0 hr ⟨by omega, fun z => by omega, fun z => ⟨by omega, fun y => ⟨by omega, ⟨no (by decide), no (by decide), no (by decide), trivial⟩, fun _ => ⟨by omega, q0, q1⟩⟩, fun y => ⟨by omega, ⟨no (by decide), no (by decide), no (by decide), trivial⟩, fun _ => ⟨by omega, q0, q1⟩⟩⟩⟩
theorem cOv_q {T σ : SG} {r : Nat} (hr : r = 5 ∨ r = 16) (h : EQC T σ) (k x : Int) : cOv σ r k x = cOv T r k x := by
  unfold cOv
  rw [h 37 (by decide), h r (by omega), h (r + 6) (by omega), h (r + 7) (by omega), h (r + 2) (by omega)]
theorem COk.q {T σ : SG} {r : Nat} (hr : r = 5 ∨ r = 16) (h : EQC T σ) (k : COk T r) : COk σ r := by
  unfold COk
  rw [h 37 (by decide), h r (by omega), h (r + 6) (by omega), h (r + 7) (by omega), h (r + 2) (by omega)]
  exact k
def PLC (T : SG) (st : List Int) (σ : SG) : Prop := EQC T σ ∧ PSt (σ 29) st
theorem plc_put {T σ σ' : SG} {st : List Int} {v i : Int} (h : EQC T σ) (hp : PSt (σ 29) st) (hv : QV v) (hi : i = (st.length : Int)) (e : σ' = up σ 29 i v) : PLC T (v :: st) σ' := by
  rw [hi] at e
  refine ⟨fun p hp => by rw [e, up_pf hp]; exact h p hp, by rw [e, up_at], hv, PSt_cong st (fun j j0 j1 => ?_) hp⟩
  rw [e, up_i (by omega)]
/-- what the class tells at one day -/
theorem ctold {d h r : Nat} {f : Int → Int} {g : Int → Int → Int} {T : SG} {C : List Int} {v op : Int} {Q : Option AV → SG → Prop} (hr : r = 5 ∨ r = 16) (hd : 14 ≤ d) (hh : h ≤ 64) (hT : COk T r) (hC : QSc C op T) (hl : C.length ≤ 1600) (hf : ∀ k, 0 ≤ k → k ≤ 4 → f k = cPv T k) (hg : ∀ k x, 0 ≤ k → k ≤ 2 → QV x → g k x = cOv T r k x) (hq : ∀ σ, EQC T σ → Q (some (.inl v)) σ) (hrun : qrun f g h C [] = some [v]) : AW d mX3_valueThen 0 [some (.inr (.inr 27)), some (.inr (.inr r)), some (.inr (.inr 36)), none, none, none] [] T Q := by
  have key : ∀ (cs : List Int) (j : Nat) (st : List Int) (σ : SG), j ≤ C.length → C.drop j = cs → PLC T st σ → st.length ≤ h → qrun f g h cs st = some [v] → AW d mX3_valueThen 5 [some (.inr (.inr 27)), some (.inr (.inr r)), some (.inr (.inr 36)), some (.inl (st.length : Int)), some (.inl (j : Int)), none] [] σ Q := by
    intro cs
    induction cs with
    | nil =>
      intro j st σ hjm hj hP hs hr'
      have hst : st = [v] := Option.some.inj hr'
      rw [hst] at hP ⊢
      obtain ⟨hE, p1, _⟩ := hP
      have hjl : C.length ≤ j := by
        have := congrArg List.length hj
        rw [List.length_drop, List.length_nil] at this
        omega
      have p1 : σ 29 0 = v := p1
      have h3 : σ 27 3 = (C.length : Int) := by rw [hE 27 (by decide)]; exact hC.1
      rw [show (([v] : List Int).length : Int) = 1 from rfl]
      refine cV_5 hr ⟨by omega, fun _ => ⟨by decide, fun z => absurd z (by decide), fun _ => ?_⟩, fun c => by omega⟩
      rw [p1]
      exact hq σ hE
    | cons c cs ih =>
      intro j st σ hjm hj hP hs hrn
      have hjl : j < C.length := by
        have := congrArg List.length hj
        rw [List.length_drop, List.length_cons] at this
        omega
      have hc : C.getD j 0 = c := by
        have e := List.drop_eq_getElem_cons hjl
        rw [hj] at e
        have := (List.cons.inj e).1
        rw [List.getD_eq_getElem?_getD, List.getElem?_eq_getElem hjl, this]
        rfl
      have hj' : C.drop (j + 1) = cs := by
        have e := List.drop_eq_getElem_cons hjl
        rw [hj] at e
        exact (List.cons.inj e).2.symm
      obtain ⟨hE, hp⟩ := hP
      have h3 : σ 27 3 = (C.length : Int) := by rw [hE 27 (by decide)]; exact hC.1
      have h28 : σ 28 (j : Int) = ccq c := by rw [hE 28 (by decide), hC.2.2 j hjl, hc]
      have hTs : COk σ r := hT.q hr hE
      have hrn : (match qst f g c st with
        | none => none
        | some st' => if st'.length ≤ h ∧ (-1000000 ≤ st'.headD 0 ∧ st'.headD 0 ≤ 1000000) then qrun f g h cs st' else none) = some [v] := hrn
      have some_st : ∃ st', qst f g c st = some st' ∧ st'.length ≤ h ∧ QV (st'.headD 0) ∧ qrun f g h cs st' = some [v] := by
        cases hq : qst f g c st with
        | none => rw [hq] at hrn; cases hrn
        | some st' =>
          rw [hq] at hrn
          have hrn : (if st'.length ≤ h ∧ (-1000000 ≤ st'.headD 0 ∧ st'.headD 0 ≤ 1000000) then qrun f g h cs st' else none) = some [v] := hrn
          split at hrn
          · rename_i z
            exact ⟨st', rfl, z.1, z.2, hrn⟩
          · cases hrn
      obtain ⟨st', hst', hl', hv', hr'⟩ := some_st
      have nxt : ∀ σ' (m : Int), PLC T st' σ' → m = (st'.length : Int) → AW d mX3_valueThen 5 [some (.inr (.inr 27)), some (.inr (.inr r)), some (.inr (.inr 36)), some (.inl m), some (.inl ((j : Int) + 1)), none] [] σ' Q := by
        intro σ' m hP' hm
        have := ih (j + 1) st' σ' (by omega) hj' hP' hl' hr'
        rw [show ((j + 1 : Nat) : Int) = (j : Int) + 1 by omega, ← hm] at this
        exact this
      refine cV_5 hr ?_
      rw [h3, h28]
      refine ⟨by omega, fun z => by omega, fun _ => ⟨by omega, ?_⟩⟩
      by_cases c1 : 1000 ≤ c
      · rw [qst_n c1] at hst'
        cases hst'
        have hv' : QV (c - 1000) := hv'
        rw [show ccq c = c - 1000 from if_pos c1]
        unfold QV at hv'
        rw [List.length_cons] at hl'
        refine ⟨by omega, fun _ => ⟨by omega, fun z => by omega, fun _ => ⟨by omega, fun z => by omega, fun _ => ⟨by omega, by omega, fun S eS => nxt S _ (plc_put hE hp (by unfold QV; omega) rfl eS) (by rw [List.length_cons]; omega)⟩⟩⟩, fun z => by omega⟩
      · by_cases c2 : 60 ≤ c
        · cases hs0 : st with
          | nil =>
            rw [hs0] at hst'
            unfold qst at hst'
            rw [if_neg c1, if_pos c2] at hst'
            cases hst'
          | cons y t =>
            rw [hs0] at hst' hp hs
            have c62 : c ≤ 62 := by
              unfold qst at hst'
              rw [if_neg c1, if_pos c2] at hst'
              have hst' : (if c ≤ 62 then some (g (c - 60) y :: t) else none) = some st' := hst'
              split at hst'
              · assumption
              · cases hst'
            rw [qst_o ⟨c2, c62⟩] at hst'
            cases hst'
            rw [List.length_cons] at hs
            have hy := hp.2.1
            have ey : σ 29 (((y :: t).length : Int) - 1) = y := by rw [List.length_cons, show ((t.length + 1 : Nat) : Int) - 1 = (t.length : Int) by omega]; exact hp.1
            have ecq : ccq c = -1 - (c - 55) := by unfold ccq; rw [if_neg c1, if_neg (by omega), if_pos c2]
            rw [ecq, ey, show -1 - (-1 - (c - 55)) = c - 55 by omega, List.length_cons]
            refine ⟨by omega, fun z => by omega, fun _ => ⟨by omega, fun _ => ⟨by omega, fun _ => ⟨by omega, fun z => by omega, fun _ => ⟨by omega, by omega, ?_⟩⟩, fun z => by omega⟩, fun z => by omega⟩⟩
            refine cof1 hr (by omega) (by omega) hy hTs ?_
            have hv' : QV (g (c - 60) y) := hv'
            have eg : cOv σ r (c - 55 - 5) y = g (c - 60) y := by rw [cOv_q hr hE, show c - 55 - 5 = c - 60 by omega]; exact (hg _ _ (by omega) (by omega) hy).symm
            rw [eg]
            exact cV_123 hr ⟨by omega, fun S eS => nxt S _ (plc_put hE hp.2.2 hv' (by omega) eS) (by rw [List.length_cons])⟩
        · by_cases c3 : 40 ≤ c
          · have c44 : c ≤ 44 := by
              unfold qst at hst'
              rw [if_neg c1, if_neg c2, if_pos c3] at hst'
              split at hst'
              · assumption
              · cases hst'
            rw [qst_p ⟨c3, c44⟩] at hst'
            cases hst'
            have hv' : QV (f (c - 40)) := hv'
            rw [List.length_cons] at hl'
            have ecq : ccq c = -1 - (c - 40) := by unfold ccq; rw [if_neg c1, if_neg (by omega), if_neg c2, if_pos c3]
            rw [ecq, show -1 - (-1 - (c - 40)) = c - 40 by omega]
            have ef := hf (c - 40) (by omega) (by omega)
            refine ⟨by omega, fun z => by omega, fun _ => ⟨by omega, fun z => by omega, fun _ => ⟨by omega, fun z => by omega, fun _ => ⟨by omega, fun _ => ⟨by omega, by omega, ?_⟩, fun z => by omega⟩⟩⟩⟩
            have fin : ∀ x, x = f (c - 40) → AW d mX3_valueThen 75 [some (.inr (.inr 27)), some (.inr (.inr r)), some (.inr (.inr 36)), some (.inl (st.length : Int)), some (.inl (j : Int)), some (.inl (c - 40))] [.inl x, .inl (st.length : Int), .inr (.inr 29)] σ Q := by
              intro x hx
              rw [← hx] at hv'
              exact cV_75 hr ⟨by omega, fun S eS => nxt S _ (by rw [← hx]; exact plc_put hE hp hv' rfl eS) (by rw [List.length_cons]; omega)⟩
            rw [show cPv T (c - 40) = cPv σ (c - 40) by unfold cPv; rw [hE 37 (by decide), hE 27 (by decide)]] at ef
            unfold cPv at ef
            refine cP_0 ⟨by omega, ⟨fun z => fin _ ?_, fun z => fin _ ?_, fun z => fin _ ?_, fun z => fin _ ?_, trivial⟩, fun z => fin _ ?_⟩
            · rw [ef, if_pos z]
            · rw [ef, if_neg (by omega), if_pos z]
            · rw [ef, if_neg (by omega), if_neg (by omega), if_pos z]
            · rw [ef, if_neg (by omega), if_neg (by omega), if_neg (by omega), if_pos z]
            · rw [ef, if_neg (by omega), if_neg (by omega), if_neg (by omega), if_neg (by omega)]
          · by_cases c4 : c = 13
            · rw [c4, qst_a] at hst'
              cases hst'
              rw [List.length_cons] at hl'
              rw [c4, show ccq 13 = 1 by decide]
              refine ⟨by omega, fun _ => ⟨by omega, fun z => by omega, fun _ => ⟨by omega, fun z => by omega, fun _ => ⟨by omega, by omega, fun S eS => nxt S _ (plc_put hE hp (by unfold QV; omega) rfl eS) (by rw [List.length_cons]; omega)⟩⟩⟩, fun z => by omega⟩
            · by_cases c5 : c = 12
              · cases hs0 : st with
                | nil =>
                  rw [hs0, c5] at hst'
                  cases hst'
                | cons y t =>
                  rw [hs0] at hst' hp hs
                  have hy : QB y := by
                    rw [c5] at hst'
                    have hst' : (if y = 0 ∨ y = 1 then some ((1 - y) :: t) else none) = some st' := hst'
                    split at hst'
                    · assumption
                    · cases hst'
                  rw [c5, qst_t hy] at hst'
                  cases hst'
                  have hv' : QV (1 - y) := hv'
                  rw [List.length_cons] at hs
                  have ey : σ 29 (((y :: t).length : Int) - 1) = y := by rw [List.length_cons, show ((t.length + 1 : Nat) : Int) - 1 = (t.length : Int) by omega]; exact hp.1
                  rw [ey, c5, show ccq 12 = -20 by decide, show (-1 - -20 : Int) = 19 by decide, List.length_cons]
                  refine ⟨by omega, fun z => by omega, fun _ => ⟨by omega, fun _ => ⟨by omega, fun z => by omega, fun _ => ⟨by omega, fun z => by omega, fun _ => ⟨by omega, fun z => by omega, fun _ => ⟨by omega, by omega, ?_⟩⟩⟩⟩, fun z => by omega⟩⟩
                  refine cofN hr (by omega) hy hTs ?_
                  exact cV_123 hr ⟨by omega, fun S eS => nxt S _ (plc_put hE hp.2.2 hv' (by omega) eS) (by rw [List.length_cons])⟩
              · have hst2 := hst'
                unfold qst at hst2
                rw [if_neg c1, if_neg c2, if_neg c3, if_neg c4, if_neg c5] at hst2
                cases hs0 : st with
                | nil => rw [hs0] at hst2; cases hst2
                | cons b t1 =>
                  cases hs1 : t1 with
                  | nil => rw [hs0, hs1] at hst2; cases hst2
                  | cons a t =>
                    rw [hs0, hs1] at hst2 hp hs
                    have hst2 : (if (1 ≤ c ∧ c ≤ 11) ∧ (c < 10 ∨ ((a = 0 ∨ a = 1) ∧ (b = 0 ∨ b = 1))) then some (qjn c a b :: t) else none) = some st' := hst2
                    split at hst2
                    · rename_i hcc
                      cases hst2
                      have hv' : QV (qjn c a b) := hv'
                      rw [List.length_cons, List.length_cons] at hs
                      obtain ⟨p1, pb, p2, pa, p3⟩ := hp
                      rw [List.length_cons] at p1
                      have e1 : σ 29 (((b :: a :: t).length : Int) + -1) = b := by rw [List.length_cons, List.length_cons, show ((t.length + 1 + 1 : Nat) : Int) + -1 = ((t.length + 1 : Nat) : Int) by omega]; exact p1
                      have e2 : σ 29 (((b :: a :: t).length : Int) + -1 - 1) = a := by rw [List.length_cons, List.length_cons, show ((t.length + 1 + 1 : Nat) : Int) + -1 - 1 = (t.length : Int) by omega]; exact p2
                      have hk : 8 ≤ -1 - ccq c ∧ -1 - ccq c ≤ 18 := by
                        unfold ccq
                        rw [if_neg c1, if_neg c4, if_neg c2, if_neg c3]
                        split
                        · omega
                        · split <;> omega
                      rw [e1, e2, List.length_cons, List.length_cons]
                      refine ⟨by omega, fun z => by omega, fun _ => ⟨by omega, fun _ => ⟨by omega, fun z => by omega, fun _ => ⟨by omega, fun _ => ⟨by omega, fun z => by omega, fun _ => ⟨by omega, by omega, by omega, ?_⟩⟩, fun z => by omega⟩⟩, fun z => by omega⟩⟩
                      refine cof2 (by omega) hcc.1 pa pb hcc.2 ?_
                      exact cV_161 hr ⟨by omega, fun S eS => nxt S _ (plc_put hE p3 hv' (by omega) eS) (by rw [List.length_cons]; omega)⟩
                    · cases hst2
  exact cV_0 hr (key C 0 [] T (Nat.zero_le _) rfl ⟨fun _ _ => rfl, trivial⟩ (Nat.zero_le _) hrun)
