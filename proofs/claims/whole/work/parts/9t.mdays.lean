/-! ===== ask: the reference's loop over the days (wip/whole/9t.py) ===== -/
theorem mf_c {T U : SG} (h : ∀ p, p = 61 ∨ p = 63 ∨ p = 64 ∨ p = 69 → T p = U p) : mfP T = mfP U ∧ mfO T = mfO U := by
  have e61 := h 61 (by decide)
  have e63 := h 63 (by decide)
  have e64 := h 64 (by decide)
  have e69 := h 69 (by decide)
  have m1 : ∀ t, mstV T t = mstV U t := by
    intro t
    unfold mstV
    rw [e69, e63]
  have m2 : ∀ t sd, mhV T t sd = mhV U t sd := by
    intro t sd
    unfold mhV
    rw [e61, e63, e64]
  have m3 : ∀ w, coA T w = coA U w := by
    intro w
    funext t n
    unfold coA
    rw [m1, m2, e63, e69]
  constructor
  · funext k
    unfold mfP mPv
    rw [m3, m3, m3, m3, e61, e69]
  · funext k n
    unfold mfO mOv mRv
    rw [m1, m1, e61, e63, e64, e69]
def LPm (S0 : SG) (M : Int → Int → Int) (K : Int) (V : Int → Int) (td i : Int) (T : SG) : Prop := (∀ p, p ≠ 42 → p ≠ 69 → p ≠ 70 → p ≠ 98 → T p = S0 p) ∧ (∀ j, j ≠ 77 → j ≠ 78 → j ≠ 79 → T 42 j = S0 42 j) ∧ T 69 = M i ∧ T 42 78 = anV K V td i ∧ T 42 79 = (if i = 0 then 1 else 0)
theorem mdl {d r : Nat} {S0 : SG} {F M : Int → Int → Int} {V : Int → Int} {C : List Int} {K td N B b : Int} {Q : Option AV → SG → Prop} (hd : 40 ≤ d) (hr : r = 5 ∨ r = 16) (hK : 0 ≤ K ∧ K ≤ 5) (hL : RLR S0 r) (hB : B ≤ 1000000000) (ht : 0 ≤ td ∧ td ≤ 999) (hb : r3 b)
    (hRS : ∀ i, 0 ≤ i → i ≤ 101 → RS (S0 r 0) (S0 (r + 2)) (B + 2376 * i) (999 + i) (F i) (M i) ∧ M i 0 = td + i ∧ M i 1 = S0 69 1) (hM0 : M 0 = S0 69) (hMs : ∀ i, 0 ≤ i → M (i + 1) = mdyR (M i) b) (hb2 : 0 < S0 69 1 → S0 68 1 = b)
    (hV : ∀ i, 0 ≤ i → QV (V i)) (hrun : ∀ i, 0 ≤ i → i ≤ 100 → qrun (mfP (putF S0 69 (M i))) (mfO (putF S0 69 (M i))) 64 C [] = some [V i]) (hC : S0 42 71 = (C.length : Int) ∧ ∀ i : Nat, i < C.length → S0 96 (i : Int) = C.getD i 0) (hl : C.length ≤ 1600) (hN : (0 ≤ N ∧ N ≤ 100) ∧ (N = 100 ∨ td + N = 999) ∧ td + N ≤ 999) (h78 : S0 42 78 = if K < 2 then -1 else 0) (h79 : S0 42 79 = 1)
    (hQ : ∀ T, LPm S0 M K V td (N + 1) T → Q (some (.inr (.inl (anV K V td (N + 1))))) (putF T 69 (cpR (T 69) (T 72) 0 0 254))) : AW d mX9_ask 166 [some (.inr (.inr 42)), some (.inl K), some (.inl 0)] [] S0 Q := by
  have key := downInd (P := fun i => ∀ T, LPm S0 M K V td i T → AW d mX9_ask 166 [some (.inr (.inr 42)), some (.inl K), some (.inl i)] [] T Q) (lo := 0) (hi := N + 1) (by omega) ?_ ?_
  · refine key S0 ⟨fun _ _ _ _ _ => rfl, fun _ _ _ _ => rfl, hM0.symm, ?_, ?_⟩
    · rw [h78]
      rfl
    · rw [h79]
      rfl
  · intro T hT
    have hq := hQ T hT
    obtain ⟨t1, t2, t3, t4, t5⟩ := hT
    obtain ⟨_, m0, _⟩ := hRS (N + 1) (by omega) (by omega)
    have h0 : T 69 0 = td + (N + 1) := by rw [t3]; exact m0
    have fin : Q (some (.inr (.inl (T 42 78)))) (putF T 69 (cpR (T 69) (T 72) 0 0 254)) := by
      rw [t4]
      exact hq
    exact aM_166 ⟨by omega, fun _ => ⟨by omega, fin⟩, fun c => ⟨by omega, fun _ => ⟨by omega, fin⟩, fun c2 => by omega⟩⟩
  · intro i i0 i1 ih T hT
    obtain ⟨t1, t2, t3, t4, t5⟩ := hT
    obtain ⟨s1, m0, m1⟩ := hRS i i0 (by omega)
    have h0 : T 69 0 = td + i := by rw [t3]; exact m0
    have hLT : RLR T r := by
      refine ER.rlr (σ := S0) ⟨fun p hp => t1 p (by omega) (by omega) (by omega) (by omega), ?_⟩ hL
      rw [t1 61 (by decide) (by decide) (by decide) (by decide), t1 62 (by decide) (by decide) (by decide) (by decide), t1 63 (by decide) (by decide) (by decide) (by decide), t1 64 (by decide) (by decide) (by decide) (by decide), t1 65 (by decide) (by decide) (by decide) (by decide), t1 68 (by decide) (by decide) (by decide) (by decide)]
      exact ⟨fun _ _ => rfl, fun _ _ => rfl, fun _ _ => rfl, fun _ _ => rfl, fun _ _ => rfl, rfl⟩
    have zr : T r = S0 r := t1 _ (by omega) (by omega) (by omega) (by omega)
    have zr2 : T (r + 2) = S0 (r + 2) := t1 _ (by omega) (by omega) (by omega) (by omega)
    have hRT : RS (T r 0) (T (r + 2)) (B + 2376 * i) (999 + i) (F i) (T 69) := by
      rw [zr, zr2, t3]
      exact s1
    have hTk := (brT hLT hRT (by omega) (by omega)).1
    have hmf := mf_c (T := T) (U := putF S0 69 (M i)) (fun p hp => by
      rcases hp with z | z | z | z
      · rw [z, putF_ne (by decide)]
        exact t1 61 (by decide) (by decide) (by decide) (by decide)
      · rw [z, putF_ne (by decide)]
        exact t1 63 (by decide) (by decide) (by decide) (by decide)
      · rw [z, putF_ne (by decide)]
        exact t1 64 (by decide) (by decide) (by decide) (by decide)
      · rw [z, putF_at]
        exact t3)
    have hrn := hrun i i0 (by omega)
    rw [← hmf.1, ← hmf.2] at hrn
    have hCT : T 42 71 = (C.length : Int) ∧ ∀ i : Nat, i < C.length → T 96 (i : Int) = C.getD i 0 := by
      rw [t2 71 (by decide) (by decide) (by decide), t1 96 (by decide) (by decide) (by decide) (by decide)]
      exact hC
    have har := an_r (K := K) (V := V) (td := td) hV ht i.toNat (by omega)
    rw [show ((i.toNat : Nat) : Int) = i by omega] at har
    have har : -(1000000 * (i + 1)) ≤ anV K V td i ∧ anV K V td i ≤ 1000000 * (i + 1) := har
    refine aM_166 ⟨by omega, fun c => by omega, fun _ => ⟨by omega, fun c => by omega, fun _ => ⟨by omega, ?_⟩⟩⟩
    refine mtold (h := 64) (v := V i) (by omega) (by decide) hTk hCT hl (fun S hE => ?_) hrn
    have e69 : S 69 = T 69 := hE.1 69 (by decide) (by decide) (by decide)
    have s78 : S 42 78 = anV K V td i := by rw [hE.2 78 (by decide)]; exact t4
    have s79 : S 42 79 = (if i = 0 then 1 else 0) := by rw [hE.2 79 (by decide)]; exact t5
    refine aM_196 ⟨by omega, mqtk hK (hV i i0) (by omega) (by rw [s79]; split <;> decide) (by rw [e69]; omega) (fun U u1 u2 u3 u4 => ?_)⟩
    have u69 : U 69 = M i := by rw [u1 69 (by decide), e69, t3]
    have uz : ∀ p, p ≠ 42 → p ≠ 69 → p ≠ 70 → p ≠ 98 → U p = S0 p := fun p a b c e => by rw [u1 p a, hE.1 p a e c]; exact t1 p a b c e
    refine aM_205 ⟨by omega, mdayGoes_ok (σ := U) (b := b) (f := F i) (tw := S0 r 0) (H := S0 (r + 2)) (B := B + 2376 * i) (D := 999 + i) (by rw [u69]; exact s1) hL.1.1.2 hL.hH (by omega) (by omega) hb ?_ ?_⟩
    · rw [u69, uz 68 (by decide) (by decide) (by decide) (by decide)]
      intro z
      exact hb2 (by omega)
    · refine aM_209 (ih _ ⟨fun p a b c e => by rw [putF_ne b]; exact uz p a b c e, fun j a b c => ?_, ?_, ?_, ?_⟩)
      · rw [putF_ne (by decide), u2 j b c, hE.2 j a]
        exact t2 j a b c
      · rw [putF_at, u69, hMs i i0]
      · rw [putF_ne (by decide), u3, s78, s79, e69, h0]
        unfold anV
        rw [foI_s _ _ i0]
        rfl
      · rw [putF_ne (by decide), u4, if_neg (by omega)]
