/-! ===== ask: the class's loop over the days (wip/whole/9x.py) ===== -/
theorem fn_r {K : Int} {V : Int → Int} {td : Int} (ht : 0 ≤ td ∧ td ≤ 999) : ∀ m : Nat, -1 ≤ foI (fnF K V td) (-1) (m : Int) ∧ foI (fnF K V td) (-1) (m : Int) ≤ 1000 + (m : Int) := by
  intro m
  induction m with
  | zero =>
    rw [show ((0 : Nat) : Int) = 0 from rfl, foI_0]
    omega
  | succ m ih =>
    rw [show ((m + 1 : Nat) : Int) = (m : Int) + 1 by omega, foI_s _ _ (by omega)]
    generalize foI (fnF K V td) (-1) (m : Int) = a at *
    unfold fnF
    split <;> omega
theorem bs_r {K : Int} {V : Int → Int} (hV : ∀ i, 0 ≤ i → QV (V i)) : ∀ m : Nat, QV (foI (bsF K V) 0 (m : Int)) := by
  intro m
  induction m with
  | zero =>
    rw [show ((0 : Nat) : Int) = 0 from rfl, foI_0]
    unfold QV
    omega
  | succ m ih =>
    rw [show ((m + 1 : Nat) : Int) = (m : Int) + 1 by omega, foI_s _ _ (by omega)]
    generalize foI (bsF K V) 0 (m : Int) = a at *
    have := hV (m : Int) (by omega)
    unfold bsF
    by_cases c : (m : Int) = 0 ∨ (if K = 4 then a < V (m : Int) else V (m : Int) < a)
    · rw [if_pos c]
      exact this
    · rw [if_neg c]
      exact ih
theorem ht_c {U S0 : SG} {r : Nat} {f : Int → Int} (h37 : U 37 = f) (h : ∀ p, (r ≤ p ∧ p ≤ r + 10) → U p = S0 p) : foI (htB U 36 r) 0 (U r 0) = c4 S0 r f 6 := by
  unfold c4
  rw [if_pos rfl, h r (by omega)]
  congr 1
  funext t a
  unfold htB hldC leB
  rw [show (36 : Nat) + 1 = 37 from rfl, h37, h r (by omega), h (r + 2) (by omega), h (r + 6) (by omega), h (r + 7) (by omega)]
def caV (K : Int) (V : Int → Int) (td m : Int) : Int := if K ≤ 1 then foI (fnF K V td) (-1) m else if K ≤ 3 then foI (smF V) 0 m else foI (bsF K V) 0 m
def LPc (S0 : SG) (r : Nat) (F : Int → Int → Int) (K i : Int) (T : SG) : Prop := (∀ p, p ≠ 27 → p ≠ 29 → p ≠ 37 → T p = S0 p) ∧ T 37 = F i ∧ (T 27 3 = S0 27 3 ∧ T 27 5 = S0 27 5 ∧ T 27 4 = K) ∧ (T 27 6 = c4 S0 r (F i) 6 ∧ T 27 7 = c4 S0 r (F i) 7 ∧ T 27 8 = c4 S0 r (F i) 8 ∧ T 27 9 = c4 S0 r (F i) 9)
/-- the four counts, told anew -/
theorem lpc_count {S0 T A1 A2 A3 A4 : SG} {r : Nat} {F : Int → Int → Int} {K i : Int} (hr : r = 5 ∨ r = 16) (h1 : ∀ p, p ≠ 27 → p ≠ 29 → p ≠ 37 → T p = S0 p) (h2 : T 37 = F i) (h3 : T 27 3 = S0 27 3 ∧ T 27 5 = S0 27 5 ∧ T 27 4 = K) (e1 : A1 = up T 27 6 (foI (htB T 36 r) 0 (T r 0))) (e2 : A2 = up A1 27 7 (foI (opB (A1 37)) 0 (A1 37 1))) (e3 : A3 = up A2 27 8 (foI (bsB (A2 37)) 0 4)) (e4 : A4 = up A3 27 9 (foI (yaB (A3 37)) 0 (A3 37 1))) : LPc S0 r F K i A4 := by
  have a1 : A1 37 = F i := by rw [e1, up_pf (by decide)]; exact h2
  have a2 : A2 37 = F i := by rw [e2, up_pf (by decide)]; exact a1
  have a3 : A3 37 = F i := by rw [e3, up_pf (by decide)]; exact a2
  have hh := ht_c (U := T) (S0 := S0) (r := r) h2 (fun p hp => h1 p (by omega) (by omega) (by omega))
  rw [hh] at e1
  rw [a1] at e2
  rw [a2] at e3
  rw [a3] at e4
  refine ⟨fun p x y z => ?_, ?_, ⟨?_, ?_, ?_⟩, ?_, ?_, ?_, ?_⟩
  · rw [e4, up_pf x, e3, up_pf x, e2, up_pf x, e1, up_pf x]
    exact h1 p x y z
  · rw [e4, up_pf (by decide)]
    exact a3
  · rw [e4, up_i (by decide), e3, up_i (by decide), e2, up_i (by decide), e1, up_i (by decide)]
    exact h3.1
  · rw [e4, up_i (by decide), e3, up_i (by decide), e2, up_i (by decide), e1, up_i (by decide)]
    exact h3.2.1
  · rw [e4, up_i (by decide), e3, up_i (by decide), e2, up_i (by decide), e1, up_i (by decide)]
    exact h3.2.2
  · rw [e4, up_i (by decide), e3, up_i (by decide), e2, up_i (by decide), e1, up_at]
  · rw [e4, up_i (by decide), e3, up_i (by decide), e2, up_at]
    rfl
  · rw [e4, up_i (by decide), e3, up_at]
    rfl
  · rw [e4, up_at]
    rfl
theorem cdl {d r : Nat} {S0 : SG} {F M : Int → Int → Int} {V : Int → Int} {C : List Int} {K td N B : Int} {Q : Option AV → SG → Prop} (hd : 40 ≤ d) (hr : r = 5 ∨ r = 16) (hK : 0 ≤ K ∧ K ≤ 5) (hL : RLR S0 r) (hB : B ≤ 1000000000) (ht : 0 ≤ td ∧ td ≤ 999)
    (hRS : ∀ i, 0 ≤ i → i ≤ 101 → RS (S0 r 0) (S0 (r + 2)) (B + 2376 * i) (999 + i) (F i) (M i) ∧ F i 0 = td + i) (hF0 : F 0 = S0 37) (hFs : ∀ i, 0 ≤ i → F (i + 1) = dyR (F i) (S0 r 4))
    (hV : ∀ i, 0 ≤ i → QV (V i)) (hrun : ∀ i, 0 ≤ i → i ≤ 100 → qrun (mfP (putF S0 69 (M i))) (mfO (putF S0 69 (M i))) 64 C [] = some [V i]) (hC : QSc C 0 S0) (hl : C.length ≤ 1600) (hK4 : S0 27 4 = K) (hN : (0 ≤ N ∧ N ≤ 100) ∧ td + N ≤ 999)
    (hQ : ∀ T, (∀ p, p ≠ 27 → p ≠ 29 → p ≠ 37 → T p = S0 p) → Q (some (.inr (.inl (caV K V td (N + 1))))) T) : AW d mX3_answer 0 [some (.inr (.inr 27)), some (.inr (.inr r)), some (.inr (.inr 36)), some (.inl (td + N)), none, none, none, none, none, none, none, none, none, none] [] S0 Q := by
  have hrl : ∀ T : SG, (∀ p, p ≠ 27 → p ≠ 29 → p ≠ 37 → p ≠ 69 → T p = S0 p) → RLR T r := by
    intro T t1
    refine ER.rlr (σ := S0) ⟨fun p hp => t1 p (by omega) (by omega) (by omega) (by omega), ?_⟩ hL
    rw [t1 61 (by decide) (by decide) (by decide) (by decide), t1 62 (by decide) (by decide) (by decide) (by decide), t1 63 (by decide) (by decide) (by decide) (by decide), t1 64 (by decide) (by decide) (by decide) (by decide), t1 65 (by decide) (by decide) (by decide) (by decide), t1 68 (by decide) (by decide) (by decide) (by decide)]
    exact ⟨fun _ _ => rfl, fun _ _ => rfl, fun _ _ => rfl, fun _ _ => rfl, fun _ _ => rfl, rfl⟩
  have key := downInd (P := fun i => ∀ T, LPc S0 r F K i T → AW d mX3_answer 27 [some (.inr (.inr 27)), some (.inr (.inr r)), some (.inr (.inr 36)), some (.inl (td + N)), some (.inr (.inl (foI (fnF K V td) (-1) i))), none, some (.inr (.inl (foI (smF V) 0 i))), none, some (.inr (.inl (foI (bsF K V) 0 i))), none, some (.inl td), some (.inl (td + i)), none, none] [] T Q) (lo := 0) (hi := N + 1) (by omega) ?_ ?_
  · obtain ⟨s1, m0⟩ := hRS 0 (by decide) (by decide)
    have z37 : S0 37 0 = td := by rw [← hF0]; omega
    have hsr := s1.sr hL.1.1.2 hL.hH
    have hlr := s1.lr hL.1.1.2 hL.hH
    rw [hF0] at hsr hlr
    refine cN_0 hr ⟨by omega, by omega, by omega, ⟨by omega, hL.1, hsr⟩, fun A1 e1 => ⟨by omega, ⟨by omega, by rw [e1, up_pf (by decide)]; exact hlr⟩, fun A2 e2 => ⟨by omega, ⟨by omega, by rw [e2, up_pf (by decide), e1, up_pf (by decide)]; exact hsr⟩, fun A3 e3 => ⟨by omega, ⟨by omega, by rw [e3, up_pf (by decide), e2, up_pf (by decide), e1, up_pf (by decide)]; exact hlr⟩, fun A4 e4 => ?_⟩⟩⟩⟩
    rw [z37]
    have := key A4 (lpc_count (S0 := S0) (T := S0) (F := F) (K := K) (i := 0) hr (fun _ _ _ _ => rfl) hF0.symm ⟨rfl, rfl, hK4⟩ e1 e2 e3 e4)
    rw [foI_0, foI_0, foI_0, Int.add_zero] at this
    exact this
  · intro T hT
    obtain ⟨t1, t2, ⟨t3, t5, t4⟩, t6⟩ := hT
    have hq := hQ T t1
    unfold caV at hq
    refine cN_27 hr ⟨by omega, fun _ => ?_, fun c => by omega⟩
    rw [t4]
    refine ⟨by omega, ⟨fun c => ?_, fun c => ?_, fun c => ?_, fun c => ?_, fun c => ?_, fun c => ?_, trivial⟩, fun c => by omega⟩
    · rwa [if_pos (by omega)] at hq
    · rwa [if_pos (by omega)] at hq
    · rwa [if_neg (by omega), if_pos (by omega)] at hq
    · rwa [if_neg (by omega), if_pos (by omega)] at hq
    · rwa [if_neg (by omega), if_neg (by omega)] at hq
    · rwa [if_neg (by omega), if_neg (by omega)] at hq
  · intro i i0 i1 ih T hT
    obtain ⟨t1, t2, ⟨t3, t5, t4⟩, t6, t7, t8, t9⟩ := hT
    obtain ⟨s1, m0⟩ := hRS i i0 (by omega)
    obtain ⟨s1n, m0n⟩ := hRS (i + 1) (by omega) (by omega)
    generalize hU : putF (putF S0 69 (M i)) 37 (F i) = U
    have u1 : ∀ p, p ≠ 37 → p ≠ 69 → U p = S0 p := fun p a b => by rw [← hU, putF_ne a, putF_ne b]
    have u37 : U 37 = F i := by rw [← hU, putF_at]
    have u69 : U 69 = M i := by rw [← hU, putF_ne (by decide), putF_at]
    have hLU : RLR U r := hrl U (fun p _ _ a b => u1 p a b)
    have ur : ∀ p, (r ≤ p ∧ p ≤ r + 10) → U p = S0 p := fun p hp => u1 p (by omega) (by omega)
    have tr : ∀ p, (r ≤ p ∧ p ≤ r + 10) → T p = S0 p := fun p hp => t1 p (by omega) (by omega) (by omega)
    have hRU : RS (U r 0) (U (r + 2)) (B + 2376 * i) (999 + i) (U 37) (U 69) := by
      rw [ur r (by omega), ur (r + 2) (by omega), u37, u69]
      exact s1
    obtain ⟨b0, b1, b2, b3, b4⟩ := brPv hLU hRU (by omega) (by omega)
    rw [ht_c u37 ur] at b1
    rw [u37] at b0 b2 b3 b4
    have hmf := mf_c (T := U) (U := putF S0 69 (M i)) (fun p hp => by
      by_cases c : p = 69
      · rw [c, u69, putF_at]
      · rw [putF_ne c]
        exact u1 p (by omega) c)
    have hrn := hrun i i0 (by omega)
    rw [← hmf.1, ← hmf.2] at hrn
    have eO : ∀ k x, cOv U r k x = cOv T r k x := by
      intro k x
      unfold cOv
      rw [u37, t2, ur r (by omega), tr r (by omega), ur (r + 6) (by omega), tr (r + 6) (by omega), ur (r + 7) (by omega), tr (r + 7) (by omega), ur (r + 2) (by omega), tr (r + 2) (by omega)]
    have hCT : COk T r := by
      have := brC hLU hRU (by omega)
      unfold COk at this ⊢
      rw [u37, ur r (by omega), ur (r + 6) (by omega), ur (r + 7) (by omega), ur (r + 2) (by omega)] at this
      rw [t2, tr r (by omega), tr (r + 6) (by omega), tr (r + 7) (by omega), tr (r + 2) (by omega)]
      exact this
    have hQT : QSc C 0 T := by
      unfold QSc
      rw [t3, t5, t1 28 (by decide) (by decide) (by decide)]
      exact hC
    refine cN_27 hr ⟨by omega, fun c => by omega, fun _ => ⟨by omega, ?_⟩⟩
    refine ctold (h := 64) (f := mfP U) (g := mfO U) (v := V i) hr (by omega) (by decide) hCT hQT hl (fun k k0 k1 => ?_) (fun k x k0 k1 _ => ?_) (fun S hE => ?_) hrn
    · have hc : k = 0 ∨ k = 1 ∨ k = 2 ∨ k = 3 ∨ k = 4 := by omega
      rcases hc with z | z | z | z | z <;> subst z
      · rw [b0]
        show _ = T 37 0
        rw [t2]
      · rw [b1]
        exact t6.symm
      · rw [b2]
        exact t7.symm
      · rw [b3]
        exact t8.symm
      · rw [b4]
        exact t9.symm
    · rw [← eO]
      exact brO hLU hRU (by omega) (by omega) k x ⟨k0, k1⟩
    · have f1 := fn_r (K := K) (V := V) ht i.toNat
      have f2 := bs_r (K := K) hV i.toNat
      rw [show ((i.toNat : Nat) : Int) = i by omega] at f1 f2
      have s27 : S 27 = T 27 := hE 27 (by decide)
      have s37 : S 37 = F i := by rw [hE 37 (by decide)]; exact t2
      have sz : ∀ p, p ≠ 27 → p ≠ 29 → p ≠ 37 → S p = S0 p := fun p a b c => by rw [hE p b]; exact t1 p a b c
      have sr : S r = S0 r := sz r (by omega) (by omega) (by omega)
      refine cstep (V := V) hr (by rw [s27]; exact t4) hK rfl (hV i i0) (by omega) f2 ht (by omega) (fun l13 => ⟨by omega, ?_⟩)
      rw [sr]
      have hb := hL.1.2.2.2.2.1
      have dz := s1.day hL.1.1.2 hL.hH (by omega) (S0 r 4)
      refine passDay_ok (p := 36) (Or.inr rfl) (σ := S) (g := M i) (tw := S0 r 0) (H := S0 (r + 2)) (B := B + 2376 * i) (D := 999 + i) (by rw [show (36 : Nat) + 1 = 37 from rfl, s37]; exact s1) hL.1.1.2 hL.hH (by omega) (by omega) (by omega) ?_
      rw [show (36 : Nat) + 1 = 37 from rfl, s37, ← hFs i i0]
      generalize hW : putF S 37 (F (i + 1)) = W
      have w37 : W 37 = F (i + 1) := by rw [← hW, putF_at]
      have wz : ∀ p, p ≠ 37 → W p = S p := fun p a => by rw [← hW, putF_ne a]
      have w1 : ∀ p, p ≠ 27 → p ≠ 29 → p ≠ 37 → W p = S0 p := fun p a b c => by rw [wz p c]; exact sz p a b c
      have w27 : W 27 = T 27 := by rw [wz 27 (by decide)]; exact s27
      have w3 : W 27 3 = S0 27 3 ∧ W 27 5 = S0 27 5 ∧ W 27 4 = K := by rw [w27]; exact ⟨t3, t5, t4⟩
      have nxt : ∀ A, LPc S0 r F K (i + 1) A → AW d mX3_answer 27 [some (.inr (.inr 27)), some (.inr (.inr r)), some (.inr (.inr 36)), some (.inl (td + N)), some (.inr (.inl (fnF K V td i (foI (fnF K V td) (-1) i)))), none, some (.inr (.inl (foI (smF V) 0 i + V i))), none, some (.inr (.inl (bsF K V i (foI (bsF K V) 0 i)))), none, some (.inl td), some (.inl (td + i + 1)), none, none] [] A Q := by
        intro A hA
        have := ih A hA
        rw [foI_s _ _ i0, foI_s _ _ i0, foI_s _ _ i0, show td + (i + 1) = td + i + 1 by omega] at this
        exact this
      refine cN_142 hr ⟨by omega, fun c => nxt W ⟨w1, w37, w3, ?_⟩, fun c => ⟨by omega, by omega, ?_⟩⟩
      · have c4s : ∀ k, c4 S0 r (F (i + 1)) k = c4 S0 r (F i) k := fun k => by
          rw [hFs i i0]
          exact c4_same s1 hL.1.1.2 hL.hH (by omega) (S0 r 4) (by omega) hL.1.1 dz.2.2.2.1 k
        rw [w27, c4s, c4s, c4s, c4s]
        exact ⟨t6, t7, t8, t9⟩
      · have hsr := s1n.sr hL.1.1.2 hL.hH
        have hlr := s1n.lr hL.1.1.2 hL.hH
        have hLW : RLR W r := hrl W (fun p a b c _ => w1 p a b c)
        refine ⟨⟨by omega, hLW.1, by rw [w37]; exact hsr⟩, fun A1 e1 => ⟨by omega, ⟨by omega, by rw [e1, up_pf (by decide), w37]; exact hlr⟩, fun A2 e2 => ⟨by omega, ⟨by omega, by rw [e2, up_pf (by decide), e1, up_pf (by decide), w37]; exact hsr⟩, fun A3 e3 => ⟨by omega, ⟨by omega, by rw [e3, up_pf (by decide), e2, up_pf (by decide), e1, up_pf (by decide), w37]; exact hlr⟩, fun A4 e4 => nxt A4 (lpc_count hr w1 w37 w3 e1 e2 e3 e4)⟩⟩⟩⟩
