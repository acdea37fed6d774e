/-! ===== spare, need (wip/whole/gen76.py) ===== -/
def kX8_countOrStep_10 : List BI := [bi (.iload_n 1) 1 [] 0, bi (.istore_n 2) 1 [] 0, bi (.iconst 1) 1 [] 0, bi (.istore_n 3) 1 [] 0]
theorem cX8_countOrStep_10 : chk mX8_countOrStep 10 kX8_countOrStep_10 = true := by decide +kernel
def kX8_countOrStep_0 : List BI := [bi (.iload_n 1) 1 [] 0, bi (.iconst (-1)) 1 [] 0, bi (.if_icmp .ne (8)) 3 [10] 0, bi (.iload_n 0) 1 [] 0, bi (.invokestatic 152) 3 [mJ6_bitCount_0f7a4, 1, 1] 0, bi (.ireturn) 1 [] 0]
theorem cX8_countOrStep_0 : chk mX8_countOrStep 0 kX8_countOrStep_0 = true := by decide +kernel
theorem xcos_0 {d : Nat} {σ : SG} {Q : Option AV → SG → Prop} {s k : Int} (h : (r3 k) ∧ (k ≠ (-1) → AW d mX8_countOrStep 14 [some (.inl s), none, some (.inl k), some (.inl 1)] [] σ Q) ∧ (k = (-1) → (0 < d) ∧ (0 ≤ s ∧ s < 16384) ∧ Q (some (.inl (popc s))) σ)) : AW d mX8_countOrStep 0 [some (.inl s), some (.inl k), none, none] [] σ Q := AW.blk kX8_countOrStep_0 cX8_countOrStep_0 (⟨⟨(h).1, (by decide)⟩, ⟨fun c1 => AW.blk kX8_countOrStep_10 cX8_countOrStep_10 (AW.drop 1 (((h).2).1 c1)), fun c1 => ⟨(((h).2).2 c1).1, bitCount_ok ⟨((((h).2).2 c1).2).1, ((((h).2).2 c1).2).2⟩⟩⟩⟩)
def kX8_countOrStep_44 : List BI := [bi (.iconst (-1)) 1 [] 0, bi (.ireturn) 1 [] 0]
theorem cX8_countOrStep_44 : chk mX8_countOrStep 44 kX8_countOrStep_44 = true := by decide +kernel
def kX8_countOrStep_38 : List BI := [bi (.iinc 3 (1)) 3 [] 0, bi (.goto (-27)) 3 [14] 0]
theorem cX8_countOrStep_38 : chk mX8_countOrStep 38 kX8_countOrStep_38 = true := by decide +kernel
def kX8_countOrStep_35 : List BI := [bi (.iinc 2 (-1)) 3 [] 0, bi (.iinc 3 (1)) 3 [] 0, bi (.goto (-27)) 3 [14] 0]
theorem cX8_countOrStep_35 : chk mX8_countOrStep 35 kX8_countOrStep_35 = true := by decide +kernel
def kX8_countOrStep_14 : List BI := [bi (.iload_n 3) 1 [] 0, bi (.bipush (14)) 2 [] 0, bi (.if_icmp .gt (27)) 3 [44] 0, bi (.iload_n 0) 1 [] 0, bi (.iload_n 3) 1 [] 0, bi (.invokestatic 178) 3 [mX8_bit, 1, 1] 0, bi (.iand) 1 [] 0, bi (.ifCond .eq (12)) 3 [38] 0, bi (.iload_n 2) 1 [] 0, bi (.ifCond .ne (5)) 3 [35] 0, bi (.iload_n 3) 1 [] 0, bi (.ireturn) 1 [] 0]
theorem cX8_countOrStep_14 : chk mX8_countOrStep 14 kX8_countOrStep_14 = true := by decide +kernel
theorem xcos_14 {d : Nat} {σ : SG} {Q : Option AV → SG → Prop} {s l2 l3 : Int} (h : (r3 l3) ∧ (14 < l3 → Q (some (.inl ((-1)))) σ) ∧ (l3 ≤ 14 → (0 < d) ∧ (0 ≤ (l3 - 1) ∧ (l3 - 1) < 32) ∧ (r3 (band s (1 * 2 ^ Int.toNat (l3 - 1)))) ∧ ((band s (1 * 2 ^ Int.toNat (l3 - 1))) = 0 → AW d mX8_countOrStep 14 [some (.inl s), none, some (.inl l2), some (.inl (l3 + 1))] [] σ Q) ∧ ((band s (1 * 2 ^ Int.toNat (l3 - 1))) ≠ 0 → (r3 l2) ∧ (l2 ≠ 0 → AW d mX8_countOrStep 14 [some (.inl s), none, some (.inl (l2 + (-1))), some (.inl (l3 + 1))] [] σ Q) ∧ (l2 = 0 → Q (some (.inl l3)) σ)))) : AW d mX8_countOrStep 14 [some (.inl s), none, some (.inl l2), some (.inl l3)] [] σ Q := AW.blk kX8_countOrStep_14 cX8_countOrStep_14 (⟨⟨(h).1, (by decide)⟩, ⟨fun c4 => AW.blk kX8_countOrStep_44 cX8_countOrStep_44 (((h).2).1 c4), fun c4 => ⟨(((h).2).2 c4).1, AW.blk kX8_bit_0 cX8_bit_0 (⟨⟨(((((h).2).2 c4).2).1).1, (((((h).2).2 c4).2).1).2⟩, ⟨(((((h).2).2 c4).2).2).1, ⟨fun c3 => AW.blk kX8_countOrStep_38 cX8_countOrStep_38 (((((((h).2).2 c4).2).2).2).1 c3), fun c3 => ⟨(((((((h).2).2 c4).2).2).2).2 c3).1, ⟨fun c2 => AW.blk kX8_countOrStep_35 cX8_countOrStep_35 (((((((((h).2).2 c4).2).2).2).2 c3).2).1 c2), fun c2 => ((((((((h).2).2 c4).2).2).2).2 c3).2).2 c2⟩⟩⟩⟩⟩)⟩⟩⟩)
theorem kth_none {x k : Int} (hx : 0 ≤ x ∧ x < 16384) (h : fstI (kthB x k) 14 = -1) : fstI (kthB x k) 24 = -1 := by
  have key : ∀ m : Nat, fstI (kthB x k) (14 + m) = -1 := by
    intro m
    induction m with
    | zero => exact h
    | succ m ih =>
      rw [show (14 : Int) + ((m + 1 : Nat) : Int) = 14 + m + 1 by omega]
      refine (fstI_s1 _ (by omega)).mpr ⟨ih, ?_⟩
      unfold kthB
      cases hb : tb x (14 + (m : Int)).toNat
      · rfl
      · have := tb_lt hx hb
        omega
  have := key 10
  rwa [show (14 : Int) + ((10 : Nat) : Int) = 24 from rfl] at this
def csV (x k : Int) : Int := if k = -1 then popc x else if fstI (kthB x k) 24 = -1 then -1 else fstI (kthB x k) 24 + 1
theorem countOrStep_hi {d : Nat} {σ : SG} {Q : Option AV → SG → Prop} {x k : Int} (h : (1 ≤ d ∧ 0 ≤ x ∧ x < 16384 ∧ r3 k ∧ -2000000000 ≤ k) ∧ Q (some (.inl (csV x k))) σ) : AW d mX8_countOrStep 0 [some (.inl x), some (.inl k), none, none] [] σ Q := by
  obtain ⟨⟨hd, x0, x1, hk, hk2⟩, hq⟩ := h
  unfold csV at hq
  refine xcos_0 ⟨by omega, fun c => ?_, fun c => ⟨by omega, by omega, ?_⟩⟩
  · rw [if_neg c] at hq
    have key := downInd (P := fun i => fstI (kthB x k) i = -1 → AW d mX8_countOrStep 14 [some (.inl x), none, some (.inl (k - lowB x i)), some (.inl (i + 1))] [] σ Q) (lo := 0) (hi := 14) (by decide) ?_ ?_ rfl
    · have e0 : k - lowB x 0 = k := by
        show k - 0 = k
        omega
      rw [e0] at key
      exact key
    · intro hn
      rw [if_pos (kth_none ⟨x0, x1⟩ hn)] at hq
      exact xcos_14 ⟨by omega, fun _ => hq, fun z => by omega⟩
    · intro i i0 i1 ih hn
      have hl := lowB_r x i0
      have hs := lowB_s x i0
      have hf := fstI_s (kthB x k) i0
      rw [if_pos hn] at hf
      have ei : (i + 1 - 1).toNat = i.toNat := by omega
      have hb := band_pow0 (x := x) (k := i.toNat) (by omega)
      refine xcos_14 ?_
      rw [ei]
      refine ⟨by omega, fun z => by omega, fun _ => ⟨by omega, by omega, band_r3 (by omega) (by omega), fun c1 => ?_, fun c1 => ⟨by omega, fun c2 => ?_, fun c2 => ?_⟩⟩⟩
      · have ht := hb.mp c1
        rw [ht] at hs
        rw [if_neg (by decide)] at hs
        have hp : kthB x k i = false := by unfold kthB; rw [ht]; rfl
        rw [hp, if_neg (by decide)] at hf
        have := ih hf
        rwa [hs] at this
      · have ht : tb x i.toNat = true := by
          cases hz : tb x i.toNat
          · exact absurd (hb.mpr hz) c1
          · rfl
        rw [ht, if_pos rfl] at hs
        have hp : kthB x k i = false := by
          unfold kthB
          rw [ht, decide_eq_false (by omega)]
          rfl
        rw [hp, if_neg (by decide)] at hf
        have := ih hf
        rw [hs] at this
        rw [show k - lowB x i + -1 = k - (lowB x i + 1) by omega]
        exact this
      · have ht : tb x i.toNat = true := by
          cases hz : tb x i.toNat
          · exact absurd (hb.mpr hz) c1
          · rfl
        have hp : kthB x k i = true := by
          unfold kthB
          rw [ht, decide_eq_true (by omega)]
          rfl
        have hh := fstI_hit (kthB x k) (n := 24) i0 (by omega) hn hp
        rw [hh, if_neg (by omega)] at hq
        exact hq
  · rwa [if_pos c] at hq
theorem kth_low {x k : Int} (hk : k < -2000000000) : fstI (kthB x k) 24 = -1 := by
  rcases fstI_r (kthB x k) 24 with e | ⟨e0, e1, e2⟩
  · exact e
  · exfalso
    generalize fstI (kthB x k) 24 = m at e0 e1 e2
    have hl := lowB_r x e0
    unfold kthB at e2
    simp only [Bool.and_eq_true, decide_eq_true_eq] at e2
    omega
theorem countOrStep_lo {d : Nat} {σ : SG} {Q : Option AV → SG → Prop} {x k : Int} (h : (1 ≤ d ∧ 0 ≤ x ∧ x < 16384 ∧ r3 k ∧ k < -2000000000) ∧ Q (some (.inl (csV x k))) σ) : AW d mX8_countOrStep 0 [some (.inl x), some (.inl k), none, none] [] σ Q := by
  obtain ⟨⟨hd, x0, x1, hk, hk2⟩, hq⟩ := h
  unfold csV at hq
  rw [if_neg (by omega), if_pos (kth_low hk2)] at hq
  refine xcos_0 ⟨by omega, fun c => ?_, fun c => by omega⟩
  have key := downInd (P := fun i => ∀ z : Int, r3 z → (z ≤ -2000000000 ∨ 2000000000 - i ≤ z) → AW d mX8_countOrStep 14 [some (.inl x), none, some (.inl z), some (.inl (i + 1))] [] σ Q) (lo := 0) (hi := 14) (by decide) ?_ ?_ k hk (by omega)
  · exact key
  · intro z hz hz2
    exact xcos_14 ⟨by omega, fun _ => hq, fun z => by omega⟩
  · intro i i0 i1 ih z hz hz2
    have ei : (i + 1 - 1).toNat = i.toNat := by omega
    refine xcos_14 ?_
    rw [ei]
    refine ⟨by omega, fun z => by omega, fun _ => ⟨by omega, by omega, band_r3 (by omega) (by omega), fun c1 => ih z hz (by omega), fun c1 => ⟨hz, fun c2 => ?_, fun c2 => by omega⟩⟩⟩
    by_cases hm : z = -2147483648
    · subst hm
      have e : Int32.ofInt (-2147483648 + -1) = Int32.ofInt 2147483647 := by decide
      refine AW.same (ls' := [some (.inl x), none, some (.inl 2147483647), some (.inl (i + 1 + 1))]) (st' := []) (fun ad => ?_) rfl (fun _ => rfl) (ih 2147483647 (by omega) (by omega))
      exact congrArg (fun v => ([(0, cv ad (.inl x)), (2, .int v), (3, cv ad (.inl (i + 1 + 1)))] : List (Nat × Value))) e
    · exact ih (z + -1) (by omega) (by omega)
theorem countOrStep_ok {d : Nat} {σ : SG} {Q : Option AV → SG → Prop} {x k : Int} (h : (1 ≤ d ∧ 0 ≤ x ∧ x < 16384 ∧ r3 k) ∧ Q (some (.inl (csV x k))) σ) : AW d mX8_countOrStep 0 [some (.inl x), some (.inl k), none, none] [] σ Q := by
  obtain ⟨⟨hd, x0, x1, hk⟩, hq⟩ := h
  by_cases c : k < -2000000000
  · exact countOrStep_lo ⟨⟨hd, x0, x1, hk, c⟩, hq⟩
  · exact countOrStep_hi ⟨⟨hd, x0, x1, hk, by omega⟩, hq⟩
theorem mhV_q {σ τ : SG} (e61 : τ 61 = σ 61) (e63 : τ 63 = σ 63) (e64 : τ 64 = σ 64) (t x : Int) : mhV τ t x = mhV σ t x := by
  unfold mhV
  rw [e61, e63, e64]
theorem mspV_q {σ τ : SG} (e61 : τ 61 = σ 61) (e63 : τ 63 = σ 63) (e64 : τ 64 = σ 64) (e69 : τ 69 = σ 69) (t : Int) : mspV τ t = mspV σ t ∧ mneV τ t = mneV σ t := by
  have hm := mhV_q e61 e63 e64
  have es : ∀ a b c m, foI (spB τ t a b c) 0 m = foI (spB σ t a b c) 0 m := fun a b c m => foI_cong (fun i x _ _ => by unfold spB; rw [hm])
  have en : ∀ a b m, foI (neB τ t a) b m = foI (neB σ t a) b m := fun a b m => foI_cong (fun i x _ _ => by unfold neB; rw [hm])
  unfold mspV mneV mstV
  rw [e63, e69, hm, es, en]
  exact ⟨rfl, rfl⟩
theorem mspV_r {σ : SG} {t : Int} (h0 : 3 ≤ σ 63 (8 + 2 * t)) (h1 : σ 63 (8 + 2 * t) ≤ 14) (hM : MLR (σ 69)) : (0 ≤ mspV σ t ∧ mspV σ t < 16384) ∧ (0 ≤ mneV σ t ∧ mneV σ t < 16384) := by
  have hp := pow_r2 (i := σ 63 (8 + 2 * t) - 1) (by omega) (by omega)
  have hp3 := pow_r (i := σ 63 (8 + 2 * t) - 1) (by omega) (by omega)
  have hp2 := pow_r2 (i := σ 63 (8 + 2 * t)) (by omega) (by omega)
  have hms : 0 ≤ mstV σ t ∧ mstV σ t < 16384 := bor_r (hwB_r _ _ _ h1) (fsB_r hM t)
  constructor
  · unfold mspV
    split
    · omega
    · have := spB_r (σ := σ) (t := t) (st := mstV σ t) (th := band (foI (hwB (σ 69) t 0) 0 (σ 63 (8 + 2 * t))) (bxor (1 * 2 ^ Int.toNat (σ 63 (8 + 2 * t) - 1)) (-1))) (fi := foI (fsB (σ 69) t) 0 (σ 69 1)) (i := 1 * 2 ^ Int.toNat (σ 63 (8 + 2 * t) - 1)) (by omega)
      omega
  · unfold mneV
    split
    · exact (neB_r (σ := σ) (t := t) (st := mstV σ t) (band_r ⟨by omega, by omega⟩) (by omega) (by omega)).1
    · omega
theorem SIM.msO {n : Int} {σ : SG} {r q : Nat} (h : SIM n σ r q) {t : Int} (t0 : 0 ≤ t) (t1 : t < σ r 0) (d : Nat) (hd : 4 ≤ d) : msO d σ t := by
  obtain ⟨⟨hh1, hh2, t4⟩, h63, _, hMS, em, hrr⟩ := h.tw t0 t1
  obtain ⟨hLR, hSR, hML, hMG, hRL, hN, hW⟩ := h.lr
  exact ⟨hd, hMG, hML, t0, t4, by omega, by omega, hMS⟩
def kX8_spare_20 : List BI := [bi (.iconst (-1)) 1 [] 0, bi (.ireturn) 1 [] 0]
theorem cX8_spare_20 : chk mX8_spare 20 kX8_spare_20 = true := by decide +kernel
def kX8_spare_0 : List BI := [bi (.aload_n 0) 1 [] 0, bi (.iload_n 1) 1 [] 0, bi (.invokevirtual 131) 3 [mX8_isTower, 2, 2, 8] 0, bi (.ifCond .eq (15)) 3 [20] 0, bi (.aload_n 0) 1 [] 0, bi (.iload_n 1) 1 [] 0, bi (.invokevirtual 244) 3 [mX8_spareOf, 2, 7, 8] 0]
theorem cX8_spare_0 : chk mX8_spare 0 kX8_spare_0 = true := by decide +kernel
theorem xspare_0 {d : Nat} {σ : SG} {Q : Option AV → SG → Prop} {t k : Int} {r : Nat} (hr : r = 5 ∨ r = 16) (hx : (σ 0 9).toNat = r) (h : (0 < d) ∧ (r3 t) ∧ (t < 0 → Q (some (.inl ((-1)))) σ) ∧ (0 ≤ t → (r3 t ∧ r3 (σ r 0)) ∧ ((σ r 0) ≤ t → Q (some (.inl ((-1)))) σ) ∧ (t < (σ r 0) → (0 < d) ∧ AW (d - 1) mX8_spareOf 0 [some (.inr (.inr 0)), some (.inl t), none, none, none, none, none] [] σ (fun rr σ' => AW d mX8_spare 13 [some (.inr (.inr 0)), some (.inl t), some (.inl k)] (rtS rr []) σ' Q)))) : AW d mX8_spare 0 [some (.inr (.inr 0)), some (.inl t), some (.inl k)] [] σ Q := by
  rcases hr with rfl | rfl <;> exact AW.blk kX8_spare_0 cX8_spare_0 (⟨(h).1, AW.blk kX8_isTower_0 cX8_isTower_0 (⟨((h).2).1, ⟨fun c6 => AW.blk kX8_isTower_19 cX8_isTower_19 (⟨(by decide), ⟨(by decide), ⟨fun _ => AW.blk kX8_spare_20 cX8_spare_20 ((((h).2).2).1 c6), fun c => absurd c (by decide)⟩⟩⟩), fun c6 => aw_rl hx (AW.blk kX8_isTower_9 cX8_isTower_9 (⟨⟨(((((h).2).2).2 c6).1).1, (((((h).2).2).2 c6).1).2⟩, ⟨fun c5 => AW.blk kX8_isTower_19 cX8_isTower_19 (⟨(by decide), ⟨(by decide), ⟨fun _ => AW.blk kX8_spare_20 cX8_spare_20 ((((((h).2).2).2 c6).2).1 c5), fun c => absurd c (by decide)⟩⟩⟩), fun c5 => AW.blk kX8_isTower_20 cX8_isTower_20 (⟨(by decide), ⟨(by decide), ⟨fun c => absurd c (by decide), fun _ => ⟨((((((h).2).2).2 c6).2).2 c5).1, ((((((h).2).2).2 c6).2).2 c5).2⟩⟩⟩⟩)⟩⟩))⟩⟩)⟩)
def kX8_spare_21 : List BI := [bi (.ireturn) 1 [] 0]
theorem cX8_spare_21 : chk mX8_spare 21 kX8_spare_21 = true := by decide +kernel
def kX8_spare_13 : List BI := [bi (.iload_n 2) 1 [] 0, bi (.invokestatic 247) 3 [mX8_countOrStep, 2, 4] 0, bi (.goto (4)) 3 [21] 0]
theorem cX8_spare_13 : chk mX8_spare 13 kX8_spare_13 = true := by decide +kernel
theorem xspare_13 {d : Nat} {σ : SG} {Q : Option AV → SG → Prop} {t k s0 : Int} (h : (0 < d) ∧ (1 ≤ d - 1 ∧ 0 ≤ s0 ∧ s0 < 16384 ∧ r3 k) ∧ Q (some (.inl (csV s0 k))) σ) : AW d mX8_spare 13 [some (.inr (.inr 0)), some (.inl t), some (.inl k)] [.inl s0] σ Q := AW.blk kX8_spare_13 cX8_spare_13 (⟨(h).1, countOrStep_ok ⟨((h).2).1, AW.blk kX8_spare_21 cX8_spare_21 (((h).2).2)⟩⟩)
def kX8_need_20 : List BI := [bi (.iconst (-1)) 1 [] 0, bi (.ireturn) 1 [] 0]
theorem cX8_need_20 : chk mX8_need 20 kX8_need_20 = true := by decide +kernel
def kX8_need_0 : List BI := [bi (.aload_n 0) 1 [] 0, bi (.iload_n 1) 1 [] 0, bi (.invokevirtual 131) 3 [mX8_isTower, 2, 2, 8] 0, bi (.ifCond .eq (15)) 3 [20] 0, bi (.aload_n 0) 1 [] 0, bi (.iload_n 1) 1 [] 0, bi (.invokevirtual 250) 3 [mX8_needOf, 2, 4, 8] 0]
theorem cX8_need_0 : chk mX8_need 0 kX8_need_0 = true := by decide +kernel
theorem xneed_0 {d : Nat} {σ : SG} {Q : Option AV → SG → Prop} {t k : Int} {r : Nat} (hr : r = 5 ∨ r = 16) (hx : (σ 0 9).toNat = r) (h : (0 < d) ∧ (r3 t) ∧ (t < 0 → Q (some (.inl ((-1)))) σ) ∧ (0 ≤ t → (r3 t ∧ r3 (σ r 0)) ∧ ((σ r 0) ≤ t → Q (some (.inl ((-1)))) σ) ∧ (t < (σ r 0) → (0 < d) ∧ AW (d - 1) mX8_needOf 0 [some (.inr (.inr 0)), some (.inl t), none, none] [] σ (fun rr σ' => AW d mX8_need 13 [some (.inr (.inr 0)), some (.inl t), some (.inl k)] (rtS rr []) σ' Q)))) : AW d mX8_need 0 [some (.inr (.inr 0)), some (.inl t), some (.inl k)] [] σ Q := by
  rcases hr with rfl | rfl <;> exact AW.blk kX8_need_0 cX8_need_0 (⟨(h).1, AW.blk kX8_isTower_0 cX8_isTower_0 (⟨((h).2).1, ⟨fun c8 => AW.blk kX8_isTower_19 cX8_isTower_19 (⟨(by decide), ⟨(by decide), ⟨fun _ => AW.blk kX8_need_20 cX8_need_20 ((((h).2).2).1 c8), fun c => absurd c (by decide)⟩⟩⟩), fun c8 => aw_rl hx (AW.blk kX8_isTower_9 cX8_isTower_9 (⟨⟨(((((h).2).2).2 c8).1).1, (((((h).2).2).2 c8).1).2⟩, ⟨fun c7 => AW.blk kX8_isTower_19 cX8_isTower_19 (⟨(by decide), ⟨(by decide), ⟨fun _ => AW.blk kX8_need_20 cX8_need_20 ((((((h).2).2).2 c8).2).1 c7), fun c => absurd c (by decide)⟩⟩⟩), fun c7 => AW.blk kX8_isTower_20 cX8_isTower_20 (⟨(by decide), ⟨(by decide), ⟨fun c => absurd c (by decide), fun _ => ⟨((((((h).2).2).2 c8).2).2 c7).1, ((((((h).2).2).2 c8).2).2 c7).2⟩⟩⟩⟩)⟩⟩))⟩⟩)⟩)
def kX8_need_21 : List BI := [bi (.ireturn) 1 [] 0]
theorem cX8_need_21 : chk mX8_need 21 kX8_need_21 = true := by decide +kernel
def kX8_need_13 : List BI := [bi (.iload_n 2) 1 [] 0, bi (.invokestatic 247) 3 [mX8_countOrStep, 2, 4] 0, bi (.goto (4)) 3 [21] 0]
theorem cX8_need_13 : chk mX8_need 13 kX8_need_13 = true := by decide +kernel
theorem xneed_13 {d : Nat} {σ : SG} {Q : Option AV → SG → Prop} {t k s0 : Int} (h : (0 < d) ∧ (1 ≤ d - 1 ∧ 0 ≤ s0 ∧ s0 < 16384 ∧ r3 k) ∧ Q (some (.inl (csV s0 k))) σ) : AW d mX8_need 13 [some (.inr (.inr 0)), some (.inl t), some (.inl k)] [.inl s0] σ Q := AW.blk kX8_need_13 cX8_need_13 (⟨(h).1, countOrStep_ok ⟨((h).2).1, AW.blk kX8_need_21 cX8_need_21 (((h).2).2)⟩⟩)
def kX9_spare_20 : List BI := [bi (.iconst (-1)) 1 [] 0, bi (.ireturn) 1 [] 0]
theorem cX9_spare_20 : chk mX9_spare 20 kX9_spare_20 = true := by decide +kernel
def kX9_spare_21 : List BI := [bi (.ireturn) 1 [] 0]
theorem cX9_spare_21 : chk mX9_spare 21 kX9_spare_21 = true := by decide +kernel
def kX9_told_25 : List BI := [bi (.iload_n 2) 1 [] 0, bi (.iconst 1) 1 [] 0, bi (.iadd) 1 [] 0, bi (.ireturn) 1 [] 0]
theorem cX9_told_25 : chk mX9_told 25 kX9_told_25 = true := by decide +kernel
def kX9_told_28 : List BI := [bi (.ireturn) 1 [] 0]
theorem cX9_told_28 : chk mX9_told 28 kX9_told_28 = true := by decide +kernel
def kX9_told_10 : List BI := [bi (.iload_n 0) 1 [] 0, bi (.iload_n 1) 1 [] 0, bi (.invokestatic 423) 3 [mX9_bitAt, 2, 4] 0, bi (.istore_n 2) 1 [] 0, bi (.iload_n 2) 1 [] 0, bi (.iconst (-1)) 1 [] 0, bi (.if_icmp .ne (7)) 3 [25] 0, bi (.iconst (-1)) 1 [] 0, bi (.goto (6)) 3 [28] 0]
theorem cX9_told_10 : chk mX9_told 10 kX9_told_10 = true := by decide +kernel
def kX9_told_0 : List BI := [bi (.iload_n 1) 1 [] 0, bi (.iconst (-1)) 1 [] 0, bi (.if_icmp .ne (8)) 3 [10] 0, bi (.iload_n 0) 1 [] 0, bi (.invokestatic 374) 3 [mX9_bits, 1, 3] 0, bi (.ireturn) 1 [] 0]
theorem cX9_told_0 : chk mX9_told 0 kX9_told_0 = true := by decide +kernel
def kX9_spare_0 : List BI := [bi (.aload_n 0) 1 [] 0, bi (.iload_n 1) 1 [] 0, bi (.invokevirtual 325) 3 [mX9_isTower, 2, 2, 9] 0, bi (.ifCond .eq (15)) 3 [20] 0, bi (.aload_n 0) 1 [] 0, bi (.iload_n 1) 1 [] 0, bi (.invokevirtual 426) 3 [mX9_spareSet, 2, 8, 9] 0, bi (.iload_n 2) 1 [] 0, bi (.invokestatic 429) 3 [mX9_told, 2, 3] 0, bi (.goto (4)) 3 [21] 0]
theorem cX9_spare_0 : chk mX9_spare 0 kX9_spare_0 = true := by decide +kernel
theorem mspare_0 {d : Nat} {σ : SG} {Q : Option AV → SG → Prop} {t k : Int} (h : (0 < d) ∧ (r3 t) ∧ (0 < d - 1) ∧ (r3 ((σ 61 4) - 1)) ∧ (0 < d - 1) ∧ (r6 t) ∧ (t < 0 → Q (some (.inl ((-1)))) σ) ∧ (0 ≤ t → (r6 t ∧ r6 ((σ 61 4) - 1)) ∧ (((σ 61 4) - 1) < t → Q (some (.inl ((-1)))) σ) ∧ (t ≤ ((σ 61 4) - 1) → (0 < d) ∧ (msO (d - 1) σ t) ∧ (∀ f9 : Int → Int, (0 < d) ∧ (r3 k) ∧ (k ≠ (-1) → (0 < d - 1) ∧ (0 ≤ (mspV σ t) ∧ (mspV σ t) < 16384 ∧ r3 k) ∧ (r3 (fstI (kthB (mspV σ t) k) 24)) ∧ ((fstI (kthB (mspV σ t) k) 24) ≠ (-1) → Q (some (.inl ((fstI (kthB (mspV σ t) k) 24) + 1))) (putF σ 70 f9)) ∧ ((fstI (kthB (mspV σ t) k) 24) = (-1) → Q (some (.inl ((-1)))) (putF σ 70 f9))) ∧ (k = (-1) → (0 < d - 1) ∧ (0 ≤ (mspV σ t) ∧ (mspV σ t) < 16384) ∧ Q (some (.inl (popc (mspV σ t)))) (putF σ 70 f9)))))) : AW d mX9_spare 0 [some (.inr (.inr 42)), some (.inl t), some (.inl k)] [] σ Q := AW.blk kX9_spare_0 cX9_spare_0 (⟨(h).1, AW.blk kX9_isTower_0 cX9_isTower_0 (⟨((h).2).1, ⟨(((h).2).2).1, AW.blk kX9_towerMany_0 cX9_towerMany_0 (⟨⟨(by decide), (by decide)⟩, ⟨((((h).2).2).2).1, ⟨(((((h).2).2).2).2).1, AW.blk kX9_isIn_0 cX9_isIn_0 (⟨⟨((((((h).2).2).2).2).2).1, (by decide)⟩, ⟨fun c13 => AW.blk kX9_isIn_17 cX9_isIn_17 (⟨(by decide), ⟨(by decide), ⟨(by decide), ⟨fun _ => AW.blk kX9_spare_20 cX9_spare_20 ((((((((h).2).2).2).2).2).2).1 c13), fun c => absurd c (by decide)⟩⟩⟩⟩), fun c13 => ⟨⟨(((((((((h).2).2).2).2).2).2).2 c13).1).1, (((((((((h).2).2).2).2).2).2).2 c13).1).2⟩, ⟨fun c12 => AW.blk kX9_isIn_17 cX9_isIn_17 (⟨(by decide), ⟨(by decide), ⟨(by decide), ⟨fun _ => AW.blk kX9_spare_20 cX9_spare_20 ((((((((((h).2).2).2).2).2).2).2 c13).2).1 c12), fun c => absurd c (by decide)⟩⟩⟩⟩), fun c12 => AW.blk kX9_isIn_18 cX9_isIn_18 (⟨(by decide), ⟨(by decide), ⟨(by decide), ⟨fun c => absurd c (by decide), fun _ => ⟨((((((((((h).2).2).2).2).2).2).2 c13).2).2 c12).1, mspareSet_ok ⟨(((((((((((h).2).2).2).2).2).2).2 c13).2).2 c12).2).1, fun f9 => ⟨(((((((((((((h).2).2).2).2).2).2).2 c13).2).2 c12).2).2 f9)).1, AW.blk kX9_told_0 cX9_told_0 (⟨⟨((((((((((((((h).2).2).2).2).2).2).2 c13).2).2 c12).2).2 f9)).2).1, (by decide)⟩, ⟨fun c11 => AW.blk kX9_told_10 cX9_told_10 (⟨((((((((((((((((h).2).2).2).2).2).2).2 c13).2).2 c12).2).2 f9)).2).2).1 c11).1, mbitAt_ok ⟨(((((((((((((((((h).2).2).2).2).2).2).2 c13).2).2 c12).2).2 f9)).2).2).1 c11).2).1, ⟨⟨((((((((((((((((((h).2).2).2).2).2).2).2 c13).2).2 c12).2).2 f9)).2).2).1 c11).2).2).1, (by decide)⟩, ⟨fun c10 => AW.blk kX9_told_25 cX9_told_25 (AW.blk kX9_spare_21 cX9_spare_21 ((((((((((((((((((((h).2).2).2).2).2).2).2 c13).2).2 c12).2).2 f9)).2).2).1 c11).2).2).2).1 c10)), fun c10 => AW.blk kX9_told_28 cX9_told_28 (AW.blk kX9_spare_21 cX9_spare_21 ((((((((((((((((((((h).2).2).2).2).2).2).2 c13).2).2 c12).2).2 f9)).2).2).1 c11).2).2).2).2 c10))⟩⟩⟩⟩), fun c11 => ⟨((((((((((((((((h).2).2).2).2).2).2).2 c13).2).2 c12).2).2 f9)).2).2).2 c11).1, mbits_ok ⟨(((((((((((((((((h).2).2).2).2).2).2).2 c13).2).2 c12).2).2 f9)).2).2).2 c11).2).1, AW.blk kX9_spare_21 cX9_spare_21 ((((((((((((((((((h).2).2).2).2).2).2).2 c13).2).2 c12).2).2 f9)).2).2).2 c11).2).2)⟩⟩⟩⟩)⟩⟩⟩⟩⟩⟩⟩)⟩⟩⟩⟩)⟩⟩⟩)⟩⟩)⟩)
def kX9_need_20 : List BI := [bi (.iconst (-1)) 1 [] 0, bi (.ireturn) 1 [] 0]
theorem cX9_need_20 : chk mX9_need 20 kX9_need_20 = true := by decide +kernel
def kX9_need_21 : List BI := [bi (.ireturn) 1 [] 0]
theorem cX9_need_21 : chk mX9_need 21 kX9_need_21 = true := by decide +kernel
def kX9_need_0 : List BI := [bi (.aload_n 0) 1 [] 0, bi (.iload_n 1) 1 [] 0, bi (.invokevirtual 325) 3 [mX9_isTower, 2, 2, 9] 0, bi (.ifCond .eq (15)) 3 [20] 0, bi (.aload_n 0) 1 [] 0, bi (.iload_n 1) 1 [] 0, bi (.invokevirtual 432) 3 [mX9_needSet, 2, 7, 9] 0, bi (.iload_n 2) 1 [] 0, bi (.invokestatic 429) 3 [mX9_told, 2, 3] 0, bi (.goto (4)) 3 [21] 0]
theorem cX9_need_0 : chk mX9_need 0 kX9_need_0 = true := by decide +kernel
theorem mneed_0 {d : Nat} {σ : SG} {Q : Option AV → SG → Prop} {t k : Int} (h : (0 < d) ∧ (r3 t) ∧ (0 < d - 1) ∧ (r3 ((σ 61 4) - 1)) ∧ (0 < d - 1) ∧ (r6 t) ∧ (t < 0 → Q (some (.inl ((-1)))) σ) ∧ (0 ≤ t → (r6 t ∧ r6 ((σ 61 4) - 1)) ∧ (((σ 61 4) - 1) < t → Q (some (.inl ((-1)))) σ) ∧ (t ≤ ((σ 61 4) - 1) → (0 < d) ∧ (msO (d - 1) σ t) ∧ (∀ f14 : Int → Int, (0 < d) ∧ (r3 k) ∧ (k ≠ (-1) → (0 < d - 1) ∧ (0 ≤ (mneV σ t) ∧ (mneV σ t) < 16384 ∧ r3 k) ∧ (r3 (fstI (kthB (mneV σ t) k) 24)) ∧ ((fstI (kthB (mneV σ t) k) 24) ≠ (-1) → Q (some (.inl ((fstI (kthB (mneV σ t) k) 24) + 1))) (putF σ 70 f14)) ∧ ((fstI (kthB (mneV σ t) k) 24) = (-1) → Q (some (.inl ((-1)))) (putF σ 70 f14))) ∧ (k = (-1) → (0 < d - 1) ∧ (0 ≤ (mneV σ t) ∧ (mneV σ t) < 16384) ∧ Q (some (.inl (popc (mneV σ t)))) (putF σ 70 f14)))))) : AW d mX9_need 0 [some (.inr (.inr 42)), some (.inl t), some (.inl k)] [] σ Q := AW.blk kX9_need_0 cX9_need_0 (⟨(h).1, AW.blk kX9_isTower_0 cX9_isTower_0 (⟨((h).2).1, ⟨(((h).2).2).1, AW.blk kX9_towerMany_0 cX9_towerMany_0 (⟨⟨(by decide), (by decide)⟩, ⟨((((h).2).2).2).1, ⟨(((((h).2).2).2).2).1, AW.blk kX9_isIn_0 cX9_isIn_0 (⟨⟨((((((h).2).2).2).2).2).1, (by decide)⟩, ⟨fun c18 => AW.blk kX9_isIn_17 cX9_isIn_17 (⟨(by decide), ⟨(by decide), ⟨(by decide), ⟨fun _ => AW.blk kX9_need_20 cX9_need_20 ((((((((h).2).2).2).2).2).2).1 c18), fun c => absurd c (by decide)⟩⟩⟩⟩), fun c18 => ⟨⟨(((((((((h).2).2).2).2).2).2).2 c18).1).1, (((((((((h).2).2).2).2).2).2).2 c18).1).2⟩, ⟨fun c17 => AW.blk kX9_isIn_17 cX9_isIn_17 (⟨(by decide), ⟨(by decide), ⟨(by decide), ⟨fun _ => AW.blk kX9_need_20 cX9_need_20 ((((((((((h).2).2).2).2).2).2).2 c18).2).1 c17), fun c => absurd c (by decide)⟩⟩⟩⟩), fun c17 => AW.blk kX9_isIn_18 cX9_isIn_18 (⟨(by decide), ⟨(by decide), ⟨(by decide), ⟨fun c => absurd c (by decide), fun _ => ⟨((((((((((h).2).2).2).2).2).2).2 c18).2).2 c17).1, mneedSet_ok ⟨(((((((((((h).2).2).2).2).2).2).2 c18).2).2 c17).2).1, fun f14 => ⟨(((((((((((((h).2).2).2).2).2).2).2 c18).2).2 c17).2).2 f14)).1, AW.blk kX9_told_0 cX9_told_0 (⟨⟨((((((((((((((h).2).2).2).2).2).2).2 c18).2).2 c17).2).2 f14)).2).1, (by decide)⟩, ⟨fun c16 => AW.blk kX9_told_10 cX9_told_10 (⟨((((((((((((((((h).2).2).2).2).2).2).2 c18).2).2 c17).2).2 f14)).2).2).1 c16).1, mbitAt_ok ⟨(((((((((((((((((h).2).2).2).2).2).2).2 c18).2).2 c17).2).2 f14)).2).2).1 c16).2).1, ⟨⟨((((((((((((((((((h).2).2).2).2).2).2).2 c18).2).2 c17).2).2 f14)).2).2).1 c16).2).2).1, (by decide)⟩, ⟨fun c15 => AW.blk kX9_told_25 cX9_told_25 (AW.blk kX9_need_21 cX9_need_21 ((((((((((((((((((((h).2).2).2).2).2).2).2 c18).2).2 c17).2).2 f14)).2).2).1 c16).2).2).2).1 c15)), fun c15 => AW.blk kX9_told_28 cX9_told_28 (AW.blk kX9_need_21 cX9_need_21 ((((((((((((((((((((h).2).2).2).2).2).2).2 c18).2).2 c17).2).2 f14)).2).2).1 c16).2).2).2).2 c15))⟩⟩⟩⟩), fun c16 => ⟨((((((((((((((((h).2).2).2).2).2).2).2 c18).2).2 c17).2).2 f14)).2).2).2 c16).1, mbits_ok ⟨(((((((((((((((((h).2).2).2).2).2).2).2 c18).2).2 c17).2).2 f14)).2).2).2 c16).2).1, AW.blk kX9_need_21 cX9_need_21 ((((((((((((((((((h).2).2).2).2).2).2).2 c18).2).2 c17).2).2 f14)).2).2).2 c16).2).2)⟩⟩⟩⟩)⟩⟩⟩⟩⟩⟩⟩)⟩⟩⟩⟩)⟩⟩⟩)⟩⟩)⟩)
theorem call_spare {d : Nat} {n : Int} {σ : SG} {r q : Nat} {t k : Int} (hd : 100 ≤ d) (h : SIM n σ r q) (ht : r3 t) (hk : r3 k) : AW d mX8_spare 0 [some (.inr (.inr 0)), some (.inl t), some (.inl k)] [] σ (SAME d n r q mX9_spare [some (.inr (.inr 42)), some (.inl t), some (.inl k)]) := by
  obtain ⟨hr, _, hx, _⟩ := h.rr
  obtain ⟨hLR, hSR, hML, hMG, hRL, hN, hW⟩ := h.lr
  rcases h.tfo t with tf | t0
  · have tf' := tf
    obtain ⟨t0, t1⟩ : 0 ≤ t ∧ t < σ r 0 := ⟨tf.1.1.1, tf.1.1.2.1⟩
    obtain ⟨⟨hh1, hh2, t4⟩, h63, h63c, hMS, em, hrr⟩ := h.tw t0 t1
    have hR := (mspV_r (σ := σ) (t := t) (by omega) (by omega) hML).1
    refine xspare_0 hr hx ⟨by omega, by omega, fun c => by omega, fun _ => ⟨by omega, fun c => by omega, fun _ => ⟨by omega, ?_⟩⟩⟩
    refine spareOf_sim h t0 t1 (by omega) (fun A B => ?_)
    generalize hτ : putF (putF σ 31 A) 32 B = τ
    have zt : ∀ p, p ≠ 31 → p ≠ 32 → τ p = σ p := fun p a b => by rw [← hτ, putF_ne b, putF_ne a]
    have hS0 : SIM n τ r q := by
      rw [← hτ]
      exact (h.eqv (EQV.pf hr (p := 31) (f := A) (by omega))).eqv (EQV.pf hr (p := 32) (f := B) (by omega))
    have hv : mspV τ t = mspV σ t := (mspV_q (zt 61 (by decide) (by decide)) (zt 63 (by decide) (by decide)) (zt 64 (by decide) (by decide)) (zt 69 (by decide) (by decide)) t).1
    have hms := hS0.msO (t := t) t0 (by rw [zt r (by omega) (by omega)]; exact t1) (d - 1) (by omega)
    have e4 : τ 61 4 = σ r 0 := by rw [zt 61 (by decide) (by decide)]; exact hN.2.2.2.2.1
    refine xspare_13 ⟨by omega, ⟨by omega, hR.1, hR.2, hk⟩, ?_⟩
    unfold SAME
    refine mspare_0 ?_
    rw [e4, hv]
    generalize hw : mspV σ t = w at hR
    have hf := fstI_r (kthB w k) 24
    refine ⟨by omega, by omega, by omega, by omega, by omega, by omega, fun c => by omega, fun _ => ⟨by omega, fun c => by omega, fun _ => ⟨by omega, hms, fun f70 => ⟨by omega, hk, fun c => ⟨by omega, ⟨hR.1, hR.2, hk⟩, by omega, fun c2 => ?_, fun c2 => ?_⟩, fun c => ⟨by omega, hR, ?_⟩⟩⟩⟩⟩
    · refine ⟨?_, hS0.p70 f70⟩
      unfold csV
      rw [if_neg c, if_neg c2]
    · refine ⟨?_, hS0.p70 f70⟩
      unfold csV
      rw [if_neg c, if_pos c2]
    · refine ⟨?_, hS0.p70 f70⟩
      unfold csV
      rw [if_pos c]
  · have hm : SAME d n r q mX9_spare [some (.inr (.inr 42)), some (.inl t), some (.inl k)] (some (.inl (-1))) σ := by
      unfold SAME
      exact mspare_0 ⟨by omega, by omega, by omega, by omega, by omega, by omega, fun c => ⟨rfl, h⟩, fun _ => ⟨by omega, fun c => ⟨rfl, h⟩, fun z => by omega⟩⟩
    exact xspare_0 hr hx ⟨by omega, by omega, fun c => hm, fun _ => ⟨by omega, fun c => hm, fun z => by omega⟩⟩
theorem call_need {d : Nat} {n : Int} {σ : SG} {r q : Nat} {t k : Int} (hd : 100 ≤ d) (h : SIM n σ r q) (ht : r3 t) (hk : r3 k) : AW d mX8_need 0 [some (.inr (.inr 0)), some (.inl t), some (.inl k)] [] σ (SAME d n r q mX9_need [some (.inr (.inr 42)), some (.inl t), some (.inl k)]) := by
  obtain ⟨hr, _, hx, _⟩ := h.rr
  obtain ⟨hLR, hSR, hML, hMG, hRL, hN, hW⟩ := h.lr
  rcases h.tfo t with tf | t0
  · have tf' := tf
    obtain ⟨t0, t1⟩ : 0 ≤ t ∧ t < σ r 0 := ⟨tf.1.1.1, tf.1.1.2.1⟩
    obtain ⟨⟨hh1, hh2, t4⟩, h63, h63c, hMS, em, hrr⟩ := h.tw t0 t1
    have hR := (mspV_r (σ := σ) (t := t) (by omega) (by omega) hML).2
    refine xneed_0 hr hx ⟨by omega, by omega, fun c => by omega, fun _ => ⟨by omega, fun c => by omega, fun _ => ⟨by omega, ?_⟩⟩⟩
    refine needOf_sim h t0 t1 (by omega) (fun A B => ?_)
    generalize hτ : putF (putF σ 31 A) 32 B = τ
    have zt : ∀ p, p ≠ 31 → p ≠ 32 → τ p = σ p := fun p a b => by rw [← hτ, putF_ne b, putF_ne a]
    have hS0 : SIM n τ r q := by
      rw [← hτ]
      exact (h.eqv (EQV.pf hr (p := 31) (f := A) (by omega))).eqv (EQV.pf hr (p := 32) (f := B) (by omega))
    have hv : mneV τ t = mneV σ t := (mspV_q (zt 61 (by decide) (by decide)) (zt 63 (by decide) (by decide)) (zt 64 (by decide) (by decide)) (zt 69 (by decide) (by decide)) t).2
    have hms := hS0.msO (t := t) t0 (by rw [zt r (by omega) (by omega)]; exact t1) (d - 1) (by omega)
    have e4 : τ 61 4 = σ r 0 := by rw [zt 61 (by decide) (by decide)]; exact hN.2.2.2.2.1
    refine xneed_13 ⟨by omega, ⟨by omega, hR.1, hR.2, hk⟩, ?_⟩
    unfold SAME
    refine mneed_0 ?_
    rw [e4, hv]
    generalize hw : mneV σ t = w at hR
    have hf := fstI_r (kthB w k) 24
    refine ⟨by omega, by omega, by omega, by omega, by omega, by omega, fun c => by omega, fun _ => ⟨by omega, fun c => by omega, fun _ => ⟨by omega, hms, fun f70 => ⟨by omega, hk, fun c => ⟨by omega, ⟨hR.1, hR.2, hk⟩, by omega, fun c2 => ?_, fun c2 => ?_⟩, fun c => ⟨by omega, hR, ?_⟩⟩⟩⟩⟩
    · refine ⟨?_, hS0.p70 f70⟩
      unfold csV
      rw [if_neg c, if_neg c2]
    · refine ⟨?_, hS0.p70 f70⟩
      unfold csV
      rw [if_neg c, if_pos c2]
    · refine ⟨?_, hS0.p70 f70⟩
      unfold csV
      rw [if_pos c]
  · have hm : SAME d n r q mX9_need [some (.inr (.inr 42)), some (.inl t), some (.inl k)] (some (.inl (-1))) σ := by
      unfold SAME
      exact mneed_0 ⟨by omega, by omega, by omega, by omega, by omega, by omega, fun c => ⟨rfl, h⟩, fun _ => ⟨by omega, fun c => ⟨rfl, h⟩, fun z => by omega⟩⟩
    exact xneed_0 hr hx ⟨by omega, by omega, fun c => hm, fun _ => ⟨by omega, fun c => hm, fun z => by omega⟩⟩
