/-! ===== the reference: held (wip/whole/gen31.py) ===== -/
def kX9_isHeldBy_0 : List BI := [bi (.iconst 0) 1 [] 0, bi (.istore_n 3) 1 [] 0]
theorem cX9_isHeldBy_0 : chk mX9_isHeldBy 0 kX9_isHeldBy_0 = true := by decide +kernel
theorem misHeldBy_0 {d : Nat} {σ : SG} {Q : Option AV → SG → Prop} {t sd : Int} (h : AW d mX9_isHeldBy 2 [some (.inr (.inr 42)), some (.inl t), some (.inl sd), some (.inl 0)] [] σ Q) : AW d mX9_isHeldBy 0 [some (.inr (.inr 42)), some (.inl t), some (.inl sd), none] [] σ Q := AW.blk kX9_isHeldBy_0 cX9_isHeldBy_0 (h)
def kX9_isHeldBy_55 : List BI := [bi (.iconst 1) 1 [] 0, bi (.ireturn) 1 [1] 0]
theorem cX9_isHeldBy_55 : chk mX9_isHeldBy 55 kX9_isHeldBy_55 = true := by decide +kernel
def kX9_isHeldBy_49 : List BI := [bi (.iinc 3 (1)) 3 [] 0, bi (.goto (-50)) 3 [2] 0]
theorem cX9_isHeldBy_49 : chk mX9_isHeldBy 49 kX9_isHeldBy_49 = true := by decide +kernel
def kX9_reachesTop_20 : List BI := [bi (.iconst 0) 1 [] 0, bi (.ireturn) 1 [1] 0]
theorem cX9_reachesTop_20 : chk mX9_reachesTop 20 kX9_reachesTop_20 = true := by decide +kernel
def kX9_reachesTop_21 : List BI := [bi (.ireturn) 1 [1] 0]
theorem cX9_reachesTop_21 : chk mX9_reachesTop 21 kX9_reachesTop_21 = true := by decide +kernel
def kX9_reachesTop_0 : List BI := [bi (.aload_n 0) 1 [] 0, bi (.iload_n 1) 1 [] 0, bi (.iload_n 2) 1 [] 0, bi (.iload_n 3) 1 [] 0, bi (.iconst 0) 1 [] 0, bi (.invokevirtual 360) 3 [mX9_highest, 5, 8, 9] 0, bi (.aload_n 0) 1 [] 0, bi (.iload_n 1) 1 [] 0, bi (.invokevirtual 328) 3 [mX9_stepsOf, 2, 2, 9] 0, bi (.if_icmp .ne (7)) 3 [20] 0, bi (.iconst 1) 1 [] 0, bi (.goto (4)) 3 [21] 0]
theorem cX9_reachesTop_0 : chk mX9_reachesTop 0 kX9_reachesTop_0 = true := by decide +kernel
def kX9_isHeldBy_2 : List BI := [bi (.iload_n 3) 1 [] 0, bi (.aload_n 0) 1 [] 0, bi (.invokevirtual 322) 3 [mX9_guardMany, 1, 1, 9] 0, bi (.if_icmp .ge (48)) 3 [55] 0, bi (.aload_n 0) 1 [] 0, bi (.getfield 79) 3 [9, 31] 0, bi (.bipush (24)) 2 [] 0, bi (.iconst 3) 1 [] 0, bi (.iload_n 3) 1 [] 0, bi (.imul) 1 [] 0, bi (.iadd) 1 [] 0, bi (.iaload) 1 [] 0, bi (.iload_n 1) 1 [] 0, bi (.if_icmp .ne (27)) 3 [49] 0, bi (.aload_n 0) 1 [] 0, bi (.iload_n 1) 1 [] 0, bi (.iload_n 2) 1 [] 0, bi (.aload_n 0) 1 [] 0, bi (.getfield 79) 3 [9, 31] 0, bi (.bipush (24)) 2 [] 0, bi (.iconst 3) 1 [] 0, bi (.iload_n 3) 1 [] 0, bi (.imul) 1 [] 0, bi (.iadd) 1 [] 0, bi (.iconst 1) 1 [] 0, bi (.iadd) 1 [] 0, bi (.iaload) 1 [] 0, bi (.invokevirtual 364) 3 [mX9_reachesTop, 4, 4, 9] 0, bi (.ifCond .ne (5)) 3 [49] 0, bi (.iconst 0) 1 [] 0, bi (.ireturn) 1 [1] 0]
theorem cX9_isHeldBy_2 : chk mX9_isHeldBy 2 kX9_isHeldBy_2 = true := by decide +kernel
theorem misHeldBy_2 {d : Nat} {σ : SG} {Q : Option AV → SG → Prop} {t sd l3 : Int} (h : (0 < d) ∧ (r3 l3 ∧ r3 (σ 61 5)) ∧ ((σ 61 5) ≤ l3 → Q (some (.inl 1)) σ) ∧ (l3 < (σ 61 5) → (0 ≤ (24 + (3 * l3)) ∧ (24 + (3 * l3)) < 48) ∧ (r3 (σ 64 (24 + (3 * l3))) ∧ r3 t) ∧ ((σ 64 (24 + (3 * l3))) ≠ t → AW d mX9_isHeldBy 2 [some (.inr (.inr 42)), some (.inl t), some (.inl sd), some (.inl (l3 + 1))] [] σ Q) ∧ ((σ 64 (24 + (3 * l3))) = t → (0 ≤ ((24 + (3 * l3)) + 1) ∧ ((24 + (3 * l3)) + 1) < 48) ∧ (0 < d) ∧ (0 < d - 1) ∧ (higO (d - 1 - 1) σ t sd (σ 64 ((24 + (3 * l3)) + 1)) 0) ∧ (∀ f1 : Int → Int, (0 < d - 1) ∧ (0 ≤ (8 + (2 * t)) ∧ (8 + (2 * t)) < 16) ∧ (r3 (ropV sd (σ 63 (8 + 2 * t)) (σ 64 ((24 + (3 * l3)) + 1)) 0) ∧ r3 (σ 63 (8 + (2 * t)))) ∧ ((ropV sd (σ 63 (8 + 2 * t)) (σ 64 ((24 + (3 * l3)) + 1)) 0) ≠ (σ 63 (8 + (2 * t))) → Q (some (.inl 0)) (putF σ 70 f1)) ∧ ((ropV sd (σ 63 (8 + 2 * t)) (σ 64 ((24 + (3 * l3)) + 1)) 0) = (σ 63 (8 + (2 * t))) → AW d mX9_isHeldBy 2 [some (.inr (.inr 42)), some (.inl t), some (.inl sd), some (.inl (l3 + 1))] [] (putF σ 70 f1) Q))))) : AW d mX9_isHeldBy 2 [some (.inr (.inr 42)), some (.inl t), some (.inl sd), some (.inl l3)] [] σ Q := AW.blk kX9_isHeldBy_2 cX9_isHeldBy_2 (⟨(h).1, AW.blk kX9_guardMany_0 cX9_guardMany_0 (⟨⟨(by decide), (by decide)⟩, ⟨⟨(((h).2).1).1, (((h).2).1).2⟩, ⟨fun c4 => AW.blk kX9_isHeldBy_55 cX9_isHeldBy_55 (⟨(by decide), (((h).2).2).1 c4⟩), fun c4 => ⟨⟨(((((h).2).2).2 c4).1).1, (((((h).2).2).2 c4).1).2⟩, ⟨⟨((((((h).2).2).2 c4).2).1).1, ((((((h).2).2).2 c4).2).1).2⟩, ⟨fun c3 => AW.blk kX9_isHeldBy_49 cX9_isHeldBy_49 (((((((h).2).2).2 c4).2).2).1 c3), fun c3 => ⟨⟨((((((((h).2).2).2 c4).2).2).2 c3).1).1, ((((((((h).2).2).2 c4).2).2).2 c3).1).2⟩, ⟨((((((((h).2).2).2 c4).2).2).2 c3).2).1, AW.blk kX9_reachesTop_0 cX9_reachesTop_0 (⟨(((((((((h).2).2).2 c4).2).2).2 c3).2).2).1, mhigh_ok ⟨((((((((((h).2).2).2 c4).2).2).2 c3).2).2).2).1, fun f1 => ⟨((((((((((((h).2).2).2 c4).2).2).2 c3).2).2).2).2 f1)).1, AW.blk kX9_stepsOf_0 cX9_stepsOf_0 (⟨⟨((((((((((((((h).2).2).2 c4).2).2).2 c3).2).2).2).2 f1)).2).1).1, ((((((((((((((h).2).2).2 c4).2).2).2 c3).2).2).2).2 f1)).2).1).2⟩, ⟨⟨(((((((((((((((h).2).2).2 c4).2).2).2 c3).2).2).2).2 f1)).2).2).1).1, (((((((((((((((h).2).2).2 c4).2).2).2 c3).2).2).2).2 f1)).2).2).1).2⟩, ⟨fun c2 => AW.blk kX9_reachesTop_20 cX9_reachesTop_20 (⟨(by decide), ⟨(by decide), ⟨fun c => absurd c (by decide), fun _ => ⟨(by decide), (((((((((((((((h).2).2).2 c4).2).2).2 c3).2).2).2).2 f1)).2).2).2).1 c2⟩⟩⟩⟩), fun c2 => AW.blk kX9_reachesTop_21 cX9_reachesTop_21 (⟨(by decide), ⟨(by decide), ⟨fun _ => AW.blk kX9_isHeldBy_49 cX9_isHeldBy_49 ((((((((((((((((h).2).2).2 c4).2).2).2 c3).2).2).2).2 f1)).2).2).2).2 c2), fun c => absurd c (by decide)⟩⟩⟩)⟩⟩⟩)⟩⟩⟩)⟩⟩⟩⟩⟩⟩⟩⟩)⟩)

/-- guard g of tower t does not reach the top -/
def mhB (f : Int → Int) (t sd ht : Int) : Int → Bool := fun g => decide (f (24 + 3 * g) = t ∧ climbV sd ht (f (24 + 3 * g + 1)) 0 ≠ ht)
def mhV (σ : SG) (t sd : Int) : Int := if fstI (mhB (σ 64) t sd (σ 63 (8 + 2 * t))) (σ 61 5) = -1 then 1 else 0
abbrev mhO (d : Nat) (σ : SG) (t sd : Int) : Prop := 3 ≤ d ∧ MGR σ ∧ 0 ≤ t ∧ t < 4 ∧ 0 ≤ σ 63 (8 + 2 * t) ∧ σ 63 (8 + 2 * t) ≤ 14 ∧ 0 ≤ sd ∧ sd < 16384
theorem misHeldBy_ok {d : Nat} {σ : SG} {Q : Option AV → SG → Prop} {t sd : Int} (h : mhO d σ t sd ∧ ∀ f : Int → Int, Q (some (.inl (mhV σ t sd))) (putF σ 70 f)) : AW d mX9_isHeldBy 0 [some (.inr (.inr 42)), some (.inl t), some (.inl sd), none] [] σ Q := by
  obtain ⟨⟨hd, ⟨hc, hG⟩, t0, t1, h63, h64, s0, s1⟩, hq⟩ := h
  refine misHeldBy_0 ?_
  have key := downInd (P := fun i => ∀ f : Int → Int, fstI (mhB (σ 64) t sd (σ 63 (8 + 2 * t))) i = -1 → AW d mX9_isHeldBy 2 [some (.inr (.inr 42)), some (.inl t), some (.inl sd), some (.inl i)] [] (putF σ 70 f) Q) (lo := 0) (hi := σ 61 5) hc.1 ?_ ?_ (σ 70) rfl
  · rwa [putF_self] at key
  · intro f hn
    have e61 : putF σ 70 f 61 = σ 61 := putF_ne (by decide)
    have hqf := hq f
    rw [mhV, if_pos hn] at hqf
    refine misHeldBy_2 ?_
    rw [e61]
    exact ⟨by omega, by omega, fun _ => hqf, fun c => by omega⟩
  · intro i h0 h1 ih f hn
    have e61 : putF σ 70 f 61 = σ 61 := putF_ne (by decide)
    have e63 : putF σ 70 f 63 = σ 63 := putF_ne (by decide)
    have e64 : putF σ 70 f 64 = σ 64 := putF_ne (by decide)
    have hg := hG i h0 h1
    have hs1 := fstI_s (mhB (σ 64) t sd (σ 63 (8 + 2 * t))) h0
    rw [if_pos hn] at hs1
    have hcr := climbV_r (sd := sd) (ht := σ 63 (8 + 2 * t)) (lg := σ 64 (24 + 3 * i + 1)) (fr := 0) h63
    have hrp := ropV_0 (sd := sd) (ht := σ 63 (8 + 2 * t)) (lg := σ 64 (24 + 3 * i + 1)) h63 (by omega)
    refine misHeldBy_2 ?_
    rw [e61, e63, e64, hrp]
    refine ⟨by omega, by omega, fun c => by omega, fun _ => ⟨by omega, by omega, fun c => ih f ?_, fun c => ⟨by omega, by omega, by omega, ⟨by omega, t0, t1, h63, h64, s0, s1, by omega, by omega, by omega, by omega⟩, fun f1 => ⟨by omega, by omega, by omega, fun c2 => ?_, fun c2 => ?_⟩⟩⟩⟩
    · rw [hs1, if_neg]
      intro z
      simp only [mhB, decide_eq_true_eq] at z
      exact c z.1
    · have hp1 : mhB (σ 64) t sd (σ 63 (8 + 2 * t)) i = true := by simp only [mhB, decide_eq_true_eq]; exact ⟨c, c2⟩
      have hqf := hq f1
      rw [mhV, fstI_hit _ h0 h1 hn hp1, if_neg (by omega)] at hqf
      rw [putF_putF]
      exact hqf
    · rw [putF_putF]
      refine ih f1 ?_
      rw [hs1, if_neg]
      intro z
      simp only [mhB, decide_eq_true_eq] at z
      exact z.2 c2
