/-! ===== netted, odds (wip/whole/gen60.py) ===== -/
def kX8_netted_0 : List BI := [bi (.iconst 0) 1 [] 0, bi (.istore_n 1) 1 [] 0, bi (.iconst 0) 1 [] 0, bi (.istore_n 2) 1 [] 0]
theorem cX8_netted_0 : chk mX8_netted 0 kX8_netted_0 = true := by decide +kernel
theorem xnetted_0 {d : Nat} {σ : SG} {Q : Option AV → SG → Prop} (h : AW d mX8_netted 4 [some (.inr (.inr 0)), some (.inl 0), some (.inl 0)] [] σ Q) : AW d mX8_netted 0 [some (.inr (.inr 0)), none, none] [] σ Q := AW.blk kX8_netted_0 cX8_netted_0 (h)
def kX8_netted_36 : List BI := [bi (.iload_n 1) 1 [] 0, bi (.ireturn) 1 [] 0]
theorem cX8_netted_36 : chk mX8_netted 36 kX8_netted_36 = true := by decide +kernel
def kX8_netted_9 : List BI := [bi (.getfield 100) 3 [4, 0] 0, bi (.if_icmp .ge (24)) 3 [36] 0, bi (.iload_n 1) 1 [] 0, bi (.iconst 0) 1 [] 0, bi (.aload_n 0) 1 [] 0, bi (.getfield 42) 3 [8, 4] 0, bi (.iload_n 2) 1 [] 0, bi (.invokevirtual 274) 3 [mX6_lentMoreThanBorrowed, 2, 4, 6] 0, bi (.invokestatic 228) 3 [0] 0, bi (.iadd) 1 [] 0, bi (.istore_n 1) 1 [] 0, bi (.iinc 2 (1)) 3 [] 0, bi (.goto (-29)) 3 [4] 0]
theorem cX8_netted_9 : chk mX8_netted 9 kX8_netted_9 = true := by decide +kernel
def kX8_netted_4 : List BI := [bi (.iload_n 2) 1 [] 0, bi (.aload_n 0) 1 [] 0, bi (.getfield 70) 3 [8, 9] 0]
theorem cX8_netted_4 : chk mX8_netted 4 kX8_netted_4 = true := by decide +kernel
theorem xnetted_4 {d : Nat} {σ : SG} {Q : Option AV → SG → Prop} {l1 l2 : Int} {r : Nat} (hr : r = 5 ∨ r = 16) (hx : (σ 0 9).toNat = r) (h : (r3 l2 ∧ r3 (σ r 0)) ∧ ((σ r 0) ≤ l2 → Q (some (.inl l1)) σ) ∧ (l2 < (σ r 0) → (0 < d) ∧ (2 ≤ d - 1 ∧ LR (σ 35) ∧ r3 l2) ∧ (0 < d) ∧ (r3 (foI (lmB (σ 35) l2) 0 ((σ 35) 1))) ∧ AW d mX8_netted 4 [some (.inr (.inr 0)), some (.inl (l1 + (if 0 < (foI (lmB (σ 35) l2) 0 ((σ 35) 1)) then (foI (lmB (σ 35) l2) 0 ((σ 35) 1)) else 0))), some (.inl (l2 + 1))] [] σ Q)) : AW d mX8_netted 4 [some (.inr (.inr 0)), some (.inl l1), some (.inl l2)] [] σ Q := by
  rcases hr with rfl | rfl <;> exact AW.blk kX8_netted_4 cX8_netted_4 (aw_rl hx (AW.blk kX8_netted_9 cX8_netted_9 (⟨⟨((h).1).1, ((h).1).2⟩, ⟨fun c1 => AW.blk kX8_netted_36 cX8_netted_36 (((h).2).1 c1), fun c1 => ⟨(((h).2).2 c1).1, lentMore_ok (by decide) ⟨((((h).2).2 c1).2).1, ⟨(((((h).2).2 c1).2).2).1, ⟨⟨(by decide), ((((((h).2).2 c1).2).2).2).1⟩, ⟨rfl, ((((((h).2).2 c1).2).2).2).2⟩⟩⟩⟩⟩⟩⟩)))
def kX9_netted_0 : List BI := [bi (.iconst 0) 1 [] 0, bi (.istore_n 1) 1 [] 0, bi (.iconst 0) 1 [] 0, bi (.istore_n 2) 1 [] 0]
theorem cX9_netted_0 : chk mX9_netted 0 kX9_netted_0 = true := by decide +kernel
theorem mnetted_0 {d : Nat} {σ : SG} {Q : Option AV → SG → Prop} (h : AW d mX9_netted 4 [some (.inr (.inr 42)), some (.inl 0), some (.inl 0), none, none] [] σ Q) : AW d mX9_netted 0 [some (.inr (.inr 42)), none, none, none, none] [] σ Q := AW.blk kX9_netted_0 cX9_netted_0 (h)
def kX9_netted_86 : List BI := [bi (.iload_n 1) 1 [] 0, bi (.ireturn) 1 [] 0]
theorem cX9_netted_86 : chk mX9_netted 86 kX9_netted_86 = true := by decide +kernel
def kX9_netted_4 : List BI := [bi (.iload_n 2) 1 [] 0, bi (.aload_n 0) 1 [] 0, bi (.invokevirtual 319) 3 [mX9_towerMany, 1, 1, 9] 0, bi (.if_icmp .ge (77)) 3 [86] 0, bi (.iconst 0) 1 [] 0, bi (.istore_n 3) 1 [] 0, bi (.iconst 0) 1 [] 0, bi (.istore 4) 2 [] 0]
theorem cX9_netted_4 : chk mX9_netted 4 kX9_netted_4 = true := by decide +kernel
theorem mnetted_4 {d : Nat} {σ : SG} {Q : Option AV → SG → Prop} {l1 l2 : Int} (h : (0 < d) ∧ (r3 l2 ∧ r3 (σ 61 4)) ∧ ((σ 61 4) ≤ l2 → Q (some (.inl l1)) σ) ∧ (l2 < (σ 61 4) → AW d mX9_netted 17 [some (.inr (.inr 42)), some (.inl l1), some (.inl l2), some (.inl 0), some (.inl 0)] [] σ Q)) : AW d mX9_netted 4 [some (.inr (.inr 42)), some (.inl l1), some (.inl l2), none, none] [] σ Q := AW.blk kX9_netted_4 cX9_netted_4 (⟨(h).1, AW.blk kX9_towerMany_0 cX9_towerMany_0 (⟨⟨(by decide), (by decide)⟩, ⟨⟨(((h).2).1).1, (((h).2).1).2⟩, ⟨fun c2 => AW.blk kX9_netted_86 cX9_netted_86 ((((h).2).2).1 c2), fun c2 => (((h).2).2).2 c2⟩⟩⟩)⟩)
def kX9_netted_80 : List BI := [bi (.iinc 2 (1)) 3 [] 0, bi (.goto (-79)) 3 [4] 0]
theorem cX9_netted_80 : chk mX9_netted 80 kX9_netted_80 = true := by decide +kernel
def kX9_netted_72 : List BI := [bi (.iload_n 3) 1 [] 0, bi (.ifCond .le (7)) 3 [80] 0, bi (.iload_n 1) 1 [] 0, bi (.iload_n 3) 1 [] 0, bi (.iadd) 1 [] 0, bi (.istore_n 1) 1 [] 0, bi (.iinc 2 (1)) 3 [] 0, bi (.goto (-79)) 3 [4] 0]
theorem cX9_netted_72 : chk mX9_netted 72 kX9_netted_72 = true := by decide +kernel
def kX9_netted_66 : List BI := [bi (.iinc 4 (1)) 3 [] 0, bi (.goto (-52)) 3 [17] 0]
theorem cX9_netted_66 : chk mX9_netted 66 kX9_netted_66 = true := by decide +kernel
def kX9_netted_52 : List BI := [bi (.aload_n 0) 1 [] 0, bi (.iload 4) 2 [] 0, bi (.iconst 2) 1 [] 0, bi (.invokevirtual 332) 3 [mX9_loanOf, 3, 3, 9] 0, bi (.iload_n 2) 1 [] 0, bi (.if_icmp .ne (6)) 3 [66] 0, bi (.iinc 3 (-1)) 3 [] 0, bi (.iinc 4 (1)) 3 [] 0, bi (.goto (-52)) 3 [17] 0]
theorem cX9_netted_52 : chk mX9_netted 52 kX9_netted_52 = true := by decide +kernel
def kX9_netted_38 : List BI := [bi (.aload_n 0) 1 [] 0, bi (.iload 4) 2 [] 0, bi (.iconst 0) 1 [] 0, bi (.invokevirtual 332) 3 [mX9_loanOf, 3, 3, 9] 0, bi (.iload_n 2) 1 [] 0, bi (.if_icmp .ne (6)) 3 [52] 0, bi (.iinc 3 (1)) 3 [] 0, bi (.aload_n 0) 1 [] 0, bi (.iload 4) 2 [] 0, bi (.iconst 2) 1 [] 0, bi (.invokevirtual 332) 3 [mX9_loanOf, 3, 3, 9] 0, bi (.iload_n 2) 1 [] 0, bi (.if_icmp .ne (6)) 3 [66] 0, bi (.iinc 3 (-1)) 3 [] 0, bi (.iinc 4 (1)) 3 [] 0, bi (.goto (-52)) 3 [17] 0]
theorem cX9_netted_38 : chk mX9_netted 38 kX9_netted_38 = true := by decide +kernel
def kX9_netted_17 : List BI := [bi (.iload 4) 2 [] 0, bi (.aload_n 0) 1 [] 0, bi (.invokevirtual 335) 3 [mX9_loanMany, 1, 1, 9] 0, bi (.if_icmp .ge (49)) 3 [72] 0, bi (.aload_n 0) 1 [] 0, bi (.iload 4) 2 [] 0, bi (.invokevirtual 338) 3 [mX9_lasts, 2, 2, 9] 0, bi (.ifCond .ne (6)) 3 [38] 0, bi (.goto (31)) 3 [66] 0]
theorem cX9_netted_17 : chk mX9_netted 17 kX9_netted_17 = true := by decide +kernel
theorem mnetted_17 {d : Nat} {σ : SG} {Q : Option AV → SG → Prop} {l1 l2 l3 l4 : Int} (h : (0 < d) ∧ (r3 l4 ∧ r3 (σ 69 1)) ∧ ((σ 69 1) ≤ l4 → (r3 l3) ∧ (l3 ≤ 0 → AW d mX9_netted 4 [some (.inr (.inr 42)), some (.inl l1), some (.inl (l2 + 1)), none, none] [] σ Q) ∧ (0 < l3 → AW d mX9_netted 4 [some (.inr (.inr 42)), some (.inl (l1 + l3)), some (.inl (l2 + 1)), none, none] [] σ Q)) ∧ (l4 < (σ 69 1) → (0 < d) ∧ (0 < d - 1) ∧ (0 ≤ ((62 + (8 * l4)) + 7) ∧ ((62 + (8 * l4)) + 7) < 254) ∧ (r3 (σ 69 ((62 + (8 * l4)) + 7))) ∧ ((σ 69 ((62 + (8 * l4)) + 7)) ≠ 0 → AW d mX9_netted 17 [some (.inr (.inr 42)), some (.inl l1), some (.inl l2), some (.inl l3), some (.inl (l4 + 1))] [] σ Q) ∧ ((σ 69 ((62 + (8 * l4)) + 7)) = 0 → (0 < d) ∧ (0 ≤ ((62 + (8 * l4)) + 0) ∧ ((62 + (8 * l4)) + 0) < 254) ∧ (r3 (σ 69 ((62 + (8 * l4)) + 0)) ∧ r3 l2) ∧ ((σ 69 ((62 + (8 * l4)) + 0)) ≠ l2 → (0 < d) ∧ (0 ≤ ((62 + (8 * l4)) + 2) ∧ ((62 + (8 * l4)) + 2) < 254) ∧ (r3 (σ 69 ((62 + (8 * l4)) + 2)) ∧ r3 l2) ∧ ((σ 69 ((62 + (8 * l4)) + 2)) ≠ l2 → AW d mX9_netted 17 [some (.inr (.inr 42)), some (.inl l1), some (.inl l2), some (.inl l3), some (.inl (l4 + 1))] [] σ Q) ∧ ((σ 69 ((62 + (8 * l4)) + 2)) = l2 → AW d mX9_netted 17 [some (.inr (.inr 42)), some (.inl l1), some (.inl l2), some (.inl (l3 + (-1))), some (.inl (l4 + 1))] [] σ Q)) ∧ ((σ 69 ((62 + (8 * l4)) + 0)) = l2 → (0 < d) ∧ (0 ≤ ((62 + (8 * l4)) + 2) ∧ ((62 + (8 * l4)) + 2) < 254) ∧ (r3 (σ 69 ((62 + (8 * l4)) + 2)) ∧ r3 l2) ∧ ((σ 69 ((62 + (8 * l4)) + 2)) ≠ l2 → AW d mX9_netted 17 [some (.inr (.inr 42)), some (.inl l1), some (.inl l2), some (.inl (l3 + 1)), some (.inl (l4 + 1))] [] σ Q) ∧ ((σ 69 ((62 + (8 * l4)) + 2)) = l2 → AW d mX9_netted 17 [some (.inr (.inr 42)), some (.inl l1), some (.inl l2), some (.inl ((l3 + 1) + (-1))), some (.inl (l4 + 1))] [] σ Q))))) : AW d mX9_netted 17 [some (.inr (.inr 42)), some (.inl l1), some (.inl l2), some (.inl l3), some (.inl l4)] [] σ Q := AW.blk kX9_netted_17 cX9_netted_17 (⟨(h).1, AW.blk kX9_loanMany_0 cX9_loanMany_0 (⟨⟨(by decide), (by decide)⟩, ⟨⟨(((h).2).1).1, (((h).2).1).2⟩, ⟨fun c8 => AW.blk kX9_netted_72 cX9_netted_72 (⟨((((h).2).2).1 c8).1, ⟨fun c3 => AW.blk kX9_netted_80 cX9_netted_80 (AW.drop 3 (AW.drop 4 ((((((h).2).2).1 c8).2).1 c3))), fun c3 => AW.drop 3 (AW.drop 4 ((((((h).2).2).1 c8).2).2 c3))⟩⟩), fun c8 => ⟨((((h).2).2).2 c8).1, AW.blk kX9_lasts_0 cX9_lasts_0 (⟨(((((h).2).2).2 c8).2).1, AW.blk kX9_loanOf_0 cX9_loanOf_0 (⟨⟨(((((((h).2).2).2 c8).2).2).1).1, (((((((h).2).2).2 c8).2).2).1).2⟩, ⟨(((((((h).2).2).2 c8).2).2).2).1, ⟨fun c7 => AW.blk kX9_lasts_14 cX9_lasts_14 (⟨(by decide), ⟨(by decide), ⟨fun c => absurd c (by decide), fun _ => AW.blk kX9_netted_66 cX9_netted_66 (((((((((h).2).2).2 c8).2).2).2).2).1 c7)⟩⟩⟩), fun c7 => AW.blk kX9_lasts_15 cX9_lasts_15 (⟨(by decide), ⟨(by decide), ⟨fun _ => AW.blk kX9_netted_38 cX9_netted_38 (⟨(((((((((h).2).2).2 c8).2).2).2).2).2 c7).1, AW.blk kX9_loanOf_0 cX9_loanOf_0 (⟨⟨(((((((((((h).2).2).2 c8).2).2).2).2).2 c7).2).1).1, (((((((((((h).2).2).2 c8).2).2).2).2).2 c7).2).1).2⟩, ⟨⟨((((((((((((h).2).2).2 c8).2).2).2).2).2 c7).2).2).1).1, ((((((((((((h).2).2).2 c8).2).2).2).2).2 c7).2).2).1).2⟩, ⟨fun c6 => AW.blk kX9_netted_52 cX9_netted_52 (⟨(((((((((((((h).2).2).2 c8).2).2).2).2).2 c7).2).2).2).1 c6).1, AW.blk kX9_loanOf_0 cX9_loanOf_0 (⟨⟨(((((((((((((((h).2).2).2 c8).2).2).2).2).2 c7).2).2).2).1 c6).2).1).1, (((((((((((((((h).2).2).2 c8).2).2).2).2).2 c7).2).2).2).1 c6).2).1).2⟩, ⟨⟨((((((((((((((((h).2).2).2 c8).2).2).2).2).2 c7).2).2).2).1 c6).2).2).1).1, ((((((((((((((((h).2).2).2 c8).2).2).2).2).2 c7).2).2).2).1 c6).2).2).1).2⟩, ⟨fun c4 => AW.blk kX9_netted_66 cX9_netted_66 (((((((((((((((((h).2).2).2 c8).2).2).2).2).2 c7).2).2).2).1 c6).2).2).2).1 c4), fun c4 => ((((((((((((((((h).2).2).2 c8).2).2).2).2).2 c7).2).2).2).1 c6).2).2).2).2 c4⟩⟩⟩)⟩), fun c6 => ⟨(((((((((((((h).2).2).2 c8).2).2).2).2).2 c7).2).2).2).2 c6).1, AW.blk kX9_loanOf_0 cX9_loanOf_0 (⟨⟨(((((((((((((((h).2).2).2 c8).2).2).2).2).2 c7).2).2).2).2 c6).2).1).1, (((((((((((((((h).2).2).2 c8).2).2).2).2).2 c7).2).2).2).2 c6).2).1).2⟩, ⟨⟨((((((((((((((((h).2).2).2 c8).2).2).2).2).2 c7).2).2).2).2 c6).2).2).1).1, ((((((((((((((((h).2).2).2 c8).2).2).2).2).2 c7).2).2).2).2 c6).2).2).1).2⟩, ⟨fun c5 => AW.blk kX9_netted_66 cX9_netted_66 (((((((((((((((((h).2).2).2 c8).2).2).2).2).2 c7).2).2).2).2 c6).2).2).2).1 c5), fun c5 => ((((((((((((((((h).2).2).2 c8).2).2).2).2).2 c7).2).2).2).2 c6).2).2).2).2 c5⟩⟩⟩)⟩⟩⟩⟩)⟩), fun c => absurd c (by decide)⟩⟩⟩)⟩⟩⟩)⟩)⟩⟩⟩⟩)⟩)
def kX8_odds_18 : List BI := [bi (.getfield 142) 3 [4, 6] 0, bi (.iload_n 1) 1 [] 0, bi (.iaload) 1 [] 0, bi (.istore 4) 2 [] 0, bi (.iconst 1) 1 [] 0, bi (.istore 5) 2 [] 0]
theorem cX8_odds_18 : chk mX8_odds 18 kX8_odds_18 = true := by decide +kernel
def kX8_odds_10 : List BI := [bi (.iconst 0) 1 [] 0, bi (.istore_n 2) 1 [] 0, bi (.iconst 0) 1 [] 0, bi (.istore_n 3) 1 [] 0, bi (.aload_n 0) 1 [] 0, bi (.getfield 70) 3 [8, 9] 0]
theorem cX8_odds_10 : chk mX8_odds 10 kX8_odds_10 = true := by decide +kernel
def kX8_odds_0 : List BI := [bi (.aload_n 0) 1 [] 0, bi (.iload_n 1) 1 [] 0, bi (.invokevirtual 131) 3 [mX8_isTower, 2, 2, 8] 0, bi (.ifCond .ne (5)) 3 [10] 0, bi (.iconst (-1)) 1 [] 0, bi (.ireturn) 1 [] 0]
theorem cX8_odds_0 : chk mX8_odds 0 kX8_odds_0 = true := by decide +kernel
theorem xodds_0 {d : Nat} {σ : SG} {Q : Option AV → SG → Prop} {t : Int} {r : Nat} (hr : r = 5 ∨ r = 16) (hx : (σ 0 9).toNat = r) (h : (0 < d) ∧ (r3 t) ∧ (t < 0 → Q (some (.inl ((-1)))) σ) ∧ (0 ≤ t → (r3 t ∧ r3 (σ r 0)) ∧ ((σ r 0) ≤ t → Q (some (.inl ((-1)))) σ) ∧ (t < (σ r 0) → (0 ≤ t ∧ t < 4) ∧ AW d mX8_odds 28 [some (.inr (.inr 0)), some (.inl t), some (.inl 0), some (.inl 0), some (.inl (σ (r + 2) t)), some (.inl 1)] [] σ Q))) : AW d mX8_odds 0 [some (.inr (.inr 0)), some (.inl t), none, none, none, none] [] σ Q := by
  rcases hr with rfl | rfl <;> exact AW.blk kX8_odds_0 cX8_odds_0 (⟨(h).1, AW.blk kX8_isTower_0 cX8_isTower_0 (⟨((h).2).1, ⟨fun c10 => AW.blk kX8_isTower_19 cX8_isTower_19 (⟨(by decide), ⟨(by decide), ⟨fun c => absurd c (by decide), fun _ => (((h).2).2).1 c10⟩⟩⟩), fun c10 => aw_rl hx (AW.blk kX8_isTower_9 cX8_isTower_9 (⟨⟨(((((h).2).2).2 c10).1).1, (((((h).2).2).2 c10).1).2⟩, ⟨fun c9 => AW.blk kX8_isTower_19 cX8_isTower_19 (⟨(by decide), ⟨(by decide), ⟨fun c => absurd c (by decide), fun _ => (((((h).2).2).2 c10).2).1 c9⟩⟩⟩), fun c9 => AW.blk kX8_isTower_20 cX8_isTower_20 (⟨(by decide), ⟨(by decide), ⟨fun _ => AW.blk kX8_odds_10 cX8_odds_10 (aw_rl hx (AW.blk kX8_odds_18 cX8_odds_18 (⟨⟨(((((((h).2).2).2 c10).2).2 c9).1).1, (((((((h).2).2).2 c10).2).2 c9).1).2⟩, ((((((h).2).2).2 c10).2).2 c9).2⟩))), fun c => absurd c (by decide)⟩⟩⟩)⟩⟩))⟩⟩)⟩)
def kX8_odds_96 : List BI := [bi (.sipush (1000)) 3 [] 0, bi (.iload_n 3) 1 [] 0, bi (.imul) 1 [] 0, bi (.iload_n 2) 1 [] 0, bi (.idiv) 1 [] 0, bi (.ireturn) 1 [] 0]
theorem cX8_odds_96 : chk mX8_odds 96 kX8_odds_96 = true := by decide +kernel
def kX8_odds_103 : List BI := [bi (.ireturn) 1 [] 0]
theorem cX8_odds_103 : chk mX8_odds 103 kX8_odds_103 = true := by decide +kernel
def kX8_odds_88 : List BI := [bi (.iload_n 2) 1 [] 0, bi (.ifCond .ne (7)) 3 [96] 0, bi (.iconst (-1)) 1 [] 0, bi (.goto (10)) 3 [103] 0]
theorem cX8_odds_88 : chk mX8_odds 88 kX8_odds_88 = true := by decide +kernel
def kX8_odds_82 : List BI := [bi (.iinc 5 (1)) 3 [] 0, bi (.goto (-57)) 3 [28] 0]
theorem cX8_odds_82 : chk mX8_odds 82 kX8_odds_82 = true := by decide +kernel
def kX8_odds_74 : List BI := [bi (.getfield 260) 3 [4, 13] 0, bi (.iload 5) 2 [] 0, bi (.iaload) 1 [] 0, bi (.iadd) 1 [] 0, bi (.istore_n 3) 1 [] 0, bi (.iinc 5 (1)) 3 [] 0, bi (.goto (-57)) 3 [28] 0]
theorem cX8_odds_74 : chk mX8_odds 74 kX8_odds_74 = true := by decide +kernel
def kX8_odds_40 : List BI := [bi (.getfield 260) 3 [4, 13] 0, bi (.iload 5) 2 [] 0, bi (.iaload) 1 [] 0, bi (.iadd) 1 [] 0, bi (.istore_n 2) 1 [] 0, bi (.aload_n 0) 1 [] 0, bi (.getfield 42) 3 [8, 4] 0, bi (.iload_n 1) 1 [] 0, bi (.invokevirtual 148) 3 [mX6_standing, 2, 2, 6] 0, bi (.iload 4) 2 [] 0, bi (.iload 5) 2 [] 0, bi (.iconst 0) 1 [] 0, bi (.invokestatic 237) 3 [mX8_climb, 4, 6] 0, bi (.iload 4) 2 [] 0, bi (.if_icmp .ne (16)) 3 [82] 0, bi (.iload_n 3) 1 [] 0, bi (.aload_n 0) 1 [] 0, bi (.getfield 70) 3 [8, 9] 0]
theorem cX8_odds_40 : chk mX8_odds 40 kX8_odds_40 = true := by decide +kernel
def kX8_odds_28 : List BI := [bi (.iload 5) 2 [] 0, bi (.bipush (6)) 2 [] 0, bi (.if_icmp .gt (56)) 3 [88] 0, bi (.iload_n 2) 1 [] 0, bi (.aload_n 0) 1 [] 0, bi (.getfield 70) 3 [8, 9] 0]
theorem cX8_odds_28 : chk mX8_odds 28 kX8_odds_28 = true := by decide +kernel
theorem xodds_28 {d : Nat} {σ : SG} {Q : Option AV → SG → Prop} {t l2 l3 l4 l5 : Int} {r : Nat} (hr : r = 5 ∨ r = 16) (hx : (σ 0 9).toNat = r) (h : (r3 l5) ∧ (6 < l5 → (r3 l2) ∧ (l2 ≠ 0 → (r3 (1000 * l3) ∧ r3 l2 ∧ l2 ≠ 0) ∧ Q (some (.inl (Int.tdiv (1000 * l3) l2))) σ) ∧ (l2 = 0 → Q (some (.inl ((-1)))) σ)) ∧ (l5 ≤ 6 → (0 ≤ l5 ∧ l5 < 7) ∧ (0 < d) ∧ (0 ≤ (6 + t) ∧ (6 + t) < 214) ∧ (0 ≤ (18 + t) ∧ (18 + t) < 214) ∧ (0 < d) ∧ (clsO (d - 1) (bor (σ 35 (6 + t)) (σ 35 (18 + t))) l4 l5 0) ∧ (r3 (climbV (bor (σ 35 (6 + t)) (σ 35 (18 + t))) l4 l5 0) ∧ r3 l4) ∧ ((climbV (bor (σ 35 (6 + t)) (σ 35 (18 + t))) l4 l5 0) ≠ l4 → AW d mX8_odds 28 [some (.inr (.inr 0)), some (.inl t), some (.inl (l2 + (σ (r + 9) l5))), some (.inl l3), some (.inl l4), some (.inl (l5 + 1))] [] σ Q) ∧ ((climbV (bor (σ 35 (6 + t)) (σ 35 (18 + t))) l4 l5 0) = l4 → (0 ≤ l5 ∧ l5 < 7) ∧ AW d mX8_odds 28 [some (.inr (.inr 0)), some (.inl t), some (.inl (l2 + (σ (r + 9) l5))), some (.inl (l3 + (σ (r + 9) l5))), some (.inl l4), some (.inl (l5 + 1))] [] σ Q))) : AW d mX8_odds 28 [some (.inr (.inr 0)), some (.inl t), some (.inl l2), some (.inl l3), some (.inl l4), some (.inl l5)] [] σ Q := by
  rcases hr with rfl | rfl <;> exact AW.blk kX8_odds_28 cX8_odds_28 (⟨⟨(h).1, (by decide)⟩, ⟨fun c13 => AW.blk kX8_odds_88 cX8_odds_88 (⟨(((h).2).1 c13).1, ⟨fun c11 => AW.blk kX8_odds_96 cX8_odds_96 (⟨⟨((((((h).2).1 c13).2).1 c11).1).1, (((((((h).2).1 c13).2).1 c11).1).2).1, (((((((h).2).1 c13).2).1 c11).1).2).2⟩, (((((h).2).1 c13).2).1 c11).2⟩), fun c11 => AW.blk kX8_odds_103 cX8_odds_103 (((((h).2).1 c13).2).2 c11)⟩⟩), fun c13 => aw_rl hx (AW.blk kX8_odds_40 cX8_odds_40 (⟨⟨((((h).2).2 c13).1).1, ((((h).2).2 c13).1).2⟩, ⟨((((h).2).2 c13).2).1, AW.blk kX6_standing_0 cX6_standing_0 (⟨⟨((((((h).2).2 c13).2).2).1).1, ((((((h).2).2 c13).2).2).1).2⟩, ⟨⟨(((((((h).2).2 c13).2).2).2).1).1, (((((((h).2).2 c13).2).2).2).1).2⟩, ⟨(((((((h).2).2 c13).2).2).2).2).1, climb_ok ⟨((((((((h).2).2 c13).2).2).2).2).2).1, ⟨⟨((((((((((h).2).2 c13).2).2).2).2).2).2).1).1, ((((((((((h).2).2 c13).2).2).2).2).2).2).1).2⟩, ⟨fun c12 => AW.blk kX8_odds_82 cX8_odds_82 (((((((((((h).2).2 c13).2).2).2).2).2).2).2).1 c12), fun c12 => aw_rl hx (AW.blk kX8_odds_74 cX8_odds_74 (⟨⟨((((((((((((h).2).2 c13).2).2).2).2).2).2).2).2 c12).1).1, ((((((((((((h).2).2 c13).2).2).2).2).2).2).2).2 c12).1).2⟩, (((((((((((h).2).2 c13).2).2).2).2).2).2).2).2 c12).2⟩))⟩⟩⟩⟩⟩⟩)⟩⟩))⟩⟩)
def kX9_odds_0 : List BI := [bi (.iconst 0) 1 [] 0, bi (.istore_n 2) 1 [] 0, bi (.iconst 0) 1 [] 0, bi (.istore_n 3) 1 [] 0, bi (.iconst 1) 1 [] 0, bi (.istore 4) 2 [] 0]
theorem cX9_odds_0 : chk mX9_odds 0 kX9_odds_0 = true := by decide +kernel
theorem modds_0 {d : Nat} {σ : SG} {Q : Option AV → SG → Prop} {t : Int} (h : AW d mX9_odds 7 [some (.inr (.inr 42)), some (.inl t), some (.inl 0), some (.inl 0), some (.inl 1)] [] σ Q) : AW d mX9_odds 0 [some (.inr (.inr 42)), some (.inl t), none, none, none] [] σ Q := AW.blk kX9_odds_0 cX9_odds_0 (h)
def kX9_odds_45 : List BI := [bi (.iconst (-1)) 1 [] 0, bi (.ireturn) 1 [] 0]
theorem cX9_odds_45 : chk mX9_odds 45 kX9_odds_45 = true := by decide +kernel
def kX9_odds_47 : List BI := [bi (.iconst 1) 1 [] 0, bi (.istore 4) 2 [] 0]
theorem cX9_odds_47 : chk mX9_odds 47 kX9_odds_47 = true := by decide +kernel
def kX9_odds_33 : List BI := [bi (.aload_n 0) 1 [] 0, bi (.iload_n 1) 1 [] 0, bi (.invokevirtual 325) 3 [mX9_isTower, 2, 2, 9] 0, bi (.ifCond .eq (7)) 3 [45] 0, bi (.iload_n 2) 1 [] 0, bi (.ifCond .ne (5)) 3 [47] 0, bi (.iconst (-1)) 1 [] 0, bi (.ireturn) 1 [] 0]
theorem cX9_odds_33 : chk mX9_odds 33 kX9_odds_33 = true := by decide +kernel
def kX9_odds_7 : List BI := [bi (.iload 4) 2 [] 0, bi (.bipush (6)) 2 [] 0, bi (.if_icmp .gt (22)) 3 [33] 0, bi (.iload_n 2) 1 [] 0, bi (.aload_n 0) 1 [] 0, bi (.getfield 82) 3 [9, 32] 0, bi (.bipush (7)) 2 [] 0, bi (.iload 4) 2 [] 0, bi (.iadd) 1 [] 0, bi (.iaload) 1 [] 0, bi (.iadd) 1 [] 0, bi (.istore_n 2) 1 [] 0, bi (.iinc 4 (1)) 3 [] 0, bi (.goto (-23)) 3 [7] 0]
theorem cX9_odds_7 : chk mX9_odds 7 kX9_odds_7 = true := by decide +kernel
theorem modds_7 {d : Nat} {σ : SG} {Q : Option AV → SG → Prop} {t l2 l3 l4 : Int} (h : (r3 l4) ∧ (6 < l4 → (0 < d) ∧ (r3 t) ∧ (0 < d - 1) ∧ (r3 ((σ 61 4) - 1)) ∧ (0 < d - 1) ∧ (r6 t) ∧ (t < 0 → Q (some (.inl ((-1)))) σ) ∧ (0 ≤ t → (r6 t ∧ r6 ((σ 61 4) - 1)) ∧ (((σ 61 4) - 1) < t → Q (some (.inl ((-1)))) σ) ∧ (t ≤ ((σ 61 4) - 1) → (r3 l2) ∧ (l2 ≠ 0 → AW d mX9_odds 50 [some (.inr (.inr 42)), some (.inl t), some (.inl l2), some (.inl l3), some (.inl 1)] [] σ Q) ∧ (l2 = 0 → Q (some (.inl ((-1)))) σ)))) ∧ (l4 ≤ 6 → (0 ≤ (7 + l4) ∧ (7 + l4) < 14) ∧ AW d mX9_odds 7 [some (.inr (.inr 42)), some (.inl t), some (.inl (l2 + (σ 65 (7 + l4)))), some (.inl l3), some (.inl (l4 + 1))] [] σ Q)) : AW d mX9_odds 7 [some (.inr (.inr 42)), some (.inl t), some (.inl l2), some (.inl l3), some (.inl l4)] [] σ Q := AW.blk kX9_odds_7 cX9_odds_7 (⟨⟨(h).1, (by decide)⟩, ⟨fun c17 => AW.blk kX9_odds_33 cX9_odds_33 (⟨(((h).2).1 c17).1, AW.blk kX9_isTower_0 cX9_isTower_0 (⟨((((h).2).1 c17).2).1, ⟨(((((h).2).1 c17).2).2).1, AW.blk kX9_towerMany_0 cX9_towerMany_0 (⟨⟨(by decide), (by decide)⟩, ⟨((((((h).2).1 c17).2).2).2).1, ⟨(((((((h).2).1 c17).2).2).2).2).1, AW.blk kX9_isIn_0 cX9_isIn_0 (⟨⟨((((((((h).2).1 c17).2).2).2).2).2).1, (by decide)⟩, ⟨fun c16 => AW.blk kX9_isIn_17 cX9_isIn_17 (⟨(by decide), ⟨(by decide), ⟨(by decide), ⟨fun _ => AW.blk kX9_odds_45 cX9_odds_45 ((((((((((h).2).1 c17).2).2).2).2).2).2).1 c16), fun c => absurd c (by decide)⟩⟩⟩⟩), fun c16 => ⟨⟨(((((((((((h).2).1 c17).2).2).2).2).2).2).2 c16).1).1, (((((((((((h).2).1 c17).2).2).2).2).2).2).2 c16).1).2⟩, ⟨fun c15 => AW.blk kX9_isIn_17 cX9_isIn_17 (⟨(by decide), ⟨(by decide), ⟨(by decide), ⟨fun _ => AW.blk kX9_odds_45 cX9_odds_45 ((((((((((((h).2).1 c17).2).2).2).2).2).2).2 c16).2).1 c15), fun c => absurd c (by decide)⟩⟩⟩⟩), fun c15 => AW.blk kX9_isIn_18 cX9_isIn_18 (⟨(by decide), ⟨(by decide), ⟨(by decide), ⟨fun c => absurd c (by decide), fun _ => ⟨((((((((((((h).2).1 c17).2).2).2).2).2).2).2 c16).2).2 c15).1, ⟨fun c14 => AW.blk kX9_odds_47 cX9_odds_47 ((((((((((((((h).2).1 c17).2).2).2).2).2).2).2 c16).2).2 c15).2).1 c14), fun c14 => (((((((((((((h).2).1 c17).2).2).2).2).2).2).2 c16).2).2 c15).2).2 c14⟩⟩⟩⟩⟩⟩)⟩⟩⟩⟩)⟩⟩⟩)⟩⟩)⟩), fun c17 => ⟨⟨((((h).2).2 c17).1).1, ((((h).2).2 c17).1).2⟩, (((h).2).2 c17).2⟩⟩⟩)
def kX9_odds_91 : List BI := [bi (.sipush (1000)) 3 [] 0, bi (.iload_n 3) 1 [] 0, bi (.imul) 1 [] 0, bi (.iload_n 2) 1 [] 0, bi (.idiv) 1 [] 0, bi (.ireturn) 1 [] 0]
theorem cX9_odds_91 : chk mX9_odds 91 kX9_odds_91 = true := by decide +kernel
def kX9_odds_85 : List BI := [bi (.iinc 4 (1)) 3 [] 0, bi (.goto (-38)) 3 [50] 0]
theorem cX9_odds_85 : chk mX9_odds 85 kX9_odds_85 = true := by decide +kernel
def kX9_odds_50 : List BI := [bi (.iload 4) 2 [] 0, bi (.bipush (6)) 2 [] 0, bi (.if_icmp .gt (37)) 3 [91] 0, bi (.aload_n 0) 1 [] 0, bi (.iload_n 1) 1 [] 0, bi (.aload_n 0) 1 [] 0, bi (.iload_n 1) 1 [] 0, bi (.invokevirtual 350) 3 [mX9_standSet, 2, 2, 9] 0, bi (.iload 4) 2 [] 0, bi (.invokevirtual 364) 3 [mX9_reachesTop, 4, 4, 9] 0, bi (.ifCond .eq (16)) 3 [85] 0, bi (.iload_n 3) 1 [] 0, bi (.aload_n 0) 1 [] 0, bi (.getfield 82) 3 [9, 32] 0, bi (.bipush (7)) 2 [] 0, bi (.iload 4) 2 [] 0, bi (.iadd) 1 [] 0, bi (.iaload) 1 [] 0, bi (.iadd) 1 [] 0, bi (.istore_n 3) 1 [] 0, bi (.iinc 4 (1)) 3 [] 0, bi (.goto (-38)) 3 [50] 0]
theorem cX9_odds_50 : chk mX9_odds 50 kX9_odds_50 = true := by decide +kernel
theorem modds_50 {d : Nat} {σ : SG} {Q : Option AV → SG → Prop} {t l2 l3 l4 : Int} (h : (r3 l4) ∧ (6 < l4 → (r3 (1000 * l3) ∧ r3 l2 ∧ l2 ≠ 0) ∧ Q (some (.inl (Int.tdiv (1000 * l3) l2))) σ) ∧ (l4 ≤ 6 → (0 < d) ∧ (0 < d - 1) ∧ (mhwO (d - 1 - 1) σ t 0) ∧ (0 < d - 1) ∧ (2 ≤ d - 1 - 1 ∧ MLR (σ 69) ∧ r3 t) ∧ (0 < d) ∧ (0 < d - 1) ∧ (higO (d - 1 - 1) σ t (bor (foI (hwB (σ 69) t 0) 0 (σ 63 (8 + 2 * t))) (foI (fsB (σ 69) t) 0 (σ 69 1))) l4 0) ∧ (∀ f18 : Int → Int, (0 < d - 1) ∧ (0 ≤ (8 + (2 * t)) ∧ (8 + (2 * t)) < 16) ∧ (r3 (ropV (bor (foI (hwB (σ 69) t 0) 0 (σ 63 (8 + 2 * t))) (foI (fsB (σ 69) t) 0 (σ 69 1))) (σ 63 (8 + 2 * t)) l4 0) ∧ r3 (σ 63 (8 + (2 * t)))) ∧ ((ropV (bor (foI (hwB (σ 69) t 0) 0 (σ 63 (8 + 2 * t))) (foI (fsB (σ 69) t) 0 (σ 69 1))) (σ 63 (8 + 2 * t)) l4 0) ≠ (σ 63 (8 + (2 * t))) → AW d mX9_odds 50 [some (.inr (.inr 42)), some (.inl t), some (.inl l2), some (.inl l3), some (.inl (l4 + 1))] [] (putF σ 70 f18) Q) ∧ ((ropV (bor (foI (hwB (σ 69) t 0) 0 (σ 63 (8 + 2 * t))) (foI (fsB (σ 69) t) 0 (σ 69 1))) (σ 63 (8 + 2 * t)) l4 0) = (σ 63 (8 + (2 * t))) → (0 ≤ (7 + l4) ∧ (7 + l4) < 14) ∧ AW d mX9_odds 50 [some (.inr (.inr 42)), some (.inl t), some (.inl l2), some (.inl (l3 + (σ 65 (7 + l4)))), some (.inl (l4 + 1))] [] (putF σ 70 f18) Q)))) : AW d mX9_odds 50 [some (.inr (.inr 42)), some (.inl t), some (.inl l2), some (.inl l3), some (.inl l4)] [] σ Q := AW.blk kX9_odds_50 cX9_odds_50 (⟨⟨(h).1, (by decide)⟩, ⟨fun c20 => AW.blk kX9_odds_91 cX9_odds_91 (⟨⟨((((h).2).1 c20).1).1, (((((h).2).1 c20).1).2).1, (((((h).2).1 c20).1).2).2⟩, (((h).2).1 c20).2⟩), fun c20 => ⟨(((h).2).2 c20).1, AW.blk kX9_standSet_0 cX9_standSet_0 (⟨((((h).2).2 c20).2).1, mhow2_ok ⟨(((((h).2).2 c20).2).2).1, ⟨((((((h).2).2 c20).2).2).2).1, mfilledSet_ok ⟨(((((((h).2).2 c20).2).2).2).2).1, ⟨((((((((h).2).2 c20).2).2).2).2).2).1, AW.blk kX9_reachesTop_0 cX9_reachesTop_0 (⟨(((((((((h).2).2 c20).2).2).2).2).2).2).1, mhigh_ok ⟨((((((((((h).2).2 c20).2).2).2).2).2).2).2).1, fun f18 => ⟨((((((((((((h).2).2 c20).2).2).2).2).2).2).2).2 f18)).1, AW.blk kX9_stepsOf_0 cX9_stepsOf_0 (⟨⟨((((((((((((((h).2).2 c20).2).2).2).2).2).2).2).2 f18)).2).1).1, ((((((((((((((h).2).2 c20).2).2).2).2).2).2).2).2 f18)).2).1).2⟩, ⟨⟨(((((((((((((((h).2).2 c20).2).2).2).2).2).2).2).2 f18)).2).2).1).1, (((((((((((((((h).2).2 c20).2).2).2).2).2).2).2).2 f18)).2).2).1).2⟩, ⟨fun c19 => AW.blk kX9_reachesTop_20 cX9_reachesTop_20 (⟨(by decide), ⟨(by decide), ⟨fun _ => AW.blk kX9_odds_85 cX9_odds_85 ((((((((((((((((h).2).2 c20).2).2).2).2).2).2).2).2 f18)).2).2).2).1 c19), fun c => absurd c (by decide)⟩⟩⟩), fun c19 => AW.blk kX9_reachesTop_21 cX9_reachesTop_21 (⟨(by decide), ⟨(by decide), ⟨fun c => absurd c (by decide), fun _ => ⟨⟨(((((((((((((((((h).2).2 c20).2).2).2).2).2).2).2).2 f18)).2).2).2).2 c19).1).1, (((((((((((((((((h).2).2 c20).2).2).2).2).2).2).2).2 f18)).2).2).2).2 c19).1).2⟩, ((((((((((((((((h).2).2 c20).2).2).2).2).2).2).2).2 f18)).2).2).2).2 c19).2⟩⟩⟩⟩)⟩⟩⟩)⟩⟩⟩)⟩⟩⟩⟩⟩)⟩⟩⟩)
theorem lmB_r (f : Int → Int) (t : Int) : ∀ n : Nat, -(n : Int) ≤ foI (lmB f t) 0 (n : Int) ∧ foI (lmB f t) 0 (n : Int) ≤ n := by
  intro n
  induction n with
  | zero => exact ⟨by show (-((0 : Nat) : Int)) ≤ 0; omega, by show (0 : Int) ≤ _; omega⟩
  | succ n ih =>
    rw [show ((n + 1 : Nat) : Int) = (n : Int) + 1 by omega, foI_s _ _ (by omega)]
    generalize foI (lmB f t) 0 (n : Int) = a at *
    unfold lmB
    split
    · split
      · split <;> omega
      · split <;> omega
    · omega
def nxB (L : Int → Int) : Int → Int → Int := fun t a => a + (if 0 < L t then L t else 0)
def mlmB (g : Int → Int) (t : Int) : Int → Int → Int := fun i a => if g (62 + 8 * i + 7) = 0 then (if g (62 + 8 * i + 2) = t then (if g (62 + 8 * i + 0) = t then a + 1 else a) + -1 else (if g (62 + 8 * i + 0) = t then a + 1 else a)) else a
theorem RS.lm {tw : Int} {H : Int → Int} {B D : Int} {f g : Int → Int} (h : RS tw H B D f g) (t : Int) : foI (mlmB g t) 0 (g 1) = foI (lmB f t) 0 (f 1) := by
  obtain ⟨_, h1, _, _, _, h5, _⟩ := h
  rw [h1.2.2]
  apply foI_cong
  intro i x a b
  obtain ⟨e, _, _, _, _, _, _, o⟩ := h5 i a b
  unfold mlmB lmB
  rw [e 7 (by decide) (by decide), e 0 (by decide) (by decide), e 2 (by decide) (by decide)]
  by_cases hc : f (22 + i * 8 + 7) = 0
  · rw [if_pos hc, if_pos (show f (22 + i * 8 + 7) ≠ 1 by omega)]
  · rw [if_neg hc, if_neg (show ¬ f (22 + i * 8 + 7) ≠ 1 by omega)]
theorem call_netted {d : Nat} {n : Int} {σ : SG} {r q : Nat} (hd : 100 ≤ d) (h : SIM n σ r q) : AW d mX8_netted 0 [some (.inr (.inr 0)), none, none] [] σ (SAME d n r q mX9_netted [some (.inr (.inr 42)), none, none, none, none]) := by
  obtain ⟨hr, _, hx, _⟩ := h.rr
  obtain ⟨hLR, hSR, hML, hMG, hRL, hN, hW⟩ := h.lr
  have hRS := h.2.2.2.2.2.1
  have hrg : ∀ t, r3 (foI (lmB (σ 35) t) 0 (σ 35 1)) := fun t => by
    have := lmB_r (σ 35) t (σ 35 1).toNat
    rw [show (((σ 35 1).toNat : Nat) : Int) = σ 35 1 by omega] at this
    omega
  refine xnetted_0 ?_
  refine downInd (P := fun i => AW d mX8_netted 4 [some (.inr (.inr 0)), some (.inl (foI (nxB (fun t => foI (lmB (σ 35) t) 0 (σ 35 1))) 0 i)), some (.inl i)] [] σ (SAME d n r q mX9_netted [some (.inr (.inr 42)), none, none, none, none])) (lo := 0) (hi := σ r 0) (by omega) ?_ ?_
  · refine xnetted_4 hr hx ⟨by omega, fun _ => ?_, fun c => by omega⟩
    unfold SAME
    refine mnetted_0 ?_
    refine downInd (P := fun i => AW d mX9_netted 4 [some (.inr (.inr 42)), some (.inl (foI (nxB (fun t => foI (lmB (σ 35) t) 0 (σ 35 1))) 0 i)), some (.inl i), none, none] [] σ (fun v' σ' => v' = some (.inl (foI (nxB (fun t => foI (lmB (σ 35) t) 0 (σ 35 1))) 0 (σ r 0))) ∧ SIM n σ' r q)) (lo := 0) (hi := σ r 0) (by omega) ?_ ?_
    · exact mnetted_4 ⟨by omega, by omega, fun _ => ⟨rfl, h⟩, fun c => by omega⟩
    · intro i i0 i1 ih
      rw [foI_s _ _ i0] at ih
      generalize foI (nxB (fun t => foI (lmB (σ 35) t) 0 (σ 35 1))) 0 i = a at ih ⊢
      refine mnetted_4 ⟨by omega, by omega, fun c => by omega, fun _ => ?_⟩
      refine downInd (P := fun j => AW d mX9_netted 17 [some (.inr (.inr 42)), some (.inl a), some (.inl i), some (.inl (foI (mlmB (σ 69) i) 0 j)), some (.inl j)] [] σ (fun v' σ' => v' = some (.inl (foI (nxB (fun t => foI (lmB (σ 35) t) 0 (σ 35 1))) 0 (σ r 0))) ∧ SIM n σ' r q)) (lo := 0) (hi := σ 69 1) (by omega) ?_ ?_
      · have hl := hrg i
        rw [← hRS.lm i] at hl
        have eL : nxB (fun t => foI (lmB (σ 35) t) 0 (σ 35 1)) i a = a + (if 0 < foI (mlmB (σ 69) i) 0 (σ 69 1) then foI (mlmB (σ 69) i) 0 (σ 69 1) else 0) := by rw [hRS.lm i]; rfl
        rw [eL] at ih
        refine mnetted_17 ⟨by omega, by omega, fun _ => ⟨hl, fun c => ?_, fun c => ?_⟩, fun c => by omega⟩
        · rw [if_neg (by omega), Int.add_zero] at ih
          exact ih
        · rw [if_pos c] at ih
          exact ih
      · intro j j0 j1 jh
        have hj := hML.2 j j0 j1
        rw [foI_s _ _ j0] at jh
        generalize foI (mlmB (σ 69) i) 0 j = m at jh ⊢
        unfold mlmB at jh
        refine mnetted_17 ⟨by omega, by omega, fun c => by omega, fun _ => ⟨by omega, by omega, by omega, by omega, fun c => ?_, fun c => ⟨by omega, by omega, by omega, fun c1 => ⟨by omega, by omega, by omega, fun c2 => ?_, fun c2 => ?_⟩, fun c1 => ⟨by omega, by omega, by omega, fun c2 => ?_, fun c2 => ?_⟩⟩⟩⟩
        · rwa [if_neg c] at jh
        · rwa [if_pos c, if_neg c2, if_neg c1] at jh
        · rwa [if_pos c, if_pos c2, if_neg c1] at jh
        · rwa [if_pos c, if_neg c2, if_pos c1] at jh
        · rwa [if_pos c, if_pos c2, if_pos c1] at jh
  · intro i i0 i1 ih
    rw [foI_s _ _ i0] at ih
    exact xnetted_4 hr hx ⟨by omega, fun c => by omega, fun _ => ⟨by omega, ⟨by omega, hLR, by omega⟩, by omega, hrg i, ih⟩⟩
/-! odds -/
def alF (O : Int → Int) : Int → Int → Int := fun i a => a + O (i + 1)
def abF (O : Int → Int) (C : Int → Bool) : Int → Int → Int := fun i a => if C (i + 1) = true then a + O (i + 1) else a
theorem alF_r {O : Int → Int} (hO : ∀ k, 1 ≤ k → k ≤ 6 → 0 ≤ O k ∧ O k ≤ 99) (C : Int → Bool) : ∀ n : Nat, n ≤ 6 → (0 ≤ foI (alF O) 0 (n : Int) ∧ foI (alF O) 0 (n : Int) ≤ 99 * n) ∧ (0 ≤ foI (abF O C) 0 (n : Int) ∧ foI (abF O C) 0 (n : Int) ≤ 99 * n) := by
  intro n
  induction n with
  | zero => intro _; exact ⟨⟨by show (0 : Int) ≤ 0; omega, by show (0 : Int) ≤ _; omega⟩, ⟨by show (0 : Int) ≤ 0; omega, by show (0 : Int) ≤ _; omega⟩⟩
  | succ n ih =>
    intro hn
    have ih := ih (by omega)
    have := hO (n + 1) (by omega) (by omega)
    rw [show ((n + 1 : Nat) : Int) = (n : Int) + 1 by omega, foI_s _ _ (by omega), foI_s _ _ (by omega)]
    generalize foI (alF O) 0 (n : Int) = a at *
    generalize foI (abF O C) 0 (n : Int) = b at *
    unfold alF abF
    refine ⟨by omega, ?_⟩
    split <;> omega
theorem call_odds {d : Nat} {n : Int} {σ : SG} {r q : Nat} {t : Int} (hd : 100 ≤ d) (h : SIM n σ r q) (ht : r3 t) : AW d mX8_odds 0 [some (.inr (.inr 0)), some (.inl t), none, none, none, none] [] σ (SAME d n r q mX9_odds [some (.inr (.inr 42)), some (.inl t), none, none, none]) := by
  obtain ⟨hr, _, hx, _⟩ := h.rr
  obtain ⟨hLR, hSR, hML, hMG, hRL, hN, hW⟩ := h.lr
  have hO : ∀ k, 1 ≤ k → k ≤ 6 → 0 ≤ σ (r + 9) k ∧ σ (r + 9) k ≤ 99 := fun k a b => hRL.2.2.2.2.2 k (by omega) b
  have h65 := h.2.2.2.2.1.2.2.2.2.1
  -- the reference: the first loop
  have first : ∀ Q : Option AV → SG → Prop, AW d mX9_odds 7 [some (.inr (.inr 42)), some (.inl t), some (.inl (foI (alF (σ (r + 9))) 0 6)), some (.inl 0), some (.inl (6 + 1))] [] σ Q → AW d mX9_odds 0 [some (.inr (.inr 42)), some (.inl t), none, none, none] [] σ Q := by
    intro Q hq
    refine modds_0 ?_
    have key := downInd (P := fun i => AW d mX9_odds 7 [some (.inr (.inr 42)), some (.inl t), some (.inl (foI (alF (σ (r + 9))) 0 i)), some (.inl 0), some (.inl (i + 1))] [] σ Q) (lo := 0) (hi := 6) (by decide) hq ?_
    · exact key
    · intro i i0 i1 ih
      rw [foI_s _ _ i0] at ih
      have e := h65 (i + 1) (by omega) (by omega)
      refine modds_7 ⟨by omega, fun c => by omega, fun _ => ⟨by omega, ?_⟩⟩
      rw [e]
      exact ih
  have ra := alF_r hO (fun _ => true) 6 (by decide)
  rcases h.tfo t with ⟨f1, f2, f3, f4, f5, f6⟩ | f1
  · generalize hX : bor (σ 35 (6 + t)) (σ 35 (18 + t)) = X at *
    have rb := alF_r hO (fun l => decide (climbV X (σ (r + 2) t) l 0 = σ (r + 2) t)) 
    have hfin : SAME d n r q mX9_odds [some (.inr (.inr 42)), some (.inl t), none, none, none] (some (.inl (if foI (alF (σ (r + 9))) 0 6 = 0 then -1 else Int.tdiv (1000 * foI (abF (σ (r + 9)) (fun l => decide (climbV X (σ (r + 2) t) l 0 = σ (r + 2) t))) 0 6) (foI (alF (σ (r + 9))) 0 6)))) σ := by
      unfold SAME
      refine first _ (modds_7 ⟨by omega, fun _ => ⟨by omega, by omega, by omega, by omega, by omega, by omega, fun c => by omega, fun _ => ⟨by omega, fun c => by omega, fun _ => ⟨?_, fun c => ?_, fun c => ?_⟩⟩⟩, fun c => by omega⟩)
      · have := ra.1
        rw [show ((6 : Nat) : Int) = 6 from rfl] at this
        omega
      · rw [if_neg c]
        have key := downInd (P := fun i => ∀ ff : Int → Int, AW d mX9_odds 50 [some (.inr (.inr 42)), some (.inl t), some (.inl (foI (alF (σ (r + 9))) 0 6)), some (.inl (foI (abF (σ (r + 9)) (fun l => decide (climbV X (σ (r + 2) t) l 0 = σ (r + 2) t))) 0 i)), some (.inl (i + 1))] [] (putF σ 70 ff) (fun v' σ' => v' = some (.inl (Int.tdiv (1000 * foI (abF (σ (r + 9)) (fun l => decide (climbV X (σ (r + 2) t) l 0 = σ (r + 2) t))) 0 6) (foI (alF (σ (r + 9))) 0 6))) ∧ SIM n σ' r q)) (lo := 0) (hi := 6) (by decide) ?_ ?_
        · have k2 := key (σ 70)
          rw [putF_self] at k2
          exact k2
        · intro ff
          have r1 := (rb 6 (by decide)).2
          have r2 := ra.1
          rw [show ((6 : Nat) : Int) = 6 from rfl] at r1 r2
          exact modds_50 ⟨by omega, fun _ => ⟨⟨by omega, by omega, c⟩, ⟨rfl, h.p70 ff⟩⟩, fun z => by omega⟩
        · intro i i0 i1 ih ff
          rw [foI_s _ _ i0] at ih
          generalize foI (abF (σ (r + 9)) (fun l => decide (climbV X (σ (r + 2) t) l 0 = σ (r + 2) t))) 0 i = a at ih ⊢
          have e := h65 (i + 1) (by omega) (by omega)
          have z69 : putF σ 70 ff 69 = σ 69 := putF_ne (by decide)
          have z63 : putF σ 70 ff 63 = σ 63 := putF_ne (by decide)
          have z65 : putF σ 70 ff 65 = σ 65 := putF_ne (by decide)
          have er : ropV (bor (foI (hwB (σ 69) t 0) 0 (σ 63 (8 + 2 * t))) (foI (fsB (σ 69) t) 0 (σ 69 1))) (σ 63 (8 + 2 * t)) (i + 1) 0 = climbV X (σ (r + 2) t) (i + 1) 0 := by
            rw [ropV_0 (by omega) (by omega), ← f3, f1.2.2.1]
          have e2 := climbV_r (sd := X) (ht := σ (r + 2) t) (lg := i + 1) (fr := 0) (by omega)
          unfold abF at ih
          refine modds_50 ?_
          rw [z69, z63, z65, er, e]
          refine ⟨by omega, fun z => by omega, fun _ => ⟨by omega, by omega, ⟨by omega, by omega, by omega, by omega, by rw [z63]; omega, by rw [z63]; omega, by rw [z63, z69]; exact f2⟩, by omega, ⟨by omega, hML, by omega⟩, by omega, by omega, ⟨by omega, by omega, by omega, by rw [z63]; omega, by rw [z63]; omega, by omega, by omega, by omega, by omega, by omega, by omega⟩, fun f8 => ⟨by omega, by omega, by omega, fun c => ?_, fun c => ⟨by omega, ?_⟩⟩⟩⟩
          · rw [putF_putF]
            have := ih f8
            rwa [if_neg (by intro z; exact c (by rw [f1.2.2.1]; exact of_decide_eq_true z))] at this
          · rw [putF_putF]
            have := ih f8
            rwa [if_pos (decide_eq_true (by rw [← f1.2.2.1]; rw [f1.2.2.1]; rw [f1.2.2.1] at c; exact c))] at this
      · rw [if_pos c]
        exact ⟨rfl, h⟩
    refine xodds_0 hr hx ⟨by omega, by omega, fun c => by omega, fun _ => ⟨by omega, fun c => by omega, fun _ => ⟨by omega, ?_⟩⟩⟩
    have key := downInd (P := fun i => AW d mX8_odds 28 [some (.inr (.inr 0)), some (.inl t), some (.inl (foI (alF (σ (r + 9))) 0 i)), some (.inl (foI (abF (σ (r + 9)) (fun l => decide (climbV X (σ (r + 2) t) l 0 = σ (r + 2) t))) 0 i)), some (.inl (σ (r + 2) t)), some (.inl (i + 1))] [] σ (SAME d n r q mX9_odds [some (.inr (.inr 42)), some (.inl t), none, none, none])) (lo := 0) (hi := 6) (by decide) ?_ ?_
    · exact key
    · have r1 := (rb 6 (by decide)).2
      have r2 := ra.1
      rw [show ((6 : Nat) : Int) = 6 from rfl] at r1 r2
      refine xodds_28 hr hx ⟨by omega, fun _ => ⟨by omega, fun c => ⟨⟨by omega, by omega, c⟩, ?_⟩, fun c => ?_⟩, fun c => by omega⟩
      · rwa [if_neg c] at hfin
      · rwa [if_pos c] at hfin
    · intro i i0 i1 ih
      rw [foI_s _ _ i0, foI_s _ _ i0] at ih
      generalize foI (alF (σ (r + 9))) 0 i = a1 at ih ⊢
      generalize foI (abF (σ (r + 9)) (fun l => decide (climbV X (σ (r + 2) t) l 0 = σ (r + 2) t))) 0 i = a2 at ih ⊢
      have e2 := climbV_r (sd := X) (ht := σ (r + 2) t) (lg := i + 1) (fr := 0) (by omega)
      unfold alF abF at ih
      refine xodds_28 hr hx ?_
      rw [hX]
      refine ⟨by omega, fun c => by omega, fun _ => ⟨by omega, by omega, by omega, by omega, by omega, ⟨by omega, by omega, by omega, by omega, by omega, by omega, by omega, by omega, by omega⟩, by omega, fun c => ?_, fun c => ⟨by omega, ?_⟩⟩⟩
      · rwa [if_neg (fun z => c (of_decide_eq_true z))] at ih
      · rwa [if_pos (decide_eq_true c)] at ih
  · have hm : SAME d n r q mX9_odds [some (.inr (.inr 42)), some (.inl t), none, none, none] (some (.inl (-1))) σ := by
      unfold SAME
      have r2 := ra.1
      rw [show ((6 : Nat) : Int) = 6 from rfl] at r2
      exact first _ (modds_7 ⟨by omega, fun _ => ⟨by omega, by omega, by omega, by omega, by omega, by omega, fun c => ⟨rfl, h⟩, fun _ => ⟨by omega, fun c => ⟨rfl, h⟩, fun z => by omega⟩⟩, fun c => by omega⟩)
    exact xodds_0 hr hx ⟨by omega, by omega, fun c => hm, fun _ => ⟨by omega, fun c => hm, fun z => by omega⟩⟩
