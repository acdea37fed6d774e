/-! ===== the day on which a top is lost (wip/whole/gen62.py) ===== -/
def kX8_lastDayAhead_0 : List BI := [bi (.aload_n 0) 1 [] 0, bi (.getfield 42) 3 [8, 4] 0, bi (.invokevirtual 115) 3 [mX6_today, 1, 1, 6] 0, bi (.bipush (100)) 2 [] 0, bi (.iadd) 1 [] 0, bi (.sipush (999)) 3 [] 0, bi (.invokestatic 314) 3 [1] 0, bi (.ireturn) 1 [] 0]
theorem cX8_lastDayAhead_0 : chk mX8_lastDayAhead 0 kX8_lastDayAhead_0 = true := by decide +kernel
def kX6_copy_0 : List BI := [bi (.aload_n 1) 1 [] 0, bi (.getfield 11) 3 [6, 0] 0, bi (.iconst 0) 1 [] 0, bi (.aload_n 0) 1 [] 0, bi (.getfield 11) 3 [6, 0] 0, bi (.iconst 0) 1 [] 0, bi (.sipush (214)) 3 [] 0, bi (.invokestatic 15) 3 [] 0, bi (.return_) 1 [] 0]
theorem cX6_copy_0 : chk mX6_copy 0 kX6_copy_0 = true := by decide +kernel
def kX8_lost_10 : List BI := [bi (.aload_n 0) 1 [] 0, bi (.getfield 46) 3 [8, 5] 0, bi (.aload_n 0) 1 [] 0, bi (.getfield 42) 3 [8, 4] 0, bi (.invokevirtual 289) 3 [mX6_copy, 2, 2, 6] 0, bi (.aload_n 0) 1 [] 0, bi (.invokevirtual 292) 3 [mX8_lastDayAhead, 1, 1, 8] 0, bi (.istore_n 2) 1 [] 0, bi (.iconst 1) 1 [] 0, bi (.istore_n 3) 1 [] 0, bi (.aload_n 0) 1 [] 0, bi (.getfield 42) 3 [8, 4] 0, bi (.invokevirtual 115) 3 [mX6_today, 1, 1, 6] 0, bi (.istore 4) 2 [] 0]
theorem cX8_lost_10 : chk mX8_lost 10 kX8_lost_10 = true := by decide +kernel
def kX8_lost_0 : List BI := [bi (.aload_n 0) 1 [] 0, bi (.iload_n 1) 1 [] 0, bi (.invokevirtual 131) 3 [mX8_isTower, 2, 2, 8] 0, bi (.ifCond .ne (5)) 3 [10] 0, bi (.iconst (-1)) 1 [] 0, bi (.ireturn) 1 [] 0]
theorem cX8_lost_0 : chk mX8_lost 0 kX8_lost_0 = true := by decide +kernel
theorem xlost_0 {d : Nat} {σ : SG} {Q : Option AV → SG → Prop} {t : Int} {r : Nat} (hr : r = 5 ∨ r = 16) (hx : (σ 0 9).toNat = r) (h : (0 < d) ∧ (r3 t) ∧ (t < 0 → Q (some (.inl ((-1)))) σ) ∧ (0 ≤ t → (r3 t ∧ r3 (σ r 0)) ∧ ((σ r 0) ≤ t → Q (some (.inl ((-1)))) σ) ∧ (t < (σ r 0) → (0 < d) ∧ (0 < d - 1) ∧ (∀ S1 : SG, S1 = cpy σ 35 37 0 0 214 → (0 < d) ∧ (0 < d - 1) ∧ (0 < d - 1) ∧ (r3 ((S1 35 0) + 100)) ∧ (0 < d) ∧ AW d mX8_lost 37 [some (.inr (.inr 0)), some (.inl t), some (.inl (if 999 < ((S1 35 0) + 100) then 999 else ((S1 35 0) + 100))), some (.inl 1), some (.inl (S1 35 0))] [] S1 Q)))) : AW d mX8_lost 0 [some (.inr (.inr 0)), some (.inl t), none, none, none] [] σ Q := by
  rcases hr with rfl | rfl <;> exact AW.blk kX8_lost_0 cX8_lost_0 (⟨(h).1, AW.blk kX8_isTower_0 cX8_isTower_0 (⟨((h).2).1, ⟨fun c3 => AW.blk kX8_isTower_19 cX8_isTower_19 (⟨(by decide), ⟨(by decide), ⟨fun c => absurd c (by decide), fun _ => (((h).2).2).1 c3⟩⟩⟩), fun c3 => aw_rl hx (AW.blk kX8_isTower_9 cX8_isTower_9 (⟨⟨(((((h).2).2).2 c3).1).1, (((((h).2).2).2 c3).1).2⟩, ⟨fun c2 => AW.blk kX8_isTower_19 cX8_isTower_19 (⟨(by decide), ⟨(by decide), ⟨fun c => absurd c (by decide), fun _ => (((((h).2).2).2 c3).2).1 c2⟩⟩⟩), fun c2 => AW.blk kX8_isTower_20 cX8_isTower_20 (⟨(by decide), ⟨(by decide), ⟨fun _ => AW.blk kX8_lost_10 cX8_lost_10 (⟨((((((h).2).2).2 c3).2).2 c2).1, AW.blk kX6_copy_0 cX6_copy_0 (⟨(((((((h).2).2).2 c3).2).2 c2).2).1, ⟨⟨(by decide), (by decide), (by decide), (by decide), (by decide)⟩, ⟨(((((((((h).2).2).2 c3).2).2 c2).2).2) _ rfl).1, AW.blk kX8_lastDayAhead_0 cX8_lastDayAhead_0 (⟨((((((((((h).2).2).2 c3).2).2 c2).2).2) _ rfl).2).1, AW.blk kX6_today_0 cX6_today_0 (⟨⟨(by decide), (by decide)⟩, ⟨(((((((((((h).2).2).2 c3).2).2 c2).2).2) _ rfl).2).2).1, ⟨⟨((((((((((((h).2).2).2 c3).2).2 c2).2).2) _ rfl).2).2).2).1, (by decide)⟩, ⟨rfl, ⟨(((((((((((((h).2).2).2 c3).2).2 c2).2).2) _ rfl).2).2).2).2).1, AW.blk kX6_today_0 cX6_today_0 (⟨⟨(by decide), (by decide)⟩, (((((((((((((h).2).2).2 c3).2).2 c2).2).2) _ rfl).2).2).2).2).2⟩)⟩⟩⟩⟩⟩)⟩)⟩⟩⟩)⟩), fun c => absurd c (by decide)⟩⟩⟩)⟩⟩))⟩⟩)⟩)
def kX8_lost_86 : List BI := [bi (.iconst 0) 1 [] 0, bi (.istore_n 3) 1 [] 0, bi (.iinc 4 (1)) 3 [] 0, bi (.goto (-54)) 3 [37] 0]
theorem cX8_lost_86 : chk mX8_lost 86 kX8_lost_86 = true := by decide +kernel
def kX8_lost_87 : List BI := [bi (.istore_n 3) 1 [] 0, bi (.iinc 4 (1)) 3 [] 0, bi (.goto (-54)) 3 [37] 0]
theorem cX8_lost_87 : chk mX8_lost 87 kX8_lost_87 = true := by decide +kernel
def kX8_lost_79 : List BI := [bi (.ifCond .le (7)) 3 [86] 0, bi (.iconst 1) 1 [] 0, bi (.goto (4)) 3 [87] 0]
theorem cX8_lost_79 : chk mX8_lost 79 kX8_lost_79 = true := by decide +kernel
theorem xlost_79 {d : Nat} {σ : SG} {Q : Option AV → SG → Prop} {t l2 l3 l4 s0 : Int} (h : (r3 s0) ∧ (s0 ≤ 0 → AW d mX8_lost 37 [some (.inr (.inr 0)), some (.inl t), some (.inl l2), some (.inl 0), some (.inl (l4 + 1))] [] σ Q) ∧ (0 < s0 → AW d mX8_lost 37 [some (.inr (.inr 0)), some (.inl t), some (.inl l2), some (.inl 1), some (.inl (l4 + 1))] [] σ Q)) : AW d mX8_lost 79 [some (.inr (.inr 0)), some (.inl t), some (.inl l2), some (.inl l3), some (.inl l4)] [.inl s0] σ Q := AW.blk kX8_lost_79 cX8_lost_79 (⟨(h).1, ⟨fun c4 => AW.blk kX8_lost_86 cX8_lost_86 (((h).2).1 c4), fun c4 => AW.blk kX8_lost_87 cX8_lost_87 (((h).2).2 c4)⟩⟩)
def kX8_lost_94 : List BI := [bi (.iconst (-1)) 1 [] 0, bi (.ireturn) 1 [] 0]
theorem cX8_lost_94 : chk mX8_lost 94 kX8_lost_94 = true := by decide +kernel
def kX8_lost_73 : List BI := [bi (.getfield 112) 3 [4, 4] 0, bi (.invokevirtual 221) 3 [mX6_passDay, 2, 5, 6] 0]
theorem cX8_lost_73 : chk mX8_lost 73 kX8_lost_73 = true := by decide +kernel
def kX8_lost_65 : List BI := [bi (.aload_n 0) 1 [] 0, bi (.getfield 46) 3 [8, 5] 0, bi (.aload_n 0) 1 [] 0, bi (.getfield 70) 3 [8, 9] 0]
theorem cX8_lost_65 : chk mX8_lost 65 kX8_lost_65 = true := by decide +kernel
def kX8_lost_55 : List BI := [bi (.iload_n 1) 1 [] 0, bi (.invokevirtual 157) 3 [mX6_isHeld, 3, 5, 6] 0, bi (.ifCond .ne (6)) 3 [65] 0, bi (.iload 4) 2 [] 0, bi (.ireturn) 1 [] 0]
theorem cX8_lost_55 : chk mX8_lost 55 kX8_lost_55 = true := by decide +kernel
def kX8_lost_37 : List BI := [bi (.iload 4) 2 [] 0, bi (.iload_n 2) 1 [] 0, bi (.if_icmp .gt (54)) 3 [94] 0, bi (.iload_n 3) 1 [] 0, bi (.ifCond .eq (21)) 3 [65] 0, bi (.aload_n 0) 1 [] 0, bi (.getfield 46) 3 [8, 5] 0, bi (.aload_n 0) 1 [] 0, bi (.getfield 70) 3 [8, 9] 0]
theorem cX8_lost_37 : chk mX8_lost 37 kX8_lost_37 = true := by decide +kernel
theorem xlost_37 {d : Nat} {σ : SG} {Q : Option AV → SG → Prop} {t l2 l3 l4 : Int} {r : Nat} (hr : r = 5 ∨ r = 16) (hx : (σ 0 9).toNat = r) (h : (r3 l4 ∧ r3 l2) ∧ (l2 < l4 → Q (some (.inl ((-1)))) σ) ∧ (l4 ≤ l2 → (r3 l3) ∧ (l3 = 0 → (0 < d) ∧ AW (d - 1) mX6_passDay 0 [some (.inr (.inr 36)), some (.inl (σ r 4)), none, none, none] [] σ (fun rr σ' => AW d mX8_lost 79 [some (.inr (.inr 0)), some (.inl t), some (.inl l2), some (.inl l3), some (.inl l4)] (rtS rr []) σ' Q)) ∧ (l3 ≠ 0 → (0 < d) ∧ (2 ≤ d - 1 ∧ RLM σ r ∧ SR (σ 37) ∧ 0 ≤ t ∧ t < σ r 0) ∧ (r3 (hldC σ 36 r t)) ∧ ((hldC σ 36 r t) ≠ 0 → (0 < d) ∧ AW (d - 1) mX6_passDay 0 [some (.inr (.inr 36)), some (.inl (σ r 4)), none, none, none] [] σ (fun rr σ' => AW d mX8_lost 79 [some (.inr (.inr 0)), some (.inl t), some (.inl l2), some (.inl l3), some (.inl l4)] (rtS rr []) σ' Q)) ∧ ((hldC σ 36 r t) = 0 → Q (some (.inl l4)) σ)))) : AW d mX8_lost 37 [some (.inr (.inr 0)), some (.inl t), some (.inl l2), some (.inl l3), some (.inl l4)] [] σ Q := by
  rcases hr with rfl | rfl <;> exact AW.blk kX8_lost_37 cX8_lost_37 (⟨⟨((h).1).1, ((h).1).2⟩, ⟨fun c7 => AW.blk kX8_lost_94 cX8_lost_94 (((h).2).1 c7), fun c7 => ⟨(((h).2).2 c7).1, ⟨fun c6 => AW.blk kX8_lost_65 cX8_lost_65 (aw_rl hx (AW.blk kX8_lost_73 cX8_lost_73 (⟨(((((h).2).2 c7).2).1 c6).1, (((((h).2).2 c7).2).1 c6).2⟩))), fun c6 => aw_rl hx (AW.blk kX8_lost_55 cX8_lost_55 (⟨(((((h).2).2 c7).2).2 c6).1, isHeld_ok (by decide) (by decide) ⟨((((((h).2).2 c7).2).2 c6).2).1, ⟨(((((((h).2).2 c7).2).2 c6).2).2).1, ⟨fun c5 => AW.blk kX8_lost_65 cX8_lost_65 (aw_rl hx (AW.blk kX8_lost_73 cX8_lost_73 (⟨(((((((((h).2).2 c7).2).2 c6).2).2).2).1 c5).1, (((((((((h).2).2 c7).2).2 c6).2).2).2).1 c5).2⟩))), fun c5 => ((((((((h).2).2 c7).2).2 c6).2).2).2).2 c5⟩⟩⟩⟩))⟩⟩⟩⟩)
def kX9_lost_10 : List BI := [bi (.aload_n 0) 1 [] 0, bi (.invokevirtual 470) 3 [mX9_putsAside, 1, 2, 9] 0, bi (.iconst (-1)) 1 [] 0, bi (.istore_n 2) 1 [] 0, bi (.iconst 0) 1 [] 0, bi (.istore_n 3) 1 [] 0]
theorem cX9_lost_10 : chk mX9_lost 10 kX9_lost_10 = true := by decide +kernel
def kX9_lost_0 : List BI := [bi (.aload_n 0) 1 [] 0, bi (.iload_n 1) 1 [] 0, bi (.invokevirtual 325) 3 [mX9_isTower, 2, 2, 9] 0, bi (.ifCond .ne (5)) 3 [10] 0, bi (.iconst (-1)) 1 [] 0, bi (.ireturn) 1 [] 0]
theorem cX9_lost_0 : chk mX9_lost 0 kX9_lost_0 = true := by decide +kernel
theorem mlost_0 {d : Nat} {σ : SG} {Q : Option AV → SG → Prop} {t : Int} (h : (0 < d) ∧ (r3 t) ∧ (0 < d - 1) ∧ (r3 ((σ 61 4) - 1)) ∧ (0 < d - 1) ∧ (r6 t) ∧ (t < 0 → Q (some (.inl ((-1)))) σ) ∧ (0 ≤ t → (r6 t ∧ r6 ((σ 61 4) - 1)) ∧ (((σ 61 4) - 1) < t → Q (some (.inl ((-1)))) σ) ∧ (t ≤ ((σ 61 4) - 1) → (0 < d) ∧ AW d mX9_lost 18 [some (.inr (.inr 42)), some (.inl t), some (.inl ((-1))), some (.inl 0)] [] (putF σ 72 (cpR (σ 72) (σ 69) 0 0 254)) Q))) : AW d mX9_lost 0 [some (.inr (.inr 42)), some (.inl t), none, none] [] σ Q := AW.blk kX9_lost_0 cX9_lost_0 (⟨(h).1, AW.blk kX9_isTower_0 cX9_isTower_0 (⟨((h).2).1, ⟨(((h).2).2).1, AW.blk kX9_towerMany_0 cX9_towerMany_0 (⟨⟨(by decide), (by decide)⟩, ⟨((((h).2).2).2).1, ⟨(((((h).2).2).2).2).1, AW.blk kX9_isIn_0 cX9_isIn_0 (⟨⟨((((((h).2).2).2).2).2).1, (by decide)⟩, ⟨fun c9 => AW.blk kX9_isIn_17 cX9_isIn_17 (⟨(by decide), ⟨(by decide), ⟨(by decide), ⟨fun c => absurd c (by decide), fun _ => (((((((h).2).2).2).2).2).2).1 c9⟩⟩⟩⟩), fun c9 => ⟨⟨(((((((((h).2).2).2).2).2).2).2 c9).1).1, (((((((((h).2).2).2).2).2).2).2 c9).1).2⟩, ⟨fun c8 => AW.blk kX9_isIn_17 cX9_isIn_17 (⟨(by decide), ⟨(by decide), ⟨(by decide), ⟨fun c => absurd c (by decide), fun _ => (((((((((h).2).2).2).2).2).2).2 c9).2).1 c8⟩⟩⟩⟩), fun c8 => AW.blk kX9_isIn_18 cX9_isIn_18 (⟨(by decide), ⟨(by decide), ⟨(by decide), ⟨fun _ => AW.blk kX9_lost_10 cX9_lost_10 (⟨((((((((((h).2).2).2).2).2).2).2 c9).2).2 c8).1, mputs_ok (((((((((((h).2).2).2).2).2).2).2 c9).2).2 c8).2)⟩), fun c => absurd c (by decide)⟩⟩⟩⟩)⟩⟩⟩⟩)⟩⟩⟩)⟩⟩)⟩)
def kX9_lost_66 : List BI := [bi (.pop) 1 [] 0, bi (.iinc 3 (1)) 3 [] 0, bi (.goto (-52)) 3 [18] 0]
theorem cX9_lost_66 : chk mX9_lost 66 kX9_lost_66 = true := by decide +kernel
theorem mlost_66 {d : Nat} {σ : SG} {Q : Option AV → SG → Prop} {t l2 l3 s0 : Int} (h : AW d mX9_lost 18 [some (.inr (.inr 42)), some (.inl t), some (.inl l2), some (.inl (l3 + 1))] [] σ Q) : AW d mX9_lost 66 [some (.inr (.inr 42)), some (.inl t), some (.inl l2), some (.inl l3)] [.inl s0] σ Q := AW.blk kX9_lost_66 cX9_lost_66 (h)
def kX9_lost_73 : List BI := [bi (.aload_n 0) 1 [] 0, bi (.invokevirtual 473) 3 [mX9_takesBack, 1, 2, 9] 0, bi (.iload_n 2) 1 [] 0, bi (.ireturn) 1 [] 0]
theorem cX9_lost_73 : chk mX9_lost 73 kX9_lost_73 = true := by decide +kernel
def kX9_lost_62 : List BI := [bi (.aload_n 0) 1 [] 0, bi (.invokevirtual 418) 3 [mX9_dayGoes, 1, 3, 9] 0]
theorem cX9_lost_62 : chk mX9_lost 62 kX9_lost_62 = true := by decide +kernel
def kX9_lost_47 : List BI := [bi (.aload_n 0) 1 [] 0, bi (.getfield 94) 3 [9, 37] 0, bi (.iconst 0) 1 [] 0, bi (.iaload) 1 [] 0, bi (.sipush (999)) 3 [] 0, bi (.if_icmp .ne (6)) 3 [62] 0, bi (.goto (14)) 3 [73] 0]
theorem cX9_lost_47 : chk mX9_lost 47 kX9_lost_47 = true := by decide +kernel
def kX9_lost_67 : List BI := [bi (.iinc 3 (1)) 3 [] 0, bi (.goto (-52)) 3 [18] 0]
theorem cX9_lost_67 : chk mX9_lost 67 kX9_lost_67 = true := by decide +kernel
def kX9_lost_18 : List BI := [bi (.iload_n 3) 1 [] 0, bi (.bipush (100)) 2 [] 0, bi (.if_icmp .gt (52)) 3 [73] 0, bi (.iload_n 2) 1 [] 0, bi (.iconst (-1)) 1 [] 0, bi (.if_icmp .ne (47)) 3 [73] 0, bi (.aload_n 0) 1 [] 0, bi (.iload_n 1) 1 [] 0, bi (.invokevirtual 371) 3 [mX9_isHeld, 2, 2, 9] 0, bi (.ifCond .ne (13)) 3 [47] 0, bi (.aload_n 0) 1 [] 0, bi (.getfield 94) 3 [9, 37] 0, bi (.iconst 0) 1 [] 0, bi (.iaload) 1 [] 0, bi (.istore_n 2) 1 [] 0, bi (.goto (23)) 3 [67] 0]
theorem cX9_lost_18 : chk mX9_lost 18 kX9_lost_18 = true := by decide +kernel
theorem mlost_18 {d : Nat} {σ : SG} {Q : Option AV → SG → Prop} {t l2 l3 : Int} (h : (r3 l3) ∧ (100 < l3 → (0 < d) ∧ Q (some (.inl l2)) (putF σ 69 (cpR (σ 69) (σ 72) 0 0 254))) ∧ (l3 ≤ 100 → (r3 l2) ∧ (l2 ≠ (-1) → (0 < d) ∧ Q (some (.inl l2)) (putF σ 69 (cpR (σ 69) (σ 72) 0 0 254))) ∧ (l2 = (-1) → (0 < d) ∧ (0 < d - 1) ∧ (0 < d - 1 - 1) ∧ (mhwO (d - 1 - 1 - 1) σ t 0) ∧ (0 < d - 1 - 1) ∧ (2 ≤ d - 1 - 1 - 1 ∧ MLR (σ 69) ∧ r3 t) ∧ (0 < d - 1) ∧ (mhO (d - 1 - 1) σ t (bor (foI (hwB (σ 69) t 0) 0 (σ 63 (8 + 2 * t))) (foI (fsB (σ 69) t) 0 (σ 69 1)))) ∧ (∀ f10 : Int → Int, (((mhV σ t (bor (foI (hwB (σ 69) t 0) 0 (σ 63 (8 + 2 * t))) (foI (fsB (σ 69) t) 0 (σ 69 1)))) = 0 ∨ (mhV σ t (bor (foI (hwB (σ 69) t 0) 0 (σ 63 (8 + 2 * t))) (foI (fsB (σ 69) t) 0 (σ 69 1)))) = 1)) ∧ (r3 (mhV σ t (bor (foI (hwB (σ 69) t 0) 0 (σ 63 (8 + 2 * t))) (foI (fsB (σ 69) t) 0 (σ 69 1))))) ∧ ((mhV σ t (bor (foI (hwB (σ 69) t 0) 0 (σ 63 (8 + 2 * t))) (foI (fsB (σ 69) t) 0 (σ 69 1)))) ≠ 0 → (r3 (σ 69 0)) ∧ ((σ 69 0) ≠ 999 → (0 < d) ∧ AW (d - 1) mX9_dayGoes 0 [some (.inr (.inr 42)), none, none] [] (putF σ 70 f10) (fun rr σ' => AW d mX9_lost 66 [some (.inr (.inr 42)), some (.inl t), some (.inl l2), some (.inl l3)] (rtS rr []) σ' Q)) ∧ ((σ 69 0) = 999 → (0 < d) ∧ Q (some (.inl l2)) (putF (putF σ 70 f10) 69 (cpR ((putF σ 70 f10) 69) ((putF σ 70 f10) 72) 0 0 254)))) ∧ ((mhV σ t (bor (foI (hwB (σ 69) t 0) 0 (σ 63 (8 + 2 * t))) (foI (fsB (σ 69) t) 0 (σ 69 1)))) = 0 → AW d mX9_lost 18 [some (.inr (.inr 42)), some (.inl t), some (.inl (σ 69 0)), some (.inl (l3 + 1))] [] (putF σ 70 f10) Q))))) : AW d mX9_lost 18 [some (.inr (.inr 42)), some (.inl t), some (.inl l2), some (.inl l3)] [] σ Q := AW.blk kX9_lost_18 cX9_lost_18 (⟨⟨(h).1, (by decide)⟩, ⟨fun c14 => AW.blk kX9_lost_73 cX9_lost_73 (⟨(((h).2).1 c14).1, mtakes_ok ((((h).2).1 c14).2)⟩), fun c14 => ⟨⟨(((h).2).2 c14).1, (by decide)⟩, ⟨fun c13 => AW.blk kX9_lost_73 cX9_lost_73 (⟨(((((h).2).2 c14).2).1 c13).1, mtakes_ok ((((((h).2).2 c14).2).1 c13).2)⟩), fun c13 => ⟨(((((h).2).2 c14).2).2 c13).1, AW.blk kX9_isHeld_0 cX9_isHeld_0 (⟨((((((h).2).2 c14).2).2 c13).2).1, AW.blk kX9_standSet_0 cX9_standSet_0 (⟨(((((((h).2).2 c14).2).2 c13).2).2).1, mhow2_ok ⟨((((((((h).2).2 c14).2).2 c13).2).2).2).1, ⟨(((((((((h).2).2 c14).2).2 c13).2).2).2).2).1, mfilledSet_ok ⟨((((((((((h).2).2 c14).2).2 c13).2).2).2).2).2).1, ⟨(((((((((((h).2).2 c14).2).2 c13).2).2).2).2).2).2).1, misHeldBy_ok ⟨((((((((((((h).2).2 c14).2).2 c13).2).2).2).2).2).2).2).1, fun f10 => ⟨((((((((((((((h).2).2 c14).2).2 c13).2).2).2).2).2).2).2).2 f10)).1, ⟨(((((((((((((((h).2).2 c14).2).2 c13).2).2).2).2).2).2).2).2 f10)).2).1, ⟨fun c12 => AW.blk kX9_lost_47 cX9_lost_47 (⟨⟨(by decide), (by decide)⟩, ⟨⟨(((((((((((((((((h).2).2 c14).2).2 c13).2).2).2).2).2).2).2).2 f10)).2).2).1 c12).1, (by decide)⟩, ⟨fun c11 => AW.blk kX9_lost_62 cX9_lost_62 (⟨(((((((((((((((((((h).2).2 c14).2).2 c13).2).2).2).2).2).2).2).2 f10)).2).2).1 c12).2).1 c11).1, (((((((((((((((((((h).2).2 c14).2).2 c13).2).2).2).2).2).2).2).2 f10)).2).2).1 c12).2).1 c11).2⟩), fun c11 => AW.blk kX9_lost_73 cX9_lost_73 (⟨(((((((((((((((((((h).2).2 c14).2).2 c13).2).2).2).2).2).2).2).2 f10)).2).2).1 c12).2).2 c11).1, mtakes_ok ((((((((((((((((((((h).2).2 c14).2).2 c13).2).2).2).2).2).2).2).2 f10)).2).2).1 c12).2).2 c11).2)⟩)⟩⟩⟩), fun c12 => ⟨⟨(by decide), (by decide)⟩, AW.blk kX9_lost_67 cX9_lost_67 (((((((((((((((((h).2).2 c14).2).2 c13).2).2).2).2).2).2).2).2 f10)).2).2).2 c12)⟩⟩⟩⟩⟩⟩⟩⟩⟩⟩)⟩)⟩⟩⟩⟩⟩)
/-! the day on which a top is lost -/
theorem day_same {tw : Int} {H : Int → Int} {B D : Int} {f g : Int → Int} (h : RS tw H B D f g) (ht : tw ≤ 4) (hH : ∀ t, 0 ≤ t → t < tw → 3 ≤ H t ∧ H t ≤ 14) (hD : D < 5000) (bn : Int) (hz : (dayV f bn).2 = 0) : ∀ j, 6 ≤ j → j < 22 → dyR f bn j = f j := by
  have h1 := h.2.1
  have key : ∀ n : Nat, (n : Int) ≤ f 1 → (foI (dyF bn) (f, 0) (n : Int)).2 = 0 → ∀ j, 6 ≤ j → j < 22 → (foI (dyF bn) (f, 0) (n : Int)).1 j = f j := by
    intro n
    induction n with
    | zero => intro _ _ j _ _; rfl
    | succ n ih =>
      intro hn hz j j0 j1
      obtain ⟨s1, s2, s3, s4, s5⟩ := h.steps ht hH hD bn n (by omega)
      have ih := ih (by omega)
      rw [show ((n + 1 : Nat) : Int) = (n : Int) + 1 by omega, foI_s _ _ (by omega)] at hz ⊢
      generalize foI (dyF bn) (f, 0) (n : Int) = q at *
      obtain ⟨fq, eq⟩ := q
      dsimp only at *
      obtain ⟨el, a1, a2, a3, a4, a5, a6, a7⟩ := s1.2.2.2.2.2.1 n (by omega) (by omega)
      unfold dyF at hz ⊢
      dsimp only at hz ⊢
      split at hz
      · rename_i c
        rw [if_pos c]
        exact ih hz j j0 j1
      · rename_i c
        rw [if_neg c]
        split at hz
        · rename_i c2
          dsimp only at hz
          omega
        · rename_i c2
          rw [if_neg c2]
          dsimp only
          rw [payF_ne (by omega) (by omega) (by omega) (by omega)]
          exact ih hz j j0 j1
  intro j j0 j1
  have k := key (f 1).toNat (by omega)
  rw [show (((f 1).toNat : Nat) : Int) = f 1 by omega] at k
  unfold dyR
  rw [upf_ne (by omega)]
  exact k hz j j0 j1
theorem putF_comm {σ : SG} {p q : Nat} {f g : Int → Int} (h : p ≠ q) : putF (putF σ p f) q g = putF (putF σ q g) p f := by
  funext r j
  unfold putF
  by_cases h1 : r = q
  · rw [if_pos h1, if_neg (fun z => h (z.symm.trans h1)), if_pos h1]
  · rw [if_neg h1]
    by_cases h2 : r = p
    · rw [if_pos h2, if_pos h2]
    · rw [if_neg h2, if_neg h2, if_neg h1]
def hdB (F : Int → Int → Int) (t Hh LL : Int) : Int → Bool := fun i => decide (hldV (bor (F i (6 + t)) (F i (18 + t))) Hh LL = 0)
theorem hldV_01 (a b c : Int) : hldV a b c = 0 ∨ hldV a b c = 1 := by
  unfold hldV
  split
  · exact Or.inr rfl
  · exact Or.inl rfl
def loV (F : Int → Int → Int) (t Hh LL td N : Int) : Int := if fstI (hdB F t Hh LL) (N + 1) = -1 then -1 else td + fstI (hdB F t Hh LL) (N + 1)
theorem call_lost {d : Nat} {n : Int} {σ : SG} {r q : Nat} {t : Int} (hd : 100 ≤ d) (h : SIM n σ r q) (ht : r3 t) : AW d mX8_lost 0 [some (.inr (.inr 0)), some (.inl t), none, none, none] [] σ (SAME d n r q mX9_lost [some (.inr (.inr 42)), some (.inl t), none, none]) := by
  obtain ⟨hr, _, hx, _⟩ := h.rr
  obtain ⟨hLR, hSR, hML, hMG, hRL, hN, hW⟩ := h.lr
  obtain ⟨x1, x2, x3, x4, m1, m2, m3, e4, e1, b1, b2, b3⟩ := h.fx
  have hL := h.2.2.2.2.1
  have hRS := h.2.2.2.2.2.1
  by_cases hC : 0 ≤ t ∧ t < σ r 0
  · obtain ⟨⟨hh1, hh2, t4⟩, h63, _, hMS, _, _⟩ := h.tw hC.1 hC.2
    have hle := hL.le t
    generalize hf0 : cpR (σ 37) (σ 35) 0 0 214 = f0
    have f0e : ∀ j, 0 ≤ j → j < 214 → f0 j = σ 35 j := by
      intro j j0 j1
      rw [← hf0]
      unfold cpR
      rw [if_pos (by omega)]
      congr 1
      omega
    have hRS0 := hRS.cong hL.1.1.2 hL.hH f0e (fun _ _ _ => rfl)
    have f00 := f0e 0 (by decide) (by decide)
    have f01 := f0e 1 (by decide) (by decide)
    have days := fun (i : Int) (i0 : 0 ≤ i) (i1 : i ≤ 101) => (by
      have s := hRS0.days hL.1.1.2 hL.hH (by decide) (σ r 4) i.toNat (by omega)
      rwa [show ((i.toNat : Nat) : Int) = i by omega] at s : RS (σ r 0) (σ (r + 2)) (n * 300000 + 2376 * i) (999 + i) (foI (dsF (σ r 4)) (f0, 0) i).1 (foI (mdsF (σ r 4)) (σ 69, 0) i).1 ∧ (foI (dsF (σ r 4)) (f0, 0) i).2 = (foI (mdsF (σ r 4)) (σ 69, 0) i).2 ∧ (foI (dsF (σ r 4)) (f0, 0) i).1 0 = f0 0 + i ∧ (foI (dsF (σ r 4)) (f0, 0) i).1 1 = f0 1 ∧ (0 ≤ (foI (dsF (σ r 4)) (f0, 0) i).2 ∧ (foI (dsF (σ r 4)) (f0, 0) i).2 ≤ 24 * i))
    have daysS := fun (i : Int) (i0 : 0 ≤ i) => (by rw [foI_s _ _ i0]; rfl : (foI (dsF (σ r 4)) (f0, 0) (i + 1)).1 = dyR (foI (dsF (σ r 4)) (f0, 0) i).1 (σ r 4))
    have mdaysS := fun (i : Int) (i0 : 0 ≤ i) => (by rw [foI_s _ _ i0]; rfl : (foI (mdsF (σ r 4)) (σ 69, 0) (i + 1)).1 = mdyR (foI (mdsF (σ r 4)) (σ 69, 0) i).1 (σ r 4))
    generalize hF : (fun i => (foI (dsF (σ r 4)) (f0, 0) i).1) = F
    have eF : ∀ i, (foI (dsF (σ r 4)) (f0, 0) i).1 = F i := fun i => by rw [← hF]
    generalize hLL : foI (leB σ r t) (-1) (σ r 1) = LL at *
    generalize hHh : σ (r + 2) t = Hh at *
    generalize htd : σ 35 0 = td at *
    have F0 : F 0 = f0 := by rw [← hF]; rfl
    -- the reference
    have ref : ∀ τ N, (∀ p, p ≠ 37 → τ p = σ p) → N = (if 999 < td + 100 then 999 else td + 100) - td → SAME d n r q mX9_lost [some (.inr (.inr 42)), some (.inl t), none, none] (some (.inl (loV F t Hh LL td N))) τ := by
      intro τ N hτ hN2
      have N0 : 0 ≤ N ∧ N ≤ 100 ∧ (N = 100 ∨ td + N = 999) ∧ td + N ≤ 999 := by
        rw [hN2]
        split <;> omega
      unfold SAME
      refine mlost_0 ?_
      rw [hτ 61 (by decide)]
      refine ⟨by omega, by omega, by omega, by omega, by omega, by omega, fun c => by omega, fun _ => ⟨by omega, fun c => by omega, fun _ => ⟨by omega, ?_⟩⟩⟩
      generalize hS : putF τ 72 (cpR (τ 72) (τ 69) 0 0 254) = S
      have zS : ∀ p, p ≠ 37 → p ≠ 72 → S p = σ p := fun p a b => by rw [← hS, putF_ne b, hτ p a]
      have back : ∀ f70 G v, v = loV F t Hh LL td N → (some (.inl v) = (some (.inl (loV F t Hh LL td N)) : Option AV) ∧ SIM n (putF (putF (putF S 70 f70) 69 G) 69 (cpR ((putF (putF S 70 f70) 69 G) 69) ((putF (putF S 70 f70) 69 G) 72) 0 0 254)) r q) := by
        intro f70 G v hv
        refine ⟨by rw [hv], (h.eqv (EQV.pf hr (p := 37) (f := τ 37) (by omega))).as (fun p p69 p70 p72 => ?_) (fun i i0 i1 => ?_)⟩
        · rw [putF_ne p69, putF_ne p69, putF_ne p70, ← hS, putF_ne p72]
          by_cases p37 : p = 37
          · subst p37
            rw [putF_at]
          · rw [hτ p p37, putF_ne p37]
        · rw [putF_at]
          unfold cpR
          rw [if_pos (by omega), putF_ne (show 72 ≠ 69 by decide), putF_ne (show 72 ≠ 70 by decide), ← hS, putF_at]
          unfold cpR
          rw [if_pos (by omega), hτ 69 (by decide), putF_ne (show 69 ≠ 37 by decide)]
          congr 1
          omega
      have key := downInd (P := fun i => (i ≤ N ∨ N = 100) → fstI (hdB F t Hh LL) i = -1 → ∀ f70 : Int → Int, AW d mX9_lost 18 [some (.inr (.inr 42)), some (.inl t), some (.inl (-1)), some (.inl i)] [] (putF (putF S 70 f70) 69 (foI (mdsF (σ r 4)) (σ 69, 0) i).1) (fun v' σ' => v' = some (.inl (loV F t Hh LL td N)) ∧ SIM n σ' r q)) (lo := 0) (hi := N + 1) (by omega) ?_ ?_ (by omega) rfl (S 70)
      · change AW d mX9_lost 18 [some (.inr (.inr 42)), some (.inl t), some (.inl (-1)), some (.inl 0)] [] (putF (putF S 70 (S 70)) 69 (σ 69)) _ at key
        rwa [putF_self, ← zS 69 (by decide) (by decide), putF_self] at key
      · intro hor hf f70
        have hv : (-1 : Int) = loV F t Hh LL td N := by unfold loV; rw [if_pos hf]
        exact mlost_18 ⟨by omega, fun _ => ⟨by omega, back f70 _ _ hv⟩, fun c => by omega⟩
      · intro i i0 i1 ih hor hf f70
        obtain ⟨s1, s2, s3, s4, s5⟩ := days i i0 (by omega)
        rw [eF] at s1 s3 s4
        have hz := s1.1
        have hn1 := s1.2.1
        have hs := fstI_s (hdB F t Hh LL) i0
        rw [if_pos hf] at hs
        generalize hT : putF (putF S 70 f70) 69 (foI (mdsF (σ r 4)) (σ 69, 0) i).1 = T
        have zT : ∀ p, p ≠ 37 → p ≠ 69 → p ≠ 70 → p ≠ 72 → T p = σ p := fun p a b c e => by rw [← hT, putF_ne b, putF_ne c, zS p a e]
        have zT69 : T 69 = (foI (mdsF (σ r 4)) (σ 69, 0) i).1 := by rw [← hT, putF_at]
        have hLT : RLR T r := by
          refine ER.rlr (σ := σ) ⟨fun p hp => zT p (by omega) (by omega) (by omega) (by omega), ?_⟩ hL
          rw [zT 61 (by decide) (by decide) (by decide) (by decide), zT 62 (by decide) (by decide) (by decide) (by decide), zT 63 (by decide) (by decide) (by decide) (by decide), zT 64 (by decide) (by decide) (by decide) (by decide), zT 65 (by decide) (by decide) (by decide) (by decide), zT 68 (by decide) (by decide) (by decide) (by decide)]
          exact ⟨fun _ _ => rfl, fun _ _ => rfl, fun _ _ => rfl, fun _ _ => rfl, fun _ _ => rfl, rfl⟩
        have zr : T r = σ r := zT _ (by omega) (by omega) (by omega) (by omega)
        have zr2 : T (r + 2) = σ (r + 2) := zT _ (by omega) (by omega) (by omega) (by omega)
        have z63 : T 63 = σ 63 := zT 63 (by decide) (by decide) (by decide) (by decide)
        have hRT : RS (T r 0) (T (r + 2)) (n * 300000 + 2376 * i) (999 + i) (F i) (T 69) := by
          rw [zr, zr2, zT69]
          exact s1
        obtain ⟨st1, st2⟩ := hRT.st hLT hC.1 (by rw [zr]; exact hC.2)
        have hmh : mhV T t (mstV T t) = hldV (bor (F i (6 + t)) (F i (18 + t))) Hh LL := by
          rw [mhV_hld hLT.mgr (by rw [z63]; omega), ← st1, z63, h63, zT 64 (by decide) (by decide) (by decide) (by decide), zT 61 (by decide) (by decide) (by decide) (by decide), ← hle]
        have h01 := hldV_01 (bor (F i (6 + t)) (F i (18 + t))) Hh LL
        have hMT := hRT.mlr hLT.1.1.2 hLT.hH
        have hmsr := (hRT.2.2.2.1 t hC.1 (by rw [zr]; exact hC.2)).1
        rw [zr2, hHh] at hmsr
        have hg0 : T 69 0 = td + i := by rw [zT69]; omega
        refine mlost_18 ?_
        change _ ∧ _
        rw [show bor (foI (hwB (T 69) t 0) 0 (T 63 (8 + 2 * t))) (foI (fsB (T 69) t) 0 (T 69 1)) = mstV T t from rfl, hmh, hg0]
        refine ⟨by omega, fun c => by omega, fun _ => ⟨by omega, fun c => absurd rfl c, fun _ => ⟨by omega, by omega, by omega, ⟨by omega, by omega, by omega, by omega, by rw [z63]; omega, by rw [z63]; omega, by rw [z63, h63]; exact hmsr⟩, by omega, ⟨by omega, hMT, ht⟩, by omega, ⟨by omega, hLT.mgr, by omega, by omega, by rw [z63]; omega, by rw [z63]; omega, st2.1, st2.2⟩, fun f9 => ⟨h01, by omega, fun c => ⟨by omega, fun c2 => ⟨by omega, ?_⟩, fun c2 => ⟨by omega, ?_⟩⟩, fun c => ?_⟩⟩⟩⟩
        · have hp : hdB F t Hh LL i = false := decide_eq_false c
          rw [if_neg (by rw [hp]; decide)] at hs
          have ihh := ih (by omega) hs f9
          refine mdayGoes_ok (σ := putF T 70 f9) (b := σ r 4) (f := F i) (tw := σ r 0) (H := σ (r + 2)) (B := n * 300000 + 2376 * i) (D := 999 + i) (by rw [putF_ne (by decide), zT69]; exact s1) hL.1.1.2 hL.hH (by omega) (by omega) (by omega) ?_ ?_
          · rw [putF_ne (by decide), putF_ne (by decide), zT 68 (by decide) (by decide) (by decide) (by decide), zT69]
            intro z
            exact b3 (by omega)
          · rw [putF_ne (by decide), zT69]
            refine mlost_66 ?_
            rw [mdaysS i i0] at ihh
            have eS : putF (putF T 70 f9) 69 (mdyR (foI (mdsF (σ r 4)) (σ 69, 0) i).1 (σ r 4)) = putF (putF S 70 f9) 69 (mdyR (foI (mdsF (σ r 4)) (σ 69, 0) i).1 (σ r 4)) := by
              rw [← hT, putF_comm (p := 69) (q := 70) (by decide), putF_putF, putF_putF]
            rw [eS]
            exact ihh
        · have hiN : i = N := by omega
          have hp : hdB F t Hh LL i = false := decide_eq_false c
          rw [if_neg (by rw [hp]; decide), hiN] at hs
          have hv : (-1 : Int) = loV F t Hh LL td N := by unfold loV; rw [if_pos hs]
          have eT : putF T 70 f9 = putF (putF S 70 f9) 69 (foI (mdsF (σ r 4)) (σ 69, 0) i).1 := by
            rw [← hT, putF_comm (p := 69) (q := 70) (by decide), putF_putF]
          rw [eT]
          exact back f9 _ _ hv
        · have hp : hdB F t Hh LL i = true := decide_eq_true c
          have hfull := fstI_hit (hdB F t Hh LL) (n := N + 1) i0 (by omega) hf hp
          have hv : td + i = loV F t Hh LL td N := by unfold loV; rw [hfull, if_neg (by omega)]
          have eT : putF T 70 f9 = putF (putF S 70 f9) 69 (foI (mdsF (σ r 4)) (σ 69, 0) i).1 := by
            rw [← hT, putF_comm (p := 69) (q := 70) (by decide), putF_putF]
          rw [eT]
          refine mlost_18 ⟨by omega, fun c2 => ⟨by omega, back f9 _ _ hv⟩, fun c2 => ⟨by omega, fun c3 => ⟨by omega, back f9 _ _ hv⟩, fun c3 => by omega⟩⟩
    -- the class
    refine xlost_0 hr hx ⟨by omega, by omega, fun c => by omega, fun _ => ⟨by omega, fun c => by omega, fun _ => ⟨by omega, by omega, fun S1 e1 => ?_⟩⟩⟩
    have e1' : S1 = putF σ 37 (cpR (σ 37) (σ 35) 0 0 214) := by
      rw [e1]
      funext p j
      unfold cpy putF cpR
      by_cases p37 : p = 37
      · subst p37
        rw [if_pos rfl]
        by_cases hc : 0 ≤ j ∧ j < 0 + 214
        · rw [if_pos ⟨rfl, hc⟩, if_pos hc]
          congr 1
          omega
        · rw [if_neg (fun z => hc z.2), if_neg hc]
      · rw [if_neg (fun z => p37 z.1), if_neg p37]
    have z35 : S1 35 0 = td := by rw [e1', putF_ne (by decide)]; exact htd
    rw [z35]
    refine ⟨by omega, by omega, by omega, by omega, by omega, ?_⟩
    rw [e1', hf0]
    have eN : (if 999 < td + 100 then (999 : Int) else td + 100) = td + ((if 999 < td + 100 then 999 else td + 100) - td) := by omega
    rw [eN]
    generalize hNN : (if 999 < td + 100 then (999 : Int) else td + 100) - td = N
    have N0 : 0 ≤ N ∧ N ≤ 100 ∧ td + N ≤ 999 := by
      rw [← hNN]
      split <;> omega
    have key := downInd (P := fun i => fstI (hdB F t Hh LL) i = -1 → ∀ l3, (l3 = 0 ∨ l3 = 1) → (l3 = 0 → i ≤ N → hldV (bor (F i (6 + t)) (F i (18 + t))) Hh LL ≠ 0) → AW d mX8_lost 37 [some (.inr (.inr 0)), some (.inl t), some (.inl (td + N)), some (.inl l3), some (.inl (td + i))] [] (putF σ 37 (F i)) (SAME d n r q mX9_lost [some (.inr (.inr 42)), some (.inl t), none, none])) (lo := 0) (hi := N + 1) (by omega) ?_ ?_ rfl 1 (Or.inr rfl) (fun z => by omega)
    · rw [F0, Int.add_zero] at key
      exact key
    · intro hf l3 h3 _
      have hv : (-1 : Int) = loV F t Hh LL td N := by unfold loV; rw [if_pos hf]
      have hz0 : (putF σ 37 (F (N + 1)) 0 9).toNat = r := by rw [putF_ne (by decide)]; exact hx
      refine xlost_37 hr hz0 ⟨by omega, fun _ => ?_, fun c => by omega⟩
      rw [hv]
      exact ref _ N (fun p hp => putF_ne hp) hNN.symm
    · intro i i0 i1 ih hf l3 h3 h30
      obtain ⟨s1, s2, s3, s4, s5⟩ := days i i0 (by omega)
      rw [eF] at s1 s3 s4
      have hS1 := daysS i i0
      rw [eF, eF] at hS1
      have hs := fstI_s (hdB F t Hh LL) i0
      rw [if_pos hf] at hs
      have hz0 : (putF σ 37 (F i) 0 9).toNat = r := by rw [putF_ne (by decide)]; exact hx
      have zr : ∀ k, k ≤ 10 → putF σ 37 (F i) (r + k) = σ (r + k) := fun k hk => putF_ne (by omega)
      have zr0 : putF σ 37 (F i) r = σ r := putF_ne (by omega)
      have hRi : RLM (putF σ 37 (F i)) r := hRL.cong (fun p hp => putF_ne (by unfold EP at hp; omega))
      have hC36 : hldC (putF σ 37 (F i)) 36 r t = hldV (bor (F i (6 + t)) (F i (18 + t))) Hh LL := by
        unfold hldC
        have e7 : leB (putF σ 37 (F i)) r t = leB σ r t := by
          unfold leB
          rw [zr 6 (by decide), zr 7 (by decide)]
        rw [show (36 : Nat) + 1 = 37 from rfl, putF_at, zr 2 (by decide), hHh, e7, zr0, hLL]
      have h01 := hldV_01 (bor (F i (6 + t)) (F i (18 + t))) Hh LL
      have nxt : hldV (bor (F i (6 + t)) (F i (18 + t))) Hh LL ≠ 0 → AW (d - 1) mX6_passDay 0 [some (.inr (.inr 36)), some (.inl (σ r 4)), none, none, none] [] (putF σ 37 (F i)) (fun rr σ' => AW d mX8_lost 79 [some (.inr (.inr 0)), some (.inl t), some (.inl (td + N)), some (.inl l3), some (.inl (td + i))] (rtS rr []) σ' (SAME d n r q mX9_lost [some (.inr (.inr 42)), some (.inl t), none, none])) := by
        intro hne
        have hp : hdB F t Hh LL i = false := decide_eq_false hne
        rw [if_neg (by rw [hp]; decide)] at hs
        refine passDay_ok (p := 36) (Or.inr rfl) (σ := putF σ 37 (F i)) (g := (foI (mdsF (σ r 4)) (σ 69, 0) i).1) (tw := σ r 0) (H := σ (r + 2)) (B := n * 300000 + 2376 * i) (D := 999 + i) (by rw [putF_at]; exact s1) hL.1.1.2 hL.hH (by omega) (by omega) (by omega) ?_
        rw [putF_at, putF_putF, ← hS1]
        have dz := s1.day hL.1.1.2 hL.hH (by omega) (σ r 4)
        refine xlost_79 ⟨by omega, fun c => ?_, fun c => ?_⟩
        · rw [show td + i + 1 = td + (i + 1) by omega]
          refine ih hs 0 (Or.inl rfl) (fun _ _ => ?_)
          have ds := day_same s1 hL.1.1.2 hL.hH (by omega) (σ r 4) (by omega)
          rw [hS1, ds (6 + t) (by omega) (by omega), ds (18 + t) (by omega) (by omega)]
          exact hne
        · rw [show td + i + 1 = td + (i + 1) by omega]
          exact ih hs 1 (Or.inr rfl) (fun z => by omega)
      refine xlost_37 hr hz0 ?_
      rw [hC36, zr0]
      refine ⟨by omega, fun c => by omega, fun _ => ⟨by omega, fun c => ⟨by omega, nxt (h30 c (by omega))⟩, fun c => ⟨by omega, ⟨by omega, hRi, ?_, hC.1, hC.2⟩, by omega, fun c2 => ⟨by omega, nxt c2⟩, fun c2 => ?_⟩⟩⟩
      · rw [putF_at]
        exact s1.sr hL.1.1.2 hL.hH
      · have hp : hdB F t Hh LL i = true := decide_eq_true c2
        have hfull := fstI_hit (hdB F t Hh LL) (n := N + 1) i0 (by omega) hf hp
        have hv : td + i = loV F t Hh LL td N := by unfold loV; rw [hfull, if_neg (by omega)]
        rw [hv]
        exact ref _ N (fun p hp => putF_ne hp) hNN.symm
  · have hm : SAME d n r q mX9_lost [some (.inr (.inr 42)), some (.inl t), none, none] (some (.inl (-1))) σ := by
      unfold SAME
      exact mlost_0 ⟨by omega, by omega, by omega, by omega, by omega, by omega, fun c => ⟨rfl, h⟩, fun _ => ⟨by omega, fun c => ⟨rfl, h⟩, fun z => by omega⟩⟩
    exact xlost_0 hr hx ⟨by omega, by omega, fun c => hm, fun _ => ⟨by omega, fun c => hm, fun z => by omega⟩⟩
