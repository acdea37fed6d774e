/-! ===== spareOf, needOf of the class (wip/whole/gen75.py) ===== -/
def kX8_spareOf_94 : List BI := [bi (.iload 5) 2 [] 0, bi (.ineg) 1 [] 0, bi (.ldc_w 323) 3 [] 16777215, bi (.iand) 1 [] 0, bi (.istore 6) 2 [] 0, bi (.iload_n 3) 1 [] 0, bi (.iload 6) 2 [] 0, bi (.iconst (-1)) 1 [] 0, bi (.ixor) 1 [] 0, bi (.iand) 1 [] 0, bi (.ireturn) 1 [] 0]
theorem cX8_spareOf_94 : chk mX8_spareOf 94 kX8_spareOf_94 = true := by decide +kernel
def kX8_spareOf_61 : List BI := [bi (.aload_n 0) 1 [] 0, bi (.getfield 35) 3 [8, 3] 0, bi (.aload_n 0) 1 [] 0, bi (.getfield 42) 3 [8, 4] 0, bi (.iload_n 1) 1 [] 0, bi (.iload_n 2) 1 [] 0, bi (.invokevirtual 320) 3 [mX2_forKeeping, 4, 9, 2] 0, bi (.aload_n 0) 1 [] 0, bi (.getfield 35) 3 [8, 3] 0, bi (.iload_n 2) 1 [] 0, bi (.iload 4) 2 [] 0, bi (.invokevirtual 283) 3 [mX2_cheapest, 3, 6, 2] 0, bi (.istore 5) 2 [] 0, bi (.iload 5) 2 [] 0, bi (.iconst (-1)) 1 [] 0, bi (.if_icmp .ne (5)) 3 [94] 0, bi (.iconst 0) 1 [] 0, bi (.ireturn) 1 [] 0]
theorem cX8_spareOf_61 : chk mX8_spareOf 61 kX8_spareOf_61 = true := by decide +kernel
def kX8_spareOf_47 : List BI := [bi (.iload_n 1) 1 [] 0, bi (.invokevirtual 164) 3 [mX4_leastLegs, 2, 4, 4] 0, bi (.istore 4) 2 [] 0, bi (.iload 4) 2 [] 0, bi (.iconst (-1)) 1 [] 0, bi (.if_icmp .ne (5)) 3 [61] 0, bi (.iload_n 3) 1 [] 0, bi (.ireturn) 1 [] 0]
theorem cX8_spareOf_47 : chk mX8_spareOf 47 kX8_spareOf_47 = true := by decide +kernel
def kX8_spareOf_21 : List BI := [bi (.getfield 142) 3 [4, 6] 0, bi (.iload_n 1) 1 [] 0, bi (.iaload) 1 [] 0, bi (.istore_n 2) 1 [] 0, bi (.aload_n 0) 1 [] 0, bi (.getfield 42) 3 [8, 4] 0, bi (.iload_n 1) 1 [] 0, bi (.invokevirtual 317) 3 [mX6_thereIn, 2, 2, 6] 0, bi (.iload_n 2) 1 [] 0, bi (.invokestatic 178) 3 [mX8_bit, 1, 1] 0, bi (.iconst (-1)) 1 [] 0, bi (.ixor) 1 [] 0, bi (.iand) 1 [] 0, bi (.istore_n 3) 1 [] 0, bi (.aload_n 0) 1 [] 0, bi (.getfield 70) 3 [8, 9] 0]
theorem cX8_spareOf_21 : chk mX8_spareOf 21 kX8_spareOf_21 = true := by decide +kernel
def kX8_spareOf_17 : List BI := [bi (.aload_n 0) 1 [] 0, bi (.getfield 70) 3 [8, 9] 0]
theorem cX8_spareOf_17 : chk mX8_spareOf 17 kX8_spareOf_17 = true := by decide +kernel
def kX8_spareOf_8 : List BI := [bi (.iload_n 1) 1 [] 0, bi (.invokevirtual 157) 3 [mX6_isHeld, 3, 5, 6] 0, bi (.ifCond .ne (5)) 3 [17] 0, bi (.iconst 0) 1 [] 0, bi (.ireturn) 1 [] 0]
theorem cX8_spareOf_8 : chk mX8_spareOf 8 kX8_spareOf_8 = true := by decide +kernel
def kX8_spareOf_0 : List BI := [bi (.aload_n 0) 1 [] 0, bi (.getfield 42) 3 [8, 4] 0, bi (.aload_n 0) 1 [] 0, bi (.getfield 70) 3 [8, 9] 0]
theorem cX8_spareOf_0 : chk mX8_spareOf 0 kX8_spareOf_0 = true := by decide +kernel
theorem xspareOf_0 {d : Nat} {σ : SG} {Q : Option AV → SG → Prop} {t : Int} {r : Nat} (hr : r = 5 ∨ r = 16) (hx : (σ 0 9).toNat = r) (h : (0 < d) ∧ (2 ≤ d - 1 ∧ RLM σ r ∧ SR (σ 35) ∧ 0 ≤ t ∧ t < σ r 0) ∧ (r3 (hldC σ 34 r t)) ∧ ((hldC σ 34 r t) ≠ 0 → (0 ≤ t ∧ t < 4) ∧ (0 < d) ∧ (0 ≤ (6 + t) ∧ (6 + t) < 214) ∧ (0 < d) ∧ (0 ≤ ((σ (r + 2) t) - 1) ∧ ((σ (r + 2) t) - 1) < 32) ∧ (0 < d) ∧ (RLM σ r ∧ r3 t) ∧ (r3 (foI (leB σ r t) (-1) (σ r 1))) ∧ ((foI (leB σ r t) (-1) (σ r 1)) ≠ (-1) → (0 < d) ∧ (1 ≤ d - 1 ∧ SR (σ 35) ∧ 0 ≤ t ∧ t < 4 ∧ 0 ≤ (σ (r + 2) t) ∧ (σ (r + 2) t) ≤ 14) ∧ (0 < d) ∧ (chpO (d - 1) (putF σ 31 (flF (fkP (σ 35 (6 + t)) (σ 35 (18 + t)) (σ (r + 2) t)) (σ 31) (σ (r + 2) t))) (σ (r + 2) t) (foI (leB σ r t) (-1) (σ r 1))) ∧ (∀ f1 : Int → Int, (r3 (chpV ((putF σ 31 (flF (fkP (σ 35 (6 + t)) (σ 35 (18 + t)) (σ (r + 2) t)) (σ 31) (σ (r + 2) t))) 31) (foI (leB σ r t) (-1) (σ r 1)) (σ (r + 2) t))) ∧ ((chpV ((putF σ 31 (flF (fkP (σ 35 (6 + t)) (σ 35 (18 + t)) (σ (r + 2) t)) (σ 31) (σ (r + 2) t))) 31) (foI (leB σ r t) (-1) (σ r 1)) (σ (r + 2) t)) ≠ (-1) → Q (some (.inl (band (band (σ 35 (6 + t)) (bxor (1 * 2 ^ Int.toNat ((σ (r + 2) t) - 1)) (-1))) (bxor (band (-(chpV ((putF σ 31 (flF (fkP (σ 35 (6 + t)) (σ 35 (18 + t)) (σ (r + 2) t)) (σ 31) (σ (r + 2) t))) 31) (foI (leB σ r t) (-1) (σ r 1)) (σ (r + 2) t))) 16777215) (-1))))) (putF (putF σ 31 (flF (fkP (σ 35 (6 + t)) (σ 35 (18 + t)) (σ (r + 2) t)) (σ 31) (σ (r + 2) t))) 32 f1)) ∧ ((chpV ((putF σ 31 (flF (fkP (σ 35 (6 + t)) (σ 35 (18 + t)) (σ (r + 2) t)) (σ 31) (σ (r + 2) t))) 31) (foI (leB σ r t) (-1) (σ r 1)) (σ (r + 2) t)) = (-1) → Q (some (.inl 0)) (putF (putF σ 31 (flF (fkP (σ 35 (6 + t)) (σ 35 (18 + t)) (σ (r + 2) t)) (σ 31) (σ (r + 2) t))) 32 f1)))) ∧ ((foI (leB σ r t) (-1) (σ r 1)) = (-1) → Q (some (.inl (band (σ 35 (6 + t)) (bxor (1 * 2 ^ Int.toNat ((σ (r + 2) t) - 1)) (-1))))) σ)) ∧ ((hldC σ 34 r t) = 0 → Q (some (.inl 0)) σ)) : AW d mX8_spareOf 0 [some (.inr (.inr 0)), some (.inl t), none, none, none, none, none] [] σ Q := by
  rcases hr with rfl | rfl <;> exact AW.blk kX8_spareOf_0 cX8_spareOf_0 (aw_rl hx (AW.blk kX8_spareOf_8 cX8_spareOf_8 (⟨(h).1, isHeld_ok (by decide) (by decide) ⟨((h).2).1, ⟨(((h).2).2).1, ⟨fun c4 => AW.blk kX8_spareOf_17 cX8_spareOf_17 (aw_rl hx (AW.blk kX8_spareOf_21 cX8_spareOf_21 (⟨⟨((((((h).2).2).2).1 c4).1).1, ((((((h).2).2).2).1 c4).1).2⟩, ⟨((((((h).2).2).2).1 c4).2).1, AW.blk kX6_thereIn_0 cX6_thereIn_0 (⟨⟨((((((((h).2).2).2).1 c4).2).2).1).1, ((((((((h).2).2).2).1 c4).2).2).1).2⟩, ⟨((((((((h).2).2).2).1 c4).2).2).2).1, AW.blk kX8_bit_0 cX8_bit_0 (⟨⟨((((((((((h).2).2).2).1 c4).2).2).2).2).1).1, ((((((((((h).2).2).2).1 c4).2).2).2).2).1).2⟩, aw_rl hx (AW.blk kX8_spareOf_47 cX8_spareOf_47 (⟨((((((((((h).2).2).2).1 c4).2).2).2).2).2).1, leastLegs_ok (by decide) ⟨(((((((((((h).2).2).2).1 c4).2).2).2).2).2).2).1, ⟨⟨((((((((((((h).2).2).2).1 c4).2).2).2).2).2).2).2).1, (by decide)⟩, ⟨fun c3 => AW.blk kX8_spareOf_61 cX8_spareOf_61 (⟨((((((((((((((h).2).2).2).1 c4).2).2).2).2).2).2).2).2).1 c3).1, forKeeping_ok ⟨(((((((((((((((h).2).2).2).1 c4).2).2).2).2).2).2).2).2).1 c3).2).1, ⟨((((((((((((((((h).2).2).2).1 c4).2).2).2).2).2).2).2).2).1 c3).2).2).1, cheapest2_ok ⟨(((((((((((((((((h).2).2).2).1 c4).2).2).2).2).2).2).2).2).1 c3).2).2).2).1, fun f1 => ⟨⟨(((((((((((((((((((h).2).2).2).1 c4).2).2).2).2).2).2).2).2).1 c3).2).2).2).2 f1)).1, (by decide)⟩, ⟨fun c2 => AW.blk kX8_spareOf_94 cX8_spareOf_94 (((((((((((((((((((((h).2).2).2).1 c4).2).2).2).2).2).2).2).2).1 c3).2).2).2).2 f1)).2).1 c2), fun c2 => ((((((((((((((((((((h).2).2).2).1 c4).2).2).2).2).2).2).2).2).1 c3).2).2).2).2 f1)).2).2 c2⟩⟩⟩⟩⟩⟩), fun c3 => (((((((((((((h).2).2).2).1 c4).2).2).2).2).2).2).2).2).2 c3⟩⟩⟩⟩))⟩)⟩⟩)⟩⟩))), fun c4 => ((((h).2).2).2).2 c4⟩⟩⟩⟩)))
def kX8_needOf_66 : List BI := [bi (.iload_n 3) 1 [] 0, bi (.ldc_w 323) 3 [] 16777215, bi (.iand) 1 [] 0, bi (.ireturn) 1 [] 0]
theorem cX8_needOf_66 : chk mX8_needOf 66 kX8_needOf_66 = true := by decide +kernel
def kX8_needOf_71 : List BI := [bi (.ireturn) 1 [] 0]
theorem cX8_needOf_71 : chk mX8_needOf 71 kX8_needOf_71 = true := by decide +kernel
def kX8_needOf_49 : List BI := [bi (.iload_n 1) 1 [] 0, bi (.invokevirtual 164) 3 [mX4_leastLegs, 2, 4, 4] 0, bi (.invokevirtual 283) 3 [mX2_cheapest, 3, 6, 2] 0, bi (.istore_n 3) 1 [] 0, bi (.iload_n 3) 1 [] 0, bi (.iconst (-1)) 1 [] 0, bi (.if_icmp .ne (7)) 3 [66] 0, bi (.iconst 0) 1 [] 0, bi (.goto (8)) 3 [71] 0]
theorem cX8_needOf_49 : chk mX8_needOf 49 kX8_needOf_49 = true := by decide +kernel
def kX8_needOf_21 : List BI := [bi (.getfield 142) 3 [4, 6] 0, bi (.iload_n 1) 1 [] 0, bi (.iaload) 1 [] 0, bi (.istore_n 2) 1 [] 0, bi (.aload_n 0) 1 [] 0, bi (.getfield 35) 3 [8, 3] 0, bi (.aload_n 0) 1 [] 0, bi (.getfield 42) 3 [8, 4] 0, bi (.iload_n 1) 1 [] 0, bi (.iload_n 2) 1 [] 0, bi (.invokevirtual 324) 3 [mX2_forFilling, 4, 6, 2] 0, bi (.aload_n 0) 1 [] 0, bi (.getfield 35) 3 [8, 3] 0, bi (.iload_n 2) 1 [] 0, bi (.aload_n 0) 1 [] 0, bi (.getfield 70) 3 [8, 9] 0]
theorem cX8_needOf_21 : chk mX8_needOf 21 kX8_needOf_21 = true := by decide +kernel
def kX8_needOf_17 : List BI := [bi (.aload_n 0) 1 [] 0, bi (.getfield 70) 3 [8, 9] 0]
theorem cX8_needOf_17 : chk mX8_needOf 17 kX8_needOf_17 = true := by decide +kernel
def kX8_needOf_8 : List BI := [bi (.iload_n 1) 1 [] 0, bi (.invokevirtual 157) 3 [mX6_isHeld, 3, 5, 6] 0, bi (.ifCond .eq (5)) 3 [17] 0, bi (.iconst 0) 1 [] 0, bi (.ireturn) 1 [] 0]
theorem cX8_needOf_8 : chk mX8_needOf 8 kX8_needOf_8 = true := by decide +kernel
def kX8_needOf_0 : List BI := [bi (.aload_n 0) 1 [] 0, bi (.getfield 42) 3 [8, 4] 0, bi (.aload_n 0) 1 [] 0, bi (.getfield 70) 3 [8, 9] 0]
theorem cX8_needOf_0 : chk mX8_needOf 0 kX8_needOf_0 = true := by decide +kernel
theorem xneedOf_0 {d : Nat} {σ : SG} {Q : Option AV → SG → Prop} {t : Int} {r : Nat} (hr : r = 5 ∨ r = 16) (hx : (σ 0 9).toNat = r) (h : (0 < d) ∧ (2 ≤ d - 1 ∧ RLM σ r ∧ SR (σ 35) ∧ 0 ≤ t ∧ t < σ r 0) ∧ (r3 (hldC σ 34 r t)) ∧ ((hldC σ 34 r t) = 0 → (0 ≤ t ∧ t < 4) ∧ (0 < d) ∧ (1 ≤ d - 1 ∧ SR (σ 35) ∧ 0 ≤ t ∧ t < 4 ∧ 0 ≤ (σ (r + 2) t) ∧ (σ (r + 2) t) ≤ 14) ∧ (0 < d) ∧ (RLM (putF σ 31 (flF (ffP (bor (σ 35 (6 + t)) (σ 35 (18 + t)))) (σ 31) (σ (r + 2) t))) r ∧ r3 t) ∧ (0 < d) ∧ (chpO (d - 1) (putF σ 31 (flF (ffP (bor (σ 35 (6 + t)) (σ 35 (18 + t)))) (σ 31) (σ (r + 2) t))) (σ (r + 2) t) (foI (leB (putF σ 31 (flF (ffP (bor (σ 35 (6 + t)) (σ 35 (18 + t)))) (σ 31) (σ (r + 2) t))) r t) (-1) ((putF σ 31 (flF (ffP (bor (σ 35 (6 + t)) (σ 35 (18 + t)))) (σ 31) (σ (r + 2) t))) r 1))) ∧ (∀ f5 : Int → Int, (r3 (chpV ((putF σ 31 (flF (ffP (bor (σ 35 (6 + t)) (σ 35 (18 + t)))) (σ 31) (σ (r + 2) t))) 31) (foI (leB (putF σ 31 (flF (ffP (bor (σ 35 (6 + t)) (σ 35 (18 + t)))) (σ 31) (σ (r + 2) t))) r t) (-1) ((putF σ 31 (flF (ffP (bor (σ 35 (6 + t)) (σ 35 (18 + t)))) (σ 31) (σ (r + 2) t))) r 1)) (σ (r + 2) t))) ∧ ((chpV ((putF σ 31 (flF (ffP (bor (σ 35 (6 + t)) (σ 35 (18 + t)))) (σ 31) (σ (r + 2) t))) 31) (foI (leB (putF σ 31 (flF (ffP (bor (σ 35 (6 + t)) (σ 35 (18 + t)))) (σ 31) (σ (r + 2) t))) r t) (-1) ((putF σ 31 (flF (ffP (bor (σ 35 (6 + t)) (σ 35 (18 + t)))) (σ 31) (σ (r + 2) t))) r 1)) (σ (r + 2) t)) ≠ (-1) → Q (some (.inl (band (chpV ((putF σ 31 (flF (ffP (bor (σ 35 (6 + t)) (σ 35 (18 + t)))) (σ 31) (σ (r + 2) t))) 31) (foI (leB (putF σ 31 (flF (ffP (bor (σ 35 (6 + t)) (σ 35 (18 + t)))) (σ 31) (σ (r + 2) t))) r t) (-1) ((putF σ 31 (flF (ffP (bor (σ 35 (6 + t)) (σ 35 (18 + t)))) (σ 31) (σ (r + 2) t))) r 1)) (σ (r + 2) t)) 16777215))) (putF (putF σ 31 (flF (ffP (bor (σ 35 (6 + t)) (σ 35 (18 + t)))) (σ 31) (σ (r + 2) t))) 32 f5)) ∧ ((chpV ((putF σ 31 (flF (ffP (bor (σ 35 (6 + t)) (σ 35 (18 + t)))) (σ 31) (σ (r + 2) t))) 31) (foI (leB (putF σ 31 (flF (ffP (bor (σ 35 (6 + t)) (σ 35 (18 + t)))) (σ 31) (σ (r + 2) t))) r t) (-1) ((putF σ 31 (flF (ffP (bor (σ 35 (6 + t)) (σ 35 (18 + t)))) (σ 31) (σ (r + 2) t))) r 1)) (σ (r + 2) t)) = (-1) → Q (some (.inl 0)) (putF (putF σ 31 (flF (ffP (bor (σ 35 (6 + t)) (σ 35 (18 + t)))) (σ 31) (σ (r + 2) t))) 32 f5)))) ∧ ((hldC σ 34 r t) ≠ 0 → Q (some (.inl 0)) σ)) : AW d mX8_needOf 0 [some (.inr (.inr 0)), some (.inl t), none, none] [] σ Q := by
  rcases hr with rfl | rfl <;> exact AW.blk kX8_needOf_0 cX8_needOf_0 (aw_rl hx (AW.blk kX8_needOf_8 cX8_needOf_8 (⟨(h).1, isHeld_ok (by decide) (by decide) ⟨((h).2).1, ⟨(((h).2).2).1, ⟨fun c7 => AW.blk kX8_needOf_17 cX8_needOf_17 (aw_rl hx (AW.blk kX8_needOf_21 cX8_needOf_21 (⟨⟨((((((h).2).2).2).1 c7).1).1, ((((((h).2).2).2).1 c7).1).2⟩, ⟨((((((h).2).2).2).1 c7).2).1, forFilling_ok ⟨(((((((h).2).2).2).1 c7).2).2).1, aw_rl hx (AW.blk kX8_needOf_49 cX8_needOf_49 (⟨((((((((h).2).2).2).1 c7).2).2).2).1, leastLegs_ok (by decide) ⟨(((((((((h).2).2).2).1 c7).2).2).2).2).1, ⟨((((((((((h).2).2).2).1 c7).2).2).2).2).2).1, cheapest2_ok ⟨(((((((((((h).2).2).2).1 c7).2).2).2).2).2).2).1, fun f5 => ⟨⟨(((((((((((((h).2).2).2).1 c7).2).2).2).2).2).2).2 f5)).1, (by decide)⟩, ⟨fun c6 => AW.blk kX8_needOf_66 cX8_needOf_66 (((((((((((((((h).2).2).2).1 c7).2).2).2).2).2).2).2 f5)).2).1 c6), fun c6 => AW.blk kX8_needOf_71 cX8_needOf_71 (((((((((((((((h).2).2).2).1 c7).2).2).2).2).2).2).2 f5)).2).2 c6)⟩⟩⟩⟩⟩⟩))⟩⟩⟩))), fun c7 => ((((h).2).2).2).2 c7⟩⟩⟩⟩)))
theorem bpow {x s : Int} (s0 : 1 ≤ s) (s1 : s ≤ 14) : band x (1 * 2 ^ Int.toNat (s - 1)) = 0 ↔ ¬ tb x (s - 1).toNat = true := by
  rw [band_pow0 (by omega)]
  cases tb x (s - 1).toNat
  · exact ⟨fun _ z => Bool.noConfusion z, fun _ => rfl⟩
  · exact ⟨fun z => Bool.noConfusion z, fun z => absurd rfl z⟩
theorem hwB_tbl (g : Int → Int) (t w : Int) {ht : Int} (h0 : 0 ≤ ht) (h1 : ht ≤ 14) : ∀ k, tb (foI (hwB g t w) 0 ht) k = true → (k : Int) < ht := by
  intro k hk
  rw [hw_tb g t w h0 h1, decide_eq_true_eq] at hk
  exact hk.1
theorem spareOf_sim {d : Nat} {n : Int} {σ : SG} {r q : Nat} {t : Int} {Q : Option AV → SG → Prop} (h : SIM n σ r q) (t0 : 0 ≤ t) (t1 : t < σ r 0) (hd : 50 ≤ d) (hq : ∀ A B, Q (some (.inl (mspV σ t))) (putF (putF σ 31 A) 32 B)) : AW d mX8_spareOf 0 [some (.inr (.inr 0)), some (.inl t), none, none, none, none, none] [] σ Q := by
  obtain ⟨hr, _, hx, _⟩ := h.rr
  obtain ⟨hLR, hSR, hML, hMG, hRL, hN, hW⟩ := h.lr
  obtain ⟨⟨hh1, hh2, t4⟩, h63, _, hMS, em, hrr⟩ := h.tw t0 t1
  have hhld := h.hld t0 t1
  have hle := h.2.2.2.2.1.le t
  have hler := leB_r (t := t) hRL (σ r 1) (by omega) (by omega)
  have e6 := (h.2.2.2.2.2.1.2.2.2.1 t t0 t1).2.1
  have e18 := (h.2.2.2.2.2.1.2.2.2.1 t t0 t1).2.2.2.2
  have hself : putF (putF σ 31 (σ 31)) 32 (σ 32) = σ := by
    rw [putF_self, putF_self]
  have hth : 0 ≤ foI (hwB (σ 69) t 0) 0 (σ (r + 2) t) ∧ foI (hwB (σ 69) t 0) 0 (σ (r + 2) t) < 16384 := hwB_r _ _ _ hh2
  have hfi : 0 ≤ foI (fsB (σ 69) t) 0 (σ 69 1) ∧ foI (fsB (σ 69) t) 0 (σ 69 1) < 16384 := fsB_r hML t
  have htb := hwB_tbl (σ 69) t 0 (ht := σ (r + 2) t) (by omega) hh2
  have hms : mstV σ t = bor (foI (hwB (σ 69) t 0) 0 (σ (r + 2) t)) (foI (fsB (σ 69) t) 0 (σ 69 1)) := by unfold mstV; rw [h63]
  have hmp : mspV σ t = if mhV σ t (mstV σ t) = 0 then 0 else foI (spB σ t (bor (foI (hwB (σ 69) t 0) 0 (σ (r + 2) t)) (foI (fsB (σ 69) t) 0 (σ 69 1))) (band (foI (hwB (σ 69) t 0) 0 (σ (r + 2) t)) (bxor (1 * 2 ^ Int.toNat (σ (r + 2) t - 1)) (-1))) (foI (fsB (σ 69) t) 0 (σ 69 1))) 0 (1 * 2 ^ Int.toNat (σ (r + 2) t - 1)) := by
    unfold mspV
    rw [h63, hms]
  have h01 := mhV_01 σ t (mstV σ t)
  rw [hmp] at hq
  refine xspareOf_0 hr hx ?_
  rw [hhld, e6, e18, putF_at]
  generalize hthd : foI (hwB (σ 69) t 0) 0 (σ (r + 2) t) = th at *
  generalize hfid : foI (fsB (σ 69) t) 0 (σ 69 1) = fi at *
  generalize hlgd : foI (leB σ r t) (-1) (σ r 1) = lg at *
  generalize hhtd : σ (r + 2) t = ht at *
  have hPr : ∀ s, 1 ≤ s → s ≤ ht → -1 ≤ flF (fkP th fi ht) (σ 31) ht s ∧ flF (fkP th fi ht) (σ 31) ht s ≤ 33554432 := by
    intro s s0 s1
    have hp := pow_r (i := s - 1) (by omega) (by omega)
    unfold flF fkP
    rw [if_pos ⟨s0, s1⟩]
    split
    · omega
    · split <;> omega
  have hcong : chpV (flF (fkP th fi ht) (σ 31) ht) lg ht = dpV (kpP th fi ht) lg ht ht := by
    have := chpV_cong (P := flF (fkP th fi ht) (σ 31) ht) (P' := kpP th fi ht) (lg := lg) (ht := ht) (fun s s0 s1 => by
      unfold flF fkP kpP
      rw [if_pos ⟨s0, s1⟩]
      have w1 := bpow (x := fi) s0 (by omega)
      have w2 := bpow (x := th) s0 (by omega)
      by_cases c1 : tb fi (s - 1).toNat = true ∨ s = ht
      · rw [if_pos c1, if_pos]
        rcases c1 with c1 | c1
        · exact Or.inl (fun z => w1.mp z c1)
        · exact Or.inr c1
      · rw [if_neg c1, if_neg (fun z => by
          rcases z with z | z
          · exact z (w1.mpr (fun y => c1 (Or.inl y)))
          · exact c1 (Or.inr z))]
        by_cases c2 : tb th (s - 1).toNat = true
        · rw [if_pos c2, if_neg (fun z => w2.mp z c2), Int.one_mul]
        · rw [if_neg c2, if_pos (w2.mpr c2)])
    exact this
  refine ⟨by omega, ⟨by omega, hRL, hSR, t0, t1⟩, by omega, fun c => ⟨by omega, by omega, by omega, by omega, by omega, by omega, ⟨hRL, by omega⟩, by omega, fun c1 => ⟨by omega, ⟨by omega, hSR, by omega, by omega, by omega, by omega⟩, by omega, ⟨by omega, by omega, by omega, by omega, by omega, ?_⟩, fun B => ?_⟩, fun c1 => ?_⟩, fun c => ?_⟩
  · rw [putF_at]
    exact hPr
  · have hvr := chpV_r (P := flF (fkP th fi ht) (σ 31) ht) (lg := lg) (ht := ht) (by omega) (by omega) hPr
    have hheld : climbV (bor th fi) ht lg 0 = ht := by
      have hz := mhV_hld hMG (t := t) (sd := mstV σ t) (by omega)
      rw [hz, hms, h63, ← hle] at c
      unfold hldV at c
      by_cases cc : lg = -1 ∨ climbV (bor th fi) ht lg 0 = ht
      · exact cc.resolve_left c1
      · rw [if_neg cc] at c
        exact absurd rfl c
    have hse := spare_eq hMG (t := t) (th := th) (fi := fi) (ht := ht) (lg := lg) h63 (by omega) hth hfi htb hle.symm (by omega) hheld
    refine ⟨by omega, fun c2 => ?_, fun c2 => ?_⟩
    · have := hq (flF (fkP th fi ht) (σ 31) ht) B
      rw [if_neg c, hse.2] at this
      rw [hcong]
      exact this
    · rw [hcong] at c2
      exact absurd c2 hse.1
  · have := hq (σ 31) (σ 32)
    rw [hself, if_neg c, spare_all hMG h63 (by omega) hth htb (by rw [← hle]; exact c1)] at this
    exact this
  · have := hq (σ 31) (σ 32)
    rw [hself, if_pos c] at this
    exact this
theorem needOf_sim {d : Nat} {n : Int} {σ : SG} {r q : Nat} {t : Int} {Q : Option AV → SG → Prop} (h : SIM n σ r q) (t0 : 0 ≤ t) (t1 : t < σ r 0) (hd : 50 ≤ d) (hq : ∀ A B, Q (some (.inl (mneV σ t))) (putF (putF σ 31 A) 32 B)) : AW d mX8_needOf 0 [some (.inr (.inr 0)), some (.inl t), none, none] [] σ Q := by
  obtain ⟨hr, _, hx, _⟩ := h.rr
  obtain ⟨hLR, hSR, hML, hMG, hRL, hN, hW⟩ := h.lr
  obtain ⟨⟨hh1, hh2, t4⟩, h63, _, hMS, em, hrr⟩ := h.tw t0 t1
  have hhld := h.hld t0 t1
  have hle := h.2.2.2.2.1.le t
  have hler := leB_r (t := t) hRL (σ r 1) (by omega) (by omega)
  have hself : putF (putF σ 31 (σ 31)) 32 (σ 32) = σ := by
    rw [putF_self, putF_self]
  have h01 := mhV_01 σ t (mstV σ t)
  refine xneedOf_0 hr hx ?_
  rw [hhld, em]
  generalize hA : flF (ffP (mstV σ t)) (σ 31) (σ (r + 2) t) = A
  have elB : leB (putF σ 31 A) r t = leB σ r t := by
    unfold leB
    rw [putF_ne (show r + 6 ≠ 31 by omega), putF_ne (show r + 7 ≠ 31 by omega)]
  have er : putF σ 31 A r = σ r := putF_ne (by omega)
  rw [elB, er, putF_at]
  generalize hlgd : foI (leB σ r t) (-1) (σ r 1) = lg at *
  have hPr : ∀ s, 1 ≤ s → s ≤ σ (r + 2) t → -1 ≤ A s ∧ A s ≤ 33554432 := by
    intro s s0 s1
    have hp := pow_r (i := s - 1) (by omega) (by omega)
    rw [← hA]
    unfold flF ffP
    rw [if_pos ⟨s0, s1⟩]
    split <;> omega
  have hcong : chpV A lg (σ (r + 2) t) = dpV (npP (mstV σ t)) lg (σ (r + 2) t) (σ (r + 2) t) := by
    rw [← hA]
    exact chpV_cong (P' := npP (mstV σ t)) (fun s s0 s1 => by
      unfold flF ffP npP
      rw [if_pos ⟨s0, s1⟩]
      have w1 := bpow (x := mstV σ t) s0 (by omega)
      by_cases c1 : tb (mstV σ t) (s - 1).toNat = true
      · rw [if_pos c1, if_neg (fun z => w1.mp z c1)]
      · rw [if_neg c1, if_pos (w1.mpr c1), Int.one_mul])
  refine ⟨by omega, ⟨by omega, hRL, hSR, t0, t1⟩, by omega, fun c => ?_, fun c => ?_⟩
  · have hlg1 : 1 ≤ lg := by
      have hz := mhV_hld hMG (t := t) (sd := mstV σ t) (by omega)
      rw [hz, h63, ← hle] at c
      unfold hldV at c
      by_cases cc : lg = -1
      · rw [if_pos (Or.inl cc)] at c
        cases c
      · omega
    have hvr := chpV_r (P := A) (lg := lg) (ht := σ (r + 2) t) (by omega) (by omega) hPr
    refine ⟨by omega, by omega, ⟨by omega, hSR, by omega, by omega, by omega, by omega⟩, by omega, ⟨hRL.cong (fun p hp => putF_ne (by unfold EP at hp; omega)), by omega⟩, by omega, ⟨by omega, by omega, by omega, by omega, by omega, by rw [putF_at]; exact hPr⟩, fun B => ⟨by omega, fun c2 => ?_, fun c2 => ?_⟩⟩
    · have hv := hq A B
      have hne := need_eq hMG (t := t) (sd := mstV σ t) (ht := σ (r + 2) t) (lg := lg) (b0 := band (1 * 2 ^ Int.toNat (σ 63 (8 + 2 * t)) - 1) (bxor (mstV σ t) (-1))) h63 (by omega) hle.symm hlg1
      unfold mneV at hv
      rw [if_pos c, h63] at hv
      rw [h63] at hne
      rw [hne, ← hcong] at hv
      exact hv
    · have := need_some (sd := mstV σ t) (ht := σ (r + 2) t) (lg := lg) (by omega) hlg1 (σ (r + 2) t).toNat (by omega)
      rw [show (((σ (r + 2) t).toNat : Nat) : Int) = σ (r + 2) t by omega, ← hcong] at this
      exact absurd c2 this
  · have hv := hq (σ 31) (σ 32)
    unfold mneV at hv
    rw [hself, if_neg c] at hv
    exact hv
