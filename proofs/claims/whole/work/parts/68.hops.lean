/-! ===== hops (wip/whole/gen68.py) ===== -/
def kX8_fewestHops_0 : List BI := [bi (.iconst 0) 1 [] 0, bi (.istore_n 3) 1 [] 0, bi (.iconst 1) 1 [] 0, bi (.istore 4) 2 [] 0]
theorem cX8_fewestHops_0 : chk mX8_fewestHops 0 kX8_fewestHops_0 = true := by decide +kernel
theorem xfew_0 {d : Nat} {σ : SG} {Q : Option AV → SG → Prop} {sd ht lg : Int} (h : AW d mX8_fewestHops 5 [some (.inl sd), some (.inl ht), some (.inl lg), some (.inl 0), some (.inl 1), none, none, none] [] σ Q) : AW d mX8_fewestHops 0 [some (.inl sd), some (.inl ht), some (.inl lg), none, none, none, none, none] [] σ Q := AW.blk kX8_fewestHops_0 cX8_fewestHops_0 (h)
def kX8_fewestHops_81 : List BI := [bi (.iconst (-1)) 1 [] 0, bi (.ireturn) 1 [] 0]
theorem cX8_fewestHops_81 : chk mX8_fewestHops 81 kX8_fewestHops_81 = true := by decide +kernel
def kX8_fewestHops_5 : List BI := [bi (.iload 4) 2 [] 0, bi (.iload_n 1) 1 [] 0, bi (.if_icmp .gt (73)) 3 [81] 0, bi (.iload_n 3) 1 [] 0, bi (.istore 5) 2 [] 0, bi (.iload_n 1) 1 [] 0, bi (.iload_n 3) 1 [] 0, bi (.iload_n 2) 1 [] 0, bi (.iadd) 1 [] 0, bi (.invokestatic 314) 3 [1] 0, bi (.istore 6) 2 [] 0, bi (.iload_n 3) 1 [] 0, bi (.iconst 1) 1 [] 0, bi (.iadd) 1 [] 0, bi (.istore 7) 2 [] 0]
theorem cX8_fewestHops_5 : chk mX8_fewestHops 5 kX8_fewestHops_5 = true := by decide +kernel
theorem xfew_5 {d : Nat} {σ : SG} {Q : Option AV → SG → Prop} {sd ht lg l3 l4 : Int} (h : (r3 l4 ∧ r3 ht) ∧ (ht < l4 → Q (some (.inl ((-1)))) σ) ∧ (l4 ≤ ht → (0 < d) ∧ (r3 ht ∧ r3 (l3 + lg)) ∧ AW d mX8_fewestHops 28 [some (.inl sd), some (.inl ht), some (.inl lg), some (.inl l3), some (.inl l4), some (.inl l3), some (.inl (if (l3 + lg) < ht then (l3 + lg) else ht)), some (.inl (l3 + 1))] [] σ Q)) : AW d mX8_fewestHops 5 [some (.inl sd), some (.inl ht), some (.inl lg), some (.inl l3), some (.inl l4), none, none, none] [] σ Q := AW.blk kX8_fewestHops_5 cX8_fewestHops_5 (⟨⟨((h).1).1, ((h).1).2⟩, ⟨fun c1 => AW.blk kX8_fewestHops_81 cX8_fewestHops_81 (((h).2).1 c1), fun c1 => ⟨(((h).2).2 c1).1, ⟨⟨(((((h).2).2 c1).2).1).1, (((((h).2).2 c1).2).1).2⟩, ⟨rfl, ((((h).2).2 c1).2).2⟩⟩⟩⟩⟩)
def kX8_fewestHops_72 : List BI := [bi (.iload 5) 2 [] 0, bi (.istore_n 3) 1 [] 0, bi (.iinc 4 (1)) 3 [] 0, bi (.goto (-73)) 3 [5] 0]
theorem cX8_fewestHops_72 : chk mX8_fewestHops 72 kX8_fewestHops_72 = true := by decide +kernel
def kX8_fewestHops_63 : List BI := [bi (.iload 5) 2 [] 0, bi (.iload_n 1) 1 [] 0, bi (.if_icmp .ne (6)) 3 [72] 0, bi (.iload 4) 2 [] 0, bi (.ireturn) 1 [] 0]
theorem cX8_fewestHops_63 : chk mX8_fewestHops 63 kX8_fewestHops_63 = true := by decide +kernel
def kX8_fewestHops_55 : List BI := [bi (.iload 5) 2 [] 0, bi (.iload_n 3) 1 [] 0, bi (.if_icmp .ne (5)) 3 [63] 0, bi (.iconst (-1)) 1 [] 0, bi (.ireturn) 1 [] 0]
theorem cX8_fewestHops_55 : chk mX8_fewestHops 55 kX8_fewestHops_55 = true := by decide +kernel
def kX8_fewestHops_49 : List BI := [bi (.iinc 7 (1)) 3 [] 0, bi (.goto (-24)) 3 [28] 0]
theorem cX8_fewestHops_49 : chk mX8_fewestHops 49 kX8_fewestHops_49 = true := by decide +kernel
def kX8_fewestHops_28 : List BI := [bi (.iload 7) 2 [] 0, bi (.iload 6) 2 [] 0, bi (.if_icmp .gt (23)) 3 [55] 0, bi (.iload_n 0) 1 [] 0, bi (.iload 7) 2 [] 0, bi (.invokestatic 178) 3 [mX8_bit, 1, 1] 0, bi (.iand) 1 [] 0, bi (.ifCond .eq (7)) 3 [49] 0, bi (.iload 7) 2 [] 0, bi (.istore 5) 2 [] 0, bi (.iinc 7 (1)) 3 [] 0, bi (.goto (-24)) 3 [28] 0]
theorem cX8_fewestHops_28 : chk mX8_fewestHops 28 kX8_fewestHops_28 = true := by decide +kernel
theorem xfew_28 {d : Nat} {σ : SG} {Q : Option AV → SG → Prop} {sd ht lg l3 l4 l5 l6 l7 : Int} (h : (r3 l7 ∧ r3 l6) ∧ (l6 < l7 → (r3 l5 ∧ r3 l3) ∧ (l5 ≠ l3 → (r3 l5 ∧ r3 ht) ∧ (l5 ≠ ht → AW d mX8_fewestHops 5 [some (.inl sd), some (.inl ht), some (.inl lg), some (.inl l5), some (.inl (l4 + 1)), none, none, none] [] σ Q) ∧ (l5 = ht → Q (some (.inl l4)) σ)) ∧ (l5 = l3 → Q (some (.inl ((-1)))) σ)) ∧ (l7 ≤ l6 → (0 < d) ∧ (0 ≤ (l7 - 1) ∧ (l7 - 1) < 32) ∧ (r3 (band sd (1 * 2 ^ Int.toNat (l7 - 1)))) ∧ ((band sd (1 * 2 ^ Int.toNat (l7 - 1))) = 0 → AW d mX8_fewestHops 28 [some (.inl sd), some (.inl ht), some (.inl lg), some (.inl l3), some (.inl l4), some (.inl l5), some (.inl l6), some (.inl (l7 + 1))] [] σ Q) ∧ ((band sd (1 * 2 ^ Int.toNat (l7 - 1))) ≠ 0 → AW d mX8_fewestHops 28 [some (.inl sd), some (.inl ht), some (.inl lg), some (.inl l3), some (.inl l4), some (.inl l7), some (.inl l6), some (.inl (l7 + 1))] [] σ Q))) : AW d mX8_fewestHops 28 [some (.inl sd), some (.inl ht), some (.inl lg), some (.inl l3), some (.inl l4), some (.inl l5), some (.inl l6), some (.inl l7)] [] σ Q := AW.blk kX8_fewestHops_28 cX8_fewestHops_28 (⟨⟨((h).1).1, ((h).1).2⟩, ⟨fun c5 => AW.blk kX8_fewestHops_55 cX8_fewestHops_55 (⟨⟨((((h).2).1 c5).1).1, ((((h).2).1 c5).1).2⟩, ⟨fun c3 => AW.blk kX8_fewestHops_63 cX8_fewestHops_63 (⟨⟨((((((h).2).1 c5).2).1 c3).1).1, ((((((h).2).1 c5).2).1 c3).1).2⟩, ⟨fun c2 => AW.blk kX8_fewestHops_72 cX8_fewestHops_72 (AW.drop 5 (AW.drop 6 (AW.drop 7 (((((((h).2).1 c5).2).1 c3).2).1 c2)))), fun c2 => ((((((h).2).1 c5).2).1 c3).2).2 c2⟩⟩), fun c3 => ((((h).2).1 c5).2).2 c3⟩⟩), fun c5 => ⟨(((h).2).2 c5).1, AW.blk kX8_bit_0 cX8_bit_0 (⟨⟨(((((h).2).2 c5).2).1).1, (((((h).2).2 c5).2).1).2⟩, ⟨(((((h).2).2 c5).2).2).1, ⟨fun c4 => AW.blk kX8_fewestHops_49 cX8_fewestHops_49 (((((((h).2).2 c5).2).2).2).1 c4), fun c4 => ((((((h).2).2 c5).2).2).2).2 c4⟩⟩⟩)⟩⟩⟩)
def kX9_hops_10 : List BI := [bi (.aload_n 0) 1 [] 0, bi (.getfield 79) 3 [9, 31] 0, bi (.bipush (24)) 2 [] 0, bi (.iconst 3) 1 [] 0, bi (.iload_n 1) 1 [] 0, bi (.imul) 1 [] 0, bi (.iadd) 1 [] 0, bi (.iaload) 1 [] 0, bi (.istore_n 2) 1 [] 0, bi (.aload_n 0) 1 [] 0, bi (.getfield 79) 3 [9, 31] 0, bi (.bipush (24)) 2 [] 0, bi (.iconst 3) 1 [] 0, bi (.iload_n 1) 1 [] 0, bi (.imul) 1 [] 0, bi (.iadd) 1 [] 0, bi (.iconst 1) 1 [] 0, bi (.iadd) 1 [] 0, bi (.iaload) 1 [] 0, bi (.istore_n 3) 1 [] 0, bi (.aload_n 0) 1 [] 0, bi (.iload_n 2) 1 [] 0, bi (.invokevirtual 350) 3 [mX9_standSet, 2, 2, 9] 0, bi (.istore 4) 2 [] 0, bi (.aload_n 0) 1 [] 0, bi (.getfield 97) 3 [9, 38] 0, bi (.iconst 0) 1 [] 0, bi (.iconst 0) 1 [] 0, bi (.iastore) 1 [] 0, bi (.iconst 1) 1 [] 0, bi (.istore 5) 2 [] 0]
theorem cX9_hops_10 : chk mX9_hops 10 kX9_hops_10 = true := by decide +kernel
def kX9_hops_0 : List BI := [bi (.aload_n 0) 1 [] 0, bi (.iload_n 1) 1 [] 0, bi (.invokevirtual 403) 3 [mX9_isGuard, 2, 2, 9] 0, bi (.ifCond .ne (5)) 3 [10] 0, bi (.iconst (-1)) 1 [] 0, bi (.ireturn) 1 [] 0]
theorem cX9_hops_0 : chk mX9_hops 0 kX9_hops_0 = true := by decide +kernel
theorem mhops_0 {d : Nat} {σ : SG} {Q : Option AV → SG → Prop} {g : Int} (h : (0 < d) ∧ (r3 g) ∧ (0 < d - 1) ∧ (r3 ((σ 61 5) - 1)) ∧ (0 < d - 1) ∧ (r6 g) ∧ (g < 0 → Q (some (.inl ((-1)))) σ) ∧ (0 ≤ g → (r6 g ∧ r6 ((σ 61 5) - 1)) ∧ (((σ 61 5) - 1) < g → Q (some (.inl ((-1)))) σ) ∧ (g ≤ ((σ 61 5) - 1) → (0 ≤ (24 + (3 * g)) ∧ (24 + (3 * g)) < 48) ∧ (0 ≤ ((24 + (3 * g)) + 1) ∧ ((24 + (3 * g)) + 1) < 48) ∧ (0 < d) ∧ (0 < d - 1) ∧ (mhwO (d - 1 - 1) σ (σ 64 (24 + (3 * g))) 0) ∧ (0 < d - 1) ∧ (2 ≤ d - 1 - 1 ∧ MLR (σ 69) ∧ r3 (σ 64 (24 + (3 * g)))) ∧ (∀ S6 : SG, S6 = up σ 70 0 0 → AW d mX9_hops 53 [some (.inr (.inr 42)), none, some (.inl (σ 64 (24 + (3 * g)))), some (.inl (σ 64 ((24 + (3 * g)) + 1))), some (.inl (bor (foI (hwB (σ 69) (σ 64 (24 + (3 * g))) 0) 0 (σ 63 (8 + 2 * (σ 64 (24 + (3 * g)))))) (foI (fsB (σ 69) (σ 64 (24 + (3 * g)))) 0 (σ 69 1)))), some (.inl 1), none] [] S6 Q)))) : AW d mX9_hops 0 [some (.inr (.inr 42)), some (.inl g), none, none, none, none, none] [] σ Q := AW.blk kX9_hops_0 cX9_hops_0 (⟨(h).1, AW.blk kX9_isGuard_0 cX9_isGuard_0 (⟨((h).2).1, ⟨(((h).2).2).1, AW.blk kX9_guardMany_0 cX9_guardMany_0 (⟨⟨(by decide), (by decide)⟩, ⟨((((h).2).2).2).1, ⟨(((((h).2).2).2).2).1, AW.blk kX9_isIn_0 cX9_isIn_0 (⟨⟨((((((h).2).2).2).2).2).1, (by decide)⟩, ⟨fun c8 => AW.blk kX9_isIn_17 cX9_isIn_17 (⟨(by decide), ⟨(by decide), ⟨(by decide), ⟨fun c => absurd c (by decide), fun _ => (((((((h).2).2).2).2).2).2).1 c8⟩⟩⟩⟩), fun c8 => ⟨⟨(((((((((h).2).2).2).2).2).2).2 c8).1).1, (((((((((h).2).2).2).2).2).2).2 c8).1).2⟩, ⟨fun c7 => AW.blk kX9_isIn_17 cX9_isIn_17 (⟨(by decide), ⟨(by decide), ⟨(by decide), ⟨fun c => absurd c (by decide), fun _ => (((((((((h).2).2).2).2).2).2).2 c8).2).1 c7⟩⟩⟩⟩), fun c7 => AW.blk kX9_isIn_18 cX9_isIn_18 (⟨(by decide), ⟨(by decide), ⟨(by decide), ⟨fun _ => AW.blk kX9_hops_10 cX9_hops_10 (⟨⟨(((((((((((h).2).2).2).2).2).2).2 c8).2).2 c7).1).1, (((((((((((h).2).2).2).2).2).2).2 c8).2).2 c7).1).2⟩, ⟨⟨((((((((((((h).2).2).2).2).2).2).2 c8).2).2 c7).2).1).1, ((((((((((((h).2).2).2).2).2).2).2 c8).2).2 c7).2).1).2⟩, ⟨((((((((((((h).2).2).2).2).2).2).2 c8).2).2 c7).2).2).1, AW.blk kX9_standSet_0 cX9_standSet_0 (⟨(((((((((((((h).2).2).2).2).2).2).2 c8).2).2 c7).2).2).2).1, mhow2_ok ⟨((((((((((((((h).2).2).2).2).2).2).2 c8).2).2 c7).2).2).2).2).1, ⟨(((((((((((((((h).2).2).2).2).2).2).2 c8).2).2 c7).2).2).2).2).2).1, mfilledSet_ok ⟨((((((((((((((((h).2).2).2).2).2).2).2 c8).2).2 c7).2).2).2).2).2).2).1, ⟨⟨(by decide), (by decide)⟩, AW.drop 1 ((((((((((((((((((h).2).2).2).2).2).2).2 c8).2).2 c7).2).2).2).2).2).2).2) _ rfl)⟩⟩⟩⟩⟩)⟩⟩⟩), fun c => absurd c (by decide)⟩⟩⟩⟩)⟩⟩⟩⟩)⟩⟩⟩)⟩⟩)⟩)
def kX9_hops_172 : List BI := [bi (.aload_n 0) 1 [] 0, bi (.getfield 97) 3 [9, 38] 0, bi (.aload_n 0) 1 [] 0, bi (.iload_n 2) 1 [] 0, bi (.invokevirtual 328) 3 [mX9_stepsOf, 2, 2, 9] 0, bi (.iaload) 1 [] 0, bi (.ireturn) 1 [] 0]
theorem cX9_hops_172 : chk mX9_hops 172 kX9_hops_172 = true := by decide +kernel
def kX9_hops_53 : List BI := [bi (.iload 5) 2 [] 0, bi (.aload_n 0) 1 [] 0, bi (.iload_n 2) 1 [] 0, bi (.invokevirtual 328) 3 [mX9_stepsOf, 2, 2, 9] 0, bi (.if_icmp .gt (112)) 3 [172] 0, bi (.aload_n 0) 1 [] 0, bi (.getfield 97) 3 [9, 38] 0, bi (.iload 5) 2 [] 0, bi (.iconst (-1)) 1 [] 0, bi (.iastore) 1 [] 0, bi (.iconst 0) 1 [] 0, bi (.istore 6) 2 [] 0]
theorem cX9_hops_53 : chk mX9_hops 53 kX9_hops_53 = true := by decide +kernel
theorem mhops_53 {d : Nat} {σ : SG} {Q : Option AV → SG → Prop} {l2 l3 l4 l5 : Int} (h : (0 < d) ∧ (0 ≤ (8 + (2 * l2)) ∧ (8 + (2 * l2)) < 16) ∧ (r3 l5 ∧ r3 (σ 63 (8 + (2 * l2)))) ∧ ((σ 63 (8 + (2 * l2))) < l5 → (0 < d) ∧ (0 ≤ (8 + (2 * l2)) ∧ (8 + (2 * l2)) < 16) ∧ (0 ≤ (σ 63 (8 + (2 * l2))) ∧ (σ 63 (8 + (2 * l2))) < 30) ∧ Q (some (.inl (σ 70 (σ 63 (8 + (2 * l2)))))) σ) ∧ (l5 ≤ (σ 63 (8 + (2 * l2))) → (0 ≤ l5 ∧ l5 < 30) ∧ (∀ S9 : SG, S9 = up σ 70 l5 (-1) → AW d mX9_hops 74 [some (.inr (.inr 42)), none, some (.inl l2), some (.inl l3), some (.inl l4), some (.inl l5), some (.inl 0)] [] S9 Q))) : AW d mX9_hops 53 [some (.inr (.inr 42)), none, some (.inl l2), some (.inl l3), some (.inl l4), some (.inl l5), none] [] σ Q := AW.blk kX9_hops_53 cX9_hops_53 (⟨(h).1, AW.blk kX9_stepsOf_0 cX9_stepsOf_0 (⟨⟨(((h).2).1).1, (((h).2).1).2⟩, ⟨⟨((((h).2).2).1).1, ((((h).2).2).1).2⟩, ⟨fun c10 => AW.blk kX9_hops_172 cX9_hops_172 (⟨(((((h).2).2).2).1 c10).1, AW.blk kX9_stepsOf_0 cX9_stepsOf_0 (⟨⟨(((((((h).2).2).2).1 c10).2).1).1, (((((((h).2).2).2).1 c10).2).1).2⟩, ⟨⟨((((((((h).2).2).2).1 c10).2).2).1).1, ((((((((h).2).2).2).1 c10).2).2).1).2⟩, (((((((h).2).2).2).1 c10).2).2).2⟩⟩)⟩), fun c10 => ⟨⟨((((((h).2).2).2).2 c10).1).1, ((((((h).2).2).2).2 c10).1).2⟩, ((((((h).2).2).2).2 c10).2) _ rfl⟩⟩⟩⟩)⟩)
def kX9_hops_166 : List BI := [bi (.iinc 5 (1)) 3 [] 0, bi (.goto (-116)) 3 [53] 0]
theorem cX9_hops_166 : chk mX9_hops 166 kX9_hops_166 = true := by decide +kernel
def kX9_hops_160 : List BI := [bi (.iinc 6 (1)) 3 [] 0, bi (.goto (-89)) 3 [74] 0]
theorem cX9_hops_160 : chk mX9_hops 160 kX9_hops_160 = true := by decide +kernel
def kX9_hops_144 : List BI := [bi (.aload_n 0) 1 [] 0, bi (.getfield 97) 3 [9, 38] 0, bi (.iload 5) 2 [] 0, bi (.aload_n 0) 1 [] 0, bi (.getfield 97) 3 [9, 38] 0, bi (.iload 6) 2 [] 0, bi (.iaload) 1 [] 0, bi (.iconst 1) 1 [] 0, bi (.iadd) 1 [] 0, bi (.iastore) 1 [] 0, bi (.iinc 6 (1)) 3 [] 0, bi (.goto (-89)) 3 [74] 0]
theorem cX9_hops_144 : chk mX9_hops 144 kX9_hops_144 = true := by decide +kernel
def kX9_hops_74 : List BI := [bi (.iload 6) 2 [] 0, bi (.iload 5) 2 [] 0, bi (.if_icmp .ge (88)) 3 [166] 0, bi (.iload 4) 2 [] 0, bi (.iload 5) 2 [] 0, bi (.iconst 1) 1 [] 0, bi (.isub) 1 [] 0, bi (.ishr) 1 [] 0, bi (.iconst 1) 1 [] 0, bi (.iand) 1 [] 0, bi (.iconst 1) 1 [] 0, bi (.if_icmp .ne (75)) 3 [166] 0, bi (.iload 5) 2 [] 0, bi (.iload 6) 2 [] 0, bi (.isub) 1 [] 0, bi (.iload_n 3) 1 [] 0, bi (.if_icmp .gt (60)) 3 [160] 0, bi (.aload_n 0) 1 [] 0, bi (.getfield 97) 3 [9, 38] 0, bi (.iload 6) 2 [] 0, bi (.iaload) 1 [] 0, bi (.iconst (-1)) 1 [] 0, bi (.if_icmp .eq (49)) 3 [160] 0, bi (.aload_n 0) 1 [] 0, bi (.getfield 97) 3 [9, 38] 0, bi (.iload 5) 2 [] 0, bi (.iaload) 1 [] 0, bi (.iconst (-1)) 1 [] 0, bi (.if_icmp .eq (22)) 3 [144] 0, bi (.aload_n 0) 1 [] 0, bi (.getfield 97) 3 [9, 38] 0, bi (.iload 6) 2 [] 0, bi (.iaload) 1 [] 0, bi (.iconst 1) 1 [] 0, bi (.iadd) 1 [] 0, bi (.aload_n 0) 1 [] 0, bi (.getfield 97) 3 [9, 38] 0, bi (.iload 5) 2 [] 0, bi (.iaload) 1 [] 0, bi (.if_icmp .ge (19)) 3 [160] 0, bi (.aload_n 0) 1 [] 0, bi (.getfield 97) 3 [9, 38] 0, bi (.iload 5) 2 [] 0, bi (.aload_n 0) 1 [] 0, bi (.getfield 97) 3 [9, 38] 0, bi (.iload 6) 2 [] 0, bi (.iaload) 1 [] 0, bi (.iconst 1) 1 [] 0, bi (.iadd) 1 [] 0, bi (.iastore) 1 [] 0, bi (.iinc 6 (1)) 3 [] 0, bi (.goto (-89)) 3 [74] 0]
theorem cX9_hops_74 : chk mX9_hops 74 kX9_hops_74 = true := by decide +kernel
theorem mhops_74 {d : Nat} {σ : SG} {Q : Option AV → SG → Prop} {l2 l3 l4 l5 l6 : Int} (h : (r3 l6 ∧ r3 l5) ∧ (l5 ≤ l6 → AW d mX9_hops 53 [some (.inr (.inr 42)), none, some (.inl l2), some (.inl l3), some (.inl l4), some (.inl (l5 + 1)), none] [] σ Q) ∧ (l6 < l5 → (0 ≤ (l5 - 1) ∧ (l5 - 1) < 32 ∧ r3 l4) ∧ (r3 (band (l4 / 2 ^ Int.toNat (l5 - 1)) 1)) ∧ ((band (l4 / 2 ^ Int.toNat (l5 - 1)) 1) ≠ 1 → AW d mX9_hops 53 [some (.inr (.inr 42)), none, some (.inl l2), some (.inl l3), some (.inl l4), some (.inl (l5 + 1)), none] [] σ Q) ∧ ((band (l4 / 2 ^ Int.toNat (l5 - 1)) 1) = 1 → (r3 (l5 - l6) ∧ r3 l3) ∧ (l3 < (l5 - l6) → AW d mX9_hops 74 [some (.inr (.inr 42)), none, some (.inl l2), some (.inl l3), some (.inl l4), some (.inl l5), some (.inl (l6 + 1))] [] σ Q) ∧ ((l5 - l6) ≤ l3 → (0 ≤ l6 ∧ l6 < 30) ∧ (r3 (σ 70 l6)) ∧ ((σ 70 l6) = (-1) → AW d mX9_hops 74 [some (.inr (.inr 42)), none, some (.inl l2), some (.inl l3), some (.inl l4), some (.inl l5), some (.inl (l6 + 1))] [] σ Q) ∧ ((σ 70 l6) ≠ (-1) → (0 ≤ l5 ∧ l5 < 30) ∧ (r3 (σ 70 l5)) ∧ ((σ 70 l5) = (-1) → (0 ≤ l6 ∧ l6 < 30) ∧ (0 ≤ l5 ∧ l5 < 30) ∧ (∀ S11 : SG, S11 = up σ 70 l5 ((σ 70 l6) + 1) → AW d mX9_hops 74 [some (.inr (.inr 42)), none, some (.inl l2), some (.inl l3), some (.inl l4), some (.inl l5), some (.inl (l6 + 1))] [] S11 Q)) ∧ ((σ 70 l5) ≠ (-1) → (0 ≤ l6 ∧ l6 < 30) ∧ (0 ≤ l5 ∧ l5 < 30) ∧ (r3 ((σ 70 l6) + 1) ∧ r3 (σ 70 l5)) ∧ ((σ 70 l5) ≤ ((σ 70 l6) + 1) → AW d mX9_hops 74 [some (.inr (.inr 42)), none, some (.inl l2), some (.inl l3), some (.inl l4), some (.inl l5), some (.inl (l6 + 1))] [] σ Q) ∧ (((σ 70 l6) + 1) < (σ 70 l5) → (0 ≤ l6 ∧ l6 < 30) ∧ (0 ≤ l5 ∧ l5 < 30) ∧ (∀ S12 : SG, S12 = up σ 70 l5 ((σ 70 l6) + 1) → AW d mX9_hops 74 [some (.inr (.inr 42)), none, some (.inl l2), some (.inl l3), some (.inl l4), some (.inl l5), some (.inl (l6 + 1))] [] S12 Q)))))))) : AW d mX9_hops 74 [some (.inr (.inr 42)), none, some (.inl l2), some (.inl l3), some (.inl l4), some (.inl l5), some (.inl l6)] [] σ Q := AW.blk kX9_hops_74 cX9_hops_74 (⟨⟨((h).1).1, ((h).1).2⟩, ⟨fun c18 => AW.blk kX9_hops_166 cX9_hops_166 (AW.drop 6 (((h).2).1 c18)), fun c18 => ⟨⟨((((h).2).2 c18).1).1, (((((h).2).2 c18).1).2).1, (((((h).2).2 c18).1).2).2⟩, ⟨⟨((((h).2).2 c18).2).1, (by decide)⟩, ⟨fun c17 => AW.blk kX9_hops_166 cX9_hops_166 (AW.drop 6 ((((((h).2).2 c18).2).2).1 c17)), fun c17 => ⟨⟨(((((((h).2).2 c18).2).2).2 c17).1).1, (((((((h).2).2 c18).2).2).2 c17).1).2⟩, ⟨fun c16 => AW.blk kX9_hops_160 cX9_hops_160 ((((((((h).2).2 c18).2).2).2 c17).2).1 c16), fun c16 => ⟨⟨(((((((((h).2).2 c18).2).2).2 c17).2).2 c16).1).1, (((((((((h).2).2 c18).2).2).2 c17).2).2 c16).1).2⟩, ⟨⟨(((((((((h).2).2 c18).2).2).2 c17).2).2 c16).2).1, (by decide)⟩, ⟨fun c15 => AW.blk kX9_hops_160 cX9_hops_160 (((((((((((h).2).2 c18).2).2).2 c17).2).2 c16).2).2).1 c15), fun c15 => ⟨⟨((((((((((((h).2).2 c18).2).2).2 c17).2).2 c16).2).2).2 c15).1).1, ((((((((((((h).2).2 c18).2).2).2 c17).2).2 c16).2).2).2 c15).1).2⟩, ⟨⟨((((((((((((h).2).2 c18).2).2).2 c17).2).2 c16).2).2).2 c15).2).1, (by decide)⟩, ⟨fun c14 => AW.blk kX9_hops_144 cX9_hops_144 (⟨⟨(((((((((((((((h).2).2 c18).2).2).2 c17).2).2 c16).2).2).2 c15).2).2).1 c14).1).1, (((((((((((((((h).2).2 c18).2).2).2 c17).2).2 c16).2).2).2 c15).2).2).1 c14).1).2⟩, ⟨⟨((((((((((((((((h).2).2 c18).2).2).2 c17).2).2 c16).2).2).2 c15).2).2).1 c14).2).1).1, ((((((((((((((((h).2).2 c18).2).2).2 c17).2).2 c16).2).2).2 c15).2).2).1 c14).2).1).2⟩, ((((((((((((((((h).2).2 c18).2).2).2 c17).2).2 c16).2).2).2 c15).2).2).1 c14).2).2) _ rfl⟩⟩), fun c14 => ⟨⟨(((((((((((((((h).2).2 c18).2).2).2 c17).2).2 c16).2).2).2 c15).2).2).2 c14).1).1, (((((((((((((((h).2).2 c18).2).2).2 c17).2).2 c16).2).2).2 c15).2).2).2 c14).1).2⟩, ⟨⟨((((((((((((((((h).2).2 c18).2).2).2 c17).2).2 c16).2).2).2 c15).2).2).2 c14).2).1).1, ((((((((((((((((h).2).2 c18).2).2).2 c17).2).2 c16).2).2).2 c15).2).2).2 c14).2).1).2⟩, ⟨⟨(((((((((((((((((h).2).2 c18).2).2).2 c17).2).2 c16).2).2).2 c15).2).2).2 c14).2).2).1).1, (((((((((((((((((h).2).2 c18).2).2).2 c17).2).2 c16).2).2).2 c15).2).2).2 c14).2).2).1).2⟩, ⟨fun c13 => AW.blk kX9_hops_160 cX9_hops_160 ((((((((((((((((((h).2).2 c18).2).2).2 c17).2).2 c16).2).2).2 c15).2).2).2 c14).2).2).2).1 c13), fun c13 => ⟨⟨(((((((((((((((((((h).2).2 c18).2).2).2 c17).2).2 c16).2).2).2 c15).2).2).2 c14).2).2).2).2 c13).1).1, (((((((((((((((((((h).2).2 c18).2).2).2 c17).2).2 c16).2).2).2 c15).2).2).2 c14).2).2).2).2 c13).1).2⟩, ⟨⟨((((((((((((((((((((h).2).2 c18).2).2).2 c17).2).2 c16).2).2).2 c15).2).2).2 c14).2).2).2).2 c13).2).1).1, ((((((((((((((((((((h).2).2 c18).2).2).2 c17).2).2 c16).2).2).2 c15).2).2).2 c14).2).2).2).2 c13).2).1).2⟩, ((((((((((((((((((((h).2).2 c18).2).2).2 c17).2).2 c16).2).2).2 c15).2).2).2 c14).2).2).2).2 c13).2).2) _ rfl⟩⟩⟩⟩⟩⟩⟩⟩⟩⟩⟩⟩⟩⟩⟩⟩⟩⟩⟩)
/-! the fewest hops -/
def hpP (sd : Int) : Int → Int := fun s => if tb sd (s - 1).toNat = true then 1 else -1
theorem hpP_r (sd s : Int) : hpP sd s = 1 ∨ hpP sd s = -1 := by
  unfold hpP
  split
  · exact Or.inl rfl
  · exact Or.inr rfl
abbrev fhO (d : Nat) (sd ht lg : Int) : Prop := 1 ≤ d ∧ 0 ≤ sd ∧ sd < 16384 ∧ 1 ≤ ht ∧ ht ≤ 14 ∧ 1 ≤ lg ∧ lg ≤ 6
theorem fewestHops_ok {d : Nat} {σ : SG} {Q : Option AV → SG → Prop} {sd ht lg : Int} (h : fhO d sd ht lg ∧ Q (some (.inl (dpV (hpP sd) lg ht ht))) σ) : AW d mX8_fewestHops 0 [some (.inl sd), some (.inl ht), some (.inl lg), none, none, none, none, none] [] σ Q := by
  obtain ⟨⟨hd, s0, s1, h0, h1, l0, l1⟩, hq⟩ := h
  have hP : ∀ s, 1 ≤ s → s ≤ ht → -1 ≤ hpP sd s := fun s _ _ => by have := hpP_r sd s; omega
  have ch := fun (s : Int) (a : 1 ≤ s) (b : s ≤ ht) => dp_char (P := hpP sd) (lg := lg) (ht := ht) (s := s) (by omega) hP a b
  have hS : ∀ s, sdS sd s = true ↔ hpP sd s = 1 := by
    intro s
    unfold sdS hpP
    constructor
    · intro z
      rw [if_pos z]
    · intro z
      by_cases c : tb sd (s - 1).toNat = true
      · exact c
      · rw [if_neg c] at z
        cases z
  have d0 := dp_0 (P := hpP sd) (lg := lg) (ht := ht) (by omega)
  generalize hD : dpV (hpP sd) lg ht = D at *
  have key : ∀ n : Nat, ∀ a k, (ht - a).toNat ≤ n → 0 ≤ a → a < ht → 0 ≤ k → k ≤ a → D a = k → (∀ s, a < s → s ≤ ht → D s = -1 ∨ k < D s) → AW d mX8_fewestHops 5 [some (.inl sd), some (.inl ht), some (.inl lg), some (.inl a), some (.inl (k + 1)), none, none, none] [] σ Q := by
    intro n
    induction n with
    | zero => intro a k hn a0 a1; omega
    | succ n ih =>
      intro a k hn a0 a1 k0 k1 hDa hI
      refine xfew_5 ⟨by omega, fun c => by omega, fun _ => ⟨by omega, by omega, ?_⟩⟩
      generalize hM : (if a + lg < ht then a + lg else ht) = M
      have hMr : a ≤ M ∧ M ≤ ht ∧ M ≤ a + lg ∧ (M = ht ∨ M = a + lg) := by
        rw [← hM]
        split <;> omega
      obtain ⟨b1, b2, b3, b4⟩ := lnd_in (sdS sd) a (M - a).toNat
      have em : a + (((M - a).toNat : Nat) : Int) = M := by omega
      rw [em] at b2 b4
      -- the inner loop
      have inner : AW d mX8_fewestHops 28 [some (.inl sd), some (.inl ht), some (.inl lg), some (.inl a), some (.inl (k + 1)), some (.inl (lnd (sdS sd) a (M - a).toNat)), some (.inl M), some (.inl (a + (((M - a).toNat : Nat) : Int) + 1))] [] σ Q → AW d mX8_fewestHops 28 [some (.inl sd), some (.inl ht), some (.inl lg), some (.inl a), some (.inl (k + 1)), some (.inl a), some (.inl M), some (.inl (a + 1))] [] σ Q := by
        intro hend
        have kk := downInd (P := fun j => AW d mX8_fewestHops 28 [some (.inl sd), some (.inl ht), some (.inl lg), some (.inl a), some (.inl (k + 1)), some (.inl (lnd (sdS sd) a j.toNat)), some (.inl M), some (.inl (a + ((j.toNat : Nat) : Int) + 1))] [] σ Q) (lo := 0) (hi := M - a) (by omega) hend ?_
        · change AW d mX8_fewestHops 28 [some (.inl sd), some (.inl ht), some (.inl lg), some (.inl a), some (.inl (k + 1)), some (.inl a), some (.inl M), some (.inl (a + ((0 : Nat) : Int) + 1))] [] σ Q at kk
          rwa [show a + ((0 : Nat) : Int) + 1 = a + 1 by omega] at kk
        · intro j j0 j1 jh
          rw [nat_toNat_succ j0] at jh
          have lr := lnd_in (sdS sd) a j.toNat
          have hb := band_pow0 (x := sd) (k := (a + ((j.toNat : Nat) : Int) + 1 - 1).toNat) (by omega)
          have e1 : a + ((j.toNat + 1 : Nat) : Int) + 1 = a + ((j.toNat : Nat) : Int) + 1 + 1 := by omega
          rw [e1] at jh
          have el : lnd (sdS sd) a (j.toNat + 1) = if sdS sd (a + ((j.toNat : Nat) + 1 : Int)) = true then a + ((j.toNat : Nat) + 1 : Int) else lnd (sdS sd) a j.toNat := rfl
          have ea : a + ((j.toNat : Nat) + 1 : Int) = a + ((j.toNat : Nat) : Int) + 1 := by omega
          rw [el, ea] at jh
          refine xfew_28 ⟨by omega, fun c => by omega, fun _ => ⟨by omega, by omega, band_r3 (by omega) (by omega), fun c => ?_, fun c => ?_⟩⟩
          · have z : ¬ sdS sd (a + ((j.toNat : Nat) : Int) + 1) = true := by
              intro z
              unfold sdS at z
              rw [hb.mp c] at z
              cases z
            rwa [if_neg z] at jh
          · have z : sdS sd (a + ((j.toNat : Nat) : Int) + 1) = true := by
              unfold sdS
              cases hz : tb sd (a + ((j.toNat : Nat) : Int) + 1 - 1).toNat
              · exact absurd (hb.mpr hz) c
              · rfl
            rwa [if_pos z] at jh
      refine inner ?_
      rw [em]
      generalize lnd (sdS sd) a (M - a).toNat = b at *
      -- what the least hops are
      have up1 : ∀ s, a < s → s ≤ M → hpP sd s = 1 → D s = k + 1 := by
        intro s q1 q2 q3
        have c := (ch s (by omega) (by omega)).2.1 (by omega) a a0 q1 (by omega) (by omega)
        have i := hI s q1 (by omega)
        omega
      have far : ∀ s, b < s → s ≤ ht → D s = -1 ∨ k + 1 < D s := by
        intro s q1 q2
        rcases (ch s (by omega) q2).2.2 with c | ⟨c1, f, f0, f1, f2, f3, f4⟩
        · exact Or.inl c
        · right
          have hp := hpP_r sd s
          have hp1 : hpP sd s = 1 := by
            rcases hp with hp | hp
            · exact hp
            · exact absurd hp c1
          by_cases hfa : f ≤ a
          · have hsM : s ≤ M := by omega
            have := b4 s q1 hsM
            have hh := (hS s).mpr hp1
            rw [this] at hh
            cases hh
          · have i := hI f (by omega) (by omega)
            omega
      refine xfew_28 ⟨by omega, fun _ => ⟨by omega, fun c => ⟨by omega, fun c2 => ?_, fun c2 => ?_⟩, fun c => ?_⟩, fun c => by omega⟩
      · have hb : hpP sd b = 1 := (hS b).mp (b3.resolve_left c)
        exact ih b (k + 1) (by omega) (by omega) (by omega) (by omega) (by omega) (up1 b (by omega) (by omega) hb) far
      · have hb : hpP sd b = 1 := (hS b).mp (b3.resolve_left c)
        have := up1 b (by omega) (by omega) hb
        rw [c2] at this
        rw [this] at hq
        exact hq
      · have none : ∀ m : Nat, ∀ s, a < s → s ≤ ht → s ≤ a + m → D s = -1 := by
          intro m
          induction m with
          | zero => intro s q1 q2 q3; omega
          | succ m im =>
            intro s q1 q2 q3
            rcases (ch s (by omega) q2).2.2 with cc | ⟨c1, f, f0, f1, f2, f3, f4⟩
            · exact cc
            · exfalso
              by_cases hfa : f ≤ a
              · have hsM : s ≤ M := by omega
                have hb := b4 s (by omega) hsM
                have hp1 : hpP sd s = 1 := by
                  rcases hpP_r sd s with hp | hp
                  · exact hp
                  · exact absurd hp c1
                have hh := (hS s).mpr hp1
                rw [hb] at hh
                cases hh
              · exact f3 (im f (by omega) (by omega) (by omega))
        rw [none (ht - a).toNat ht (by omega) (Int.le_refl _) (by omega)] at hq
        exact hq
  refine xfew_0 ?_
  refine key ht.toNat 0 0 (by omega) (Int.le_refl _) (by omega) (Int.le_refl _) (Int.le_refl _) d0 (fun s q1 q2 => ?_)
  rcases (ch s (by omega) q2).2.2 with cc | ⟨c1, f, f0, f1, f2, f3, f4⟩
  · exact Or.inl cc
  · right
    have hp := hpP_r sd s
    have nn := dp_nn (P := hpP sd) (lg := lg) (ht := ht) (by omega) hP ht.toNat (by omega) f f0 (by omega)
    rw [hD] at nn
    omega
def kX8_hops_41 : List BI := [bi (.getfield 196) 3 [4, 11] 0, bi (.iload_n 1) 1 [] 0, bi (.iaload) 1 [] 0, bi (.invokestatic 240) 3 [mX8_fewestHops, 3, 8] 0, bi (.ireturn) 1 [] 0]
theorem cX8_hops_41 : chk mX8_hops 41 kX8_hops_41 = true := by decide +kernel
def kX8_hops_32 : List BI := [bi (.getfield 142) 3 [4, 6] 0, bi (.iload_n 2) 1 [] 0, bi (.iaload) 1 [] 0, bi (.aload_n 0) 1 [] 0, bi (.getfield 70) 3 [8, 9] 0]
theorem cX8_hops_32 : chk mX8_hops 32 kX8_hops_32 = true := by decide +kernel
def kX8_hops_14 : List BI := [bi (.getfield 193) 3 [4, 10] 0, bi (.iload_n 1) 1 [] 0, bi (.iaload) 1 [] 0, bi (.istore_n 2) 1 [] 0, bi (.aload_n 0) 1 [] 0, bi (.getfield 42) 3 [8, 4] 0, bi (.iload_n 2) 1 [] 0, bi (.invokevirtual 148) 3 [mX6_standing, 2, 2, 6] 0, bi (.aload_n 0) 1 [] 0, bi (.getfield 70) 3 [8, 9] 0]
theorem cX8_hops_14 : chk mX8_hops 14 kX8_hops_14 = true := by decide +kernel
def kX8_hops_10 : List BI := [bi (.aload_n 0) 1 [] 0, bi (.getfield 70) 3 [8, 9] 0]
theorem cX8_hops_10 : chk mX8_hops 10 kX8_hops_10 = true := by decide +kernel
def kX8_hops_0 : List BI := [bi (.aload_n 0) 1 [] 0, bi (.iload_n 1) 1 [] 0, bi (.invokevirtual 139) 3 [mX8_isGuard, 2, 2, 8] 0, bi (.ifCond .ne (5)) 3 [10] 0, bi (.iconst (-1)) 1 [] 0, bi (.ireturn) 1 [] 0]
theorem cX8_hops_0 : chk mX8_hops 0 kX8_hops_0 = true := by decide +kernel
theorem xhops_0 {d : Nat} {σ : SG} {Q : Option AV → SG → Prop} {g : Int} {r : Nat} (hr : r = 5 ∨ r = 16) (hx : (σ 0 9).toNat = r) (h : (0 < d) ∧ (r3 g) ∧ (g < 0 → Q (some (.inl ((-1)))) σ) ∧ (0 ≤ g → (r3 g ∧ r3 (σ r 1)) ∧ ((σ r 1) ≤ g → Q (some (.inl ((-1)))) σ) ∧ (g < (σ r 1) → (0 ≤ g ∧ g < 8) ∧ (0 < d) ∧ (0 ≤ (6 + (σ (r + 6) g)) ∧ (6 + (σ (r + 6) g)) < 214) ∧ (0 ≤ (18 + (σ (r + 6) g)) ∧ (18 + (σ (r + 6) g)) < 214) ∧ (0 ≤ (σ (r + 6) g) ∧ (σ (r + 6) g) < 4) ∧ (0 ≤ g ∧ g < 8) ∧ (0 < d) ∧ (fhO (d - 1) (bor (σ 35 (6 + (σ (r + 6) g))) (σ 35 (18 + (σ (r + 6) g)))) (σ (r + 2) (σ (r + 6) g)) (σ (r + 7) g)) ∧ Q (some (.inl (dpV (hpP (bor (σ 35 (6 + (σ (r + 6) g))) (σ 35 (18 + (σ (r + 6) g))))) (σ (r + 7) g) (σ (r + 2) (σ (r + 6) g)) (σ (r + 2) (σ (r + 6) g))))) σ))) : AW d mX8_hops 0 [some (.inr (.inr 0)), some (.inl g), none] [] σ Q := by
  rcases hr with rfl | rfl <;> exact AW.blk kX8_hops_0 cX8_hops_0 (⟨(h).1, AW.blk kX8_isGuard_0 cX8_isGuard_0 (⟨((h).2).1, ⟨fun c20 => AW.blk kX8_isGuard_19 cX8_isGuard_19 (⟨(by decide), ⟨(by decide), ⟨fun c => absurd c (by decide), fun _ => (((h).2).2).1 c20⟩⟩⟩), fun c20 => aw_rl hx (AW.blk kX8_isGuard_9 cX8_isGuard_9 (⟨⟨(((((h).2).2).2 c20).1).1, (((((h).2).2).2 c20).1).2⟩, ⟨fun c19 => AW.blk kX8_isGuard_19 cX8_isGuard_19 (⟨(by decide), ⟨(by decide), ⟨fun c => absurd c (by decide), fun _ => (((((h).2).2).2 c20).2).1 c19⟩⟩⟩), fun c19 => AW.blk kX8_isGuard_20 cX8_isGuard_20 (⟨(by decide), ⟨(by decide), ⟨fun _ => AW.blk kX8_hops_10 cX8_hops_10 (aw_rl hx (AW.blk kX8_hops_14 cX8_hops_14 (⟨⟨(((((((h).2).2).2 c20).2).2 c19).1).1, (((((((h).2).2).2 c20).2).2 c19).1).2⟩, ⟨(((((((h).2).2).2 c20).2).2 c19).2).1, AW.blk kX6_standing_0 cX6_standing_0 (⟨⟨(((((((((h).2).2).2 c20).2).2 c19).2).2).1).1, (((((((((h).2).2).2 c20).2).2 c19).2).2).1).2⟩, ⟨⟨((((((((((h).2).2).2 c20).2).2 c19).2).2).2).1).1, ((((((((((h).2).2).2 c20).2).2 c19).2).2).2).1).2⟩, aw_rl hx (AW.blk kX8_hops_32 cX8_hops_32 (⟨⟨(((((((((((h).2).2).2 c20).2).2 c19).2).2).2).2).1).1, (((((((((((h).2).2).2 c20).2).2 c19).2).2).2).2).1).2⟩, aw_rl hx (AW.blk kX8_hops_41 cX8_hops_41 (⟨⟨((((((((((((h).2).2).2 c20).2).2 c19).2).2).2).2).2).1).1, ((((((((((((h).2).2).2 c20).2).2 c19).2).2).2).2).2).1).2⟩, ⟨((((((((((((h).2).2).2 c20).2).2 c19).2).2).2).2).2).2).1, fewestHops_ok ⟨(((((((((((((h).2).2).2 c20).2).2 c19).2).2).2).2).2).2).2).1, (((((((((((((h).2).2).2 c20).2).2 c19).2).2).2).2).2).2).2).2⟩⟩⟩))⟩))⟩⟩)⟩⟩))), fun c => absurd c (by decide)⟩⟩⟩)⟩⟩))⟩⟩)⟩)
/-- the reference's inner loop -/
theorem mhops_in {d : Nat} {σ : SG} {Q : Option AV → SG → Prop} {t lg sd s : Int} {f : Int → Int} (hs : 1 ≤ s ∧ s ≤ 14) (hl : 0 ≤ lg ∧ lg ≤ 100) (hsd : 0 ≤ sd ∧ sd < 16384) (hf : ∀ j, 0 ≤ j → j < s → -1 ≤ f j ∧ f j ≤ j) (hq : AW d mX9_hops 53 [some (.inr (.inr 42)), none, some (.inl t), some (.inl lg), some (.inl sd), some (.inl (s + 1)), none] [] (putF σ 70 (upf f s (foI (muI (hpP sd) f s lg) (-1) s))) Q) : AW d mX9_hops 74 [some (.inr (.inr 42)), none, some (.inl t), some (.inl lg), some (.inl sd), some (.inl s), some (.inl 0)] [] (putF σ 70 (upf f s (-1))) Q := by
  have e := sh1 (x := sd) (k := (s - 1).toNat) hsd.1 (by omega)
  by_cases hb : tb sd (s - 1).toNat = true
  · have hP : hpP sd s = 1 := by unfold hpP; rw [if_pos hb]
    rw [if_pos hb] at e
    have rng : ∀ i, 0 ≤ i → i ≤ s → -1 ≤ foI (muI (hpP sd) f s lg) (-1) i ∧ foI (muI (hpP sd) f s lg) (-1) i ≤ s := by
      have key : ∀ n : Nat, (n : Int) ≤ s → -1 ≤ foI (muI (hpP sd) f s lg) (-1) (n : Int) ∧ foI (muI (hpP sd) f s lg) (-1) (n : Int) ≤ s := by
        intro n
        induction n with
        | zero => intro _; exact ⟨by show (-1 : Int) ≤ -1; decide, by show (-1 : Int) ≤ s; omega⟩
        | succ n ih =>
          intro hn
          have ih := ih (by omega)
          have hj := hf n (by omega) (by omega)
          rw [show ((n + 1 : Nat) : Int) = (n : Int) + 1 by omega, foI_s _ _ (by omega)]
          generalize foI (muI (hpP sd) f s lg) (-1) (n : Int) = v at *
          unfold muI chI
          rw [Int.zero_add, hP]
          split
          · exact ih
          · split
            · exact ih
            · split
              · omega
              · exact ih
      intro i i0 i1
      have := key i.toNat (by omega)
      rwa [show ((i.toNat : Nat) : Int) = i by omega] at this
    refine downInd (P := fun k => AW d mX9_hops 74 [some (.inr (.inr 42)), none, some (.inl t), some (.inl lg), some (.inl sd), some (.inl s), some (.inl k)] [] (putF σ 70 (upf f s (foI (muI (hpP sd) f s lg) (-1) k))) Q) (lo := 0) (hi := s) (by omega) ?_ ?_
    · exact mhops_74 ⟨by omega, fun _ => hq, fun c => by omega⟩
    · intro k k0 k1 ih
      have hr := rng k k0 (by omega)
      have hj := hf k k0 k1
      rw [foI_s _ _ k0] at ih
      generalize foI (muI (hpP sd) f s lg) (-1) k = v at *
      have ek : upf f s v k = f k := upf_ne (by omega)
      unfold muI chI at ih
      rw [Int.zero_add, hP] at ih
      refine mhops_74 ?_
      rw [putF_at, ek, upf_at, e]
      refine ⟨by omega, fun c => by omega, fun _ => ⟨by omega, by decide, fun c => absurd rfl c, fun _ => ⟨by omega, fun c1 => ?_, fun c1 => ⟨by omega, by omega, fun c2 => ?_, fun c2 => ⟨by omega, by omega, fun c4 => ⟨by omega, by omega, fun S e => ?_⟩, fun c4 => ⟨by omega, by omega, by omega, fun c5 => ?_, fun c5 => ⟨by omega, by omega, fun S e => ?_⟩⟩⟩⟩⟩⟩⟩
      · rwa [if_pos c1] at ih
      · rwa [if_neg (by omega), if_pos (Or.inr c2)] at ih
      · rw [if_neg (by omega), if_neg (by omega), if_pos (Or.inl c4)] at ih
        rw [e, putF_upf, upf_upf]
        exact ih
      · rwa [if_neg (by omega), if_neg (by omega), if_neg (by omega)] at ih
      · rw [if_neg (by omega), if_neg (by omega), if_pos (by omega)] at ih
        rw [e, putF_upf, upf_upf]
        exact ih
  · have hP : hpP sd s = -1 := by unfold hpP; rw [if_neg hb]
    rw [if_neg hb] at e
    rw [muI_ch (by omega) hl.1, chI_none hP] at hq
    refine mhops_74 ?_
    rw [e]
    exact ⟨by omega, fun c => by omega, fun _ => ⟨by omega, by decide, fun _ => hq, fun c => by cases c⟩⟩
theorem call_hops {d : Nat} {n : Int} {σ : SG} {r q : Nat} {g : Int} (hd : 100 ≤ d) (h : SIM n σ r q) (hg : r3 g) : AW d mX8_hops 0 [some (.inr (.inr 0)), some (.inl g), none] [] σ (SAME d n r q mX9_hops [some (.inr (.inr 42)), some (.inl g), none, none, none, none, none]) := by
  obtain ⟨hr, _, hx, _⟩ := h.rr
  obtain ⟨hLR, hSR, hML, hMG, hRL, hN, hW⟩ := h.lr
  rcases h.gdo g with ⟨g0, g1, g2, g3, g4⟩ | g0
  · obtain ⟨⟨hh1, hh2, t4⟩, h63, h63c, hMS, em, hrr⟩ := h.tw g1.1 g1.2.1
    refine xhops_0 hr hx ?_
    rw [em]
    refine ⟨by omega, by omega, fun c => by omega, fun _ => ⟨by omega, fun c => by omega, fun _ => ?_⟩⟩
    refine ⟨by omega, by omega, by omega, by omega, by omega, by omega, by omega, ⟨by omega, by omega, by omega, by omega, by omega, by omega, by omega⟩, ?_⟩
    unfold SAME
    refine mhops_0 ?_
    rw [g2, g3]
    refine ⟨by omega, by omega, by omega, by omega, by omega, by omega, fun c => by omega, fun _ => ⟨by omega, fun c => by omega, fun _ => ⟨by omega, by omega, by omega, by omega, ⟨by omega, by omega, by omega, by omega, by omega, by omega, hMS⟩, by omega, ⟨by omega, hML, by omega⟩, fun S1 e1 => ?_⟩⟩⟩
    change AW d mX9_hops 53 [some (.inr (.inr 42)), none, some (.inl (σ (r + 6) g)), some (.inl (σ (r + 7) g)), some (.inl (mstV σ (σ (r + 6) g))), some (.inl 1), none] [] S1 _
    generalize hsd : mstV σ (σ (r + 6) g) = sd at *
    generalize hT : σ (r + 6) g = T at *
    generalize hl : σ (r + 7) g = lg at *
    generalize hht : σ (r + 2) T = ht at *
    rw [up_rw] at e1
    have hP : ∀ s, 1 ≤ s → s ≤ ht → -1 ≤ hpP sd s ∧ hpP sd s ≤ 1 := fun s _ _ => by have := hpP_r sd s; omega
    have key := downInd (P := fun i => AW d mX9_hops 53 [some (.inr (.inr 42)), none, some (.inl T), some (.inl lg), some (.inl sd), some (.inl (i + 1)), none] [] (putF σ 70 (foI (chO (hpP sd) lg) (upf (σ 70) 0 0) i)) (fun v' σ' => v' = some (.inl (dpV (hpP sd) lg ht ht)) ∧ SIM n σ' r q)) (lo := 0) (hi := ht) (by omega) ?_ ?_
    · rw [e1]
      exact key
    · refine mhops_53 ?_
      rw [putF_ne (by decide), h63, putF_at]
      refine ⟨by omega, by omega, by omega, fun _ => ⟨by omega, by omega, by omega, ?_, h.p70 _⟩, fun c => by omega⟩
      have := chO_cong (P := hpP sd) (g := σ 70) (g' := fun _ => 0) (lg := lg) (by omega) (i := ht) (by omega) ht (by omega) (by omega)
      rw [this]
      rfl
    · intro i i0 i1 ih
      have hr2 := chO_r1 (P := hpP sd) (g := σ 70) (lg := lg) (by omega) hP i0 (by omega)
      rw [foI_s _ _ i0] at ih
      generalize foI (chO (hpP sd) lg) (upf (σ 70) 0 0) i = f at ih hr2
      refine mhops_53 ?_
      rw [putF_ne (by decide), h63]
      refine ⟨by omega, by omega, by omega, fun c => by omega, fun _ => ⟨by omega, fun S e => ?_⟩⟩
      rw [e, putF_upf]
      refine mhops_in ⟨by omega, by omega⟩ ⟨by omega, by omega⟩ hrr (fun j a b => hr2 j a (by omega)) ?_
      rw [muI_ch (by omega) (by omega)]
      exact ih
  · have hm : SAME d n r q mX9_hops [some (.inr (.inr 42)), some (.inl g), none, none, none, none, none] (some (.inl (-1))) σ := by
      unfold SAME
      exact mhops_0 ⟨by omega, by omega, by omega, by omega, by omega, by omega, fun c => ⟨rfl, h⟩, fun _ => ⟨by omega, fun c => ⟨rfl, h⟩, fun z => by omega⟩⟩
    exact xhops_0 hr hx ⟨by omega, by omega, fun c => hm, fun _ => ⟨by omega, fun c => hm, fun z => by omega⟩⟩
