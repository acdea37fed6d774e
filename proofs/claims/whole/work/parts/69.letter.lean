/-! ===== letter (wip/whole/gen69.py) ===== -/
def kX9_letter_42 : List BI := [bi (.iconst (-1)) 1 [] 0, bi (.ireturn) 1 [] 0]
theorem cX9_letter_42 : chk mX9_letter 42 kX9_letter_42 = true := by decide +kernel
def kX9_letter_44 : List BI := [bi (.aload_n 0) 1 [] 0, bi (.getfield 72) 3 [9, 29] 0, bi (.bipush (16)) 2 [] 0, bi (.bipush (8)) 2 [] 0, bi (.iload_n 1) 1 [] 0, bi (.imul) 1 [] 0, bi (.iadd) 1 [] 0, bi (.iload_n 2) 1 [] 0, bi (.iadd) 1 [] 0, bi (.laload) 1 [] 0, bi (.lstore 4) 2 [] 0, bi (.iconst 0) 1 [] 0, bi (.istore 6) 2 [] 0, bi (.lload 4) 2 [] 0, bi (.lstore 7) 2 [] 0]
theorem cX9_letter_44 : chk mX9_letter 44 kX9_letter_44 = true := by decide +kernel
def kX9_letter_0 : List BI := [bi (.iload_n 1) 1 [] 0, bi (.i2l) 1 [] 0, bi (.lconst 0) 1 [] 0, bi (.lconst 1) 1 [] 0, bi (.invokestatic 233) 3 [mX9_isIn, 3, 6] 0, bi (.ifCond .eq (35)) 3 [42] 0, bi (.iload_n 2) 1 [] 0, bi (.i2l) 1 [] 0, bi (.lconst 0) 1 [] 0, bi (.aload_n 0) 1 [] 0, bi (.getfield 69) 3 [9, 28] 0, bi (.iconst 4) 1 [] 0, bi (.iload_n 1) 1 [] 0, bi (.iadd) 1 [] 0, bi (.iaload) 1 [] 0, bi (.iconst 1) 1 [] 0, bi (.isub) 1 [] 0, bi (.i2l) 1 [] 0, bi (.invokestatic 233) 3 [mX9_isIn, 3, 6] 0, bi (.ifCond .eq (15)) 3 [42] 0, bi (.iload_n 3) 1 [] 0, bi (.i2l) 1 [] 0, bi (.lconst 0) 1 [] 0, bi (.ldc2_w 380) 3 [] 5, bi (.invokestatic 233) 3 [mX9_isIn, 3, 6] 0, bi (.ifCond .ne (5)) 3 [44] 0, bi (.iconst (-1)) 1 [] 0, bi (.ireturn) 1 [] 0]
theorem cX9_letter_0 : chk mX9_letter 0 kX9_letter_0 = true := by decide +kernel
theorem mletter_0 {d : Nat} {σ : SG} {Q : Option AV → SG → Prop} {kd w k : Int} (h : (r3 kd) ∧ (0 < d) ∧ (r6 kd) ∧ (kd < 0 → Q (some (.inl ((-1)))) σ) ∧ (0 ≤ kd → (r6 kd) ∧ (1 < kd → Q (some (.inl ((-1)))) σ) ∧ (kd ≤ 1 → (r3 w) ∧ (0 ≤ (4 + kd) ∧ (4 + kd) < 8) ∧ (r3 ((σ 61 (4 + kd)) - 1)) ∧ (0 < d) ∧ (r6 w) ∧ (w < 0 → Q (some (.inl ((-1)))) σ) ∧ (0 ≤ w → (r6 w ∧ r6 ((σ 61 (4 + kd)) - 1)) ∧ (((σ 61 (4 + kd)) - 1) < w → Q (some (.inl ((-1)))) σ) ∧ (w ≤ ((σ 61 (4 + kd)) - 1) → (r3 k) ∧ (0 < d) ∧ (r6 k) ∧ (k < 0 → Q (some (.inl ((-1)))) σ) ∧ (0 ≤ k → (r6 k) ∧ (5 < k → Q (some (.inl ((-1)))) σ) ∧ (k ≤ 5 → (0 ≤ ((16 + (8 * kd)) + w) ∧ ((16 + (8 * kd)) + w) < 32) ∧ AW d mX9_letter 67 [none, none, none, some (.inl k), some (.inr (.inl (σ 62 ((16 + (8 * kd)) + w)))), none, some (.inl 0), some (.inr (.inl (σ 62 ((16 + (8 * kd)) + w)))), none] [] σ Q))))))) : AW d mX9_letter 0 [some (.inr (.inr 42)), some (.inl kd), some (.inl w), some (.inl k), none, none, none, none, none] [] σ Q := AW.blk kX9_letter_0 cX9_letter_0 (⟨(h).1, ⟨((h).2).1, AW.blk kX9_isIn_0 cX9_isIn_0 (⟨⟨(((h).2).2).1, (by decide)⟩, ⟨fun c6 => AW.blk kX9_isIn_17 cX9_isIn_17 (⟨(by decide), ⟨(by decide), ⟨fun _ => AW.blk kX9_letter_42 cX9_letter_42 (((((h).2).2).2).1 c6), fun c => absurd c (by decide)⟩⟩⟩), fun c6 => ⟨⟨(((((h).2).2).2).2 c6).1, (by decide)⟩, ⟨fun c5 => AW.blk kX9_isIn_17 cX9_isIn_17 (⟨(by decide), ⟨(by decide), ⟨fun _ => AW.blk kX9_letter_42 cX9_letter_42 (((((((h).2).2).2).2 c6).2).1 c5), fun c => absurd c (by decide)⟩⟩⟩), fun c5 => AW.blk kX9_isIn_18 cX9_isIn_18 (⟨(by decide), ⟨(by decide), ⟨fun c => absurd c (by decide), fun _ => ⟨(((((((h).2).2).2).2 c6).2).2 c5).1, ⟨⟨(((((((((h).2).2).2).2 c6).2).2 c5).2).1).1, (((((((((h).2).2).2).2 c6).2).2 c5).2).1).2⟩, ⟨(((((((((h).2).2).2).2 c6).2).2 c5).2).2).1, ⟨((((((((((h).2).2).2).2 c6).2).2 c5).2).2).2).1, AW.blk kX9_isIn_0 cX9_isIn_0 (⟨⟨(((((((((((h).2).2).2).2 c6).2).2 c5).2).2).2).2).1, (by decide)⟩, ⟨fun c4 => AW.blk kX9_isIn_17 cX9_isIn_17 (⟨(by decide), ⟨(by decide), ⟨fun _ => AW.blk kX9_letter_42 cX9_letter_42 (((((((((((((h).2).2).2).2 c6).2).2 c5).2).2).2).2).2).1 c4), fun c => absurd c (by decide)⟩⟩⟩), fun c4 => ⟨⟨((((((((((((((h).2).2).2).2 c6).2).2 c5).2).2).2).2).2).2 c4).1).1, ((((((((((((((h).2).2).2).2 c6).2).2 c5).2).2).2).2).2).2 c4).1).2⟩, ⟨fun c3 => AW.blk kX9_isIn_17 cX9_isIn_17 (⟨(by decide), ⟨(by decide), ⟨fun _ => AW.blk kX9_letter_42 cX9_letter_42 (((((((((((((((h).2).2).2).2 c6).2).2 c5).2).2).2).2).2).2 c4).2).1 c3), fun c => absurd c (by decide)⟩⟩⟩), fun c3 => AW.blk kX9_isIn_18 cX9_isIn_18 (⟨(by decide), ⟨(by decide), ⟨fun c => absurd c (by decide), fun _ => ⟨(((((((((((((((h).2).2).2).2 c6).2).2 c5).2).2).2).2).2).2 c4).2).2 c3).1, ⟨((((((((((((((((h).2).2).2).2 c6).2).2 c5).2).2).2).2).2).2 c4).2).2 c3).2).1, AW.blk kX9_isIn_0 cX9_isIn_0 (⟨⟨(((((((((((((((((h).2).2).2).2 c6).2).2 c5).2).2).2).2).2).2 c4).2).2 c3).2).2).1, (by decide)⟩, ⟨fun c2 => AW.blk kX9_isIn_17 cX9_isIn_17 (⟨(by decide), ⟨(by decide), ⟨fun c => absurd c (by decide), fun _ => ((((((((((((((((((h).2).2).2).2 c6).2).2 c5).2).2).2).2).2).2 c4).2).2 c3).2).2).2).1 c2⟩⟩⟩), fun c2 => ⟨⟨(((((((((((((((((((h).2).2).2).2 c6).2).2 c5).2).2).2).2).2).2 c4).2).2 c3).2).2).2).2 c2).1, (by decide)⟩, ⟨fun c1 => AW.blk kX9_isIn_17 cX9_isIn_17 (⟨(by decide), ⟨(by decide), ⟨fun c => absurd c (by decide), fun _ => ((((((((((((((((((((h).2).2).2).2 c6).2).2 c5).2).2).2).2).2).2 c4).2).2 c3).2).2).2).2 c2).2).1 c1⟩⟩⟩), fun c1 => AW.blk kX9_isIn_18 cX9_isIn_18 (⟨(by decide), ⟨(by decide), ⟨fun _ => AW.blk kX9_letter_44 cX9_letter_44 (⟨⟨((((((((((((((((((((((h).2).2).2).2 c6).2).2 c5).2).2).2).2).2).2 c4).2).2 c3).2).2).2).2 c2).2).2 c1).1).1, ((((((((((((((((((((((h).2).2).2).2 c6).2).2 c5).2).2).2).2).2).2 c4).2).2 c3).2).2).2).2 c2).2).2 c1).1).2⟩, AW.drop 0 (AW.drop 1 (AW.drop 2 ((((((((((((((((((((((h).2).2).2).2 c6).2).2 c5).2).2).2).2).2).2 c4).2).2 c3).2).2).2).2 c2).2).2 c1).2)))⟩), fun c => absurd c (by decide)⟩⟩⟩)⟩⟩⟩⟩)⟩⟩⟩⟩⟩)⟩⟩⟩⟩)⟩⟩⟩⟩⟩⟩⟩)⟩⟩⟩⟩)⟩⟩)
def kX9_letter_96 : List BI := [bi (.iload 6) 2 [] 0, bi (.iconst 1) 1 [] 0, bi (.isub) 1 [] 0, bi (.istore 7) 2 [] 0]
theorem cX9_letter_96 : chk mX9_letter 96 kX9_letter_96 = true := by decide +kernel
def kX9_letter_88 : List BI := [bi (.iload_n 3) 1 [] 0, bi (.iload 6) 2 [] 0, bi (.if_icmp .lt (5)) 3 [96] 0, bi (.iconst 0) 1 [] 0, bi (.ireturn) 1 [] 0]
theorem cX9_letter_88 : chk mX9_letter 88 kX9_letter_88 = true := by decide +kernel
def kX9_letter_67 : List BI := [bi (.lload 7) 2 [] 0, bi (.lconst 0) 1 [] 0, bi (.lcmp) 4 [5, 88] 17, bi (.iinc 6 (1)) 3 [] 0, bi (.lload 7) 2 [] 0, bi (.ldc2_w 244) 3 [] 27, bi (.ldiv) 1 [] 0, bi (.lstore 7) 2 [] 0, bi (.goto (-18)) 3 [67] 0]
theorem cX9_letter_67 : chk mX9_letter 67 kX9_letter_67 = true := by decide +kernel
theorem mletter_67 {d : Nat} {σ : SG} {Q : Option AV → SG → Prop} {k l4 l6 l7 : Int} (h : (r6 l7) ∧ (l7 ≤ 0 → (r3 k ∧ r3 l6) ∧ (k < l6 → AW d mX9_letter 102 [none, none, none, some (.inl k), some (.inr (.inl l4)), none, none, some (.inl (l6 - 1)), none] [] σ Q) ∧ (l6 ≤ k → Q (some (.inl 0)) σ)) ∧ (0 < l7 → (r6 l7) ∧ AW d mX9_letter 67 [none, none, none, some (.inl k), some (.inr (.inl l4)), none, some (.inl (l6 + 1)), some (.inr (.inl (Int.tdiv l7 27))), none] [] σ Q)) : AW d mX9_letter 67 [none, none, none, some (.inl k), some (.inr (.inl l4)), none, some (.inl l6), some (.inr (.inl l7)), none] [] σ Q := AW.blk kX9_letter_67 cX9_letter_67 (⟨⟨(h).1, (by decide)⟩, ⟨fun c8 => AW.blk kX9_letter_88 cX9_letter_88 (⟨⟨((((h).2).1 c8).1).1, ((((h).2).1 c8).1).2⟩, ⟨fun c7 => AW.blk kX9_letter_96 cX9_letter_96 (AW.drop 6 (((((h).2).1 c8).2).1 c7)), fun c7 => ((((h).2).1 c8).2).2 c7⟩⟩), fun c8 => ⟨⟨(((h).2).2 c8).1, (by decide), (by decide)⟩, (((h).2).2 c8).2⟩⟩⟩)
def kX9_letter_122 : List BI := [bi (.lload 4) 2 [] 0, bi (.ldc2_w 244) 3 [] 27, bi (.lrem) 1 [] 0, bi (.l2i) 1 [] 0, bi (.ireturn) 1 [] 0]
theorem cX9_letter_122 : chk mX9_letter 122 kX9_letter_122 = true := by decide +kernel
def kX9_letter_102 : List BI := [bi (.iload 7) 2 [] 0, bi (.iload_n 3) 1 [] 0, bi (.if_icmp .le (17)) 3 [122] 0, bi (.lload 4) 2 [] 0, bi (.ldc2_w 244) 3 [] 27, bi (.ldiv) 1 [] 0, bi (.lstore 4) 2 [] 0, bi (.iinc 7 (-1)) 3 [] 0, bi (.goto (-17)) 3 [102] 0]
theorem cX9_letter_102 : chk mX9_letter 102 kX9_letter_102 = true := by decide +kernel
theorem mletter_102 {d : Nat} {σ : SG} {Q : Option AV → SG → Prop} {k l4 l7 : Int} (h : (r3 l7 ∧ r3 k) ∧ (l7 ≤ k → (r6 l4) ∧ Q (some (.inl (Int.tmod l4 27))) σ) ∧ (k < l7 → (r6 l4) ∧ AW d mX9_letter 102 [none, none, none, some (.inl k), some (.inr (.inl (Int.tdiv l4 27))), none, none, some (.inl (l7 + (-1))), none] [] σ Q)) : AW d mX9_letter 102 [none, none, none, some (.inl k), some (.inr (.inl l4)), none, none, some (.inl l7), none] [] σ Q := AW.blk kX9_letter_102 cX9_letter_102 (⟨⟨((h).1).1, ((h).1).2⟩, ⟨fun c9 => AW.blk kX9_letter_122 cX9_letter_122 (⟨⟨(((h).2).1 c9).1, (by decide), (by decide)⟩, (((h).2).1 c9).2⟩), fun c9 => ⟨⟨(((h).2).2 c9).1, (by decide), (by decide)⟩, (((h).2).2 c9).2⟩⟩⟩)
def kX8_letter_10 : List BI := [bi (.iconst (-1)) 1 [] 0, bi (.ireturn) 1 [] 0]
theorem cX8_letter_10 : chk mX8_letter 10 kX8_letter_10 = true := by decide +kernel
def kX8_letter_59 : List BI := [bi (.iconst (-1)) 1 [] 0, bi (.ireturn) 1 [] 0]
theorem cX8_letter_59 : chk mX8_letter 59 kX8_letter_59 = true := by decide +kernel
def kX4_letterOf_0 : List BI := [bi (.aload_n 0) 1 [] 0, bi (.getfield 27) 3 [4, 5] 0, bi (.iload_n 1) 1 [] 0, bi (.bipush (6)) 2 [] 0, bi (.imul) 1 [] 0, bi (.iload_n 2) 1 [] 0, bi (.iadd) 1 [] 0, bi (.iaload) 1 [] 0, bi (.ireturn) 1 [] 0]
theorem cX4_letterOf_0 : chk mX4_letterOf 0 kX4_letterOf_0 = true := by decide +kernel
def kX8_letter_51 : List BI := [bi (.iconst 4) 1 [] 0, bi (.iload_n 2) 1 [] 0, bi (.iadd) 1 [] 0, bi (.iload_n 3) 1 [] 0, bi (.invokevirtual 135) 3 [mX4_letterOf, 3, 3, 4] 0, bi (.ireturn) 1 [] 0]
theorem cX8_letter_51 : chk mX8_letter 51 kX8_letter_51 = true := by decide +kernel
def kX8_letter_34 : List BI := [bi (.iload_n 1) 1 [] 0, bi (.iconst 1) 1 [] 0, bi (.if_icmp .ne (23)) 3 [59] 0, bi (.aload_n 0) 1 [] 0, bi (.iload_n 2) 1 [] 0, bi (.invokevirtual 139) 3 [mX8_isGuard, 2, 2, 8] 0, bi (.ifCond .eq (15)) 3 [59] 0, bi (.aload_n 0) 1 [] 0, bi (.getfield 70) 3 [8, 9] 0]
theorem cX8_letter_34 : chk mX8_letter 34 kX8_letter_34 = true := by decide +kernel
def kX8_letter_28 : List BI := [bi (.iload_n 2) 1 [] 0, bi (.iload_n 3) 1 [] 0, bi (.invokevirtual 135) 3 [mX4_letterOf, 3, 3, 4] 0, bi (.ireturn) 1 [] 0]
theorem cX8_letter_28 : chk mX8_letter 28 kX8_letter_28 = true := by decide +kernel
def kX8_letter_12 : List BI := [bi (.iload_n 1) 1 [] 0, bi (.ifCond .ne (21)) 3 [34] 0, bi (.aload_n 0) 1 [] 0, bi (.iload_n 2) 1 [] 0, bi (.invokevirtual 131) 3 [mX8_isTower, 2, 2, 8] 0, bi (.ifCond .eq (13)) 3 [34] 0, bi (.aload_n 0) 1 [] 0, bi (.getfield 70) 3 [8, 9] 0]
theorem cX8_letter_12 : chk mX8_letter 12 kX8_letter_12 = true := by decide +kernel
def kX8_letter_0 : List BI := [bi (.iload_n 3) 1 [] 0, bi (.ifCond .lt (9)) 3 [10] 0, bi (.iload_n 3) 1 [] 0, bi (.bipush (6)) 2 [] 0, bi (.if_icmp .lt (5)) 3 [12] 0, bi (.iconst (-1)) 1 [] 0, bi (.ireturn) 1 [] 0]
theorem cX8_letter_0 : chk mX8_letter 0 kX8_letter_0 = true := by decide +kernel
theorem xletter_0 {d : Nat} {σ : SG} {Q : Option AV → SG → Prop} {kd w k : Int} {r : Nat} (hr : r = 5 ∨ r = 16) (hx : (σ 0 9).toNat = r) (h : (r3 k) ∧ (k < 0 → Q (some (.inl ((-1)))) σ) ∧ (0 ≤ k → (r3 k) ∧ (k < 6 → (r3 kd) ∧ (kd ≠ 0 → (r3 kd) ∧ (kd ≠ 1 → Q (some (.inl ((-1)))) σ) ∧ (kd = 1 → (0 < d) ∧ (r3 w) ∧ (w < 0 → Q (some (.inl ((-1)))) σ) ∧ (0 ≤ w → (r3 w ∧ r3 (σ r 1)) ∧ ((σ r 1) ≤ w → Q (some (.inl ((-1)))) σ) ∧ (w < (σ r 1) → (0 < d) ∧ (0 ≤ (((4 + w) * 6) + k) ∧ (((4 + w) * 6) + k) < 72) ∧ Q (some (.inl (σ (r + 1) (((4 + w) * 6) + k)))) σ)))) ∧ (kd = 0 → (0 < d) ∧ (r3 w) ∧ (w < 0 → (r3 kd) ∧ (kd ≠ 1 → Q (some (.inl ((-1)))) σ) ∧ (kd = 1 → (0 < d) ∧ (r3 w) ∧ (w < 0 → Q (some (.inl ((-1)))) σ) ∧ (0 ≤ w → (r3 w ∧ r3 (σ r 1)) ∧ ((σ r 1) ≤ w → Q (some (.inl ((-1)))) σ) ∧ (w < (σ r 1) → (0 < d) ∧ (0 ≤ (((4 + w) * 6) + k) ∧ (((4 + w) * 6) + k) < 72) ∧ Q (some (.inl (σ (r + 1) (((4 + w) * 6) + k)))) σ)))) ∧ (0 ≤ w → (r3 w ∧ r3 (σ r 0)) ∧ ((σ r 0) ≤ w → (r3 kd) ∧ (kd ≠ 1 → Q (some (.inl ((-1)))) σ) ∧ (kd = 1 → (0 < d) ∧ (r3 w) ∧ (w < 0 → Q (some (.inl ((-1)))) σ) ∧ (0 ≤ w → (r3 w ∧ r3 (σ r 1)) ∧ ((σ r 1) ≤ w → Q (some (.inl ((-1)))) σ) ∧ (w < (σ r 1) → (0 < d) ∧ (0 ≤ (((4 + w) * 6) + k) ∧ (((4 + w) * 6) + k) < 72) ∧ Q (some (.inl (σ (r + 1) (((4 + w) * 6) + k)))) σ)))) ∧ (w < (σ r 0) → (0 < d) ∧ (0 ≤ ((w * 6) + k) ∧ ((w * 6) + k) < 72) ∧ Q (some (.inl (σ (r + 1) ((w * 6) + k)))) σ)))) ∧ (6 ≤ k → Q (some (.inl ((-1)))) σ))) : AW d mX8_letter 0 [some (.inr (.inr 0)), some (.inl kd), some (.inl w), some (.inl k)] [] σ Q := by
  rcases hr with rfl | rfl <;> exact AW.blk kX8_letter_0 cX8_letter_0 (⟨(h).1, ⟨fun c23 => AW.blk kX8_letter_10 cX8_letter_10 (((h).2).1 c23), fun c23 => ⟨⟨(((h).2).2 c23).1, (by decide)⟩, ⟨fun c22 => AW.blk kX8_letter_12 cX8_letter_12 (⟨(((((h).2).2 c23).2).1 c22).1, ⟨fun c21 => AW.blk kX8_letter_34 cX8_letter_34 (⟨⟨(((((((h).2).2 c23).2).1 c22).2).1 c21).1, (by decide)⟩, ⟨fun c12 => AW.blk kX8_letter_59 cX8_letter_59 (((((((((h).2).2 c23).2).1 c22).2).1 c21).2).1 c12), fun c12 => ⟨(((((((((h).2).2 c23).2).1 c22).2).1 c21).2).2 c12).1, AW.blk kX8_isGuard_0 cX8_isGuard_0 (⟨((((((((((h).2).2 c23).2).1 c22).2).1 c21).2).2 c12).2).1, ⟨fun c11 => AW.blk kX8_isGuard_19 cX8_isGuard_19 (⟨(by decide), ⟨(by decide), ⟨fun _ => AW.blk kX8_letter_59 cX8_letter_59 ((((((((((((h).2).2 c23).2).1 c22).2).1 c21).2).2 c12).2).2).1 c11), fun c => absurd c (by decide)⟩⟩⟩), fun c11 => aw_rl hx (AW.blk kX8_isGuard_9 cX8_isGuard_9 (⟨⟨(((((((((((((h).2).2 c23).2).1 c22).2).1 c21).2).2 c12).2).2).2 c11).1).1, (((((((((((((h).2).2 c23).2).1 c22).2).1 c21).2).2 c12).2).2).2 c11).1).2⟩, ⟨fun c10 => AW.blk kX8_isGuard_19 cX8_isGuard_19 (⟨(by decide), ⟨(by decide), ⟨fun _ => AW.blk kX8_letter_59 cX8_letter_59 ((((((((((((((h).2).2 c23).2).1 c22).2).1 c21).2).2 c12).2).2).2 c11).2).1 c10), fun c => absurd c (by decide)⟩⟩⟩), fun c10 => AW.blk kX8_isGuard_20 cX8_isGuard_20 (⟨(by decide), ⟨(by decide), ⟨fun c => absurd c (by decide), fun _ => aw_rl hx (AW.blk kX8_letter_51 cX8_letter_51 (⟨((((((((((((((h).2).2 c23).2).1 c22).2).1 c21).2).2 c12).2).2).2 c11).2).2 c10).1, AW.blk kX4_letterOf_0 cX4_letterOf_0 (⟨⟨((((((((((((((((h).2).2 c23).2).1 c22).2).1 c21).2).2 c12).2).2).2 c11).2).2 c10).2).1).1, ((((((((((((((((h).2).2 c23).2).1 c22).2).1 c21).2).2 c12).2).2).2 c11).2).2 c10).2).1).2⟩, (((((((((((((((h).2).2 c23).2).1 c22).2).1 c21).2).2 c12).2).2).2 c11).2).2 c10).2).2⟩)⟩))⟩⟩⟩)⟩⟩))⟩⟩)⟩⟩⟩), fun c21 => ⟨(((((((h).2).2 c23).2).1 c22).2).2 c21).1, AW.blk kX8_isTower_0 cX8_isTower_0 (⟨((((((((h).2).2 c23).2).1 c22).2).2 c21).2).1, ⟨fun c20 => AW.blk kX8_isTower_19 cX8_isTower_19 (⟨(by decide), ⟨(by decide), ⟨fun _ => AW.blk kX8_letter_34 cX8_letter_34 (⟨⟨((((((((((h).2).2 c23).2).1 c22).2).2 c21).2).2).1 c20).1, (by decide)⟩, ⟨fun c15 => AW.blk kX8_letter_59 cX8_letter_59 ((((((((((((h).2).2 c23).2).1 c22).2).2 c21).2).2).1 c20).2).1 c15), fun c15 => ⟨((((((((((((h).2).2 c23).2).1 c22).2).2 c21).2).2).1 c20).2).2 c15).1, AW.blk kX8_isGuard_0 cX8_isGuard_0 (⟨(((((((((((((h).2).2 c23).2).1 c22).2).2 c21).2).2).1 c20).2).2 c15).2).1, ⟨fun c14 => AW.blk kX8_isGuard_19 cX8_isGuard_19 (⟨(by decide), ⟨(by decide), ⟨fun _ => AW.blk kX8_letter_59 cX8_letter_59 (((((((((((((((h).2).2 c23).2).1 c22).2).2 c21).2).2).1 c20).2).2 c15).2).2).1 c14), fun c => absurd c (by decide)⟩⟩⟩), fun c14 => aw_rl hx (AW.blk kX8_isGuard_9 cX8_isGuard_9 (⟨⟨((((((((((((((((h).2).2 c23).2).1 c22).2).2 c21).2).2).1 c20).2).2 c15).2).2).2 c14).1).1, ((((((((((((((((h).2).2 c23).2).1 c22).2).2 c21).2).2).1 c20).2).2 c15).2).2).2 c14).1).2⟩, ⟨fun c13 => AW.blk kX8_isGuard_19 cX8_isGuard_19 (⟨(by decide), ⟨(by decide), ⟨fun _ => AW.blk kX8_letter_59 cX8_letter_59 (((((((((((((((((h).2).2 c23).2).1 c22).2).2 c21).2).2).1 c20).2).2 c15).2).2).2 c14).2).1 c13), fun c => absurd c (by decide)⟩⟩⟩), fun c13 => AW.blk kX8_isGuard_20 cX8_isGuard_20 (⟨(by decide), ⟨(by decide), ⟨fun c => absurd c (by decide), fun _ => aw_rl hx (AW.blk kX8_letter_51 cX8_letter_51 (⟨(((((((((((((((((h).2).2 c23).2).1 c22).2).2 c21).2).2).1 c20).2).2 c15).2).2).2 c14).2).2 c13).1, AW.blk kX4_letterOf_0 cX4_letterOf_0 (⟨⟨(((((((((((((((((((h).2).2 c23).2).1 c22).2).2 c21).2).2).1 c20).2).2 c15).2).2).2 c14).2).2 c13).2).1).1, (((((((((((((((((((h).2).2 c23).2).1 c22).2).2 c21).2).2).1 c20).2).2 c15).2).2).2 c14).2).2 c13).2).1).2⟩, ((((((((((((((((((h).2).2 c23).2).1 c22).2).2 c21).2).2).1 c20).2).2 c15).2).2).2 c14).2).2 c13).2).2⟩)⟩))⟩⟩⟩)⟩⟩))⟩⟩)⟩⟩⟩), fun c => absurd c (by decide)⟩⟩⟩), fun c20 => aw_rl hx (AW.blk kX8_isTower_9 cX8_isTower_9 (⟨⟨(((((((((((h).2).2 c23).2).1 c22).2).2 c21).2).2).2 c20).1).1, (((((((((((h).2).2 c23).2).1 c22).2).2 c21).2).2).2 c20).1).2⟩, ⟨fun c19 => AW.blk kX8_isTower_19 cX8_isTower_19 (⟨(by decide), ⟨(by decide), ⟨fun _ => AW.blk kX8_letter_34 cX8_letter_34 (⟨⟨((((((((((((h).2).2 c23).2).1 c22).2).2 c21).2).2).2 c20).2).1 c19).1, (by decide)⟩, ⟨fun c18 => AW.blk kX8_letter_59 cX8_letter_59 ((((((((((((((h).2).2 c23).2).1 c22).2).2 c21).2).2).2 c20).2).1 c19).2).1 c18), fun c18 => ⟨((((((((((((((h).2).2 c23).2).1 c22).2).2 c21).2).2).2 c20).2).1 c19).2).2 c18).1, AW.blk kX8_isGuard_0 cX8_isGuard_0 (⟨(((((((((((((((h).2).2 c23).2).1 c22).2).2 c21).2).2).2 c20).2).1 c19).2).2 c18).2).1, ⟨fun c17 => AW.blk kX8_isGuard_19 cX8_isGuard_19 (⟨(by decide), ⟨(by decide), ⟨fun _ => AW.blk kX8_letter_59 cX8_letter_59 (((((((((((((((((h).2).2 c23).2).1 c22).2).2 c21).2).2).2 c20).2).1 c19).2).2 c18).2).2).1 c17), fun c => absurd c (by decide)⟩⟩⟩), fun c17 => aw_rl hx (AW.blk kX8_isGuard_9 cX8_isGuard_9 (⟨⟨((((((((((((((((((h).2).2 c23).2).1 c22).2).2 c21).2).2).2 c20).2).1 c19).2).2 c18).2).2).2 c17).1).1, ((((((((((((((((((h).2).2 c23).2).1 c22).2).2 c21).2).2).2 c20).2).1 c19).2).2 c18).2).2).2 c17).1).2⟩, ⟨fun c16 => AW.blk kX8_isGuard_19 cX8_isGuard_19 (⟨(by decide), ⟨(by decide), ⟨fun _ => AW.blk kX8_letter_59 cX8_letter_59 (((((((((((((((((((h).2).2 c23).2).1 c22).2).2 c21).2).2).2 c20).2).1 c19).2).2 c18).2).2).2 c17).2).1 c16), fun c => absurd c (by decide)⟩⟩⟩), fun c16 => AW.blk kX8_isGuard_20 cX8_isGuard_20 (⟨(by decide), ⟨(by decide), ⟨fun c => absurd c (by decide), fun _ => aw_rl hx (AW.blk kX8_letter_51 cX8_letter_51 (⟨(((((((((((((((((((h).2).2 c23).2).1 c22).2).2 c21).2).2).2 c20).2).1 c19).2).2 c18).2).2).2 c17).2).2 c16).1, AW.blk kX4_letterOf_0 cX4_letterOf_0 (⟨⟨(((((((((((((((((((((h).2).2 c23).2).1 c22).2).2 c21).2).2).2 c20).2).1 c19).2).2 c18).2).2).2 c17).2).2 c16).2).1).1, (((((((((((((((((((((h).2).2 c23).2).1 c22).2).2 c21).2).2).2 c20).2).1 c19).2).2 c18).2).2).2 c17).2).2 c16).2).1).2⟩, ((((((((((((((((((((h).2).2 c23).2).1 c22).2).2 c21).2).2).2 c20).2).1 c19).2).2 c18).2).2).2 c17).2).2 c16).2).2⟩)⟩))⟩⟩⟩)⟩⟩))⟩⟩)⟩⟩⟩), fun c => absurd c (by decide)⟩⟩⟩), fun c19 => AW.blk kX8_isTower_20 cX8_isTower_20 (⟨(by decide), ⟨(by decide), ⟨fun c => absurd c (by decide), fun _ => aw_rl hx (AW.blk kX8_letter_28 cX8_letter_28 (⟨((((((((((((h).2).2 c23).2).1 c22).2).2 c21).2).2).2 c20).2).2 c19).1, AW.blk kX4_letterOf_0 cX4_letterOf_0 (⟨⟨((((((((((((((h).2).2 c23).2).1 c22).2).2 c21).2).2).2 c20).2).2 c19).2).1).1, ((((((((((((((h).2).2 c23).2).1 c22).2).2 c21).2).2).2 c20).2).2 c19).2).1).2⟩, (((((((((((((h).2).2 c23).2).1 c22).2).2 c21).2).2).2 c20).2).2 c19).2).2⟩)⟩))⟩⟩⟩)⟩⟩))⟩⟩)⟩⟩⟩), fun c22 => ((((h).2).2 c23).2).2 c22⟩⟩⟩⟩)
/-! letters of a name -/
abbrev nmV (a : Int → Int) (m : Int) : Int := foI (fun k v => 27 * v + a k) 0 m
theorem nmV_s (a : Int → Int) {m : Int} (h : 0 ≤ m) : nmV a (m + 1) = 27 * nmV a m + a m := foI_s _ _ h
theorem nmV_r {a : Int → Int} {m : Int} (hm : 0 ≤ m ∧ m ≤ 6) (ha : ∀ k, 0 ≤ k → k < m → 1 ≤ a k ∧ a k ≤ 26) : ∀ j, 0 ≤ j → j ≤ m → 0 ≤ nmV a j ∧ nmV a j ≤ 400000000 ∧ (1 ≤ j → 1 ≤ nmV a j) := by
  have key : ∀ n : Nat, (n : Int) ≤ m → 0 ≤ nmV a n ∧ nmV a n < 27 ^ n ∧ (1 ≤ n → 1 ≤ nmV a n) := by
    intro n
    induction n with
    | zero => intro _; exact ⟨Int.le_refl 0, by show (0 : Int) < 1; decide, fun z => by omega⟩
    | succ n ih =>
      intro hn
      have ih := ih (by omega)
      have := ha n (by omega) (by omega)
      rw [show ((n + 1 : Nat) : Int) = (n : Int) + 1 by omega, nmV_s a (by omega), Int.pow_succ]
      generalize nmV a (n : Int) = v at *
      generalize (27 : Int) ^ n = p at *
      omega
  intro j j0 j1
  have := key j.toNat (by omega)
  rw [show ((j.toNat : Nat) : Int) = j by omega] at this
  have hp : (27 : Int) ^ j.toNat ≤ 387420489 := by
    rcases (by omega : j.toNat = 0 ∨ j.toNat = 1 ∨ j.toNat = 2 ∨ j.toNat = 3 ∨ j.toNat = 4 ∨ j.toNat = 5 ∨ j.toNat = 6) with z | z | z | z | z | z | z <;> rw [z] <;> decide
  exact ⟨this.1, by omega, fun z => this.2.2 (by omega)⟩
theorem mletter_tail {d : Nat} {σ : SG} {Q : Option AV → SG → Prop} {k v : Int} {a : Int → Int} (k0 : 0 ≤ k) (k1 : k < 6) (h : NM a v) (hq : Q (some (.inl (a k))) σ) : AW d mX9_letter 67 [none, none, none, some (.inl k), some (.inr (.inl v)), none, some (.inl 0), some (.inr (.inl v)), none] [] σ Q := by
  obtain ⟨m, hm, ha, hz, hv⟩ := h
  change v = nmV a m at hv
  subst hv
  have hr := nmV_r (a := a) (m := m) (by omega) ha
  have key := downInd (P := fun j => AW d mX9_letter 67 [none, none, none, some (.inl k), some (.inr (.inl (nmV a m))), none, some (.inl j), some (.inr (.inl (nmV a (m - j)))), none] [] σ Q) (lo := 0) (hi := m) (by omega) ?_ ?_
  · rw [Int.sub_zero] at key
    exact key
  · have r0 := hr (m - m) (by omega) (by omega)
    have e0 : nmV a (m - m) = 0 := by rw [Int.sub_self]; rfl
    refine mletter_67 ⟨by omega, fun _ => ⟨by omega, fun c => ?_, fun c => ?_⟩, fun c => by omega⟩
    · have k2 := downInd (P := fun j => AW d mX9_letter 102 [none, none, none, some (.inl k), some (.inr (.inl (nmV a (m - j)))), none, none, some (.inl (m - 1 - j)), none] [] σ Q) (lo := 0) (hi := m - 1 - k) (by omega) ?_ ?_
      · rw [Int.sub_zero, Int.sub_zero] at k2
        exact k2
      · rw [show m - (m - 1 - k) = k + 1 by omega]
        have r1 := hr (k + 1) (by omega) (by omega)
        have e1 := nmV_s a (m := k) k0
        have r2 := hr k k0 (by omega)
        have hak := ha k k0 c
        have et : Int.tmod (nmV a (k + 1)) 27 = a k := by
          rw [Int.tmod_eq_emod_of_nonneg r1.1, e1]
          omega
        refine mletter_102 ⟨by omega, fun _ => ⟨by omega, ?_⟩, fun z => by omega⟩
        rw [et]
        exact hq
      · intro j j0 j1 jh
        have r1 := hr (m - j) (by omega) (by omega)
        have e1 := nmV_s a (m := m - (j + 1)) (by omega)
        rw [show m - (j + 1) + 1 = m - j by omega] at e1
        have hak := ha (m - (j + 1)) (by omega) (by omega)
        have et : Int.tdiv (nmV a (m - j)) 27 = nmV a (m - (j + 1)) := by
          rw [Int.tdiv_eq_ediv_of_nonneg r1.1, e1]
          omega
        refine mletter_102 ⟨by omega, fun z => by omega, fun _ => ⟨by omega, ?_⟩⟩
        rw [et, show m - 1 - j + -1 = m - 1 - (j + 1) by omega]
        exact jh
    · rw [hz k c k1] at hq
      exact hq
  · intro j j0 j1 jh
    have r1 := hr (m - j) (by omega) (by omega)
    have e1 := nmV_s a (m := m - (j + 1)) (by omega)
    rw [show m - (j + 1) + 1 = m - j by omega] at e1
    have hak := ha (m - (j + 1)) (by omega) (by omega)
    have et : Int.tdiv (nmV a (m - j)) 27 = nmV a (m - (j + 1)) := by
      rw [Int.tdiv_eq_ediv_of_nonneg r1.1, e1]
      omega
    refine mletter_67 ⟨by omega, fun z => by omega, fun _ => ⟨by omega, ?_⟩⟩
    rw [et]
    exact jh
theorem call_letter {d : Nat} {n : Int} {σ : SG} {r q : Nat} {kd w k : Int} (hd : 100 ≤ d) (h : SIM n σ r q) (hkd : r3 kd) (hw : r3 w) (hk : r3 k) : AW d mX8_letter 0 [some (.inr (.inr 0)), some (.inl kd), some (.inl w), some (.inl k)] [] σ (SAME d n r q mX9_letter [some (.inr (.inr 42)), some (.inl kd), some (.inl w), some (.inl k), none, none, none, none, none]) := by
  obtain ⟨hr, _, hx, _⟩ := h.rr
  obtain ⟨hLR, hSR, hML, hMG, hRL, hN, hW⟩ := h.lr
  have hL := h.2.2.2.2.1
  have no : ¬ ((0 ≤ k ∧ k < 6) ∧ ((kd = 0 ∧ 0 ≤ w ∧ w < σ r 0) ∨ (kd = 1 ∧ 0 ≤ w ∧ w < σ r 1))) → SAME d n r q mX9_letter [some (.inr (.inr 42)), some (.inl kd), some (.inl w), some (.inl k), none, none, none, none, none] (some (.inl (-1))) σ := by
    intro hC
    unfold SAME
    have h61 : 0 ≤ kd ∧ kd ≤ 1 → (kd = 0 ∧ σ 61 (4 + kd) = σ r 0) ∨ (kd = 1 ∧ σ 61 (4 + kd) = σ r 1) := by
      intro z
      rcases (by omega : kd = 0 ∨ kd = 1) with rfl | rfl
      · left
        refine ⟨rfl, ?_⟩
        rw [show (4 : Int) + 0 = 4 from rfl]
        omega
      · right
        refine ⟨rfl, ?_⟩
        rw [show (4 : Int) + 1 = 5 from rfl]
        omega
    exact mletter_0 ⟨by omega, by omega, by omega, fun c => ⟨rfl, h⟩, fun c1 => ⟨by omega, fun c => ⟨rfl, h⟩, fun c2 => by
      have q := h61 ⟨c1, c2⟩
      exact ⟨by omega, by omega, by omega, by omega, by omega, fun c => ⟨rfl, h⟩, fun c3 => ⟨by omega, fun c => ⟨rfl, h⟩, fun c4 => ⟨by omega, by omega, by omega, fun c => ⟨rfl, h⟩, fun c5 => ⟨by omega, fun c => ⟨rfl, h⟩, fun c6 => by omega⟩⟩⟩⟩⟩⟩
  have yes0 : 0 ≤ k → k < 6 → kd = 0 → 0 ≤ w → w < σ r 0 → SAME d n r q mX9_letter [some (.inr (.inr 42)), some (.inl kd), some (.inl w), some (.inl k), none, none, none, none, none] (some (.inl (σ (r + 1) (w * 6 + k)))) σ := by
    intro k0 k1 hz w0 w1
    subst hz
    unfold SAME
    have hn := (hL.2.2.1 w w0 w1).2.2
    refine mletter_0 ?_
    rw [show (4 : Int) + 0 = 4 from rfl]
    exact ⟨by omega, by omega, by omega, fun c => by omega, fun c1 => ⟨by omega, fun c => by omega, fun c2 => ⟨by omega, by omega, by omega, by omega, by omega, fun c => by omega, fun c3 => ⟨by omega, fun c => by omega, fun c4 => ⟨by omega, by omega, by omega, fun c => by omega, fun c5 => ⟨by omega, fun c => by omega, fun c6 => ⟨by omega, mletter_tail k0 k1 hn ⟨rfl, h⟩⟩⟩⟩⟩⟩⟩⟩
  have yes1 : 0 ≤ k → k < 6 → kd = 1 → 0 ≤ w → w < σ r 1 → SAME d n r q mX9_letter [some (.inr (.inr 42)), some (.inl kd), some (.inl w), some (.inl k), none, none, none, none, none] (some (.inl (σ (r + 1) ((4 + w) * 6 + k)))) σ := by
    intro k0 k1 hz w0 w1
    subst hz
    unfold SAME
    have hn := (hL.2.2.2.1 w w0 w1).2.2.2
    refine mletter_0 ?_
    rw [show (4 : Int) + 1 = 5 from rfl]
    exact ⟨by omega, by omega, by omega, fun c => by omega, fun c1 => ⟨by omega, fun c => by omega, fun c2 => ⟨by omega, by omega, by omega, by omega, by omega, fun c => by omega, fun c3 => ⟨by omega, fun c => by omega, fun c4 => ⟨by omega, by omega, by omega, fun c => by omega, fun c5 => ⟨by omega, fun c => by omega, fun c6 => ⟨by omega, mletter_tail k0 k1 hn ⟨rfl, h⟩⟩⟩⟩⟩⟩⟩⟩
  exact xletter_0 hr hx ⟨by omega, fun c => no (by omega), fun c => ⟨by omega, fun c => ⟨by omega, fun c => ⟨by omega, fun c => no (by omega), fun c => ⟨by omega, by omega, fun c => no (by omega), fun c => ⟨by omega, fun c => no (by omega), fun c => ⟨by omega, by omega, yes1 (by omega) (by omega) (by omega) (by omega) (by omega)⟩⟩⟩⟩, fun c => ⟨by omega, by omega, fun c => ⟨by omega, fun c => no (by omega), fun c => by omega⟩, fun c => ⟨by omega, fun c => ⟨by omega, fun c => no (by omega), fun c => by omega⟩, fun c => ⟨by omega, by omega, yes0 (by omega) (by omega) (by omega) (by omega) (by omega)⟩⟩⟩⟩, fun c => no (by omega)⟩⟩
