/-! ===== the reference: sets of steps, loans (wip/whole/gen29.py) ===== -/
def kX9_howSet_0 : List BI := [bi (.iconst 0) 1 [] 0, bi (.istore_n 3) 1 [] 0, bi (.iconst 1) 1 [] 0, bi (.istore 4) 2 [] 0]
theorem cX9_howSet_0 : chk mX9_howSet 0 kX9_howSet_0 = true := by decide +kernel
theorem mhowSet_0 {d : Nat} {σ : SG} {Q : Option AV → SG → Prop} {t w : Int} (h : AW d mX9_howSet 5 [some (.inr (.inr 42)), some (.inl t), some (.inl w), some (.inl 0), some (.inl 1)] [] σ Q) : AW d mX9_howSet 0 [some (.inr (.inr 42)), some (.inl t), some (.inl w), none, none] [] σ Q := AW.blk kX9_howSet_0 cX9_howSet_0 (h)
def kX9_howSet_41 : List BI := [bi (.iload_n 3) 1 [] 0, bi (.ireturn) 1 [] 0]
theorem cX9_howSet_41 : chk mX9_howSet 41 kX9_howSet_41 = true := by decide +kernel
def kX9_howSet_35 : List BI := [bi (.iinc 4 (1)) 3 [] 0, bi (.goto (-33)) 3 [5] 0]
theorem cX9_howSet_35 : chk mX9_howSet 35 kX9_howSet_35 = true := by decide +kernel
def kX9_howIs_0 : List BI := [bi (.aload_n 0) 1 [] 0, bi (.getfield 94) 3 [9, 37] 0, bi (.bipush (6)) 2 [] 0, bi (.bipush (14)) 2 [] 0, bi (.iload_n 1) 1 [] 0, bi (.imul) 1 [] 0, bi (.iadd) 1 [] 0, bi (.iload_n 2) 1 [] 0, bi (.iadd) 1 [] 0, bi (.iconst 1) 1 [] 0, bi (.isub) 1 [] 0, bi (.iaload) 1 [] 0, bi (.ireturn) 1 [] 0]
theorem cX9_howIs_0 : chk mX9_howIs 0 kX9_howIs_0 = true := by decide +kernel
def kX9_howSet_5 : List BI := [bi (.iload 4) 2 [] 0, bi (.aload_n 0) 1 [] 0, bi (.iload_n 1) 1 [] 0, bi (.invokevirtual 328) 3 [mX9_stepsOf, 2, 2, 9] 0, bi (.if_icmp .gt (29)) 3 [41] 0, bi (.aload_n 0) 1 [] 0, bi (.iload_n 1) 1 [] 0, bi (.iload 4) 2 [] 0, bi (.invokevirtual 341) 3 [mX9_howIs, 3, 3, 9] 0, bi (.iload_n 2) 1 [] 0, bi (.if_icmp .ne (12)) 3 [35] 0, bi (.iload_n 3) 1 [] 0, bi (.iconst 1) 1 [] 0, bi (.iload 4) 2 [] 0, bi (.iconst 1) 1 [] 0, bi (.isub) 1 [] 0, bi (.ishl) 1 [] 0, bi (.ior) 1 [] 0, bi (.istore_n 3) 1 [] 0, bi (.iinc 4 (1)) 3 [] 0, bi (.goto (-33)) 3 [5] 0]
theorem cX9_howSet_5 : chk mX9_howSet 5 kX9_howSet_5 = true := by decide +kernel
theorem mhowSet_5 {d : Nat} {σ : SG} {Q : Option AV → SG → Prop} {t w l3 l4 : Int} (h : (0 < d) ∧ (0 ≤ (8 + (2 * t)) ∧ (8 + (2 * t)) < 16) ∧ (r3 l4 ∧ r3 (σ 63 (8 + (2 * t)))) ∧ ((σ 63 (8 + (2 * t))) < l4 → Q (some (.inl l3)) σ) ∧ (l4 ≤ (σ 63 (8 + (2 * t))) → (0 < d) ∧ (0 ≤ (((6 + (14 * t)) + l4) - 1) ∧ (((6 + (14 * t)) + l4) - 1) < 254) ∧ (r3 (σ 69 (((6 + (14 * t)) + l4) - 1)) ∧ r3 w) ∧ ((σ 69 (((6 + (14 * t)) + l4) - 1)) ≠ w → AW d mX9_howSet 5 [some (.inr (.inr 42)), some (.inl t), some (.inl w), some (.inl l3), some (.inl (l4 + 1))] [] σ Q) ∧ ((σ 69 (((6 + (14 * t)) + l4) - 1)) = w → (0 ≤ (l4 - 1) ∧ (l4 - 1) < 32) ∧ AW d mX9_howSet 5 [some (.inr (.inr 42)), some (.inl t), some (.inl w), some (.inl (bor l3 (1 * 2 ^ Int.toNat (l4 - 1)))), some (.inl (l4 + 1))] [] σ Q))) : AW d mX9_howSet 5 [some (.inr (.inr 42)), some (.inl t), some (.inl w), some (.inl l3), some (.inl l4)] [] σ Q := AW.blk kX9_howSet_5 cX9_howSet_5 (⟨(h).1, AW.blk kX9_stepsOf_0 cX9_stepsOf_0 (⟨⟨(((h).2).1).1, (((h).2).1).2⟩, ⟨⟨((((h).2).2).1).1, ((((h).2).2).1).2⟩, ⟨fun c2 => AW.blk kX9_howSet_41 cX9_howSet_41 (((((h).2).2).2).1 c2), fun c2 => ⟨(((((h).2).2).2).2 c2).1, AW.blk kX9_howIs_0 cX9_howIs_0 (⟨⟨(((((((h).2).2).2).2 c2).2).1).1, (((((((h).2).2).2).2 c2).2).1).2⟩, ⟨⟨((((((((h).2).2).2).2 c2).2).2).1).1, ((((((((h).2).2).2).2 c2).2).2).1).2⟩, ⟨fun c1 => AW.blk kX9_howSet_35 cX9_howSet_35 (((((((((h).2).2).2).2 c2).2).2).2).1 c1), fun c1 => ⟨⟨((((((((((h).2).2).2).2 c2).2).2).2).2 c1).1).1, ((((((((((h).2).2).2).2 c2).2).2).2).2 c1).1).2⟩, (((((((((h).2).2).2).2 c2).2).2).2).2 c1).2⟩⟩⟩⟩)⟩⟩⟩⟩)⟩)
def kX9_filledSet_0 : List BI := [bi (.iconst 0) 1 [] 0, bi (.istore_n 2) 1 [] 0, bi (.iconst 0) 1 [] 0, bi (.istore_n 3) 1 [] 0]
theorem cX9_filledSet_0 : chk mX9_filledSet 0 kX9_filledSet_0 = true := by decide +kernel
theorem mfilledSet_0 {d : Nat} {σ : SG} {Q : Option AV → SG → Prop} {t : Int} (h : AW d mX9_filledSet 4 [some (.inr (.inr 42)), some (.inl t), some (.inl 0), some (.inl 0)] [] σ Q) : AW d mX9_filledSet 0 [some (.inr (.inr 42)), some (.inl t), none, none] [] σ Q := AW.blk kX9_filledSet_0 cX9_filledSet_0 (h)
def kX9_filledSet_60 : List BI := [bi (.iload_n 2) 1 [] 0, bi (.ireturn) 1 [] 0]
theorem cX9_filledSet_60 : chk mX9_filledSet 60 kX9_filledSet_60 = true := by decide +kernel
def kX9_filledSet_54 : List BI := [bi (.iinc 3 (1)) 3 [] 0, bi (.goto (-53)) 3 [4] 0]
theorem cX9_filledSet_54 : chk mX9_filledSet 54 kX9_filledSet_54 = true := by decide +kernel
def kX9_lasts_14 : List BI := [bi (.iconst 0) 1 [] 0, bi (.ireturn) 1 [1] 0]
theorem cX9_lasts_14 : chk mX9_lasts 14 kX9_lasts_14 = true := by decide +kernel
def kX9_loanOf_0 : List BI := [bi (.aload_n 0) 1 [] 0, bi (.getfield 94) 3 [9, 37] 0, bi (.bipush (62)) 2 [] 0, bi (.bipush (8)) 2 [] 0, bi (.iload_n 1) 1 [] 0, bi (.imul) 1 [] 0, bi (.iadd) 1 [] 0, bi (.iload_n 2) 1 [] 0, bi (.iadd) 1 [] 0, bi (.iaload) 1 [] 0, bi (.ireturn) 1 [] 0]
theorem cX9_loanOf_0 : chk mX9_loanOf 0 kX9_loanOf_0 = true := by decide +kernel
def kX9_lasts_15 : List BI := [bi (.ireturn) 1 [1] 0]
theorem cX9_lasts_15 : chk mX9_lasts 15 kX9_lasts_15 = true := by decide +kernel
def kX9_lasts_0 : List BI := [bi (.aload_n 0) 1 [] 0, bi (.iload_n 1) 1 [] 0, bi (.bipush (7)) 2 [] 0, bi (.invokevirtual 332) 3 [mX9_loanOf, 3, 3, 9] 0, bi (.ifCond .ne (7)) 3 [14] 0, bi (.iconst 1) 1 [] 0, bi (.goto (4)) 3 [15] 0]
theorem cX9_lasts_0 : chk mX9_lasts 0 kX9_lasts_0 = true := by decide +kernel
def kX9_loanMany_0 : List BI := [bi (.aload_n 0) 1 [] 0, bi (.getfield 94) 3 [9, 37] 0, bi (.iconst 1) 1 [] 0, bi (.iaload) 1 [] 0, bi (.ireturn) 1 [] 0]
theorem cX9_loanMany_0 : chk mX9_loanMany 0 kX9_loanMany_0 = true := by decide +kernel
def kX9_filledSet_4 : List BI := [bi (.iload_n 3) 1 [] 0, bi (.aload_n 0) 1 [] 0, bi (.invokevirtual 335) 3 [mX9_loanMany, 1, 1, 9] 0, bi (.if_icmp .ge (51)) 3 [60] 0, bi (.aload_n 0) 1 [] 0, bi (.iload_n 3) 1 [] 0, bi (.invokevirtual 338) 3 [mX9_lasts, 2, 2, 9] 0, bi (.ifCond .eq (37)) 3 [54] 0, bi (.aload_n 0) 1 [] 0, bi (.iload_n 3) 1 [] 0, bi (.iconst 2) 1 [] 0, bi (.invokevirtual 332) 3 [mX9_loanOf, 3, 3, 9] 0, bi (.iload_n 1) 1 [] 0, bi (.if_icmp .ne (27)) 3 [54] 0, bi (.aload_n 0) 1 [] 0, bi (.iload_n 3) 1 [] 0, bi (.bipush (6)) 2 [] 0, bi (.invokevirtual 332) 3 [mX9_loanOf, 3, 3, 9] 0, bi (.ifCond .le (17)) 3 [54] 0, bi (.iload_n 2) 1 [] 0, bi (.iconst 1) 1 [] 0, bi (.aload_n 0) 1 [] 0, bi (.iload_n 3) 1 [] 0, bi (.bipush (6)) 2 [] 0, bi (.invokevirtual 332) 3 [mX9_loanOf, 3, 3, 9] 0, bi (.iconst 1) 1 [] 0, bi (.isub) 1 [] 0, bi (.ishl) 1 [] 0, bi (.ior) 1 [] 0, bi (.istore_n 2) 1 [] 0, bi (.iinc 3 (1)) 3 [] 0, bi (.goto (-53)) 3 [4] 0]
theorem cX9_filledSet_4 : chk mX9_filledSet 4 kX9_filledSet_4 = true := by decide +kernel
theorem mfilledSet_4 {d : Nat} {σ : SG} {Q : Option AV → SG → Prop} {t l2 l3 : Int} (h : (0 < d) ∧ (r3 l3 ∧ r3 (σ 69 1)) ∧ ((σ 69 1) ≤ l3 → Q (some (.inl l2)) σ) ∧ (l3 < (σ 69 1) → (0 < d) ∧ (0 < d - 1) ∧ (0 ≤ ((62 + (8 * l3)) + 7) ∧ ((62 + (8 * l3)) + 7) < 254) ∧ (r3 (σ 69 ((62 + (8 * l3)) + 7))) ∧ ((σ 69 ((62 + (8 * l3)) + 7)) ≠ 0 → AW d mX9_filledSet 4 [some (.inr (.inr 42)), some (.inl t), some (.inl l2), some (.inl (l3 + 1))] [] σ Q) ∧ ((σ 69 ((62 + (8 * l3)) + 7)) = 0 → (0 < d) ∧ (0 ≤ ((62 + (8 * l3)) + 2) ∧ ((62 + (8 * l3)) + 2) < 254) ∧ (r3 (σ 69 ((62 + (8 * l3)) + 2)) ∧ r3 t) ∧ ((σ 69 ((62 + (8 * l3)) + 2)) ≠ t → AW d mX9_filledSet 4 [some (.inr (.inr 42)), some (.inl t), some (.inl l2), some (.inl (l3 + 1))] [] σ Q) ∧ ((σ 69 ((62 + (8 * l3)) + 2)) = t → (0 < d) ∧ (0 ≤ ((62 + (8 * l3)) + 6) ∧ ((62 + (8 * l3)) + 6) < 254) ∧ (r3 (σ 69 ((62 + (8 * l3)) + 6))) ∧ ((σ 69 ((62 + (8 * l3)) + 6)) ≤ 0 → AW d mX9_filledSet 4 [some (.inr (.inr 42)), some (.inl t), some (.inl l2), some (.inl (l3 + 1))] [] σ Q) ∧ (0 < (σ 69 ((62 + (8 * l3)) + 6)) → (0 < d) ∧ (0 ≤ ((62 + (8 * l3)) + 6) ∧ ((62 + (8 * l3)) + 6) < 254) ∧ (0 ≤ ((σ 69 ((62 + (8 * l3)) + 6)) - 1) ∧ ((σ 69 ((62 + (8 * l3)) + 6)) - 1) < 32) ∧ AW d mX9_filledSet 4 [some (.inr (.inr 42)), some (.inl t), some (.inl (bor l2 (1 * 2 ^ Int.toNat ((σ 69 ((62 + (8 * l3)) + 6)) - 1)))), some (.inl (l3 + 1))] [] σ Q))))) : AW d mX9_filledSet 4 [some (.inr (.inr 42)), some (.inl t), some (.inl l2), some (.inl l3)] [] σ Q := AW.blk kX9_filledSet_4 cX9_filledSet_4 (⟨(h).1, AW.blk kX9_loanMany_0 cX9_loanMany_0 (⟨⟨(by decide), (by decide)⟩, ⟨⟨(((h).2).1).1, (((h).2).1).2⟩, ⟨fun c6 => AW.blk kX9_filledSet_60 cX9_filledSet_60 ((((h).2).2).1 c6), fun c6 => ⟨((((h).2).2).2 c6).1, AW.blk kX9_lasts_0 cX9_lasts_0 (⟨(((((h).2).2).2 c6).2).1, AW.blk kX9_loanOf_0 cX9_loanOf_0 (⟨⟨(((((((h).2).2).2 c6).2).2).1).1, (((((((h).2).2).2 c6).2).2).1).2⟩, ⟨(((((((h).2).2).2 c6).2).2).2).1, ⟨fun c5 => AW.blk kX9_lasts_14 cX9_lasts_14 (⟨(by decide), ⟨(by decide), ⟨fun _ => AW.blk kX9_filledSet_54 cX9_filledSet_54 (((((((((h).2).2).2 c6).2).2).2).2).1 c5), fun c => absurd c (by decide)⟩⟩⟩), fun c5 => AW.blk kX9_lasts_15 cX9_lasts_15 (⟨(by decide), ⟨(by decide), ⟨fun c => absurd c (by decide), fun _ => ⟨(((((((((h).2).2).2 c6).2).2).2).2).2 c5).1, AW.blk kX9_loanOf_0 cX9_loanOf_0 (⟨⟨(((((((((((h).2).2).2 c6).2).2).2).2).2 c5).2).1).1, (((((((((((h).2).2).2 c6).2).2).2).2).2 c5).2).1).2⟩, ⟨⟨((((((((((((h).2).2).2 c6).2).2).2).2).2 c5).2).2).1).1, ((((((((((((h).2).2).2 c6).2).2).2).2).2 c5).2).2).1).2⟩, ⟨fun c4 => AW.blk kX9_filledSet_54 cX9_filledSet_54 (((((((((((((h).2).2).2 c6).2).2).2).2).2 c5).2).2).2).1 c4), fun c4 => ⟨(((((((((((((h).2).2).2 c6).2).2).2).2).2 c5).2).2).2).2 c4).1, AW.blk kX9_loanOf_0 cX9_loanOf_0 (⟨⟨(((((((((((((((h).2).2).2 c6).2).2).2).2).2 c5).2).2).2).2 c4).2).1).1, (((((((((((((((h).2).2).2 c6).2).2).2).2).2 c5).2).2).2).2 c4).2).1).2⟩, ⟨(((((((((((((((h).2).2).2 c6).2).2).2).2).2 c5).2).2).2).2 c4).2).2).1, ⟨fun c3 => AW.blk kX9_filledSet_54 cX9_filledSet_54 (((((((((((((((((h).2).2).2 c6).2).2).2).2).2 c5).2).2).2).2 c4).2).2).2).1 c3), fun c3 => ⟨(((((((((((((((((h).2).2).2 c6).2).2).2).2).2 c5).2).2).2).2 c4).2).2).2).2 c3).1, AW.blk kX9_loanOf_0 cX9_loanOf_0 (⟨⟨(((((((((((((((((((h).2).2).2 c6).2).2).2).2).2 c5).2).2).2).2 c4).2).2).2).2 c3).2).1).1, (((((((((((((((((((h).2).2).2 c6).2).2).2).2).2 c5).2).2).2).2 c4).2).2).2).2 c3).2).1).2⟩, ⟨⟨((((((((((((((((((((h).2).2).2 c6).2).2).2).2).2 c5).2).2).2).2 c4).2).2).2).2 c3).2).2).1).1, ((((((((((((((((((((h).2).2).2 c6).2).2).2).2).2 c5).2).2).2).2 c4).2).2).2).2 c3).2).2).1).2⟩, (((((((((((((((((((h).2).2).2 c6).2).2).2).2).2 c5).2).2).2).2 c4).2).2).2).2 c3).2).2).2⟩⟩)⟩⟩⟩⟩)⟩⟩⟩⟩)⟩⟩⟩⟩)⟩⟩⟩)⟩)⟩⟩⟩⟩)⟩)
def kX9_filledBy_0 : List BI := [bi (.iconst 0) 1 [] 0, bi (.istore_n 3) 1 [] 0]
theorem cX9_filledBy_0 : chk mX9_filledBy 0 kX9_filledBy_0 = true := by decide +kernel
theorem mfilledBy_0 {d : Nat} {σ : SG} {Q : Option AV → SG → Prop} {t s : Int} (h : AW d mX9_filledBy 2 [some (.inr (.inr 42)), some (.inl t), some (.inl s), some (.inl 0)] [] σ Q) : AW d mX9_filledBy 0 [some (.inr (.inr 42)), some (.inl t), some (.inl s), none] [] σ Q := AW.blk kX9_filledBy_0 cX9_filledBy_0 (h)
def kX9_filledBy_47 : List BI := [bi (.iconst (-1)) 1 [] 0, bi (.ireturn) 1 [] 0]
theorem cX9_filledBy_47 : chk mX9_filledBy 47 kX9_filledBy_47 = true := by decide +kernel
def kX9_filledBy_41 : List BI := [bi (.iinc 3 (1)) 3 [] 0, bi (.goto (-42)) 3 [2] 0]
theorem cX9_filledBy_41 : chk mX9_filledBy 41 kX9_filledBy_41 = true := by decide +kernel
def kX9_filledBy_2 : List BI := [bi (.iload_n 3) 1 [] 0, bi (.aload_n 0) 1 [] 0, bi (.invokevirtual 335) 3 [mX9_loanMany, 1, 1, 9] 0, bi (.if_icmp .ge (40)) 3 [47] 0, bi (.aload_n 0) 1 [] 0, bi (.iload_n 3) 1 [] 0, bi (.invokevirtual 338) 3 [mX9_lasts, 2, 2, 9] 0, bi (.ifCond .eq (26)) 3 [41] 0, bi (.aload_n 0) 1 [] 0, bi (.iload_n 3) 1 [] 0, bi (.iconst 2) 1 [] 0, bi (.invokevirtual 332) 3 [mX9_loanOf, 3, 3, 9] 0, bi (.iload_n 1) 1 [] 0, bi (.if_icmp .ne (16)) 3 [41] 0, bi (.aload_n 0) 1 [] 0, bi (.iload_n 3) 1 [] 0, bi (.bipush (6)) 2 [] 0, bi (.invokevirtual 332) 3 [mX9_loanOf, 3, 3, 9] 0, bi (.iload_n 2) 1 [] 0, bi (.if_icmp .ne (5)) 3 [41] 0, bi (.iload_n 3) 1 [] 0, bi (.ireturn) 1 [] 0]
theorem cX9_filledBy_2 : chk mX9_filledBy 2 kX9_filledBy_2 = true := by decide +kernel
theorem mfilledBy_2 {d : Nat} {σ : SG} {Q : Option AV → SG → Prop} {t s l3 : Int} (h : (0 < d) ∧ (r3 l3 ∧ r3 (σ 69 1)) ∧ ((σ 69 1) ≤ l3 → Q (some (.inl ((-1)))) σ) ∧ (l3 < (σ 69 1) → (0 < d) ∧ (0 < d - 1) ∧ (0 ≤ ((62 + (8 * l3)) + 7) ∧ ((62 + (8 * l3)) + 7) < 254) ∧ (r3 (σ 69 ((62 + (8 * l3)) + 7))) ∧ ((σ 69 ((62 + (8 * l3)) + 7)) ≠ 0 → AW d mX9_filledBy 2 [some (.inr (.inr 42)), some (.inl t), some (.inl s), some (.inl (l3 + 1))] [] σ Q) ∧ ((σ 69 ((62 + (8 * l3)) + 7)) = 0 → (0 < d) ∧ (0 ≤ ((62 + (8 * l3)) + 2) ∧ ((62 + (8 * l3)) + 2) < 254) ∧ (r3 (σ 69 ((62 + (8 * l3)) + 2)) ∧ r3 t) ∧ ((σ 69 ((62 + (8 * l3)) + 2)) ≠ t → AW d mX9_filledBy 2 [some (.inr (.inr 42)), some (.inl t), some (.inl s), some (.inl (l3 + 1))] [] σ Q) ∧ ((σ 69 ((62 + (8 * l3)) + 2)) = t → (0 < d) ∧ (0 ≤ ((62 + (8 * l3)) + 6) ∧ ((62 + (8 * l3)) + 6) < 254) ∧ (r3 (σ 69 ((62 + (8 * l3)) + 6)) ∧ r3 s) ∧ ((σ 69 ((62 + (8 * l3)) + 6)) ≠ s → AW d mX9_filledBy 2 [some (.inr (.inr 42)), some (.inl t), some (.inl s), some (.inl (l3 + 1))] [] σ Q) ∧ ((σ 69 ((62 + (8 * l3)) + 6)) = s → Q (some (.inl l3)) σ))))) : AW d mX9_filledBy 2 [some (.inr (.inr 42)), some (.inl t), some (.inl s), some (.inl l3)] [] σ Q := AW.blk kX9_filledBy_2 cX9_filledBy_2 (⟨(h).1, AW.blk kX9_loanMany_0 cX9_loanMany_0 (⟨⟨(by decide), (by decide)⟩, ⟨⟨(((h).2).1).1, (((h).2).1).2⟩, ⟨fun c10 => AW.blk kX9_filledBy_47 cX9_filledBy_47 ((((h).2).2).1 c10), fun c10 => ⟨((((h).2).2).2 c10).1, AW.blk kX9_lasts_0 cX9_lasts_0 (⟨(((((h).2).2).2 c10).2).1, AW.blk kX9_loanOf_0 cX9_loanOf_0 (⟨⟨(((((((h).2).2).2 c10).2).2).1).1, (((((((h).2).2).2 c10).2).2).1).2⟩, ⟨(((((((h).2).2).2 c10).2).2).2).1, ⟨fun c9 => AW.blk kX9_lasts_14 cX9_lasts_14 (⟨(by decide), ⟨(by decide), ⟨fun _ => AW.blk kX9_filledBy_41 cX9_filledBy_41 (((((((((h).2).2).2 c10).2).2).2).2).1 c9), fun c => absurd c (by decide)⟩⟩⟩), fun c9 => AW.blk kX9_lasts_15 cX9_lasts_15 (⟨(by decide), ⟨(by decide), ⟨fun c => absurd c (by decide), fun _ => ⟨(((((((((h).2).2).2 c10).2).2).2).2).2 c9).1, AW.blk kX9_loanOf_0 cX9_loanOf_0 (⟨⟨(((((((((((h).2).2).2 c10).2).2).2).2).2 c9).2).1).1, (((((((((((h).2).2).2 c10).2).2).2).2).2 c9).2).1).2⟩, ⟨⟨((((((((((((h).2).2).2 c10).2).2).2).2).2 c9).2).2).1).1, ((((((((((((h).2).2).2 c10).2).2).2).2).2 c9).2).2).1).2⟩, ⟨fun c8 => AW.blk kX9_filledBy_41 cX9_filledBy_41 (((((((((((((h).2).2).2 c10).2).2).2).2).2 c9).2).2).2).1 c8), fun c8 => ⟨(((((((((((((h).2).2).2 c10).2).2).2).2).2 c9).2).2).2).2 c8).1, AW.blk kX9_loanOf_0 cX9_loanOf_0 (⟨⟨(((((((((((((((h).2).2).2 c10).2).2).2).2).2 c9).2).2).2).2 c8).2).1).1, (((((((((((((((h).2).2).2 c10).2).2).2).2).2 c9).2).2).2).2 c8).2).1).2⟩, ⟨⟨((((((((((((((((h).2).2).2 c10).2).2).2).2).2 c9).2).2).2).2 c8).2).2).1).1, ((((((((((((((((h).2).2).2 c10).2).2).2).2).2 c9).2).2).2).2 c8).2).2).1).2⟩, ⟨fun c7 => AW.blk kX9_filledBy_41 cX9_filledBy_41 (((((((((((((((((h).2).2).2 c10).2).2).2).2).2 c9).2).2).2).2 c8).2).2).2).1 c7), fun c7 => ((((((((((((((((h).2).2).2 c10).2).2).2).2).2 c9).2).2).2).2 c8).2).2).2).2 c7⟩⟩⟩)⟩⟩⟩⟩)⟩⟩⟩⟩)⟩⟩⟩)⟩)⟩⟩⟩⟩)⟩)
def kX9_lentBy_0 : List BI := [bi (.iconst 0) 1 [] 0, bi (.istore_n 3) 1 [] 0]
theorem cX9_lentBy_0 : chk mX9_lentBy 0 kX9_lentBy_0 = true := by decide +kernel
theorem mlentBy_0 {d : Nat} {σ : SG} {Q : Option AV → SG → Prop} {t s : Int} (h : AW d mX9_lentBy 2 [some (.inr (.inr 42)), some (.inl t), some (.inl s), some (.inl 0)] [] σ Q) : AW d mX9_lentBy 0 [some (.inr (.inr 42)), some (.inl t), some (.inl s), none] [] σ Q := AW.blk kX9_lentBy_0 cX9_lentBy_0 (h)
def kX9_lentBy_46 : List BI := [bi (.iconst (-1)) 1 [] 0, bi (.ireturn) 1 [] 0]
theorem cX9_lentBy_46 : chk mX9_lentBy 46 kX9_lentBy_46 = true := by decide +kernel
def kX9_lentBy_40 : List BI := [bi (.iinc 3 (1)) 3 [] 0, bi (.goto (-41)) 3 [2] 0]
theorem cX9_lentBy_40 : chk mX9_lentBy 40 kX9_lentBy_40 = true := by decide +kernel
def kX9_lentBy_2 : List BI := [bi (.iload_n 3) 1 [] 0, bi (.aload_n 0) 1 [] 0, bi (.invokevirtual 335) 3 [mX9_loanMany, 1, 1, 9] 0, bi (.if_icmp .ge (39)) 3 [46] 0, bi (.aload_n 0) 1 [] 0, bi (.iload_n 3) 1 [] 0, bi (.invokevirtual 338) 3 [mX9_lasts, 2, 2, 9] 0, bi (.ifCond .eq (25)) 3 [40] 0, bi (.aload_n 0) 1 [] 0, bi (.iload_n 3) 1 [] 0, bi (.iconst 0) 1 [] 0, bi (.invokevirtual 332) 3 [mX9_loanOf, 3, 3, 9] 0, bi (.iload_n 1) 1 [] 0, bi (.if_icmp .ne (15)) 3 [40] 0, bi (.aload_n 0) 1 [] 0, bi (.iload_n 3) 1 [] 0, bi (.iconst 1) 1 [] 0, bi (.invokevirtual 332) 3 [mX9_loanOf, 3, 3, 9] 0, bi (.iload_n 2) 1 [] 0, bi (.if_icmp .ne (5)) 3 [40] 0, bi (.iload_n 3) 1 [] 0, bi (.ireturn) 1 [] 0]
theorem cX9_lentBy_2 : chk mX9_lentBy 2 kX9_lentBy_2 = true := by decide +kernel
theorem mlentBy_2 {d : Nat} {σ : SG} {Q : Option AV → SG → Prop} {t s l3 : Int} (h : (0 < d) ∧ (r3 l3 ∧ r3 (σ 69 1)) ∧ ((σ 69 1) ≤ l3 → Q (some (.inl ((-1)))) σ) ∧ (l3 < (σ 69 1) → (0 < d) ∧ (0 < d - 1) ∧ (0 ≤ ((62 + (8 * l3)) + 7) ∧ ((62 + (8 * l3)) + 7) < 254) ∧ (r3 (σ 69 ((62 + (8 * l3)) + 7))) ∧ ((σ 69 ((62 + (8 * l3)) + 7)) ≠ 0 → AW d mX9_lentBy 2 [some (.inr (.inr 42)), some (.inl t), some (.inl s), some (.inl (l3 + 1))] [] σ Q) ∧ ((σ 69 ((62 + (8 * l3)) + 7)) = 0 → (0 < d) ∧ (0 ≤ ((62 + (8 * l3)) + 0) ∧ ((62 + (8 * l3)) + 0) < 254) ∧ (r3 (σ 69 ((62 + (8 * l3)) + 0)) ∧ r3 t) ∧ ((σ 69 ((62 + (8 * l3)) + 0)) ≠ t → AW d mX9_lentBy 2 [some (.inr (.inr 42)), some (.inl t), some (.inl s), some (.inl (l3 + 1))] [] σ Q) ∧ ((σ 69 ((62 + (8 * l3)) + 0)) = t → (0 < d) ∧ (0 ≤ ((62 + (8 * l3)) + 1) ∧ ((62 + (8 * l3)) + 1) < 254) ∧ (r3 (σ 69 ((62 + (8 * l3)) + 1)) ∧ r3 s) ∧ ((σ 69 ((62 + (8 * l3)) + 1)) ≠ s → AW d mX9_lentBy 2 [some (.inr (.inr 42)), some (.inl t), some (.inl s), some (.inl (l3 + 1))] [] σ Q) ∧ ((σ 69 ((62 + (8 * l3)) + 1)) = s → Q (some (.inl l3)) σ))))) : AW d mX9_lentBy 2 [some (.inr (.inr 42)), some (.inl t), some (.inl s), some (.inl l3)] [] σ Q := AW.blk kX9_lentBy_2 cX9_lentBy_2 (⟨(h).1, AW.blk kX9_loanMany_0 cX9_loanMany_0 (⟨⟨(by decide), (by decide)⟩, ⟨⟨(((h).2).1).1, (((h).2).1).2⟩, ⟨fun c14 => AW.blk kX9_lentBy_46 cX9_lentBy_46 ((((h).2).2).1 c14), fun c14 => ⟨((((h).2).2).2 c14).1, AW.blk kX9_lasts_0 cX9_lasts_0 (⟨(((((h).2).2).2 c14).2).1, AW.blk kX9_loanOf_0 cX9_loanOf_0 (⟨⟨(((((((h).2).2).2 c14).2).2).1).1, (((((((h).2).2).2 c14).2).2).1).2⟩, ⟨(((((((h).2).2).2 c14).2).2).2).1, ⟨fun c13 => AW.blk kX9_lasts_14 cX9_lasts_14 (⟨(by decide), ⟨(by decide), ⟨fun _ => AW.blk kX9_lentBy_40 cX9_lentBy_40 (((((((((h).2).2).2 c14).2).2).2).2).1 c13), fun c => absurd c (by decide)⟩⟩⟩), fun c13 => AW.blk kX9_lasts_15 cX9_lasts_15 (⟨(by decide), ⟨(by decide), ⟨fun c => absurd c (by decide), fun _ => ⟨(((((((((h).2).2).2 c14).2).2).2).2).2 c13).1, AW.blk kX9_loanOf_0 cX9_loanOf_0 (⟨⟨(((((((((((h).2).2).2 c14).2).2).2).2).2 c13).2).1).1, (((((((((((h).2).2).2 c14).2).2).2).2).2 c13).2).1).2⟩, ⟨⟨((((((((((((h).2).2).2 c14).2).2).2).2).2 c13).2).2).1).1, ((((((((((((h).2).2).2 c14).2).2).2).2).2 c13).2).2).1).2⟩, ⟨fun c12 => AW.blk kX9_lentBy_40 cX9_lentBy_40 (((((((((((((h).2).2).2 c14).2).2).2).2).2 c13).2).2).2).1 c12), fun c12 => ⟨(((((((((((((h).2).2).2 c14).2).2).2).2).2 c13).2).2).2).2 c12).1, AW.blk kX9_loanOf_0 cX9_loanOf_0 (⟨⟨(((((((((((((((h).2).2).2 c14).2).2).2).2).2 c13).2).2).2).2 c12).2).1).1, (((((((((((((((h).2).2).2 c14).2).2).2).2).2 c13).2).2).2).2 c12).2).1).2⟩, ⟨⟨((((((((((((((((h).2).2).2 c14).2).2).2).2).2 c13).2).2).2).2 c12).2).2).1).1, ((((((((((((((((h).2).2).2 c14).2).2).2).2).2 c13).2).2).2).2 c12).2).2).1).2⟩, ⟨fun c11 => AW.blk kX9_lentBy_40 cX9_lentBy_40 (((((((((((((((((h).2).2).2 c14).2).2).2).2).2 c13).2).2).2).2 c12).2).2).2).1 c11), fun c11 => ((((((((((((((((h).2).2).2 c14).2).2).2).2).2 c13).2).2).2).2 c12).2).2).2).2 c11⟩⟩⟩)⟩⟩⟩⟩)⟩⟩⟩⟩)⟩⟩⟩)⟩)⟩⟩⟩⟩)⟩)
def kX9_guardsOf_0 : List BI := [bi (.iconst 0) 1 [] 0, bi (.istore_n 3) 1 [] 0, bi (.iconst (-1)) 1 [] 0, bi (.istore 4) 2 [] 0, bi (.iconst 0) 1 [] 0, bi (.istore 5) 2 [] 0]
theorem cX9_guardsOf_0 : chk mX9_guardsOf 0 kX9_guardsOf_0 = true := by decide +kernel
theorem mguardsOf_0 {d : Nat} {σ : SG} {Q : Option AV → SG → Prop} {t w : Int} (h : AW d mX9_guardsOf 8 [some (.inr (.inr 42)), some (.inl t), some (.inl w), some (.inl 0), some (.inl ((-1))), some (.inl 0)] [] σ Q) : AW d mX9_guardsOf 0 [some (.inr (.inr 42)), some (.inl t), some (.inl w), none, none, none] [] σ Q := AW.blk kX9_guardsOf_0 cX9_guardsOf_0 (h)
def kX9_guardsOf_95 : List BI := [bi (.iload_n 3) 1 [] 0, bi (.ireturn) 1 [] 0]
theorem cX9_guardsOf_95 : chk mX9_guardsOf 95 kX9_guardsOf_95 = true := by decide +kernel
def kX9_guardsOf_96 : List BI := [bi (.ireturn) 1 [] 0]
theorem cX9_guardsOf_96 : chk mX9_guardsOf 96 kX9_guardsOf_96 = true := by decide +kernel
def kX9_guardsOf_86 : List BI := [bi (.iload_n 2) 1 [] 0, bi (.ifCond .eq (8)) 3 [95] 0, bi (.iload 4) 2 [] 0, bi (.goto (4)) 3 [96] 0]
theorem cX9_guardsOf_86 : chk mX9_guardsOf 86 kX9_guardsOf_86 = true := by decide +kernel
def kX9_guardsOf_64 : List BI := [bi (.aload_n 0) 1 [] 0, bi (.getfield 79) 3 [9, 31] 0, bi (.bipush (24)) 2 [] 0, bi (.iconst 3) 1 [] 0, bi (.iload 5) 2 [] 0, bi (.imul) 1 [] 0, bi (.iadd) 1 [] 0, bi (.iconst 1) 1 [] 0, bi (.iadd) 1 [] 0, bi (.iaload) 1 [] 0, bi (.istore 4) 2 [] 0, bi (.iinc 5 (1)) 3 [] 0, bi (.goto (-75)) 3 [8] 0]
theorem cX9_guardsOf_64 : chk mX9_guardsOf 64 kX9_guardsOf_64 = true := by decide +kernel
def kX9_guardsOf_80 : List BI := [bi (.iinc 5 (1)) 3 [] 0, bi (.goto (-75)) 3 [8] 0]
theorem cX9_guardsOf_80 : chk mX9_guardsOf 80 kX9_guardsOf_80 = true := by decide +kernel
def kX9_guardsOf_36 : List BI := [bi (.iinc 3 (1)) 3 [] 0, bi (.iload 4) 2 [] 0, bi (.iconst (-1)) 1 [] 0, bi (.if_icmp .eq (22)) 3 [64] 0, bi (.aload_n 0) 1 [] 0, bi (.getfield 79) 3 [9, 31] 0, bi (.bipush (24)) 2 [] 0, bi (.iconst 3) 1 [] 0, bi (.iload 5) 2 [] 0, bi (.imul) 1 [] 0, bi (.iadd) 1 [] 0, bi (.iconst 1) 1 [] 0, bi (.iadd) 1 [] 0, bi (.iaload) 1 [] 0, bi (.iload 4) 2 [] 0, bi (.if_icmp .ge (19)) 3 [80] 0, bi (.aload_n 0) 1 [] 0, bi (.getfield 79) 3 [9, 31] 0, bi (.bipush (24)) 2 [] 0, bi (.iconst 3) 1 [] 0, bi (.iload 5) 2 [] 0, bi (.imul) 1 [] 0, bi (.iadd) 1 [] 0, bi (.iconst 1) 1 [] 0, bi (.iadd) 1 [] 0, bi (.iaload) 1 [] 0, bi (.istore 4) 2 [] 0, bi (.iinc 5 (1)) 3 [] 0, bi (.goto (-75)) 3 [8] 0]
theorem cX9_guardsOf_36 : chk mX9_guardsOf 36 kX9_guardsOf_36 = true := by decide +kernel
def kX9_guardMany_0 : List BI := [bi (.aload_n 0) 1 [] 0, bi (.getfield 69) 3 [9, 28] 0, bi (.iconst 5) 1 [] 0, bi (.iaload) 1 [] 0, bi (.ireturn) 1 [] 0]
theorem cX9_guardMany_0 : chk mX9_guardMany 0 kX9_guardMany_0 = true := by decide +kernel
def kX9_guardsOf_8 : List BI := [bi (.iload 5) 2 [] 0, bi (.aload_n 0) 1 [] 0, bi (.invokevirtual 322) 3 [mX9_guardMany, 1, 1, 9] 0, bi (.if_icmp .ge (72)) 3 [86] 0, bi (.aload_n 0) 1 [] 0, bi (.getfield 79) 3 [9, 31] 0, bi (.bipush (24)) 2 [] 0, bi (.iconst 3) 1 [] 0, bi (.iload 5) 2 [] 0, bi (.imul) 1 [] 0, bi (.iadd) 1 [] 0, bi (.iaload) 1 [] 0, bi (.iload_n 1) 1 [] 0, bi (.if_icmp .eq (6)) 3 [36] 0, bi (.goto (47)) 3 [80] 0]
theorem cX9_guardsOf_8 : chk mX9_guardsOf 8 kX9_guardsOf_8 = true := by decide +kernel
theorem mguardsOf_8 {d : Nat} {σ : SG} {Q : Option AV → SG → Prop} {t w l3 l4 l5 : Int} (h : (0 < d) ∧ (r3 l5 ∧ r3 (σ 61 5)) ∧ ((σ 61 5) ≤ l5 → (r3 w) ∧ (w = 0 → Q (some (.inl l3)) σ) ∧ (w ≠ 0 → Q (some (.inl l4)) σ)) ∧ (l5 < (σ 61 5) → (0 ≤ (24 + (3 * l5)) ∧ (24 + (3 * l5)) < 48) ∧ (r3 (σ 64 (24 + (3 * l5))) ∧ r3 t) ∧ ((σ 64 (24 + (3 * l5))) = t → (r3 l4) ∧ (l4 = (-1) → (0 ≤ ((24 + (3 * l5)) + 1) ∧ ((24 + (3 * l5)) + 1) < 48) ∧ AW d mX9_guardsOf 8 [some (.inr (.inr 42)), some (.inl t), some (.inl w), some (.inl (l3 + 1)), some (.inl (σ 64 ((24 + (3 * l5)) + 1))), some (.inl (l5 + 1))] [] σ Q) ∧ (l4 ≠ (-1) → (0 ≤ ((24 + (3 * l5)) + 1) ∧ ((24 + (3 * l5)) + 1) < 48) ∧ (r3 (σ 64 ((24 + (3 * l5)) + 1)) ∧ r3 l4) ∧ (l4 ≤ (σ 64 ((24 + (3 * l5)) + 1)) → AW d mX9_guardsOf 8 [some (.inr (.inr 42)), some (.inl t), some (.inl w), some (.inl (l3 + 1)), some (.inl l4), some (.inl (l5 + 1))] [] σ Q) ∧ ((σ 64 ((24 + (3 * l5)) + 1)) < l4 → (0 ≤ ((24 + (3 * l5)) + 1) ∧ ((24 + (3 * l5)) + 1) < 48) ∧ AW d mX9_guardsOf 8 [some (.inr (.inr 42)), some (.inl t), some (.inl w), some (.inl (l3 + 1)), some (.inl (σ 64 ((24 + (3 * l5)) + 1))), some (.inl (l5 + 1))] [] σ Q))) ∧ ((σ 64 (24 + (3 * l5))) ≠ t → AW d mX9_guardsOf 8 [some (.inr (.inr 42)), some (.inl t), some (.inl w), some (.inl l3), some (.inl l4), some (.inl (l5 + 1))] [] σ Q))) : AW d mX9_guardsOf 8 [some (.inr (.inr 42)), some (.inl t), some (.inl w), some (.inl l3), some (.inl l4), some (.inl l5)] [] σ Q := AW.blk kX9_guardsOf_8 cX9_guardsOf_8 (⟨(h).1, AW.blk kX9_guardMany_0 cX9_guardMany_0 (⟨⟨(by decide), (by decide)⟩, ⟨⟨(((h).2).1).1, (((h).2).1).2⟩, ⟨fun c19 => AW.blk kX9_guardsOf_86 cX9_guardsOf_86 (⟨((((h).2).2).1 c19).1, ⟨fun c15 => AW.blk kX9_guardsOf_95 cX9_guardsOf_95 ((((((h).2).2).1 c19).2).1 c15), fun c15 => AW.blk kX9_guardsOf_96 cX9_guardsOf_96 ((((((h).2).2).1 c19).2).2 c15)⟩⟩), fun c19 => ⟨⟨(((((h).2).2).2 c19).1).1, (((((h).2).2).2 c19).1).2⟩, ⟨⟨((((((h).2).2).2 c19).2).1).1, ((((((h).2).2).2 c19).2).1).2⟩, ⟨fun c18 => AW.blk kX9_guardsOf_36 cX9_guardsOf_36 (⟨⟨(((((((h).2).2).2 c19).2).2).1 c18).1, (by decide)⟩, ⟨fun c17 => AW.blk kX9_guardsOf_64 cX9_guardsOf_64 (⟨⟨((((((((((h).2).2).2 c19).2).2).1 c18).2).1 c17).1).1, ((((((((((h).2).2).2 c19).2).2).1 c18).2).1 c17).1).2⟩, (((((((((h).2).2).2 c19).2).2).1 c18).2).1 c17).2⟩), fun c17 => ⟨⟨((((((((((h).2).2).2 c19).2).2).1 c18).2).2 c17).1).1, ((((((((((h).2).2).2 c19).2).2).1 c18).2).2 c17).1).2⟩, ⟨⟨(((((((((((h).2).2).2 c19).2).2).1 c18).2).2 c17).2).1).1, (((((((((((h).2).2).2 c19).2).2).1 c18).2).2 c17).2).1).2⟩, ⟨fun c16 => AW.blk kX9_guardsOf_80 cX9_guardsOf_80 ((((((((((((h).2).2).2 c19).2).2).1 c18).2).2 c17).2).2).1 c16), fun c16 => ⟨⟨(((((((((((((h).2).2).2 c19).2).2).1 c18).2).2 c17).2).2).2 c16).1).1, (((((((((((((h).2).2).2 c19).2).2).1 c18).2).2 c17).2).2).2 c16).1).2⟩, ((((((((((((h).2).2).2 c19).2).2).1 c18).2).2 c17).2).2).2 c16).2⟩⟩⟩⟩⟩⟩), fun c18 => AW.blk kX9_guardsOf_80 cX9_guardsOf_80 (((((((h).2).2).2 c19).2).2).2 c18)⟩⟩⟩⟩⟩⟩)⟩)

/-- what the loans of the reference's row keep to -/
def MLR (g : Int → Int) : Prop := (0 ≤ g 1 ∧ g 1 ≤ 24) ∧ ∀ i, 0 ≤ i → i < g 1 → (0 ≤ g (62 + 8 * i + 0) ∧ g (62 + 8 * i + 0) < 4) ∧ (1 ≤ g (62 + 8 * i + 1) ∧ g (62 + 8 * i + 1) ≤ 14) ∧ (0 ≤ g (62 + 8 * i + 2) ∧ g (62 + 8 * i + 2) < 4) ∧ (0 ≤ g (62 + 8 * i + 3) ∧ g (62 + 8 * i + 3) ≤ 99) ∧ (0 ≤ g (62 + 8 * i + 4) ∧ g (62 + 8 * i + 4) ≤ 99) ∧ (0 ≤ g (62 + 8 * i + 5) ∧ g (62 + 8 * i + 5) ≤ 99) ∧ (0 ≤ g (62 + 8 * i + 6) ∧ g (62 + 8 * i + 6) ≤ 14) ∧ (g (62 + 8 * i + 7) = 0 ∨ g (62 + 8 * i + 7) = 1)
/-- what the steps of tower t of the reference's row keep to, up to its height -/
def MSR (g : Int → Int) (t ht : Int) : Prop := ∀ i, 0 ≤ i → i < ht → 0 ≤ g (6 + 14 * t + i) ∧ g (6 + 14 * t + i) ≤ 3
def hwB (g : Int → Int) (t w : Int) : Int → Int → Int := fun i a => if g (6 + 14 * t + i) = w then bor a (1 * 2 ^ i.toNat) else a
theorem mhowSet_ok {d : Nat} {σ : SG} {Q : Option AV → SG → Prop} {t w : Int} (h : (1 ≤ d ∧ 0 ≤ t ∧ t < 4 ∧ r3 w ∧ 0 ≤ σ 63 (8 + 2 * t) ∧ σ 63 (8 + 2 * t) ≤ 14 ∧ MSR (σ 69) t (σ 63 (8 + 2 * t))) ∧ Q (some (.inl (foI (hwB (σ 69) t w) 0 (σ 63 (8 + 2 * t))))) σ) : AW d mX9_howSet 0 [some (.inr (.inr 42)), some (.inl t), some (.inl w), none, none] [] σ Q := by
  obtain ⟨⟨hd, ht0, ht1, hw, hh0, hh1, hR⟩, hq⟩ := h
  refine mhowSet_0 ?_
  have key := downInd (P := fun i => AW d mX9_howSet 5 [some (.inr (.inr 42)), some (.inl t), some (.inl w), some (.inl (foI (hwB (σ 69) t w) 0 i)), some (.inl (i + 1))] [] σ Q) (lo := 0) (hi := σ 63 (8 + 2 * t)) hh0 ?_ ?_
  · rwa [show (0 : Int) + 1 = 1 from rfl] at key
  · exact mhowSet_5 ⟨by omega, by omega, by omega, fun _ => hq, fun c => by omega⟩
  · intro i h0 h1 ih
    have hi := hR i h0 h1
    have e : 6 + 14 * t + (i + 1) - 1 = 6 + 14 * t + i := by omega
    have e2 : (i + 1 - 1).toNat = i.toNat := by omega
    rw [foI_s _ _ h0] at ih
    refine mhowSet_5 ⟨by omega, by omega, by omega, fun c => by omega, fun _ => ⟨by omega, by omega, ?_, fun c => ?_, fun c => ⟨by omega, ?_⟩⟩⟩
    · rw [e]
      exact ⟨by omega, hw⟩
    · rw [e] at c
      rwa [hwB, if_neg c] at ih
    · rw [e] at c
      rw [e2]
      rwa [hwB, if_pos c] at ih
def fsB (g : Int → Int) (t : Int) : Int → Int → Int := fun i a => if g (62 + 8 * i + 7) = 0 ∧ g (62 + 8 * i + 2) = t ∧ 0 < g (62 + 8 * i + 6) then bor a (1 * 2 ^ (g (62 + 8 * i + 6) - 1).toNat) else a
theorem mfilledSet_ok {d : Nat} {σ : SG} {Q : Option AV → SG → Prop} {t : Int} (h : (2 ≤ d ∧ MLR (σ 69) ∧ r3 t) ∧ Q (some (.inl (foI (fsB (σ 69) t) 0 (σ 69 1)))) σ) : AW d mX9_filledSet 0 [some (.inr (.inr 42)), some (.inl t), none, none] [] σ Q := by
  obtain ⟨⟨hd, ⟨hc, hL⟩, ht⟩, hq⟩ := h
  refine mfilledSet_0 ?_
  refine downInd (P := fun i => AW d mX9_filledSet 4 [some (.inr (.inr 42)), some (.inl t), some (.inl (foI (fsB (σ 69) t) 0 i)), some (.inl i)] [] σ Q) (hi := σ 69 1) hc.1 ?_ ?_
  · exact mfilledSet_4 ⟨by omega, by omega, fun _ => hq, fun c => by omega⟩
  · intro i h0 h1 ih
    have hi := hL i h0 h1
    rw [foI_s _ _ h0] at ih
    refine mfilledSet_4 ⟨by omega, by omega, fun c => by omega, fun _ => ⟨by omega, by omega, by omega, by omega, fun c => ?_, fun c => ⟨by omega, by omega, by omega, fun c2 => ?_, fun c2 => ⟨by omega, by omega, by omega, fun c3 => ?_, fun c3 => ⟨by omega, by omega, by omega, ?_⟩⟩⟩⟩⟩
    · rwa [fsB, if_neg (fun z => c z.1)] at ih
    · rwa [fsB, if_neg (fun z => c2 z.2.1)] at ih
    · rwa [fsB, if_neg (fun z => Int.not_lt.mpr c3 z.2.2)] at ih
    · rwa [fsB, if_pos ⟨c, c2, c3⟩] at ih
def mfB (g : Int → Int) (t s : Int) : Int → Bool := fun i => decide (g (62 + 8 * i + 7) = 0 ∧ g (62 + 8 * i + 2) = t ∧ g (62 + 8 * i + 6) = s)
theorem mfilledBy_ok {d : Nat} {σ : SG} {Q : Option AV → SG → Prop} {t s : Int} (h : (2 ≤ d ∧ MLR (σ 69) ∧ r3 t ∧ r3 s) ∧ Q (some (.inl (fstI (mfB (σ 69) t s) (σ 69 1)))) σ) : AW d mX9_filledBy 0 [some (.inr (.inr 42)), some (.inl t), some (.inl s), none] [] σ Q := by
  obtain ⟨⟨hd, ⟨hc, hL⟩, ht, hs⟩, hq⟩ := h
  refine mfilledBy_0 ?_
  refine downInd (P := fun i => fstI (mfB (σ 69) t s) i = -1 → AW d mX9_filledBy 2 [some (.inr (.inr 42)), some (.inl t), some (.inl s), some (.inl i)] [] σ Q) (hi := σ 69 1) hc.1 ?_ ?_ rfl
  · intro hn
    rw [hn] at hq
    exact mfilledBy_2 ⟨by omega, by omega, fun _ => hq, fun c => by omega⟩
  · intro i h0 h1 ih hn
    have hi := hL i h0 h1
    have hs1 := fstI_s (mfB (σ 69) t s) h0
    rw [if_pos hn] at hs1
    refine mfilledBy_2 ⟨by omega, by omega, fun c => by omega, fun _ => ⟨by omega, by omega, by omega, by omega, fun c => ih ?_, fun c => ⟨by omega, by omega, by omega, fun c2 => ih ?_, fun c2 => ⟨by omega, by omega, by omega, fun c3 => ih ?_, fun c3 => ?_⟩⟩⟩⟩
    · rw [hs1, if_neg]
      intro z
      simp only [mfB, decide_eq_true_eq] at z
      exact c z.1
    · rw [hs1, if_neg]
      intro z
      simp only [mfB, decide_eq_true_eq] at z
      exact c2 z.2.1
    · rw [hs1, if_neg]
      intro z
      simp only [mfB, decide_eq_true_eq] at z
      exact c3 z.2.2
    · have hp1 : mfB (σ 69) t s i = true := by simp only [mfB, decide_eq_true_eq]; exact ⟨c, c2, c3⟩
      rw [fstI_hit _ h0 h1 hn hp1] at hq
      exact hq
def mlB (g : Int → Int) (t s : Int) : Int → Bool := fun i => decide (g (62 + 8 * i + 7) = 0 ∧ g (62 + 8 * i + 0) = t ∧ g (62 + 8 * i + 1) = s)
theorem mlentBy_ok {d : Nat} {σ : SG} {Q : Option AV → SG → Prop} {t s : Int} (h : (2 ≤ d ∧ MLR (σ 69) ∧ r3 t ∧ r3 s) ∧ Q (some (.inl (fstI (mlB (σ 69) t s) (σ 69 1)))) σ) : AW d mX9_lentBy 0 [some (.inr (.inr 42)), some (.inl t), some (.inl s), none] [] σ Q := by
  obtain ⟨⟨hd, ⟨hc, hL⟩, ht, hs⟩, hq⟩ := h
  refine mlentBy_0 ?_
  refine downInd (P := fun i => fstI (mlB (σ 69) t s) i = -1 → AW d mX9_lentBy 2 [some (.inr (.inr 42)), some (.inl t), some (.inl s), some (.inl i)] [] σ Q) (hi := σ 69 1) hc.1 ?_ ?_ rfl
  · intro hn
    rw [hn] at hq
    exact mlentBy_2 ⟨by omega, by omega, fun _ => hq, fun c => by omega⟩
  · intro i h0 h1 ih hn
    have hi := hL i h0 h1
    have hs1 := fstI_s (mlB (σ 69) t s) h0
    rw [if_pos hn] at hs1
    refine mlentBy_2 ⟨by omega, by omega, fun c => by omega, fun _ => ⟨by omega, by omega, by omega, by omega, fun c => ih ?_, fun c => ⟨by omega, by omega, by omega, fun c2 => ih ?_, fun c2 => ⟨by omega, by omega, by omega, fun c3 => ih ?_, fun c3 => ?_⟩⟩⟩⟩
    · rw [hs1, if_neg]
      intro z
      simp only [mlB, decide_eq_true_eq] at z
      exact c z.1
    · rw [hs1, if_neg]
      intro z
      simp only [mlB, decide_eq_true_eq] at z
      exact c2 z.2.1
    · rw [hs1, if_neg]
      intro z
      simp only [mlB, decide_eq_true_eq] at z
      exact c3 z.2.2
    · have hp1 : mlB (σ 69) t s i = true := by simp only [mlB, decide_eq_true_eq]; exact ⟨c, c2, c3⟩
      rw [fstI_hit _ h0 h1 hn hp1] at hq
      exact hq
/-- what the guards of the reference keep to -/
def MGR (σ : SG) : Prop := (0 ≤ σ 61 5 ∧ σ 61 5 ≤ 8) ∧ ∀ g, 0 ≤ g → g < σ 61 5 → 0 ≤ σ 64 (24 + 3 * g) ∧ σ 64 (24 + 3 * g) < 4 ∧ 1 ≤ σ 64 (24 + 3 * g + 1) ∧ σ 64 (24 + 3 * g + 1) ≤ 6
def mgB (f : Int → Int) (t : Int) : Int → Int → Int := fun g a => if f (24 + 3 * g) = t then a + 1 else a
def mlgB (f : Int → Int) (t : Int) : Int → Int → Int := fun g a => if f (24 + 3 * g) = t ∧ (a = -1 ∨ f (24 + 3 * g + 1) < a) then f (24 + 3 * g + 1) else a
theorem mlgB_r {σ : SG} {t : Int} (hR : MGR σ) : ∀ i, 0 ≤ i → i ≤ σ 61 5 → foI (mlgB (σ 64) t) (-1) i = -1 ∨ (1 ≤ foI (mlgB (σ 64) t) (-1) i ∧ foI (mlgB (σ 64) t) (-1) i ≤ 6) := by
  have key : ∀ n : Nat, (n : Int) ≤ σ 61 5 → foI (mlgB (σ 64) t) (-1) n = -1 ∨ (1 ≤ foI (mlgB (σ 64) t) (-1) n ∧ foI (mlgB (σ 64) t) (-1) n ≤ 6) := by
    intro n
    induction n with
    | zero => intro _; exact Or.inl rfl
    | succ n ih =>
      intro hn
      have hg := hR.2 n (by omega) (by omega)
      have ih := ih (by omega)
      rw [show ((n + 1 : Nat) : Int) = (n : Int) + 1 by omega, foI_s _ _ (by omega)]
      unfold mlgB
      split
      · exact Or.inr ⟨hg.2.2.1, hg.2.2.2⟩
      · exact ih
  intro i h0 h1
  have := key i.toNat (by omega)
  rwa [show ((i.toNat : Nat) : Int) = i by omega] at this
theorem mguardsOf_ok {d : Nat} {σ : SG} {Q : Option AV → SG → Prop} {t w : Int} (h : (1 ≤ d ∧ MGR σ ∧ r3 t ∧ r3 w) ∧ Q (some (.inl (if w = 0 then foI (mgB (σ 64) t) 0 (σ 61 5) else foI (mlgB (σ 64) t) (-1) (σ 61 5)))) σ) : AW d mX9_guardsOf 0 [some (.inr (.inr 42)), some (.inl t), some (.inl w), none, none, none] [] σ Q := by
  obtain ⟨⟨hd, hR, ht, hw⟩, hq⟩ := h
  have hR1 := hR.1
  refine mguardsOf_0 ?_
  refine downInd (P := fun i => AW d mX9_guardsOf 8 [some (.inr (.inr 42)), some (.inl t), some (.inl w), some (.inl (foI (mgB (σ 64) t) 0 i)), some (.inl (foI (mlgB (σ 64) t) (-1) i)), some (.inl i)] [] σ Q) (lo := 0) (hi := σ 61 5) hR1.1 ?_ ?_
  · refine mguardsOf_8 ⟨by omega, by omega, fun _ => ⟨hw, fun c => ?_, fun c => ?_⟩, fun c => by omega⟩
    · rwa [if_pos c] at hq
    · rwa [if_neg c] at hq
  · intro i h0 h1 ih
    have hg := hR.2 i h0 h1
    have hl := mlgB_r (t := t) hR i h0 (by omega)
    rw [foI_s _ _ h0, foI_s _ _ h0] at ih
    refine mguardsOf_8 ⟨by omega, by omega, fun c => by omega, fun _ => ⟨by omega, by omega, fun c => ⟨by omega, fun c2 => ⟨by omega, ?_⟩, fun c2 => ⟨by omega, by omega, fun c3 => ?_, fun c3 => ⟨by omega, ?_⟩⟩⟩, fun c => ?_⟩⟩
    · rwa [mgB, if_pos c, mlgB, if_pos ⟨c, Or.inl c2⟩] at ih
    · rwa [mgB, if_pos c, mlgB, if_neg (fun z => by rcases z.2 with z | z <;> omega)] at ih
    · rwa [mgB, if_pos c, mlgB, if_pos ⟨c, Or.inr c3⟩] at ih
    · rwa [mgB, if_neg c, mlgB, if_neg (fun z => c z.1)] at ih
