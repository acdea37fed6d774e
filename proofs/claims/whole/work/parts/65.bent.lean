/-! ===== the least wood: the reference (wip/whole/gen65.py) ===== -/
def kX9_bentUp_0 : List BI := [bi (.aload_n 0) 1 [] 0, bi (.iload_n 1) 1 [] 0, bi (.invokevirtual 350) 3 [mX9_standSet, 2, 2, 9] 0, bi (.istore_n 3) 1 [] 0, bi (.aload_n 0) 1 [] 0, bi (.getfield 97) 3 [9, 38] 0, bi (.iconst 0) 1 [] 0, bi (.iconst 0) 1 [] 0, bi (.iastore) 1 [] 0, bi (.iconst 1) 1 [] 0, bi (.istore 4) 2 [] 0]
theorem cX9_bentUp_0 : chk mX9_bentUp 0 kX9_bentUp_0 = true := by decide +kernel
theorem mbent_0 {d : Nat} {σ : SG} {Q : Option AV → SG → Prop} {t lg : Int} (h : (0 < d) ∧ (0 < d - 1) ∧ (mhwO (d - 1 - 1) σ t 0) ∧ (0 < d - 1) ∧ (2 ≤ d - 1 - 1 ∧ MLR (σ 69) ∧ r3 t) ∧ (∀ S1 : SG, S1 = up σ 70 0 0 → AW d mX9_bentUp 16 [some (.inr (.inr 42)), some (.inl t), some (.inl lg), some (.inl (bor (foI (hwB (σ 69) t 0) 0 (σ 63 (8 + 2 * t))) (foI (fsB (σ 69) t) 0 (σ 69 1)))), some (.inl 1), none, none, none] [] S1 Q)) : AW d mX9_bentUp 0 [some (.inr (.inr 42)), some (.inl t), some (.inl lg), none, none, none, none, none] [] σ Q := AW.blk kX9_bentUp_0 cX9_bentUp_0 (⟨(h).1, AW.blk kX9_standSet_0 cX9_standSet_0 (⟨((h).2).1, mhow2_ok ⟨(((h).2).2).1, ⟨((((h).2).2).2).1, mfilledSet_ok ⟨(((((h).2).2).2).2).1, ⟨⟨(by decide), (by decide)⟩, ((((((h).2).2).2).2).2) _ rfl⟩⟩⟩⟩⟩)⟩)
def kX9_bentUp_169 : List BI := [bi (.aload_n 0) 1 [] 0, bi (.getfield 97) 3 [9, 38] 0, bi (.aload_n 0) 1 [] 0, bi (.iload_n 1) 1 [] 0, bi (.invokevirtual 328) 3 [mX9_stepsOf, 2, 2, 9] 0, bi (.iaload) 1 [] 0, bi (.ireturn) 1 [] 0]
theorem cX9_bentUp_169 : chk mX9_bentUp 169 kX9_bentUp_169 = true := by decide +kernel
def kX9_bentUp_72 : List BI := [bi (.iconst 0) 1 [] 0, bi (.istore 6) 2 [] 0]
theorem cX9_bentUp_72 : chk mX9_bentUp 72 kX9_bentUp_72 = true := by decide +kernel
def kX9_bentUp_163 : List BI := [bi (.iinc 4 (1)) 3 [] 0, bi (.goto (-150)) 3 [16] 0]
theorem cX9_bentUp_163 : chk mX9_bentUp 163 kX9_bentUp_163 = true := by decide +kernel
def kX9_bentUp_42 : List BI := [bi (.iconst 0) 1 [] 0, bi (.istore 5) 2 [] 0, bi (.aload_n 0) 1 [] 0, bi (.getfield 97) 3 [9, 38] 0, bi (.iload 4) 2 [] 0, bi (.iconst (-1)) 1 [] 0, bi (.iastore) 1 [] 0, bi (.iload 5) 2 [] 0, bi (.ifCond .ne (17)) 3 [72] 0, bi (.aload_n 0) 1 [] 0, bi (.iload_n 1) 1 [] 0, bi (.iload 4) 2 [] 0, bi (.invokevirtual 341) 3 [mX9_howIs, 3, 3, 9] 0, bi (.iconst 3) 1 [] 0, bi (.if_icmp .eq (6)) 3 [72] 0, bi (.goto (94)) 3 [163] 0]
theorem cX9_bentUp_42 : chk mX9_bentUp 42 kX9_bentUp_42 = true := by decide +kernel
def kX9_bentUp_43 : List BI := [bi (.istore 5) 2 [] 0, bi (.aload_n 0) 1 [] 0, bi (.getfield 97) 3 [9, 38] 0, bi (.iload 4) 2 [] 0, bi (.iconst (-1)) 1 [] 0, bi (.iastore) 1 [] 0, bi (.iload 5) 2 [] 0, bi (.ifCond .ne (17)) 3 [72] 0, bi (.aload_n 0) 1 [] 0, bi (.iload_n 1) 1 [] 0, bi (.iload 4) 2 [] 0, bi (.invokevirtual 341) 3 [mX9_howIs, 3, 3, 9] 0, bi (.iconst 3) 1 [] 0, bi (.if_icmp .eq (6)) 3 [72] 0, bi (.goto (94)) 3 [163] 0]
theorem cX9_bentUp_43 : chk mX9_bentUp 43 kX9_bentUp_43 = true := by decide +kernel
def kX9_bentUp_16 : List BI := [bi (.iload 4) 2 [] 0, bi (.aload_n 0) 1 [] 0, bi (.iload_n 1) 1 [] 0, bi (.invokevirtual 328) 3 [mX9_stepsOf, 2, 2, 9] 0, bi (.if_icmp .gt (146)) 3 [169] 0, bi (.iload_n 3) 1 [] 0, bi (.iload 4) 2 [] 0, bi (.iconst 1) 1 [] 0, bi (.isub) 1 [] 0, bi (.ishr) 1 [] 0, bi (.iconst 1) 1 [] 0, bi (.iand) 1 [] 0, bi (.iconst 1) 1 [] 0, bi (.if_icmp .ne (7)) 3 [42] 0, bi (.iconst 1) 1 [] 0, bi (.goto (4)) 3 [43] 0]
theorem cX9_bentUp_16 : chk mX9_bentUp 16 kX9_bentUp_16 = true := by decide +kernel
theorem mbent_16 {d : Nat} {σ : SG} {Q : Option AV → SG → Prop} {t lg l3 l4 : Int} (h : (0 < d) ∧ (0 ≤ (8 + (2 * t)) ∧ (8 + (2 * t)) < 16) ∧ (r3 l4 ∧ r3 (σ 63 (8 + (2 * t)))) ∧ ((σ 63 (8 + (2 * t))) < l4 → (0 < d) ∧ (0 ≤ (8 + (2 * t)) ∧ (8 + (2 * t)) < 16) ∧ (0 ≤ (σ 63 (8 + (2 * t))) ∧ (σ 63 (8 + (2 * t))) < 30) ∧ Q (some (.inl (σ 70 (σ 63 (8 + (2 * t)))))) σ) ∧ (l4 ≤ (σ 63 (8 + (2 * t))) → (0 ≤ (l4 - 1) ∧ (l4 - 1) < 32 ∧ r3 l3) ∧ (r3 (band (l3 / 2 ^ Int.toNat (l4 - 1)) 1)) ∧ ((band (l3 / 2 ^ Int.toNat (l4 - 1)) 1) ≠ 1 → (0 ≤ l4 ∧ l4 < 30) ∧ (∀ S2 : SG, S2 = up σ 70 l4 (-1) → (0 < d) ∧ (0 ≤ (((6 + (14 * t)) + l4) - 1) ∧ (((6 + (14 * t)) + l4) - 1) < 254) ∧ (r3 (S2 69 (((6 + (14 * t)) + l4) - 1))) ∧ ((S2 69 (((6 + (14 * t)) + l4) - 1)) = 3 → AW d mX9_bentUp 75 [some (.inr (.inr 42)), some (.inl t), some (.inl lg), some (.inl l3), some (.inl l4), some (.inl 0), some (.inl 0), none] [] S2 Q) ∧ ((S2 69 (((6 + (14 * t)) + l4) - 1)) ≠ 3 → AW d mX9_bentUp 16 [some (.inr (.inr 42)), some (.inl t), some (.inl lg), some (.inl l3), some (.inl (l4 + 1)), none, none, none] [] S2 Q))) ∧ ((band (l3 / 2 ^ Int.toNat (l4 - 1)) 1) = 1 → (0 ≤ l4 ∧ l4 < 30) ∧ (∀ S4 : SG, S4 = up σ 70 l4 (-1) → AW d mX9_bentUp 75 [some (.inr (.inr 42)), some (.inl t), some (.inl lg), some (.inl l3), some (.inl l4), some (.inl 1), some (.inl 0), none] [] S4 Q)))) : AW d mX9_bentUp 16 [some (.inr (.inr 42)), some (.inl t), some (.inl lg), some (.inl l3), some (.inl l4), none, none, none] [] σ Q := AW.blk kX9_bentUp_16 cX9_bentUp_16 (⟨(h).1, AW.blk kX9_stepsOf_0 cX9_stepsOf_0 (⟨⟨(((h).2).1).1, (((h).2).1).2⟩, ⟨⟨((((h).2).2).1).1, ((((h).2).2).1).2⟩, ⟨fun c6 => AW.blk kX9_bentUp_169 cX9_bentUp_169 (⟨(((((h).2).2).2).1 c6).1, AW.blk kX9_stepsOf_0 cX9_stepsOf_0 (⟨⟨(((((((h).2).2).2).1 c6).2).1).1, (((((((h).2).2).2).1 c6).2).1).2⟩, ⟨⟨((((((((h).2).2).2).1 c6).2).2).1).1, ((((((((h).2).2).2).1 c6).2).2).1).2⟩, (((((((h).2).2).2).1 c6).2).2).2⟩⟩)⟩), fun c6 => ⟨⟨((((((h).2).2).2).2 c6).1).1, (((((((h).2).2).2).2 c6).1).2).1, (((((((h).2).2).2).2 c6).1).2).2⟩, ⟨⟨((((((h).2).2).2).2 c6).2).1, (by decide)⟩, ⟨fun c5 => AW.blk kX9_bentUp_42 cX9_bentUp_42 (⟨⟨(((((((((h).2).2).2).2 c6).2).2).1 c5).1).1, (((((((((h).2).2).2).2 c6).2).2).1 c5).1).2⟩, ⟨(by decide), ⟨fun c => absurd c (by decide), fun _ => ⟨((((((((((h).2).2).2).2 c6).2).2).1 c5).2) _ rfl).1, AW.blk kX9_howIs_0 cX9_howIs_0 (⟨⟨((((((((((((h).2).2).2).2 c6).2).2).1 c5).2) _ rfl).2).1).1, ((((((((((((h).2).2).2).2 c6).2).2).1 c5).2) _ rfl).2).1).2⟩, ⟨⟨((((((((((((h).2).2).2).2 c6).2).2).1 c5).2) _ rfl).2).2).1, (by decide)⟩, ⟨fun c3 => AW.blk kX9_bentUp_72 cX9_bentUp_72 ((((((((((((((h).2).2).2).2 c6).2).2).1 c5).2) _ rfl).2).2).2).1 c3), fun c3 => AW.blk kX9_bentUp_163 cX9_bentUp_163 (AW.drop 5 ((((((((((((((h).2).2).2).2 c6).2).2).1 c5).2) _ rfl).2).2).2).2 c3))⟩⟩⟩)⟩⟩⟩⟩), fun c5 => AW.blk kX9_bentUp_43 cX9_bentUp_43 (⟨⟨(((((((((h).2).2).2).2 c6).2).2).2 c5).1).1, (((((((((h).2).2).2).2 c6).2).2).2 c5).1).2⟩, ⟨(by decide), ⟨fun _ => AW.blk kX9_bentUp_72 cX9_bentUp_72 ((((((((((h).2).2).2).2 c6).2).2).2 c5).2) _ rfl), fun c => absurd c (by decide)⟩⟩⟩)⟩⟩⟩⟩⟩⟩)⟩)
def kX9_bentUp_157 : List BI := [bi (.iinc 6 (1)) 3 [] 0, bi (.goto (-85)) 3 [75] 0]
theorem cX9_bentUp_157 : chk mX9_bentUp 157 kX9_bentUp_157 = true := by decide +kernel
def kX9_bentUp_148 : List BI := [bi (.aload_n 0) 1 [] 0, bi (.getfield 97) 3 [9, 38] 0, bi (.iload 4) 2 [] 0, bi (.iload 7) 2 [] 0, bi (.iastore) 1 [] 0, bi (.iinc 6 (1)) 3 [] 0, bi (.goto (-85)) 3 [75] 0]
theorem cX9_bentUp_148 : chk mX9_bentUp 148 kX9_bentUp_148 = true := by decide +kernel
def kX9_bentUp_121 : List BI := [bi (.iconst 1) 1 [] 0, bi (.iadd) 1 [] 0, bi (.istore 7) 2 [] 0, bi (.aload_n 0) 1 [] 0, bi (.getfield 97) 3 [9, 38] 0, bi (.iload 4) 2 [] 0, bi (.iaload) 1 [] 0, bi (.iconst (-1)) 1 [] 0, bi (.if_icmp .eq (15)) 3 [148] 0, bi (.iload 7) 2 [] 0, bi (.aload_n 0) 1 [] 0, bi (.getfield 97) 3 [9, 38] 0, bi (.iload 4) 2 [] 0, bi (.iaload) 1 [] 0, bi (.if_icmp .ge (12)) 3 [157] 0, bi (.aload_n 0) 1 [] 0, bi (.getfield 97) 3 [9, 38] 0, bi (.iload 4) 2 [] 0, bi (.iload 7) 2 [] 0, bi (.iastore) 1 [] 0, bi (.iinc 6 (1)) 3 [] 0, bi (.goto (-85)) 3 [75] 0]
theorem cX9_bentUp_121 : chk mX9_bentUp 121 kX9_bentUp_121 = true := by decide +kernel
def kX9_bentUp_122 : List BI := [bi (.iadd) 1 [] 0, bi (.istore 7) 2 [] 0, bi (.aload_n 0) 1 [] 0, bi (.getfield 97) 3 [9, 38] 0, bi (.iload 4) 2 [] 0, bi (.iaload) 1 [] 0, bi (.iconst (-1)) 1 [] 0, bi (.if_icmp .eq (15)) 3 [148] 0, bi (.iload 7) 2 [] 0, bi (.aload_n 0) 1 [] 0, bi (.getfield 97) 3 [9, 38] 0, bi (.iload 4) 2 [] 0, bi (.iaload) 1 [] 0, bi (.if_icmp .ge (12)) 3 [157] 0, bi (.aload_n 0) 1 [] 0, bi (.getfield 97) 3 [9, 38] 0, bi (.iload 4) 2 [] 0, bi (.iload 7) 2 [] 0, bi (.iastore) 1 [] 0, bi (.iinc 6 (1)) 3 [] 0, bi (.goto (-85)) 3 [75] 0]
theorem cX9_bentUp_122 : chk mX9_bentUp 122 kX9_bentUp_122 = true := by decide +kernel
def kX9_bentUp_105 : List BI := [bi (.aload_n 0) 1 [] 0, bi (.getfield 97) 3 [9, 38] 0, bi (.iload 6) 2 [] 0, bi (.iaload) 1 [] 0, bi (.iload 5) 2 [] 0, bi (.ifCond .eq (7)) 3 [121] 0, bi (.iconst 0) 1 [] 0, bi (.goto (4)) 3 [122] 0]
theorem cX9_bentUp_105 : chk mX9_bentUp 105 kX9_bentUp_105 = true := by decide +kernel
def kX9_bentUp_75 : List BI := [bi (.iload 6) 2 [] 0, bi (.iload 4) 2 [] 0, bi (.if_icmp .ge (84)) 3 [163] 0, bi (.iload 4) 2 [] 0, bi (.iload 6) 2 [] 0, bi (.isub) 1 [] 0, bi (.iload_n 2) 1 [] 0, bi (.if_icmp .gt (69)) 3 [157] 0, bi (.aload_n 0) 1 [] 0, bi (.getfield 97) 3 [9, 38] 0, bi (.iload 6) 2 [] 0, bi (.iaload) 1 [] 0, bi (.iconst (-1)) 1 [] 0, bi (.if_icmp .ne (6)) 3 [105] 0, bi (.goto (55)) 3 [157] 0]
theorem cX9_bentUp_75 : chk mX9_bentUp 75 kX9_bentUp_75 = true := by decide +kernel
theorem mbent_75 {d : Nat} {σ : SG} {Q : Option AV → SG → Prop} {t lg l3 l4 l5 l6 : Int} (h : (r3 l6 ∧ r3 l4) ∧ (l4 ≤ l6 → AW d mX9_bentUp 16 [some (.inr (.inr 42)), some (.inl t), some (.inl lg), some (.inl l3), some (.inl (l4 + 1)), none, none, none] [] σ Q) ∧ (l6 < l4 → (r3 (l4 - l6) ∧ r3 lg) ∧ (lg < (l4 - l6) → AW d mX9_bentUp 75 [some (.inr (.inr 42)), some (.inl t), some (.inl lg), some (.inl l3), some (.inl l4), some (.inl l5), some (.inl (l6 + 1)), none] [] σ Q) ∧ ((l4 - l6) ≤ lg → (0 ≤ l6 ∧ l6 < 30) ∧ (r3 (σ 70 l6)) ∧ ((σ 70 l6) ≠ (-1) → (0 ≤ l6 ∧ l6 < 30) ∧ (r3 l5) ∧ (l5 = 0 → (0 ≤ l4 ∧ l4 < 30) ∧ (r3 (σ 70 l4)) ∧ ((σ 70 l4) = (-1) → (0 ≤ l4 ∧ l4 < 30) ∧ (∀ S7 : SG, S7 = up σ 70 l4 ((σ 70 l6) + 1) → AW d mX9_bentUp 75 [some (.inr (.inr 42)), some (.inl t), some (.inl lg), some (.inl l3), some (.inl l4), some (.inl l5), some (.inl (l6 + 1)), none] [] S7 Q)) ∧ ((σ 70 l4) ≠ (-1) → (0 ≤ l4 ∧ l4 < 30) ∧ (r3 ((σ 70 l6) + 1) ∧ r3 (σ 70 l4)) ∧ ((σ 70 l4) ≤ ((σ 70 l6) + 1) → AW d mX9_bentUp 75 [some (.inr (.inr 42)), some (.inl t), some (.inl lg), some (.inl l3), some (.inl l4), some (.inl l5), some (.inl (l6 + 1)), none] [] σ Q) ∧ (((σ 70 l6) + 1) < (σ 70 l4) → (0 ≤ l4 ∧ l4 < 30) ∧ (∀ S8 : SG, S8 = up σ 70 l4 ((σ 70 l6) + 1) → AW d mX9_bentUp 75 [some (.inr (.inr 42)), some (.inl t), some (.inl lg), some (.inl l3), some (.inl l4), some (.inl l5), some (.inl (l6 + 1)), none] [] S8 Q)))) ∧ (l5 ≠ 0 → (0 ≤ l4 ∧ l4 < 30) ∧ (r3 (σ 70 l4)) ∧ ((σ 70 l4) = (-1) → (0 ≤ l4 ∧ l4 < 30) ∧ (∀ S11 : SG, S11 = up σ 70 l4 ((σ 70 l6) + 0) → AW d mX9_bentUp 75 [some (.inr (.inr 42)), some (.inl t), some (.inl lg), some (.inl l3), some (.inl l4), some (.inl l5), some (.inl (l6 + 1)), none] [] S11 Q)) ∧ ((σ 70 l4) ≠ (-1) → (0 ≤ l4 ∧ l4 < 30) ∧ (r3 ((σ 70 l6) + 0) ∧ r3 (σ 70 l4)) ∧ ((σ 70 l4) ≤ ((σ 70 l6) + 0) → AW d mX9_bentUp 75 [some (.inr (.inr 42)), some (.inl t), some (.inl lg), some (.inl l3), some (.inl l4), some (.inl l5), some (.inl (l6 + 1)), none] [] σ Q) ∧ (((σ 70 l6) + 0) < (σ 70 l4) → (0 ≤ l4 ∧ l4 < 30) ∧ (∀ S12 : SG, S12 = up σ 70 l4 ((σ 70 l6) + 0) → AW d mX9_bentUp 75 [some (.inr (.inr 42)), some (.inl t), some (.inl lg), some (.inl l3), some (.inl l4), some (.inl l5), some (.inl (l6 + 1)), none] [] S12 Q))))) ∧ ((σ 70 l6) = (-1) → AW d mX9_bentUp 75 [some (.inr (.inr 42)), some (.inl t), some (.inl lg), some (.inl l3), some (.inl l4), some (.inl l5), some (.inl (l6 + 1)), none] [] σ Q)))) : AW d mX9_bentUp 75 [some (.inr (.inr 42)), some (.inl t), some (.inl lg), some (.inl l3), some (.inl l4), some (.inl l5), some (.inl l6), none] [] σ Q := AW.blk kX9_bentUp_75 cX9_bentUp_75 (⟨⟨((h).1).1, ((h).1).2⟩, ⟨fun c18 => AW.blk kX9_bentUp_163 cX9_bentUp_163 (AW.drop 5 (AW.drop 6 (((h).2).1 c18))), fun c18 => ⟨⟨((((h).2).2 c18).1).1, ((((h).2).2 c18).1).2⟩, ⟨fun c17 => AW.blk kX9_bentUp_157 cX9_bentUp_157 (((((h).2).2 c18).2).1 c17), fun c17 => ⟨⟨((((((h).2).2 c18).2).2 c17).1).1, ((((((h).2).2 c18).2).2 c17).1).2⟩, ⟨⟨((((((h).2).2 c18).2).2 c17).2).1, (by decide)⟩, ⟨fun c16 => AW.blk kX9_bentUp_105 cX9_bentUp_105 (⟨⟨(((((((((h).2).2 c18).2).2 c17).2).2).1 c16).1).1, (((((((((h).2).2 c18).2).2 c17).2).2).1 c16).1).2⟩, ⟨(((((((((h).2).2 c18).2).2 c17).2).2).1 c16).2).1, ⟨fun c15 => AW.blk kX9_bentUp_121 cX9_bentUp_121 (⟨⟨((((((((((((h).2).2 c18).2).2 c17).2).2).1 c16).2).2).1 c15).1).1, ((((((((((((h).2).2 c18).2).2 c17).2).2).1 c16).2).2).1 c15).1).2⟩, ⟨⟨((((((((((((h).2).2 c18).2).2 c17).2).2).1 c16).2).2).1 c15).2).1, (by decide)⟩, ⟨fun c10 => AW.blk kX9_bentUp_148 cX9_bentUp_148 (⟨⟨(((((((((((((((h).2).2 c18).2).2 c17).2).2).1 c16).2).2).1 c15).2).2).1 c10).1).1, (((((((((((((((h).2).2 c18).2).2 c17).2).2).1 c16).2).2).1 c15).2).2).1 c10).1).2⟩, AW.drop 7 ((((((((((((((((h).2).2 c18).2).2 c17).2).2).1 c16).2).2).1 c15).2).2).1 c10).2) _ rfl)⟩), fun c10 => ⟨⟨(((((((((((((((h).2).2 c18).2).2 c17).2).2).1 c16).2).2).1 c15).2).2).2 c10).1).1, (((((((((((((((h).2).2 c18).2).2 c17).2).2).1 c16).2).2).1 c15).2).2).2 c10).1).2⟩, ⟨⟨((((((((((((((((h).2).2 c18).2).2 c17).2).2).1 c16).2).2).1 c15).2).2).2 c10).2).1).1, ((((((((((((((((h).2).2 c18).2).2 c17).2).2).1 c16).2).2).1 c15).2).2).2 c10).2).1).2⟩, ⟨fun c9 => AW.blk kX9_bentUp_157 cX9_bentUp_157 (AW.drop 7 (((((((((((((((((h).2).2 c18).2).2 c17).2).2).1 c16).2).2).1 c15).2).2).2 c10).2).2).1 c9)), fun c9 => ⟨⟨((((((((((((((((((h).2).2 c18).2).2 c17).2).2).1 c16).2).2).1 c15).2).2).2 c10).2).2).2 c9).1).1, ((((((((((((((((((h).2).2 c18).2).2 c17).2).2).1 c16).2).2).1 c15).2).2).2 c10).2).2).2 c9).1).2⟩, AW.drop 7 (((((((((((((((((((h).2).2 c18).2).2 c17).2).2).1 c16).2).2).1 c15).2).2).2 c10).2).2).2 c9).2) _ rfl)⟩⟩⟩⟩⟩⟩⟩), fun c15 => AW.blk kX9_bentUp_122 cX9_bentUp_122 (⟨⟨((((((((((((h).2).2 c18).2).2 c17).2).2).1 c16).2).2).2 c15).1).1, ((((((((((((h).2).2 c18).2).2 c17).2).2).1 c16).2).2).2 c15).1).2⟩, ⟨⟨((((((((((((h).2).2 c18).2).2 c17).2).2).1 c16).2).2).2 c15).2).1, (by decide)⟩, ⟨fun c14 => AW.blk kX9_bentUp_148 cX9_bentUp_148 (⟨⟨(((((((((((((((h).2).2 c18).2).2 c17).2).2).1 c16).2).2).2 c15).2).2).1 c14).1).1, (((((((((((((((h).2).2 c18).2).2 c17).2).2).1 c16).2).2).2 c15).2).2).1 c14).1).2⟩, AW.drop 7 ((((((((((((((((h).2).2 c18).2).2 c17).2).2).1 c16).2).2).2 c15).2).2).1 c14).2) _ rfl)⟩), fun c14 => ⟨⟨(((((((((((((((h).2).2 c18).2).2 c17).2).2).1 c16).2).2).2 c15).2).2).2 c14).1).1, (((((((((((((((h).2).2 c18).2).2 c17).2).2).1 c16).2).2).2 c15).2).2).2 c14).1).2⟩, ⟨⟨((((((((((((((((h).2).2 c18).2).2 c17).2).2).1 c16).2).2).2 c15).2).2).2 c14).2).1).1, ((((((((((((((((h).2).2 c18).2).2 c17).2).2).1 c16).2).2).2 c15).2).2).2 c14).2).1).2⟩, ⟨fun c13 => AW.blk kX9_bentUp_157 cX9_bentUp_157 (AW.drop 7 (((((((((((((((((h).2).2 c18).2).2 c17).2).2).1 c16).2).2).2 c15).2).2).2 c14).2).2).1 c13)), fun c13 => ⟨⟨((((((((((((((((((h).2).2 c18).2).2 c17).2).2).1 c16).2).2).2 c15).2).2).2 c14).2).2).2 c13).1).1, ((((((((((((((((((h).2).2 c18).2).2 c17).2).2).1 c16).2).2).2 c15).2).2).2 c14).2).2).2 c13).1).2⟩, AW.drop 7 (((((((((((((((((((h).2).2 c18).2).2 c17).2).2).1 c16).2).2).2 c15).2).2).2 c14).2).2).2 c13).2) _ rfl)⟩⟩⟩⟩⟩⟩⟩)⟩⟩⟩), fun c16 => AW.blk kX9_bentUp_157 cX9_bentUp_157 ((((((((h).2).2 c18).2).2 c17).2).2).2 c16)⟩⟩⟩⟩⟩⟩⟩)
/-! wood -/
theorem foI_shift {α : Type} {F G : Int → α → α} {a : α} {lo : Int} (h0 : 0 ≤ lo) (h1 : ∀ k x, 0 ≤ k → k < lo → F k x = x) : ∀ m : Nat, (∀ j x, 0 ≤ j → j < (m : Int) → F (lo + j) x = G j x) → foI F a (lo + m) = foI G a (m : Int) := by
  intro m
  induction m with
  | zero =>
    intro _
    rw [show lo + ((0 : Nat) : Int) = lo by omega]
    have := foI_more (f := F) (a := a) (n := 0) (m := lo) (by decide) h0 (fun i x a b => h1 i x a b)
    rw [this]
    rfl
  | succ m ih =>
    intro h
    rw [show lo + ((m + 1 : Nat) : Int) = lo + m + 1 by omega, show ((m + 1 : Nat) : Int) = (m : Int) + 1 by omega, foI_s _ _ (by omega), foI_s _ _ (by omega), h m _ (by omega) (by omega), ih (fun j x a b => h j x a (by omega))]
def muI (P f : Int → Int) (s lg : Int) : Int → Int → Int := fun k v => if lg < s - k then v else chI P f s 0 k v
theorem muI_ch {P f : Int → Int} {s lg : Int} (hs : 0 ≤ s) (hl : 0 ≤ lg) : foI (muI P f s lg) (-1) s = foI (chI P f s (loS lg s)) (-1) (s - loS lg s) := by
  have hlo := loS_r (s := s) hl hs
  have hdef : (0 < s - lg ∧ loS lg s = s - lg) ∨ (s - lg ≤ 0 ∧ loS lg s = 0) := by
    unfold loS
    split <;> omega
  have := foI_shift (F := muI P f s lg) (G := chI P f s (loS lg s)) (a := -1) (lo := loS lg s) hlo.1 (fun k x a b => by
    unfold muI
    rw [if_pos (by omega)]) (s - loS lg s).toNat (fun j x a b => by
    unfold muI chI
    rw [if_neg (by omega), show (0 : Int) + (loS lg s + j) = loS lg s + j by omega])
  rwa [show loS lg s + (((s - loS lg s).toNat : Nat) : Int) = s by omega, show (((s - loS lg s).toNat : Nat) : Int) = s - loS lg s by omega] at this
theorem chI_none {P f : Int → Int} {s lo n : Int} (h : P s = -1) : foI (chI P f s lo) (-1) n = -1 := by
  apply foI_id
  intro i x
  unfold chI
  rw [if_pos (Or.inl h)]
theorem chI_r1 {P f : Int → Int} {s lo : Int} (hlo : 0 ≤ lo) (hP : -1 ≤ P s ∧ P s ≤ 1) (hf : ∀ j, 0 ≤ j → j < s → -1 ≤ f j ∧ f j ≤ j) {i : Int} (h0 : 0 ≤ i) (h1 : i ≤ s - lo) (hs : 0 ≤ s) : -1 ≤ foI (chI P f s lo) (-1) i ∧ foI (chI P f s lo) (-1) i ≤ s := by
  have key : ∀ n : Nat, (n : Int) ≤ s - lo → -1 ≤ foI (chI P f s lo) (-1) (n : Int) ∧ foI (chI P f s lo) (-1) (n : Int) ≤ s := by
    intro n
    induction n with
    | zero => intro _; exact ⟨by show (-1 : Int) ≤ -1; decide, by show (-1 : Int) ≤ s; omega⟩
    | succ n ih =>
      intro hn
      have ih := ih (by omega)
      have hj := hf (lo + n) (by omega) (by omega)
      rw [show ((n + 1 : Nat) : Int) = (n : Int) + 1 by omega, foI_s _ _ (by omega)]
      generalize foI (chI P f s lo) (-1) (n : Int) = v at *
      unfold chI
      split
      · exact ih
      · split
        · omega
        · exact ih
  have := key i.toNat (by omega)
  rwa [show ((i.toNat : Nat) : Int) = i by omega] at this
theorem chO_r1 {P g : Int → Int} {lg ht : Int} (hl : 0 ≤ lg) (hP : ∀ s, 1 ≤ s → s ≤ ht → -1 ≤ P s ∧ P s ≤ 1) {i : Int} (h0 : 0 ≤ i) (h1 : i ≤ ht) : ∀ j, 0 ≤ j → j < i + 1 → -1 ≤ foI (chO P lg) (upf g 0 0) i j ∧ foI (chO P lg) (upf g 0 0) i j ≤ j := by
  have key : ∀ n : Nat, (n : Int) ≤ ht → ∀ j, 0 ≤ j → j < (n : Int) + 1 → -1 ≤ foI (chO P lg) (upf g 0 0) (n : Int) j ∧ foI (chO P lg) (upf g 0 0) (n : Int) j ≤ j := by
    intro n
    induction n with
    | zero =>
      intro _ j j0 j1
      have : j = 0 := by omega
      subst this
      show -1 ≤ upf g 0 0 0 ∧ upf g 0 0 0 ≤ 0
      rw [upf_at]
      omega
    | succ n ih =>
      intro hn j j0 j1
      have ih := ih (by omega)
      rw [show ((n + 1 : Nat) : Int) = (n : Int) + 1 by omega, foI_s _ _ (by omega)]
      generalize foI (chO P lg) (upf g 0 0) (n : Int) = f at *
      unfold chO
      by_cases hj : j = n + 1
      · subst hj
        rw [upf_at]
        have hlo := loS_r (s := (n : Int) + 1) hl (by omega)
        exact chI_r1 hlo.1 (hP _ (by omega) (by omega)) (fun j a b => ih j a b) (by omega) (Int.le_refl _) (by omega)
      · rw [upf_ne hj]
        exact ih j j0 (by omega)
  have := key i.toNat (by omega)
  rwa [show ((i.toNat : Nat) : Int) = i by omega] at this
def mbP (g : Int → Int) (t sd : Int) : Int → Int := fun s => if tb sd (s - 1).toNat = true then 0 else if g (6 + 14 * t + s - 1) = 3 then 1 else -1
theorem mbent_in {d : Nat} {σ : SG} {Q : Option AV → SG → Prop} {t lg sd s l5 : Int} {P f : Int → Int} (hs : 1 ≤ s ∧ s ≤ 14) (hl : 0 ≤ lg ∧ lg ≤ 100) (hf : ∀ j, 0 ≤ j → j < s → -1 ≤ f j ∧ f j ≤ j) (hP : (l5 = 1 ∧ P s = 0) ∨ (l5 = 0 ∧ P s = 1)) (hq : AW d mX9_bentUp 16 [some (.inr (.inr 42)), some (.inl t), some (.inl lg), some (.inl sd), some (.inl (s + 1)), none, none, none] [] (putF σ 70 (upf f s (foI (muI P f s lg) (-1) s))) Q) : AW d mX9_bentUp 75 [some (.inr (.inr 42)), some (.inl t), some (.inl lg), some (.inl sd), some (.inl s), some (.inl l5), some (.inl 0), none] [] (putF σ 70 (upf f s (-1))) Q := by
  have rng : ∀ i, 0 ≤ i → i ≤ s → -1 ≤ foI (muI P f s lg) (-1) i ∧ foI (muI P f s lg) (-1) i ≤ s := by
    have key : ∀ n : Nat, (n : Int) ≤ s → -1 ≤ foI (muI P f s lg) (-1) (n : Int) ∧ foI (muI P f s lg) (-1) (n : Int) ≤ s := by
      intro n
      induction n with
      | zero => intro _; exact ⟨by show (-1 : Int) ≤ -1; decide, by show (-1 : Int) ≤ s; omega⟩
      | succ n ih =>
        intro hn
        have ih := ih (by omega)
        have hj := hf n (by omega) (by omega)
        rw [show ((n + 1 : Nat) : Int) = (n : Int) + 1 by omega, foI_s _ _ (by omega)]
        generalize foI (muI P f s lg) (-1) (n : Int) = v at *
        unfold muI chI
        rw [Int.zero_add]
        split
        · exact ih
        · split
          · exact ih
          · split
            · omega
            · exact ih
    intro i i0 i1
    have := key i.toNat (by omega)
    rwa [show ((i.toNat : Nat) : Int) = i by omega] at this
  refine downInd (P := fun k => AW d mX9_bentUp 75 [some (.inr (.inr 42)), some (.inl t), some (.inl lg), some (.inl sd), some (.inl s), some (.inl l5), some (.inl k), none] [] (putF σ 70 (upf f s (foI (muI P f s lg) (-1) k))) Q) (lo := 0) (hi := s) (by omega) ?_ ?_
  · exact mbent_75 ⟨by omega, fun _ => hq, fun c => by omega⟩
  · intro k k0 k1 ih
    have hr := rng k k0 (by omega)
    have hj := hf k k0 k1
    rw [foI_s _ _ k0] at ih
    generalize foI (muI P f s lg) (-1) k = v at *
    have ek : upf f s v k = f k := upf_ne (by omega)
    unfold muI chI at ih
    rw [Int.zero_add] at ih
    refine mbent_75 ?_
    rw [putF_at, ek, upf_at]
    refine ⟨by omega, fun c => by omega, fun _ => ⟨by omega, fun c1 => ?_, fun c1 => ⟨by omega, by omega, fun c2 => ⟨by omega, by omega, fun c3 => ⟨by omega, by omega, fun c4 => ⟨by omega, fun S e => ?_⟩, fun c4 => ⟨by omega, by omega, fun c5 => ?_, fun c5 => ⟨by omega, fun S e => ?_⟩⟩⟩, fun c3 => ⟨by omega, by omega, fun c4 => ⟨by omega, fun S e => ?_⟩, fun c4 => ⟨by omega, by omega, fun c5 => ?_, fun c5 => ⟨by omega, fun S e => ?_⟩⟩⟩⟩, fun c2 => ?_⟩⟩⟩
    · rwa [if_pos c1] at ih
    · rw [if_neg (by omega), if_neg (by omega), if_pos (Or.inl c4), show P s = 1 by omega] at ih
      rw [e, putF_upf, upf_upf]
      exact ih
    · rwa [if_neg (by omega), if_neg (by omega), if_neg (by omega)] at ih
    · rw [if_neg (by omega), if_neg (by omega), if_pos (by omega), show P s = 1 by omega] at ih
      rw [e, putF_upf, upf_upf]
      exact ih
    · rw [if_neg (by omega), if_neg (by omega), if_pos (Or.inl c4), show P s = 0 by omega] at ih
      rw [e, putF_upf, upf_upf]
      exact ih
    · rwa [if_neg (by omega), if_neg (by omega), if_neg (by omega)] at ih
    · rw [if_neg (by omega), if_neg (by omega), if_pos (by omega), show P s = 0 by omega] at ih
      rw [e, putF_upf, upf_upf]
      exact ih
    · rwa [if_neg (by omega), if_pos (Or.inr c2)] at ih
abbrev mbO (d : Nat) (σ : SG) (t lg : Int) : Prop := 4 ≤ d ∧ MLR (σ 69) ∧ 0 ≤ t ∧ t < 4 ∧ 3 ≤ σ 63 (8 + 2 * t) ∧ σ 63 (8 + 2 * t) ≤ 14 ∧ MSR (σ 69) t (σ 63 (8 + 2 * t)) ∧ 0 ≤ lg ∧ lg ≤ 100
theorem mbentUp_ok {d : Nat} {σ : SG} {Q : Option AV → SG → Prop} {t lg : Int} (h : mbO d σ t lg ∧ ∀ f : Int → Int, Q (some (.inl (chpV (mbP (σ 69) t (mstV σ t)) lg (σ 63 (8 + 2 * t))))) (putF σ 70 f)) : AW d mX9_bentUp 0 [some (.inr (.inr 42)), some (.inl t), some (.inl lg), none, none, none, none, none] [] σ Q := by
  obtain ⟨⟨hd, hM, t0, t1, h0, h1, hS, l0, l1⟩, hq⟩ := h
  have hb : 0 ≤ mstV σ t ∧ mstV σ t < 16384 := bor_r (hwB_r _ _ _ h1) (fsB_r hM t)
  refine mbent_0 ⟨by omega, by omega, ⟨by omega, by omega, by omega, by omega, by omega, by omega, hS⟩, by omega, ⟨by omega, hM, by omega⟩, fun S1 e1 => ?_⟩
  change AW d mX9_bentUp 16 [some (.inr (.inr 42)), some (.inl t), some (.inl lg), some (.inl (mstV σ t)), some (.inl 1), none, none, none] [] S1 Q
  generalize hsd : mstV σ t = sd at *
  generalize hPP : mbP (σ 69) t sd = P at *
  generalize hht : σ 63 (8 + 2 * t) = ht at *
  rw [up_rw] at e1
  have hP : ∀ s, 1 ≤ s → s ≤ ht → -1 ≤ P s ∧ P s ≤ 1 := by
    intro s _ _
    rw [← hPP]
    unfold mbP
    split
    · omega
    · split <;> omega
  have key := downInd (P := fun i => AW d mX9_bentUp 16 [some (.inr (.inr 42)), some (.inl t), some (.inl lg), some (.inl sd), some (.inl (i + 1)), none, none, none] [] (putF σ 70 (foI (chO P lg) (upf (σ 70) 0 0) i)) Q) (lo := 0) (hi := ht) (by omega) ?_ ?_
  · rw [e1]
    exact key
  · refine mbent_16 ?_
    rw [putF_ne (by decide), hht, putF_at]
    refine ⟨by omega, by omega, by omega, fun _ => ⟨by omega, by omega, by omega, ?_⟩, fun c => by omega⟩
    have := chO_cong (P := P) (g := σ 70) (g' := fun _ => 0) (lg := lg) l0 (i := ht) (by omega) ht (by omega) (by omega)
    rw [this]
    exact hq _
  · intro i i0 i1 ih
    have hr := chO_r1 (P := P) (g := σ 70) l0 hP i0 (by omega)
    rw [foI_s _ _ i0] at ih
    generalize foI (chO P lg) (upf (σ 70) 0 0) i = f at ih hr
    have z69 : ∀ F, putF σ 70 F 69 = σ 69 := fun F => putF_ne (by decide)
    have ei : (i + 1 - 1).toNat = i.toNat := by omega
    have e := sh1 (x := sd) (k := i.toNat) hb.1 (by omega)
    have hm := hS i i0 i1
    have eP : P (i + 1) = if tb sd i.toNat = true then 0 else if σ 69 (6 + 14 * t + i) = 3 then 1 else -1 := by
      rw [← hPP]
      unfold mbP
      rw [ei, show 6 + 14 * t + (i + 1) - 1 = 6 + 14 * t + i by omega]
    have ih2 : AW d mX9_bentUp 16 [some (.inr (.inr 42)), some (.inl t), some (.inl lg), some (.inl sd), some (.inl (i + 1 + 1)), none, none, none] [] (putF σ 70 (upf f (i + 1) (foI (muI P f (i + 1) lg) (-1) (i + 1)))) Q := by
      rw [muI_ch (by omega) l0]
      exact ih
    refine mbent_16 ?_
    rw [putF_ne (by decide), hht, ei, e]
    refine ⟨by omega, by omega, by omega, fun c => by omega, fun _ => ⟨by omega, by split <;> omega, fun c => ⟨by omega, fun S e2 => ?_⟩, fun c => ⟨by omega, fun S e2 => ?_⟩⟩⟩
    · have hb2 : ¬ tb sd i.toNat = true := by
        intro z
        rw [if_pos z] at c
        exact c rfl
      rw [if_neg hb2] at eP
      rw [putF_upf] at e2
      have z9 : S 69 (6 + 14 * t + (i + 1) - 1) = σ 69 (6 + 14 * t + i) := by rw [e2, z69, show 6 + 14 * t + (i + 1) - 1 = 6 + 14 * t + i by omega]
      rw [z9]
      refine ⟨by omega, by omega, by omega, fun c2 => ?_, fun c2 => ?_⟩
      · rw [e2]
        rw [if_pos c2] at eP
        exact mbent_in ⟨by omega, by omega⟩ ⟨l0, l1⟩ (fun j a b => hr j a (by omega)) (Or.inr ⟨rfl, eP⟩) ih2
      · rw [if_neg c2] at eP
        rw [muI_ch (by omega) l0, chI_none eP] at ih2
        rw [e2]
        exact ih2
    · have hb2 : tb sd i.toNat = true := by
        by_cases z : tb sd i.toNat = true
        · exact z
        · rw [if_neg z] at c
          cases c
      rw [if_pos hb2] at eP
      rw [putF_upf] at e2
      rw [e2]
      exact mbent_in ⟨by omega, by omega⟩ ⟨l0, l1⟩ (fun j a b => hr j a (by omega)) (Or.inl ⟨rfl, eP⟩) ih2
