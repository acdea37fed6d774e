/-! ===== fewestSets of the class (wip/whole/gen87.py) ===== -/
def kX2_forLoansBack_0 : List BI := [bi (.aload_n 1) 1 [] 0, bi (.iload_n 2) 1 [] 0, bi (.invokevirtual 21) 3 [mX6_standing, 2, 2, 6] 0, bi (.istore 4) 2 [] 0, bi (.iconst 1) 1 [] 0, bi (.istore 5) 2 [] 0]
theorem cX2_forLoansBack_0 : chk mX2_forLoansBack 0 kX2_forLoansBack_0 = true := by decide +kernel
theorem flb_0 {d : Nat} {σ : SG} {Q : Option AV → SG → Prop} {t ht : Int} (h : (0 < d) ∧ (0 ≤ (6 + t) ∧ (6 + t) < 214) ∧ (0 ≤ (18 + t) ∧ (18 + t) < 214) ∧ AW d mX2_forLoansBack 10 [some (.inr (.inr 30)), some (.inr (.inr 34)), some (.inl t), some (.inl ht), some (.inl (bor (σ 35 (6 + t)) (σ 35 (18 + t)))), some (.inl 1), none, none] [] σ Q) : AW d mX2_forLoansBack 0 [some (.inr (.inr 30)), some (.inr (.inr 34)), some (.inl t), some (.inl ht), none, none, none, none] [] σ Q := AW.blk kX2_forLoansBack_0 cX2_forLoansBack_0 (⟨(h).1, AW.blk kX6_standing_0 cX6_standing_0 (⟨⟨(((h).2).1).1, (((h).2).1).2⟩, ⟨⟨((((h).2).2).1).1, ((((h).2).2).1).2⟩, (((h).2).2).2⟩⟩)⟩)
def kX2_forLoansBack_74 : List BI := [bi (.return_) 1 [] 0]
theorem cX2_forLoansBack_74 : chk mX2_forLoansBack 74 kX2_forLoansBack_74 = true := by decide +kernel
def kX2_forLoansBack_65 : List BI := [bi (.iload 7) 2 [] 0, bi (.iastore) 1 [] 0, bi (.iinc 5 (1)) 3 [] 0, bi (.goto (-61)) 3 [10] 0]
theorem cX2_forLoansBack_65 : chk mX2_forLoansBack 65 kX2_forLoansBack_65 = true := by decide +kernel
def kX2_forLoansBack_67 : List BI := [bi (.iastore) 1 [] 0, bi (.iinc 5 (1)) 3 [] 0, bi (.goto (-61)) 3 [10] 0]
theorem cX2_forLoansBack_67 : chk mX2_forLoansBack 67 kX2_forLoansBack_67 = true := by decide +kernel
def kX2_forLoansBack_35 : List BI := [bi (.ldc 30) 2 [] 16777216, bi (.iconst 1) 1 [] 0, bi (.iload 6) 2 [] 0, bi (.ishl) 1 [] 0, bi (.iadd) 1 [] 0, bi (.istore 7) 2 [] 0, bi (.aload_n 0) 1 [] 0, bi (.getfield 9) 3 [2, 0] 0, bi (.iload 5) 2 [] 0, bi (.iload 4) 2 [] 0, bi (.iload 5) 2 [] 0, bi (.invokestatic 27) 3 [mX8_bit, 1, 1] 0, bi (.iand) 1 [] 0, bi (.ifCond .eq (7)) 3 [65] 0, bi (.iconst 0) 1 [] 0, bi (.goto (5)) 3 [67] 0]
theorem cX2_forLoansBack_35 : chk mX2_forLoansBack 35 kX2_forLoansBack_35 = true := by decide +kernel
def kX2_forLoansBack_42 : List BI := [bi (.istore 7) 2 [] 0, bi (.aload_n 0) 1 [] 0, bi (.getfield 9) 3 [2, 0] 0, bi (.iload 5) 2 [] 0, bi (.iload 4) 2 [] 0, bi (.iload 5) 2 [] 0, bi (.invokestatic 27) 3 [mX8_bit, 1, 1] 0, bi (.iand) 1 [] 0, bi (.ifCond .eq (7)) 3 [65] 0, bi (.iconst 0) 1 [] 0, bi (.goto (5)) 3 [67] 0]
theorem cX2_forLoansBack_42 : chk mX2_forLoansBack 42 kX2_forLoansBack_42 = true := by decide +kernel
def kX2_forLoansBack_10 : List BI := [bi (.iload 5) 2 [] 0, bi (.iload_n 3) 1 [] 0, bi (.if_icmp .gt (61)) 3 [74] 0, bi (.aload_n 1) 1 [] 0, bi (.iload_n 2) 1 [] 0, bi (.iload 5) 2 [] 0, bi (.invokevirtual 40) 3 [mX6_loanThatLends, 3, 4, 6] 0, bi (.istore 6) 2 [] 0, bi (.iload 6) 2 [] 0, bi (.iconst (-1)) 1 [] 0, bi (.if_icmp .ne (7)) 3 [35] 0, bi (.iconst (-1)) 1 [] 0, bi (.goto (10)) 3 [42] 0]
theorem cX2_forLoansBack_10 : chk mX2_forLoansBack 10 kX2_forLoansBack_10 = true := by decide +kernel
theorem flb_10 {d : Nat} {σ : SG} {Q : Option AV → SG → Prop} {t ht l4 l5 : Int} (h : (r3 l5 ∧ r3 ht) ∧ (ht < l5 → Q none σ) ∧ (l5 ≤ ht → (0 < d) ∧ (2 ≤ d - 1 ∧ LR (σ 35) ∧ r3 t ∧ r3 l5) ∧ (r3 (fstI (llB (σ 35) t l5) ((σ 35) 1))) ∧ ((fstI (llB (σ 35) t l5) ((σ 35) 1)) ≠ (-1) → (0 ≤ (fstI (llB (σ 35) t l5) ((σ 35) 1)) ∧ (fstI (llB (σ 35) t l5) ((σ 35) 1)) < 32) ∧ (0 < d) ∧ (0 ≤ (l5 - 1) ∧ (l5 - 1) < 32) ∧ (r3 (band l4 (1 * 2 ^ Int.toNat (l5 - 1)))) ∧ ((band l4 (1 * 2 ^ Int.toNat (l5 - 1))) = 0 → (0 ≤ l5 ∧ l5 < 15) ∧ (∀ S1 : SG, S1 = up σ 31 l5 (16777216 + (1 * 2 ^ Int.toNat (fstI (llB (σ 35) t l5) ((σ 35) 1)))) → AW d mX2_forLoansBack 10 [some (.inr (.inr 30)), some (.inr (.inr 34)), some (.inl t), some (.inl ht), some (.inl l4), some (.inl (l5 + 1)), none, none] [] S1 Q)) ∧ ((band l4 (1 * 2 ^ Int.toNat (l5 - 1))) ≠ 0 → (0 ≤ l5 ∧ l5 < 15) ∧ (∀ S2 : SG, S2 = up σ 31 l5 0 → AW d mX2_forLoansBack 10 [some (.inr (.inr 30)), some (.inr (.inr 34)), some (.inl t), some (.inl ht), some (.inl l4), some (.inl (l5 + 1)), none, none] [] S2 Q))) ∧ ((fstI (llB (σ 35) t l5) ((σ 35) 1)) = (-1) → (0 < d) ∧ (0 ≤ (l5 - 1) ∧ (l5 - 1) < 32) ∧ (r3 (band l4 (1 * 2 ^ Int.toNat (l5 - 1)))) ∧ ((band l4 (1 * 2 ^ Int.toNat (l5 - 1))) = 0 → (0 ≤ l5 ∧ l5 < 15) ∧ (∀ S4 : SG, S4 = up σ 31 l5 (-1) → AW d mX2_forLoansBack 10 [some (.inr (.inr 30)), some (.inr (.inr 34)), some (.inl t), some (.inl ht), some (.inl l4), some (.inl (l5 + 1)), none, none] [] S4 Q)) ∧ ((band l4 (1 * 2 ^ Int.toNat (l5 - 1))) ≠ 0 → (0 ≤ l5 ∧ l5 < 15) ∧ (∀ S5 : SG, S5 = up σ 31 l5 0 → AW d mX2_forLoansBack 10 [some (.inr (.inr 30)), some (.inr (.inr 34)), some (.inl t), some (.inl ht), some (.inl l4), some (.inl (l5 + 1)), none, none] [] S5 Q))))) : AW d mX2_forLoansBack 10 [some (.inr (.inr 30)), some (.inr (.inr 34)), some (.inl t), some (.inl ht), some (.inl l4), some (.inl l5), none, none] [] σ Q := AW.blk kX2_forLoansBack_10 cX2_forLoansBack_10 (⟨⟨((h).1).1, ((h).1).2⟩, ⟨fun c8 => AW.blk kX2_forLoansBack_74 cX2_forLoansBack_74 (((h).2).1 c8), fun c8 => ⟨(((h).2).2 c8).1, loanThatLends_ok (by decide) ⟨((((h).2).2 c8).2).1, ⟨⟨(((((h).2).2 c8).2).2).1, (by decide)⟩, ⟨fun c7 => AW.blk kX2_forLoansBack_35 cX2_forLoansBack_35 (⟨⟨((((((((h).2).2 c8).2).2).2).1 c7).1).1, ((((((((h).2).2 c8).2).2).2).1 c7).1).2⟩, ⟨((((((((h).2).2 c8).2).2).2).1 c7).2).1, AW.blk kX8_bit_0 cX8_bit_0 (⟨⟨((((((((((h).2).2 c8).2).2).2).1 c7).2).2).1).1, ((((((((((h).2).2 c8).2).2).2).1 c7).2).2).1).2⟩, ⟨((((((((((h).2).2 c8).2).2).2).1 c7).2).2).2).1, ⟨fun c3 => AW.blk kX2_forLoansBack_65 cX2_forLoansBack_65 (⟨⟨(((((((((((((h).2).2 c8).2).2).2).1 c7).2).2).2).2).1 c3).1).1, (((((((((((((h).2).2 c8).2).2).2).1 c7).2).2).2).2).1 c3).1).2⟩, AW.drop 6 (AW.drop 7 ((((((((((((((h).2).2 c8).2).2).2).1 c7).2).2).2).2).1 c3).2) _ rfl))⟩), fun c3 => AW.blk kX2_forLoansBack_67 cX2_forLoansBack_67 (⟨⟨(((((((((((((h).2).2 c8).2).2).2).1 c7).2).2).2).2).2 c3).1).1, (((((((((((((h).2).2 c8).2).2).2).1 c7).2).2).2).2).2 c3).1).2⟩, AW.drop 6 (AW.drop 7 ((((((((((((((h).2).2 c8).2).2).2).1 c7).2).2).2).2).2 c3).2) _ rfl))⟩)⟩⟩⟩)⟩⟩), fun c7 => AW.blk kX2_forLoansBack_42 cX2_forLoansBack_42 (⟨(((((((h).2).2 c8).2).2).2).2 c7).1, AW.blk kX8_bit_0 cX8_bit_0 (⟨⟨(((((((((h).2).2 c8).2).2).2).2 c7).2).1).1, (((((((((h).2).2 c8).2).2).2).2 c7).2).1).2⟩, ⟨(((((((((h).2).2 c8).2).2).2).2 c7).2).2).1, ⟨fun c6 => AW.blk kX2_forLoansBack_65 cX2_forLoansBack_65 (⟨⟨((((((((((((h).2).2 c8).2).2).2).2 c7).2).2).2).1 c6).1).1, ((((((((((((h).2).2 c8).2).2).2).2 c7).2).2).2).1 c6).1).2⟩, AW.drop 6 (AW.drop 7 (((((((((((((h).2).2 c8).2).2).2).2 c7).2).2).2).1 c6).2) _ rfl))⟩), fun c6 => AW.blk kX2_forLoansBack_67 cX2_forLoansBack_67 (⟨⟨((((((((((((h).2).2 c8).2).2).2).2 c7).2).2).2).2 c6).1).1, ((((((((((((h).2).2 c8).2).2).2).2 c7).2).2).2).2 c6).1).2⟩, AW.drop 6 (AW.drop 7 (((((((((((((h).2).2 c8).2).2).2).2 c7).2).2).2).2 c6).2) _ rfl))⟩)⟩⟩⟩)⟩)⟩⟩⟩⟩⟩⟩)
def kX2_closeBelow_0 : List BI := [bi (.iconst 0) 1 [] 0, bi (.istore_n 2) 1 [] 0]
theorem cX2_closeBelow_0 : chk mX2_closeBelow 0 kX2_closeBelow_0 = true := by decide +kernel
theorem clb_0 {d : Nat} {σ : SG} {Q : Option AV → SG → Prop} {s : Int} (h : AW d mX2_closeBelow 2 [some (.inr (.inr 30)), some (.inl s), some (.inl 0)] [] σ Q) : AW d mX2_closeBelow 0 [some (.inr (.inr 30)), some (.inl s), none] [] σ Q := AW.blk kX2_closeBelow_0 cX2_closeBelow_0 (h)
def kX2_closeBelow_20 : List BI := [bi (.return_) 1 [] 0]
theorem cX2_closeBelow_20 : chk mX2_closeBelow 20 kX2_closeBelow_20 = true := by decide +kernel
def kX2_closeBelow_2 : List BI := [bi (.iload_n 2) 1 [] 0, bi (.iload_n 1) 1 [] 0, bi (.if_icmp .ge (16)) 3 [20] 0, bi (.aload_n 0) 1 [] 0, bi (.getfield 15) 3 [2, 1] 0, bi (.iload_n 2) 1 [] 0, bi (.iconst (-1)) 1 [] 0, bi (.iastore) 1 [] 0, bi (.iinc 2 (1)) 3 [] 0, bi (.goto (-15)) 3 [2] 0]
theorem cX2_closeBelow_2 : chk mX2_closeBelow 2 kX2_closeBelow_2 = true := by decide +kernel
theorem clb_2 {d : Nat} {σ : SG} {Q : Option AV → SG → Prop} {s l2 : Int} (h : (r3 l2 ∧ r3 s) ∧ (s ≤ l2 → Q none σ) ∧ (l2 < s → (0 ≤ l2 ∧ l2 < 15) ∧ (∀ S9 : SG, S9 = up σ 32 l2 (-1) → AW d mX2_closeBelow 2 [some (.inr (.inr 30)), some (.inl s), some (.inl (l2 + 1))] [] S9 Q))) : AW d mX2_closeBelow 2 [some (.inr (.inr 30)), some (.inl s), some (.inl l2)] [] σ Q := AW.blk kX2_closeBelow_2 cX2_closeBelow_2 (⟨⟨((h).1).1, ((h).1).2⟩, ⟨fun c10 => AW.blk kX2_closeBelow_20 cX2_closeBelow_20 (((h).2).1 c10), fun c10 => ⟨⟨((((h).2).2 c10).1).1, ((((h).2).2 c10).1).2⟩, ((((h).2).2 c10).2) _ rfl⟩⟩⟩)
def kX2_join_120 : List BI := [bi (.return_) 1 [] 0]
theorem cX2_join_120 : chk mX2_join 120 kX2_join_120 = true := by decide +kernel
def kX2_join_51 : List BI := [bi (.aload_n 0) 1 [] 0, bi (.getfield 15) 3 [2, 1] 0, bi (.iload_n 2) 1 [] 0, bi (.iload_n 3) 1 [] 0, bi (.iastore) 1 [] 0, bi (.aload_n 0) 1 [] 0, bi (.getfield 18) 3 [2, 2] 0, bi (.iload_n 2) 1 [] 0, bi (.aload_n 0) 1 [] 0, bi (.getfield 18) 3 [2, 2] 0, bi (.iload_n 1) 1 [] 0, bi (.iaload) 1 [] 0, bi (.iastore) 1 [] 0, bi (.goto (50)) 3 [120] 0]
theorem cX2_join_51 : chk mX2_join 51 kX2_join_51 = true := by decide +kernel
def kX2_join_73 : List BI := [bi (.iload_n 3) 1 [] 0, bi (.ldc 30) 2 [] 16777216, bi (.idiv) 1 [] 0, bi (.aload_n 0) 1 [] 0, bi (.getfield 15) 3 [2, 1] 0, bi (.iload_n 2) 1 [] 0, bi (.iaload) 1 [] 0, bi (.ldc 30) 2 [] 16777216, bi (.idiv) 1 [] 0, bi (.if_icmp .ne (34)) 3 [120] 0, bi (.aload_n 0) 1 [] 0, bi (.getfield 15) 3 [2, 1] 0, bi (.iload_n 2) 1 [] 0, bi (.aload_n 0) 1 [] 0, bi (.getfield 15) 3 [2, 1] 0, bi (.iload_n 2) 1 [] 0, bi (.iaload) 1 [] 0, bi (.iload_n 3) 1 [] 0, bi (.invokestatic 57) 3 [1] 0, bi (.iastore) 1 [] 0, bi (.aload_n 0) 1 [] 0, bi (.getfield 18) 3 [2, 2] 0, bi (.iload_n 2) 1 [] 0, bi (.dup2) 1 [] 0, bi (.iaload) 1 [] 0, bi (.aload_n 0) 1 [] 0, bi (.getfield 18) 3 [2, 2] 0, bi (.iload_n 1) 1 [] 0, bi (.iaload) 1 [] 0, bi (.iadd) 1 [] 0, bi (.iastore) 1 [] 0, bi (.return_) 1 [] 0]
theorem cX2_join_73 : chk mX2_join 73 kX2_join_73 = true := by decide +kernel
def kX2_join_11 : List BI := [bi (.aload_n 0) 1 [] 0, bi (.getfield 15) 3 [2, 1] 0, bi (.iload_n 1) 1 [] 0, bi (.iaload) 1 [] 0, bi (.aload_n 0) 1 [] 0, bi (.getfield 9) 3 [2, 0] 0, bi (.iload_n 2) 1 [] 0, bi (.iaload) 1 [] 0, bi (.iadd) 1 [] 0, bi (.istore_n 3) 1 [] 0, bi (.aload_n 0) 1 [] 0, bi (.getfield 15) 3 [2, 1] 0, bi (.iload_n 2) 1 [] 0, bi (.iaload) 1 [] 0, bi (.iconst (-1)) 1 [] 0, bi (.if_icmp .eq (19)) 3 [51] 0, bi (.iload_n 3) 1 [] 0, bi (.ldc 30) 2 [] 16777216, bi (.idiv) 1 [] 0, bi (.aload_n 0) 1 [] 0, bi (.getfield 15) 3 [2, 1] 0, bi (.iload_n 2) 1 [] 0, bi (.iaload) 1 [] 0, bi (.ldc 30) 2 [] 16777216, bi (.idiv) 1 [] 0, bi (.if_icmp .ge (25)) 3 [73] 0, bi (.aload_n 0) 1 [] 0, bi (.getfield 15) 3 [2, 1] 0, bi (.iload_n 2) 1 [] 0, bi (.iload_n 3) 1 [] 0, bi (.iastore) 1 [] 0, bi (.aload_n 0) 1 [] 0, bi (.getfield 18) 3 [2, 2] 0, bi (.iload_n 2) 1 [] 0, bi (.aload_n 0) 1 [] 0, bi (.getfield 18) 3 [2, 2] 0, bi (.iload_n 1) 1 [] 0, bi (.iaload) 1 [] 0, bi (.iastore) 1 [] 0, bi (.goto (50)) 3 [120] 0]
theorem cX2_join_11 : chk mX2_join 11 kX2_join_11 = true := by decide +kernel
def kX2_join_0 : List BI := [bi (.aload_n 0) 1 [] 0, bi (.getfield 15) 3 [2, 1] 0, bi (.iload_n 1) 1 [] 0, bi (.iaload) 1 [] 0, bi (.iconst (-1)) 1 [] 0, bi (.if_icmp .ne (4)) 3 [11] 0, bi (.return_) 1 [] 0]
theorem cX2_join_0 : chk mX2_join 0 kX2_join_0 = true := by decide +kernel
theorem joi_0 {d : Nat} {σ : SG} {Q : Option AV → SG → Prop} {a b : Int} (h : (0 ≤ a ∧ a < 15) ∧ (r3 (σ 32 a)) ∧ ((σ 32 a) ≠ (-1) → (0 ≤ a ∧ a < 15) ∧ (0 ≤ b ∧ b < 15) ∧ (0 ≤ b ∧ b < 15) ∧ (r3 (σ 32 b)) ∧ ((σ 32 b) = (-1) → (0 ≤ b ∧ b < 15) ∧ (∀ S11 : SG, S11 = up σ 32 b ((σ 32 a) + (σ 31 b)) → (0 ≤ a ∧ a < 15) ∧ (0 ≤ b ∧ b < 15) ∧ (∀ S12 : SG, S12 = up S11 33 b (S11 33 a) → Q none S12))) ∧ ((σ 32 b) ≠ (-1) → (r3 ((σ 32 a) + (σ 31 b))) ∧ (0 ≤ b ∧ b < 15) ∧ (r3 (σ 32 b)) ∧ (r3 (Int.tdiv ((σ 32 a) + (σ 31 b)) 16777216) ∧ r3 (Int.tdiv (σ 32 b) 16777216)) ∧ ((Int.tdiv (σ 32 b) 16777216) ≤ (Int.tdiv ((σ 32 a) + (σ 31 b)) 16777216) → (r3 ((σ 32 a) + (σ 31 b))) ∧ (0 ≤ b ∧ b < 15) ∧ (r3 (σ 32 b)) ∧ (r3 (Int.tdiv ((σ 32 a) + (σ 31 b)) 16777216) ∧ r3 (Int.tdiv (σ 32 b) 16777216)) ∧ ((Int.tdiv ((σ 32 a) + (σ 31 b)) 16777216) ≠ (Int.tdiv (σ 32 b) 16777216) → Q none σ) ∧ ((Int.tdiv ((σ 32 a) + (σ 31 b)) 16777216) = (Int.tdiv (σ 32 b) 16777216) → (0 ≤ b ∧ b < 15) ∧ (0 < d) ∧ (r3 (σ 32 b) ∧ r3 ((σ 32 a) + (σ 31 b))) ∧ (0 ≤ b ∧ b < 15) ∧ (∀ S13 : SG, S13 = up σ 32 b (if ((σ 32 a) + (σ 31 b)) < (σ 32 b) then ((σ 32 a) + (σ 31 b)) else (σ 32 b)) → (0 ≤ b ∧ b < 15) ∧ (0 ≤ a ∧ a < 15) ∧ (0 ≤ b ∧ b < 15) ∧ (∀ S14 : SG, S14 = up S13 33 b ((S13 33 b) + (S13 33 a)) → Q none S14)))) ∧ ((Int.tdiv ((σ 32 a) + (σ 31 b)) 16777216) < (Int.tdiv (σ 32 b) 16777216) → (0 ≤ b ∧ b < 15) ∧ (∀ S16 : SG, S16 = up σ 32 b ((σ 32 a) + (σ 31 b)) → (0 ≤ a ∧ a < 15) ∧ (0 ≤ b ∧ b < 15) ∧ (∀ S17 : SG, S17 = up S16 33 b (S16 33 a) → Q none S17))))) ∧ ((σ 32 a) = (-1) → Q none σ)) : AW d mX2_join 0 [some (.inr (.inr 30)), some (.inl a), some (.inl b), none] [] σ Q := AW.blk kX2_join_0 cX2_join_0 (⟨⟨((h).1).1, ((h).1).2⟩, ⟨⟨((h).2).1, (by decide)⟩, ⟨fun c20 => AW.blk kX2_join_11 cX2_join_11 (⟨⟨(((((h).2).2).1 c20).1).1, (((((h).2).2).1 c20).1).2⟩, ⟨⟨((((((h).2).2).1 c20).2).1).1, ((((((h).2).2).1 c20).2).1).2⟩, ⟨⟨(((((((h).2).2).1 c20).2).2).1).1, (((((((h).2).2).1 c20).2).2).1).2⟩, ⟨⟨(((((((h).2).2).1 c20).2).2).2).1, (by decide)⟩, ⟨fun c19 => AW.blk kX2_join_51 cX2_join_51 (⟨⟨((((((((((h).2).2).1 c20).2).2).2).2).1 c19).1).1, ((((((((((h).2).2).1 c20).2).2).2).2).1 c19).1).2⟩, ⟨⟨((((((((((((h).2).2).1 c20).2).2).2).2).1 c19).2) _ rfl).1).1, ((((((((((((h).2).2).1 c20).2).2).2).2).1 c19).2) _ rfl).1).2⟩, ⟨⟨(((((((((((((h).2).2).1 c20).2).2).2).2).1 c19).2) _ rfl).2).1).1, (((((((((((((h).2).2).1 c20).2).2).2).2).1 c19).2) _ rfl).2).1).2⟩, AW.blk kX2_join_120 cX2_join_120 ((((((((((((((h).2).2).1 c20).2).2).2).2).1 c19).2) _ rfl).2).2) _ rfl)⟩⟩⟩), fun c19 => ⟨⟨(((((((((h).2).2).1 c20).2).2).2).2).2 c19).1, (by decide), (by decide)⟩, ⟨⟨(((((((((((h).2).2).1 c20).2).2).2).2).2 c19).2).1).1, (((((((((((h).2).2).1 c20).2).2).2).2).2 c19).2).1).2⟩, ⟨⟨(((((((((((h).2).2).1 c20).2).2).2).2).2 c19).2).2).1, (by decide), (by decide)⟩, ⟨⟨(((((((((((((h).2).2).1 c20).2).2).2).2).2 c19).2).2).2).1).1, (((((((((((((h).2).2).1 c20).2).2).2).2).2 c19).2).2).2).1).2⟩, ⟨fun c18 => AW.blk kX2_join_73 cX2_join_73 (⟨⟨((((((((((((((h).2).2).1 c20).2).2).2).2).2 c19).2).2).2).2).1 c18).1, (by decide), (by decide)⟩, ⟨⟨((((((((((((((((h).2).2).1 c20).2).2).2).2).2 c19).2).2).2).2).1 c18).2).1).1, ((((((((((((((((h).2).2).1 c20).2).2).2).2).2 c19).2).2).2).2).1 c18).2).1).2⟩, ⟨⟨((((((((((((((((h).2).2).1 c20).2).2).2).2).2 c19).2).2).2).2).1 c18).2).2).1, (by decide), (by decide)⟩, ⟨⟨((((((((((((((((((h).2).2).1 c20).2).2).2).2).2 c19).2).2).2).2).1 c18).2).2).2).1).1, ((((((((((((((((((h).2).2).1 c20).2).2).2).2).2 c19).2).2).2).2).1 c18).2).2).2).1).2⟩, ⟨fun c15 => AW.blk kX2_join_120 cX2_join_120 (((((((((((((((((((h).2).2).1 c20).2).2).2).2).2 c19).2).2).2).2).1 c18).2).2).2).2).1 c15), fun c15 => ⟨⟨((((((((((((((((((((h).2).2).1 c20).2).2).2).2).2 c19).2).2).2).2).1 c18).2).2).2).2).2 c15).1).1, ((((((((((((((((((((h).2).2).1 c20).2).2).2).2).2 c19).2).2).2).2).1 c18).2).2).2).2).2 c15).1).2⟩, ⟨((((((((((((((((((((h).2).2).1 c20).2).2).2).2).2 c19).2).2).2).2).1 c18).2).2).2).2).2 c15).2).1, ⟨⟨((((((((((((((((((((((h).2).2).1 c20).2).2).2).2).2 c19).2).2).2).2).1 c18).2).2).2).2).2 c15).2).2).1).1, ((((((((((((((((((((((h).2).2).1 c20).2).2).2).2).2 c19).2).2).2).2).1 c18).2).2).2).2).2 c15).2).2).1).2⟩, ⟨rfl, ⟨⟨(((((((((((((((((((((((h).2).2).1 c20).2).2).2).2).2 c19).2).2).2).2).1 c18).2).2).2).2).2 c15).2).2).2).1).1, (((((((((((((((((((((((h).2).2).1 c20).2).2).2).2).2 c19).2).2).2).2).1 c18).2).2).2).2).2 c15).2).2).2).1).2⟩, ⟨⟨(((((((((((((((((((((((((h).2).2).1 c20).2).2).2).2).2 c19).2).2).2).2).1 c18).2).2).2).2).2 c15).2).2).2).2) _ rfl).1).1, (((((((((((((((((((((((((h).2).2).1 c20).2).2).2).2).2 c19).2).2).2).2).1 c18).2).2).2).2).2 c15).2).2).2).2) _ rfl).1).2⟩, ⟨⟨((((((((((((((((((((((((((h).2).2).1 c20).2).2).2).2).2 c19).2).2).2).2).1 c18).2).2).2).2).2 c15).2).2).2).2) _ rfl).2).1).1, ((((((((((((((((((((((((((h).2).2).1 c20).2).2).2).2).2 c19).2).2).2).2).1 c18).2).2).2).2).2 c15).2).2).2).2) _ rfl).2).1).2⟩, ⟨⟨(((((((((((((((((((((((((((h).2).2).1 c20).2).2).2).2).2 c19).2).2).2).2).1 c18).2).2).2).2).2 c15).2).2).2).2) _ rfl).2).2).1).1, (((((((((((((((((((((((((((h).2).2).1 c20).2).2).2).2).2 c19).2).2).2).2).1 c18).2).2).2).2).2 c15).2).2).2).2) _ rfl).2).2).1).2⟩, (((((((((((((((((((((((((((h).2).2).1 c20).2).2).2).2).2 c19).2).2).2).2).1 c18).2).2).2).2).2 c15).2).2).2).2) _ rfl).2).2).2) _ rfl⟩⟩⟩⟩⟩⟩⟩⟩⟩⟩⟩⟩⟩), fun c18 => ⟨⟨(((((((((((((((h).2).2).1 c20).2).2).2).2).2 c19).2).2).2).2).2 c18).1).1, (((((((((((((((h).2).2).1 c20).2).2).2).2).2 c19).2).2).2).2).2 c18).1).2⟩, ⟨⟨(((((((((((((((((h).2).2).1 c20).2).2).2).2).2 c19).2).2).2).2).2 c18).2) _ rfl).1).1, (((((((((((((((((h).2).2).1 c20).2).2).2).2).2 c19).2).2).2).2).2 c18).2) _ rfl).1).2⟩, ⟨⟨((((((((((((((((((h).2).2).1 c20).2).2).2).2).2 c19).2).2).2).2).2 c18).2) _ rfl).2).1).1, ((((((((((((((((((h).2).2).1 c20).2).2).2).2).2 c19).2).2).2).2).2 c18).2) _ rfl).2).1).2⟩, AW.blk kX2_join_120 cX2_join_120 (((((((((((((((((((h).2).2).1 c20).2).2).2).2).2 c19).2).2).2).2).2 c18).2) _ rfl).2).2) _ rfl)⟩⟩⟩⟩⟩⟩⟩⟩⟩⟩⟩⟩⟩), fun c20 => (((h).2).2).2 c20⟩⟩⟩)
def kX2_fewestSets_0 : List BI := [bi (.aload_n 0) 1 [] 0, bi (.getfield 15) 3 [2, 1] 0, bi (.iconst 0) 1 [] 0, bi (.iconst 0) 1 [] 0, bi (.iastore) 1 [] 0, bi (.aload_n 0) 1 [] 0, bi (.getfield 18) 3 [2, 2] 0, bi (.iconst 0) 1 [] 0, bi (.iconst 1) 1 [] 0, bi (.iastore) 1 [] 0, bi (.iconst 1) 1 [] 0, bi (.istore_n 3) 1 [] 0]
theorem cX2_fewestSets_0 : chk mX2_fewestSets 0 kX2_fewestSets_0 = true := by decide +kernel
theorem fws_0 {d : Nat} {σ : SG} {Q : Option AV → SG → Prop} {ht lg : Int} (h : (∀ S21 : SG, S21 = up σ 32 0 0 → (∀ S22 : SG, S22 = up S21 33 0 1 → AW d mX2_fewestSets 16 [some (.inr (.inr 30)), some (.inl ht), some (.inl lg), some (.inl 1), none] [] S22 Q))) : AW d mX2_fewestSets 0 [some (.inr (.inr 30)), some (.inl ht), some (.inl lg), none, none] [] σ Q := AW.blk kX2_fewestSets_0 cX2_fewestSets_0 (⟨⟨(by decide), (by decide)⟩, ⟨⟨(by decide), (by decide)⟩, ((h) _ rfl) _ rfl⟩⟩)
def kX2_fewestSets_70 : List BI := [bi (.iinc 4 (1)) 3 [] 0, bi (.goto (-16)) 3 [57] 0]
theorem cX2_fewestSets_70 : chk mX2_fewestSets 70 kX2_fewestSets_70 = true := by decide +kernel
theorem fws_70 {d : Nat} {σ : SG} {Q : Option AV → SG → Prop} {ht lg l3 l4 : Int} (h : AW d mX2_fewestSets 57 [some (.inr (.inr 30)), some (.inl ht), some (.inl lg), some (.inl l3), some (.inl (l4 + 1))] [] σ Q) : AW d mX2_fewestSets 70 [some (.inr (.inr 30)), some (.inl ht), some (.inl lg), some (.inl l3), some (.inl l4)] [] σ Q := AW.blk kX2_fewestSets_70 cX2_fewestSets_70 (h)
def kX2_fewestSets_90 : List BI := [bi (.iinc 3 (1)) 3 [] 0, bi (.goto (-77)) 3 [16] 0]
theorem cX2_fewestSets_90 : chk mX2_fewestSets 90 kX2_fewestSets_90 = true := by decide +kernel
theorem fws_90 {d : Nat} {σ : SG} {Q : Option AV → SG → Prop} {ht lg l3 l4 : Int} (h : AW d mX2_fewestSets 16 [some (.inr (.inr 30)), some (.inl ht), some (.inl lg), some (.inl (l3 + 1)), none] [] σ Q) : AW d mX2_fewestSets 90 [some (.inr (.inr 30)), some (.inl ht), some (.inl lg), some (.inl l3), some (.inl l4)] [] σ Q := AW.blk kX2_fewestSets_90 cX2_fewestSets_90 (AW.drop 4 (h))
def kX2_fewestSets_96 : List BI := [bi (.aload_n 0) 1 [] 0, bi (.getfield 15) 3 [2, 1] 0, bi (.iload_n 1) 1 [] 0, bi (.iaload) 1 [] 0, bi (.ireturn) 1 [] 0]
theorem cX2_fewestSets_96 : chk mX2_fewestSets 96 kX2_fewestSets_96 = true := by decide +kernel
def kX2_fewestSets_48 : List BI := [bi (.iconst 0) 1 [] 0, bi (.iload_n 3) 1 [] 0, bi (.iload_n 2) 1 [] 0, bi (.isub) 1 [] 0, bi (.invokestatic 44) 3 [0] 0, bi (.istore 4) 2 [] 0]
theorem cX2_fewestSets_48 : chk mX2_fewestSets 48 kX2_fewestSets_48 = true := by decide +kernel
def kX2_fewestSets_16 : List BI := [bi (.iload_n 3) 1 [] 0, bi (.iload_n 1) 1 [] 0, bi (.if_icmp .gt (78)) 3 [96] 0, bi (.aload_n 0) 1 [] 0, bi (.getfield 15) 3 [2, 1] 0, bi (.iload_n 3) 1 [] 0, bi (.iconst (-1)) 1 [] 0, bi (.iastore) 1 [] 0, bi (.aload_n 0) 1 [] 0, bi (.getfield 18) 3 [2, 2] 0, bi (.iload_n 3) 1 [] 0, bi (.iconst 0) 1 [] 0, bi (.iastore) 1 [] 0, bi (.aload_n 0) 1 [] 0, bi (.getfield 9) 3 [2, 0] 0, bi (.iload_n 3) 1 [] 0, bi (.iaload) 1 [] 0, bi (.iconst (-1)) 1 [] 0, bi (.if_icmp .ne (6)) 3 [48] 0, bi (.goto (45)) 3 [90] 0]
theorem cX2_fewestSets_16 : chk mX2_fewestSets 16 kX2_fewestSets_16 = true := by decide +kernel
theorem fws_16 {d : Nat} {σ : SG} {Q : Option AV → SG → Prop} {ht lg l3 : Int} (h : (r3 l3 ∧ r3 ht) ∧ (ht < l3 → (0 ≤ ht ∧ ht < 15) ∧ Q (some (.inl (σ 32 ht))) σ) ∧ (l3 ≤ ht → (0 ≤ l3 ∧ l3 < 15) ∧ (∀ S23 : SG, S23 = up σ 32 l3 (-1) → (0 ≤ l3 ∧ l3 < 15) ∧ (∀ S24 : SG, S24 = up S23 33 l3 0 → (0 ≤ l3 ∧ l3 < 15) ∧ (r3 (S24 31 l3)) ∧ ((S24 31 l3) ≠ (-1) → (0 < d) ∧ (r3 (l3 - lg)) ∧ AW d mX2_fewestSets 57 [some (.inr (.inr 30)), some (.inl ht), some (.inl lg), some (.inl l3), some (.inl (if 0 < (l3 - lg) then (l3 - lg) else 0))] [] S24 Q) ∧ ((S24 31 l3) = (-1) → AW d mX2_fewestSets 16 [some (.inr (.inr 30)), some (.inl ht), some (.inl lg), some (.inl (l3 + 1)), none] [] S24 Q))))) : AW d mX2_fewestSets 16 [some (.inr (.inr 30)), some (.inl ht), some (.inl lg), some (.inl l3), none] [] σ Q := AW.blk kX2_fewestSets_16 cX2_fewestSets_16 (⟨⟨((h).1).1, ((h).1).2⟩, ⟨fun c26 => AW.blk kX2_fewestSets_96 cX2_fewestSets_96 (⟨⟨((((h).2).1 c26).1).1, ((((h).2).1 c26).1).2⟩, (((h).2).1 c26).2⟩), fun c26 => ⟨⟨((((h).2).2 c26).1).1, ((((h).2).2 c26).1).2⟩, ⟨⟨((((((h).2).2 c26).2) _ rfl).1).1, ((((((h).2).2 c26).2) _ rfl).1).2⟩, ⟨⟨((((((((h).2).2 c26).2) _ rfl).2) _ rfl).1).1, ((((((((h).2).2 c26).2) _ rfl).2) _ rfl).1).2⟩, ⟨⟨((((((((h).2).2 c26).2) _ rfl).2) _ rfl).2).1, (by decide)⟩, ⟨fun c25 => AW.blk kX2_fewestSets_48 cX2_fewestSets_48 (⟨((((((((((h).2).2 c26).2) _ rfl).2) _ rfl).2).2).1 c25).1, ⟨⟨(by decide), (((((((((((h).2).2 c26).2) _ rfl).2) _ rfl).2).2).1 c25).2).1⟩, ⟨rfl, (((((((((((h).2).2 c26).2) _ rfl).2) _ rfl).2).2).1 c25).2).2⟩⟩⟩), fun c25 => AW.blk kX2_fewestSets_90 cX2_fewestSets_90 ((((((((((h).2).2 c26).2) _ rfl).2) _ rfl).2).2).2 c25)⟩⟩⟩⟩⟩⟩⟩)
def kX2_fewestSets_76 : List BI := [bi (.aload_n 0) 1 [] 0, bi (.getfield 9) 3 [2, 0] 0, bi (.iload_n 3) 1 [] 0, bi (.iaload) 1 [] 0, bi (.ifCond .ne (8)) 3 [90] 0, bi (.aload_n 0) 1 [] 0, bi (.iload_n 3) 1 [] 0, bi (.invokevirtual 53) 3 [mX2_closeBelow, 2, 3, 2] 0]
theorem cX2_fewestSets_76 : chk mX2_fewestSets 76 kX2_fewestSets_76 = true := by decide +kernel
def kX2_fewestSets_57 : List BI := [bi (.iload 4) 2 [] 0, bi (.iload_n 3) 1 [] 0, bi (.if_icmp .ge (16)) 3 [76] 0, bi (.aload_n 0) 1 [] 0, bi (.iload 4) 2 [] 0, bi (.iload_n 3) 1 [] 0, bi (.invokevirtual 49) 3 [mX2_join, 3, 4, 2] 0]
theorem cX2_fewestSets_57 : chk mX2_fewestSets 57 kX2_fewestSets_57 = true := by decide +kernel
theorem fws_57 {d : Nat} {σ : SG} {Q : Option AV → SG → Prop} {ht lg l3 l4 : Int} (h : (r3 l4 ∧ r3 l3) ∧ (l3 ≤ l4 → (0 ≤ l3 ∧ l3 < 15) ∧ (r3 (σ 31 l3)) ∧ ((σ 31 l3) ≠ 0 → AW d mX2_fewestSets 16 [some (.inr (.inr 30)), some (.inl ht), some (.inl lg), some (.inl (l3 + 1)), none] [] σ Q) ∧ ((σ 31 l3) = 0 → (0 < d) ∧ AW (d - 1) mX2_closeBelow 0 [some (.inr (.inr 30)), some (.inl l3), none] [] σ (fun rr σ' => AW d mX2_fewestSets 90 [some (.inr (.inr 30)), some (.inl ht), some (.inl lg), some (.inl l3), some (.inl l4)] (rtS rr []) σ' Q))) ∧ (l4 < l3 → (0 < d) ∧ AW (d - 1) mX2_join 0 [some (.inr (.inr 30)), some (.inl l4), some (.inl l3), none] [] σ (fun rr σ' => AW d mX2_fewestSets 70 [some (.inr (.inr 30)), some (.inl ht), some (.inl lg), some (.inl l3), some (.inl l4)] (rtS rr []) σ' Q))) : AW d mX2_fewestSets 57 [some (.inr (.inr 30)), some (.inl ht), some (.inl lg), some (.inl l3), some (.inl l4)] [] σ Q := AW.blk kX2_fewestSets_57 cX2_fewestSets_57 (⟨⟨((h).1).1, ((h).1).2⟩, ⟨fun c28 => AW.blk kX2_fewestSets_76 cX2_fewestSets_76 (⟨⟨((((h).2).1 c28).1).1, ((((h).2).1 c28).1).2⟩, ⟨((((h).2).1 c28).2).1, ⟨fun c27 => AW.blk kX2_fewestSets_90 cX2_fewestSets_90 (AW.drop 4 ((((((h).2).1 c28).2).2).1 c27)), fun c27 => ⟨((((((h).2).1 c28).2).2).2 c27).1, ((((((h).2).1 c28).2).2).2 c27).2⟩⟩⟩⟩), fun c28 => ⟨(((h).2).2 c28).1, (((h).2).2 c28).2⟩⟩⟩)
theorem pow_lt2 {i : Nat} (h : i < 24) : (0 : Int) < 2 ^ i ∧ (2 : Int) ^ i ≤ 16777216 := by
  have e : ((2 ^ i : Nat) : Int) = (2 : Int) ^ i := by push_cast; rfl
  have h1 := Nat.two_pow_pos i
  have h2 : 2 ^ i ≤ 2 ^ 24 := Nat.pow_le_pow_right (by decide) (by omega)
  omega
theorem cntP_eq {a : Nat} : ∀ n : Nat, cntP (fun i => i = a) n = if a < n then 1 else 0 := by
  intro n
  induction n with
  | zero => rfl
  | succ n ih =>
    by_cases c : n = a
    · rw [cntP_y (P := fun i => i = a) c, ih, if_neg (by omega), if_pos (by omega)]
    · rw [cntP_n (P := fun i => i = a) c, ih]
      by_cases c2 : a < n
      · rw [if_pos c2, if_pos (by omega)]
      · rw [if_neg c2, if_neg (by omega)]
def lbP (A : Int → Bool) (lam : Int → Int) (s : Int) : Int := if A s = true then 0 else if lam s = -1 then -1 else 16777216 + 1 * 2 ^ Int.toNat (lam s)
theorem lbP_bt {A : Int → Bool} {lam : Int → Int} {s : Int} (h : A s = true ∨ lam s ≠ -1) : lbP A lam s = ((16777216 * (if A s = true then 0 else 1) + btL A lam s : Nat) : Int) := by
  unfold lbP btL
  cases c : A s
  · rcases h with z | z
    · rw [c] at z
      cases z
    · rw [if_neg (show ¬ false = true by decide), if_neg z, if_neg (show ¬ false = true by decide), if_neg (show ¬ false = true by decide)]
      have : ((2 ^ (lam s).toNat : Nat) : Int) = (2 : Int) ^ (lam s).toNat := by push_cast; rfl
      omega
  · rw [if_pos rfl, if_pos rfl, if_pos rfl]
    rfl
theorem forLoansBack_ok {d : Nat} {σ : SG} {Q : Option AV → SG → Prop} {t ht : Int} (hd : 4 ≤ d) (hL : LR (σ 35)) (hS : SR (σ 35)) (t0 : 0 ≤ t) (t1 : t < 4) (h0 : 0 ≤ ht) (h1 : ht ≤ 14) (hq : ∀ f, (∀ s, 1 ≤ s → s ≤ ht → f s = lbP (sdS (bor (σ 35 (6 + t)) (σ 35 (18 + t)))) (fun s => fstI (llB (σ 35) t s) (σ 35 1)) s) → Q none (putF σ 31 f)) : AW d mX2_forLoansBack 0 [some (.inr (.inr 30)), some (.inr (.inr 34)), some (.inl t), some (.inl ht), none, none, none, none] [] σ Q := by
  have hr := hS t t0 t1
  have hb := bor_r hr.1 hr.2.2.2
  refine flb_0 ⟨by omega, by omega, by omega, ?_⟩
  generalize bor (σ 35 (6 + t)) (σ 35 (18 + t)) = sd at *
  have key := downInd (P := fun i => ∀ f, (∀ s, 1 ≤ s → s < i → f s = lbP (sdS sd) (fun s => fstI (llB (σ 35) t s) (σ 35 1)) s) → AW d mX2_forLoansBack 10 [some (.inr (.inr 30)), some (.inr (.inr 34)), some (.inl t), some (.inl ht), some (.inl sd), some (.inl i), none, none] [] (putF σ 31 f) Q) (lo := 1) (hi := ht + 1) (by omega) ?_ ?_ (σ 31) (fun s a b => by omega)
  · rwa [putF_self] at key
  · intro f hf
    exact flb_10 ⟨by omega, fun _ => hq f (fun s a b => hf s a (by omega)), fun c => by omega⟩
  · intro i i0 i1 ih f hf
    have e35 : putF σ 31 f 35 = σ 35 := putF_ne (by decide)
    have hl := fstI_r (llB (σ 35) t i) (σ 35 1)
    have hL1 := hL.1
    have hbp := band_pow0 (x := sd) (k := Int.toNat (i - 1)) (by omega)
    have hA : sdS sd i = tb sd (i - 1).toNat := rfl
    have fin : ∀ v, v = lbP (sdS sd) (fun s => fstI (llB (σ 35) t s) (σ 35 1)) i → AW d mX2_forLoansBack 10 [some (.inr (.inr 30)), some (.inr (.inr 34)), some (.inl t), some (.inl ht), some (.inl sd), some (.inl (i + 1)), none, none] [] (up (putF σ 31 f) 31 i v) Q := by
      intro v hv
      rw [putF_up]
      refine ih _ (fun s a b => ?_)
      by_cases c : s = i
      · subst c
        rw [if_pos rfl]
        exact hv
      · rw [if_neg c]
        exact hf s a (by omega)
    refine flb_10 ?_
    rw [e35]
    unfold lbP at fin
    refine ⟨by omega, fun c => by omega, fun _ => ⟨by omega, ⟨by omega, hL, by omega, by omega⟩, by omega, fun c => ⟨by omega, by omega, by omega, band_r3 hb.1 (by omega), fun c2 => ⟨by omega, fun S e => ?_⟩, fun c2 => ⟨by omega, fun S e => ?_⟩⟩, fun c => ⟨by omega, by omega, band_r3 hb.1 (by omega), fun c2 => ⟨by omega, fun S e => ?_⟩, fun c2 => ⟨by omega, fun S e => ?_⟩⟩⟩⟩
    · rw [e]
      refine fin _ ?_
      rw [hA, hbp.mp c2, if_neg (by decide), if_neg c]
    · rw [e]
      refine fin _ ?_
      rw [if_pos]
      rw [hA]
      cases e : tb sd (i - 1).toNat
      · exact absurd (hbp.mpr e) c2
      · rfl
    · rw [e]
      refine fin _ ?_
      rw [hA, hbp.mp c2, if_neg (by decide), if_pos c]
    · rw [e]
      refine fin _ ?_
      rw [if_pos]
      rw [hA]
      cases e : tb sd (i - 1).toNat
      · exact absurd (hbp.mpr e) c2
      · rfl
theorem closeBelow_ok {d : Nat} {σ : SG} {Q : Option AV → SG → Prop} {s : Int} (s0 : 0 ≤ s) (s1 : s ≤ 14) (hq : ∀ f, (∀ j, 0 ≤ j → j < s → f j = -1) → f s = σ 32 s → Q none (putF σ 32 f)) : AW d mX2_closeBelow 0 [some (.inr (.inr 30)), some (.inl s), none] [] σ Q := by
  refine clb_0 ?_
  have key := downInd (P := fun i => ∀ f, (∀ j, 0 ≤ j → j < i → f j = -1) → f s = σ 32 s → AW d mX2_closeBelow 2 [some (.inr (.inr 30)), some (.inl s), some (.inl i)] [] (putF σ 32 f) Q) (lo := 0) (hi := s) s0 ?_ ?_ (σ 32) (fun s a b => by omega) rfl
  · rwa [putF_self] at key
  · intro f hf hs
    exact clb_2 ⟨by omega, fun _ => hq f hf hs, fun c => by omega⟩
  · intro i i0 i1 ih f hf hs
    refine clb_2 ⟨by omega, fun c => by omega, fun _ => ⟨by omega, fun S e => ?_⟩⟩
    rw [e, putF_up]
    refine ih _ (fun j a b => ?_) ?_
    · by_cases c : j = i
      · rw [if_pos c]
      · rw [if_neg c]
        exact hf j a (by omega)
    · rw [if_neg (by omega)]
      exact hs
/-- the rows of the class behind step s -/
def FWI (A : Int → Bool) (lam : Int → Int) (lg : Int) (s : Nat) (B C : Int → Int) : Prop := ∀ j : Nat, j ≤ s → ((∃ q : Nat, (j < q ∧ q ≤ s) ∧ A q = true) → B j = -1) ∧ ((∀ q : Nat, j < q → q ≤ s → A q = false) → BW (GW A lam lg j) (B j) (C j))
def FWA (A : Int → Bool) (lam : Int → Int) (lg : Int) (s : Nat) (lo f : Int) (M : Nat) : Prop := ∃ p : Nat, (lo ≤ p ∧ (p : Int) < f) ∧ (∀ q : Nat, p < q → q < s + 1 → A q = false) ∧ ∃ M', M = M' + btL A lam ((s + 1 : Nat) : Int) ∧ GW A lam lg p M'
theorem fewest_ok {d : Nat} {σ : SG} {Q : Option AV → SG → Prop} {A : Int → Bool} {lam : Int → Int} {ht lg : Int} (hL : LI lam) (hd : 3 ≤ d) (h0 : 0 ≤ ht) (h1 : ht ≤ 14) (hlg : 1 ≤ lg ∧ lg ≤ 6) (hpr : ∀ s, 1 ≤ s → s ≤ ht → σ 31 s = lbP A lam s) (hq : ∀ τ : SG, (∀ p, p ≠ 32 → p ≠ 33 → τ p = σ p) → BW (GW A lam lg ht.toNat) (τ 32 ht) (τ 33 ht) → Q (some (.inl (τ 32 ht))) τ) : AW d mX2_fewestSets 0 [some (.inr (.inr 30)), some (.inl ht), some (.inl lg), none, none] [] σ Q := by
  have z32 : ∀ (S : SG) (i v : Int) (p : Nat), p ≠ 32 → up S 32 i v p = S p := fun S i v p c => by rw [up_putF, putF_ne c]
  have z33 : ∀ (S : SG) (i v : Int) (p : Nat), p ≠ 33 → up S 33 i v p = S p := fun S i v p c => by rw [up_putF, putF_ne c]
  have y32 : ∀ (S : SG) (i v j : Int), up S 32 i v 32 j = if j = i then v else S 32 j := fun S i v j => by rw [up_putF, putF_at]
  have y33 : ∀ (S : SG) (i v j : Int), up S 33 i v 33 j = if j = i then v else S 33 j := fun S i v j => by rw [up_putF, putF_at]
  refine fws_0 (fun S1 e1 S2 e2 => ?_)
  have key := downInd (P := fun i => ∀ τ : SG, (∀ p, p ≠ 32 → p ≠ 33 → τ p = σ p) → FWI A lam lg (i - 1).toNat (τ 32) (τ 33) → AW d mX2_fewestSets 16 [some (.inr (.inr 30)), some (.inl ht), some (.inl lg), some (.inl i), none] [] τ Q) (lo := 1) (hi := ht + 1) (by omega) ?_ ?_ S2 ?_ ?_
  · exact key
  · intro τ hz hF
    refine fws_16 ⟨by omega, fun _ => ⟨by omega, ?_⟩, fun c => by omega⟩
    refine hq τ hz ?_
    have := (hF ht.toNat (by omega)).2 (fun q a b => by omega)
    rwa [show ((ht.toNat : Nat) : Int) = ht by omega] at this
  · intro i i0 i1 ih τ hz hF
    obtain ⟨s, rfl⟩ : ∃ s : Nat, i = ((s + 1 : Nat) : Int) := ⟨(i - 1).toNat, by omega⟩
    rw [show (((s + 1 : Nat) : Int) - 1).toNat = s by omega] at hF
    rw [show (((s + 1 : Nat) : Int) + 1 - 1).toNat = s + 1 by omega] at ih
    have hl := hL.1 ((s + 1 : Nat) : Int)
    refine fws_16 ⟨by omega, fun c => by omega, fun _ => ⟨by omega, fun S3 e3 => ⟨by omega, fun S4 e4 => ?_⟩⟩⟩
    have f4 : ∀ p, p ≠ 32 → p ≠ 33 → S4 p = σ p := fun p a b => by rw [e4, z33 _ _ _ _ b, e3, z32 _ _ _ _ a]; exact hz p a b
    have b4 : ∀ j, S4 32 j = if j = ((s + 1 : Nat) : Int) then -1 else τ 32 j := fun j => by rw [e4, z33 _ _ _ _ (by decide), e3, y32]
    have c4 : ∀ j, S4 33 j = if j = ((s + 1 : Nat) : Int) then 0 else τ 33 j := fun j => by rw [e4, y33, e3, z32 _ _ _ _ (by decide)]
    have hp := hpr ((s + 1 : Nat) : Int) (by omega) (by omega)
    have hp4 : S4 31 ((s + 1 : Nat) : Int) = lbP A lam ((s + 1 : Nat) : Int) := by rw [f4 31 (by decide) (by decide)]; exact hp
    have hF4 : FWI A lam lg s (S4 32) (S4 33) := fun j hj => by
      rw [b4, c4, if_neg (by omega), if_neg (by omega)]
      exact hF j hj
    have hprr : r3 (lbP A lam ((s + 1 : Nat) : Int)) := by
      unfold lbP
      split
      · decide
      · split
        · decide
        · have := pow_lt2 (i := (lam ((s + 1 : Nat) : Int)).toNat) (by omega)
          omega
    rw [hp4]
    refine ⟨by omega, hprr, fun c => ⟨by omega, by omega, ?_⟩, fun c => ?_⟩
    · -- a step with a price
      have hs : A ((s + 1 : Nat) : Int) = true ∨ lam ((s + 1 : Nat) : Int) ≠ -1 := by
        unfold lbP at c
        by_cases ca : A ((s + 1 : Nat) : Int) = true
        · exact Or.inl ca
        · right
          intro cl
          rw [if_neg ca, if_pos cl] at c
          exact c rfl
      have hbt := lbP_bt hs
      have hlo : ∃ lo : Int, lo = (if 0 < ((s + 1 : Nat) : Int) - lg then ((s + 1 : Nat) : Int) - lg else 0) ∧ 0 ≤ lo ∧ lo ≤ s ∧ ∀ p : Nat, lo ≤ p ↔ ((s + 1 : Nat) : Int) - p ≤ lg := by
        refine ⟨_, rfl, ?_⟩
        split
        · exact ⟨by omega, by omega, fun p => by omega⟩
        · exact ⟨by omega, by omega, fun p => by omega⟩
      obtain ⟨lo, elo, lo0, lo1, hlo⟩ := hlo
      rw [← elo]
      have hGA : ∀ M, FWA A lam lg s lo ((s + 1 : Nat) : Int) M ↔ GW A lam lg (s + 1) M := by
        intro M
        constructor
        · intro ⟨p, a, b, M', e, g⟩
          rw [e]
          exact (GW.fwd hL (by omega) ((hlo p).mp a.1) b hs g).2
        · intro g
          obtain ⟨p, a, b, c, M', e, g⟩ := g.back hL
          exact ⟨p, ⟨(hlo p).mpr b, by omega⟩, c, M', e, g⟩
      have hFA : ∀ f, f ≤ ((s + 1 : Nat) : Int) → ∀ M, FWA A lam lg s lo f M → GW A lam lg (s + 1) M := fun f hf M ⟨p, a, b, c⟩ => (hGA M).mp ⟨p, ⟨a.1, by omega⟩, b, c⟩
      have loop := downInd (P := fun f => ∀ τ' : SG, (∀ p, p ≠ 32 → p ≠ 33 → τ' p = σ p) → FWI A lam lg s (τ' 32) (τ' 33) → BW (FWA A lam lg s lo f) (τ' 32 ((s + 1 : Nat) : Int)) (τ' 33 ((s + 1 : Nat) : Int)) → AW d mX2_fewestSets 57 [some (.inr (.inr 30)), some (.inl ht), some (.inl lg), some (.inl ((s + 1 : Nat) : Int)), some (.inl f)] [] τ' Q) (lo := lo) (hi := ((s + 1 : Nat) : Int)) (by omega) ?_ ?_ S4 f4 hF4 ?_
      · exact loop
      · intro τ' hz' hF' hB
        have hB' := hB.congr hGA
        have hp' : τ' 31 ((s + 1 : Nat) : Int) = lbP A lam ((s + 1 : Nat) : Int) := by rw [hz' 31 (by decide) (by decide)]; exact hp
        refine fws_57 ?_
        rw [hp']
        refine ⟨by omega, fun _ => ⟨by omega, hprr, fun c2 => ?_, fun c2 => ⟨by omega, ?_⟩⟩, fun c => by omega⟩
        · have hA : A ((s + 1 : Nat) : Int) = false := by
            cases e : A ((s + 1 : Nat) : Int)
            · rfl
            · unfold lbP at c2
              rw [if_pos e] at c2
              exact absurd rfl c2
          refine ih τ' hz' (fun j hj => ?_)
          by_cases cj : j = s + 1
          · subst cj
            exact ⟨fun ⟨q, a, _⟩ => by omega, fun _ => hB'⟩
          · obtain ⟨g1, g2⟩ := hF' j (by omega)
            refine ⟨fun ⟨q, a, b⟩ => g1 ⟨q, ⟨a.1, ?_⟩, b⟩, fun z => g2 (fun q a b => z q a (by omega))⟩
            have : q ≠ s + 1 := fun e => by
              subst e
              rw [hA] at b
              cases b
            omega
        · have hA : A ((s + 1 : Nat) : Int) = true := by
            cases e : A ((s + 1 : Nat) : Int)
            · exfalso
              rw [hbt, e, if_neg (by decide)] at c2
              omega
            · rfl
          refine closeBelow_ok (by omega) (by omega) (fun f hf hs' => ?_)
          refine fws_90 ?_
          refine ih _ (fun p a b => by rw [putF_ne a]; exact hz' p a b) (fun j hj => ?_)
          rw [putF_at, putF_ne (by decide)]
          by_cases cj : j = s + 1
          · subst cj
            exact ⟨fun ⟨q, a, _⟩ => by omega, fun _ => by rw [hs']; exact hB'⟩
          · exact ⟨fun _ => hf j (by omega) (by omega), fun z => by
              have := z (s + 1) (by omega) (by omega)
              rw [hA] at this
              cases this⟩
      · intro f f0 f1 ihf τ' hz' hF' hB
        obtain ⟨fn, rfl⟩ : ∃ fn : Nat, f = (fn : Int) := ⟨f.toNat, by omega⟩
        have hp' : τ' 31 ((s + 1 : Nat) : Int) = lbP A lam ((s + 1 : Nat) : Int) := by rw [hz' 31 (by decide) (by decide)]; exact hp
        have hacc : ∀ M, FWA A lam lg s lo ((fn : Int) + 1) M ↔ (FWA A lam lg s lo fn M ∨ ((∀ q : Nat, fn < q → q < s + 1 → A q = false) ∧ ∃ M', M = M' + btL A lam ((s + 1 : Nat) : Int) ∧ GW A lam lg fn M')) := by
          intro M
          constructor
          · intro ⟨p, a, b, c⟩
            by_cases e : p = fn
            · subst e
              exact Or.inr ⟨b, c⟩
            · exact Or.inl ⟨p, ⟨a.1, by omega⟩, b, c⟩
          · intro z
            rcases z with ⟨p, a, b⟩ | ⟨b, c⟩
            · exact ⟨p, ⟨a.1, by omega⟩, b⟩
            · exact ⟨fn, ⟨f0, by omega⟩, b, c⟩
        have hBr := hB.r (fun M z => (hFA fn (by omega) M z).lt hL)
        obtain ⟨g1, g2⟩ := hF' fn (by omega)
        refine fws_57 ⟨by omega, fun c => by omega, fun _ => ⟨by omega, ?_⟩⟩
        by_cases hcl : ∀ q : Nat, fn < q → q ≤ s → A q = false
        · have hG := g2 hcl
          have hGr := hG.r (fun M z => z.lt hL)
          have hcl' : ∀ q : Nat, fn < q → q < s + 1 → A q = false := fun q a b => hcl q a (by omega)
          by_cases hb1 : τ' 32 fn = -1
          · refine joi_0 ⟨by omega, by omega, fun c => absurd hb1 c, fun _ => ?_⟩
            refine fws_70 (ihf τ' hz' hF' (hB.congr (fun M => ?_)))
            rw [hacc]
            exact ⟨Or.inl, fun z => z.elim id (fun ⟨_, M', _, y⟩ => absurd y (hG.emp hb1 M'))⟩
          · have hfw : ∀ M, GW A lam lg fn M → (A ((s + 1 : Nat) : Int) = false → M.testBit (lam ((s + 1 : Nat) : Int)).toNat = false) ∧ GW A lam lg (s + 1) (M + btL A lam ((s + 1 : Nat) : Int)) := fun M z => GW.fwd hL (by omega) ((hlo fn).mp f0) hcl' hs z
            obtain ⟨j1, j2, j3, j4⟩ := hB.join hG hb1 (c := btL A lam ((s + 1 : Nat) : Int)) (δ := if A ((s + 1 : Nat) : Int) = true then 0 else 1) (fun M z => (hFA fn (by omega) M z).lt hL) (fun M z => (hfw M z).2.lt hL) (fun M z => pcM_bt hL hs (hfw M z).1) (fun M z ⟨p, a, b, M', e, g⟩ => by
              have : M = M' := by omega
              subst this
              exact GW.one hL g z (b fn (by omega) (by omega)) (by omega))
            rw [← hbt, ← hp'] at j1 j2 j3 j4
            have hsum : r3 (τ' 32 fn + τ' 31 ((s + 1 : Nat) : Int)) ∧ 0 ≤ τ' 32 fn + τ' 31 ((s + 1 : Nat) : Int) := by
              rw [hp', hbt]
              have : btL A lam ((s + 1 : Nat) : Int) ≤ 16777216 := by
                unfold btL
                split
                · omega
                · have := pow_lt2 (i := (lam ((s + 1 : Nat) : Int)).toNat) (by omega)
                  have e : ((2 ^ (lam ((s + 1 : Nat) : Int)).toNat : Nat) : Int) = (2 : Int) ^ (lam ((s + 1 : Nat) : Int)).toNat := by push_cast; rfl
                  omega
              split <;> omega
            have conv : ∀ b w, BW (fun M => FWA A lam lg s lo fn M ∨ ∃ M', M = M' + btL A lam ((s + 1 : Nat) : Int) ∧ GW A lam lg fn M') b w → BW (FWA A lam lg s lo ((fn : Int) + 1)) b w := fun b w z => z.congr (fun M => by
              rw [hacc]
              exact ⟨fun z => z.elim Or.inl (fun y => Or.inr ⟨hcl', y⟩), fun z => z.elim Or.inl (fun y => Or.inr y.2)⟩)
            have hdv : ∀ x : Int, r3 x → 0 ≤ x → r3 (Int.tdiv x 16777216) := fun x a b => by
              rw [Int.tdiv_eq_ediv_of_nonneg b]
              omega
            have hb0 : τ' 32 ((s + 1 : Nat) : Int) ≠ -1 → r3 (Int.tdiv (τ' 32 ((s + 1 : Nat) : Int)) 16777216) := fun c => hdv _ (by omega) (by omega)
            have fin : ∀ (b w : Int) (T : SG), (∀ p, p ≠ 32 → p ≠ 33 → T p = σ p) → (∀ j, T 32 j = if j = ((s + 1 : Nat) : Int) then b else τ' 32 j) → (∀ j, T 33 j = if j = ((s + 1 : Nat) : Int) then w else τ' 33 j) → BW (fun M => FWA A lam lg s lo fn M ∨ ∃ M', M = M' + btL A lam ((s + 1 : Nat) : Int) ∧ GW A lam lg fn M') b w → AW d mX2_fewestSets 70 [some (.inr (.inr 30)), some (.inl ht), some (.inl lg), some (.inl ((s + 1 : Nat) : Int)), some (.inl (fn : Int))] [] T Q := by
              intro b w T hT hT2 hT3 hBB
              refine fws_70 (ihf T hT (fun j hj => ?_) ?_)
              · rw [hT2, hT3, if_neg (by omega), if_neg (by omega)]
                exact hF' j hj
              · rw [hT2, hT3, if_pos rfl, if_pos rfl]
                exact conv b w hBB
            refine joi_0 ⟨by omega, by omega, fun _ => ⟨by omega, by omega, by omega, by omega, fun c => ⟨by omega, fun U1 u1 => ⟨by omega, by omega, fun U2 u2 => ?_⟩⟩, fun c => ⟨hsum.1, by omega, by omega, ⟨hdv _ hsum.1 hsum.2, hb0 c⟩, fun c2 => ⟨hsum.1, by omega, by omega, ⟨hdv _ hsum.1 hsum.2, hb0 c⟩, fun c3 => ?_, fun c3 => ⟨by omega, by omega, ⟨by omega, hsum.1⟩, by omega, fun U1 u1 => ⟨by omega, by omega, by omega, fun U2 u2 => ?_⟩⟩⟩, fun c2 => ⟨by omega, fun U1 u1 => ⟨by omega, by omega, fun U2 u2 => ?_⟩⟩⟩⟩, fun c => absurd c hb1⟩
            · refine fin _ (τ' 33 fn) U2 (fun p a b => by rw [u2, z33 _ _ _ _ b, u1, z32 _ _ _ _ a]; exact hz' p a b) (fun j => by rw [u2, z33 _ _ _ _ (by decide), u1, y32]) (fun j => by rw [u2, y33, u1, z32 _ _ _ _ (by decide)]) (j1 c)
            · exact fin _ _ τ' hz' (fun j => by split <;> rename_i e <;> first | rw [e] | rfl) (fun j => by split <;> rename_i e <;> first | rw [e] | rfl) (j4 c (by omega))
            · refine fin _ (τ' 33 ((s + 1 : Nat) : Int) + τ' 33 fn) U2 (fun p a b => by rw [u2, z33 _ _ _ _ b, u1, z32 _ _ _ _ a]; exact hz' p a b) (fun j => by rw [u2, z33 _ _ _ _ (by decide), u1, y32]) (fun j => by rw [u2, y33, u1, z32 _ _ _ _ (by decide)]) (j3 c c3)
            · refine fin _ (τ' 33 fn) U2 (fun p a b => by rw [u2, z33 _ _ _ _ b, u1, z32 _ _ _ _ a]; exact hz' p a b) (fun j => by rw [u2, z33 _ _ _ _ (by decide), u1, y32]) (fun j => by rw [u2, y33, u1, z32 _ _ _ _ (by decide)]) (j2 c c2)
        · have hex : ∃ q : Nat, (fn < q ∧ q ≤ s) ∧ A q = true := Classical.byContradiction fun z => hcl (fun q a b => by
            cases e : A q
            · rfl
            · exact absurd ⟨q, ⟨a, b⟩, e⟩ z)
          have hb1 := g1 hex
          refine joi_0 ⟨by omega, by omega, fun c => absurd hb1 c, fun _ => ?_⟩
          refine fws_70 (ihf τ' hz' hF' (hB.congr (fun M => ?_)))
          rw [hacc]
          exact ⟨Or.inl, fun z => z.elim id (fun ⟨y, _⟩ => absurd (fun q a b => y q a (by omega)) hcl)⟩
      · rw [b4, if_pos rfl]
        exact Or.inl ⟨fun M ⟨p, a, _⟩ => by omega, rfl⟩
    · -- no price
      have hA : A ((s + 1 : Nat) : Int) = false := by
        cases e : A ((s + 1 : Nat) : Int)
        · rfl
        · unfold lbP at c
          rw [if_pos e] at c
          omega
      have hlm : lam ((s + 1 : Nat) : Int) = -1 := by
        by_cases e : lam ((s + 1 : Nat) : Int) = -1
        · exact e
        · rw [lbP_bt (Or.inr e)] at c
          omega
      refine ih S4 f4 (fun j hj => ?_)
      by_cases cj : j = s + 1
      · subst cj
        refine ⟨fun ⟨q, a, _⟩ => by omega, fun _ => ?_⟩
        rw [b4, if_pos rfl]
        refine Or.inl ⟨fun M z => ?_, rfl⟩
        rcases z.none.1 with y | ⟨y, _⟩
        · rw [hA] at y
          cases y
        · exact y hlm
      · obtain ⟨g1, g2⟩ := hF4 j (by omega)
        refine ⟨fun ⟨q, a, b⟩ => g1 ⟨q, ⟨a.1, ?_⟩, b⟩, fun z => g2 (fun q a b => z q a (by omega))⟩
        have : q ≠ s + 1 := fun e => by
          subst e
          rw [hA] at b
          cases b
        omega
  · intro p a b
    rw [e2, z33 _ _ _ _ b, e1, z32 _ _ _ _ a]
  · intro j hj
    have j0 : j = 0 := by omega
    subst j0
    refine ⟨fun ⟨q, a, _⟩ => by omega, fun _ => ?_⟩
    have v1 : S2 32 ((0 : Nat) : Int) = 0 := by
      rw [e2, z33 _ _ _ _ (by decide), e1, y32]
      exact if_pos rfl
    have v2 : S2 33 ((0 : Nat) : Int) = 1 := by
      rw [e2, y33]
      exact if_pos rfl
    rw [v1, v2]
    have hp0 : pcM 0 = 0 := by decide
    refine Or.inr ⟨0, 0, ⟨GW.zero.mpr rfl, hp0⟩, fun M _ => Nat.zero_le _, fun M _ _ => Nat.zero_le _, rfl, ?_⟩
    have hc : cntP (fun M => GW A lam lg 0 M ∧ pcM M = 0) 16777216 = 1 := by
      rw [cntP_congr (Q := fun M => M = 0) (fun i _ => ⟨fun z => GW.zero.mp z.1, fun z => ⟨GW.zero.mpr z, by rw [z]; exact hp0⟩⟩), cntP_eq, if_pos (by omega)]
    rw [hc]
    rfl
