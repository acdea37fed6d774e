/-! ===== feed (wip/whole/gen59.py) ===== -/
def kX7_put_0 : List BI := [bi (.bipush (24)) 2 [] 0, bi (.istore_n 2) 1 [] 0]
theorem cX7_put_0 : chk mX7_put 0 kX7_put_0 = true := by decide +kernel
theorem xput_0 {d : Nat} {σ : SG} {Q : Option AV → SG → Prop} {v : Int} (h : AW d mX7_put 3 [some (.inr (.inr 2)), some (.inl v), some (.inl 24)] [] σ Q) : AW d mX7_put 0 [some (.inr (.inr 2)), some (.inl v), none] [] σ Q := AW.blk kX7_put_0 cX7_put_0 (h)
def kX7_put_51 : List BI := [bi (.return_) 1 [] 0]
theorem cX7_put_51 : chk mX7_put 51 kX7_put_51 = true := by decide +kernel
def kX7_put_45 : List BI := [bi (.iinc 2 (-8)) 3 [] 0, bi (.goto (-45)) 3 [3] 0]
theorem cX7_put_45 : chk mX7_put 45 kX7_put_45 = true := by decide +kernel
def kX7_put_3 : List BI := [bi (.iload_n 2) 1 [] 0, bi (.ifCond .lt (47)) 3 [51] 0, bi (.aload_n 0) 1 [] 0, bi (.getfield 15) 3 [7, 1] 0, bi (.aload_n 0) 1 [] 0, bi (.getfield 9) 3 [7, 0] 0, bi (.arraylength) 1 [] 0, bi (.if_icmp .ge (29)) 3 [45] 0, bi (.aload_n 0) 1 [] 0, bi (.getfield 9) 3 [7, 0] 0, bi (.aload_n 0) 1 [] 0, bi (.getfield 15) 3 [7, 1] 0, bi (.iload_n 1) 1 [] 0, bi (.iload_n 2) 1 [] 0, bi (.iushr) 1 [] 0, bi (.sipush (255)) 3 [] 0, bi (.iand) 1 [] 0, bi (.iastore) 1 [] 0, bi (.aload_n 0) 1 [] 0, bi (.dup) 1 [] 0, bi (.getfield 15) 3 [7, 1] 0, bi (.iconst 1) 1 [] 0, bi (.iadd) 1 [] 0, bi (.putfield 15) 3 [7, 1] 0, bi (.iinc 2 (-8)) 3 [] 0, bi (.goto (-45)) 3 [3] 0]
theorem cX7_put_3 : chk mX7_put 3 kX7_put_3 = true := by decide +kernel
theorem xput_3 {d : Nat} {σ : SG} {Q : Option AV → SG → Prop} {v l2 : Int} (h : (r3 l2) ∧ (l2 < 0 → Q none σ) ∧ (0 ≤ l2 → (r3 (σ 2 1)) ∧ (1600 ≤ (σ 2 1) → AW d mX7_put 3 [some (.inr (.inr 2)), some (.inl v), some (.inl (l2 + (-8)))] [] σ Q) ∧ ((σ 2 1) < 1600 → (0 ≤ l2 ∧ l2 < 32) ∧ (0 ≤ (σ 2 1) ∧ (σ 2 1) < 1600) ∧ (∀ S1 : SG, S1 = up σ 3 (σ 2 1) (band ((un v / 2 ^ Int.toNat l2 : Nat) : Int) 255) → (∀ S2 : SG, S2 = up S1 2 1 ((S1 2 1) + 1) → AW d mX7_put 3 [some (.inr (.inr 2)), some (.inl v), some (.inl (l2 + (-8)))] [] S2 Q))))) : AW d mX7_put 3 [some (.inr (.inr 2)), some (.inl v), some (.inl l2)] [] σ Q := AW.blk kX7_put_3 cX7_put_3 (⟨(h).1, ⟨fun c4 => AW.blk kX7_put_51 cX7_put_51 (((h).2).1 c4), fun c4 => ⟨⟨(((h).2).2 c4).1, (by decide)⟩, ⟨fun c3 => AW.blk kX7_put_45 cX7_put_45 (((((h).2).2 c4).2).1 c3), fun c3 => ⟨⟨((((((h).2).2 c4).2).2 c3).1).1, ((((((h).2).2 c4).2).2 c3).1).2⟩, ⟨⟨(((((((h).2).2 c4).2).2 c3).2).1).1, (((((((h).2).2 c4).2).2 c3).2).1).2⟩, ((((((((h).2).2 c4).2).2 c3).2).2) _ rfl) _ rfl⟩⟩⟩⟩⟩⟩)
def kX9_feed_25 : List BI := [bi (.iconst 0) 1 [] 0, bi (.istore 6) 2 [] 0]
theorem cX9_feed_25 : chk mX9_feed 25 kX9_feed_25 = true := by decide +kernel
def kX9_feed_0 : List BI := [bi (.aload_n 0) 1 [] 0, bi (.getfield 187) 3 [9, 1] 0, bi (.bipush (20)) 2 [] 0, bi (.iadd) 1 [] 0, bi (.sipush (1600)) 3 [] 0, bi (.if_icmp .le (15)) 3 [25] 0, bi (.aload_n 0) 1 [] 0, bi (.getfield 17) 3 [9, 9] 0, bi (.iconst 0) 1 [] 0, bi (.dup2) 1 [] 0, bi (.iaload) 1 [] 0, bi (.iconst 1) 1 [] 0, bi (.iadd) 1 [] 0, bi (.iastore) 1 [] 0, bi (.iconst (-1)) 1 [] 0, bi (.ireturn) 1 [] 0]
theorem cX9_feed_0 : chk mX9_feed 0 kX9_feed_0 = true := by decide +kernel
theorem mfeed_0 {d : Nat} {σ : SG} {Q : Option AV → SG → Prop} {a b c d_ e : Int} (h : (r3 ((σ 42 1) + 20)) ∧ (((σ 42 1) + 20) ≤ 1600 → AW d mX9_feed 28 [some (.inr (.inr 42)), some (.inl a), some (.inl b), some (.inl c), some (.inl d_), some (.inl e), some (.inl 0), none] [] σ Q) ∧ (1600 < ((σ 42 1) + 20) → (∀ S5 : SG, S5 = up σ 44 0 ((σ 44 0) + 1) → Q (some (.inl ((-1)))) S5))) : AW d mX9_feed 0 [some (.inr (.inr 42)), some (.inl a), some (.inl b), some (.inl c), some (.inl d_), some (.inl e), none, none] [] σ Q := AW.blk kX9_feed_0 cX9_feed_0 (⟨⟨(h).1, (by decide)⟩, ⟨fun c6 => AW.blk kX9_feed_25 cX9_feed_25 (((h).2).1 c6), fun c6 => ⟨⟨(by decide), (by decide)⟩, ⟨⟨(by decide), (by decide)⟩, (((h).2).2 c6) _ rfl⟩⟩⟩⟩)
def kX9_feed_124 : List BI := [bi (.aload_n 0) 1 [] 0, bi (.getfield 187) 3 [9, 1] 0, bi (.ireturn) 1 [] 0]
theorem cX9_feed_124 : chk mX9_feed 124 kX9_feed_124 = true := by decide +kernel
def kX9_feed_79 : List BI := [bi (.iload 5) 2 [] 0, bi (.istore 7) 2 [] 0, bi (.aload_n 0) 1 [] 0, bi (.getfield 7) 3 [9, 0] 0, bi (.aload_n 0) 1 [] 0, bi (.getfield 187) 3 [9, 1] 0, bi (.iload 7) 2 [] 0, bi (.bipush (8)) 2 [] 0, bi (.iconst 3) 1 [] 0, bi (.iload 6) 2 [] 0, bi (.iconst 4) 1 [] 0, bi (.irem) 1 [] 0, bi (.isub) 1 [] 0, bi (.imul) 1 [] 0, bi (.ishr) 1 [] 0, bi (.sipush (255)) 3 [] 0, bi (.iand) 1 [] 0, bi (.iastore) 1 [] 0, bi (.aload_n 0) 1 [] 0, bi (.dup) 1 [] 0, bi (.getfield 187) 3 [9, 1] 0, bi (.iconst 1) 1 [] 0, bi (.iadd) 1 [] 0, bi (.putfield 187) 3 [9, 1] 0, bi (.iinc 6 (1)) 3 [] 0, bi (.goto (-93)) 3 [28] 0]
theorem cX9_feed_79 : chk mX9_feed 79 kX9_feed_79 = true := by decide +kernel
def kX9_feed_81 : List BI := [bi (.istore 7) 2 [] 0, bi (.aload_n 0) 1 [] 0, bi (.getfield 7) 3 [9, 0] 0, bi (.aload_n 0) 1 [] 0, bi (.getfield 187) 3 [9, 1] 0, bi (.iload 7) 2 [] 0, bi (.bipush (8)) 2 [] 0, bi (.iconst 3) 1 [] 0, bi (.iload 6) 2 [] 0, bi (.iconst 4) 1 [] 0, bi (.irem) 1 [] 0, bi (.isub) 1 [] 0, bi (.imul) 1 [] 0, bi (.ishr) 1 [] 0, bi (.sipush (255)) 3 [] 0, bi (.iand) 1 [] 0, bi (.iastore) 1 [] 0, bi (.aload_n 0) 1 [] 0, bi (.dup) 1 [] 0, bi (.getfield 187) 3 [9, 1] 0, bi (.iconst 1) 1 [] 0, bi (.iadd) 1 [] 0, bi (.putfield 187) 3 [9, 1] 0, bi (.iinc 6 (1)) 3 [] 0, bi (.goto (-93)) 3 [28] 0]
theorem cX9_feed_81 : chk mX9_feed 81 kX9_feed_81 = true := by decide +kernel
def kX9_feed_67 : List BI := [bi (.iload 6) 2 [] 0, bi (.bipush (16)) 2 [] 0, bi (.if_icmp .ge (8)) 3 [79] 0, bi (.iload 4) 2 [] 0, bi (.goto (5)) 3 [81] 0]
theorem cX9_feed_67 : chk mX9_feed 67 kX9_feed_67 = true := by decide +kernel
def kX9_feed_56 : List BI := [bi (.iload 6) 2 [] 0, bi (.bipush (12)) 2 [] 0, bi (.if_icmp .ge (7)) 3 [67] 0, bi (.iload_n 3) 1 [] 0, bi (.goto (17)) 3 [81] 0]
theorem cX9_feed_56 : chk mX9_feed 56 kX9_feed_56 = true := by decide +kernel
def kX9_feed_45 : List BI := [bi (.iload 6) 2 [] 0, bi (.bipush (8)) 2 [] 0, bi (.if_icmp .ge (7)) 3 [56] 0, bi (.iload_n 2) 1 [] 0, bi (.goto (28)) 3 [81] 0]
theorem cX9_feed_45 : chk mX9_feed 45 kX9_feed_45 = true := by decide +kernel
def kX9_feed_28 : List BI := [bi (.iload 6) 2 [] 0, bi (.bipush (20)) 2 [] 0, bi (.if_icmp .ge (92)) 3 [124] 0, bi (.iload 6) 2 [] 0, bi (.iconst 4) 1 [] 0, bi (.if_icmp .ge (7)) 3 [45] 0, bi (.iload_n 1) 1 [] 0, bi (.goto (39)) 3 [81] 0]
theorem cX9_feed_28 : chk mX9_feed 28 kX9_feed_28 = true := by decide +kernel
theorem mfeed_28 {d : Nat} {σ : SG} {Q : Option AV → SG → Prop} {a b c d_ e l6 : Int} (h : (r3 l6) ∧ (20 ≤ l6 → Q (some (.inl (σ 42 1))) σ) ∧ (l6 < 20 → (r3 l6) ∧ (4 ≤ l6 → (r3 l6) ∧ (8 ≤ l6 → (r3 l6) ∧ (12 ≤ l6 → (r3 l6) ∧ (16 ≤ l6 → (r3 l6) ∧ (0 ≤ (8 * (3 - (Int.tmod l6 4))) ∧ (8 * (3 - (Int.tmod l6 4))) < 32 ∧ r3 e) ∧ (0 ≤ (σ 42 1) ∧ (σ 42 1) < 1600) ∧ (∀ S7 : SG, S7 = up σ 43 (σ 42 1) (band (e / 2 ^ Int.toNat (8 * (3 - (Int.tmod l6 4)))) 255) → (∀ S8 : SG, S8 = up S7 42 1 ((S7 42 1) + 1) → AW d mX9_feed 28 [some (.inr (.inr 42)), some (.inl a), some (.inl b), some (.inl c), some (.inl d_), some (.inl e), some (.inl (l6 + 1)), none] [] S8 Q))) ∧ (l6 < 16 → (r3 l6) ∧ (0 ≤ (8 * (3 - (Int.tmod l6 4))) ∧ (8 * (3 - (Int.tmod l6 4))) < 32 ∧ r3 d_) ∧ (0 ≤ (σ 42 1) ∧ (σ 42 1) < 1600) ∧ (∀ S9 : SG, S9 = up σ 43 (σ 42 1) (band (d_ / 2 ^ Int.toNat (8 * (3 - (Int.tmod l6 4)))) 255) → (∀ S10 : SG, S10 = up S9 42 1 ((S9 42 1) + 1) → AW d mX9_feed 28 [some (.inr (.inr 42)), some (.inl a), some (.inl b), some (.inl c), some (.inl d_), some (.inl e), some (.inl (l6 + 1)), none] [] S10 Q)))) ∧ (l6 < 12 → (r3 l6) ∧ (0 ≤ (8 * (3 - (Int.tmod l6 4))) ∧ (8 * (3 - (Int.tmod l6 4))) < 32 ∧ r3 c) ∧ (0 ≤ (σ 42 1) ∧ (σ 42 1) < 1600) ∧ (∀ S12 : SG, S12 = up σ 43 (σ 42 1) (band (c / 2 ^ Int.toNat (8 * (3 - (Int.tmod l6 4)))) 255) → (∀ S13 : SG, S13 = up S12 42 1 ((S12 42 1) + 1) → AW d mX9_feed 28 [some (.inr (.inr 42)), some (.inl a), some (.inl b), some (.inl c), some (.inl d_), some (.inl e), some (.inl (l6 + 1)), none] [] S13 Q)))) ∧ (l6 < 8 → (r3 l6) ∧ (0 ≤ (8 * (3 - (Int.tmod l6 4))) ∧ (8 * (3 - (Int.tmod l6 4))) < 32 ∧ r3 b) ∧ (0 ≤ (σ 42 1) ∧ (σ 42 1) < 1600) ∧ (∀ S15 : SG, S15 = up σ 43 (σ 42 1) (band (b / 2 ^ Int.toNat (8 * (3 - (Int.tmod l6 4)))) 255) → (∀ S16 : SG, S16 = up S15 42 1 ((S15 42 1) + 1) → AW d mX9_feed 28 [some (.inr (.inr 42)), some (.inl a), some (.inl b), some (.inl c), some (.inl d_), some (.inl e), some (.inl (l6 + 1)), none] [] S16 Q)))) ∧ (l6 < 4 → (r3 l6) ∧ (0 ≤ (8 * (3 - (Int.tmod l6 4))) ∧ (8 * (3 - (Int.tmod l6 4))) < 32 ∧ r3 a) ∧ (0 ≤ (σ 42 1) ∧ (σ 42 1) < 1600) ∧ (∀ S18 : SG, S18 = up σ 43 (σ 42 1) (band (a / 2 ^ Int.toNat (8 * (3 - (Int.tmod l6 4)))) 255) → (∀ S19 : SG, S19 = up S18 42 1 ((S18 42 1) + 1) → AW d mX9_feed 28 [some (.inr (.inr 42)), some (.inl a), some (.inl b), some (.inl c), some (.inl d_), some (.inl e), some (.inl (l6 + 1)), none] [] S19 Q))))) : AW d mX9_feed 28 [some (.inr (.inr 42)), some (.inl a), some (.inl b), some (.inl c), some (.inl d_), some (.inl e), some (.inl l6), none] [] σ Q := AW.blk kX9_feed_28 cX9_feed_28 (⟨⟨(h).1, (by decide)⟩, ⟨fun c21 => AW.blk kX9_feed_124 cX9_feed_124 (((h).2).1 c21), fun c21 => ⟨⟨(((h).2).2 c21).1, (by decide)⟩, ⟨fun c20 => AW.blk kX9_feed_45 cX9_feed_45 (⟨⟨(((((h).2).2 c21).2).1 c20).1, (by decide)⟩, ⟨fun c17 => AW.blk kX9_feed_56 cX9_feed_56 (⟨⟨(((((((h).2).2 c21).2).1 c20).2).1 c17).1, (by decide)⟩, ⟨fun c14 => AW.blk kX9_feed_67 cX9_feed_67 (⟨⟨(((((((((h).2).2 c21).2).1 c20).2).1 c17).2).1 c14).1, (by decide)⟩, ⟨fun c11 => AW.blk kX9_feed_79 cX9_feed_79 (⟨⟨(((((((((((h).2).2 c21).2).1 c20).2).1 c17).2).1 c14).2).1 c11).1, (by decide), (by decide)⟩, ⟨⟨(((((((((((((h).2).2 c21).2).1 c20).2).1 c17).2).1 c14).2).1 c11).2).1).1, ((((((((((((((h).2).2 c21).2).1 c20).2).1 c17).2).1 c14).2).1 c11).2).1).2).1, ((((((((((((((h).2).2 c21).2).1 c20).2).1 c17).2).1 c14).2).1 c11).2).1).2).2⟩, ⟨⟨((((((((((((((h).2).2 c21).2).1 c20).2).1 c17).2).1 c14).2).1 c11).2).2).1).1, ((((((((((((((h).2).2 c21).2).1 c20).2).1 c17).2).1 c14).2).1 c11).2).2).1).2⟩, AW.drop 7 ((((((((((((((((h).2).2 c21).2).1 c20).2).1 c17).2).1 c14).2).1 c11).2).2).2) _ rfl) _ rfl)⟩⟩⟩), fun c11 => AW.blk kX9_feed_81 cX9_feed_81 (⟨⟨(((((((((((h).2).2 c21).2).1 c20).2).1 c17).2).1 c14).2).2 c11).1, (by decide), (by decide)⟩, ⟨⟨(((((((((((((h).2).2 c21).2).1 c20).2).1 c17).2).1 c14).2).2 c11).2).1).1, ((((((((((((((h).2).2 c21).2).1 c20).2).1 c17).2).1 c14).2).2 c11).2).1).2).1, ((((((((((((((h).2).2 c21).2).1 c20).2).1 c17).2).1 c14).2).2 c11).2).1).2).2⟩, ⟨⟨((((((((((((((h).2).2 c21).2).1 c20).2).1 c17).2).1 c14).2).2 c11).2).2).1).1, ((((((((((((((h).2).2 c21).2).1 c20).2).1 c17).2).1 c14).2).2 c11).2).2).1).2⟩, AW.drop 7 ((((((((((((((((h).2).2 c21).2).1 c20).2).1 c17).2).1 c14).2).2 c11).2).2).2) _ rfl) _ rfl)⟩⟩⟩)⟩⟩), fun c14 => AW.blk kX9_feed_81 cX9_feed_81 (⟨⟨(((((((((h).2).2 c21).2).1 c20).2).1 c17).2).2 c14).1, (by decide), (by decide)⟩, ⟨⟨(((((((((((h).2).2 c21).2).1 c20).2).1 c17).2).2 c14).2).1).1, ((((((((((((h).2).2 c21).2).1 c20).2).1 c17).2).2 c14).2).1).2).1, ((((((((((((h).2).2 c21).2).1 c20).2).1 c17).2).2 c14).2).1).2).2⟩, ⟨⟨((((((((((((h).2).2 c21).2).1 c20).2).1 c17).2).2 c14).2).2).1).1, ((((((((((((h).2).2 c21).2).1 c20).2).1 c17).2).2 c14).2).2).1).2⟩, AW.drop 7 ((((((((((((((h).2).2 c21).2).1 c20).2).1 c17).2).2 c14).2).2).2) _ rfl) _ rfl)⟩⟩⟩)⟩⟩), fun c17 => AW.blk kX9_feed_81 cX9_feed_81 (⟨⟨(((((((h).2).2 c21).2).1 c20).2).2 c17).1, (by decide), (by decide)⟩, ⟨⟨(((((((((h).2).2 c21).2).1 c20).2).2 c17).2).1).1, ((((((((((h).2).2 c21).2).1 c20).2).2 c17).2).1).2).1, ((((((((((h).2).2 c21).2).1 c20).2).2 c17).2).1).2).2⟩, ⟨⟨((((((((((h).2).2 c21).2).1 c20).2).2 c17).2).2).1).1, ((((((((((h).2).2 c21).2).1 c20).2).2 c17).2).2).1).2⟩, AW.drop 7 ((((((((((((h).2).2 c21).2).1 c20).2).2 c17).2).2).2) _ rfl) _ rfl)⟩⟩⟩)⟩⟩), fun c20 => AW.blk kX9_feed_81 cX9_feed_81 (⟨⟨(((((h).2).2 c21).2).2 c20).1, (by decide), (by decide)⟩, ⟨⟨(((((((h).2).2 c21).2).2 c20).2).1).1, ((((((((h).2).2 c21).2).2 c20).2).1).2).1, ((((((((h).2).2 c21).2).2 c20).2).1).2).2⟩, ⟨⟨((((((((h).2).2 c21).2).2 c20).2).2).1).1, ((((((((h).2).2 c21).2).2 c20).2).2).1).2⟩, AW.drop 7 ((((((((((h).2).2 c21).2).2 c20).2).2).2) _ rfl) _ rfl)⟩⟩⟩)⟩⟩⟩⟩)
theorem band255 (x : Int) : band x 255 = x % 256 := by
  unfold band
  rw [show un 255 = 2 ^ 8 - 1 from rfl, Nat.and_two_pow_sub_one_eq_mod]
  unfold un
  omega
def by4 (v k : Int) : Int := if k = 0 then v / 16777216 % 256 else if k = 1 then v / 65536 % 256 else if k = 2 then v / 256 % 256 else v % 256
theorem by4_r (v k : Int) : 0 ≤ by4 v k ∧ by4 v k ≤ 255 := by
  unfold by4
  split
  · omega
  · split
    · omega
    · split <;> omega
theorem up_self (σ : SG) (p : Nat) (i : Int) : up σ p i (σ p i) = σ := by
  funext q j
  unfold up
  split
  · rename_i h
    rw [h.1, h.2]
  · rfl
theorem up_comm {σ : SG} {p q : Nat} {i j v w : Int} (h : p ≠ q) : up (up σ p i v) q j w = up (up σ q j w) p i v := by
  funext r k
  unfold up
  by_cases h1 : r = q ∧ k = j
  · rw [if_pos h1, if_neg (fun z => h (z.1.symm.trans h1.1)), if_pos h1]
  · rw [if_neg h1]
    by_cases h2 : r = p ∧ k = i
    · rw [if_pos h2, if_pos h2]
    · rw [if_neg h2, if_neg h2, if_neg h1]
theorem feed_step {σ S1 S2 : SG} {P O : Nat} {f g : Int → Int} {len i v : Int} (hPO : P ≠ O) (hi : 0 ≤ i) (hv : v = g i) (e1 : S1 = up (up (putF σ P (cpR f g len 0 i)) O 1 (len + i)) P (len + i) v) (e2 : S2 = up S1 O 1 (S1 O 1 + 1)) : S2 = up (putF σ P (cpR f g len 0 (i + 1))) O 1 (len + (i + 1)) := by
  have z : S1 O 1 = len + i := by rw [e1, up_p (Ne.symm hPO), up_at]
  have h := cpR_s f g len 0 hi
  rw [Int.add_zero] at h
  rw [e2, z, e1, up_comm (Ne.symm hPO), up_up, putF_upf, hv, h]
  congr 1
  omega
def ptX (σ : SG) (v : Int) : SG := up (putF σ 3 (cpR (σ 3) (by4 v) (σ 2 1) 0 4)) 2 1 (σ 2 1 + 4)
theorem put_ok {d : Nat} {σ : SG} {Q : Option AV → SG → Prop} {v : Int} (h : (0 ≤ σ 2 1 ∧ σ 2 1 + 4 ≤ 1600) ∧ Q none (ptX σ v)) : AW d mX7_put 0 [some (.inr (.inr 2)), some (.inl v), none] [] σ Q := by
  obtain ⟨hl, hq⟩ := h
  refine xput_0 ?_
  have key := downInd (P := fun i => AW d mX7_put 3 [some (.inr (.inr 2)), some (.inl v), some (.inl (24 - 8 * i))] [] (up (putF σ 3 (cpR (σ 3) (by4 v) (σ 2 1) 0 i)) 2 1 (σ 2 1 + i)) Q) (lo := 0) (hi := 4) (by decide) ?_ ?_
  · rw [cpR_0, putF_self, Int.add_zero, up_self] at key
    exact key
  · exact xput_3 ⟨by omega, fun _ => hq, fun c => by omega⟩
  · intro i i0 i1 ih
    refine xput_3 ?_
    rw [up_at]
    refine ⟨by omega, fun c => by omega, fun _ => ⟨by omega, fun c => by omega, fun _ => ⟨by omega, by omega, fun S1 e1 => fun S2 e2 => ?_⟩⟩⟩
    have hv : band ((un v / 2 ^ Int.toNat (24 - 8 * i) : Nat) : Int) 255 = by4 v i := by
      rw [band255]
      unfold un by4
      rcases (by omega : i = 0 ∨ i = 1 ∨ i = 2 ∨ i = 3) with rfl | rfl | rfl | rfl
      · rw [if_pos rfl, show (2 : Nat) ^ Int.toNat (24 - 8 * 0) = 16777216 from rfl]
        omega
      · rw [if_neg (by decide), if_pos rfl, show (2 : Nat) ^ Int.toNat (24 - 8 * 1) = 65536 from rfl]
        omega
      · rw [if_neg (by decide), if_neg (by decide), if_pos rfl, show (2 : Nat) ^ Int.toNat (24 - 8 * 2) = 256 from rfl]
        omega
      · rw [if_neg (by decide), if_neg (by decide), if_neg (by decide), show (2 : Nat) ^ Int.toNat (24 - 8 * 3) = 1 from rfl]
        omega
    rw [feed_step (by decide) i0 hv e1 e2, show 24 - 8 * i + -8 = 24 - 8 * (i + 1) by omega]
    exact ih
def by20 (a b c d e k : Int) : Int := by4 (if k < 4 then a else if k < 8 then b else if k < 12 then c else if k < 16 then d else e) (k % 4)
theorem mbyte {w k : Int} (hw : r3 w) (h0 : 0 ≤ k) : band (w / 2 ^ Int.toNat (8 * (3 - Int.tmod k 4))) 255 = by4 w (k % 4) := by
  rw [Int.tmod_eq_emod_of_nonneg h0, band255]
  unfold by4
  have hk : k % 4 = 0 ∨ k % 4 = 1 ∨ k % 4 = 2 ∨ k % 4 = 3 := by omega
  generalize k % 4 = m at *
  rcases hk with rfl | rfl | rfl | rfl
  · rw [if_pos rfl, show (2 : Int) ^ Int.toNat (8 * (3 - 0)) = 16777216 from rfl]
  · rw [if_neg (by decide), if_pos rfl, show (2 : Int) ^ Int.toNat (8 * (3 - 1)) = 65536 from rfl]
  · rw [if_neg (by decide), if_neg (by decide), if_pos rfl, show (2 : Int) ^ Int.toNat (8 * (3 - 2)) = 256 from rfl]
  · rw [if_neg (by decide), if_neg (by decide), if_neg (by decide), show (2 : Int) ^ Int.toNat (8 * (3 - 3)) = 1 from rfl, Int.ediv_one]
theorem mfeed_yes {d : Nat} {σ : SG} {Q : Option AV → SG → Prop} {a b c d_ e : Int} (hl : 0 ≤ σ 42 1 ∧ σ 42 1 + 20 ≤ 1600) (ha : r3 a) (hb : r3 b) (hc : r3 c) (hd : r3 d_) (he : r3 e) (hq : Q (some (.inl (σ 42 1 + 20))) (up (putF σ 43 (cpR (σ 43) (by20 a b c d_ e) (σ 42 1) 0 20)) 42 1 (σ 42 1 + 20))) : AW d mX9_feed 0 [some (.inr (.inr 42)), some (.inl a), some (.inl b), some (.inl c), some (.inl d_), some (.inl e), none, none] [] σ Q := by
  refine mfeed_0 ⟨by omega, fun _ => ?_, fun z => by omega⟩
  have key := downInd (P := fun i => AW d mX9_feed 28 [some (.inr (.inr 42)), some (.inl a), some (.inl b), some (.inl c), some (.inl d_), some (.inl e), some (.inl i), none] [] (up (putF σ 43 (cpR (σ 43) (by20 a b c d_ e) (σ 42 1) 0 i)) 42 1 (σ 42 1 + i)) Q) (lo := 0) (hi := 20) (by decide) ?_ ?_
  · rw [cpR_0, putF_self, Int.add_zero, up_self] at key
    exact key
  · refine mfeed_28 ⟨by omega, fun _ => ?_, fun z => by omega⟩
    rw [up_at]
    exact hq
  · intro i i0 i1 ih
    have hm : Int.tmod i 4 = i % 4 := Int.tmod_eq_emod_of_nonneg i0
    have stp : ∀ w S1 S2, r3 w → w = (if i < 4 then a else if i < 8 then b else if i < 12 then c else if i < 16 then d_ else e) → S1 = up (up (putF σ 43 (cpR (σ 43) (by20 a b c d_ e) (σ 42 1) 0 i)) 42 1 (σ 42 1 + i)) 43 (σ 42 1 + i) (band (w / 2 ^ Int.toNat (8 * (3 - Int.tmod i 4))) 255) → S2 = up S1 42 1 (S1 42 1 + 1) → AW d mX9_feed 28 [some (.inr (.inr 42)), some (.inl a), some (.inl b), some (.inl c), some (.inl d_), some (.inl e), some (.inl (i + 1)), none] [] S2 Q := by
      intro w S1 S2 hw ew e1 e2
      have hv : band (w / 2 ^ Int.toNat (8 * (3 - Int.tmod i 4))) 255 = by20 a b c d_ e i := by
        rw [mbyte hw i0]
        unfold by20
        rw [← ew]
      rw [feed_step (by decide) i0 hv e1 e2]
      exact ih
    refine mfeed_28 ?_
    rw [up_at]
    refine ⟨by omega, fun z => by omega, fun _ => ⟨by omega, fun c1 => ⟨by omega, fun c2 => ⟨by omega, fun c3 => ⟨by omega, fun c4 => ⟨by omega, by omega, by omega, fun S1 e1 => fun S2 e2 => ?_⟩, fun c4 => ⟨by omega, by omega, by omega, fun S1 e1 => fun S2 e2 => ?_⟩⟩, fun c3 => ⟨by omega, by omega, by omega, fun S1 e1 => fun S2 e2 => ?_⟩⟩, fun c2 => ⟨by omega, by omega, by omega, fun S1 e1 => fun S2 e2 => ?_⟩⟩, fun c1 => ⟨by omega, by omega, by omega, fun S1 e1 => fun S2 e2 => ?_⟩⟩⟩
    · exact stp e S1 S2 he (by rw [if_neg (by omega), if_neg (by omega), if_neg (by omega), if_neg (by omega)]) e1 e2
    · exact stp d_ S1 S2 hd (by rw [if_neg (by omega), if_neg (by omega), if_neg (by omega), if_pos (by omega)]) e1 e2
    · exact stp c S1 S2 hc (by rw [if_neg (by omega), if_neg (by omega), if_pos (by omega)]) e1 e2
    · exact stp b S1 S2 hb (by rw [if_neg (by omega), if_pos (by omega)]) e1 e2
    · exact stp a S1 S2 ha (by rw [if_pos (by omega)]) e1 e2
def kX8_feed_28 : List BI := [bi (.aload_n 0) 1 [] 0, bi (.getfield 10) 3 [8, 0] 0, bi (.iload_n 1) 1 [] 0, bi (.invokevirtual 78) 3 [mX7_put, 2, 3, 7] 0, bi (.aload_n 0) 1 [] 0, bi (.getfield 10) 3 [8, 0] 0, bi (.iload_n 2) 1 [] 0, bi (.invokevirtual 78) 3 [mX7_put, 2, 3, 7] 0, bi (.aload_n 0) 1 [] 0, bi (.getfield 10) 3 [8, 0] 0, bi (.iload_n 3) 1 [] 0, bi (.invokevirtual 78) 3 [mX7_put, 2, 3, 7] 0, bi (.aload_n 0) 1 [] 0, bi (.getfield 10) 3 [8, 0] 0, bi (.iload 4) 2 [] 0, bi (.invokevirtual 78) 3 [mX7_put, 2, 3, 7] 0, bi (.aload_n 0) 1 [] 0, bi (.getfield 10) 3 [8, 0] 0, bi (.iload 5) 2 [] 0, bi (.invokevirtual 78) 3 [mX7_put, 2, 3, 7] 0, bi (.aload_n 0) 1 [] 0, bi (.getfield 10) 3 [8, 0] 0, bi (.getfield 74) 3 [7, 1] 0, bi (.ireturn) 1 [] 0]
theorem cX8_feed_28 : chk mX8_feed 28 kX8_feed_28 = true := by decide +kernel
def kX8_feed_0 : List BI := [bi (.aload_n 0) 1 [] 0, bi (.getfield 10) 3 [8, 0] 0, bi (.getfield 74) 3 [7, 1] 0, bi (.bipush (20)) 2 [] 0, bi (.iadd) 1 [] 0, bi (.sipush (1600)) 3 [] 0, bi (.if_icmp .le (15)) 3 [28] 0, bi (.aload_n 0) 1 [] 0, bi (.getfield 63) 3 [8, 8] 0, bi (.iconst 0) 1 [] 0, bi (.dup2) 1 [] 0, bi (.iaload) 1 [] 0, bi (.iconst 1) 1 [] 0, bi (.iadd) 1 [] 0, bi (.iastore) 1 [] 0, bi (.iconst (-1)) 1 [] 0, bi (.ireturn) 1 [] 0]
theorem cX8_feed_0 : chk mX8_feed 0 kX8_feed_0 = true := by decide +kernel
theorem xfeed_0 {d : Nat} {σ : SG} {Q : Option AV → SG → Prop} {a b c d_ e : Int} (h : (r3 ((σ 2 1) + 20)) ∧ (((σ 2 1) + 20) ≤ 1600 → (0 < d) ∧ (0 ≤ σ 2 1 ∧ σ 2 1 + 4 ≤ 1600) ∧ (∀ S22 : SG, S22 = ptX σ a → (0 < d) ∧ (0 ≤ S22 2 1 ∧ S22 2 1 + 4 ≤ 1600) ∧ (∀ S23 : SG, S23 = ptX S22 b → (0 < d) ∧ (0 ≤ S23 2 1 ∧ S23 2 1 + 4 ≤ 1600) ∧ (∀ S24 : SG, S24 = ptX S23 c → (0 < d) ∧ (0 ≤ S24 2 1 ∧ S24 2 1 + 4 ≤ 1600) ∧ (∀ S25 : SG, S25 = ptX S24 d_ → (0 < d) ∧ (0 ≤ S25 2 1 ∧ S25 2 1 + 4 ≤ 1600) ∧ (∀ S26 : SG, S26 = ptX S25 e → Q (some (.inl (S26 2 1))) S26)))))) ∧ (1600 < ((σ 2 1) + 20) → (∀ S27 : SG, S27 = up σ 1 0 ((σ 1 0) + 1) → Q (some (.inl ((-1)))) S27))) : AW d mX8_feed 0 [some (.inr (.inr 0)), some (.inl a), some (.inl b), some (.inl c), some (.inl d_), some (.inl e)] [] σ Q := AW.blk kX8_feed_0 cX8_feed_0 (⟨⟨(h).1, (by decide)⟩, ⟨fun c28 => AW.blk kX8_feed_28 cX8_feed_28 (⟨(((h).2).1 c28).1, put_ok ⟨((((h).2).1 c28).2).1, ⟨((((((h).2).1 c28).2).2) _ rfl).1, put_ok ⟨(((((((h).2).1 c28).2).2) _ rfl).2).1, ⟨(((((((((h).2).1 c28).2).2) _ rfl).2).2) _ rfl).1, put_ok ⟨((((((((((h).2).1 c28).2).2) _ rfl).2).2) _ rfl).2).1, ⟨((((((((((((h).2).1 c28).2).2) _ rfl).2).2) _ rfl).2).2) _ rfl).1, put_ok ⟨(((((((((((((h).2).1 c28).2).2) _ rfl).2).2) _ rfl).2).2) _ rfl).2).1, ⟨(((((((((((((((h).2).1 c28).2).2) _ rfl).2).2) _ rfl).2).2) _ rfl).2).2) _ rfl).1, put_ok ⟨((((((((((((((((h).2).1 c28).2).2) _ rfl).2).2) _ rfl).2).2) _ rfl).2).2) _ rfl).2).1, (((((((((((((((((h).2).1 c28).2).2) _ rfl).2).2) _ rfl).2).2) _ rfl).2).2) _ rfl).2).2) _ rfl⟩⟩⟩⟩⟩⟩⟩⟩⟩⟩), fun c28 => ⟨⟨(by decide), (by decide)⟩, ⟨⟨(by decide), (by decide)⟩, (((h).2).2 c28) _ rfl⟩⟩⟩⟩)
theorem ptX_len (σ : SG) (v : Int) : ptX σ v 2 1 = σ 2 1 + 4 := up_at _ _ _ _
theorem ptX_oct (σ : SG) (v : Int) : ptX σ v 3 = cpR (σ 3) (by4 v) (σ 2 1) 0 4 := by
  unfold ptX
  rw [up_pf (by decide), putF_at]
theorem ptX_ne {σ : SG} {v : Int} {p : Nat} (h2 : p ≠ 2) (h3 : p ≠ 3) : ptX σ v p = σ p := by
  unfold ptX
  rw [up_pf h2, putF_ne h3]
theorem ptX_2 {σ : SG} {v i : Int} (h : i ≠ 1) : ptX σ v 2 i = σ 2 i := by
  unfold ptX
  rw [up_i h, putF_ne (by decide)]
theorem call_feed {d : Nat} {n : Int} {σ : SG} {r q : Nat} {a b c d_ e : Int} (hd : 100 ≤ d) (h : SIM n σ r q) (ha : r3 a) (hb : r3 b) (hc : r3 c) (hd_ : r3 d_) (he : r3 e) : AW d mX8_feed 0 [some (.inr (.inr 0)), some (.inl a), some (.inl b), some (.inl c), some (.inl d_), some (.inl e)] [] σ (SAME d n r q mX9_feed [some (.inr (.inr 42)), some (.inl a), some (.inl b), some (.inl c), some (.inl d_), some (.inl e), none, none]) := by
  obtain ⟨k1, k2, k3⟩ := h.2.2.1
  by_cases hl : σ 2 1 + 20 ≤ 1600
  · refine xfeed_0 ⟨by omega, fun _ => ⟨by omega, by omega, fun S1 e1 => ?_⟩, fun z => by omega⟩
    have l1 : S1 2 1 = σ 2 1 + 4 := by rw [e1, ptX_len]
    refine ⟨by omega, by omega, fun S2 e2 => ?_⟩
    have l2 : S2 2 1 = σ 2 1 + 8 := by rw [e2, ptX_len]; omega
    refine ⟨by omega, by omega, fun S3 e3 => ?_⟩
    have l3 : S3 2 1 = σ 2 1 + 12 := by rw [e3, ptX_len]; omega
    refine ⟨by omega, by omega, fun S4 e4 => ?_⟩
    have l4 : S4 2 1 = σ 2 1 + 16 := by rw [e4, ptX_len]; omega
    refine ⟨by omega, by omega, fun S5 e5 => ?_⟩
    have l5 : S5 2 1 = σ 2 1 + 20 := by rw [e5, ptX_len]; omega
    have ne : ∀ p, p ≠ 2 → p ≠ 3 → S5 p = σ p := by
      intro p p2 p3
      rw [e5, ptX_ne p2 p3, e4, ptX_ne p2 p3, e3, ptX_ne p2 p3, e2, ptX_ne p2 p3, e1, ptX_ne p2 p3]
    have ne2 : ∀ i, i ≠ 1 → S5 2 i = σ 2 i := by
      intro i i1
      rw [e5, ptX_2 i1, e4, ptX_2 i1, e3, ptX_2 i1, e2, ptX_2 i1, e1, ptX_2 i1]
    have oc : ∀ j, S5 3 j = cpR (σ 3) (by20 a b c d_ e) (σ 2 1) 0 20 j := by
      intro j
      rw [e5, ptX_oct, l4, e4, ptX_oct, l3, e3, ptX_oct, l2, e2, ptX_oct, l1, e1, ptX_oct]
      unfold cpR by20
      by_cases j0 : σ 2 1 ≤ j ∧ j < σ 2 1 + 20
      · rw [if_pos j0]
        by_cases j4 : σ 2 1 + 16 ≤ j
        · rw [if_pos (by omega), if_neg (by omega), if_neg (by omega), if_neg (by omega), if_neg (by omega)]
          congr 1
          omega
        · rw [if_neg (by omega)]
          by_cases j3 : σ 2 1 + 12 ≤ j
          · rw [if_pos (by omega), if_neg (show ¬ (j - σ 2 1 + 0 < 4) by omega), if_neg (show ¬ (j - σ 2 1 + 0 < 8) by omega), if_neg (show ¬ (j - σ 2 1 + 0 < 12) by omega), if_pos (show j - σ 2 1 + 0 < 16 by omega)]
            congr 1
            omega
          · rw [if_neg (by omega)]
            by_cases j2 : σ 2 1 + 8 ≤ j
            · rw [if_pos (by omega), if_neg (show ¬ (j - σ 2 1 + 0 < 4) by omega), if_neg (show ¬ (j - σ 2 1 + 0 < 8) by omega), if_pos (show j - σ 2 1 + 0 < 12 by omega)]
              congr 1
              omega
            · rw [if_neg (by omega)]
              by_cases j1 : σ 2 1 + 4 ≤ j
              · rw [if_pos (by omega), if_neg (show ¬ (j - σ 2 1 + 0 < 4) by omega), if_pos (show j - σ 2 1 + 0 < 8 by omega)]
                congr 1
                omega
              · rw [if_neg (by omega), if_pos (by omega), if_pos (show j - σ 2 1 + 0 < 4 by omega)]
                congr 1
                omega
      · rw [if_neg j0, if_neg (by omega), if_neg (by omega), if_neg (by omega), if_neg (by omega), if_neg (by omega)]
    unfold SAME
    have q42 : S5 42 = σ 42 := ne 42 (by decide) (by decide)
    have q43 : S5 43 = σ 43 := ne 43 (by decide) (by decide)
    refine mfeed_yes (by rw [q42]; omega) ha hb hc hd_ he ?_
    rw [q42, q43]
    refine ⟨by rw [l5, k1.2.2], h.tape (fun p p2 p3 p42 p43 => by rw [up_pf p42, putF_ne p43, ne p p2 p3]) ⟨?_, ?_, ?_, ?_⟩ ?_ ?_ ?_⟩
    · rw [up_at, up_p (by decide), putF_ne (by decide), l5]
      omega
    · intro j j0 j1
      have := k2 j j0 j1
      rw [up_p (by decide), putF_at, up_p (by decide), putF_ne (by decide), oc j, k1.2.2]
      unfold cpR
      split
      · refine ⟨rfl, ?_⟩
        unfold by20
        exact by4_r _ _
      · exact this
    · rw [up_i (by decide), putF_ne (by decide), up_p (by decide), putF_ne (by decide), ne2 2 (by decide), q42]
      exact k3.1
    · rw [up_i (by decide), putF_ne (by decide), up_p (by decide), putF_ne (by decide), ne2 3 (by decide), q42]
      exact k3.2
    · rw [up_i (by decide), putF_ne (by decide), q42]
    · rw [up_i (by decide), putF_ne (by decide), q42]
    · rw [up_i (by decide), putF_ne (by decide), q42]
  · refine xfeed_0 ⟨by omega, fun z => by omega, fun _ S es => ?_⟩
    subst es
    unfold SAME
    have q42 : up σ 1 0 (σ 1 0 + 1) 42 = σ 42 := up_pf (by decide)
    refine mfeed_0 ?_
    rw [q42]
    refine ⟨by omega, fun z => by omega, fun _ S es => ?_⟩
    subst es
    exact ⟨rfl, h.refuse (by decide) (by decide) rfl rfl⟩
