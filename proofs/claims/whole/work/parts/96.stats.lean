/-! ===== a realm's statements read by the class (wip/whole/gen96.py) ===== -/
def kX5_readTower_0 : List BI := [bi (.aload_n 0) 1 [] 0, bi (.getfield 18) 3 [5, 0] 0, bi (.invokevirtual 95) 3 [mX7_advance, 1, 3, 7] 0]
theorem cX5_readTower_0 : chk mX5_readTower 0 kX5_readTower_0 = true := by decide +kernel
theorem rT_0 {d : Nat} {σ : SG} {Q : Option AV → SG → Prop} (h : (0 < d) ∧ AW (d - 1) mX7_advance 0 [some (.inr (.inr 2)), none, none] [] σ (fun rr σ' => AW d mX5_readTower 7 [some (.inr (.inr 4)), none] (rtS rr []) σ' Q)) : AW d mX5_readTower 0 [some (.inr (.inr 4)), none] [] σ Q := AW.blk kX5_readTower_0 cX5_readTower_0 (⟨(h).1, (h).2⟩)
def kX5_readTower_12 : List BI := [bi (.getfield 83) 3 [4, 0] 0, bi (.invokevirtual 98) 3 [mX5_takeNewName, 2, 3, 5] 0]
theorem cX5_readTower_12 : chk mX5_readTower 12 kX5_readTower_12 = true := by decide +kernel
def kX5_readTower_7 : List BI := [bi (.aload_n 0) 1 [] 0, bi (.aload_n 0) 1 [] 0, bi (.getfield 12) 3 [5, 1] 0]
theorem cX5_readTower_7 : chk mX5_readTower 7 kX5_readTower_7 = true := by decide +kernel
theorem rT_7 {d : Nat} {σ : SG} {Q : Option AV → SG → Prop} {q : Nat} (hq : q = 5 ∨ q = 16) (hy : (σ 4 1).toNat = q) (h : (0 < d) ∧ AW (d - 1) mX5_takeNewName 0 [some (.inr (.inr 4)), some (.inl (σ q 0)), none] [] σ (fun rr σ' => AW d mX5_readTower 18 [some (.inr (.inr 4)), none] (rtS rr []) σ' Q)) : AW d mX5_readTower 7 [some (.inr (.inr 4)), none] [] σ Q := by
  rcases hq with rfl | rfl <;> exact AW.blk kX5_readTower_7 cX5_readTower_7 (aw_rl hy (AW.blk kX5_readTower_12 cX5_readTower_12 (⟨(h).1, (h).2⟩)))
def kX5_readTower_29 : List BI := [bi (.iconst 0) 1 [] 0, bi (.ireturn) 1 [1] 0]
theorem cX5_readTower_29 : chk mX5_readTower 29 kX5_readTower_29 = true := by decide +kernel
def kX5_readTower_18 : List BI := [bi (.ifCond .eq (11)) 3 [29] 0, bi (.aload_n 0) 1 [] 0, bi (.iconst 1) 1 [] 0, bi (.invokevirtual 101) 3 [mX5_takeWord, 2, 2, 5] 0]
theorem cX5_readTower_18 : chk mX5_readTower 18 kX5_readTower_18 = true := by decide +kernel
theorem rT_18 {d : Nat} {σ : SG} {Q : Option AV → SG → Prop} {s0 : Int} (h : (r3 s0) ∧ (s0 = 0 → Q (some (.inl 0)) σ) ∧ (s0 ≠ 0 → (0 < d) ∧ AW (d - 1) mX5_takeWord 0 [some (.inr (.inr 4)), some (.inl 1)] [] σ (fun rr σ' => AW d mX5_readTower 26 [some (.inr (.inr 4)), none] (rtS rr []) σ' Q))) : AW d mX5_readTower 18 [some (.inr (.inr 4)), none] [.inl s0] σ Q := AW.blk kX5_readTower_18 cX5_readTower_18 (⟨(h).1, ⟨fun c1 => AW.blk kX5_readTower_29 cX5_readTower_29 (⟨(by decide), ((h).2).1 c1⟩), fun c1 => ⟨(((h).2).2 c1).1, (((h).2).2 c1).2⟩⟩⟩)
def kX5_readTower_31 : List BI := [bi (.aload_n 0) 1 [] 0, bi (.iconst 3) 1 [] 0, bi (.bipush (14)) 2 [] 0, bi (.invokevirtual 104) 3 [mX5_takeNumber, 3, 4, 5] 0]
theorem cX5_readTower_31 : chk mX5_readTower 31 kX5_readTower_31 = true := by decide +kernel
def kX5_readTower_26 : List BI := [bi (.ifCond .ne (5)) 3 [31] 0, bi (.iconst 0) 1 [] 0, bi (.ireturn) 1 [1] 0]
theorem cX5_readTower_26 : chk mX5_readTower 26 kX5_readTower_26 = true := by decide +kernel
theorem rT_26 {d : Nat} {σ : SG} {Q : Option AV → SG → Prop} {s0 : Int} (h : (r3 s0) ∧ (s0 ≠ 0 → (0 < d) ∧ AW (d - 1) mX5_takeNumber 0 [some (.inr (.inr 4)), some (.inl 3), some (.inl 14), none] [] σ (fun rr σ' => AW d mX5_readTower 38 [some (.inr (.inr 4)), none] (rtS rr []) σ' Q)) ∧ (s0 = 0 → Q (some (.inl 0)) σ)) : AW d mX5_readTower 26 [some (.inr (.inr 4)), none] [.inl s0] σ Q := AW.blk kX5_readTower_26 cX5_readTower_26 (⟨(h).1, ⟨fun c2 => AW.blk kX5_readTower_31 cX5_readTower_31 (⟨(((h).2).1 c2).1, (((h).2).1 c2).2⟩), fun c2 => ⟨(by decide), ((h).2).2 c2⟩⟩⟩)
def kX4_addTower_0 : List BI := [bi (.aload_n 0) 1 [] 0, bi (.getfield 31) 3 [4, 6] 0, bi (.aload_n 0) 1 [] 0, bi (.getfield 9) 3 [4, 0] 0, bi (.iload_n 1) 1 [] 0, bi (.iastore) 1 [] 0, bi (.aload_n 0) 1 [] 0, bi (.getfield 34) 3 [4, 7] 0, bi (.aload_n 0) 1 [] 0, bi (.getfield 9) 3 [4, 0] 0, bi (.iconst 1) 1 [] 0, bi (.iastore) 1 [] 0, bi (.aload_n 0) 1 [] 0, bi (.getfield 37) 3 [4, 8] 0, bi (.aload_n 0) 1 [] 0, bi (.getfield 9) 3 [4, 0] 0, bi (.iconst 0) 1 [] 0, bi (.iastore) 1 [] 0, bi (.aload_n 0) 1 [] 0, bi (.getfield 40) 3 [4, 9] 0, bi (.aload_n 0) 1 [] 0, bi (.getfield 9) 3 [4, 0] 0, bi (.iconst 0) 1 [] 0, bi (.iastore) 1 [] 0, bi (.aload_n 0) 1 [] 0, bi (.dup) 1 [] 0, bi (.getfield 9) 3 [4, 0] 0, bi (.iconst 1) 1 [] 0, bi (.iadd) 1 [] 0, bi (.putfield 9) 3 [4, 0] 0, bi (.return_) 1 [] 0]
theorem cX4_addTower_0 : chk mX4_addTower 0 kX4_addTower_0 = true := by decide +kernel
def kX5_readTower_50 : List BI := [bi (.iload_n 1) 1 [] 0, bi (.invokevirtual 108) 3 [mX4_addTower, 2, 2, 4] 0, bi (.iconst 1) 1 [] 0, bi (.ireturn) 1 [1] 0]
theorem cX5_readTower_50 : chk mX5_readTower 50 kX5_readTower_50 = true := by decide +kernel
def kX5_readTower_46 : List BI := [bi (.aload_n 0) 1 [] 0, bi (.getfield 12) 3 [5, 1] 0]
theorem cX5_readTower_46 : chk mX5_readTower 46 kX5_readTower_46 = true := by decide +kernel
def kX5_readTower_38 : List BI := [bi (.istore_n 1) 1 [] 0, bi (.iload_n 1) 1 [] 0, bi (.iconst (-1)) 1 [] 0, bi (.if_icmp .ne (5)) 3 [46] 0, bi (.iconst 0) 1 [] 0, bi (.ireturn) 1 [1] 0]
theorem cX5_readTower_38 : chk mX5_readTower 38 kX5_readTower_38 = true := by decide +kernel
theorem rT_38 {d : Nat} {σ : SG} {Q : Option AV → SG → Prop} {s0 : Int} {q : Nat} (hq : q = 5 ∨ q = 16) (hy : (σ 4 1).toNat = q) (h : (r3 s0) ∧ (s0 ≠ (-1) → (0 < d) ∧ (0 ≤ (σ q 0) ∧ (σ q 0) < 4) ∧ (∀ S3 : SG, S3 = up σ (q + 2) (σ q 0) s0 → (0 ≤ (S3 q 0) ∧ (S3 q 0) < 4) ∧ (∀ S4 : SG, S4 = up S3 (q + 3) (S3 q 0) 1 → (0 ≤ (S4 q 0) ∧ (S4 q 0) < 4) ∧ (∀ S5 : SG, S5 = up S4 (q + 4) (S4 q 0) 0 → (0 ≤ (S5 q 0) ∧ (S5 q 0) < 4) ∧ (∀ S6 : SG, S6 = up S5 (q + 5) (S5 q 0) 0 → (∀ S7 : SG, S7 = up S6 q 0 ((S6 q 0) + 1) → Q (some (.inl 1)) S7)))))) ∧ (s0 = (-1) → Q (some (.inl 0)) σ)) : AW d mX5_readTower 38 [some (.inr (.inr 4)), none] [.inl s0] σ Q := by
  rcases hq with rfl | rfl <;> exact AW.blk kX5_readTower_38 cX5_readTower_38 (⟨⟨(h).1, (by decide)⟩, ⟨fun c8 => AW.blk kX5_readTower_46 cX5_readTower_46 (aw_rl hy (AW.blk kX5_readTower_50 cX5_readTower_50 (⟨(((h).2).1 c8).1, AW.blk kX4_addTower_0 cX4_addTower_0 (⟨⟨(((((h).2).1 c8).2).1).1, (((((h).2).1 c8).2).1).2⟩, ⟨⟨(((((((h).2).1 c8).2).2) _ rfl).1).1, (((((((h).2).1 c8).2).2) _ rfl).1).2⟩, ⟨⟨(((((((((h).2).1 c8).2).2) _ rfl).2) _ rfl).1).1, (((((((((h).2).1 c8).2).2) _ rfl).2) _ rfl).1).2⟩, ⟨⟨(((((((((((h).2).1 c8).2).2) _ rfl).2) _ rfl).2) _ rfl).1).1, (((((((((((h).2).1 c8).2).2) _ rfl).2) _ rfl).2) _ rfl).1).2⟩, ⟨(by decide), ((((((((((((h).2).1 c8).2).2) _ rfl).2) _ rfl).2) _ rfl).2) _ rfl) _ rfl⟩⟩⟩⟩⟩)⟩))), fun c8 => ⟨(by decide), ((h).2).2 c8⟩⟩⟩)
def kX5_readWood_0 : List BI := [bi (.aload_n 0) 1 [] 0, bi (.getfield 18) 3 [5, 0] 0, bi (.invokevirtual 95) 3 [mX7_advance, 1, 3, 7] 0]
theorem cX5_readWood_0 : chk mX5_readWood 0 kX5_readWood_0 = true := by decide +kernel
theorem rW_0 {d : Nat} {σ : SG} {Q : Option AV → SG → Prop} (h : (0 < d) ∧ AW (d - 1) mX7_advance 0 [some (.inr (.inr 2)), none, none] [] σ (fun rr σ' => AW d mX5_readWood 7 [some (.inr (.inr 4)), none, none] (rtS rr []) σ' Q)) : AW d mX5_readWood 0 [some (.inr (.inr 4)), none, none] [] σ Q := AW.blk kX5_readWood_0 cX5_readWood_0 (⟨(h).1, (h).2⟩)
def kX5_readWood_7 : List BI := [bi (.aload_n 0) 1 [] 0, bi (.iconst (-1)) 1 [] 0, bi (.invokevirtual 112) 3 [mX5_takeTower, 2, 3, 5] 0]
theorem cX5_readWood_7 : chk mX5_readWood 7 kX5_readWood_7 = true := by decide +kernel
theorem rW_7 {d : Nat} {σ : SG} {Q : Option AV → SG → Prop} (h : (0 < d) ∧ AW (d - 1) mX5_takeTower 0 [some (.inr (.inr 4)), some (.inl ((-1))), none] [] σ (fun rr σ' => AW d mX5_readWood 12 [some (.inr (.inr 4)), none, none] (rtS rr []) σ' Q)) : AW d mX5_readWood 7 [some (.inr (.inr 4)), none, none] [] σ Q := AW.blk kX5_readWood_7 cX5_readWood_7 (⟨(h).1, (h).2⟩)
def kX5_readWood_26 : List BI := [bi (.iconst 0) 1 [] 0, bi (.ireturn) 1 [1] 0]
theorem cX5_readWood_26 : chk mX5_readWood 26 kX5_readWood_26 = true := by decide +kernel
def kX5_readWood_12 : List BI := [bi (.istore_n 1) 1 [] 0, bi (.iload_n 1) 1 [] 0, bi (.iconst (-1)) 1 [] 0, bi (.if_icmp .eq (11)) 3 [26] 0, bi (.aload_n 0) 1 [] 0, bi (.iconst 3) 1 [] 0, bi (.invokevirtual 101) 3 [mX5_takeWord, 2, 2, 5] 0]
theorem cX5_readWood_12 : chk mX5_readWood 12 kX5_readWood_12 = true := by decide +kernel
theorem rW_12 {d : Nat} {σ : SG} {Q : Option AV → SG → Prop} {s0 : Int} (h : (r3 s0) ∧ (s0 = (-1) → Q (some (.inl 0)) σ) ∧ (s0 ≠ (-1) → (0 < d) ∧ AW (d - 1) mX5_takeWord 0 [some (.inr (.inr 4)), some (.inl 3)] [] σ (fun rr σ' => AW d mX5_readWood 23 [some (.inr (.inr 4)), some (.inl s0), none] (rtS rr []) σ' Q))) : AW d mX5_readWood 12 [some (.inr (.inr 4)), none, none] [.inl s0] σ Q := AW.blk kX5_readWood_12 cX5_readWood_12 (⟨⟨(h).1, (by decide)⟩, ⟨fun c9 => AW.blk kX5_readWood_26 cX5_readWood_26 (⟨(by decide), ((h).2).1 c9⟩), fun c9 => ⟨(((h).2).2 c9).1, (((h).2).2 c9).2⟩⟩⟩)
def kX5_readWood_28 : List BI := [bi (.aload_n 0) 1 [] 0, bi (.iconst 0) 1 [] 0, bi (.bipush (99)) 2 [] 0, bi (.invokevirtual 104) 3 [mX5_takeNumber, 3, 4, 5] 0]
theorem cX5_readWood_28 : chk mX5_readWood 28 kX5_readWood_28 = true := by decide +kernel
def kX5_readWood_23 : List BI := [bi (.ifCond .ne (5)) 3 [28] 0, bi (.iconst 0) 1 [] 0, bi (.ireturn) 1 [1] 0]
theorem cX5_readWood_23 : chk mX5_readWood 23 kX5_readWood_23 = true := by decide +kernel
theorem rW_23 {d : Nat} {σ : SG} {Q : Option AV → SG → Prop} {l1 s0 : Int} (h : (r3 s0) ∧ (s0 ≠ 0 → (0 < d) ∧ AW (d - 1) mX5_takeNumber 0 [some (.inr (.inr 4)), some (.inl 0), some (.inl 99), none] [] σ (fun rr σ' => AW d mX5_readWood 35 [some (.inr (.inr 4)), some (.inl l1), none] (rtS rr []) σ' Q)) ∧ (s0 = 0 → Q (some (.inl 0)) σ)) : AW d mX5_readWood 23 [some (.inr (.inr 4)), some (.inl l1), none] [.inl s0] σ Q := AW.blk kX5_readWood_23 cX5_readWood_23 (⟨(h).1, ⟨fun c10 => AW.blk kX5_readWood_28 cX5_readWood_28 (⟨(((h).2).1 c10).1, (((h).2).1 c10).2⟩), fun c10 => ⟨(by decide), ((h).2).2 c10⟩⟩⟩)
def kX5_readWood_47 : List BI := [bi (.getfield 116) 3 [4, 7] 0, bi (.iload_n 1) 1 [] 0, bi (.iload_n 2) 1 [] 0, bi (.iastore) 1 [] 0, bi (.iconst 1) 1 [] 0, bi (.ireturn) 1 [1] 0]
theorem cX5_readWood_47 : chk mX5_readWood 47 kX5_readWood_47 = true := by decide +kernel
def kX5_readWood_43 : List BI := [bi (.aload_n 0) 1 [] 0, bi (.getfield 12) 3 [5, 1] 0]
theorem cX5_readWood_43 : chk mX5_readWood 43 kX5_readWood_43 = true := by decide +kernel
def kX5_readWood_35 : List BI := [bi (.istore_n 2) 1 [] 0, bi (.iload_n 2) 1 [] 0, bi (.iconst (-1)) 1 [] 0, bi (.if_icmp .ne (5)) 3 [43] 0, bi (.iconst 0) 1 [] 0, bi (.ireturn) 1 [1] 0]
theorem cX5_readWood_35 : chk mX5_readWood 35 kX5_readWood_35 = true := by decide +kernel
theorem rW_35 {d : Nat} {σ : SG} {Q : Option AV → SG → Prop} {l1 s0 : Int} {q : Nat} (hq : q = 5 ∨ q = 16) (hy : (σ 4 1).toNat = q) (h : (r3 s0) ∧ (s0 ≠ (-1) → (0 ≤ l1 ∧ l1 < 4) ∧ (∀ S11 : SG, S11 = up σ (q + 3) l1 s0 → Q (some (.inl 1)) S11)) ∧ (s0 = (-1) → Q (some (.inl 0)) σ)) : AW d mX5_readWood 35 [some (.inr (.inr 4)), some (.inl l1), none] [.inl s0] σ Q := by
  rcases hq with rfl | rfl <;> exact AW.blk kX5_readWood_35 cX5_readWood_35 (⟨⟨(h).1, (by decide)⟩, ⟨fun c12 => AW.blk kX5_readWood_43 cX5_readWood_43 (aw_rl hy (AW.blk kX5_readWood_47 cX5_readWood_47 (⟨⟨((((h).2).1 c12).1).1, ((((h).2).1 c12).1).2⟩, ⟨(by decide), ((((h).2).1 c12).2) _ rfl⟩⟩))), fun c12 => ⟨(by decide), ((h).2).2 c12⟩⟩⟩)
def kX5_readGap_0 : List BI := [bi (.aload_n 0) 1 [] 0, bi (.getfield 18) 3 [5, 0] 0, bi (.invokevirtual 95) 3 [mX7_advance, 1, 3, 7] 0]
theorem cX5_readGap_0 : chk mX5_readGap 0 kX5_readGap_0 = true := by decide +kernel
theorem rG_0 {d : Nat} {σ : SG} {Q : Option AV → SG → Prop} (h : (0 < d) ∧ AW (d - 1) mX7_advance 0 [some (.inr (.inr 2)), none, none] [] σ (fun rr σ' => AW d mX5_readGap 7 [some (.inr (.inr 4)), none, none, none] (rtS rr []) σ' Q)) : AW d mX5_readGap 0 [some (.inr (.inr 4)), none, none, none] [] σ Q := AW.blk kX5_readGap_0 cX5_readGap_0 (⟨(h).1, (h).2⟩)
def kX5_readGap_7 : List BI := [bi (.aload_n 0) 1 [] 0, bi (.iconst 1) 1 [] 0, bi (.bipush (14)) 2 [] 0, bi (.invokevirtual 104) 3 [mX5_takeNumber, 3, 4, 5] 0]
theorem cX5_readGap_7 : chk mX5_readGap 7 kX5_readGap_7 = true := by decide +kernel
theorem rG_7 {d : Nat} {σ : SG} {Q : Option AV → SG → Prop} (h : (0 < d) ∧ AW (d - 1) mX5_takeNumber 0 [some (.inr (.inr 4)), some (.inl 1), some (.inl 14), none] [] σ (fun rr σ' => AW d mX5_readGap 14 [some (.inr (.inr 4)), none, none, none] (rtS rr []) σ' Q)) : AW d mX5_readGap 7 [some (.inr (.inr 4)), none, none, none] [] σ Q := AW.blk kX5_readGap_7 cX5_readGap_7 (⟨(h).1, (h).2⟩)
def kX5_readGap_28 : List BI := [bi (.iconst 0) 1 [] 0, bi (.ireturn) 1 [1] 0]
theorem cX5_readGap_28 : chk mX5_readGap 28 kX5_readGap_28 = true := by decide +kernel
def kX5_readGap_14 : List BI := [bi (.istore_n 1) 1 [] 0, bi (.iload_n 1) 1 [] 0, bi (.iconst (-1)) 1 [] 0, bi (.if_icmp .eq (11)) 3 [28] 0, bi (.aload_n 0) 1 [] 0, bi (.iconst 5) 1 [] 0, bi (.invokevirtual 101) 3 [mX5_takeWord, 2, 2, 5] 0]
theorem cX5_readGap_14 : chk mX5_readGap 14 kX5_readGap_14 = true := by decide +kernel
theorem rG_14 {d : Nat} {σ : SG} {Q : Option AV → SG → Prop} {s0 : Int} (h : (r3 s0) ∧ (s0 = (-1) → Q (some (.inl 0)) σ) ∧ (s0 ≠ (-1) → (0 < d) ∧ AW (d - 1) mX5_takeWord 0 [some (.inr (.inr 4)), some (.inl 5)] [] σ (fun rr σ' => AW d mX5_readGap 25 [some (.inr (.inr 4)), some (.inl s0), none, none] (rtS rr []) σ' Q))) : AW d mX5_readGap 14 [some (.inr (.inr 4)), none, none, none] [.inl s0] σ Q := AW.blk kX5_readGap_14 cX5_readGap_14 (⟨⟨(h).1, (by decide)⟩, ⟨fun c13 => AW.blk kX5_readGap_28 cX5_readGap_28 (⟨(by decide), ((h).2).1 c13⟩), fun c13 => ⟨(((h).2).2 c13).1, (((h).2).2 c13).2⟩⟩⟩)
def kX5_readGap_30 : List BI := [bi (.aload_n 0) 1 [] 0, bi (.getfield 18) 3 [5, 0] 0, bi (.getfield 34) 3 [7, 5] 0, bi (.istore_n 2) 1 [] 0, bi (.aload_n 0) 1 [] 0, bi (.iconst (-1)) 1 [] 0, bi (.invokevirtual 112) 3 [mX5_takeTower, 2, 3, 5] 0]
theorem cX5_readGap_30 : chk mX5_readGap 30 kX5_readGap_30 = true := by decide +kernel
def kX5_readGap_25 : List BI := [bi (.ifCond .ne (5)) 3 [30] 0, bi (.iconst 0) 1 [] 0, bi (.ireturn) 1 [1] 0]
theorem cX5_readGap_25 : chk mX5_readGap 25 kX5_readGap_25 = true := by decide +kernel
theorem rG_25 {d : Nat} {σ : SG} {Q : Option AV → SG → Prop} {l1 s0 : Int} (h : (r3 s0) ∧ (s0 ≠ 0 → (0 < d) ∧ AW (d - 1) mX5_takeTower 0 [some (.inr (.inr 4)), some (.inl ((-1))), none] [] σ (fun rr σ' => AW d mX5_readGap 43 [some (.inr (.inr 4)), some (.inl l1), some (.inl (σ 2 5)), none] (rtS rr []) σ' Q)) ∧ (s0 = 0 → Q (some (.inl 0)) σ)) : AW d mX5_readGap 25 [some (.inr (.inr 4)), some (.inl l1), none, none] [.inl s0] σ Q := AW.blk kX5_readGap_25 cX5_readGap_25 (⟨(h).1, ⟨fun c14 => AW.blk kX5_readGap_30 cX5_readGap_30 (⟨(((h).2).1 c14).1, (((h).2).1 c14).2⟩), fun c14 => ⟨(by decide), ((h).2).2 c14⟩⟩⟩)
def kX5_readGap_73 : List BI := [bi (.aload_n 0) 1 [] 0, bi (.getfield 18) 3 [5, 0] 0, bi (.iconst 2) 1 [] 0, bi (.iload_n 2) 1 [] 0, bi (.invokevirtual 37) 3 [mX7_fail, 3, 3, 7] 0, bi (.ireturn) 1 [1] 0]
theorem cX5_readGap_73 : chk mX5_readGap 73 kX5_readGap_73 = true := by decide +kernel
def kX5_canTake_46 : List BI := [bi (.iconst 0) 1 [] 0, bi (.ireturn) 1 [1] 0]
theorem cX5_canTake_46 : chk mX5_canTake 46 kX5_canTake_46 = true := by decide +kernel
def kX5_readGap_103 : List BI := [bi (.dup) 1 [] 0, bi (.getfield 86) 3 [4, 2] 0, bi (.iconst 1) 1 [] 0, bi (.iadd) 1 [] 0, bi (.putfield 86) 3 [4, 2] 0, bi (.iconst 1) 1 [] 0, bi (.ireturn) 1 [1] 0]
theorem cX5_readGap_103 : chk mX5_readGap 103 kX5_readGap_103 = true := by decide +kernel
def kX5_readGap_87 : List BI := [bi (.getfield 126) 3 [4, 8] 0, bi (.iload_n 3) 1 [] 0, bi (.dup2) 1 [] 0, bi (.iaload) 1 [] 0, bi (.iload_n 1) 1 [] 0, bi (.invokestatic 129) 3 [mX8_bit, 1, 1] 0, bi (.ior) 1 [] 0, bi (.iastore) 1 [] 0, bi (.aload_n 0) 1 [] 0, bi (.getfield 12) 3 [5, 1] 0]
theorem cX5_readGap_87 : chk mX5_readGap 87 kX5_readGap_87 = true := by decide +kernel
def kX5_readGap_83 : List BI := [bi (.aload_n 0) 1 [] 0, bi (.getfield 12) 3 [5, 1] 0]
theorem cX5_readGap_83 : chk mX5_readGap 83 kX5_readGap_83 = true := by decide +kernel
def kX5_canTake_47 : List BI := [bi (.ireturn) 1 [1] 0]
theorem cX5_canTake_47 : chk mX5_canTake 47 kX5_canTake_47 = true := by decide +kernel
def kX5_canTake_25 : List BI := [bi (.getfield 120) 3 [4, 6] 0, bi (.iload_n 1) 1 [] 0, bi (.iaload) 1 [] 0, bi (.if_icmp .gt (16)) 3 [46] 0, bi (.iload_n 3) 1 [] 0, bi (.iload_n 2) 1 [] 0, bi (.invokestatic 129) 3 [mX8_bit, 1, 1] 0, bi (.iand) 1 [] 0, bi (.ifCond .ne (7)) 3 [46] 0, bi (.iconst 1) 1 [] 0, bi (.goto (4)) 3 [47] 0]
theorem cX5_canTake_25 : chk mX5_canTake 25 kX5_canTake_25 = true := by decide +kernel
def kX5_canTake_13 : List BI := [bi (.getfield 146) 3 [4, 9] 0, bi (.iload_n 1) 1 [] 0, bi (.iaload) 1 [] 0, bi (.ior) 1 [] 0, bi (.istore_n 3) 1 [] 0, bi (.iload_n 2) 1 [] 0, bi (.aload_n 0) 1 [] 0, bi (.getfield 12) 3 [5, 1] 0]
theorem cX5_canTake_13 : chk mX5_canTake 13 kX5_canTake_13 = true := by decide +kernel
def kX5_canTake_4 : List BI := [bi (.getfield 126) 3 [4, 8] 0, bi (.iload_n 1) 1 [] 0, bi (.iaload) 1 [] 0, bi (.aload_n 0) 1 [] 0, bi (.getfield 12) 3 [5, 1] 0]
theorem cX5_canTake_4 : chk mX5_canTake 4 kX5_canTake_4 = true := by decide +kernel
def kX5_canTake_0 : List BI := [bi (.aload_n 0) 1 [] 0, bi (.getfield 12) 3 [5, 1] 0]
theorem cX5_canTake_0 : chk mX5_canTake 0 kX5_canTake_0 = true := by decide +kernel
def kX5_readGap_56 : List BI := [bi (.getfield 120) 3 [4, 6] 0, bi (.iload_n 3) 1 [] 0, bi (.iaload) 1 [] 0, bi (.if_icmp .eq (12)) 3 [73] 0, bi (.aload_n 0) 1 [] 0, bi (.iload_n 3) 1 [] 0, bi (.iload_n 1) 1 [] 0, bi (.invokevirtual 123) 3 [mX5_canTake, 3, 4, 5] 0, bi (.ifCond .ne (13)) 3 [83] 0, bi (.aload_n 0) 1 [] 0, bi (.getfield 18) 3 [5, 0] 0, bi (.iconst 2) 1 [] 0, bi (.iload_n 2) 1 [] 0, bi (.invokevirtual 37) 3 [mX7_fail, 3, 3, 7] 0, bi (.ireturn) 1 [1] 0]
theorem cX5_readGap_56 : chk mX5_readGap 56 kX5_readGap_56 = true := by decide +kernel
def kX5_readGap_51 : List BI := [bi (.iload_n 1) 1 [] 0, bi (.aload_n 0) 1 [] 0, bi (.getfield 12) 3 [5, 1] 0]
theorem cX5_readGap_51 : chk mX5_readGap 51 kX5_readGap_51 = true := by decide +kernel
def kX5_readGap_43 : List BI := [bi (.istore_n 3) 1 [] 0, bi (.iload_n 3) 1 [] 0, bi (.iconst (-1)) 1 [] 0, bi (.if_icmp .ne (5)) 3 [51] 0, bi (.iconst 0) 1 [] 0, bi (.ireturn) 1 [1] 0]
theorem cX5_readGap_43 : chk mX5_readGap 43 kX5_readGap_43 = true := by decide +kernel
theorem rG_43 {d : Nat} {σ : SG} {Q : Option AV → SG → Prop} {l1 l2 s0 : Int} {q : Nat} (hq : q = 5 ∨ q = 16) (hy : (σ 4 1).toNat = q) (h : (r3 s0) ∧ (s0 ≠ (-1) → (0 ≤ s0 ∧ s0 < 4) ∧ (r3 l1 ∧ r3 (σ (q + 2) s0)) ∧ (l1 = (σ (q + 2) s0) → (0 < d) ∧ (r3 (σ 2 2)) ∧ ((σ 2 2) ≠ 0 → Q (some (.inl 0)) σ) ∧ ((σ 2 2) = 0 → (∀ S15 : SG, S15 = up σ 2 2 2 → (∀ S16 : SG, S16 = up S15 2 3 l2 → Q (some (.inl 0)) S16)))) ∧ (l1 ≠ (σ (q + 2) s0) → (0 < d) ∧ (0 ≤ s0 ∧ s0 < 4) ∧ (0 ≤ s0 ∧ s0 < 4) ∧ (0 ≤ s0 ∧ s0 < 4) ∧ (r3 l1 ∧ r3 (σ (q + 2) s0)) ∧ ((σ (q + 2) s0) < l1 → (0 < d) ∧ (r3 (σ 2 2)) ∧ ((σ 2 2) ≠ 0 → Q (some (.inl 0)) σ) ∧ ((σ 2 2) = 0 → (∀ S18 : SG, S18 = up σ 2 2 2 → (∀ S19 : SG, S19 = up S18 2 3 l2 → Q (some (.inl 0)) S19)))) ∧ (l1 ≤ (σ (q + 2) s0) → (0 < d - 1) ∧ (0 ≤ (l1 - 1) ∧ (l1 - 1) < 32) ∧ (r3 (band (bor (σ (q + 4) s0) (σ (q + 5) s0)) (1 * 2 ^ Int.toNat (l1 - 1)))) ∧ ((band (bor (σ (q + 4) s0) (σ (q + 5) s0)) (1 * 2 ^ Int.toNat (l1 - 1))) ≠ 0 → (0 < d) ∧ (r3 (σ 2 2)) ∧ ((σ 2 2) ≠ 0 → Q (some (.inl 0)) σ) ∧ ((σ 2 2) = 0 → (∀ S21 : SG, S21 = up σ 2 2 2 → (∀ S22 : SG, S22 = up S21 2 3 l2 → Q (some (.inl 0)) S22)))) ∧ ((band (bor (σ (q + 4) s0) (σ (q + 5) s0)) (1 * 2 ^ Int.toNat (l1 - 1))) = 0 → (0 ≤ s0 ∧ s0 < 4) ∧ (0 < d) ∧ (0 ≤ (l1 - 1) ∧ (l1 - 1) < 32) ∧ (0 ≤ s0 ∧ s0 < 4) ∧ (∀ S24 : SG, S24 = up σ (q + 4) s0 (bor (σ (q + 4) s0) (1 * 2 ^ Int.toNat (l1 - 1))) → (∀ S25 : SG, S25 = up S24 q 2 ((S24 q 2) + 1) → Q (some (.inl 1)) S25)))))) ∧ (s0 = (-1) → Q (some (.inl 0)) σ)) : AW d mX5_readGap 43 [some (.inr (.inr 4)), some (.inl l1), some (.inl l2), none] [.inl s0] σ Q := by
  rcases hq with rfl | rfl <;> exact AW.blk kX5_readGap_43 cX5_readGap_43 (⟨⟨(h).1, (by decide)⟩, ⟨fun c29 => AW.blk kX5_readGap_51 cX5_readGap_51 (aw_rl hy (AW.blk kX5_readGap_56 cX5_readGap_56 (⟨⟨((((h).2).1 c29).1).1, ((((h).2).1 c29).1).2⟩, ⟨⟨(((((h).2).1 c29).2).1).1, (((((h).2).1 c29).2).1).2⟩, ⟨fun c28 => AW.blk kX5_readGap_73 cX5_readGap_73 (⟨((((((h).2).1 c29).2).2).1 c28).1, AW.blk kX7_fail_0 cX7_fail_0 (⟨(((((((h).2).1 c29).2).2).1 c28).2).1, ⟨fun c17 => AW.blk kX7_fail_17 cX7_fail_17 (⟨(by decide), ⟨(by decide), ((((((((h).2).1 c29).2).2).1 c28).2).2).1 c17⟩⟩), fun c17 => ⟨(by decide), ⟨(by decide), ((((((((((h).2).1 c29).2).2).1 c28).2).2).2 c17) _ rfl) _ rfl⟩⟩⟩⟩)⟩), fun c28 => ⟨((((((h).2).1 c29).2).2).2 c28).1, AW.blk kX5_canTake_0 cX5_canTake_0 (aw_rl hy (AW.blk kX5_canTake_4 cX5_canTake_4 (⟨⟨((((((((h).2).1 c29).2).2).2 c28).2).1).1, ((((((((h).2).1 c29).2).2).2 c28).2).1).2⟩, aw_rl hy (AW.blk kX5_canTake_13 cX5_canTake_13 (⟨⟨(((((((((h).2).1 c29).2).2).2 c28).2).2).1).1, (((((((((h).2).1 c29).2).2).2 c28).2).2).1).2⟩, aw_rl hy (AW.blk kX5_canTake_25 cX5_canTake_25 (⟨⟨((((((((((h).2).1 c29).2).2).2 c28).2).2).2).1).1, ((((((((((h).2).1 c29).2).2).2 c28).2).2).2).1).2⟩, ⟨⟨(((((((((((h).2).1 c29).2).2).2 c28).2).2).2).2).1).1, (((((((((((h).2).1 c29).2).2).2 c28).2).2).2).2).1).2⟩, ⟨fun c27 => AW.blk kX5_canTake_46 cX5_canTake_46 (⟨(by decide), ⟨(by decide), ⟨fun c => absurd c (by decide), fun _ => ⟨((((((((((((h).2).1 c29).2).2).2 c28).2).2).2).2).2).1 c27).1, AW.blk kX7_fail_0 cX7_fail_0 (⟨(((((((((((((h).2).1 c29).2).2).2 c28).2).2).2).2).2).1 c27).2).1, ⟨fun c20 => AW.blk kX7_fail_17 cX7_fail_17 (⟨(by decide), ⟨(by decide), ((((((((((((((h).2).1 c29).2).2).2 c28).2).2).2).2).2).1 c27).2).2).1 c20⟩⟩), fun c20 => ⟨(by decide), ⟨(by decide), ((((((((((((((((h).2).1 c29).2).2).2 c28).2).2).2).2).2).1 c27).2).2).2 c20) _ rfl) _ rfl⟩⟩⟩⟩)⟩⟩⟩⟩), fun c27 => ⟨((((((((((((h).2).1 c29).2).2).2 c28).2).2).2).2).2).2 c27).1, AW.blk kX8_bit_0 cX8_bit_0 (⟨⟨((((((((((((((h).2).1 c29).2).2).2 c28).2).2).2).2).2).2 c27).2).1).1, ((((((((((((((h).2).1 c29).2).2).2 c28).2).2).2).2).2).2 c27).2).1).2⟩, ⟨((((((((((((((h).2).1 c29).2).2).2 c28).2).2).2).2).2).2 c27).2).2).1, ⟨fun c26 => AW.blk kX5_canTake_46 cX5_canTake_46 (⟨(by decide), ⟨(by decide), ⟨fun c => absurd c (by decide), fun _ => ⟨((((((((((((((((h).2).1 c29).2).2).2 c28).2).2).2).2).2).2 c27).2).2).2).1 c26).1, AW.blk kX7_fail_0 cX7_fail_0 (⟨(((((((((((((((((h).2).1 c29).2).2).2 c28).2).2).2).2).2).2 c27).2).2).2).1 c26).2).1, ⟨fun c23 => AW.blk kX7_fail_17 cX7_fail_17 (⟨(by decide), ⟨(by decide), ((((((((((((((((((h).2).1 c29).2).2).2 c28).2).2).2).2).2).2 c27).2).2).2).1 c26).2).2).1 c23⟩⟩), fun c23 => ⟨(by decide), ⟨(by decide), ((((((((((((((((((((h).2).1 c29).2).2).2 c28).2).2).2).2).2).2 c27).2).2).2).1 c26).2).2).2 c23) _ rfl) _ rfl⟩⟩⟩⟩)⟩⟩⟩⟩), fun c26 => AW.blk kX5_canTake_47 cX5_canTake_47 (⟨(by decide), ⟨(by decide), ⟨fun _ => AW.blk kX5_readGap_83 cX5_readGap_83 (aw_rl hy (AW.blk kX5_readGap_87 cX5_readGap_87 (⟨⟨(((((((((((((((((h).2).1 c29).2).2).2 c28).2).2).2).2).2).2 c27).2).2).2).2 c26).1).1, (((((((((((((((((h).2).1 c29).2).2).2 c28).2).2).2).2).2).2 c27).2).2).2).2 c26).1).2⟩, ⟨(((((((((((((((((h).2).1 c29).2).2).2 c28).2).2).2).2).2).2 c27).2).2).2).2 c26).2).1, AW.blk kX8_bit_0 cX8_bit_0 (⟨⟨(((((((((((((((((((h).2).1 c29).2).2).2 c28).2).2).2).2).2).2 c27).2).2).2).2 c26).2).2).1).1, (((((((((((((((((((h).2).1 c29).2).2).2 c28).2).2).2).2).2).2 c27).2).2).2).2 c26).2).2).1).2⟩, ⟨⟨((((((((((((((((((((h).2).1 c29).2).2).2 c28).2).2).2).2).2).2 c27).2).2).2).2 c26).2).2).2).1).1, ((((((((((((((((((((h).2).1 c29).2).2).2 c28).2).2).2).2).2).2 c27).2).2).2).2 c26).2).2).2).1).2⟩, aw_rl hy (AW.blk kX5_readGap_103 cX5_readGap_103 (⟨(by decide), (((((((((((((((((((((h).2).1 c29).2).2).2 c28).2).2).2).2).2).2 c27).2).2).2).2 c26).2).2).2).2) _ rfl) _ rfl⟩))⟩⟩)⟩⟩))), fun c => absurd c (by decide)⟩⟩⟩)⟩⟩⟩)⟩⟩⟩⟩))⟩))⟩)))⟩⟩⟩⟩))), fun c29 => ⟨(by decide), ((h).2).2 c29⟩⟩⟩)
def kX5_readGuard_0 : List BI := [bi (.aload_n 0) 1 [] 0, bi (.getfield 18) 3 [5, 0] 0, bi (.invokevirtual 95) 3 [mX7_advance, 1, 3, 7] 0]
theorem cX5_readGuard_0 : chk mX5_readGuard 0 kX5_readGuard_0 = true := by decide +kernel
theorem rU_0 {d : Nat} {σ : SG} {Q : Option AV → SG → Prop} (h : (0 < d) ∧ AW (d - 1) mX7_advance 0 [some (.inr (.inr 2)), none, none] [] σ (fun rr σ' => AW d mX5_readGuard 7 [some (.inr (.inr 4)), none, none, none] (rtS rr []) σ' Q)) : AW d mX5_readGuard 0 [some (.inr (.inr 4)), none, none, none] [] σ Q := AW.blk kX5_readGuard_0 cX5_readGuard_0 (⟨(h).1, (h).2⟩)
def kX5_readGuard_13 : List BI := [bi (.getfield 89) 3 [4, 1] 0, bi (.iadd) 1 [] 0, bi (.invokevirtual 98) 3 [mX5_takeNewName, 2, 3, 5] 0]
theorem cX5_readGuard_13 : chk mX5_readGuard 13 kX5_readGuard_13 = true := by decide +kernel
def kX5_readGuard_7 : List BI := [bi (.aload_n 0) 1 [] 0, bi (.iconst 4) 1 [] 0, bi (.aload_n 0) 1 [] 0, bi (.getfield 12) 3 [5, 1] 0]
theorem cX5_readGuard_7 : chk mX5_readGuard 7 kX5_readGuard_7 = true := by decide +kernel
theorem rU_7 {d : Nat} {σ : SG} {Q : Option AV → SG → Prop} {q : Nat} (hq : q = 5 ∨ q = 16) (hy : (σ 4 1).toNat = q) (h : (0 < d) ∧ AW (d - 1) mX5_takeNewName 0 [some (.inr (.inr 4)), some (.inl (4 + (σ q 1))), none] [] σ (fun rr σ' => AW d mX5_readGuard 20 [some (.inr (.inr 4)), none, none, none] (rtS rr []) σ' Q)) : AW d mX5_readGuard 7 [some (.inr (.inr 4)), none, none, none] [] σ Q := by
  rcases hq with rfl | rfl <;> exact AW.blk kX5_readGuard_7 cX5_readGuard_7 (aw_rl hy (AW.blk kX5_readGuard_13 cX5_readGuard_13 (⟨(h).1, (h).2⟩)))
def kX5_readGuard_31 : List BI := [bi (.iconst 0) 1 [] 0, bi (.ireturn) 1 [1] 0]
theorem cX5_readGuard_31 : chk mX5_readGuard 31 kX5_readGuard_31 = true := by decide +kernel
def kX5_readGuard_20 : List BI := [bi (.ifCond .eq (11)) 3 [31] 0, bi (.aload_n 0) 1 [] 0, bi (.iconst 5) 1 [] 0, bi (.invokevirtual 101) 3 [mX5_takeWord, 2, 2, 5] 0]
theorem cX5_readGuard_20 : chk mX5_readGuard 20 kX5_readGuard_20 = true := by decide +kernel
theorem rU_20 {d : Nat} {σ : SG} {Q : Option AV → SG → Prop} {s0 : Int} (h : (r3 s0) ∧ (s0 = 0 → Q (some (.inl 0)) σ) ∧ (s0 ≠ 0 → (0 < d) ∧ AW (d - 1) mX5_takeWord 0 [some (.inr (.inr 4)), some (.inl 5)] [] σ (fun rr σ' => AW d mX5_readGuard 28 [some (.inr (.inr 4)), none, none, none] (rtS rr []) σ' Q))) : AW d mX5_readGuard 20 [some (.inr (.inr 4)), none, none, none] [.inl s0] σ Q := AW.blk kX5_readGuard_20 cX5_readGuard_20 (⟨(h).1, ⟨fun c30 => AW.blk kX5_readGuard_31 cX5_readGuard_31 (⟨(by decide), ((h).2).1 c30⟩), fun c30 => ⟨(((h).2).2 c30).1, (((h).2).2 c30).2⟩⟩⟩)
def kX5_readGuard_33 : List BI := [bi (.aload_n 0) 1 [] 0, bi (.iconst (-1)) 1 [] 0, bi (.invokevirtual 112) 3 [mX5_takeTower, 2, 3, 5] 0]
theorem cX5_readGuard_33 : chk mX5_readGuard 33 kX5_readGuard_33 = true := by decide +kernel
def kX5_readGuard_28 : List BI := [bi (.ifCond .ne (5)) 3 [33] 0, bi (.iconst 0) 1 [] 0, bi (.ireturn) 1 [1] 0]
theorem cX5_readGuard_28 : chk mX5_readGuard 28 kX5_readGuard_28 = true := by decide +kernel
theorem rU_28 {d : Nat} {σ : SG} {Q : Option AV → SG → Prop} {s0 : Int} (h : (r3 s0) ∧ (s0 ≠ 0 → (0 < d) ∧ AW (d - 1) mX5_takeTower 0 [some (.inr (.inr 4)), some (.inl ((-1))), none] [] σ (fun rr σ' => AW d mX5_readGuard 38 [some (.inr (.inr 4)), none, none, none] (rtS rr []) σ' Q)) ∧ (s0 = 0 → Q (some (.inl 0)) σ)) : AW d mX5_readGuard 28 [some (.inr (.inr 4)), none, none, none] [.inl s0] σ Q := AW.blk kX5_readGuard_28 cX5_readGuard_28 (⟨(h).1, ⟨fun c31 => AW.blk kX5_readGuard_33 cX5_readGuard_33 (⟨(((h).2).1 c31).1, (((h).2).1 c31).2⟩), fun c31 => ⟨(by decide), ((h).2).2 c31⟩⟩⟩)
def kX5_readGuard_53 : List BI := [bi (.iconst 0) 1 [] 0, bi (.ireturn) 1 [1] 0]
theorem cX5_readGuard_53 : chk mX5_readGuard 53 kX5_readGuard_53 = true := by decide +kernel
def kX5_readGuard_38 : List BI := [bi (.istore_n 1) 1 [] 0, bi (.iload_n 1) 1 [] 0, bi (.iconst (-1)) 1 [] 0, bi (.if_icmp .eq (12)) 3 [53] 0, bi (.aload_n 0) 1 [] 0, bi (.bipush (7)) 2 [] 0, bi (.invokevirtual 101) 3 [mX5_takeWord, 2, 2, 5] 0]
theorem cX5_readGuard_38 : chk mX5_readGuard 38 kX5_readGuard_38 = true := by decide +kernel
theorem rU_38 {d : Nat} {σ : SG} {Q : Option AV → SG → Prop} {s0 : Int} (h : (r3 s0) ∧ (s0 = (-1) → Q (some (.inl 0)) σ) ∧ (s0 ≠ (-1) → (0 < d) ∧ AW (d - 1) mX5_takeWord 0 [some (.inr (.inr 4)), some (.inl 7)] [] σ (fun rr σ' => AW d mX5_readGuard 50 [some (.inr (.inr 4)), some (.inl s0), none, none] (rtS rr []) σ' Q))) : AW d mX5_readGuard 38 [some (.inr (.inr 4)), none, none, none] [.inl s0] σ Q := AW.blk kX5_readGuard_38 cX5_readGuard_38 (⟨⟨(h).1, (by decide)⟩, ⟨fun c32 => AW.blk kX5_readGuard_53 cX5_readGuard_53 (⟨(by decide), ((h).2).1 c32⟩), fun c32 => ⟨(((h).2).2 c32).1, (((h).2).2 c32).2⟩⟩⟩)
def kX5_readGuard_55 : List BI := [bi (.aload_n 0) 1 [] 0, bi (.iconst 1) 1 [] 0, bi (.bipush (6)) 2 [] 0, bi (.invokevirtual 104) 3 [mX5_takeNumber, 3, 4, 5] 0]
theorem cX5_readGuard_55 : chk mX5_readGuard 55 kX5_readGuard_55 = true := by decide +kernel
def kX5_readGuard_50 : List BI := [bi (.ifCond .ne (5)) 3 [55] 0, bi (.iconst 0) 1 [] 0, bi (.ireturn) 1 [1] 0]
theorem cX5_readGuard_50 : chk mX5_readGuard 50 kX5_readGuard_50 = true := by decide +kernel
theorem rU_50 {d : Nat} {σ : SG} {Q : Option AV → SG → Prop} {l1 s0 : Int} (h : (r3 s0) ∧ (s0 ≠ 0 → (0 < d) ∧ AW (d - 1) mX5_takeNumber 0 [some (.inr (.inr 4)), some (.inl 1), some (.inl 6), none] [] σ (fun rr σ' => AW d mX5_readGuard 62 [some (.inr (.inr 4)), some (.inl l1), none, none] (rtS rr []) σ' Q)) ∧ (s0 = 0 → Q (some (.inl 0)) σ)) : AW d mX5_readGuard 50 [some (.inr (.inr 4)), some (.inl l1), none, none] [.inl s0] σ Q := AW.blk kX5_readGuard_50 cX5_readGuard_50 (⟨(h).1, ⟨fun c33 => AW.blk kX5_readGuard_55 cX5_readGuard_55 (⟨(((h).2).1 c33).1, (((h).2).1 c33).2⟩), fun c33 => ⟨(by decide), ((h).2).2 c33⟩⟩⟩)
def kX5_readGuard_77 : List BI := [bi (.iconst 0) 1 [] 0, bi (.ireturn) 1 [1] 0]
theorem cX5_readGuard_77 : chk mX5_readGuard 77 kX5_readGuard_77 = true := by decide +kernel
def kX5_readGuard_62 : List BI := [bi (.istore_n 2) 1 [] 0, bi (.iload_n 2) 1 [] 0, bi (.iconst (-1)) 1 [] 0, bi (.if_icmp .eq (12)) 3 [77] 0, bi (.aload_n 0) 1 [] 0, bi (.bipush (8)) 2 [] 0, bi (.invokevirtual 101) 3 [mX5_takeWord, 2, 2, 5] 0]
theorem cX5_readGuard_62 : chk mX5_readGuard 62 kX5_readGuard_62 = true := by decide +kernel
theorem rU_62 {d : Nat} {σ : SG} {Q : Option AV → SG → Prop} {l1 s0 : Int} (h : (r3 s0) ∧ (s0 = (-1) → Q (some (.inl 0)) σ) ∧ (s0 ≠ (-1) → (0 < d) ∧ AW (d - 1) mX5_takeWord 0 [some (.inr (.inr 4)), some (.inl 8)] [] σ (fun rr σ' => AW d mX5_readGuard 74 [some (.inr (.inr 4)), some (.inl l1), some (.inl s0), none] (rtS rr []) σ' Q))) : AW d mX5_readGuard 62 [some (.inr (.inr 4)), some (.inl l1), none, none] [.inl s0] σ Q := AW.blk kX5_readGuard_62 cX5_readGuard_62 (⟨⟨(h).1, (by decide)⟩, ⟨fun c34 => AW.blk kX5_readGuard_77 cX5_readGuard_77 (⟨(by decide), ((h).2).1 c34⟩), fun c34 => ⟨(((h).2).2 c34).1, (((h).2).2 c34).2⟩⟩⟩)
def kX5_readGuard_79 : List BI := [bi (.aload_n 0) 1 [] 0, bi (.iconst 0) 1 [] 0, bi (.bipush (6)) 2 [] 0, bi (.invokevirtual 104) 3 [mX5_takeNumber, 3, 4, 5] 0]
theorem cX5_readGuard_79 : chk mX5_readGuard 79 kX5_readGuard_79 = true := by decide +kernel
def kX5_readGuard_74 : List BI := [bi (.ifCond .ne (5)) 3 [79] 0, bi (.iconst 0) 1 [] 0, bi (.ireturn) 1 [1] 0]
theorem cX5_readGuard_74 : chk mX5_readGuard 74 kX5_readGuard_74 = true := by decide +kernel
theorem rU_74 {d : Nat} {σ : SG} {Q : Option AV → SG → Prop} {l1 l2 s0 : Int} (h : (r3 s0) ∧ (s0 ≠ 0 → (0 < d) ∧ AW (d - 1) mX5_takeNumber 0 [some (.inr (.inr 4)), some (.inl 0), some (.inl 6), none] [] σ (fun rr σ' => AW d mX5_readGuard 86 [some (.inr (.inr 4)), some (.inl l1), some (.inl l2), none] (rtS rr []) σ' Q)) ∧ (s0 = 0 → Q (some (.inl 0)) σ)) : AW d mX5_readGuard 74 [some (.inr (.inr 4)), some (.inl l1), some (.inl l2), none] [.inl s0] σ Q := AW.blk kX5_readGuard_74 cX5_readGuard_74 (⟨(h).1, ⟨fun c35 => AW.blk kX5_readGuard_79 cX5_readGuard_79 (⟨(((h).2).1 c35).1, (((h).2).1 c35).2⟩), fun c35 => ⟨(by decide), ((h).2).2 c35⟩⟩⟩)
def kX4_addGuard_0 : List BI := [bi (.aload_n 0) 1 [] 0, bi (.getfield 43) 3 [4, 10] 0, bi (.aload_n 0) 1 [] 0, bi (.getfield 15) 3 [4, 1] 0, bi (.iload_n 1) 1 [] 0, bi (.iastore) 1 [] 0, bi (.aload_n 0) 1 [] 0, bi (.getfield 46) 3 [4, 11] 0, bi (.aload_n 0) 1 [] 0, bi (.getfield 15) 3 [4, 1] 0, bi (.iload_n 2) 1 [] 0, bi (.iastore) 1 [] 0, bi (.aload_n 0) 1 [] 0, bi (.getfield 49) 3 [4, 12] 0, bi (.aload_n 0) 1 [] 0, bi (.getfield 15) 3 [4, 1] 0, bi (.iload_n 3) 1 [] 0, bi (.iastore) 1 [] 0, bi (.aload_n 0) 1 [] 0, bi (.dup) 1 [] 0, bi (.getfield 15) 3 [4, 1] 0, bi (.iconst 1) 1 [] 0, bi (.iadd) 1 [] 0, bi (.putfield 15) 3 [4, 1] 0, bi (.return_) 1 [] 0]
theorem cX4_addGuard_0 : chk mX4_addGuard 0 kX4_addGuard_0 = true := by decide +kernel
def kX5_readGuard_98 : List BI := [bi (.iload_n 1) 1 [] 0, bi (.iload_n 2) 1 [] 0, bi (.iload_n 3) 1 [] 0, bi (.invokevirtual 132) 3 [mX4_addGuard, 4, 4, 4] 0, bi (.iconst 1) 1 [] 0, bi (.ireturn) 1 [1] 0]
theorem cX5_readGuard_98 : chk mX5_readGuard 98 kX5_readGuard_98 = true := by decide +kernel
def kX5_readGuard_94 : List BI := [bi (.aload_n 0) 1 [] 0, bi (.getfield 12) 3 [5, 1] 0]
theorem cX5_readGuard_94 : chk mX5_readGuard 94 kX5_readGuard_94 = true := by decide +kernel
def kX5_readGuard_86 : List BI := [bi (.istore_n 3) 1 [] 0, bi (.iload_n 3) 1 [] 0, bi (.iconst (-1)) 1 [] 0, bi (.if_icmp .ne (5)) 3 [94] 0, bi (.iconst 0) 1 [] 0, bi (.ireturn) 1 [1] 0]
theorem cX5_readGuard_86 : chk mX5_readGuard 86 kX5_readGuard_86 = true := by decide +kernel
theorem rU_86 {d : Nat} {σ : SG} {Q : Option AV → SG → Prop} {l1 l2 s0 : Int} {q : Nat} (hq : q = 5 ∨ q = 16) (hy : (σ 4 1).toNat = q) (h : (r3 s0) ∧ (s0 ≠ (-1) → (0 < d) ∧ (0 ≤ (σ q 1) ∧ (σ q 1) < 8) ∧ (∀ S36 : SG, S36 = up σ (q + 6) (σ q 1) l1 → (0 ≤ (S36 q 1) ∧ (S36 q 1) < 8) ∧ (∀ S37 : SG, S37 = up S36 (q + 7) (S36 q 1) l2 → (0 ≤ (S37 q 1) ∧ (S37 q 1) < 8) ∧ (∀ S38 : SG, S38 = up S37 (q + 8) (S37 q 1) s0 → (∀ S39 : SG, S39 = up S38 q 1 ((S38 q 1) + 1) → Q (some (.inl 1)) S39))))) ∧ (s0 = (-1) → Q (some (.inl 0)) σ)) : AW d mX5_readGuard 86 [some (.inr (.inr 4)), some (.inl l1), some (.inl l2), none] [.inl s0] σ Q := by
  rcases hq with rfl | rfl <;> exact AW.blk kX5_readGuard_86 cX5_readGuard_86 (⟨⟨(h).1, (by decide)⟩, ⟨fun c40 => AW.blk kX5_readGuard_94 cX5_readGuard_94 (aw_rl hy (AW.blk kX5_readGuard_98 cX5_readGuard_98 (⟨(((h).2).1 c40).1, AW.blk kX4_addGuard_0 cX4_addGuard_0 (⟨⟨(((((h).2).1 c40).2).1).1, (((((h).2).1 c40).2).1).2⟩, ⟨⟨(((((((h).2).1 c40).2).2) _ rfl).1).1, (((((((h).2).1 c40).2).2) _ rfl).1).2⟩, ⟨⟨(((((((((h).2).1 c40).2).2) _ rfl).2) _ rfl).1).1, (((((((((h).2).1 c40).2).2) _ rfl).2) _ rfl).1).2⟩, ⟨(by decide), ((((((((((h).2).1 c40).2).2) _ rfl).2) _ rfl).2) _ rfl) _ rfl⟩⟩⟩⟩)⟩))), fun c40 => ⟨(by decide), ((h).2).2 c40⟩⟩⟩)
def kX5_readLoan_0 : List BI := [bi (.aload_n 0) 1 [] 0, bi (.getfield 18) 3 [5, 0] 0, bi (.invokevirtual 95) 3 [mX7_advance, 1, 3, 7] 0]
theorem cX5_readLoan_0 : chk mX5_readLoan 0 kX5_readLoan_0 = true := by decide +kernel
theorem rL_0 {d : Nat} {σ : SG} {Q : Option AV → SG → Prop} (h : (0 < d) ∧ AW (d - 1) mX7_advance 0 [some (.inr (.inr 2)), none, none] [] σ (fun rr σ' => AW d mX5_readLoan 7 [some (.inr (.inr 4)), none, none, none, none, none, none] (rtS rr []) σ' Q)) : AW d mX5_readLoan 0 [some (.inr (.inr 4)), none, none, none, none, none, none] [] σ Q := AW.blk kX5_readLoan_0 cX5_readLoan_0 (⟨(h).1, (h).2⟩)
def kX5_readLoan_7 : List BI := [bi (.aload_n 0) 1 [] 0, bi (.iconst 1) 1 [] 0, bi (.bipush (14)) 2 [] 0, bi (.invokevirtual 104) 3 [mX5_takeNumber, 3, 4, 5] 0]
theorem cX5_readLoan_7 : chk mX5_readLoan 7 kX5_readLoan_7 = true := by decide +kernel
theorem rL_7 {d : Nat} {σ : SG} {Q : Option AV → SG → Prop} (h : (0 < d) ∧ AW (d - 1) mX5_takeNumber 0 [some (.inr (.inr 4)), some (.inl 1), some (.inl 14), none] [] σ (fun rr σ' => AW d mX5_readLoan 14 [some (.inr (.inr 4)), none, none, none, none, none, none] (rtS rr []) σ' Q)) : AW d mX5_readLoan 7 [some (.inr (.inr 4)), none, none, none, none, none, none] [] σ Q := AW.blk kX5_readLoan_7 cX5_readLoan_7 (⟨(h).1, (h).2⟩)
def kX5_readLoan_28 : List BI := [bi (.iconst 0) 1 [] 0, bi (.ireturn) 1 [1] 0]
theorem cX5_readLoan_28 : chk mX5_readLoan 28 kX5_readLoan_28 = true := by decide +kernel
def kX5_readLoan_14 : List BI := [bi (.istore_n 1) 1 [] 0, bi (.iload_n 1) 1 [] 0, bi (.iconst (-1)) 1 [] 0, bi (.if_icmp .eq (11)) 3 [28] 0, bi (.aload_n 0) 1 [] 0, bi (.iconst 5) 1 [] 0, bi (.invokevirtual 101) 3 [mX5_takeWord, 2, 2, 5] 0]
theorem cX5_readLoan_14 : chk mX5_readLoan 14 kX5_readLoan_14 = true := by decide +kernel
theorem rL_14 {d : Nat} {σ : SG} {Q : Option AV → SG → Prop} {s0 : Int} (h : (r3 s0) ∧ (s0 = (-1) → Q (some (.inl 0)) σ) ∧ (s0 ≠ (-1) → (0 < d) ∧ AW (d - 1) mX5_takeWord 0 [some (.inr (.inr 4)), some (.inl 5)] [] σ (fun rr σ' => AW d mX5_readLoan 25 [some (.inr (.inr 4)), some (.inl s0), none, none, none, none, none] (rtS rr []) σ' Q))) : AW d mX5_readLoan 14 [some (.inr (.inr 4)), none, none, none, none, none, none] [.inl s0] σ Q := AW.blk kX5_readLoan_14 cX5_readLoan_14 (⟨⟨(h).1, (by decide)⟩, ⟨fun c41 => AW.blk kX5_readLoan_28 cX5_readLoan_28 (⟨(by decide), ((h).2).1 c41⟩), fun c41 => ⟨(((h).2).2 c41).1, (((h).2).2 c41).2⟩⟩⟩)
def kX5_readLoan_30 : List BI := [bi (.aload_n 0) 1 [] 0, bi (.getfield 18) 3 [5, 0] 0, bi (.getfield 34) 3 [7, 5] 0, bi (.istore_n 2) 1 [] 0, bi (.aload_n 0) 1 [] 0, bi (.iconst (-1)) 1 [] 0, bi (.invokevirtual 112) 3 [mX5_takeTower, 2, 3, 5] 0]
theorem cX5_readLoan_30 : chk mX5_readLoan 30 kX5_readLoan_30 = true := by decide +kernel
def kX5_readLoan_25 : List BI := [bi (.ifCond .ne (5)) 3 [30] 0, bi (.iconst 0) 1 [] 0, bi (.ireturn) 1 [1] 0]
theorem cX5_readLoan_25 : chk mX5_readLoan 25 kX5_readLoan_25 = true := by decide +kernel
theorem rL_25 {d : Nat} {σ : SG} {Q : Option AV → SG → Prop} {l1 s0 : Int} (h : (r3 s0) ∧ (s0 ≠ 0 → (0 < d) ∧ AW (d - 1) mX5_takeTower 0 [some (.inr (.inr 4)), some (.inl ((-1))), none] [] σ (fun rr σ' => AW d mX5_readLoan 43 [some (.inr (.inr 4)), some (.inl l1), some (.inl (σ 2 5)), none, none, none, none] (rtS rr []) σ' Q)) ∧ (s0 = 0 → Q (some (.inl 0)) σ)) : AW d mX5_readLoan 25 [some (.inr (.inr 4)), some (.inl l1), none, none, none, none, none] [.inl s0] σ Q := AW.blk kX5_readLoan_25 cX5_readLoan_25 (⟨(h).1, ⟨fun c42 => AW.blk kX5_readLoan_30 cX5_readLoan_30 (⟨(((h).2).1 c42).1, (((h).2).1 c42).2⟩), fun c42 => ⟨(by decide), ((h).2).2 c42⟩⟩⟩)
def kX5_readLoan_70 : List BI := [bi (.aload_n 0) 1 [] 0, bi (.bipush (10)) 2 [] 0, bi (.invokevirtual 101) 3 [mX5_takeWord, 2, 2, 5] 0]
theorem cX5_readLoan_70 : chk mX5_readLoan 70 kX5_readLoan_70 = true := by decide +kernel
def kX5_readLoan_51 : List BI := [bi (.aload_n 0) 1 [] 0, bi (.iload_n 3) 1 [] 0, bi (.iload_n 1) 1 [] 0, bi (.invokevirtual 123) 3 [mX5_canTake, 3, 4, 5] 0, bi (.ifCond .ne (13)) 3 [70] 0, bi (.aload_n 0) 1 [] 0, bi (.getfield 18) 3 [5, 0] 0, bi (.iconst 2) 1 [] 0, bi (.iload_n 2) 1 [] 0, bi (.invokevirtual 37) 3 [mX7_fail, 3, 3, 7] 0, bi (.ireturn) 1 [1] 0]
theorem cX5_readLoan_51 : chk mX5_readLoan 51 kX5_readLoan_51 = true := by decide +kernel
def kX5_readLoan_43 : List BI := [bi (.istore_n 3) 1 [] 0, bi (.iload_n 3) 1 [] 0, bi (.iconst (-1)) 1 [] 0, bi (.if_icmp .ne (5)) 3 [51] 0, bi (.iconst 0) 1 [] 0, bi (.ireturn) 1 [1] 0]
theorem cX5_readLoan_43 : chk mX5_readLoan 43 kX5_readLoan_43 = true := by decide +kernel
theorem rL_43 {d : Nat} {σ : SG} {Q : Option AV → SG → Prop} {l1 l2 s0 : Int} {q : Nat} (hq : q = 5 ∨ q = 16) (hy : (σ 4 1).toNat = q) (h : (r3 s0) ∧ (s0 ≠ (-1) → (0 < d) ∧ (0 ≤ s0 ∧ s0 < 4) ∧ (0 ≤ s0 ∧ s0 < 4) ∧ (0 ≤ s0 ∧ s0 < 4) ∧ (r3 l1 ∧ r3 (σ (q + 2) s0)) ∧ ((σ (q + 2) s0) < l1 → (0 < d) ∧ (r3 (σ 2 2)) ∧ ((σ 2 2) ≠ 0 → Q (some (.inl 0)) σ) ∧ ((σ 2 2) = 0 → (∀ S43 : SG, S43 = up σ 2 2 2 → (∀ S44 : SG, S44 = up S43 2 3 l2 → Q (some (.inl 0)) S44)))) ∧ (l1 ≤ (σ (q + 2) s0) → (0 < d - 1) ∧ (0 ≤ (l1 - 1) ∧ (l1 - 1) < 32) ∧ (r3 (band (bor (σ (q + 4) s0) (σ (q + 5) s0)) (1 * 2 ^ Int.toNat (l1 - 1)))) ∧ ((band (bor (σ (q + 4) s0) (σ (q + 5) s0)) (1 * 2 ^ Int.toNat (l1 - 1))) ≠ 0 → (0 < d) ∧ (r3 (σ 2 2)) ∧ ((σ 2 2) ≠ 0 → Q (some (.inl 0)) σ) ∧ ((σ 2 2) = 0 → (∀ S46 : SG, S46 = up σ 2 2 2 → (∀ S47 : SG, S47 = up S46 2 3 l2 → Q (some (.inl 0)) S47)))) ∧ ((band (bor (σ (q + 4) s0) (σ (q + 5) s0)) (1 * 2 ^ Int.toNat (l1 - 1))) = 0 → (0 < d) ∧ AW (d - 1) mX5_takeWord 0 [some (.inr (.inr 4)), some (.inl 10)] [] σ (fun rr σ' => AW d mX5_readLoan 76 [some (.inr (.inr 4)), some (.inl l1), some (.inl l2), some (.inl s0), none, none, none] (rtS rr []) σ' Q)))) ∧ (s0 = (-1) → Q (some (.inl 0)) σ)) : AW d mX5_readLoan 43 [some (.inr (.inr 4)), some (.inl l1), some (.inl l2), none, none, none, none] [.inl s0] σ Q := by
  rcases hq with rfl | rfl <;> exact AW.blk kX5_readLoan_43 cX5_readLoan_43 (⟨⟨(h).1, (by decide)⟩, ⟨fun c51 => AW.blk kX5_readLoan_51 cX5_readLoan_51 (⟨(((h).2).1 c51).1, AW.blk kX5_canTake_0 cX5_canTake_0 (aw_rl hy (AW.blk kX5_canTake_4 cX5_canTake_4 (⟨⟨(((((h).2).1 c51).2).1).1, (((((h).2).1 c51).2).1).2⟩, aw_rl hy (AW.blk kX5_canTake_13 cX5_canTake_13 (⟨⟨((((((h).2).1 c51).2).2).1).1, ((((((h).2).1 c51).2).2).1).2⟩, aw_rl hy (AW.blk kX5_canTake_25 cX5_canTake_25 (⟨⟨(((((((h).2).1 c51).2).2).2).1).1, (((((((h).2).1 c51).2).2).2).1).2⟩, ⟨⟨((((((((h).2).1 c51).2).2).2).2).1).1, ((((((((h).2).1 c51).2).2).2).2).1).2⟩, ⟨fun c50 => AW.blk kX5_canTake_46 cX5_canTake_46 (⟨(by decide), ⟨(by decide), ⟨fun c => absurd c (by decide), fun _ => ⟨(((((((((h).2).1 c51).2).2).2).2).2).1 c50).1, AW.blk kX7_fail_0 cX7_fail_0 (⟨((((((((((h).2).1 c51).2).2).2).2).2).1 c50).2).1, ⟨fun c45 => AW.blk kX7_fail_17 cX7_fail_17 (⟨(by decide), ⟨(by decide), (((((((((((h).2).1 c51).2).2).2).2).2).1 c50).2).2).1 c45⟩⟩), fun c45 => ⟨(by decide), ⟨(by decide), (((((((((((((h).2).1 c51).2).2).2).2).2).1 c50).2).2).2 c45) _ rfl) _ rfl⟩⟩⟩⟩)⟩⟩⟩⟩), fun c50 => ⟨(((((((((h).2).1 c51).2).2).2).2).2).2 c50).1, AW.blk kX8_bit_0 cX8_bit_0 (⟨⟨(((((((((((h).2).1 c51).2).2).2).2).2).2 c50).2).1).1, (((((((((((h).2).1 c51).2).2).2).2).2).2 c50).2).1).2⟩, ⟨(((((((((((h).2).1 c51).2).2).2).2).2).2 c50).2).2).1, ⟨fun c49 => AW.blk kX5_canTake_46 cX5_canTake_46 (⟨(by decide), ⟨(by decide), ⟨fun c => absurd c (by decide), fun _ => ⟨(((((((((((((h).2).1 c51).2).2).2).2).2).2 c50).2).2).2).1 c49).1, AW.blk kX7_fail_0 cX7_fail_0 (⟨((((((((((((((h).2).1 c51).2).2).2).2).2).2 c50).2).2).2).1 c49).2).1, ⟨fun c48 => AW.blk kX7_fail_17 cX7_fail_17 (⟨(by decide), ⟨(by decide), (((((((((((((((h).2).1 c51).2).2).2).2).2).2 c50).2).2).2).1 c49).2).2).1 c48⟩⟩), fun c48 => ⟨(by decide), ⟨(by decide), (((((((((((((((((h).2).1 c51).2).2).2).2).2).2 c50).2).2).2).1 c49).2).2).2 c48) _ rfl) _ rfl⟩⟩⟩⟩)⟩⟩⟩⟩), fun c49 => AW.blk kX5_canTake_47 cX5_canTake_47 (⟨(by decide), ⟨(by decide), ⟨fun _ => AW.blk kX5_readLoan_70 cX5_readLoan_70 (⟨(((((((((((((h).2).1 c51).2).2).2).2).2).2 c50).2).2).2).2 c49).1, (((((((((((((h).2).1 c51).2).2).2).2).2).2 c50).2).2).2).2 c49).2⟩), fun c => absurd c (by decide)⟩⟩⟩)⟩⟩⟩)⟩⟩⟩⟩))⟩))⟩)))⟩), fun c51 => ⟨(by decide), ((h).2).2 c51⟩⟩⟩)
def kX5_readLoan_81 : List BI := [bi (.aload_n 0) 1 [] 0, bi (.iload_n 3) 1 [] 0, bi (.invokevirtual 112) 3 [mX5_takeTower, 2, 3, 5] 0]
theorem cX5_readLoan_81 : chk mX5_readLoan 81 kX5_readLoan_81 = true := by decide +kernel
def kX5_readLoan_76 : List BI := [bi (.ifCond .ne (5)) 3 [81] 0, bi (.iconst 0) 1 [] 0, bi (.ireturn) 1 [1] 0]
theorem cX5_readLoan_76 : chk mX5_readLoan 76 kX5_readLoan_76 = true := by decide +kernel
theorem rL_76 {d : Nat} {σ : SG} {Q : Option AV → SG → Prop} {l1 l2 l3 s0 : Int} (h : (r3 s0) ∧ (s0 ≠ 0 → (0 < d) ∧ AW (d - 1) mX5_takeTower 0 [some (.inr (.inr 4)), some (.inl l3), none] [] σ (fun rr σ' => AW d mX5_readLoan 86 [some (.inr (.inr 4)), some (.inl l1), some (.inl l2), some (.inl l3), none, none, none] (rtS rr []) σ' Q)) ∧ (s0 = 0 → Q (some (.inl 0)) σ)) : AW d mX5_readLoan 76 [some (.inr (.inr 4)), some (.inl l1), some (.inl l2), some (.inl l3), none, none, none] [.inl s0] σ Q := AW.blk kX5_readLoan_76 cX5_readLoan_76 (⟨(h).1, ⟨fun c52 => AW.blk kX5_readLoan_81 cX5_readLoan_81 (⟨(((h).2).1 c52).1, (((h).2).1 c52).2⟩), fun c52 => ⟨(by decide), ((h).2).2 c52⟩⟩⟩)
def kX5_readLoan_103 : List BI := [bi (.iconst 0) 1 [] 0, bi (.ireturn) 1 [1] 0]
theorem cX5_readLoan_103 : chk mX5_readLoan 103 kX5_readLoan_103 = true := by decide +kernel
def kX5_readLoan_86 : List BI := [bi (.istore 4) 2 [] 0, bi (.iload 4) 2 [] 0, bi (.iconst (-1)) 1 [] 0, bi (.if_icmp .eq (12)) 3 [103] 0, bi (.aload_n 0) 1 [] 0, bi (.bipush (11)) 2 [] 0, bi (.invokevirtual 101) 3 [mX5_takeWord, 2, 2, 5] 0]
theorem cX5_readLoan_86 : chk mX5_readLoan 86 kX5_readLoan_86 = true := by decide +kernel
theorem rL_86 {d : Nat} {σ : SG} {Q : Option AV → SG → Prop} {l1 l2 l3 s0 : Int} (h : (r3 s0) ∧ (s0 = (-1) → Q (some (.inl 0)) σ) ∧ (s0 ≠ (-1) → (0 < d) ∧ AW (d - 1) mX5_takeWord 0 [some (.inr (.inr 4)), some (.inl 11)] [] σ (fun rr σ' => AW d mX5_readLoan 100 [some (.inr (.inr 4)), some (.inl l1), some (.inl l2), some (.inl l3), some (.inl s0), none, none] (rtS rr []) σ' Q))) : AW d mX5_readLoan 86 [some (.inr (.inr 4)), some (.inl l1), some (.inl l2), some (.inl l3), none, none, none] [.inl s0] σ Q := AW.blk kX5_readLoan_86 cX5_readLoan_86 (⟨⟨(h).1, (by decide)⟩, ⟨fun c53 => AW.blk kX5_readLoan_103 cX5_readLoan_103 (⟨(by decide), ((h).2).1 c53⟩), fun c53 => ⟨(((h).2).2 c53).1, (((h).2).2 c53).2⟩⟩⟩)
def kX5_readLoan_105 : List BI := [bi (.aload_n 0) 1 [] 0, bi (.iconst 1) 1 [] 0, bi (.bipush (99)) 2 [] 0, bi (.invokevirtual 104) 3 [mX5_takeNumber, 3, 4, 5] 0]
theorem cX5_readLoan_105 : chk mX5_readLoan 105 kX5_readLoan_105 = true := by decide +kernel
def kX5_readLoan_100 : List BI := [bi (.ifCond .ne (5)) 3 [105] 0, bi (.iconst 0) 1 [] 0, bi (.ireturn) 1 [1] 0]
theorem cX5_readLoan_100 : chk mX5_readLoan 100 kX5_readLoan_100 = true := by decide +kernel
theorem rL_100 {d : Nat} {σ : SG} {Q : Option AV → SG → Prop} {l1 l2 l3 l4 s0 : Int} (h : (r3 s0) ∧ (s0 ≠ 0 → (0 < d) ∧ AW (d - 1) mX5_takeNumber 0 [some (.inr (.inr 4)), some (.inl 1), some (.inl 99), none] [] σ (fun rr σ' => AW d mX5_readLoan 112 [some (.inr (.inr 4)), some (.inl l1), some (.inl l2), some (.inl l3), some (.inl l4), none, none] (rtS rr []) σ' Q)) ∧ (s0 = 0 → Q (some (.inl 0)) σ)) : AW d mX5_readLoan 100 [some (.inr (.inr 4)), some (.inl l1), some (.inl l2), some (.inl l3), some (.inl l4), none, none] [.inl s0] σ Q := AW.blk kX5_readLoan_100 cX5_readLoan_100 (⟨(h).1, ⟨fun c54 => AW.blk kX5_readLoan_105 cX5_readLoan_105 (⟨(((h).2).1 c54).1, (((h).2).1 c54).2⟩), fun c54 => ⟨(by decide), ((h).2).2 c54⟩⟩⟩)
def kX5_readLoan_129 : List BI := [bi (.iconst 0) 1 [] 0, bi (.ireturn) 1 [1] 0]
theorem cX5_readLoan_129 : chk mX5_readLoan 129 kX5_readLoan_129 = true := by decide +kernel
def kX5_readLoan_112 : List BI := [bi (.istore 5) 2 [] 0, bi (.iload 5) 2 [] 0, bi (.iconst (-1)) 1 [] 0, bi (.if_icmp .eq (12)) 3 [129] 0, bi (.aload_n 0) 1 [] 0, bi (.bipush (12)) 2 [] 0, bi (.invokevirtual 101) 3 [mX5_takeWord, 2, 2, 5] 0]
theorem cX5_readLoan_112 : chk mX5_readLoan 112 kX5_readLoan_112 = true := by decide +kernel
theorem rL_112 {d : Nat} {σ : SG} {Q : Option AV → SG → Prop} {l1 l2 l3 l4 s0 : Int} (h : (r3 s0) ∧ (s0 = (-1) → Q (some (.inl 0)) σ) ∧ (s0 ≠ (-1) → (0 < d) ∧ AW (d - 1) mX5_takeWord 0 [some (.inr (.inr 4)), some (.inl 12)] [] σ (fun rr σ' => AW d mX5_readLoan 126 [some (.inr (.inr 4)), some (.inl l1), some (.inl l2), some (.inl l3), some (.inl l4), some (.inl s0), none] (rtS rr []) σ' Q))) : AW d mX5_readLoan 112 [some (.inr (.inr 4)), some (.inl l1), some (.inl l2), some (.inl l3), some (.inl l4), none, none] [.inl s0] σ Q := AW.blk kX5_readLoan_112 cX5_readLoan_112 (⟨⟨(h).1, (by decide)⟩, ⟨fun c55 => AW.blk kX5_readLoan_129 cX5_readLoan_129 (⟨(by decide), ((h).2).1 c55⟩), fun c55 => ⟨(((h).2).2 c55).1, (((h).2).2 c55).2⟩⟩⟩)
def kX5_readLoan_131 : List BI := [bi (.aload_n 0) 1 [] 0, bi (.iconst 0) 1 [] 0, bi (.bipush (99)) 2 [] 0, bi (.invokevirtual 104) 3 [mX5_takeNumber, 3, 4, 5] 0]
theorem cX5_readLoan_131 : chk mX5_readLoan 131 kX5_readLoan_131 = true := by decide +kernel
def kX5_readLoan_126 : List BI := [bi (.ifCond .ne (5)) 3 [131] 0, bi (.iconst 0) 1 [] 0, bi (.ireturn) 1 [1] 0]
theorem cX5_readLoan_126 : chk mX5_readLoan 126 kX5_readLoan_126 = true := by decide +kernel
theorem rL_126 {d : Nat} {σ : SG} {Q : Option AV → SG → Prop} {l1 l2 l3 l4 l5 s0 : Int} (h : (r3 s0) ∧ (s0 ≠ 0 → (0 < d) ∧ AW (d - 1) mX5_takeNumber 0 [some (.inr (.inr 4)), some (.inl 0), some (.inl 99), none] [] σ (fun rr σ' => AW d mX5_readLoan 138 [some (.inr (.inr 4)), some (.inl l1), some (.inl l2), some (.inl l3), some (.inl l4), some (.inl l5), none] (rtS rr []) σ' Q)) ∧ (s0 = 0 → Q (some (.inl 0)) σ)) : AW d mX5_readLoan 126 [some (.inr (.inr 4)), some (.inl l1), some (.inl l2), some (.inl l3), some (.inl l4), some (.inl l5), none] [.inl s0] σ Q := AW.blk kX5_readLoan_126 cX5_readLoan_126 (⟨(h).1, ⟨fun c56 => AW.blk kX5_readLoan_131 cX5_readLoan_131 (⟨(((h).2).1 c56).1, (((h).2).1 c56).2⟩), fun c56 => ⟨(by decide), ((h).2).2 c56⟩⟩⟩)
def kX4_addLoan_0 : List BI := [bi (.aload_n 0) 1 [] 0, bi (.getfield 21) 3 [4, 3] 0, bi (.iconst 5) 1 [] 0, bi (.imul) 1 [] 0, bi (.istore 6) 2 [] 0, bi (.aload_n 0) 1 [] 0, bi (.getfield 55) 3 [4, 14] 0, bi (.iload 6) 2 [] 0, bi (.iload_n 1) 1 [] 0, bi (.iastore) 1 [] 0, bi (.aload_n 0) 1 [] 0, bi (.getfield 55) 3 [4, 14] 0, bi (.iload 6) 2 [] 0, bi (.iconst 1) 1 [] 0, bi (.iadd) 1 [] 0, bi (.iload_n 2) 1 [] 0, bi (.iastore) 1 [] 0, bi (.aload_n 0) 1 [] 0, bi (.getfield 55) 3 [4, 14] 0, bi (.iload 6) 2 [] 0, bi (.iconst 2) 1 [] 0, bi (.iadd) 1 [] 0, bi (.iload_n 3) 1 [] 0, bi (.iastore) 1 [] 0, bi (.aload_n 0) 1 [] 0, bi (.getfield 55) 3 [4, 14] 0, bi (.iload 6) 2 [] 0, bi (.iconst 3) 1 [] 0, bi (.iadd) 1 [] 0, bi (.iload 4) 2 [] 0, bi (.iastore) 1 [] 0, bi (.aload_n 0) 1 [] 0, bi (.getfield 55) 3 [4, 14] 0, bi (.iload 6) 2 [] 0, bi (.iconst 4) 1 [] 0, bi (.iadd) 1 [] 0, bi (.iload 5) 2 [] 0, bi (.iastore) 1 [] 0, bi (.aload_n 0) 1 [] 0, bi (.getfield 40) 3 [4, 9] 0, bi (.iload_n 1) 1 [] 0, bi (.dup2) 1 [] 0, bi (.iaload) 1 [] 0, bi (.iload_n 2) 1 [] 0, bi (.invokestatic 58) 3 [mX8_bit, 1, 1] 0, bi (.ior) 1 [] 0, bi (.iastore) 1 [] 0, bi (.aload_n 0) 1 [] 0, bi (.dup) 1 [] 0, bi (.getfield 21) 3 [4, 3] 0, bi (.iconst 1) 1 [] 0, bi (.iadd) 1 [] 0, bi (.putfield 21) 3 [4, 3] 0, bi (.return_) 1 [] 0]
theorem cX4_addLoan_0 : chk mX4_addLoan 0 kX4_addLoan_0 = true := by decide +kernel
def kX5_readLoan_152 : List BI := [bi (.iload_n 3) 1 [] 0, bi (.iload_n 1) 1 [] 0, bi (.iload 4) 2 [] 0, bi (.iload 5) 2 [] 0, bi (.iload 6) 2 [] 0, bi (.invokevirtual 136) 3 [mX4_addLoan, 6, 7, 4] 0, bi (.iconst 1) 1 [] 0, bi (.ireturn) 1 [1] 0]
theorem cX5_readLoan_152 : chk mX5_readLoan 152 kX5_readLoan_152 = true := by decide +kernel
def kX5_readLoan_148 : List BI := [bi (.aload_n 0) 1 [] 0, bi (.getfield 12) 3 [5, 1] 0]
theorem cX5_readLoan_148 : chk mX5_readLoan 148 kX5_readLoan_148 = true := by decide +kernel
def kX5_readLoan_138 : List BI := [bi (.istore 6) 2 [] 0, bi (.iload 6) 2 [] 0, bi (.iconst (-1)) 1 [] 0, bi (.if_icmp .ne (5)) 3 [148] 0, bi (.iconst 0) 1 [] 0, bi (.ireturn) 1 [1] 0]
theorem cX5_readLoan_138 : chk mX5_readLoan 138 kX5_readLoan_138 = true := by decide +kernel
theorem rL_138 {d : Nat} {σ : SG} {Q : Option AV → SG → Prop} {l1 l2 l3 l4 l5 s0 : Int} {q : Nat} (hq : q = 5 ∨ q = 16) (hy : (σ 4 1).toNat = q) (h : (r3 s0) ∧ (s0 ≠ (-1) → (0 < d) ∧ (0 ≤ ((σ q 3) * 5) ∧ ((σ q 3) * 5) < 60) ∧ (∀ S57 : SG, S57 = up σ (q + 10) ((σ q 3) * 5) l3 → (0 ≤ (((σ q 3) * 5) + 1) ∧ (((σ q 3) * 5) + 1) < 60) ∧ (∀ S58 : SG, S58 = up S57 (q + 10) (((σ q 3) * 5) + 1) l1 → (0 ≤ (((σ q 3) * 5) + 2) ∧ (((σ q 3) * 5) + 2) < 60) ∧ (∀ S59 : SG, S59 = up S58 (q + 10) (((σ q 3) * 5) + 2) l4 → (0 ≤ (((σ q 3) * 5) + 3) ∧ (((σ q 3) * 5) + 3) < 60) ∧ (∀ S60 : SG, S60 = up S59 (q + 10) (((σ q 3) * 5) + 3) l5 → (0 ≤ (((σ q 3) * 5) + 4) ∧ (((σ q 3) * 5) + 4) < 60) ∧ (∀ S61 : SG, S61 = up S60 (q + 10) (((σ q 3) * 5) + 4) s0 → (0 ≤ l3 ∧ l3 < 4) ∧ (0 < d - 1) ∧ (0 ≤ (l1 - 1) ∧ (l1 - 1) < 32) ∧ (0 ≤ l3 ∧ l3 < 4) ∧ (∀ S62 : SG, S62 = up S61 (q + 5) l3 (bor (S61 (q + 5) l3) (1 * 2 ^ Int.toNat (l1 - 1))) → (∀ S63 : SG, S63 = up S62 q 3 ((S62 q 3) + 1) → Q (some (.inl 1)) S63)))))))) ∧ (s0 = (-1) → Q (some (.inl 0)) σ)) : AW d mX5_readLoan 138 [some (.inr (.inr 4)), some (.inl l1), some (.inl l2), some (.inl l3), some (.inl l4), some (.inl l5), none] [.inl s0] σ Q := by
  rcases hq with rfl | rfl <;> exact AW.blk kX5_readLoan_138 cX5_readLoan_138 (⟨⟨(h).1, (by decide)⟩, ⟨fun c64 => AW.blk kX5_readLoan_148 cX5_readLoan_148 (aw_rl hy (AW.blk kX5_readLoan_152 cX5_readLoan_152 (⟨(((h).2).1 c64).1, AW.blk kX4_addLoan_0 cX4_addLoan_0 (⟨⟨(((((h).2).1 c64).2).1).1, (((((h).2).1 c64).2).1).2⟩, ⟨⟨(((((((h).2).1 c64).2).2) _ rfl).1).1, (((((((h).2).1 c64).2).2) _ rfl).1).2⟩, ⟨⟨(((((((((h).2).1 c64).2).2) _ rfl).2) _ rfl).1).1, (((((((((h).2).1 c64).2).2) _ rfl).2) _ rfl).1).2⟩, ⟨⟨(((((((((((h).2).1 c64).2).2) _ rfl).2) _ rfl).2) _ rfl).1).1, (((((((((((h).2).1 c64).2).2) _ rfl).2) _ rfl).2) _ rfl).1).2⟩, ⟨⟨(((((((((((((h).2).1 c64).2).2) _ rfl).2) _ rfl).2) _ rfl).2) _ rfl).1).1, (((((((((((((h).2).1 c64).2).2) _ rfl).2) _ rfl).2) _ rfl).2) _ rfl).1).2⟩, ⟨⟨(((((((((((((((h).2).1 c64).2).2) _ rfl).2) _ rfl).2) _ rfl).2) _ rfl).2) _ rfl).1).1, (((((((((((((((h).2).1 c64).2).2) _ rfl).2) _ rfl).2) _ rfl).2) _ rfl).2) _ rfl).1).2⟩, ⟨(((((((((((((((h).2).1 c64).2).2) _ rfl).2) _ rfl).2) _ rfl).2) _ rfl).2) _ rfl).2).1, AW.blk kX8_bit_0 cX8_bit_0 (⟨⟨(((((((((((((((((h).2).1 c64).2).2) _ rfl).2) _ rfl).2) _ rfl).2) _ rfl).2) _ rfl).2).2).1).1, (((((((((((((((((h).2).1 c64).2).2) _ rfl).2) _ rfl).2) _ rfl).2) _ rfl).2) _ rfl).2).2).1).2⟩, ⟨⟨((((((((((((((((((h).2).1 c64).2).2) _ rfl).2) _ rfl).2) _ rfl).2) _ rfl).2) _ rfl).2).2).2).1).1, ((((((((((((((((((h).2).1 c64).2).2) _ rfl).2) _ rfl).2) _ rfl).2) _ rfl).2) _ rfl).2).2).2).1).2⟩, ⟨(by decide), (((((((((((((((((((h).2).1 c64).2).2) _ rfl).2) _ rfl).2) _ rfl).2) _ rfl).2) _ rfl).2).2).2).2) _ rfl) _ rfl⟩⟩⟩)⟩⟩⟩⟩⟩⟩⟩)⟩))), fun c64 => ⟨(by decide), ((h).2).2 c64⟩⟩⟩)
def kX5_readBends_0 : List BI := [bi (.aload_n 0) 1 [] 0, bi (.getfield 18) 3 [5, 0] 0, bi (.invokevirtual 95) 3 [mX7_advance, 1, 3, 7] 0]
theorem cX5_readBends_0 : chk mX5_readBends 0 kX5_readBends_0 = true := by decide +kernel
theorem rB_0 {d : Nat} {σ : SG} {Q : Option AV → SG → Prop} (h : (0 < d) ∧ AW (d - 1) mX7_advance 0 [some (.inr (.inr 2)), none, none] [] σ (fun rr σ' => AW d mX5_readBends 7 [some (.inr (.inr 4)), none] (rtS rr []) σ' Q)) : AW d mX5_readBends 0 [some (.inr (.inr 4)), none] [] σ Q := AW.blk kX5_readBends_0 cX5_readBends_0 (⟨(h).1, (h).2⟩)
def kX5_readBends_7 : List BI := [bi (.aload_n 0) 1 [] 0, bi (.iconst 1) 1 [] 0, bi (.bipush (99)) 2 [] 0, bi (.invokevirtual 104) 3 [mX5_takeNumber, 3, 4, 5] 0]
theorem cX5_readBends_7 : chk mX5_readBends 7 kX5_readBends_7 = true := by decide +kernel
theorem rB_7 {d : Nat} {σ : SG} {Q : Option AV → SG → Prop} (h : (0 < d) ∧ AW (d - 1) mX5_takeNumber 0 [some (.inr (.inr 4)), some (.inl 1), some (.inl 99), none] [] σ (fun rr σ' => AW d mX5_readBends 14 [some (.inr (.inr 4)), none] (rtS rr []) σ' Q)) : AW d mX5_readBends 7 [some (.inr (.inr 4)), none] [] σ Q := AW.blk kX5_readBends_7 cX5_readBends_7 (⟨(h).1, (h).2⟩)
def kX5_readBends_26 : List BI := [bi (.iload_n 1) 1 [] 0, bi (.putfield 140) 3 [4, 4] 0, bi (.iconst 1) 1 [] 0, bi (.ireturn) 1 [1] 0]
theorem cX5_readBends_26 : chk mX5_readBends 26 kX5_readBends_26 = true := by decide +kernel
def kX5_readBends_22 : List BI := [bi (.aload_n 0) 1 [] 0, bi (.getfield 12) 3 [5, 1] 0]
theorem cX5_readBends_22 : chk mX5_readBends 22 kX5_readBends_22 = true := by decide +kernel
def kX5_readBends_14 : List BI := [bi (.istore_n 1) 1 [] 0, bi (.iload_n 1) 1 [] 0, bi (.iconst (-1)) 1 [] 0, bi (.if_icmp .ne (5)) 3 [22] 0, bi (.iconst 0) 1 [] 0, bi (.ireturn) 1 [1] 0]
theorem cX5_readBends_14 : chk mX5_readBends 14 kX5_readBends_14 = true := by decide +kernel
theorem rB_14 {d : Nat} {σ : SG} {Q : Option AV → SG → Prop} {s0 : Int} {q : Nat} (hq : q = 5 ∨ q = 16) (hy : (σ 4 1).toNat = q) (h : (r3 s0) ∧ (s0 ≠ (-1) → (∀ S65 : SG, S65 = up σ q 4 s0 → Q (some (.inl 1)) S65)) ∧ (s0 = (-1) → Q (some (.inl 0)) σ)) : AW d mX5_readBends 14 [some (.inr (.inr 4)), none] [.inl s0] σ Q := by
  rcases hq with rfl | rfl <;> exact AW.blk kX5_readBends_14 cX5_readBends_14 (⟨⟨(h).1, (by decide)⟩, ⟨fun c66 => AW.blk kX5_readBends_22 cX5_readBends_22 (aw_rl hy (AW.blk kX5_readBends_26 cX5_readBends_26 (⟨(by decide), (((h).2).1 c66) _ rfl⟩))), fun c66 => ⟨(by decide), ((h).2).2 c66⟩⟩⟩)
def kX5_readEnemy_0 : List BI := [bi (.aload_n 0) 1 [] 0, bi (.getfield 18) 3 [5, 0] 0, bi (.invokevirtual 95) 3 [mX7_advance, 1, 3, 7] 0]
theorem cX5_readEnemy_0 : chk mX5_readEnemy 0 kX5_readEnemy_0 = true := by decide +kernel
theorem rE_0 {d : Nat} {σ : SG} {Q : Option AV → SG → Prop} (h : (0 < d) ∧ AW (d - 1) mX7_advance 0 [some (.inr (.inr 2)), none, none] [] σ (fun rr σ' => AW d mX5_readEnemy 7 [some (.inr (.inr 4)), none, none, none] (rtS rr []) σ' Q)) : AW d mX5_readEnemy 0 [some (.inr (.inr 4)), none, none, none] [] σ Q := AW.blk kX5_readEnemy_0 cX5_readEnemy_0 (⟨(h).1, (h).2⟩)
def kX5_readEnemy_7 : List BI := [bi (.aload_n 0) 1 [] 0, bi (.getfield 18) 3 [5, 0] 0, bi (.getfield 34) 3 [7, 5] 0, bi (.istore_n 1) 1 [] 0, bi (.aload_n 0) 1 [] 0, bi (.iconst 1) 1 [] 0, bi (.bipush (6)) 2 [] 0, bi (.invokevirtual 104) 3 [mX5_takeNumber, 3, 4, 5] 0]
theorem cX5_readEnemy_7 : chk mX5_readEnemy 7 kX5_readEnemy_7 = true := by decide +kernel
theorem rE_7 {d : Nat} {σ : SG} {Q : Option AV → SG → Prop} (h : (0 < d) ∧ AW (d - 1) mX5_takeNumber 0 [some (.inr (.inr 4)), some (.inl 1), some (.inl 6), none] [] σ (fun rr σ' => AW d mX5_readEnemy 22 [some (.inr (.inr 4)), some (.inl (σ 2 5)), none, none] (rtS rr []) σ' Q)) : AW d mX5_readEnemy 7 [some (.inr (.inr 4)), none, none, none] [] σ Q := AW.blk kX5_readEnemy_7 cX5_readEnemy_7 (⟨(h).1, (h).2⟩)
def kX5_readEnemy_52 : List BI := [bi (.aload_n 0) 1 [] 0, bi (.bipush (15)) 2 [] 0, bi (.invokevirtual 101) 3 [mX5_takeWord, 2, 2, 5] 0]
theorem cX5_readEnemy_52 : chk mX5_readEnemy 52 kX5_readEnemy_52 = true := by decide +kernel
def kX5_readEnemy_34 : List BI := [bi (.getfield 143) 3 [4, 13] 0, bi (.iload_n 2) 1 [] 0, bi (.iaload) 1 [] 0, bi (.ifCond .eq (13)) 3 [52] 0, bi (.aload_n 0) 1 [] 0, bi (.getfield 18) 3 [5, 0] 0, bi (.iconst 2) 1 [] 0, bi (.iload_n 1) 1 [] 0, bi (.invokevirtual 37) 3 [mX7_fail, 3, 3, 7] 0, bi (.ireturn) 1 [1] 0]
theorem cX5_readEnemy_34 : chk mX5_readEnemy 34 kX5_readEnemy_34 = true := by decide +kernel
def kX5_readEnemy_30 : List BI := [bi (.aload_n 0) 1 [] 0, bi (.getfield 12) 3 [5, 1] 0]
theorem cX5_readEnemy_30 : chk mX5_readEnemy 30 kX5_readEnemy_30 = true := by decide +kernel
def kX5_readEnemy_22 : List BI := [bi (.istore_n 2) 1 [] 0, bi (.iload_n 2) 1 [] 0, bi (.iconst (-1)) 1 [] 0, bi (.if_icmp .ne (5)) 3 [30] 0, bi (.iconst 0) 1 [] 0, bi (.ireturn) 1 [1] 0]
theorem cX5_readEnemy_22 : chk mX5_readEnemy 22 kX5_readEnemy_22 = true := by decide +kernel
theorem rE_22 {d : Nat} {σ : SG} {Q : Option AV → SG → Prop} {l1 s0 : Int} {q : Nat} (hq : q = 5 ∨ q = 16) (hy : (σ 4 1).toNat = q) (h : (r3 s0) ∧ (s0 ≠ (-1) → (0 ≤ s0 ∧ s0 < 7) ∧ (r3 (σ (q + 9) s0)) ∧ ((σ (q + 9) s0) = 0 → (0 < d) ∧ AW (d - 1) mX5_takeWord 0 [some (.inr (.inr 4)), some (.inl 15)] [] σ (fun rr σ' => AW d mX5_readEnemy 58 [some (.inr (.inr 4)), some (.inl l1), some (.inl s0), none] (rtS rr []) σ' Q)) ∧ ((σ (q + 9) s0) ≠ 0 → (0 < d) ∧ (r3 (σ 2 2)) ∧ ((σ 2 2) ≠ 0 → Q (some (.inl 0)) σ) ∧ ((σ 2 2) = 0 → (∀ S67 : SG, S67 = up σ 2 2 2 → (∀ S68 : SG, S68 = up S67 2 3 l1 → Q (some (.inl 0)) S68))))) ∧ (s0 = (-1) → Q (some (.inl 0)) σ)) : AW d mX5_readEnemy 22 [some (.inr (.inr 4)), some (.inl l1), none, none] [.inl s0] σ Q := by
  rcases hq with rfl | rfl <;> exact AW.blk kX5_readEnemy_22 cX5_readEnemy_22 (⟨⟨(h).1, (by decide)⟩, ⟨fun c71 => AW.blk kX5_readEnemy_30 cX5_readEnemy_30 (aw_rl hy (AW.blk kX5_readEnemy_34 cX5_readEnemy_34 (⟨⟨((((h).2).1 c71).1).1, ((((h).2).1 c71).1).2⟩, ⟨((((h).2).1 c71).2).1, ⟨fun c70 => AW.blk kX5_readEnemy_52 cX5_readEnemy_52 (⟨((((((h).2).1 c71).2).2).1 c70).1, ((((((h).2).1 c71).2).2).1 c70).2⟩), fun c70 => ⟨((((((h).2).1 c71).2).2).2 c70).1, AW.blk kX7_fail_0 cX7_fail_0 (⟨(((((((h).2).1 c71).2).2).2 c70).2).1, ⟨fun c69 => AW.blk kX7_fail_17 cX7_fail_17 (⟨(by decide), ⟨(by decide), ((((((((h).2).1 c71).2).2).2 c70).2).2).1 c69⟩⟩), fun c69 => ⟨(by decide), ⟨(by decide), ((((((((((h).2).1 c71).2).2).2 c70).2).2).2 c69) _ rfl) _ rfl⟩⟩⟩⟩)⟩⟩⟩⟩))), fun c71 => ⟨(by decide), ((h).2).2 c71⟩⟩⟩)
def kX5_readEnemy_63 : List BI := [bi (.aload_n 0) 1 [] 0, bi (.iconst 1) 1 [] 0, bi (.bipush (99)) 2 [] 0, bi (.invokevirtual 104) 3 [mX5_takeNumber, 3, 4, 5] 0]
theorem cX5_readEnemy_63 : chk mX5_readEnemy 63 kX5_readEnemy_63 = true := by decide +kernel
def kX5_readEnemy_58 : List BI := [bi (.ifCond .ne (5)) 3 [63] 0, bi (.iconst 0) 1 [] 0, bi (.ireturn) 1 [1] 0]
theorem cX5_readEnemy_58 : chk mX5_readEnemy 58 kX5_readEnemy_58 = true := by decide +kernel
theorem rE_58 {d : Nat} {σ : SG} {Q : Option AV → SG → Prop} {l1 l2 s0 : Int} (h : (r3 s0) ∧ (s0 ≠ 0 → (0 < d) ∧ AW (d - 1) mX5_takeNumber 0 [some (.inr (.inr 4)), some (.inl 1), some (.inl 99), none] [] σ (fun rr σ' => AW d mX5_readEnemy 70 [some (.inr (.inr 4)), some (.inl l1), some (.inl l2), none] (rtS rr []) σ' Q)) ∧ (s0 = 0 → Q (some (.inl 0)) σ)) : AW d mX5_readEnemy 58 [some (.inr (.inr 4)), some (.inl l1), some (.inl l2), none] [.inl s0] σ Q := AW.blk kX5_readEnemy_58 cX5_readEnemy_58 (⟨(h).1, ⟨fun c72 => AW.blk kX5_readEnemy_63 cX5_readEnemy_63 (⟨(((h).2).1 c72).1, (((h).2).1 c72).2⟩), fun c72 => ⟨(by decide), ((h).2).2 c72⟩⟩⟩)
def kX5_readEnemy_82 : List BI := [bi (.getfield 143) 3 [4, 13] 0, bi (.iload_n 2) 1 [] 0, bi (.iload_n 3) 1 [] 0, bi (.iastore) 1 [] 0, bi (.iconst 1) 1 [] 0, bi (.ireturn) 1 [1] 0]
theorem cX5_readEnemy_82 : chk mX5_readEnemy 82 kX5_readEnemy_82 = true := by decide +kernel
def kX5_readEnemy_78 : List BI := [bi (.aload_n 0) 1 [] 0, bi (.getfield 12) 3 [5, 1] 0]
theorem cX5_readEnemy_78 : chk mX5_readEnemy 78 kX5_readEnemy_78 = true := by decide +kernel
def kX5_readEnemy_70 : List BI := [bi (.istore_n 3) 1 [] 0, bi (.iload_n 3) 1 [] 0, bi (.iconst (-1)) 1 [] 0, bi (.if_icmp .ne (5)) 3 [78] 0, bi (.iconst 0) 1 [] 0, bi (.ireturn) 1 [1] 0]
theorem cX5_readEnemy_70 : chk mX5_readEnemy 70 kX5_readEnemy_70 = true := by decide +kernel
theorem rE_70 {d : Nat} {σ : SG} {Q : Option AV → SG → Prop} {l1 l2 s0 : Int} {q : Nat} (hq : q = 5 ∨ q = 16) (hy : (σ 4 1).toNat = q) (h : (r3 s0) ∧ (s0 ≠ (-1) → (0 ≤ l2 ∧ l2 < 7) ∧ (∀ S73 : SG, S73 = up σ (q + 9) l2 s0 → Q (some (.inl 1)) S73)) ∧ (s0 = (-1) → Q (some (.inl 0)) σ)) : AW d mX5_readEnemy 70 [some (.inr (.inr 4)), some (.inl l1), some (.inl l2), none] [.inl s0] σ Q := by
  rcases hq with rfl | rfl <;> exact AW.blk kX5_readEnemy_70 cX5_readEnemy_70 (⟨⟨(h).1, (by decide)⟩, ⟨fun c74 => AW.blk kX5_readEnemy_78 cX5_readEnemy_78 (aw_rl hy (AW.blk kX5_readEnemy_82 cX5_readEnemy_82 (⟨⟨((((h).2).1 c74).1).1, ((((h).2).1 c74).1).2⟩, ⟨(by decide), ((((h).2).1 c74).2) _ rfl⟩⟩))), fun c74 => ⟨(by decide), ((h).2).2 c74⟩⟩⟩)
def RCl (q : Nat) (ρ σ : SG) : Prop := ∀ j, j ≤ 10 → σ (q + j) = ρ j
def CFr (q : Nat) (σ σ' : SG) : Prop := ∀ p, p ≠ 2 → ¬ (q ≤ p ∧ p ≤ q + 10) → σ' p = σ p
theorem CFr.rf (q : Nat) (σ : SG) : CFr q σ σ := fun _ _ _ => rfl
theorem CFr.tr {q : Nat} {σ σ' σ'' : SG} (h : CFr q σ σ') (k : CFr q σ' σ'') : CFr q σ σ'' := fun p a b => (k p a b).trans (h p a b)
theorem CFr.af {q : Nat} {σ σ' : SG} (h : AFr σ σ') : CFr q σ σ' := fun p a _ => h p a
theorem CFr.up {q : Nat} {σ σ' : SG} (h : CFr q σ σ') {a : Nat} (ha : a ≤ 10) {i v : Int} : CFr q σ (up σ' (q + a) i v) := fun p x y => by rw [up_pf (by omega)]; exact h p x y
theorem RCl.af {q : Nat} (hq : q = 5 ∨ q = 16) {ρ σ σ' : SG} (h : RCl q ρ σ) (k : AFr σ σ') : RCl q ρ σ' := fun j hj => by rw [k _ (by omega)]; exact h j hj
theorem RCl.up {q : Nat} {ρ σ : SG} (h : RCl q ρ σ) {a : Nat} (ha : a ≤ 10) {i v : Int} : RCl q (rUp ρ a i v) (up σ (q + a) i v) := by
  intro j hj
  by_cases c : j = a
  · subst c
    rw [rUp_at, up_rw, putF_at, h j hj]
  · rw [rUp_ne c, up_pf (by omega), h j hj]
theorem RCl.z {q : Nat} {ρ σ : SG} (h : RCl q ρ σ) : σ q = ρ 0 := h 0 (by decide)
theorem CTp.cong {o : Int → Int} {L : Int} {X : PXv} {σ σ' : SG} (h : CTp o L X σ) (e2 : σ' 2 = σ 2) (e3 : σ' 3 = σ 3) : CTp o L X σ' := by
  unfold CTp at h ⊢
  rw [e2, e3]
  exact h
theorem CTp.up {q : Nat} (hq : q = 5 ∨ q = 16) {o : Int → Int} {L : Int} {X : PXv} {σ : SG} (h : CTp o L X σ) {a : Nat} {i v : Int} (ha : a ≤ 10) : CTp o L X (up σ (q + a) i v) := h.cong (up_pf (by omega)) (up_pf (by omega))
theorem pxN_r {o : Int → Int} {L lo hi p e : Int} {z : Int × Int × Int} (h : pxN o L lo hi p e = .inr z) : lo ≤ z.1 ∧ z.1 ≤ hi := by
  unfold pxN at h
  split at h
  · split at h
    · split at h
      · rename_i c
        cases h
        exact c
      · cases h
    · cases h
  · cases h
theorem twN_r (nm : Int → Int) (tw : Int) (o : Int → Int) (s t : Int) : twN nm tw o s t = -1 ∨ (0 ≤ twN nm tw o s t ∧ twN nm tw o s t < tw) := by
  rcases fstI_r (fun i => nmH nm o s t i) tw with z | z
  · exact Or.inl z
  · exact Or.inr ⟨z.1, z.2.1⟩
theorem pxT_r {o : Int → Int} {L : Int} {nm : Int → Int} {tw other p e : Int} {z : Int × Int × Int} (h : pxT o L nm tw other p e = .inr z) : 0 ≤ z.1 ∧ z.1 < tw ∧ z.1 ≠ other := by
  unfold pxT at h
  split at h
  · cases h
  · rename_i y hy
    split at h
    · cases h
    · rename_i c
      cases h
      have := twN_r nm tw o y.1 y.2.1
      exact ⟨by omega, by omega, fun w => c (Or.inr w)⟩
theorem pxA_r {o : Int → Int} {L : Int} {nm : Int → Int} {tw gd p e : Int} {z : Int × Int × Int} (h : pxA o L nm tw gd p e = .inr z) (hp : 0 ≤ p ∧ p ≤ L) : z.2.1 = te o L z.1 ∧ 0 ≤ z.1 ∧ z.2.1 ≤ L := by
  unfold pxA at h
  split at h
  · cases h
  · rename_i y hy
    split at h
    · cases h
      have e1 := (pxM_r hy).1
      have ht := tok (o := o) (L := L) e hp.1 hp.2
      rw [e1]
      exact ⟨rfl, by show 0 ≤ sk o L p; omega, by show te o L (sk o L p) ≤ L; omega⟩
    · cases h
theorem cttwR {d q : Nat} {o : Int → Int} {L v p e k : Int} {ρ σ : SG} {Q : Option AV → SG → Prop} (hq5 : q = 5 ∨ q = 16) (hy : (σ 4 1).toNat = q) (hd : 9 ≤ d) (h : CTp o L (.inr (v, p, e)) σ) (hC : RCl q ρ σ) (hk : 0 ≤ ρ 0 0 ∧ ρ 0 0 ≤ 4) (hr : ∀ t, 0 ≤ t → t < ρ 0 0 → ∀ j : Nat, j < 6 → r3 (ρ 1 (t * 6 + (j : Int)))) (h3k : r3 k) (hq : ∀ σ', AFr σ σ' → CTp o L (pxT o L (ρ 1) (ρ 0 0) k p e) σ' → Q (some (.inl (pxv (pxT o L (ρ 1) (ρ 0 0) k p e)))) σ') : AW d mX5_takeTower 0 [some (.inr (.inr 4)), some (.inl k), none] [] σ Q := by
  have e0 := hC.z
  have e1 := hC 1 (by decide)
  refine cttw hq5 hy hd h (by rw [e0]; exact hk) (by rw [e0, e1]; exact hr) h3k ?_
  rw [e0, e1]
  exact hq
theorem ctnnR {d q : Nat} {o : Int → Int} {L v p e k : Int} {ρ σ : SG} {Q : Option AV → SG → Prop} (hq5 : q = 5 ∨ q = 16) (hy : (σ 4 1).toNat = q) (hd : 9 ≤ d) (h : CTp o L (.inr (v, p, e)) σ) (hC : RCl q ρ σ) (hO : ROk ρ) (hk : 0 ≤ k ∧ k < 12) (hq : ∀ σ', CFr q σ σ' → CTp o L (pxA o L (ρ 1) (ρ 0 0) (ρ 0 1) p e) σ' → (∀ z, pxA o L (ρ 1) (ρ 0 0) (ρ 0 1) p e = .inr z → RCl q (putF ρ 1 (nmW (ρ 1) o z.1 (te o L z.1) k)) σ') → Q (some (.inl (px1 (pxA o L (ρ 1) (ρ 0 0) (ρ 0 1) p e)))) σ') : AW d mX5_takeNewName 0 [some (.inr (.inr 4)), some (.inl k), none] [] σ Q := by
  have e0 := hC.z
  have e1 := hC 1 (by decide)
  have hp := h.f.2.2.2
  obtain ⟨⟨a0, a1, a2, a3, a4⟩, hT, hG, hE, hLo, hD, hN, hM⟩ := hO
  refine ctnn hq5 hy hd h (by rw [e0]; exact a0) (by rw [e0, e1]; exact hN) (by rw [e0]; exact a1) (by rw [e0, e1]; exact hM) hk ?_
  rw [e0, e1]
  intro σ' hF hz hC'
  refine hq σ' (fun p x y => hF p x (by omega)) hC' (fun z hz' => ?_)
  intro j hj
  by_cases c : j = 1
  · subst c
    rw [hz z hz', putF_at, (pxA_r hz' hp).1]
  · rw [putF_ne c, hF _ (by omega) (by omega)]
    exact hC j hj
theorem CFr.y {q : Nat} (hq : q = 5 ∨ q = 16) {σ σ' : SG} (h : CFr q σ σ') (hy : (σ 4 1).toNat = q) : (σ' 4 1).toNat = q := by
  rw [h 4 (by decide) (by omega)]
  exact hy
theorem twN_W {nm o : Int → Int} {s t g tw : Int} {o' : Int → Int} {s' t' : Int} (hg : 0 ≤ g) (ht : tw ≤ 4) : twN (nmW nm o s t (4 + g)) tw o' s' t' = twN nm tw o' s' t' := by
  unfold twN
  apply fstI_cong
  intro i i0 i1
  unfold nmH
  apply decide_eq_decide.mpr
  constructor
  · intro h j hj
    rw [← h j hj, nmW_out hj (by omega)]
  · intro h j hj
    rw [nmW_out hj (by omega)]
    exact h j hj
theorem pxT_W {nm o : Int → Int} {s t g tw L other p e : Int} (hg : 0 ≤ g) (ht : tw ≤ 4) : pxT o L (nmW nm o s t (4 + g)) tw other p e = pxT o L nm tw other p e := by
  unfold pxT
  simp only [twN_W hg ht]
theorem ctower {d q : Nat} {o : Int → Int} {L v p e : Int} {ρ σ : SG} {Q : Option AV → SG → Prop} (hq5 : q = 5 ∨ q = 16) (hy : (σ 4 1).toNat = q) (hd : 20 ≤ d) (hO : ROk ρ) (h4 : ρ 0 0 < 4) (h : CTp o L (.inr (v, p, e)) σ) (hk : kd o L e (sk o L p) = 1) (hR : RCl q ρ σ) (hq0 : ∀ σ' z, stTw o L ρ (te o L (sk o L p)) (te o L (sk o L p)) = .inl z → CFr q σ σ' → CTp o L (.inl z) σ' → Q (some (.inl 0)) σ') (hq1 : ∀ σ' ρ' p' e', stTw o L ρ (te o L (sk o L p)) (te o L (sk o L p)) = .inr (ρ', p', e') → CFr q σ σ' → CTp o L (.inr (0, p', e')) σ' → RCl q ρ' σ' → ROk ρ' → Q (some (.inl 1)) σ') : AW d mX5_readTower 0 [some (.inr (.inr 4)), none] [] σ Q := by
  obtain ⟨⟨a0, a1, a2, a3, a4⟩, hT, hG, hE, hLo, hD, hN, hM⟩ := id hO
  refine rT_0 ⟨by omega, cadv 0 (by omega) h (fun S0 hA0 hC0 => ?_)⟩
  rw [if_pos (Or.inl hk)] at hC0
  generalize te o L (sk o L p) = p0 at *
  have hF0 : CFr q σ S0 := CFr.af hA0
  have hR0 := hR.af hq5 hA0
  have hy0 := hF0.y hq5 hy
  refine rT_7 hq5 hy0 ⟨by omega, ?_⟩
  rw [hR0.z]
  refine ctnnR hq5 hy0 (by omega) hC0 hR0 hO (by omega) (fun S1 hA1 hC1 hN1 => ?_)
  have hF1 := hF0.tr hA1
  have hy1 := hF1.y hq5 hy
  rcases hX1 : pxA o L (ρ 1) (ρ 0 0) (ρ 0 1) p0 p0 with z | ⟨v1, p1, e1⟩
  · try rw [hX1] at hC1
    try rw [hX1]
    rw [show px1 (Sum.inl z : PXv) = 0 from rfl]
    exact rT_18 ⟨(by decide : r3 0), fun _ => hq0 S1 z (by simp only [stTw, pxb, srm, pxv, hX1]) hF1 hC1, fun c => absurd rfl c⟩
  try rw [hX1] at hC1
  try rw [hX1]
  rw [show px1 (Sum.inr (v1, p1, e1) : PXv) = 1 from rfl]
  have hR1 := hN1 _ hX1
  have gr1 := pxA_r hX1 hC0.f.2.2.2
  dsimp only at gr1 hR1
  refine rT_18 ⟨(by decide : r3 1), fun c => absurd c (by decide), fun _ => ⟨by omega, ctword 1 (by decide) rfl (by omega) hC1 (fun S2 hA2 hC2 => ?_)⟩⟩
  have hF2 := hF1.tr (CFr.af (q := q) hA2)
  have hR2 := hR1.af hq5 hA2
  have hy2 := hF2.y hq5 hy
  rcases hX2 : pxW o L (WC (45 + 1)) p1 e1 with z | ⟨v2, p2, e2⟩
  · try rw [hX2] at hC2
    try rw [hX2]
    rw [show px1 (Sum.inl z : PXv) = 0 from rfl]
    exact rT_26 ⟨(by decide : r3 0), fun c => absurd rfl c, fun _ => hq0 S2 z (by simp only [stTw, pxb, srm, pxv, hX1, hX2]) hF2 hC2⟩
  try rw [hX2] at hC2
  try rw [hX2]
  rw [show px1 (Sum.inr (v2, p2, e2) : PXv) = 1 from rfl]
  refine rT_26 ⟨(by decide : r3 1), fun _ => ⟨by omega, ctnum (by omega) (by decide) (by decide) hC2 (fun S3 hA3 hC3 => ?_)⟩, fun c => absurd c (by decide)⟩
  have hF3 := hF2.tr (CFr.af (q := q) hA3)
  have hR3 := hR2.af hq5 hA3
  have hy3 := hF3.y hq5 hy
  rcases hX3 : pxN o L 3 14 p2 e2 with z | ⟨v3, p3, e3⟩
  · try rw [hX3] at hC3
    try rw [hX3]
    rw [show pxv (Sum.inl z : PXv) = -1 from rfl]
    exact rT_38 hq5 hy3 ⟨(by decide : r3 (-1)), fun c => absurd rfl c, fun _ => hq0 S3 z (by simp only [stTw, pxb, srm, pxv, hX1, hX2, hX3]) hF3 hC3⟩
  try rw [hX3] at hC3
  try rw [hX3]
  rw [show pxv (Sum.inr (v3, p3, e3) : PXv) = v3 from rfl]
  have gr3 := pxN_r hX3
  dsimp only at gr3
  have z0 : S3 q 0 = ρ 0 0 := by rw [hR3.z, putF_ne (by decide)]
  refine rT_38 hq5 hy3 ⟨(by omega : r3 v3), fun _ => ⟨by omega, by omega, fun T1 f1 => ?_⟩, fun c => absurd c (by omega)⟩
  rw [z0] at f1
  have w1 := hR3.up (a := 2) (by decide) (i := ρ 0 0) (v := v3)
  have x1 : T1 q 0 = ρ 0 0 := by rw [f1, up_p (by omega)]; exact z0
  rw [x1]
  refine ⟨by omega, fun T2 f2 => ?_⟩
  have x2 : T2 q 0 = ρ 0 0 := by rw [f2, up_p (by omega)]; exact x1
  rw [x2]
  refine ⟨by omega, fun T3 f3 => ?_⟩
  have x3 : T3 q 0 = ρ 0 0 := by rw [f3, up_p (by omega)]; exact x2
  rw [x3]
  refine ⟨by omega, fun T4 f4 T5 f5 => ?_⟩
  have x4 : T4 q 0 = ρ 0 0 := by rw [f4, up_p (by omega)]; exact x3
  rw [x4] at f5
  subst f1 f2 f3 f4 f5
  refine hq1 _ (rTw o L ρ v1 v3) p3 e3 (by simp only [stTw, pxb, srm, pxv, hX1, hX2, hX3]) (((((hF3.up (a := 2) (by decide)).up (a := 3) (by decide)).up (a := 4) (by decide)).up (a := 5) (by decide)).up (a := 0) (by decide)) (((((hC3.v.up hq5 (a := 2) (by decide)).up hq5 (a := 3) (by decide)).up hq5 (a := 4) (by decide)).up hq5 (a := 5) (by decide)).up hq5 (a := 0) (by decide)) ?_ (hO.tw hC0.f.1.2.2.2 gr1.2.1 (by have := hC0.f.1.2.2.1; omega) h4 gr3)
  exact (((((hR3.up (a := 2) (by decide)).up (a := 3) (by decide)).up (a := 4) (by decide)).up (a := 5) (by decide)).up (a := 0) (by decide))
theorem cwood {d q : Nat} {o : Int → Int} {L v p e : Int} {ρ σ : SG} {Q : Option AV → SG → Prop} (hq5 : q = 5 ∨ q = 16) (hy : (σ 4 1).toNat = q) (hd : 20 ≤ d) (hO : ROk ρ) (h : CTp o L (.inr (v, p, e)) σ) (hk : kd o L e (sk o L p) = 1) (hR : RCl q ρ σ) (hq0 : ∀ σ' z, stWd o L ρ (te o L (sk o L p)) (te o L (sk o L p)) = .inl z → CFr q σ σ' → CTp o L (.inl z) σ' → Q (some (.inl 0)) σ') (hq1 : ∀ σ' ρ' p' e', stWd o L ρ (te o L (sk o L p)) (te o L (sk o L p)) = .inr (ρ', p', e') → CFr q σ σ' → CTp o L (.inr (0, p', e')) σ' → RCl q ρ' σ' → ROk ρ' → Q (some (.inl 1)) σ') : AW d mX5_readWood 0 [some (.inr (.inr 4)), none, none] [] σ Q := by
  obtain ⟨⟨a0, a1, a2, a3, a4⟩, hT, hG, hE, hLo, hD, hN, hM⟩ := id hO
  refine rW_0 ⟨by omega, cadv 0 (by omega) h (fun S0 hA0 hC0 => ?_)⟩
  rw [if_pos (Or.inl hk)] at hC0
  generalize te o L (sk o L p) = p0 at *
  have hF0 : CFr q σ S0 := CFr.af hA0
  have hR0 := hR.af hq5 hA0
  have hy0 := hF0.y hq5 hy
  refine rW_7 ⟨by omega, cttwR hq5 hy0 (by omega) hC0 hR0 a0 hN (by decide) (fun S1 hA1 hC1 => ?_)⟩
  have hF1 := hF0.tr (CFr.af (q := q) hA1)
  have hR1 := hR0.af hq5 hA1
  have hy1 := hF1.y hq5 hy
  rcases hX1 : pxT o L (ρ 1) (ρ 0 0) (-1) p0 p0 with z | ⟨v1, p1, e1⟩
  · try rw [hX1] at hC1
    try rw [hX1]
    rw [show pxv (Sum.inl z : PXv) = -1 from rfl]
    exact rW_12 ⟨(by decide : r3 (-1)), fun _ => hq0 S1 z (by simp only [stWd, pxb, srm, pxv, hX1]) hF1 hC1, fun c => absurd rfl c⟩
  try rw [hX1] at hC1
  try rw [hX1]
  rw [show pxv (Sum.inr (v1, p1, e1) : PXv) = v1 from rfl]
  have gr1 := pxT_r hX1
  dsimp only at gr1
  refine rW_12 ⟨(by omega : r3 v1), fun c => absurd c (by omega), fun _ => ⟨by omega, ctword 3 (by decide) rfl (by omega) hC1 (fun S2 hA2 hC2 => ?_)⟩⟩
  have hF2 := hF1.tr (CFr.af (q := q) hA2)
  have hR2 := hR1.af hq5 hA2
  have hy2 := hF2.y hq5 hy
  rcases hX2 : pxW o L (WC (45 + 3)) p1 e1 with z | ⟨v2, p2, e2⟩
  · try rw [hX2] at hC2
    try rw [hX2]
    rw [show px1 (Sum.inl z : PXv) = 0 from rfl]
    exact rW_23 ⟨(by decide : r3 0), fun c => absurd rfl c, fun _ => hq0 S2 z (by simp only [stWd, pxb, srm, pxv, hX1, hX2]) hF2 hC2⟩
  try rw [hX2] at hC2
  try rw [hX2]
  rw [show px1 (Sum.inr (v2, p2, e2) : PXv) = 1 from rfl]
  refine rW_23 ⟨(by decide : r3 1), fun _ => ⟨by omega, ctnum (by omega) (by decide) (by decide) hC2 (fun S3 hA3 hC3 => ?_)⟩, fun c => absurd c (by decide)⟩
  have hF3 := hF2.tr (CFr.af (q := q) hA3)
  have hR3 := hR2.af hq5 hA3
  have hy3 := hF3.y hq5 hy
  rcases hX3 : pxN o L 0 99 p2 e2 with z | ⟨v3, p3, e3⟩
  · try rw [hX3] at hC3
    try rw [hX3]
    rw [show pxv (Sum.inl z : PXv) = -1 from rfl]
    exact rW_35 hq5 hy3 ⟨(by decide : r3 (-1)), fun c => absurd rfl c, fun _ => hq0 S3 z (by simp only [stWd, pxb, srm, pxv, hX1, hX2, hX3]) hF3 hC3⟩
  try rw [hX3] at hC3
  try rw [hX3]
  rw [show pxv (Sum.inr (v3, p3, e3) : PXv) = v3 from rfl]
  have gr3 := pxN_r hX3
  dsimp only at gr3
  refine rW_35 hq5 hy3 ⟨(by omega : r3 v3), fun _ => ⟨(by omega : 0 ≤ v1 ∧ v1 < 4), fun T1 f1 => ?_⟩, fun c => absurd c (by omega)⟩
  subst f1
  exact hq1 _ (rUp ρ 3 v1 v3) p3 e3 (by simp only [stWd, pxb, srm, pxv, hX1, hX2, hX3]) (hF3.up (a := 3) (by decide)) (hC3.v.up hq5 (a := 3) (by decide)) (hR3.up (a := 3) (by decide)) (hO.wd gr3)
theorem cgap {d q : Nat} {o : Int → Int} {L v p e : Int} {ρ σ : SG} {Q : Option AV → SG → Prop} (hq5 : q = 5 ∨ q = 16) (hy : (σ 4 1).toNat = q) (hd : 20 ≤ d) (hO : ROk ρ) (h20 : ρ 0 2 < 20) (h : CTp o L (.inr (v, p, e)) σ) (hk : kd o L e (sk o L p) = 1) (hR : RCl q ρ σ) (hq0 : ∀ σ' z, stGp o L ρ (te o L (sk o L p)) (te o L (sk o L p)) = .inl z → CFr q σ σ' → CTp o L (.inl z) σ' → Q (some (.inl 0)) σ') (hq1 : ∀ σ' ρ' p' e', stGp o L ρ (te o L (sk o L p)) (te o L (sk o L p)) = .inr (ρ', p', e') → CFr q σ σ' → CTp o L (.inr (0, p', e')) σ' → RCl q ρ' σ' → ROk ρ' → Q (some (.inl 1)) σ') : AW d mX5_readGap 0 [some (.inr (.inr 4)), none, none, none] [] σ Q := by
  obtain ⟨⟨a0, a1, a2, a3, a4⟩, hT, hG, hE, hLo, hD, hN, hM⟩ := id hO
  refine rG_0 ⟨by omega, cadv 0 (by omega) h (fun S0 hA0 hC0 => ?_)⟩
  rw [if_pos (Or.inl hk)] at hC0
  generalize te o L (sk o L p) = p0 at *
  have hF0 : CFr q σ S0 := CFr.af hA0
  have hR0 := hR.af hq5 hA0
  have hy0 := hF0.y hq5 hy
  refine rG_7 ⟨by omega, ctnum (by omega) (by decide) (by decide) hC0 (fun S1 hA1 hC1 => ?_)⟩
  have hF1 := hF0.tr (CFr.af (q := q) hA1)
  have hR1 := hR0.af hq5 hA1
  have hy1 := hF1.y hq5 hy
  rcases hX1 : pxN o L 1 14 p0 p0 with z | ⟨v1, p1, e1⟩
  · try rw [hX1] at hC1
    try rw [hX1]
    rw [show pxv (Sum.inl z : PXv) = -1 from rfl]
    exact rG_14 ⟨(by decide : r3 (-1)), fun _ => hq0 S1 z (by simp only [stGp, pxK, pxb, srm, pxv, hX1]) hF1 hC1, fun c => absurd rfl c⟩
  try rw [hX1] at hC1
  try rw [hX1]
  rw [show pxv (Sum.inr (v1, p1, e1) : PXv) = v1 from rfl]
  have gr1 := pxN_r hX1
  dsimp only at gr1
  refine rG_14 ⟨(by omega : r3 v1), fun c => absurd c (by omega), fun _ => ⟨by omega, ctword 5 (by decide) rfl (by omega) hC1 (fun S2 hA2 hC2 => ?_)⟩⟩
  have hF2 := hF1.tr (CFr.af (q := q) hA2)
  have hR2 := hR1.af hq5 hA2
  have hy2 := hF2.y hq5 hy
  rcases hX2 : pxW o L (WC (45 + 5)) p1 e1 with z | ⟨v2, p2, e2⟩
  · try rw [hX2] at hC2
    try rw [hX2]
    rw [show px1 (Sum.inl z : PXv) = 0 from rfl]
    exact rG_25 ⟨(by decide : r3 0), fun c => absurd rfl c, fun _ => hq0 S2 z (by simp only [stGp, pxK, pxb, srm, pxv, hX1, hX2]) hF2 hC2⟩
  try rw [hX2] at hC2
  try rw [hX2]
  rw [show px1 (Sum.inr (v2, p2, e2) : PXv) = 1 from rfl]
  refine rG_25 ⟨(by decide : r3 1), fun _ => ⟨by omega, cttwR hq5 hy2 (by omega) hC2 hR2 a0 hN (by decide) (fun S3 hA3 hC3 => ?_)⟩, fun c => absurd c (by decide)⟩
  rw [hC2.f.2.2.1.1]
  have hF3 := hF2.tr (CFr.af (q := q) hA3)
  have hR3 := hR2.af hq5 hA3
  have hy3 := hF3.y hq5 hy
  rcases hX3 : pxT o L (ρ 1) (ρ 0 0) (-1) p2 e2 with z | ⟨v3, p3, e3⟩
  · try rw [hX3] at hC3
    try rw [hX3]
    rw [show pxv (Sum.inl z : PXv) = -1 from rfl]
    exact rG_43 hq5 hy3 ⟨(by decide : r3 (-1)), fun c => absurd rfl c, fun _ => hq0 S3 z (by simp only [stGp, pxK, pxb, srm, pxv, hX1, hX2, hX3]) hF3 hC3⟩
  try rw [hX3] at hC3
  try rw [hX3]
  rw [show pxv (Sum.inr (v3, p3, e3) : PXv) = v3 from rfl]
  have gr3 := pxT_r hX3
  dsimp only at gr3
  obtain ⟨b1, b2, b3, b4, b5, b6⟩ := hT v3 gr3.1 gr3.2.1
  have h2 := hC3.f.2.1.1
  have eb := band_pow0 (x := bor (ρ 4 v3) (ρ 5 v3)) (k := (v1 - 1).toNat) (by omega)
  have er := bor_r b3 b4
  have bad : (ρ 2 v3 < v1 ∨ ((0 : Int) = 0 ∧ v1 = ρ 2 v3) ∨ tb (bor (ρ 4 v3) (ρ 5 v3)) (v1 - 1).toNat = true) → Q (some (.inl 0)) (up (up S3 2 2 2) 2 3 (sk o L p2)) := by
    intro c
    have hf := cfail (k := 2) (pl := sk o L p2) hC3
    refine hq0 _ (2, sk o L p2) ?_ (hF3.tr (CFr.af hf.2)) hf.1
    simp only [stGp, pxb, srm, pxv, pxK, hX1, hX2, hX3]
    rw [if_pos (c.elim Or.inl (fun z => Or.inr (z.elim (fun y => Or.inl ⟨trivial, y.2⟩) Or.inr)))]
  refine rG_43 hq5 hy3 ?_
  rw [hR3 2 (by decide), hR3 4 (by decide), hR3 5 (by decide)]
  refine ⟨(by omega : r3 v3), fun _ => ⟨(by omega : 0 ≤ v3 ∧ v3 < 4), (by omega : r3 v1 ∧ r3 (ρ 2 v3)), fun c => ⟨by omega, by omega, fun z => absurd h2 z, fun _ T1 f1 T2 f2 => ?_⟩, fun c => ⟨by omega, (by omega : 0 ≤ v3 ∧ v3 < 4), (by omega : 0 ≤ v3 ∧ v3 < 4), (by omega : 0 ≤ v3 ∧ v3 < 4), (by omega : r3 v1 ∧ r3 (ρ 2 v3)), fun c2 => ⟨by omega, by omega, fun z => absurd h2 z, fun _ T1 f1 T2 f2 => ?_⟩, fun c2 => ⟨by omega, by omega, band_r3 er.1 (by omega), fun c3 => ⟨by omega, by omega, fun z => absurd h2 z, fun _ T1 f1 T2 f2 => ?_⟩, fun c3 => ⟨(by omega : 0 ≤ v3 ∧ v3 < 4), by omega, by omega, (by omega : 0 ≤ v3 ∧ v3 < 4), fun T1 f1 T2 f2 => ?_⟩⟩⟩⟩, fun c => absurd c (by omega)⟩
  · rw [f2, f1]
    exact bad (Or.inr (Or.inl ⟨rfl, c⟩))
  · rw [f2, f1]
    exact bad (Or.inl c2)
  · rw [f2, f1]
    refine bad (Or.inr (Or.inr ?_))
    cases hb : tb (bor (ρ 4 v3) (ρ 5 v3)) (v1 - 1).toNat
    · exact absurd (eb.mpr hb) c3
    · rfl
  · have hb := eb.mp c3
    have x1 : T1 q 2 = ρ 0 2 := by rw [f1, up_p (by omega), hR3.z]
    rw [x1] at f2
    subst f1 f2
    refine hq1 _ (rGp ρ v1 v3) p3 e3 ?_ ((hF3.up (a := 4) (by decide)).up (a := 0) (by decide)) ((hC3.v.up hq5 (a := 4) (by decide)).up hq5 (a := 0) (by decide)) ((hR3.up (a := 4) (by decide)).up (a := 0) (by decide)) (hO.gp ⟨gr3.1, gr3.2.1⟩ (by omega) h20 hb)
    simp only [stGp, pxb, srm, pxv, pxK, hX1, hX2, hX3]
    rw [if_neg]
    rintro (z | ⟨_, z⟩ | z)
    · omega
    · exact c z
    · rw [hb] at z
      exact absurd z (by decide)
theorem cguard {d q : Nat} {o : Int → Int} {L v p e : Int} {ρ σ : SG} {Q : Option AV → SG → Prop} (hq5 : q = 5 ∨ q = 16) (hy : (σ 4 1).toNat = q) (hd : 20 ≤ d) (hO : ROk ρ) (h8 : ρ 0 1 < 8) (h : CTp o L (.inr (v, p, e)) σ) (hk : kd o L e (sk o L p) = 1) (hR : RCl q ρ σ) (hq0 : ∀ σ' z, stGd o L ρ (te o L (sk o L p)) (te o L (sk o L p)) = .inl z → CFr q σ σ' → CTp o L (.inl z) σ' → Q (some (.inl 0)) σ') (hq1 : ∀ σ' ρ' p' e', stGd o L ρ (te o L (sk o L p)) (te o L (sk o L p)) = .inr (ρ', p', e') → CFr q σ σ' → CTp o L (.inr (0, p', e')) σ' → RCl q ρ' σ' → ROk ρ' → Q (some (.inl 1)) σ') : AW d mX5_readGuard 0 [some (.inr (.inr 4)), none, none, none] [] σ Q := by
  obtain ⟨⟨a0, a1, a2, a3, a4⟩, hT, hG, hE, hLo, hD, hN, hM⟩ := id hO
  refine rU_0 ⟨by omega, cadv 0 (by omega) h (fun S0 hA0 hC0 => ?_)⟩
  rw [if_pos (Or.inl hk)] at hC0
  generalize te o L (sk o L p) = p0 at *
  have hF0 : CFr q σ S0 := CFr.af hA0
  have hR0 := hR.af hq5 hA0
  have hy0 := hF0.y hq5 hy
  refine rU_7 hq5 hy0 ⟨by omega, ?_⟩
  rw [hR0.z]
  refine ctnnR hq5 hy0 (by omega) hC0 hR0 hO (by omega) (fun S1 hA1 hC1 hN1 => ?_)
  have hF1 := hF0.tr hA1
  have hy1 := hF1.y hq5 hy
  rcases hX1 : pxA o L (ρ 1) (ρ 0 0) (ρ 0 1) p0 p0 with z | ⟨v1, p1, e1⟩
  · try rw [hX1] at hC1
    try rw [hX1]
    rw [show px1 (Sum.inl z : PXv) = 0 from rfl]
    exact rU_20 ⟨(by decide : r3 0), fun _ => hq0 S1 z (by simp only [stGd, gd4, gd3, gd2, gd1, pxb, srm, pxv, hX1]) hF1 hC1, fun c => absurd rfl c⟩
  try rw [hX1] at hC1
  try rw [hX1]
  rw [show px1 (Sum.inr (v1, p1, e1) : PXv) = 1 from rfl]
  have hR1 := hN1 _ hX1
  have gr1 := pxA_r hX1 hC0.f.2.2.2
  dsimp only at gr1 hR1
  refine rU_20 ⟨(by decide : r3 1), fun c => absurd c (by decide), fun _ => ⟨by omega, ctword 5 (by decide) rfl (by omega) hC1 (fun S2 hA2 hC2 => ?_)⟩⟩
  have hF2 := hF1.tr (CFr.af (q := q) hA2)
  have hR2 := hR1.af hq5 hA2
  have hy2 := hF2.y hq5 hy
  rcases hX2 : pxW o L (WC (45 + 5)) p1 e1 with z | ⟨v2, p2, e2⟩
  · try rw [hX2] at hC2
    try rw [hX2]
    rw [show px1 (Sum.inl z : PXv) = 0 from rfl]
    exact rU_28 ⟨(by decide : r3 0), fun c => absurd rfl c, fun _ => hq0 S2 z (by simp only [stGd, gd4, gd3, gd2, gd1, pxb, srm, pxv, hX1, hX2]) hF2 hC2⟩
  try rw [hX2] at hC2
  try rw [hX2]
  rw [show px1 (Sum.inr (v2, p2, e2) : PXv) = 1 from rfl]
  have q0 : putF ρ 1 (nmW (ρ 1) o v1 (te o L v1) (4 + ρ 0 1)) 0 0 = ρ 0 0 := by rw [putF_ne (by decide)]
  have q1 : putF ρ 1 (nmW (ρ 1) o v1 (te o L v1) (4 + ρ 0 1)) 1 = nmW (ρ 1) o v1 (te o L v1) (4 + ρ 0 1) := putF_at ..
  refine rU_28 ⟨(by decide : r3 1), fun _ => ⟨by omega, cttwR hq5 hy2 (by omega) hC2 hR2 (by rw [q0]; exact a0) (by rw [q0, q1]; exact fun t t0 t1 j hj => by rw [nmW_out hj (by omega)]; exact hN t t0 t1 j hj) (by decide) ?_⟩, fun c => absurd c (by decide)⟩
  rw [q0, q1, pxT_W a1.1 a0.2]
  intro S3 hA3 hC3
  have hF3 := hF2.tr (CFr.af (q := q) hA3)
  have hR3 := hR2.af hq5 hA3
  have hy3 := hF3.y hq5 hy
  rcases hX3 : pxT o L (ρ 1) (ρ 0 0) (-1) p2 e2 with z | ⟨v3, p3, e3⟩
  · try rw [hX3] at hC3
    try rw [hX3]
    rw [show pxv (Sum.inl z : PXv) = -1 from rfl]
    exact rU_38 ⟨(by decide : r3 (-1)), fun _ => hq0 S3 z (by simp only [stGd, gd4, gd3, gd2, gd1, pxb, srm, pxv, hX1, hX2, hX3]) hF3 hC3, fun c => absurd rfl c⟩
  try rw [hX3] at hC3
  try rw [hX3]
  rw [show pxv (Sum.inr (v3, p3, e3) : PXv) = v3 from rfl]
  have gr3 := pxT_r hX3
  dsimp only at gr3
  refine rU_38 ⟨(by omega : r3 v3), fun c => absurd c (by omega), fun _ => ⟨by omega, ctword 7 (by decide) rfl (by omega) hC3 (fun S4 hA4 hC4 => ?_)⟩⟩
  have hF4 := hF3.tr (CFr.af (q := q) hA4)
  have hR4 := hR3.af hq5 hA4
  have hy4 := hF4.y hq5 hy
  rcases hX4 : pxW o L (WC (45 + 7)) p3 e3 with z | ⟨v4, p4, e4⟩
  · try rw [hX4] at hC4
    try rw [hX4]
    rw [show px1 (Sum.inl z : PXv) = 0 from rfl]
    exact rU_50 ⟨(by decide : r3 0), fun c => absurd rfl c, fun _ => hq0 S4 z (by simp only [stGd, gd4, gd3, gd2, gd1, pxb, srm, pxv, hX1, hX2, hX3, hX4]) hF4 hC4⟩
  try rw [hX4] at hC4
  try rw [hX4]
  rw [show px1 (Sum.inr (v4, p4, e4) : PXv) = 1 from rfl]
  refine rU_50 ⟨(by decide : r3 1), fun _ => ⟨by omega, ctnum (by omega) (by decide) (by decide) hC4 (fun S5 hA5 hC5 => ?_)⟩, fun c => absurd c (by decide)⟩
  have hF5 := hF4.tr (CFr.af (q := q) hA5)
  have hR5 := hR4.af hq5 hA5
  have hy5 := hF5.y hq5 hy
  rcases hX5 : pxN o L 1 6 p4 e4 with z | ⟨v5, p5, e5⟩
  · try rw [hX5] at hC5
    try rw [hX5]
    rw [show pxv (Sum.inl z : PXv) = -1 from rfl]
    exact rU_62 ⟨(by decide : r3 (-1)), fun _ => hq0 S5 z (by simp only [stGd, gd4, gd3, gd2, gd1, pxb, srm, pxv, hX1, hX2, hX3, hX4, hX5]) hF5 hC5, fun c => absurd rfl c⟩
  try rw [hX5] at hC5
  try rw [hX5]
  rw [show pxv (Sum.inr (v5, p5, e5) : PXv) = v5 from rfl]
  have gr5 := pxN_r hX5
  dsimp only at gr5
  refine rU_62 ⟨(by omega : r3 v5), fun c => absurd c (by omega), fun _ => ⟨by omega, ctword 8 (by decide) rfl (by omega) hC5 (fun S6 hA6 hC6 => ?_)⟩⟩
  have hF6 := hF5.tr (CFr.af (q := q) hA6)
  have hR6 := hR5.af hq5 hA6
  have hy6 := hF6.y hq5 hy
  rcases hX6 : pxW o L (WC (45 + 8)) p5 e5 with z | ⟨v6, p6, e6⟩
  · try rw [hX6] at hC6
    try rw [hX6]
    rw [show px1 (Sum.inl z : PXv) = 0 from rfl]
    exact rU_74 ⟨(by decide : r3 0), fun c => absurd rfl c, fun _ => hq0 S6 z (by simp only [stGd, gd4, gd3, gd2, gd1, pxb, srm, pxv, hX1, hX2, hX3, hX4, hX5, hX6]) hF6 hC6⟩
  try rw [hX6] at hC6
  try rw [hX6]
  rw [show px1 (Sum.inr (v6, p6, e6) : PXv) = 1 from rfl]
  refine rU_74 ⟨(by decide : r3 1), fun _ => ⟨by omega, ctnum (by omega) (by decide) (by decide) hC6 (fun S7 hA7 hC7 => ?_)⟩, fun c => absurd c (by decide)⟩
  have hF7 := hF6.tr (CFr.af (q := q) hA7)
  have hR7 := hR6.af hq5 hA7
  have hy7 := hF7.y hq5 hy
  rcases hX7 : pxN o L 0 6 p6 e6 with z | ⟨v7, p7, e7⟩
  · try rw [hX7] at hC7
    try rw [hX7]
    rw [show pxv (Sum.inl z : PXv) = -1 from rfl]
    exact rU_86 hq5 hy7 ⟨(by decide : r3 (-1)), fun c => absurd rfl c, fun _ => hq0 S7 z (by simp only [stGd, gd4, gd3, gd2, gd1, pxb, srm, pxv, hX1, hX2, hX3, hX4, hX5, hX6, hX7]) hF7 hC7⟩
  try rw [hX7] at hC7
  try rw [hX7]
  rw [show pxv (Sum.inr (v7, p7, e7) : PXv) = v7 from rfl]
  have gr7 := pxN_r hX7
  dsimp only at gr7
  have z0 : S7 q 1 = ρ 0 1 := by rw [hR7.z, putF_ne (by decide)]
  refine rU_86 hq5 hy7 ⟨(by omega : r3 v7), fun _ => ⟨by omega, by omega, fun T1 f1 => ?_⟩, fun c => absurd c (by omega)⟩
  rw [z0] at f1
  have x1 : T1 q 1 = ρ 0 1 := by rw [f1, up_p (by omega)]; exact z0
  rw [x1]
  refine ⟨by omega, fun T2 f2 => ?_⟩
  have x2 : T2 q 1 = ρ 0 1 := by rw [f2, up_p (by omega)]; exact x1
  rw [x2]
  refine ⟨by omega, fun T3 f3 T4 f4 => ?_⟩
  have x3 : T3 q 1 = ρ 0 1 := by rw [f3, up_p (by omega)]; exact x2
  rw [x3] at f4
  subst f1 f2 f3 f4
  refine hq1 _ (rGd o L ρ v1 v3 v5 v7) p7 e7 (by simp only [stGd, gd4, gd3, gd2, gd1, pxb, srm, pxv, hX1, hX2, hX3, hX4, hX5, hX6, hX7]) ((((hF7.up (a := 6) (by decide)).up (a := 7) (by decide)).up (a := 8) (by decide)).up (a := 0) (by decide)) ((((hC7.v.up hq5 (a := 6) (by decide)).up hq5 (a := 7) (by decide)).up hq5 (a := 8) (by decide)).up hq5 (a := 0) (by decide)) ?_ (hO.gd hC0.f.1.2.2.2 gr1.2.1 (by have := hC0.f.1.2.2.1; omega) h8 ⟨gr3.1, gr3.2.1⟩ gr5 gr7)
  exact ((((hR7.up (a := 6) (by decide)).up (a := 7) (by decide)).up (a := 8) (by decide)).up (a := 0) (by decide))
theorem cloan {d q : Nat} {o : Int → Int} {L v p e : Int} {ρ σ : SG} {Q : Option AV → SG → Prop} (hq5 : q = 5 ∨ q = 16) (hy : (σ 4 1).toNat = q) (hd : 20 ≤ d) (hO : ROk ρ) (h12 : ρ 0 3 < 12) (h : CTp o L (.inr (v, p, e)) σ) (hk : kd o L e (sk o L p) = 1) (hR : RCl q ρ σ) (hq0 : ∀ σ' z, stLn o L ρ (te o L (sk o L p)) (te o L (sk o L p)) = .inl z → CFr q σ σ' → CTp o L (.inl z) σ' → Q (some (.inl 0)) σ') (hq1 : ∀ σ' ρ' p' e', stLn o L ρ (te o L (sk o L p)) (te o L (sk o L p)) = .inr (ρ', p', e') → CFr q σ σ' → CTp o L (.inr (0, p', e')) σ' → RCl q ρ' σ' → ROk ρ' → Q (some (.inl 1)) σ') : AW d mX5_readLoan 0 [some (.inr (.inr 4)), none, none, none, none, none, none] [] σ Q := by
  obtain ⟨⟨a0, a1, a2, a3, a4⟩, hT, hG, hE, hLo, hD, hN, hM⟩ := id hO
  refine rL_0 ⟨by omega, cadv 0 (by omega) h (fun S0 hA0 hC0 => ?_)⟩
  rw [if_pos (Or.inl hk)] at hC0
  generalize te o L (sk o L p) = p0 at *
  have hF0 : CFr q σ S0 := CFr.af hA0
  have hR0 := hR.af hq5 hA0
  have hy0 := hF0.y hq5 hy
  refine rL_7 ⟨by omega, ctnum (by omega) (by decide) (by decide) hC0 (fun S1 hA1 hC1 => ?_)⟩
  have hF1 := hF0.tr (CFr.af (q := q) hA1)
  have hR1 := hR0.af hq5 hA1
  have hy1 := hF1.y hq5 hy
  rcases hX1 : pxN o L 1 14 p0 p0 with z | ⟨v1, p1, e1⟩
  · try rw [hX1] at hC1
    try rw [hX1]
    rw [show pxv (Sum.inl z : PXv) = -1 from rfl]
    exact rL_14 ⟨(by decide : r3 (-1)), fun _ => hq0 S1 z (by simp only [stLn, ln5, ln4, ln3, ln2, ln1, pxK, pxb, srm, pxv, hX1]) hF1 hC1, fun c => absurd rfl c⟩
  try rw [hX1] at hC1
  try rw [hX1]
  rw [show pxv (Sum.inr (v1, p1, e1) : PXv) = v1 from rfl]
  have gr1 := pxN_r hX1
  dsimp only at gr1
  refine rL_14 ⟨(by omega : r3 v1), fun c => absurd c (by omega), fun _ => ⟨by omega, ctword 5 (by decide) rfl (by omega) hC1 (fun S2 hA2 hC2 => ?_)⟩⟩
  have hF2 := hF1.tr (CFr.af (q := q) hA2)
  have hR2 := hR1.af hq5 hA2
  have hy2 := hF2.y hq5 hy
  rcases hX2 : pxW o L (WC (45 + 5)) p1 e1 with z | ⟨v2, p2, e2⟩
  · try rw [hX2] at hC2
    try rw [hX2]
    rw [show px1 (Sum.inl z : PXv) = 0 from rfl]
    exact rL_25 ⟨(by decide : r3 0), fun c => absurd rfl c, fun _ => hq0 S2 z (by simp only [stLn, ln5, ln4, ln3, ln2, ln1, pxK, pxb, srm, pxv, hX1, hX2]) hF2 hC2⟩
  try rw [hX2] at hC2
  try rw [hX2]
  rw [show px1 (Sum.inr (v2, p2, e2) : PXv) = 1 from rfl]
  refine rL_25 ⟨(by decide : r3 1), fun _ => ⟨by omega, cttwR hq5 hy2 (by omega) hC2 hR2 a0 hN (by decide) (fun S3 hA3 hC3 => ?_)⟩, fun c => absurd c (by decide)⟩
  rw [hC2.f.2.2.1.1]
  have hF3 := hF2.tr (CFr.af (q := q) hA3)
  have hR3 := hR2.af hq5 hA3
  have hy3 := hF3.y hq5 hy
  rcases hX3 : pxT o L (ρ 1) (ρ 0 0) (-1) p2 e2 with z | ⟨v3, p3, e3⟩
  · try rw [hX3] at hC3
    try rw [hX3]
    rw [show pxv (Sum.inl z : PXv) = -1 from rfl]
    exact rL_43 hq5 hy3 ⟨(by decide : r3 (-1)), fun c => absurd rfl c, fun _ => hq0 S3 z (by simp only [stLn, ln5, ln4, ln3, ln2, ln1, pxK, pxb, srm, pxv, hX1, hX2, hX3]) hF3 hC3⟩
  try rw [hX3] at hC3
  try rw [hX3]
  rw [show pxv (Sum.inr (v3, p3, e3) : PXv) = v3 from rfl]
  have gr3 := pxT_r hX3
  dsimp only at gr3
  obtain ⟨b1, b2, b3, b4, b5, b6⟩ := hT v3 gr3.1 gr3.2.1
  have h2 := hC3.f.2.1.1
  have eb := band_pow0 (x := bor (ρ 4 v3) (ρ 5 v3)) (k := (v1 - 1).toNat) (by omega)
  have er := bor_r b3 b4
  have bad : (ρ 2 v3 < v1 ∨ ((1 : Int) = 0 ∧ v1 = ρ 2 v3) ∨ tb (bor (ρ 4 v3) (ρ 5 v3)) (v1 - 1).toNat = true) → Q (some (.inl 0)) (up (up S3 2 2 2) 2 3 (sk o L p2)) := by
    intro c
    have hf := cfail (k := 2) (pl := sk o L p2) hC3
    refine hq0 _ (2, sk o L p2) ?_ (hF3.tr (CFr.af hf.2)) hf.1
    simp only [stLn, ln5, ln4, ln3, ln2, ln1, pxb, srm, pxv, pxK, hX1, hX2, hX3]
    rw [if_pos c]
  refine rL_43 hq5 hy3 ?_
  rw [hR3 2 (by decide), hR3 4 (by decide), hR3 5 (by decide)]
  refine ⟨(by omega : r3 v3), fun _ => ⟨by omega, (by omega : 0 ≤ v3 ∧ v3 < 4), (by omega : 0 ≤ v3 ∧ v3 < 4), (by omega : 0 ≤ v3 ∧ v3 < 4), (by omega : r3 v1 ∧ r3 (ρ 2 v3)), fun c2 => ⟨by omega, by omega, fun z => absurd h2 z, fun _ T1 f1 T2 f2 => ?_⟩, fun c2 => ⟨by omega, by omega, band_r3 er.1 (by omega), fun c3 => ⟨by omega, by omega, fun z => absurd h2 z, fun _ T1 f1 T2 f2 => ?_⟩, fun c3 => ⟨by omega, ctword 10 (by decide) rfl (by omega) hC3 (fun S4 hA4 hC4 => ?_)⟩⟩⟩, fun c => absurd c (by omega)⟩
  · rw [f2, f1]
    exact bad (Or.inl c2)
  · rw [f2, f1]
    refine bad (Or.inr (Or.inr ?_))
    cases hb : tb (bor (ρ 4 v3) (ρ 5 v3)) (v1 - 1).toNat
    · exact absurd (eb.mpr hb) c3
    · rfl
  have hb := eb.mp c3
  have hK : ¬ (ρ 2 v3 < v1 ∨ ((1 : Int) = 0 ∧ v1 = ρ 2 v3) ∨ tb (bor (ρ 4 v3) (ρ 5 v3)) (v1 - 1).toNat = true) := by
    rintro (z | ⟨z, _⟩ | z)
    · omega
    · exact absurd z (by decide)
    · rw [hb] at z
      exact absurd z (by decide)
  have hF4 := hF3.tr (CFr.af (q := q) hA4)
  have hR4 := hR3.af hq5 hA4
  have hy4 := hF4.y hq5 hy
  rcases hX4 : pxW o L (WC (45 + 10)) p3 e3 with z | ⟨v4, p4, e4⟩
  · try rw [hX4] at hC4
    try rw [hX4]
    rw [show px1 (Sum.inl z : PXv) = 0 from rfl]
    exact rL_76 ⟨(by decide : r3 0), fun c => absurd rfl c, fun _ => hq0 S4 z (by simp only [stLn, ln5, ln4, ln3, ln2, ln1, pxK, pxb, srm, pxv, hX1, hX2, hX3, if_neg hK, hX4]) hF4 hC4⟩
  try rw [hX4] at hC4
  try rw [hX4]
  rw [show px1 (Sum.inr (v4, p4, e4) : PXv) = 1 from rfl]
  refine rL_76 ⟨(by decide : r3 1), fun _ => ⟨by omega, cttwR hq5 hy4 (by omega) hC4 hR4 a0 hN (by omega) (fun S5 hA5 hC5 => ?_)⟩, fun c => absurd c (by decide)⟩
  have hF5 := hF4.tr (CFr.af (q := q) hA5)
  have hR5 := hR4.af hq5 hA5
  have hy5 := hF5.y hq5 hy
  rcases hX5 : pxT o L (ρ 1) (ρ 0 0) v3 p4 e4 with z | ⟨v5, p5, e5⟩
  · try rw [hX5] at hC5
    try rw [hX5]
    rw [show pxv (Sum.inl z : PXv) = -1 from rfl]
    exact rL_86 ⟨(by decide : r3 (-1)), fun _ => hq0 S5 z (by simp only [stLn, ln5, ln4, ln3, ln2, ln1, pxK, pxb, srm, pxv, hX1, hX2, hX3, if_neg hK, hX4, hX5]) hF5 hC5, fun c => absurd rfl c⟩
  try rw [hX5] at hC5
  try rw [hX5]
  rw [show pxv (Sum.inr (v5, p5, e5) : PXv) = v5 from rfl]
  have gr5 := pxT_r hX5
  dsimp only at gr5
  refine rL_86 ⟨(by omega : r3 v5), fun c => absurd c (by omega), fun _ => ⟨by omega, ctword 11 (by decide) rfl (by omega) hC5 (fun S6 hA6 hC6 => ?_)⟩⟩
  have hF6 := hF5.tr (CFr.af (q := q) hA6)
  have hR6 := hR5.af hq5 hA6
  have hy6 := hF6.y hq5 hy
  rcases hX6 : pxW o L (WC (45 + 11)) p5 e5 with z | ⟨v6, p6, e6⟩
  · try rw [hX6] at hC6
    try rw [hX6]
    rw [show px1 (Sum.inl z : PXv) = 0 from rfl]
    exact rL_100 ⟨(by decide : r3 0), fun c => absurd rfl c, fun _ => hq0 S6 z (by simp only [stLn, ln5, ln4, ln3, ln2, ln1, pxK, pxb, srm, pxv, hX1, hX2, hX3, if_neg hK, hX4, hX5, hX6]) hF6 hC6⟩
  try rw [hX6] at hC6
  try rw [hX6]
  rw [show px1 (Sum.inr (v6, p6, e6) : PXv) = 1 from rfl]
  refine rL_100 ⟨(by decide : r3 1), fun _ => ⟨by omega, ctnum (by omega) (by decide) (by decide) hC6 (fun S7 hA7 hC7 => ?_)⟩, fun c => absurd c (by decide)⟩
  have hF7 := hF6.tr (CFr.af (q := q) hA7)
  have hR7 := hR6.af hq5 hA7
  have hy7 := hF7.y hq5 hy
  rcases hX7 : pxN o L 1 99 p6 e6 with z | ⟨v7, p7, e7⟩
  · try rw [hX7] at hC7
    try rw [hX7]
    rw [show pxv (Sum.inl z : PXv) = -1 from rfl]
    exact rL_112 ⟨(by decide : r3 (-1)), fun _ => hq0 S7 z (by simp only [stLn, ln5, ln4, ln3, ln2, ln1, pxK, pxb, srm, pxv, hX1, hX2, hX3, if_neg hK, hX4, hX5, hX6, hX7]) hF7 hC7, fun c => absurd rfl c⟩
  try rw [hX7] at hC7
  try rw [hX7]
  rw [show pxv (Sum.inr (v7, p7, e7) : PXv) = v7 from rfl]
  have gr7 := pxN_r hX7
  dsimp only at gr7
  refine rL_112 ⟨(by omega : r3 v7), fun c => absurd c (by omega), fun _ => ⟨by omega, ctword 12 (by decide) rfl (by omega) hC7 (fun S8 hA8 hC8 => ?_)⟩⟩
  have hF8 := hF7.tr (CFr.af (q := q) hA8)
  have hR8 := hR7.af hq5 hA8
  have hy8 := hF8.y hq5 hy
  rcases hX8 : pxW o L (WC (45 + 12)) p7 e7 with z | ⟨v8, p8, e8⟩
  · try rw [hX8] at hC8
    try rw [hX8]
    rw [show px1 (Sum.inl z : PXv) = 0 from rfl]
    exact rL_126 ⟨(by decide : r3 0), fun c => absurd rfl c, fun _ => hq0 S8 z (by simp only [stLn, ln5, ln4, ln3, ln2, ln1, pxK, pxb, srm, pxv, hX1, hX2, hX3, if_neg hK, hX4, hX5, hX6, hX7, hX8]) hF8 hC8⟩
  try rw [hX8] at hC8
  try rw [hX8]
  rw [show px1 (Sum.inr (v8, p8, e8) : PXv) = 1 from rfl]
  refine rL_126 ⟨(by decide : r3 1), fun _ => ⟨by omega, ctnum (by omega) (by decide) (by decide) hC8 (fun S9 hA9 hC9 => ?_)⟩, fun c => absurd c (by decide)⟩
  have hF9 := hF8.tr (CFr.af (q := q) hA9)
  have hR9 := hR8.af hq5 hA9
  have hy9 := hF9.y hq5 hy
  rcases hX9 : pxN o L 0 99 p8 e8 with z | ⟨v9, p9, e9⟩
  · try rw [hX9] at hC9
    try rw [hX9]
    rw [show pxv (Sum.inl z : PXv) = -1 from rfl]
    exact rL_138 hq5 hy9 ⟨(by decide : r3 (-1)), fun c => absurd rfl c, fun _ => hq0 S9 z (by simp only [stLn, ln5, ln4, ln3, ln2, ln1, pxK, pxb, srm, pxv, hX1, hX2, hX3, if_neg hK, hX4, hX5, hX6, hX7, hX8, hX9]) hF9 hC9⟩
  try rw [hX9] at hC9
  try rw [hX9]
  rw [show pxv (Sum.inr (v9, p9, e9) : PXv) = v9 from rfl]
  have gr9 := pxN_r hX9
  dsimp only at gr9
  have z0 : S9 q 3 = ρ 0 3 := by rw [hR9.z]
  have z5 : S9 (q + 5) = ρ 5 := hR9 5 (by decide)
  refine rL_138 hq5 hy9 ?_
  rw [z0]
  refine ⟨(by omega : r3 v9), fun _ => ⟨by omega, by omega, fun T1 f1 => ⟨by omega, fun T2 f2 => ⟨by omega, fun T3 f3 => ⟨by omega, fun T4 f4 => ⟨by omega, fun T5 f5 => ⟨(by omega : 0 ≤ v3 ∧ v3 < 4), by omega, by omega, (by omega : 0 ≤ v3 ∧ v3 < 4), fun T6 f6 T7 f7 => ?_⟩⟩⟩⟩⟩⟩, fun c => absurd c (by omega)⟩
  have x5 : T5 (q + 5) v3 = ρ 5 v3 := by rw [f5, up_p (by omega), f4, up_p (by omega), f3, up_p (by omega), f2, up_p (by omega), f1, up_p (by omega), z5]
  have x6 : T6 q 3 = ρ 0 3 := by rw [f6, up_p (by omega), f5, up_p (by omega), f4, up_p (by omega), f3, up_p (by omega), f2, up_p (by omega), f1, up_p (by omega), z0]
  rw [x5] at f6
  rw [x6] at f7
  subst f1 f2 f3 f4 f5 f6 f7
  refine hq1 _ (rLn ρ v3 v1 v5 v7 v9) p9 e9 (by simp only [stLn, ln5, ln4, ln3, ln2, ln1, pxb, srm, pxv, pxK, hX1, hX2, hX3, if_neg hK, hX4, hX5, hX6, hX7, hX8, hX9]) (((((((hF9.up (a := 10) (by decide)).up (a := 10) (by decide)).up (a := 10) (by decide)).up (a := 10) (by decide)).up (a := 10) (by decide)).up (a := 5) (by decide)).up (a := 0) (by decide)) (((((((hC9.v.up hq5 (a := 10) (by decide)).up hq5 (a := 10) (by decide)).up hq5 (a := 10) (by decide)).up hq5 (a := 10) (by decide)).up hq5 (a := 10) (by decide)).up hq5 (a := 5) (by decide)).up hq5 (a := 0) (by decide)) ?_ (hO.ln ⟨gr3.1, gr3.2.1⟩ ⟨gr1.1, by omega⟩ ⟨gr5.1, gr5.2.1⟩ (fun z => gr5.2.2 z.symm) gr7 gr9 h12 hb)
  exact (((((((hR9.up (a := 10) (by decide)).up (a := 10) (by decide)).up (a := 10) (by decide)).up (a := 10) (by decide)).up (a := 10) (by decide)).up (a := 5) (by decide)).up (a := 0) (by decide))
theorem cbends {d q : Nat} {o : Int → Int} {L v p e : Int} {ρ σ : SG} {Q : Option AV → SG → Prop} (hq5 : q = 5 ∨ q = 16) (hy : (σ 4 1).toNat = q) (hd : 20 ≤ d) (hO : ROk ρ) (h : CTp o L (.inr (v, p, e)) σ) (hk : kd o L e (sk o L p) = 1) (hR : RCl q ρ σ) (hq0 : ∀ σ' z, stBn o L ρ (te o L (sk o L p)) (te o L (sk o L p)) = .inl z → CFr q σ σ' → CTp o L (.inl z) σ' → Q (some (.inl 0)) σ') (hq1 : ∀ σ' ρ' p' e', stBn o L ρ (te o L (sk o L p)) (te o L (sk o L p)) = .inr (ρ', p', e') → CFr q σ σ' → CTp o L (.inr (0, p', e')) σ' → RCl q ρ' σ' → ROk ρ' → Q (some (.inl 1)) σ') : AW d mX5_readBends 0 [some (.inr (.inr 4)), none] [] σ Q := by
  obtain ⟨⟨a0, a1, a2, a3, a4⟩, hT, hG, hE, hLo, hD, hN, hM⟩ := id hO
  refine rB_0 ⟨by omega, cadv 0 (by omega) h (fun S0 hA0 hC0 => ?_)⟩
  rw [if_pos (Or.inl hk)] at hC0
  generalize te o L (sk o L p) = p0 at *
  have hF0 : CFr q σ S0 := CFr.af hA0
  have hR0 := hR.af hq5 hA0
  have hy0 := hF0.y hq5 hy
  refine rB_7 ⟨by omega, ctnum (by omega) (by decide) (by decide) hC0 (fun S1 hA1 hC1 => ?_)⟩
  have hF1 := hF0.tr (CFr.af (q := q) hA1)
  have hR1 := hR0.af hq5 hA1
  have hy1 := hF1.y hq5 hy
  rcases hX1 : pxN o L 1 99 p0 p0 with z | ⟨v1, p1, e1⟩
  · try rw [hX1] at hC1
    try rw [hX1]
    rw [show pxv (Sum.inl z : PXv) = -1 from rfl]
    exact rB_14 hq5 hy1 ⟨(by decide : r3 (-1)), fun c => absurd rfl c, fun _ => hq0 S1 z (by simp only [stBn, pxb, srm, pxv, hX1]) hF1 hC1⟩
  try rw [hX1] at hC1
  try rw [hX1]
  rw [show pxv (Sum.inr (v1, p1, e1) : PXv) = v1 from rfl]
  have gr1 := pxN_r hX1
  dsimp only at gr1
  refine rB_14 hq5 hy1 ⟨(by omega : r3 v1), fun _ T1 f1 => ?_, fun c => absurd c (by omega)⟩
  subst f1
  exact hq1 _ (rUp ρ 0 4 v1) p1 e1 (by simp only [stBn, srm, hX1]) (hF1.up (a := 0) (by decide)) (hC1.v.up hq5 (a := 0) (by decide)) (hR1.up (a := 0) (by decide)) (hO.bn gr1)
theorem cenemy {d q : Nat} {o : Int → Int} {L v p e : Int} {ρ σ : SG} {Q : Option AV → SG → Prop} (hq5 : q = 5 ∨ q = 16) (hy : (σ 4 1).toNat = q) (hd : 20 ≤ d) (hO : ROk ρ) (h : CTp o L (.inr (v, p, e)) σ) (hk : kd o L e (sk o L p) = 1) (hR : RCl q ρ σ) (hq0 : ∀ σ' z, stEn o L ρ (te o L (sk o L p)) (te o L (sk o L p)) = .inl z → CFr q σ σ' → CTp o L (.inl z) σ' → Q (some (.inl 0)) σ') (hq1 : ∀ σ' ρ' p' e', stEn o L ρ (te o L (sk o L p)) (te o L (sk o L p)) = .inr (ρ', p', e') → CFr q σ σ' → CTp o L (.inr (0, p', e')) σ' → RCl q ρ' σ' → ROk ρ' → Q (some (.inl 1)) σ') : AW d mX5_readEnemy 0 [some (.inr (.inr 4)), none, none, none] [] σ Q := by
  obtain ⟨⟨a0, a1, a2, a3, a4⟩, hT, hG, hE, hLo, hD, hN, hM⟩ := id hO
  refine rE_0 ⟨by omega, cadv 0 (by omega) h (fun S0 hA0 hC0 => ?_)⟩
  rw [if_pos (Or.inl hk)] at hC0
  generalize te o L (sk o L p) = p0 at *
  have hF0 : CFr q σ S0 := CFr.af hA0
  have hR0 := hR.af hq5 hA0
  have hy0 := hF0.y hq5 hy
  refine rE_7 ⟨by omega, ctnum (by omega) (by decide) (by decide) hC0 (fun S1 hA1 hC1 => ?_)⟩
  rw [hC0.f.2.2.1.1]
  have hF1 := hF0.tr (CFr.af (q := q) hA1)
  have hR1 := hR0.af hq5 hA1
  have hy1 := hF1.y hq5 hy
  rcases hX1 : pxN o L 1 6 p0 p0 with z | ⟨v1, p1, e1⟩
  · try rw [hX1] at hC1
    try rw [hX1]
    rw [show pxv (Sum.inl z : PXv) = -1 from rfl]
    exact rE_22 hq5 hy1 ⟨(by decide : r3 (-1)), fun c => absurd rfl c, fun _ => hq0 S1 z (by simp only [stEn, en1, pxb, srm, pxv, hX1]) hF1 hC1⟩
  try rw [hX1] at hC1
  try rw [hX1]
  rw [show pxv (Sum.inr (v1, p1, e1) : PXv) = v1 from rfl]
  have gr1 := pxN_r hX1
  dsimp only at gr1
  have h2 := hC1.f.2.1.1
  have h9 := hE v1 (by omega) (by omega)
  refine rE_22 hq5 hy1 ?_
  rw [hR1 9 (by decide)]
  refine ⟨(by omega : r3 v1), fun _ => ⟨(by omega : 0 ≤ v1 ∧ v1 < 7), (by omega : r3 (ρ 9 v1)), fun c => ⟨by omega, ctword 15 (by decide) rfl (by omega) hC1 (fun S2 hA2 hC2 => ?_)⟩, fun c => ⟨by omega, by omega, fun z => absurd h2 z, fun _ T1 f1 T2 f2 => ?_⟩⟩, fun c => absurd c (by omega)⟩
  rotate_left
  · rw [f2, f1]
    have hf := cfail (k := 2) (pl := sk o L p0) hC1
    refine hq0 _ (2, sk o L p0) ?_ (hF1.tr (CFr.af hf.2)) hf.1
    simp only [stEn, en1, pxb, srm, pxv, hX1]
    rw [if_pos c]
  have hK : ¬ (ρ 9 v1 ≠ 0) := fun z => z c
  have hF2 := hF1.tr (CFr.af (q := q) hA2)
  have hR2 := hR1.af hq5 hA2
  have hy2 := hF2.y hq5 hy
  rcases hX2 : pxW o L (WC (45 + 15)) p1 e1 with z | ⟨v2, p2, e2⟩
  · try rw [hX2] at hC2
    try rw [hX2]
    rw [show px1 (Sum.inl z : PXv) = 0 from rfl]
    exact rE_58 ⟨(by decide : r3 0), fun c => absurd rfl c, fun _ => hq0 S2 z (by simp only [stEn, en1, pxb, srm, pxv, hX1, if_neg hK, hX2]) hF2 hC2⟩
  try rw [hX2] at hC2
  try rw [hX2]
  rw [show px1 (Sum.inr (v2, p2, e2) : PXv) = 1 from rfl]
  refine rE_58 ⟨(by decide : r3 1), fun _ => ⟨by omega, ctnum (by omega) (by decide) (by decide) hC2 (fun S3 hA3 hC3 => ?_)⟩, fun c => absurd c (by decide)⟩
  have hF3 := hF2.tr (CFr.af (q := q) hA3)
  have hR3 := hR2.af hq5 hA3
  have hy3 := hF3.y hq5 hy
  rcases hX3 : pxN o L 1 99 p2 e2 with z | ⟨v3, p3, e3⟩
  · try rw [hX3] at hC3
    try rw [hX3]
    rw [show pxv (Sum.inl z : PXv) = -1 from rfl]
    exact rE_70 hq5 hy3 ⟨(by decide : r3 (-1)), fun c => absurd rfl c, fun _ => hq0 S3 z (by simp only [stEn, en1, pxb, srm, pxv, hX1, if_neg hK, hX2, hX3]) hF3 hC3⟩
  try rw [hX3] at hC3
  try rw [hX3]
  rw [show pxv (Sum.inr (v3, p3, e3) : PXv) = v3 from rfl]
  have gr3 := pxN_r hX3
  dsimp only at gr3
  refine rE_70 hq5 hy3 ⟨(by omega : r3 v3), fun _ => ⟨(by omega : 0 ≤ v1 ∧ v1 < 7), fun T1 f1 => ?_⟩, fun c => absurd c (by omega)⟩
  subst f1
  exact hq1 _ (rUp ρ 9 v1 v3) p3 e3 (by simp only [stEn, en1, pxb, srm, pxv, hX1, if_neg hK, hX2, hX3]) (hF3.up (a := 9) (by decide)) (hC3.v.up hq5 (a := 9) (by decide)) (hR3.up (a := 9) (by decide)) (hO.en gr3)
