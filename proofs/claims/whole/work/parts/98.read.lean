/-! ===== a realm read: statement by statement (wip/whole/gen98.py) ===== -/
def kX5_tooMany_71 : List BI := [bi (.iconst 0) 1 [] 0, bi (.ireturn) 1 [1] 0]
theorem cX5_tooMany_71 : chk mX5_tooMany 71 kX5_tooMany_71 = true := by decide +kernel
def kX5_tooMany_72 : List BI := [bi (.ireturn) 1 [1] 0]
theorem cX5_tooMany_72 : chk mX5_tooMany 72 kX5_tooMany_72 = true := by decide +kernel
def kX5_tooMany_60 : List BI := [bi (.getfield 83) 3 [4, 0] 0, bi (.iconst 4) 1 [] 0, bi (.if_icmp .lt (7)) 3 [71] 0, bi (.iconst 1) 1 [] 0, bi (.goto (4)) 3 [72] 0]
theorem cX5_tooMany_60 : chk mX5_tooMany 60 kX5_tooMany_60 = true := by decide +kernel
def kX5_tooMany_56 : List BI := [bi (.aload_n 0) 1 [] 0, bi (.getfield 12) 3 [5, 1] 0]
theorem cX5_tooMany_56 : chk mX5_tooMany 56 kX5_tooMany_56 = true := by decide +kernel
def kX5_tooMany_127 : List BI := [bi (.iconst 0) 1 [] 0, bi (.ireturn) 1 [1] 0]
theorem cX5_tooMany_127 : chk mX5_tooMany 127 kX5_tooMany_127 = true := by decide +kernel
def kX5_tooMany_89 : List BI := [bi (.iconst 0) 1 [] 0, bi (.ireturn) 1 [1] 0]
theorem cX5_tooMany_89 : chk mX5_tooMany 89 kX5_tooMany_89 = true := by decide +kernel
def kX5_tooMany_90 : List BI := [bi (.ireturn) 1 [1] 0]
theorem cX5_tooMany_90 : chk mX5_tooMany 90 kX5_tooMany_90 = true := by decide +kernel
def kX5_tooMany_77 : List BI := [bi (.getfield 86) 3 [4, 2] 0, bi (.bipush (20)) 2 [] 0, bi (.if_icmp .lt (7)) 3 [89] 0, bi (.iconst 1) 1 [] 0, bi (.goto (4)) 3 [90] 0]
theorem cX5_tooMany_77 : chk mX5_tooMany 77 kX5_tooMany_77 = true := by decide +kernel
def kX5_tooMany_73 : List BI := [bi (.aload_n 0) 1 [] 0, bi (.getfield 12) 3 [5, 1] 0]
theorem cX5_tooMany_73 : chk mX5_tooMany 73 kX5_tooMany_73 = true := by decide +kernel
def kX5_tooMany_107 : List BI := [bi (.iconst 0) 1 [] 0, bi (.ireturn) 1 [1] 0]
theorem cX5_tooMany_107 : chk mX5_tooMany 107 kX5_tooMany_107 = true := by decide +kernel
def kX5_tooMany_108 : List BI := [bi (.ireturn) 1 [1] 0]
theorem cX5_tooMany_108 : chk mX5_tooMany 108 kX5_tooMany_108 = true := by decide +kernel
def kX5_tooMany_95 : List BI := [bi (.getfield 89) 3 [4, 1] 0, bi (.bipush (8)) 2 [] 0, bi (.if_icmp .lt (7)) 3 [107] 0, bi (.iconst 1) 1 [] 0, bi (.goto (4)) 3 [108] 0]
theorem cX5_tooMany_95 : chk mX5_tooMany 95 kX5_tooMany_95 = true := by decide +kernel
def kX5_tooMany_91 : List BI := [bi (.aload_n 0) 1 [] 0, bi (.getfield 12) 3 [5, 1] 0]
theorem cX5_tooMany_91 : chk mX5_tooMany 91 kX5_tooMany_91 = true := by decide +kernel
def kX5_tooMany_125 : List BI := [bi (.iconst 0) 1 [] 0, bi (.ireturn) 1 [1] 0]
theorem cX5_tooMany_125 : chk mX5_tooMany 125 kX5_tooMany_125 = true := by decide +kernel
def kX5_tooMany_126 : List BI := [bi (.ireturn) 1 [1] 0]
theorem cX5_tooMany_126 : chk mX5_tooMany 126 kX5_tooMany_126 = true := by decide +kernel
def kX5_tooMany_113 : List BI := [bi (.getfield 92) 3 [4, 3] 0, bi (.bipush (12)) 2 [] 0, bi (.if_icmp .lt (7)) 3 [125] 0, bi (.iconst 1) 1 [] 0, bi (.goto (4)) 3 [126] 0]
theorem cX5_tooMany_113 : chk mX5_tooMany 113 kX5_tooMany_113 = true := by decide +kernel
def kX5_tooMany_109 : List BI := [bi (.aload_n 0) 1 [] 0, bi (.getfield 12) 3 [5, 1] 0]
theorem cX5_tooMany_109 : chk mX5_tooMany 109 kX5_tooMany_109 = true := by decide +kernel
def kX5_tooMany_0 : List BI := [bi (.iload_n 1) 1 [] 0, bi (.tableswitch (126) (0) (9) #[(55), (126), (126), (126), (72), (126), (90), (126), (126), (108)]) 55 [127, 56, 127, 127, 127, 73, 127, 91, 127, 127, 109] 0]
theorem cX5_tooMany_0 : chk mX5_tooMany 0 kX5_tooMany_0 = true := by decide +kernel
theorem rM_0 {d : Nat} {σ : SG} {Q : Option AV → SG → Prop} {w0 : Int} {q : Nat} (hq : q = 5 ∨ q = 16) (hy : (σ 4 1).toNat = q) (h : (r3 w0) ∧ ((w0 = 0 → (r3 (σ q 0)) ∧ ((σ q 0) < 4 → Q (some (.inl 0)) σ) ∧ (4 ≤ (σ q 0) → Q (some (.inl 1)) σ)) ∧ (w0 = 1 → Q (some (.inl 0)) σ) ∧ (w0 = 2 → Q (some (.inl 0)) σ) ∧ (w0 = 3 → Q (some (.inl 0)) σ) ∧ (w0 = 4 → (r3 (σ q 2)) ∧ ((σ q 2) < 20 → Q (some (.inl 0)) σ) ∧ (20 ≤ (σ q 2) → Q (some (.inl 1)) σ)) ∧ (w0 = 5 → Q (some (.inl 0)) σ) ∧ (w0 = 6 → (r3 (σ q 1)) ∧ ((σ q 1) < 8 → Q (some (.inl 0)) σ) ∧ (8 ≤ (σ q 1) → Q (some (.inl 1)) σ)) ∧ (w0 = 7 → Q (some (.inl 0)) σ) ∧ (w0 = 8 → Q (some (.inl 0)) σ) ∧ (w0 = 9 → (r3 (σ q 3)) ∧ ((σ q 3) < 12 → Q (some (.inl 0)) σ) ∧ (12 ≤ (σ q 3) → Q (some (.inl 1)) σ)) ∧ True) ∧ (w0 < 0 ∨ 9 < w0 → Q (some (.inl 0)) σ)) : AW d mX5_tooMany 0 [some (.inr (.inr 4)), some (.inl w0)] [] σ Q := by
  rcases hq with rfl | rfl <;> exact AW.blk kX5_tooMany_0 cX5_tooMany_0 (⟨(h).1, ⟨⟨fun c6 => AW.blk kX5_tooMany_56 cX5_tooMany_56 (aw_rl hy (AW.blk kX5_tooMany_60 cX5_tooMany_60 (⟨⟨((((h).2).1).1 c6).1, (by decide)⟩, ⟨fun c1 => AW.blk kX5_tooMany_71 cX5_tooMany_71 (⟨(by decide), (((((h).2).1).1 c6).2).1 c1⟩), fun c1 => AW.blk kX5_tooMany_72 cX5_tooMany_72 (⟨(by decide), (((((h).2).1).1 c6).2).2 c1⟩)⟩⟩))), ⟨fun c7 => AW.blk kX5_tooMany_127 cX5_tooMany_127 (⟨(by decide), ((((h).2).1).2).1 c7⟩), ⟨fun c8 => AW.blk kX5_tooMany_127 cX5_tooMany_127 (⟨(by decide), (((((h).2).1).2).2).1 c8⟩), ⟨fun c9 => AW.blk kX5_tooMany_127 cX5_tooMany_127 (⟨(by decide), ((((((h).2).1).2).2).2).1 c9⟩), ⟨fun c10 => AW.blk kX5_tooMany_73 cX5_tooMany_73 (aw_rl hy (AW.blk kX5_tooMany_77 cX5_tooMany_77 (⟨⟨((((((((h).2).1).2).2).2).2).1 c10).1, (by decide)⟩, ⟨fun c2 => AW.blk kX5_tooMany_89 cX5_tooMany_89 (⟨(by decide), (((((((((h).2).1).2).2).2).2).1 c10).2).1 c2⟩), fun c2 => AW.blk kX5_tooMany_90 cX5_tooMany_90 (⟨(by decide), (((((((((h).2).1).2).2).2).2).1 c10).2).2 c2⟩)⟩⟩))), ⟨fun c11 => AW.blk kX5_tooMany_127 cX5_tooMany_127 (⟨(by decide), ((((((((h).2).1).2).2).2).2).2).1 c11⟩), ⟨fun c12 => AW.blk kX5_tooMany_91 cX5_tooMany_91 (aw_rl hy (AW.blk kX5_tooMany_95 cX5_tooMany_95 (⟨⟨((((((((((h).2).1).2).2).2).2).2).2).1 c12).1, (by decide)⟩, ⟨fun c3 => AW.blk kX5_tooMany_107 cX5_tooMany_107 (⟨(by decide), (((((((((((h).2).1).2).2).2).2).2).2).1 c12).2).1 c3⟩), fun c3 => AW.blk kX5_tooMany_108 cX5_tooMany_108 (⟨(by decide), (((((((((((h).2).1).2).2).2).2).2).2).1 c12).2).2 c3⟩)⟩⟩))), ⟨fun c13 => AW.blk kX5_tooMany_127 cX5_tooMany_127 (⟨(by decide), ((((((((((h).2).1).2).2).2).2).2).2).2).1 c13⟩), ⟨fun c14 => AW.blk kX5_tooMany_127 cX5_tooMany_127 (⟨(by decide), (((((((((((h).2).1).2).2).2).2).2).2).2).2).1 c14⟩), ⟨fun c15 => AW.blk kX5_tooMany_109 cX5_tooMany_109 (aw_rl hy (AW.blk kX5_tooMany_113 cX5_tooMany_113 (⟨⟨(((((((((((((h).2).1).2).2).2).2).2).2).2).2).2).1 c15).1, (by decide)⟩, ⟨fun c4 => AW.blk kX5_tooMany_125 cX5_tooMany_125 (⟨(by decide), ((((((((((((((h).2).1).2).2).2).2).2).2).2).2).2).1 c15).2).1 c4⟩), fun c4 => AW.blk kX5_tooMany_126 cX5_tooMany_126 (⟨(by decide), ((((((((((((((h).2).1).2).2).2).2).2).2).2).2).2).1 c15).2).2 c4⟩)⟩⟩))), True.intro⟩⟩⟩⟩⟩⟩⟩⟩⟩⟩, fun c5 => AW.blk kX5_tooMany_127 cX5_tooMany_127 (⟨(by decide), ((h).2).2 c5⟩)⟩⟩)
def kX5_readStatement_0 : List BI := [bi (.aload_n 0) 1 [] 0, bi (.getfield 18) 3 [5, 0] 0, bi (.getfield 34) 3 [7, 5] 0, bi (.istore_n 1) 1 [] 0, bi (.aload_n 0) 1 [] 0, bi (.getfield 18) 3 [5, 0] 0, bi (.ldc 49) 2 [0] 0, bi (.invokevirtual 51) 3 [mX7_wordAmong, 2, 6, 7] 0]
theorem cX5_readStatement_0 : chk mX5_readStatement 0 kX5_readStatement_0 = true := by decide +kernel
theorem rS_0 {d : Nat} {σ : SG} {Q : Option AV → SG → Prop} (h : (0 < d) ∧ AW (d - 1) mX7_wordAmong 0 [some (.inr (.inr 2)), some (.inr (.inr 1000)), none, none, none, none] [] σ (fun rr σ' => AW d mX5_readStatement 17 [some (.inr (.inr 4)), some (.inl (σ 2 5)), none] (rtS rr []) σ' Q)) : AW d mX5_readStatement 0 [some (.inr (.inr 4)), none, none] [] σ Q := AW.blk kX5_readStatement_0 cX5_readStatement_0 (⟨(h).1, (h).2⟩)
def kX5_readStatement_17 : List BI := [bi (.istore_n 2) 1 [] 0, bi (.aload_n 0) 1 [] 0, bi (.iload_n 2) 1 [] 0, bi (.invokevirtual 55) 3 [mX5_tooMany, 2, 2, 5] 0]
theorem cX5_readStatement_17 : chk mX5_readStatement 17 kX5_readStatement_17 = true := by decide +kernel
theorem rS_17 {d : Nat} {σ : SG} {Q : Option AV → SG → Prop} {l1 s0 : Int} (h : (0 < d) ∧ AW (d - 1) mX5_tooMany 0 [some (.inr (.inr 4)), some (.inl s0)] [] σ (fun rr σ' => AW d mX5_readStatement 23 [some (.inr (.inr 4)), some (.inl l1), some (.inl s0)] (rtS rr []) σ' Q)) : AW d mX5_readStatement 17 [some (.inr (.inr 4)), some (.inl l1), none] [.inl s0] σ Q := AW.blk kX5_readStatement_17 cX5_readStatement_17 (⟨(h).1, (h).2⟩)
def kX5_readStatement_112 : List BI := [bi (.aload_n 0) 1 [] 0, bi (.invokevirtual 59) 3 [mX5_readTower, 1, 2, 5] 0]
theorem cX5_readStatement_112 : chk mX5_readStatement 112 kX5_readStatement_112 = true := by decide +kernel
def kX5_readStatement_147 : List BI := [bi (.aload_n 0) 1 [] 0, bi (.getfield 18) 3 [5, 0] 0, bi (.invokevirtual 80) 3 [mX7_failHere, 1, 1, 7] 0, bi (.ireturn) 1 [1] 0]
theorem cX5_readStatement_147 : chk mX5_readStatement 147 kX5_readStatement_147 = true := by decide +kernel
def kX5_readStatement_117 : List BI := [bi (.aload_n 0) 1 [] 0, bi (.invokevirtual 62) 3 [mX5_readWood, 1, 3, 5] 0]
theorem cX5_readStatement_117 : chk mX5_readStatement 117 kX5_readStatement_117 = true := by decide +kernel
def kX5_readStatement_122 : List BI := [bi (.aload_n 0) 1 [] 0, bi (.invokevirtual 65) 3 [mX5_readGap, 1, 4, 5] 0]
theorem cX5_readStatement_122 : chk mX5_readStatement 122 kX5_readStatement_122 = true := by decide +kernel
def kX5_readStatement_127 : List BI := [bi (.aload_n 0) 1 [] 0, bi (.invokevirtual 68) 3 [mX5_readGuard, 1, 4, 5] 0]
theorem cX5_readStatement_127 : chk mX5_readStatement 127 kX5_readStatement_127 = true := by decide +kernel
def kX5_readStatement_132 : List BI := [bi (.aload_n 0) 1 [] 0, bi (.invokevirtual 71) 3 [mX5_readLoan, 1, 7, 5] 0]
theorem cX5_readStatement_132 : chk mX5_readStatement 132 kX5_readStatement_132 = true := by decide +kernel
def kX5_readStatement_137 : List BI := [bi (.aload_n 0) 1 [] 0, bi (.invokevirtual 74) 3 [mX5_readBends, 1, 2, 5] 0]
theorem cX5_readStatement_137 : chk mX5_readStatement 137 kX5_readStatement_137 = true := by decide +kernel
def kX5_readStatement_142 : List BI := [bi (.aload_n 0) 1 [] 0, bi (.invokevirtual 77) 3 [mX5_readEnemy, 1, 4, 5] 0]
theorem cX5_readStatement_142 : chk mX5_readStatement 142 kX5_readStatement_142 = true := by decide +kernel
def kX5_readStatement_36 : List BI := [bi (.iload_n 2) 1 [] 0, bi (.tableswitch (110) (0) (14) #[(75), (110), (80), (110), (85), (110), (90), (110), (110), (95), (110), (110), (110), (100), (105)]) 75 [147, 112, 147, 117, 147, 122, 147, 127, 147, 147, 132, 147, 147, 147, 137, 142] 0]
theorem cX5_readStatement_36 : chk mX5_readStatement 36 kX5_readStatement_36 = true := by decide +kernel
def kX5_readStatement_23 : List BI := [bi (.ifCond .eq (13)) 3 [36] 0, bi (.aload_n 0) 1 [] 0, bi (.getfield 18) 3 [5, 0] 0, bi (.iconst 5) 1 [] 0, bi (.iload_n 1) 1 [] 0, bi (.invokevirtual 37) 3 [mX7_fail, 3, 3, 7] 0, bi (.ireturn) 1 [1] 0]
theorem cX5_readStatement_23 : chk mX5_readStatement 23 kX5_readStatement_23 = true := by decide +kernel
theorem rS_23 {d : Nat} {σ : SG} {Q : Option AV → SG → Prop} {l1 l2 s0 : Int} (h : (r3 s0) ∧ (s0 = 0 → (r3 l2) ∧ ((l2 = 0 → (0 < d) ∧ AW (d - 1) mX5_readTower 0 [some (.inr (.inr 4)), none] [] σ (fun rr σ' => AW d mX5_readStatement 116 [some (.inr (.inr 4)), some (.inl l1), some (.inl l2)] (rtS rr []) σ' Q)) ∧ (l2 = 1 → (0 < d) ∧ (0 < d - 1) ∧ (r3 (σ 2 2)) ∧ ((σ 2 2) ≠ 0 → Q (some (.inl 0)) σ) ∧ ((σ 2 2) = 0 → (∀ S16 : SG, S16 = up σ 2 2 1 → (∀ S17 : SG, S17 = up S16 2 3 (σ 2 5) → Q (some (.inl 0)) S17)))) ∧ (l2 = 2 → (0 < d) ∧ AW (d - 1) mX5_readWood 0 [some (.inr (.inr 4)), none, none] [] σ (fun rr σ' => AW d mX5_readStatement 121 [some (.inr (.inr 4)), some (.inl l1), some (.inl l2)] (rtS rr []) σ' Q)) ∧ (l2 = 3 → (0 < d) ∧ (0 < d - 1) ∧ (r3 (σ 2 2)) ∧ ((σ 2 2) ≠ 0 → Q (some (.inl 0)) σ) ∧ ((σ 2 2) = 0 → (∀ S19 : SG, S19 = up σ 2 2 1 → (∀ S20 : SG, S20 = up S19 2 3 (σ 2 5) → Q (some (.inl 0)) S20)))) ∧ (l2 = 4 → (0 < d) ∧ AW (d - 1) mX5_readGap 0 [some (.inr (.inr 4)), none, none, none] [] σ (fun rr σ' => AW d mX5_readStatement 126 [some (.inr (.inr 4)), some (.inl l1), some (.inl l2)] (rtS rr []) σ' Q)) ∧ (l2 = 5 → (0 < d) ∧ (0 < d - 1) ∧ (r3 (σ 2 2)) ∧ ((σ 2 2) ≠ 0 → Q (some (.inl 0)) σ) ∧ ((σ 2 2) = 0 → (∀ S22 : SG, S22 = up σ 2 2 1 → (∀ S23 : SG, S23 = up S22 2 3 (σ 2 5) → Q (some (.inl 0)) S23)))) ∧ (l2 = 6 → (0 < d) ∧ AW (d - 1) mX5_readGuard 0 [some (.inr (.inr 4)), none, none, none] [] σ (fun rr σ' => AW d mX5_readStatement 131 [some (.inr (.inr 4)), some (.inl l1), some (.inl l2)] (rtS rr []) σ' Q)) ∧ (l2 = 7 → (0 < d) ∧ (0 < d - 1) ∧ (r3 (σ 2 2)) ∧ ((σ 2 2) ≠ 0 → Q (some (.inl 0)) σ) ∧ ((σ 2 2) = 0 → (∀ S25 : SG, S25 = up σ 2 2 1 → (∀ S26 : SG, S26 = up S25 2 3 (σ 2 5) → Q (some (.inl 0)) S26)))) ∧ (l2 = 8 → (0 < d) ∧ (0 < d - 1) ∧ (r3 (σ 2 2)) ∧ ((σ 2 2) ≠ 0 → Q (some (.inl 0)) σ) ∧ ((σ 2 2) = 0 → (∀ S28 : SG, S28 = up σ 2 2 1 → (∀ S29 : SG, S29 = up S28 2 3 (σ 2 5) → Q (some (.inl 0)) S29)))) ∧ (l2 = 9 → (0 < d) ∧ AW (d - 1) mX5_readLoan 0 [some (.inr (.inr 4)), none, none, none, none, none, none] [] σ (fun rr σ' => AW d mX5_readStatement 136 [some (.inr (.inr 4)), some (.inl l1), some (.inl l2)] (rtS rr []) σ' Q)) ∧ (l2 = 10 → (0 < d) ∧ (0 < d - 1) ∧ (r3 (σ 2 2)) ∧ ((σ 2 2) ≠ 0 → Q (some (.inl 0)) σ) ∧ ((σ 2 2) = 0 → (∀ S31 : SG, S31 = up σ 2 2 1 → (∀ S32 : SG, S32 = up S31 2 3 (σ 2 5) → Q (some (.inl 0)) S32)))) ∧ (l2 = 11 → (0 < d) ∧ (0 < d - 1) ∧ (r3 (σ 2 2)) ∧ ((σ 2 2) ≠ 0 → Q (some (.inl 0)) σ) ∧ ((σ 2 2) = 0 → (∀ S34 : SG, S34 = up σ 2 2 1 → (∀ S35 : SG, S35 = up S34 2 3 (σ 2 5) → Q (some (.inl 0)) S35)))) ∧ (l2 = 12 → (0 < d) ∧ (0 < d - 1) ∧ (r3 (σ 2 2)) ∧ ((σ 2 2) ≠ 0 → Q (some (.inl 0)) σ) ∧ ((σ 2 2) = 0 → (∀ S37 : SG, S37 = up σ 2 2 1 → (∀ S38 : SG, S38 = up S37 2 3 (σ 2 5) → Q (some (.inl 0)) S38)))) ∧ (l2 = 13 → (0 < d) ∧ AW (d - 1) mX5_readBends 0 [some (.inr (.inr 4)), none] [] σ (fun rr σ' => AW d mX5_readStatement 141 [some (.inr (.inr 4)), some (.inl l1), some (.inl l2)] (rtS rr []) σ' Q)) ∧ (l2 = 14 → (0 < d) ∧ AW (d - 1) mX5_readEnemy 0 [some (.inr (.inr 4)), none, none, none] [] σ (fun rr σ' => AW d mX5_readStatement 146 [some (.inr (.inr 4)), some (.inl l1), some (.inl l2)] (rtS rr []) σ' Q)) ∧ True) ∧ (l2 < 0 ∨ 14 < l2 → (0 < d) ∧ (0 < d - 1) ∧ (r3 (σ 2 2)) ∧ ((σ 2 2) ≠ 0 → Q (some (.inl 0)) σ) ∧ ((σ 2 2) = 0 → (∀ S40 : SG, S40 = up σ 2 2 1 → (∀ S41 : SG, S41 = up S40 2 3 (σ 2 5) → Q (some (.inl 0)) S41))))) ∧ (s0 ≠ 0 → (0 < d) ∧ (r3 (σ 2 2)) ∧ ((σ 2 2) ≠ 0 → Q (some (.inl 0)) σ) ∧ ((σ 2 2) = 0 → (∀ S43 : SG, S43 = up σ 2 2 5 → (∀ S44 : SG, S44 = up S43 2 3 l1 → Q (some (.inl 0)) S44))))) : AW d mX5_readStatement 23 [some (.inr (.inr 4)), some (.inl l1), some (.inl l2)] [.inl s0] σ Q := AW.blk kX5_readStatement_23 cX5_readStatement_23 (⟨(h).1, ⟨fun c46 => AW.blk kX5_readStatement_36 cX5_readStatement_36 (⟨(((h).2).1 c46).1, ⟨⟨fun c48 => AW.blk kX5_readStatement_112 cX5_readStatement_112 (⟨((((((h).2).1 c46).2).1).1 c48).1, ((((((h).2).1 c46).2).1).1 c48).2⟩), ⟨fun c49 => AW.blk kX5_readStatement_147 cX5_readStatement_147 (⟨(((((((h).2).1 c46).2).1).2).1 c49).1, AW.blk kX7_failHere_0 cX7_failHere_0 (⟨((((((((h).2).1 c46).2).1).2).1 c49).2).1, AW.blk kX7_fail_0 cX7_fail_0 (⟨(((((((((h).2).1 c46).2).1).2).1 c49).2).2).1, ⟨fun c18 => AW.blk kX7_fail_17 cX7_fail_17 (⟨(by decide), ⟨(by decide), ⟨(by decide), ((((((((((h).2).1 c46).2).1).2).1 c49).2).2).2).1 c18⟩⟩⟩), fun c18 => ⟨(by decide), ⟨(by decide), ⟨(by decide), ((((((((((((h).2).1 c46).2).1).2).1 c49).2).2).2).2 c18) _ rfl) _ rfl⟩⟩⟩⟩⟩)⟩)⟩), ⟨fun c50 => AW.blk kX5_readStatement_117 cX5_readStatement_117 (⟨((((((((h).2).1 c46).2).1).2).2).1 c50).1, ((((((((h).2).1 c46).2).1).2).2).1 c50).2⟩), ⟨fun c51 => AW.blk kX5_readStatement_147 cX5_readStatement_147 (⟨(((((((((h).2).1 c46).2).1).2).2).2).1 c51).1, AW.blk kX7_failHere_0 cX7_failHere_0 (⟨((((((((((h).2).1 c46).2).1).2).2).2).1 c51).2).1, AW.blk kX7_fail_0 cX7_fail_0 (⟨(((((((((((h).2).1 c46).2).1).2).2).2).1 c51).2).2).1, ⟨fun c21 => AW.blk kX7_fail_17 cX7_fail_17 (⟨(by decide), ⟨(by decide), ⟨(by decide), ((((((((((((h).2).1 c46).2).1).2).2).2).1 c51).2).2).2).1 c21⟩⟩⟩), fun c21 => ⟨(by decide), ⟨(by decide), ⟨(by decide), ((((((((((((((h).2).1 c46).2).1).2).2).2).1 c51).2).2).2).2 c21) _ rfl) _ rfl⟩⟩⟩⟩⟩)⟩)⟩), ⟨fun c52 => AW.blk kX5_readStatement_122 cX5_readStatement_122 (⟨((((((((((h).2).1 c46).2).1).2).2).2).2).1 c52).1, ((((((((((h).2).1 c46).2).1).2).2).2).2).1 c52).2⟩), ⟨fun c53 => AW.blk kX5_readStatement_147 cX5_readStatement_147 (⟨(((((((((((h).2).1 c46).2).1).2).2).2).2).2).1 c53).1, AW.blk kX7_failHere_0 cX7_failHere_0 (⟨((((((((((((h).2).1 c46).2).1).2).2).2).2).2).1 c53).2).1, AW.blk kX7_fail_0 cX7_fail_0 (⟨(((((((((((((h).2).1 c46).2).1).2).2).2).2).2).1 c53).2).2).1, ⟨fun c24 => AW.blk kX7_fail_17 cX7_fail_17 (⟨(by decide), ⟨(by decide), ⟨(by decide), ((((((((((((((h).2).1 c46).2).1).2).2).2).2).2).1 c53).2).2).2).1 c24⟩⟩⟩), fun c24 => ⟨(by decide), ⟨(by decide), ⟨(by decide), ((((((((((((((((h).2).1 c46).2).1).2).2).2).2).2).1 c53).2).2).2).2 c24) _ rfl) _ rfl⟩⟩⟩⟩⟩)⟩)⟩), ⟨fun c54 => AW.blk kX5_readStatement_127 cX5_readStatement_127 (⟨((((((((((((h).2).1 c46).2).1).2).2).2).2).2).2).1 c54).1, ((((((((((((h).2).1 c46).2).1).2).2).2).2).2).2).1 c54).2⟩), ⟨fun c55 => AW.blk kX5_readStatement_147 cX5_readStatement_147 (⟨(((((((((((((h).2).1 c46).2).1).2).2).2).2).2).2).2).1 c55).1, AW.blk kX7_failHere_0 cX7_failHere_0 (⟨((((((((((((((h).2).1 c46).2).1).2).2).2).2).2).2).2).1 c55).2).1, AW.blk kX7_fail_0 cX7_fail_0 (⟨(((((((((((((((h).2).1 c46).2).1).2).2).2).2).2).2).2).1 c55).2).2).1, ⟨fun c27 => AW.blk kX7_fail_17 cX7_fail_17 (⟨(by decide), ⟨(by decide), ⟨(by decide), ((((((((((((((((h).2).1 c46).2).1).2).2).2).2).2).2).2).1 c55).2).2).2).1 c27⟩⟩⟩), fun c27 => ⟨(by decide), ⟨(by decide), ⟨(by decide), ((((((((((((((((((h).2).1 c46).2).1).2).2).2).2).2).2).2).1 c55).2).2).2).2 c27) _ rfl) _ rfl⟩⟩⟩⟩⟩)⟩)⟩), ⟨fun c56 => AW.blk kX5_readStatement_147 cX5_readStatement_147 (⟨((((((((((((((h).2).1 c46).2).1).2).2).2).2).2).2).2).2).1 c56).1, AW.blk kX7_failHere_0 cX7_failHere_0 (⟨(((((((((((((((h).2).1 c46).2).1).2).2).2).2).2).2).2).2).1 c56).2).1, AW.blk kX7_fail_0 cX7_fail_0 (⟨((((((((((((((((h).2).1 c46).2).1).2).2).2).2).2).2).2).2).1 c56).2).2).1, ⟨fun c30 => AW.blk kX7_fail_17 cX7_fail_17 (⟨(by decide), ⟨(by decide), ⟨(by decide), (((((((((((((((((h).2).1 c46).2).1).2).2).2).2).2).2).2).2).1 c56).2).2).2).1 c30⟩⟩⟩), fun c30 => ⟨(by decide), ⟨(by decide), ⟨(by decide), (((((((((((((((((((h).2).1 c46).2).1).2).2).2).2).2).2).2).2).1 c56).2).2).2).2 c30) _ rfl) _ rfl⟩⟩⟩⟩⟩)⟩)⟩), ⟨fun c57 => AW.blk kX5_readStatement_132 cX5_readStatement_132 (⟨(((((((((((((((h).2).1 c46).2).1).2).2).2).2).2).2).2).2).2).1 c57).1, (((((((((((((((h).2).1 c46).2).1).2).2).2).2).2).2).2).2).2).1 c57).2⟩), ⟨fun c58 => AW.blk kX5_readStatement_147 cX5_readStatement_147 (⟨((((((((((((((((h).2).1 c46).2).1).2).2).2).2).2).2).2).2).2).2).1 c58).1, AW.blk kX7_failHere_0 cX7_failHere_0 (⟨(((((((((((((((((h).2).1 c46).2).1).2).2).2).2).2).2).2).2).2).2).1 c58).2).1, AW.blk kX7_fail_0 cX7_fail_0 (⟨((((((((((((((((((h).2).1 c46).2).1).2).2).2).2).2).2).2).2).2).2).1 c58).2).2).1, ⟨fun c33 => AW.blk kX7_fail_17 cX7_fail_17 (⟨(by decide), ⟨(by decide), ⟨(by decide), (((((((((((((((((((h).2).1 c46).2).1).2).2).2).2).2).2).2).2).2).2).1 c58).2).2).2).1 c33⟩⟩⟩), fun c33 => ⟨(by decide), ⟨(by decide), ⟨(by decide), (((((((((((((((((((((h).2).1 c46).2).1).2).2).2).2).2).2).2).2).2).2).1 c58).2).2).2).2 c33) _ rfl) _ rfl⟩⟩⟩⟩⟩)⟩)⟩), ⟨fun c59 => AW.blk kX5_readStatement_147 cX5_readStatement_147 (⟨(((((((((((((((((h).2).1 c46).2).1).2).2).2).2).2).2).2).2).2).2).2).1 c59).1, AW.blk kX7_failHere_0 cX7_failHere_0 (⟨((((((((((((((((((h).2).1 c46).2).1).2).2).2).2).2).2).2).2).2).2).2).1 c59).2).1, AW.blk kX7_fail_0 cX7_fail_0 (⟨(((((((((((((((((((h).2).1 c46).2).1).2).2).2).2).2).2).2).2).2).2).2).1 c59).2).2).1, ⟨fun c36 => AW.blk kX7_fail_17 cX7_fail_17 (⟨(by decide), ⟨(by decide), ⟨(by decide), ((((((((((((((((((((h).2).1 c46).2).1).2).2).2).2).2).2).2).2).2).2).2).1 c59).2).2).2).1 c36⟩⟩⟩), fun c36 => ⟨(by decide), ⟨(by decide), ⟨(by decide), ((((((((((((((((((((((h).2).1 c46).2).1).2).2).2).2).2).2).2).2).2).2).2).1 c59).2).2).2).2 c36) _ rfl) _ rfl⟩⟩⟩⟩⟩)⟩)⟩), ⟨fun c60 => AW.blk kX5_readStatement_147 cX5_readStatement_147 (⟨((((((((((((((((((h).2).1 c46).2).1).2).2).2).2).2).2).2).2).2).2).2).2).1 c60).1, AW.blk kX7_failHere_0 cX7_failHere_0 (⟨(((((((((((((((((((h).2).1 c46).2).1).2).2).2).2).2).2).2).2).2).2).2).2).1 c60).2).1, AW.blk kX7_fail_0 cX7_fail_0 (⟨((((((((((((((((((((h).2).1 c46).2).1).2).2).2).2).2).2).2).2).2).2).2).2).1 c60).2).2).1, ⟨fun c39 => AW.blk kX7_fail_17 cX7_fail_17 (⟨(by decide), ⟨(by decide), ⟨(by decide), (((((((((((((((((((((h).2).1 c46).2).1).2).2).2).2).2).2).2).2).2).2).2).2).1 c60).2).2).2).1 c39⟩⟩⟩), fun c39 => ⟨(by decide), ⟨(by decide), ⟨(by decide), (((((((((((((((((((((((h).2).1 c46).2).1).2).2).2).2).2).2).2).2).2).2).2).2).1 c60).2).2).2).2 c39) _ rfl) _ rfl⟩⟩⟩⟩⟩)⟩)⟩), ⟨fun c61 => AW.blk kX5_readStatement_137 cX5_readStatement_137 (⟨(((((((((((((((((((h).2).1 c46).2).1).2).2).2).2).2).2).2).2).2).2).2).2).2).1 c61).1, (((((((((((((((((((h).2).1 c46).2).1).2).2).2).2).2).2).2).2).2).2).2).2).2).1 c61).2⟩), ⟨fun c62 => AW.blk kX5_readStatement_142 cX5_readStatement_142 (⟨((((((((((((((((((((h).2).1 c46).2).1).2).2).2).2).2).2).2).2).2).2).2).2).2).2).1 c62).1, ((((((((((((((((((((h).2).1 c46).2).1).2).2).2).2).2).2).2).2).2).2).2).2).2).2).1 c62).2⟩), True.intro⟩⟩⟩⟩⟩⟩⟩⟩⟩⟩⟩⟩⟩⟩⟩, fun c47 => AW.blk kX5_readStatement_147 cX5_readStatement_147 (⟨(((((h).2).1 c46).2).2 c47).1, AW.blk kX7_failHere_0 cX7_failHere_0 (⟨((((((h).2).1 c46).2).2 c47).2).1, AW.blk kX7_fail_0 cX7_fail_0 (⟨(((((((h).2).1 c46).2).2 c47).2).2).1, ⟨fun c42 => AW.blk kX7_fail_17 cX7_fail_17 (⟨(by decide), ⟨(by decide), ⟨(by decide), ((((((((h).2).1 c46).2).2 c47).2).2).2).1 c42⟩⟩⟩), fun c42 => ⟨(by decide), ⟨(by decide), ⟨(by decide), ((((((((((h).2).1 c46).2).2 c47).2).2).2).2 c42) _ rfl) _ rfl⟩⟩⟩⟩⟩)⟩)⟩)⟩⟩), fun c46 => ⟨(((h).2).2 c46).1, AW.blk kX7_fail_0 cX7_fail_0 (⟨((((h).2).2 c46).2).1, ⟨fun c45 => AW.blk kX7_fail_17 cX7_fail_17 (⟨(by decide), ⟨(by decide), (((((h).2).2 c46).2).2).1 c45⟩⟩), fun c45 => ⟨(by decide), ⟨(by decide), (((((((h).2).2 c46).2).2).2 c45) _ rfl) _ rfl⟩⟩⟩⟩)⟩⟩⟩)
def kX5_readStatement_116 : List BI := [bi (.ireturn) 1 [1] 0]
theorem cX5_readStatement_116 : chk mX5_readStatement 116 kX5_readStatement_116 = true := by decide +kernel
theorem rS_116 {d : Nat} {σ : SG} {Q : Option AV → SG → Prop} {l1 l2 s0 : Int} (h : ((s0 = 0 ∨ s0 = 1)) ∧ Q (some (.inl s0)) σ) : AW d mX5_readStatement 116 [some (.inr (.inr 4)), some (.inl l1), some (.inl l2)] [.inl s0] σ Q := AW.blk kX5_readStatement_116 cX5_readStatement_116 (⟨(h).1, (h).2⟩)
def kX5_readStatement_121 : List BI := [bi (.ireturn) 1 [1] 0]
theorem cX5_readStatement_121 : chk mX5_readStatement 121 kX5_readStatement_121 = true := by decide +kernel
theorem rS_121 {d : Nat} {σ : SG} {Q : Option AV → SG → Prop} {l1 l2 s0 : Int} (h : ((s0 = 0 ∨ s0 = 1)) ∧ Q (some (.inl s0)) σ) : AW d mX5_readStatement 121 [some (.inr (.inr 4)), some (.inl l1), some (.inl l2)] [.inl s0] σ Q := AW.blk kX5_readStatement_121 cX5_readStatement_121 (⟨(h).1, (h).2⟩)
def kX5_readStatement_126 : List BI := [bi (.ireturn) 1 [1] 0]
theorem cX5_readStatement_126 : chk mX5_readStatement 126 kX5_readStatement_126 = true := by decide +kernel
theorem rS_126 {d : Nat} {σ : SG} {Q : Option AV → SG → Prop} {l1 l2 s0 : Int} (h : ((s0 = 0 ∨ s0 = 1)) ∧ Q (some (.inl s0)) σ) : AW d mX5_readStatement 126 [some (.inr (.inr 4)), some (.inl l1), some (.inl l2)] [.inl s0] σ Q := AW.blk kX5_readStatement_126 cX5_readStatement_126 (⟨(h).1, (h).2⟩)
def kX5_readStatement_131 : List BI := [bi (.ireturn) 1 [1] 0]
theorem cX5_readStatement_131 : chk mX5_readStatement 131 kX5_readStatement_131 = true := by decide +kernel
theorem rS_131 {d : Nat} {σ : SG} {Q : Option AV → SG → Prop} {l1 l2 s0 : Int} (h : ((s0 = 0 ∨ s0 = 1)) ∧ Q (some (.inl s0)) σ) : AW d mX5_readStatement 131 [some (.inr (.inr 4)), some (.inl l1), some (.inl l2)] [.inl s0] σ Q := AW.blk kX5_readStatement_131 cX5_readStatement_131 (⟨(h).1, (h).2⟩)
def kX5_readStatement_136 : List BI := [bi (.ireturn) 1 [1] 0]
theorem cX5_readStatement_136 : chk mX5_readStatement 136 kX5_readStatement_136 = true := by decide +kernel
theorem rS_136 {d : Nat} {σ : SG} {Q : Option AV → SG → Prop} {l1 l2 s0 : Int} (h : ((s0 = 0 ∨ s0 = 1)) ∧ Q (some (.inl s0)) σ) : AW d mX5_readStatement 136 [some (.inr (.inr 4)), some (.inl l1), some (.inl l2)] [.inl s0] σ Q := AW.blk kX5_readStatement_136 cX5_readStatement_136 (⟨(h).1, (h).2⟩)
def kX5_readStatement_141 : List BI := [bi (.ireturn) 1 [1] 0]
theorem cX5_readStatement_141 : chk mX5_readStatement 141 kX5_readStatement_141 = true := by decide +kernel
theorem rS_141 {d : Nat} {σ : SG} {Q : Option AV → SG → Prop} {l1 l2 s0 : Int} (h : ((s0 = 0 ∨ s0 = 1)) ∧ Q (some (.inl s0)) σ) : AW d mX5_readStatement 141 [some (.inr (.inr 4)), some (.inl l1), some (.inl l2)] [.inl s0] σ Q := AW.blk kX5_readStatement_141 cX5_readStatement_141 (⟨(h).1, (h).2⟩)
def kX5_readStatement_146 : List BI := [bi (.ireturn) 1 [1] 0]
theorem cX5_readStatement_146 : chk mX5_readStatement 146 kX5_readStatement_146 = true := by decide +kernel
theorem rS_146 {d : Nat} {σ : SG} {Q : Option AV → SG → Prop} {l1 l2 s0 : Int} (h : ((s0 = 0 ∨ s0 = 1)) ∧ Q (some (.inl s0)) σ) : AW d mX5_readStatement 146 [some (.inr (.inr 4)), some (.inl l1), some (.inl l2)] [.inl s0] σ Q := AW.blk kX5_readStatement_146 cX5_readStatement_146 (⟨(h).1, (h).2⟩)
def kX4_clear_0 : List BI := [bi (.aload_n 0) 1 [] 0, bi (.iconst 0) 1 [] 0, bi (.putfield 9) 3 [4, 0] 0, bi (.aload_n 0) 1 [] 0, bi (.iconst 0) 1 [] 0, bi (.putfield 15) 3 [4, 1] 0, bi (.aload_n 0) 1 [] 0, bi (.iconst 0) 1 [] 0, bi (.putfield 18) 3 [4, 2] 0, bi (.aload_n 0) 1 [] 0, bi (.iconst 0) 1 [] 0, bi (.putfield 21) 3 [4, 3] 0, bi (.aload_n 0) 1 [] 0, bi (.bipush (99)) 2 [] 0, bi (.putfield 24) 3 [4, 4] 0, bi (.iconst 0) 1 [] 0, bi (.istore_n 1) 1 [] 0]
theorem cX4_clear_0 : chk mX4_clear 0 kX4_clear_0 = true := by decide +kernel
theorem rC_0 {d : Nat} {σ : SG} {Q : Option AV → SG → Prop} {r : Nat} (hr : r = 5 ∨ r = 16) (h : (∀ S63 : SG, S63 = up σ r 0 0 → (∀ S64 : SG, S64 = up S63 r 1 0 → (∀ S65 : SG, S65 = up S64 r 2 0 → (∀ S66 : SG, S66 = up S65 r 3 0 → (∀ S67 : SG, S67 = up S66 r 4 99 → AW d mX4_clear 28 [some (.inr (.inr r)), some (.inl 0)] [] S67 Q)))))) : AW d mX4_clear 0 [some (.inr (.inr r)), none] [] σ Q := by
  rcases hr with rfl | rfl <;> exact AW.blk kX4_clear_0 cX4_clear_0 ((((((h) _ rfl) _ rfl) _ rfl) _ rfl) _ rfl)
def kX4_clear_47 : List BI := [bi (.return_) 1 [] 0]
theorem cX4_clear_47 : chk mX4_clear 47 kX4_clear_47 = true := by decide +kernel
def kX4_clear_28 : List BI := [bi (.iload_n 1) 1 [] 0, bi (.bipush (6)) 2 [] 0, bi (.if_icmp .gt (16)) 3 [47] 0, bi (.aload_n 0) 1 [] 0, bi (.getfield 52) 3 [4, 13] 0, bi (.iload_n 1) 1 [] 0, bi (.iconst 0) 1 [] 0, bi (.iastore) 1 [] 0, bi (.iinc 1 (1)) 3 [] 0, bi (.goto (-16)) 3 [28] 0]
theorem cX4_clear_28 : chk mX4_clear 28 kX4_clear_28 = true := by decide +kernel
theorem rC_28 {d : Nat} {σ : SG} {Q : Option AV → SG → Prop} {l1 : Int} {r : Nat} (hr : r = 5 ∨ r = 16) (h : (r3 l1) ∧ (6 < l1 → Q none σ) ∧ (l1 ≤ 6 → (0 ≤ l1 ∧ l1 < 7) ∧ (∀ S68 : SG, S68 = up σ (r + 9) l1 0 → AW d mX4_clear 28 [some (.inr (.inr r)), some (.inl (l1 + 1))] [] S68 Q))) : AW d mX4_clear 28 [some (.inr (.inr r)), some (.inl l1)] [] σ Q := by
  rcases hr with rfl | rfl <;> exact AW.blk kX4_clear_28 cX4_clear_28 (⟨⟨(h).1, (by decide)⟩, ⟨fun c69 => AW.blk kX4_clear_47 cX4_clear_47 (((h).2).1 c69), fun c69 => ⟨⟨((((h).2).2 c69).1).1, ((((h).2).2 c69).1).2⟩, ((((h).2).2 c69).2) _ rfl⟩⟩⟩)
def kX5_read_4 : List BI := [bi (.invokevirtual 22) 3 [mX4_clear, 1, 2, 4] 0]
theorem cX5_read_4 : chk mX5_read 4 kX5_read_4 = true := by decide +kernel
def kX5_read_0 : List BI := [bi (.aload_n 0) 1 [] 0, bi (.getfield 12) 3 [5, 1] 0]
theorem cX5_read_0 : chk mX5_read 0 kX5_read_0 = true := by decide +kernel
theorem rR_0 {d : Nat} {σ : SG} {Q : Option AV → SG → Prop} {q : Nat} (hq : q = 5 ∨ q = 16) (hy : (σ 4 1).toNat = q) (h : (0 < d) ∧ AW (d - 1) mX4_clear 0 [some (.inr (.inr q)), none] [] σ (fun rr σ' => AW d mX5_read 7 [some (.inr (.inr 4)), none] (rtS rr []) σ' Q)) : AW d mX5_read 0 [some (.inr (.inr 4)), none] [] σ Q := by
  rcases hq with rfl | rfl <;> exact AW.blk kX5_read_0 cX5_read_0 (aw_rl hy (AW.blk kX5_read_4 cX5_read_4 (⟨(h).1, (h).2⟩)))
def kX5_read_7 : List BI := [bi (.aload_n 0) 1 [] 0, bi (.getfield 18) 3 [5, 0] 0, bi (.invokevirtual 25) 3 [mX7_rewind, 1, 1, 7] 0]
theorem cX5_read_7 : chk mX5_read 7 kX5_read_7 = true := by decide +kernel
theorem rR_7 {d : Nat} {σ : SG} {Q : Option AV → SG → Prop} (h : (0 < d) ∧ AW (d - 1) mX7_rewind 0 [some (.inr (.inr 2))] [] σ (fun rr σ' => AW d mX5_read 14 [some (.inr (.inr 4)), none] (rtS rr []) σ' Q)) : AW d mX5_read 7 [some (.inr (.inr 4)), none] [] σ Q := AW.blk kX5_read_7 cX5_read_7 (⟨(h).1, (h).2⟩)
def kX5_read_14 : List BI := [bi (.iconst 0) 1 [] 0, bi (.istore_n 1) 1 [] 0]
theorem cX5_read_14 : chk mX5_read 14 kX5_read_14 = true := by decide +kernel
theorem rR_14 {d : Nat} {σ : SG} {Q : Option AV → SG → Prop} (h : AW d mX5_read 16 [some (.inr (.inr 4)), some (.inl 0)] [] σ Q) : AW d mX5_read 14 [some (.inr (.inr 4)), none] [] σ Q := AW.blk kX5_read_14 cX5_read_14 (h)
def kX5_read_85 : List BI := [bi (.iconst (-1)) 1 [] 0, bi (.ireturn) 1 [] 0]
theorem cX5_read_85 : chk mX5_read 85 kX5_read_85 = true := by decide +kernel
def kX5_read_58 : List BI := [bi (.aload_n 0) 1 [] 0, bi (.invokevirtual 41) 3 [mX5_readStatement, 1, 3, 5] 0]
theorem cX5_read_58 : chk mX5_read 58 kX5_read_58 = true := by decide +kernel
def kX5_read_34 : List BI := [bi (.iload_n 1) 1 [] 0, bi (.bipush (70)) 2 [] 0, bi (.if_icmp .ne (21)) 3 [58] 0, bi (.aload_n 0) 1 [] 0, bi (.getfield 18) 3 [5, 0] 0, bi (.iconst 5) 1 [] 0, bi (.aload_n 0) 1 [] 0, bi (.getfield 18) 3 [5, 0] 0, bi (.getfield 34) 3 [7, 5] 0, bi (.invokevirtual 37) 3 [mX7_fail, 3, 3, 7] 0, bi (.pop) 1 [] 0, bi (.iconst (-1)) 1 [] 0, bi (.ireturn) 1 [] 0]
theorem cX5_read_34 : chk mX5_read 34 kX5_read_34 = true := by decide +kernel
def kX5_read_16 : List BI := [bi (.iload_n 1) 1 [] 0, bi (.bipush (70)) 2 [] 0, bi (.if_icmp .gt (66)) 3 [85] 0, bi (.aload_n 0) 1 [] 0, bi (.getfield 18) 3 [5, 0] 0, bi (.getfield 30) 3 [7, 4] 0, bi (.ifCond .ne (5)) 3 [34] 0, bi (.iload_n 1) 1 [] 0, bi (.ireturn) 1 [] 0]
theorem cX5_read_16 : chk mX5_read 16 kX5_read_16 = true := by decide +kernel
theorem rR_16 {d : Nat} {σ : SG} {Q : Option AV → SG → Prop} {l1 : Int} (h : (r3 l1) ∧ (70 < l1 → Q (some (.inl ((-1)))) σ) ∧ (l1 ≤ 70 → (r3 (σ 2 4)) ∧ ((σ 2 4) ≠ 0 → (r3 l1) ∧ (l1 ≠ 70 → (0 < d) ∧ AW (d - 1) mX5_readStatement 0 [some (.inr (.inr 4)), none, none] [] σ (fun rr σ' => AW d mX5_read 62 [some (.inr (.inr 4)), some (.inl l1)] (rtS rr []) σ' Q)) ∧ (l1 = 70 → (0 < d) ∧ (r3 (σ 2 2)) ∧ ((σ 2 2) ≠ 0 → Q (some (.inl ((-1)))) σ) ∧ ((σ 2 2) = 0 → (∀ S70 : SG, S70 = up σ 2 2 5 → (∀ S71 : SG, S71 = up S70 2 3 (σ 2 5) → Q (some (.inl ((-1)))) S71))))) ∧ ((σ 2 4) = 0 → Q (some (.inl l1)) σ))) : AW d mX5_read 16 [some (.inr (.inr 4)), some (.inl l1)] [] σ Q := AW.blk kX5_read_16 cX5_read_16 (⟨⟨(h).1, (by decide)⟩, ⟨fun c75 => AW.blk kX5_read_85 cX5_read_85 (((h).2).1 c75), fun c75 => ⟨(((h).2).2 c75).1, ⟨fun c74 => AW.blk kX5_read_34 cX5_read_34 (⟨⟨(((((h).2).2 c75).2).1 c74).1, (by decide)⟩, ⟨fun c73 => AW.blk kX5_read_58 cX5_read_58 (⟨(((((((h).2).2 c75).2).1 c74).2).1 c73).1, (((((((h).2).2 c75).2).1 c74).2).1 c73).2⟩), fun c73 => ⟨(((((((h).2).2 c75).2).1 c74).2).2 c73).1, AW.blk kX7_fail_0 cX7_fail_0 (⟨((((((((h).2).2 c75).2).1 c74).2).2 c73).2).1, ⟨fun c72 => AW.blk kX7_fail_17 cX7_fail_17 (⟨(by decide), (((((((((h).2).2 c75).2).1 c74).2).2 c73).2).2).1 c72⟩), fun c72 => ⟨(by decide), (((((((((((h).2).2 c75).2).1 c74).2).2 c73).2).2).2 c72) _ rfl) _ rfl⟩⟩⟩)⟩⟩⟩), fun c74 => ((((h).2).2 c75).2).2 c74⟩⟩⟩⟩)
def kX5_read_77 : List BI := [bi (.iconst (-1)) 1 [] 0, bi (.ireturn) 1 [] 0]
theorem cX5_read_77 : chk mX5_read 77 kX5_read_77 = true := by decide +kernel
def kX5_read_62 : List BI := [bi (.ifCond .eq (15)) 3 [77] 0, bi (.aload_n 0) 1 [] 0, bi (.getfield 18) 3 [5, 0] 0, bi (.bipush (59)) 2 [] 0, bi (.invokevirtual 45) 3 [mX7_takeSign, 2, 2, 7] 0]
theorem cX5_read_62 : chk mX5_read 62 kX5_read_62 = true := by decide +kernel
theorem rR_62 {d : Nat} {σ : SG} {Q : Option AV → SG → Prop} {l1 s0 : Int} (h : (r3 s0) ∧ (s0 = 0 → Q (some (.inl ((-1)))) σ) ∧ (s0 ≠ 0 → (0 < d) ∧ AW (d - 1) mX7_takeSign 0 [some (.inr (.inr 2)), some (.inl 59)] [] σ (fun rr σ' => AW d mX5_read 74 [some (.inr (.inr 4)), some (.inl l1)] (rtS rr []) σ' Q))) : AW d mX5_read 62 [some (.inr (.inr 4)), some (.inl l1)] [.inl s0] σ Q := AW.blk kX5_read_62 cX5_read_62 (⟨(h).1, ⟨fun c76 => AW.blk kX5_read_77 cX5_read_77 (((h).2).1 c76), fun c76 => ⟨(((h).2).2 c76).1, (((h).2).2 c76).2⟩⟩⟩)
def kX5_read_79 : List BI := [bi (.iinc 1 (1)) 3 [] 0, bi (.goto (-66)) 3 [16] 0]
theorem cX5_read_79 : chk mX5_read 79 kX5_read_79 = true := by decide +kernel
def kX5_read_74 : List BI := [bi (.ifCond .ne (5)) 3 [79] 0, bi (.iconst (-1)) 1 [] 0, bi (.ireturn) 1 [] 0]
theorem cX5_read_74 : chk mX5_read 74 kX5_read_74 = true := by decide +kernel
theorem rR_74 {d : Nat} {σ : SG} {Q : Option AV → SG → Prop} {l1 s0 : Int} (h : (r3 s0) ∧ (s0 ≠ 0 → AW d mX5_read 16 [some (.inr (.inr 4)), some (.inl (l1 + 1))] [] σ Q) ∧ (s0 = 0 → Q (some (.inl ((-1)))) σ)) : AW d mX5_read 74 [some (.inr (.inr 4)), some (.inl l1)] [.inl s0] σ Q := AW.blk kX5_read_74 cX5_read_74 (⟨(h).1, ⟨fun c77 => AW.blk kX5_read_79 cX5_read_79 (((h).2).1 c77), fun c77 => ((h).2).2 c77⟩⟩)
def kX9_statementTold_21 : List BI := [bi (.aload_n 0) 1 [] 0, bi (.aload_n 0) 1 [] 0, bi (.getfield 20) 3 [9, 11] 0, bi (.invokevirtual 217) 3 [mX9_takes, 2, 2, 9] 0]
theorem cX9_statementTold_21 : chk mX9_statementTold 21 kX9_statementTold_21 = true := by decide +kernel
def kX9_statementTold_0 : List BI := [bi (.aload_n 0) 1 [] 0, bi (.getfield 196) 3 [9, 2] 0, bi (.istore_n 1) 1 [] 0, bi (.aload_n 0) 1 [] 0, bi (.getfield 278) 3 [9, 36] 0, bi (.bipush (70)) 2 [] 0, bi (.if_icmp .ne (10)) 3 [21] 0, bi (.aload_n 0) 1 [] 0, bi (.iconst 5) 1 [] 0, bi (.iload_n 1) 1 [] 0, bi (.invokevirtual 220) 3 [mX9_fail, 3, 3, 9] 0, bi (.return_) 1 [] 0]
theorem cX9_statementTold_0 : chk mX9_statementTold 0 kX9_statementTold_0 = true := by decide +kernel
theorem uS_0 {d : Nat} {σ : SG} {Q : Option AV → SG → Prop} (h : (r3 (σ 42 36)) ∧ ((σ 42 36) ≠ 70 → (0 < d) ∧ AW (d - 1) mX9_takes 0 [some (.inr (.inr 42)), some (.inr (.inr 45))] [] σ (fun rr σ' => AW d mX9_statementTold 29 [some (.inr (.inr 42)), some (.inl (σ 42 2))] (rtS rr []) σ' Q)) ∧ ((σ 42 36) = 70 → (0 < d) ∧ (r3 (σ 42 5)) ∧ ((σ 42 5) = 0 → (∀ S78 : SG, S78 = up σ 42 5 5 → (∀ S79 : SG, S79 = up S78 42 6 (σ 42 2) → Q none S79))) ∧ ((σ 42 5) ≠ 0 → Q none σ))) : AW d mX9_statementTold 0 [some (.inr (.inr 42)), none] [] σ Q := AW.blk kX9_statementTold_0 cX9_statementTold_0 (⟨⟨(h).1, (by decide)⟩, ⟨fun c81 => AW.blk kX9_statementTold_21 cX9_statementTold_21 (⟨(((h).2).1 c81).1, (((h).2).1 c81).2⟩), fun c81 => ⟨(((h).2).2 c81).1, AW.blk kX9_fail_0 cX9_fail_0 (⟨((((h).2).2 c81).2).1, ⟨fun c80 => AW.blk kX9_fail_8 cX9_fail_8 ((((((((h).2).2 c81).2).2).1 c80) _ rfl) _ rfl), fun c80 => (((((h).2).2 c81).2).2).2 c80⟩⟩)⟩⟩⟩)
def kX9_statementTold_40 : List BI := [bi (.aload_n 0) 1 [] 0, bi (.aload_n 0) 1 [] 0, bi (.getfield 27) 3 [9, 13] 0, bi (.invokevirtual 217) 3 [mX9_takes, 2, 2, 9] 0]
theorem cX9_statementTold_40 : chk mX9_statementTold 40 kX9_statementTold_40 = true := by decide +kernel
def kX9_statementTold_29 : List BI := [bi (.ifCond .eq (11)) 3 [40] 0, bi (.aload_n 0) 1 [] 0, bi (.iload_n 1) 1 [] 0, bi (.invokevirtual 281) 3 [mX9_newTower, 2, 7, 9] 0]
theorem cX9_statementTold_29 : chk mX9_statementTold 29 kX9_statementTold_29 = true := by decide +kernel
theorem uS_29 {d : Nat} {σ : SG} {Q : Option AV → SG → Prop} {l1 s0 : Int} (h : (r3 s0) ∧ (s0 = 0 → (0 < d) ∧ AW (d - 1) mX9_takes 0 [some (.inr (.inr 42)), some (.inr (.inr 47))] [] σ (fun rr σ' => AW d mX9_statementTold 48 [some (.inr (.inr 42)), some (.inl l1)] (rtS rr []) σ' Q)) ∧ (s0 ≠ 0 → (0 < d) ∧ AW (d - 1) mX9_newTower 0 [some (.inr (.inr 42)), some (.inl l1), none, none, none, none, none] [] σ (fun rr σ' => AW d mX9_statementTold 37 [some (.inr (.inr 42)), some (.inl l1)] (rtS rr []) σ' Q))) : AW d mX9_statementTold 29 [some (.inr (.inr 42)), some (.inl l1)] [.inl s0] σ Q := AW.blk kX9_statementTold_29 cX9_statementTold_29 (⟨(h).1, ⟨fun c82 => AW.blk kX9_statementTold_40 cX9_statementTold_40 (⟨(((h).2).1 c82).1, (((h).2).1 c82).2⟩), fun c82 => ⟨(((h).2).2 c82).1, (((h).2).2 c82).2⟩⟩⟩)
def kX9_statementTold_58 : List BI := [bi (.aload_n 0) 1 [] 0, bi (.aload_n 0) 1 [] 0, bi (.getfield 33) 3 [9, 15] 0, bi (.invokevirtual 217) 3 [mX9_takes, 2, 2, 9] 0]
theorem cX9_statementTold_58 : chk mX9_statementTold 58 kX9_statementTold_58 = true := by decide +kernel
def kX9_statementTold_48 : List BI := [bi (.ifCond .eq (10)) 3 [58] 0, bi (.aload_n 0) 1 [] 0, bi (.invokevirtual 285) 3 [mX9_woodTold, 1, 3, 9] 0]
theorem cX9_statementTold_48 : chk mX9_statementTold 48 kX9_statementTold_48 = true := by decide +kernel
theorem uS_48 {d : Nat} {σ : SG} {Q : Option AV → SG → Prop} {l1 s0 : Int} (h : (r3 s0) ∧ (s0 = 0 → (0 < d) ∧ AW (d - 1) mX9_takes 0 [some (.inr (.inr 42)), some (.inr (.inr 49))] [] σ (fun rr σ' => AW d mX9_statementTold 66 [some (.inr (.inr 42)), some (.inl l1)] (rtS rr []) σ' Q)) ∧ (s0 ≠ 0 → (0 < d) ∧ AW (d - 1) mX9_woodTold 0 [some (.inr (.inr 42)), none, none] [] σ (fun rr σ' => AW d mX9_statementTold 55 [some (.inr (.inr 42)), some (.inl l1)] (rtS rr []) σ' Q))) : AW d mX9_statementTold 48 [some (.inr (.inr 42)), some (.inl l1)] [.inl s0] σ Q := AW.blk kX9_statementTold_48 cX9_statementTold_48 (⟨(h).1, ⟨fun c83 => AW.blk kX9_statementTold_58 cX9_statementTold_58 (⟨(((h).2).1 c83).1, (((h).2).1 c83).2⟩), fun c83 => ⟨(((h).2).2 c83).1, (((h).2).2 c83).2⟩⟩⟩)
def kX9_statementTold_161 : List BI := [bi (.aload_n 0) 1 [] 0, bi (.bipush (59)) 2 [] 0, bi (.invokevirtual 300) 3 [mX9_asksSign, 2, 2, 9] 0]
theorem cX9_statementTold_161 : chk mX9_statementTold 161 kX9_statementTold_161 = true := by decide +kernel
def kX9_statementTold_37 : List BI := [bi (.goto (124)) 3 [161] 0]
theorem cX9_statementTold_37 : chk mX9_statementTold 37 kX9_statementTold_37 = true := by decide +kernel
theorem uS_37 {d : Nat} {σ : SG} {Q : Option AV → SG → Prop} {l1 : Int} (h : (0 < d) ∧ AW (d - 1) mX9_asksSign 0 [some (.inr (.inr 42)), some (.inl 59)] [] σ (fun rr σ' => AW d mX9_statementTold 167 [some (.inr (.inr 42)), some (.inl l1)] (rtS rr []) σ' Q)) : AW d mX9_statementTold 37 [some (.inr (.inr 42)), some (.inl l1)] [] σ Q := AW.blk kX9_statementTold_37 cX9_statementTold_37 (AW.blk kX9_statementTold_161 cX9_statementTold_161 (⟨(h).1, (h).2⟩))
def kX9_statementTold_77 : List BI := [bi (.aload_n 0) 1 [] 0, bi (.aload_n 0) 1 [] 0, bi (.getfield 39) 3 [9, 17] 0, bi (.invokevirtual 217) 3 [mX9_takes, 2, 2, 9] 0]
theorem cX9_statementTold_77 : chk mX9_statementTold 77 kX9_statementTold_77 = true := by decide +kernel
def kX9_statementTold_66 : List BI := [bi (.ifCond .eq (11)) 3 [77] 0, bi (.aload_n 0) 1 [] 0, bi (.iload_n 1) 1 [] 0, bi (.invokevirtual 288) 3 [mX9_gapTold, 2, 4, 9] 0]
theorem cX9_statementTold_66 : chk mX9_statementTold 66 kX9_statementTold_66 = true := by decide +kernel
theorem uS_66 {d : Nat} {σ : SG} {Q : Option AV → SG → Prop} {l1 s0 : Int} (h : (r3 s0) ∧ (s0 = 0 → (0 < d) ∧ AW (d - 1) mX9_takes 0 [some (.inr (.inr 42)), some (.inr (.inr 51))] [] σ (fun rr σ' => AW d mX9_statementTold 85 [some (.inr (.inr 42)), some (.inl l1)] (rtS rr []) σ' Q)) ∧ (s0 ≠ 0 → (0 < d) ∧ AW (d - 1) mX9_gapTold 0 [some (.inr (.inr 42)), some (.inl l1), none, none] [] σ (fun rr σ' => AW d mX9_statementTold 74 [some (.inr (.inr 42)), some (.inl l1)] (rtS rr []) σ' Q))) : AW d mX9_statementTold 66 [some (.inr (.inr 42)), some (.inl l1)] [.inl s0] σ Q := AW.blk kX9_statementTold_66 cX9_statementTold_66 (⟨(h).1, ⟨fun c84 => AW.blk kX9_statementTold_77 cX9_statementTold_77 (⟨(((h).2).1 c84).1, (((h).2).1 c84).2⟩), fun c84 => ⟨(((h).2).2 c84).1, (((h).2).2 c84).2⟩⟩⟩)
def kX9_statementTold_55 : List BI := [bi (.goto (106)) 3 [161] 0]
theorem cX9_statementTold_55 : chk mX9_statementTold 55 kX9_statementTold_55 = true := by decide +kernel
theorem uS_55 {d : Nat} {σ : SG} {Q : Option AV → SG → Prop} {l1 : Int} (h : (0 < d) ∧ AW (d - 1) mX9_asksSign 0 [some (.inr (.inr 42)), some (.inl 59)] [] σ (fun rr σ' => AW d mX9_statementTold 167 [some (.inr (.inr 42)), some (.inl l1)] (rtS rr []) σ' Q)) : AW d mX9_statementTold 55 [some (.inr (.inr 42)), some (.inl l1)] [] σ Q := AW.blk kX9_statementTold_55 cX9_statementTold_55 (AW.blk kX9_statementTold_161 cX9_statementTold_161 (⟨(h).1, (h).2⟩))
def kX9_statementTold_167 : List BI := [bi (.aload_n 0) 1 [] 0, bi (.dup) 1 [] 0, bi (.getfield 278) 3 [9, 36] 0, bi (.iconst 1) 1 [] 0, bi (.iadd) 1 [] 0, bi (.putfield 278) 3 [9, 36] 0, bi (.return_) 1 [] 0]
theorem cX9_statementTold_167 : chk mX9_statementTold 167 kX9_statementTold_167 = true := by decide +kernel
theorem uS_167 {d : Nat} {σ : SG} {Q : Option AV → SG → Prop} {l1 : Int} (h : (∀ S85 : SG, S85 = up σ 42 36 ((σ 42 36) + 1) → Q none S85)) : AW d mX9_statementTold 167 [some (.inr (.inr 42)), some (.inl l1)] [] σ Q := AW.blk kX9_statementTold_167 cX9_statementTold_167 ((h) _ rfl)
def kX9_statementTold_96 : List BI := [bi (.aload_n 0) 1 [] 0, bi (.aload_n 0) 1 [] 0, bi (.getfield 48) 3 [9, 20] 0, bi (.invokevirtual 217) 3 [mX9_takes, 2, 2, 9] 0]
theorem cX9_statementTold_96 : chk mX9_statementTold 96 kX9_statementTold_96 = true := by decide +kernel
def kX9_statementTold_85 : List BI := [bi (.ifCond .eq (11)) 3 [96] 0, bi (.aload_n 0) 1 [] 0, bi (.iload_n 1) 1 [] 0, bi (.invokevirtual 291) 3 [mX9_guardTold, 2, 8, 9] 0]
theorem cX9_statementTold_85 : chk mX9_statementTold 85 kX9_statementTold_85 = true := by decide +kernel
theorem uS_85 {d : Nat} {σ : SG} {Q : Option AV → SG → Prop} {l1 s0 : Int} (h : (r3 s0) ∧ (s0 = 0 → (0 < d) ∧ AW (d - 1) mX9_takes 0 [some (.inr (.inr 42)), some (.inr (.inr 54))] [] σ (fun rr σ' => AW d mX9_statementTold 104 [some (.inr (.inr 42)), some (.inl l1)] (rtS rr []) σ' Q)) ∧ (s0 ≠ 0 → (0 < d) ∧ AW (d - 1) mX9_guardTold 0 [some (.inr (.inr 42)), some (.inl l1), none, none, none, none, none, none] [] σ (fun rr σ' => AW d mX9_statementTold 93 [some (.inr (.inr 42)), some (.inl l1)] (rtS rr []) σ' Q))) : AW d mX9_statementTold 85 [some (.inr (.inr 42)), some (.inl l1)] [.inl s0] σ Q := AW.blk kX9_statementTold_85 cX9_statementTold_85 (⟨(h).1, ⟨fun c86 => AW.blk kX9_statementTold_96 cX9_statementTold_96 (⟨(((h).2).1 c86).1, (((h).2).1 c86).2⟩), fun c86 => ⟨(((h).2).2 c86).1, (((h).2).2 c86).2⟩⟩⟩)
def kX9_statementTold_74 : List BI := [bi (.goto (87)) 3 [161] 0]
theorem cX9_statementTold_74 : chk mX9_statementTold 74 kX9_statementTold_74 = true := by decide +kernel
theorem uS_74 {d : Nat} {σ : SG} {Q : Option AV → SG → Prop} {l1 : Int} (h : (0 < d) ∧ AW (d - 1) mX9_asksSign 0 [some (.inr (.inr 42)), some (.inl 59)] [] σ (fun rr σ' => AW d mX9_statementTold 167 [some (.inr (.inr 42)), some (.inl l1)] (rtS rr []) σ' Q)) : AW d mX9_statementTold 74 [some (.inr (.inr 42)), some (.inl l1)] [] σ Q := AW.blk kX9_statementTold_74 cX9_statementTold_74 (AW.blk kX9_statementTold_161 cX9_statementTold_161 (⟨(h).1, (h).2⟩))
def kX9_statementTold_115 : List BI := [bi (.aload_n 0) 1 [] 0, bi (.aload_n 0) 1 [] 0, bi (.getfield 60) 3 [9, 24] 0, bi (.invokevirtual 217) 3 [mX9_takes, 2, 2, 9] 0]
theorem cX9_statementTold_115 : chk mX9_statementTold 115 kX9_statementTold_115 = true := by decide +kernel
def kX9_statementTold_104 : List BI := [bi (.ifCond .eq (11)) 3 [115] 0, bi (.aload_n 0) 1 [] 0, bi (.iload_n 1) 1 [] 0, bi (.invokevirtual 294) 3 [mX9_loanIsTold, 2, 8, 9] 0]
theorem cX9_statementTold_104 : chk mX9_statementTold 104 kX9_statementTold_104 = true := by decide +kernel
theorem uS_104 {d : Nat} {σ : SG} {Q : Option AV → SG → Prop} {l1 s0 : Int} (h : (r3 s0) ∧ (s0 = 0 → (0 < d) ∧ AW (d - 1) mX9_takes 0 [some (.inr (.inr 42)), some (.inr (.inr 58))] [] σ (fun rr σ' => AW d mX9_statementTold 123 [some (.inr (.inr 42)), some (.inl l1)] (rtS rr []) σ' Q)) ∧ (s0 ≠ 0 → (0 < d) ∧ AW (d - 1) mX9_loanIsTold 0 [some (.inr (.inr 42)), some (.inl l1), none, none, none, none, none, none] [] σ (fun rr σ' => AW d mX9_statementTold 112 [some (.inr (.inr 42)), some (.inl l1)] (rtS rr []) σ' Q))) : AW d mX9_statementTold 104 [some (.inr (.inr 42)), some (.inl l1)] [.inl s0] σ Q := AW.blk kX9_statementTold_104 cX9_statementTold_104 (⟨(h).1, ⟨fun c87 => AW.blk kX9_statementTold_115 cX9_statementTold_115 (⟨(((h).2).1 c87).1, (((h).2).1 c87).2⟩), fun c87 => ⟨(((h).2).2 c87).1, (((h).2).2 c87).2⟩⟩⟩)
def kX9_statementTold_93 : List BI := [bi (.goto (68)) 3 [161] 0]
theorem cX9_statementTold_93 : chk mX9_statementTold 93 kX9_statementTold_93 = true := by decide +kernel
theorem uS_93 {d : Nat} {σ : SG} {Q : Option AV → SG → Prop} {l1 : Int} (h : (0 < d) ∧ AW (d - 1) mX9_asksSign 0 [some (.inr (.inr 42)), some (.inl 59)] [] σ (fun rr σ' => AW d mX9_statementTold 167 [some (.inr (.inr 42)), some (.inl l1)] (rtS rr []) σ' Q)) : AW d mX9_statementTold 93 [some (.inr (.inr 42)), some (.inl l1)] [] σ Q := AW.blk kX9_statementTold_93 cX9_statementTold_93 (AW.blk kX9_statementTold_161 cX9_statementTold_161 (⟨(h).1, (h).2⟩))
def kX9_statementTold_142 : List BI := [bi (.aload_n 0) 1 [] 0, bi (.aload_n 0) 1 [] 0, bi (.getfield 63) 3 [9, 25] 0, bi (.invokevirtual 263) 3 [mX9_asks, 2, 2, 9] 0]
theorem cX9_statementTold_142 : chk mX9_statementTold 142 kX9_statementTold_142 = true := by decide +kernel
def kX9_statementTold_123 : List BI := [bi (.ifCond .eq (19)) 3 [142] 0, bi (.aload_n 0) 1 [] 0, bi (.getfield 91) 3 [9, 35] 0, bi (.iconst 0) 1 [] 0, bi (.aload_n 0) 1 [] 0, bi (.iconst 1) 1 [] 0, bi (.bipush (99)) 2 [] 0, bi (.invokevirtual 267) 3 [mX9_number, 3, 5, 9] 0]
theorem cX9_statementTold_123 : chk mX9_statementTold 123 kX9_statementTold_123 = true := by decide +kernel
theorem uS_123 {d : Nat} {σ : SG} {Q : Option AV → SG → Prop} {l1 s0 : Int} (h : (r3 s0) ∧ (s0 = 0 → (0 < d) ∧ AW (d - 1) mX9_asks 0 [some (.inr (.inr 42)), some (.inr (.inr 59))] [] σ (fun rr σ' => AW d mX9_statementTold 150 [some (.inr (.inr 42)), some (.inl l1)] (rtS rr []) σ' Q)) ∧ (s0 ≠ 0 → (0 < d) ∧ AW (d - 1) mX9_number 0 [some (.inr (.inr 42)), some (.inl 1), some (.inl 99), none, none] [] σ (fun rr σ' => AW d mX9_statementTold 138 [some (.inr (.inr 42)), some (.inl l1)] (rtS rr [.inl 0, .inr (.inr 68)]) σ' Q))) : AW d mX9_statementTold 123 [some (.inr (.inr 42)), some (.inl l1)] [.inl s0] σ Q := AW.blk kX9_statementTold_123 cX9_statementTold_123 (⟨(h).1, ⟨fun c88 => AW.blk kX9_statementTold_142 cX9_statementTold_142 (⟨(((h).2).1 c88).1, (((h).2).1 c88).2⟩), fun c88 => ⟨(((h).2).2 c88).1, (((h).2).2 c88).2⟩⟩⟩)
def kX9_statementTold_112 : List BI := [bi (.goto (49)) 3 [161] 0]
theorem cX9_statementTold_112 : chk mX9_statementTold 112 kX9_statementTold_112 = true := by decide +kernel
theorem uS_112 {d : Nat} {σ : SG} {Q : Option AV → SG → Prop} {l1 : Int} (h : (0 < d) ∧ AW (d - 1) mX9_asksSign 0 [some (.inr (.inr 42)), some (.inl 59)] [] σ (fun rr σ' => AW d mX9_statementTold 167 [some (.inr (.inr 42)), some (.inl l1)] (rtS rr []) σ' Q)) : AW d mX9_statementTold 112 [some (.inr (.inr 42)), some (.inl l1)] [] σ Q := AW.blk kX9_statementTold_112 cX9_statementTold_112 (AW.blk kX9_statementTold_161 cX9_statementTold_161 (⟨(h).1, (h).2⟩))
def kX9_statementTold_150 : List BI := [bi (.aload_n 0) 1 [] 0, bi (.getfield 190) 3 [9, 5] 0, bi (.ifCond .ne (7)) 3 [161] 0, bi (.aload_n 0) 1 [] 0, bi (.invokevirtual 297) 3 [mX9_enemyTold, 1, 3, 9] 0]
theorem cX9_statementTold_150 : chk mX9_statementTold 150 kX9_statementTold_150 = true := by decide +kernel
theorem uS_150 {d : Nat} {σ : SG} {Q : Option AV → SG → Prop} {l1 : Int} (h : (r3 (σ 42 5)) ∧ ((σ 42 5) ≠ 0 → (0 < d) ∧ AW (d - 1) mX9_asksSign 0 [some (.inr (.inr 42)), some (.inl 59)] [] σ (fun rr σ' => AW d mX9_statementTold 167 [some (.inr (.inr 42)), some (.inl l1)] (rtS rr []) σ' Q)) ∧ ((σ 42 5) = 0 → (0 < d) ∧ AW (d - 1) mX9_enemyTold 0 [some (.inr (.inr 42)), none, none] [] σ (fun rr σ' => AW d mX9_statementTold 161 [some (.inr (.inr 42)), some (.inl l1)] (rtS rr []) σ' Q))) : AW d mX9_statementTold 150 [some (.inr (.inr 42)), some (.inl l1)] [] σ Q := AW.blk kX9_statementTold_150 cX9_statementTold_150 (⟨(h).1, ⟨fun c89 => AW.blk kX9_statementTold_161 cX9_statementTold_161 (⟨(((h).2).1 c89).1, (((h).2).1 c89).2⟩), fun c89 => ⟨(((h).2).2 c89).1, (((h).2).2 c89).2⟩⟩⟩)
def kX9_statementTold_138 : List BI := [bi (.iastore) 1 [] 0, bi (.goto (22)) 3 [161] 0]
theorem cX9_statementTold_138 : chk mX9_statementTold 138 kX9_statementTold_138 = true := by decide +kernel
theorem uS_138 {d : Nat} {σ : SG} {Q : Option AV → SG → Prop} {l1 s0 s1 : Int} (h : (0 ≤ s1 ∧ s1 < 2) ∧ (∀ S90 : SG, S90 = up σ 68 s1 s0 → (0 < d) ∧ AW (d - 1) mX9_asksSign 0 [some (.inr (.inr 42)), some (.inl 59)] [] S90 (fun rr σ' => AW d mX9_statementTold 167 [some (.inr (.inr 42)), some (.inl l1)] (rtS rr []) σ' Q))) : AW d mX9_statementTold 138 [some (.inr (.inr 42)), some (.inl l1)] [.inl s0, .inl s1, .inr (.inr 68)] σ Q := AW.blk kX9_statementTold_138 cX9_statementTold_138 (⟨⟨((h).1).1, ((h).1).2⟩, AW.blk kX9_statementTold_161 cX9_statementTold_161 (⟨(((h).2) _ rfl).1, (((h).2) _ rfl).2⟩)⟩)
theorem uS_161 {d : Nat} {σ : SG} {Q : Option AV → SG → Prop} {l1 : Int} (h : (0 < d) ∧ AW (d - 1) mX9_asksSign 0 [some (.inr (.inr 42)), some (.inl 59)] [] σ (fun rr σ' => AW d mX9_statementTold 167 [some (.inr (.inr 42)), some (.inl l1)] (rtS rr []) σ' Q)) : AW d mX9_statementTold 161 [some (.inr (.inr 42)), some (.inl l1)] [] σ Q := AW.blk kX9_statementTold_161 cX9_statementTold_161 (⟨(h).1, (h).2⟩)
/-! a statement -/
theorem stV_0 {o : Int → Int} {L : Int} {ρ : SG} {p e s : Int} : stV o L ρ 0 p e s = if 4 ≤ ρ 0 0 then .inl (5, s) else stTw o L ρ p e := if_pos rfl
theorem stV_2 {o : Int → Int} {L : Int} {ρ : SG} {p e s : Int} : stV o L ρ 2 p e s = stWd o L ρ p e := by
  unfold stV
  rw [if_neg (by decide), if_pos rfl]
theorem stV_4 {o : Int → Int} {L : Int} {ρ : SG} {p e s : Int} : stV o L ρ 4 p e s = if 20 ≤ ρ 0 2 then .inl (5, s) else stGp o L ρ p e := by
  unfold stV
  rw [if_neg (by decide), if_neg (by decide), if_pos rfl]
theorem stV_6 {o : Int → Int} {L : Int} {ρ : SG} {p e s : Int} : stV o L ρ 6 p e s = if 8 ≤ ρ 0 1 then .inl (5, s) else stGd o L ρ p e := by
  unfold stV
  rw [if_neg (by decide), if_neg (by decide), if_neg (by decide), if_pos rfl]
theorem stV_9 {o : Int → Int} {L : Int} {ρ : SG} {p e s : Int} : stV o L ρ 9 p e s = if 12 ≤ ρ 0 3 then .inl (5, s) else stLn o L ρ p e := by
  unfold stV
  rw [if_neg (by decide), if_neg (by decide), if_neg (by decide), if_neg (by decide), if_pos rfl]
theorem stV_13 {o : Int → Int} {L : Int} {ρ : SG} {p e s : Int} : stV o L ρ 13 p e s = stBn o L ρ p e := by
  unfold stV
  rw [if_neg (by decide), if_neg (by decide), if_neg (by decide), if_neg (by decide), if_neg (by decide), if_pos rfl]
theorem stV_14 {o : Int → Int} {L : Int} {ρ : SG} {p e s : Int} : stV o L ρ 14 p e s = stEn o L ρ p e := by
  unfold stV
  rw [if_neg (by decide), if_neg (by decide), if_neg (by decide), if_neg (by decide), if_neg (by decide), if_neg (by decide), if_pos rfl]
theorem stV_n {o : Int → Int} {L : Int} {ρ : SG} {w p e s : Int} (h0 : w ≠ 0) (h2 : w ≠ 2) (h4 : w ≠ 4) (h6 : w ≠ 6) (h9 : w ≠ 9) (h13 : w ≠ 13) (h14 : w ≠ 14) : stV o L ρ w p e s = .inl (1, s) := by
  unfold stV
  rw [if_neg h0, if_neg h2, if_neg h4, if_neg h6, if_neg h9, if_neg h13, if_neg h14]
def tmC (ρ : SG) (w : Int) : Prop := (w = 0 ∧ 4 ≤ ρ 0 0) ∨ (w = 4 ∧ 20 ≤ ρ 0 2) ∨ (w = 6 ∧ 8 ≤ ρ 0 1) ∨ (w = 9 ∧ 12 ≤ ρ 0 3)
theorem ctoo {d q : Nat} {w : Int} {ρ σ : SG} {Q : Option AV → SG → Prop} (hq5 : q = 5 ∨ q = 16) (hy : (σ 4 1).toNat = q) (hR : RCl q ρ σ) (hO : ROk ρ) (hw : r3 w) (hy1 : tmC ρ w → Q (some (.inl 1)) σ) (hn : ¬ tmC ρ w → Q (some (.inl 0)) σ) : AW d mX5_tooMany 0 [some (.inr (.inr 4)), some (.inl w)] [] σ Q := by
  have hO1 := hO.1
  unfold tmC at hy1 hn
  refine rM_0 hq5 hy ?_
  rw [hR.z]
  exact ⟨hw, ⟨fun c => ⟨by omega, fun c2 => hn (by omega), fun c2 => hy1 (by omega)⟩, fun c => hn (by omega), fun c => hn (by omega), fun c => hn (by omega), fun c => ⟨by omega, fun c2 => hn (by omega), fun c2 => hy1 (by omega)⟩, fun c => hn (by omega), fun c => ⟨by omega, fun c2 => hn (by omega), fun c2 => hy1 (by omega)⟩, fun c => hn (by omega), fun c => hn (by omega), fun c => ⟨by omega, fun c2 => hn (by omega), fun c2 => hy1 (by omega)⟩, True.intro⟩, fun c => hn (by omega)⟩
theorem cstat {d q : Nat} {o : Int → Int} {L v p e : Int} {ρ σ : SG} {Q : Option AV → SG → Prop} (hq5 : q = 5 ∨ q = 16) (hy : (σ 4 1).toNat = q) (hd : 30 ≤ d) (hO : ROk ρ) (h : CTp o L (.inr (v, p, e)) σ) (hR : RCl q ρ σ) (hq0 : ∀ σ' z, stAll o L ρ p e = .inl z → CFr q σ σ' → CTp o L (.inl z) σ' → Q (some (.inl 0)) σ') (hq1 : ∀ σ' ρ' p' e', stAll o L ρ p e = .inr (ρ', p', e') → CFr q σ σ' → CTp o L (.inr (0, p', e')) σ' → RCl q ρ' σ' → ROk ρ' → Q (some (.inl 1)) σ') : AW d mX5_readStatement 0 [some (.inr (.inr 4)), none, none] [] σ Q := by
  obtain ⟨_, ⟨h2, h2'⟩, ⟨t5, t4, t6⟩, hp⟩ := h.f
  have hw := waV_r o (kd o L e (sk o L p)) (sk o L p) (te o L (sk o L p)) 0 (by decide)
  refine rS_0 ⟨by omega, cwa (i := 0) (by decide) (by omega) h ?_⟩
  rw [t5]
  change AW d mX5_readStatement 17 [some (.inr (.inr 4)), some (.inl (sk o L p)), none] [.inl (stW0 o L p e)] σ Q
  change -1 ≤ stW0 o L p e ∧ stW0 o L p e < 16 at hw
  have hV : stAll o L ρ p e = stV o L ρ (stW0 o L p e) (te o L (sk o L p)) (te o L (sk o L p)) (sk o L p) := rfl
  have hk : stW0 o L p e ≠ -1 → kd o L e (sk o L p) = 1 := by
    intro z
    unfold stW0 at z
    split at z
    · assumption
    · exact absurd rfl z
  rw [hV] at hq0 hq1
  generalize stW0 o L p e = w at *
  have bad1 : w ≠ 0 → w ≠ 2 → w ≠ 4 → w ≠ 6 → w ≠ 9 → w ≠ 13 → w ≠ 14 → Q (some (.inl 0)) (up (up σ 2 2 1) 2 3 (sk o L p)) := by
    intro a b c d' f g k
    have hf := cfail (k := 1) (pl := sk o L p) h
    exact hq0 _ _ (stV_n a b c d' f g k) (CFr.af hf.2) hf.1
  refine rS_17 ⟨by omega, ctoo hq5 hy hR hO (by omega) (fun ht => ?_) (fun ht => ?_)⟩
  · refine rS_23 ⟨by decide, fun z => absurd z (by decide), fun _ => ⟨by omega, by omega, fun z => absurd h2 z, fun _ S1 e1 S2 e2 => ?_⟩⟩
    rw [e2, e1]
    have hf := cfail (k := 5) (pl := sk o L p) h
    refine hq0 _ (5, sk o L p) ?_ (CFr.af hf.2) hf.1
    rcases ht with ⟨a, b⟩ | ⟨a, b⟩ | ⟨a, b⟩ | ⟨a, b⟩
    · rw [a, stV_0, if_pos b]
    · rw [a, stV_4, if_pos b]
    · rw [a, stV_6, if_pos b]
    · rw [a, stV_9, if_pos b]
  · unfold tmC at ht
    have b01 : ((0 : Int) = 0 ∨ (0 : Int) = 1) ∧ ((1 : Int) = 0 ∨ (1 : Int) = 1) := by decide
    refine rS_23 ?_
    rw [t5]
    refine ⟨by decide, fun _ => ⟨by omega, ⟨fun c => ⟨by omega, ?_⟩, fun c => ⟨by omega, by omega, by omega, fun z => absurd h2 z, fun _ S1 e1 S2 e2 => by rw [e2, e1]; exact bad1 (by omega) (by omega) (by omega) (by omega) (by omega) (by omega) (by omega)⟩, fun c => ⟨by omega, ?_⟩, fun c => ⟨by omega, by omega, by omega, fun z => absurd h2 z, fun _ S1 e1 S2 e2 => by rw [e2, e1]; exact bad1 (by omega) (by omega) (by omega) (by omega) (by omega) (by omega) (by omega)⟩, fun c => ⟨by omega, ?_⟩, fun c => ⟨by omega, by omega, by omega, fun z => absurd h2 z, fun _ S1 e1 S2 e2 => by rw [e2, e1]; exact bad1 (by omega) (by omega) (by omega) (by omega) (by omega) (by omega) (by omega)⟩, fun c => ⟨by omega, ?_⟩, fun c => ⟨by omega, by omega, by omega, fun z => absurd h2 z, fun _ S1 e1 S2 e2 => by rw [e2, e1]; exact bad1 (by omega) (by omega) (by omega) (by omega) (by omega) (by omega) (by omega)⟩, fun c => ⟨by omega, by omega, by omega, fun z => absurd h2 z, fun _ S1 e1 S2 e2 => by rw [e2, e1]; exact bad1 (by omega) (by omega) (by omega) (by omega) (by omega) (by omega) (by omega)⟩, fun c => ⟨by omega, ?_⟩, fun c => ⟨by omega, by omega, by omega, fun z => absurd h2 z, fun _ S1 e1 S2 e2 => by rw [e2, e1]; exact bad1 (by omega) (by omega) (by omega) (by omega) (by omega) (by omega) (by omega)⟩, fun c => ⟨by omega, by omega, by omega, fun z => absurd h2 z, fun _ S1 e1 S2 e2 => by rw [e2, e1]; exact bad1 (by omega) (by omega) (by omega) (by omega) (by omega) (by omega) (by omega)⟩, fun c => ⟨by omega, by omega, by omega, fun z => absurd h2 z, fun _ S1 e1 S2 e2 => by rw [e2, e1]; exact bad1 (by omega) (by omega) (by omega) (by omega) (by omega) (by omega) (by omega)⟩, fun c => ⟨by omega, ?_⟩, fun c => ⟨by omega, ?_⟩, True.intro⟩, fun c => ⟨by omega, by omega, by omega, fun z => absurd h2 z, fun _ S1 e1 S2 e2 => by rw [e2, e1]; exact bad1 (by omega) (by omega) (by omega) (by omega) (by omega) (by omega) (by omega)⟩⟩, fun z => absurd rfl z⟩
    · rw [c, stV_0, if_neg (by omega)] at hq0 hq1
      exact ctower hq5 hy (by omega) hO (by omega) h (hk (by omega)) hR (fun S z a b c => rS_116 ⟨b01.1, hq0 S z a b c⟩) (fun S r p' e' a b c d' f => rS_116 ⟨b01.2, hq1 S r p' e' a b c d' f⟩)
    · rw [c, stV_2] at hq0 hq1
      exact cwood hq5 hy (by omega) hO h (hk (by omega)) hR (fun S z a b c => rS_121 ⟨b01.1, hq0 S z a b c⟩) (fun S r p' e' a b c d' f => rS_121 ⟨b01.2, hq1 S r p' e' a b c d' f⟩)
    · rw [c, stV_4, if_neg (by omega)] at hq0 hq1
      exact cgap hq5 hy (by omega) hO (by omega) h (hk (by omega)) hR (fun S z a b c => rS_126 ⟨b01.1, hq0 S z a b c⟩) (fun S r p' e' a b c d' f => rS_126 ⟨b01.2, hq1 S r p' e' a b c d' f⟩)
    · rw [c, stV_6, if_neg (by omega)] at hq0 hq1
      exact cguard hq5 hy (by omega) hO (by omega) h (hk (by omega)) hR (fun S z a b c => rS_131 ⟨b01.1, hq0 S z a b c⟩) (fun S r p' e' a b c d' f => rS_131 ⟨b01.2, hq1 S r p' e' a b c d' f⟩)
    · rw [c, stV_9, if_neg (by omega)] at hq0 hq1
      exact cloan hq5 hy (by omega) hO (by omega) h (hk (by omega)) hR (fun S z a b c => rS_136 ⟨b01.1, hq0 S z a b c⟩) (fun S r p' e' a b c d' f => rS_136 ⟨b01.2, hq1 S r p' e' a b c d' f⟩)
    · rw [c, stV_13] at hq0 hq1
      exact cbends hq5 hy (by omega) hO h (hk (by omega)) hR (fun S z a b c => rS_141 ⟨b01.1, hq0 S z a b c⟩) (fun S r p' e' a b c d' f => rS_141 ⟨b01.2, hq1 S r p' e' a b c d' f⟩)
    · rw [c, stV_14] at hq0 hq1
      exact cenemy hq5 hy (by omega) hO h (hk (by omega)) hR (fun S z a b c => rS_146 ⟨b01.1, hq0 S z a b c⟩) (fun S r p' e' a b c d' f => rS_146 ⟨b01.2, hq1 S r p' e' a b c d' f⟩)
/-- a statement and its sign -/
def stS (o : Int → Int) (L : Int) (ρ : SG) (p e : Int) : SRv := match stAll o L ρ p e with
  | .inl z => .inl z
  | .inr z => match pxS o L 59 z.2.1 z.2.2 with
    | .inl y => .inl y
    | .inr y => .inr (z.1, y.2.1, y.2.2)
def rdF (o : Int → Int) (L : Int) : Nat → Int → SG → Int → Int → Sum (Int × Int) (Int × SG)
  | 0, c, ρ, p, _ => if L ≤ sk o L p then .inr (c, ρ) else .inl (5, sk o L p)
  | n + 1, c, ρ, p, e => if L ≤ sk o L p then .inr (c, ρ) else match stS o L ρ p e with
    | .inl z => .inl z
    | .inr z => rdF o L n (c + 1) z.1 z.2.1 z.2.2
theorem rdF_e {o : Int → Int} {L c p e : Int} {ρ : SG} {n : Nat} (h : L ≤ sk o L p) : rdF o L n c ρ p e = .inr (c, ρ) := by
  cases n with
  | zero => exact if_pos h
  | succ n => exact if_pos h
theorem rdF_s {o : Int → Int} {L c p e : Int} {ρ : SG} {n : Nat} (h : ¬ L ≤ sk o L p) : rdF o L (n + 1) c ρ p e = match stS o L ρ p e with
    | .inl z => .inl z
    | .inr z => rdF o L n (c + 1) z.1 z.2.1 z.2.2 := if_neg h
def rCl0 (ρ : SG) : SG := putF (rUp (rUp (rUp (rUp (rUp ρ 0 0 0) 0 1 0) 0 2 0) 0 3 0) 0 4 99) 9 (fun i => if 0 ≤ i ∧ i < 7 then 0 else ρ 9 i)
theorem rCl0_0 (ρ : SG) : rCl0 ρ 0 0 = 0 ∧ rCl0 ρ 0 1 = 0 ∧ rCl0 ρ 0 2 = 0 ∧ rCl0 ρ 0 3 = 0 ∧ rCl0 ρ 0 4 = 99 ∧ (∀ k, 0 ≤ k → k ≤ 6 → rCl0 ρ 9 k = 0) := by
  have e : rCl0 ρ 0 = upf (upf (upf (upf (upf (ρ 0) 0 0) 1 0) 2 0) 3 0) 4 99 := by
    unfold rCl0
    rw [putF_ne (by decide), rUp_at, rUp_at, rUp_at, rUp_at, rUp_at]
  rw [e]
  refine ⟨?_, ?_, ?_, ?_, ?_, fun k k0 k1 => ?_⟩
  · rw [upf_ne (by decide), upf_ne (by decide), upf_ne (by decide), upf_ne (by decide), upf_at]
  · rw [upf_ne (by decide), upf_ne (by decide), upf_ne (by decide), upf_at]
  · rw [upf_ne (by decide), upf_ne (by decide), upf_at]
  · rw [upf_ne (by decide), upf_at]
  · rw [upf_at]
  · unfold rCl0
    rw [putF_at, if_pos (by omega)]
theorem ROk.clr (ρ : SG) : ROk (rCl0 ρ) := by
  obtain ⟨a0, a1, a2, a3, a4, a9⟩ := rCl0_0 ρ
  unfold ROk
  rw [a0, a1, a2, a3, a4]
  exact ⟨⟨by decide, by decide, by decide, by decide, by decide⟩, fun t t0 t1 => by omega, fun g g0 g1 => by omega, fun k k0 k1 => by rw [a9 k k0 k1]; decide, fun i i0 i1 => by omega, fun i j i0 ij j1 => by omega, fun t t0 t1 => by omega, fun g g0 g1 => by omega⟩
theorem cclear {d q : Nat} {ρ σ : SG} {Q : Option AV → SG → Prop} (hq5 : q = 5 ∨ q = 16) (hR : RCl q ρ σ) (hq : ∀ σ', (∀ p, ¬ (q ≤ p ∧ p ≤ q + 10) → σ' p = σ p) → RCl q (rCl0 ρ) σ' → Q none σ') : AW d mX4_clear 0 [some (.inr (.inr q)), none] [] σ Q := by
  refine rC_0 hq5 (fun S1 e1 S2 e2 S3 e3 S4 e4 S5 e5 => ?_)
  have hR5 : RCl q (rUp (rUp (rUp (rUp (rUp ρ 0 0 0) 0 1 0) 0 2 0) 0 3 0) 0 4 99) S5 := by
    rw [e5, e4, e3, e2, e1]
    exact ((((hR.up (a := 0) (by decide)).up (a := 0) (by decide)).up (a := 0) (by decide)).up (a := 0) (by decide)).up (a := 0) (by decide)
  have hF : ∀ p, p ≠ q → S5 p = σ p := fun p hp => by rw [e5, up_pf hp, e4, up_pf hp, e3, up_pf hp, e2, up_pf hp, e1, up_pf hp]
  have h9 : S5 (q + 9) = ρ 9 := by
    rw [hF _ (by omega)]
    exact hR 9 (by decide)
  have loop := downInd (P := fun i => ∀ g, (∀ j, g j = if 0 ≤ j ∧ j < i then 0 else ρ 9 j) → AW d mX4_clear 28 [some (.inr (.inr q)), some (.inl i)] [] (putF S5 (q + 9) g) Q) (lo := 0) (hi := 7) (by decide) ?_ ?_ (ρ 9) (fun j => by rw [if_neg (by omega)])
  · rw [← h9, putF_self] at loop
    exact loop
  · intro g hg
    refine rC_28 hq5 ⟨by decide, fun _ => hq _ (fun p hp => ?_) (fun j hj => ?_), fun z => by omega⟩
    · rw [putF_ne (by omega), hF p (by omega)]
    · unfold rCl0
      by_cases c : j = 9
      · rw [c, putF_at, putF_at]
        funext j
        exact hg j
      · rw [putF_ne (by omega), putF_ne c]
        exact hR5 j hj
  · intro i i0 i1 ih g hg
    refine rC_28 hq5 ⟨by omega, fun z => by omega, fun _ => ⟨by omega, fun S eS => ?_⟩⟩
    rw [eS, putF_up]
    refine ih _ (fun j => ?_)
    by_cases c1 : j = i
    · rw [if_pos c1, if_pos (by omega)]
    · rw [if_neg c1, hg j]
      by_cases c2 : 0 ≤ j ∧ j < i
      · rw [if_pos c2, if_pos (by omega)]
      · rw [if_neg c2, if_neg (by omega)]
theorem cread {d q : Nat} {o : Int → Int} {L : Int} {ρ σ : SG} {Q : Option AV → SG → Prop} (hq5 : q = 5 ∨ q = 16) (hy : (σ 4 1).toNat = q) (hd : 40 ≤ d) (h3 : σ 3 = o) (h1 : σ 2 1 = L) (hL : 0 ≤ L ∧ L ≤ 1600) (ho : OCT o) (hR : RCl q ρ σ) (hq0 : ∀ σ' z, rdF o L 70 0 (rCl0 ρ) 0 (-1) = .inl z → CFr q σ σ' → CTp o L (.inl z) σ' → Q (some (.inl (-1))) σ') (hq1 : ∀ σ' c ρ' p e, rdF o L 70 0 (rCl0 ρ) 0 (-1) = .inr (c, ρ') → (0 ≤ c ∧ c ≤ 70) → CFr q σ σ' → CTp o L (.inr (0, p, e)) σ' → RCl q ρ' σ' → ROk ρ' → Q (some (.inl c)) σ') : AW d mX5_read 0 [some (.inr (.inr 4)), none] [] σ Q := by
  refine rR_0 hq5 hy ⟨by omega, cclear hq5 hR (fun S0 hF0 hR0 => ?_)⟩
  have hF0' : CFr q σ S0 := fun p _ hp => hF0 p hp
  refine rR_7 ⟨by omega, crewind (o := o) (L := L) (by omega) (by rw [hF0 3 (by omega)]; exact h3) (by rw [hF0 2 (by omega)]; exact h1) hL ho (fun S1 hA1 hC1 => ?_)⟩
  refine rR_14 ?_
  have key : ∀ (n : Nat) (c : Int) (ρ' : SG) (p e : Int) (S : SG), c = 70 - (n : Int) → 0 ≤ c → CFr q σ S → CTp o L (.inr (0, p, e)) S → RCl q ρ' S → ROk ρ' → rdF o L 70 0 (rCl0 ρ) 0 (-1) = rdF o L n c ρ' p e → AW d mX5_read 16 [some (.inr (.inr 4)), some (.inl c)] [] S Q := by
    intro n
    induction n with
    | zero =>
      intro c ρ' p e S hc hc0 hF hC hR hO hE
      obtain ⟨_, ⟨h2, h2'⟩, ⟨t5, t4, t6⟩, hp⟩ := hC.f
      have ht := tok (o := o) (L := L) e hp.1 hp.2
      refine rR_16 ?_
      rw [t4, t5]
      refine ⟨by omega, fun z => by omega, fun _ => ⟨by omega, fun c1 => ⟨by omega, fun z => by omega, fun _ => ⟨by omega, by omega, fun z => absurd h2 z, fun _ S1 e1 S2 e2 => ?_⟩⟩, fun c1 => ?_⟩⟩
      · have hf := cfail (k := 5) (pl := sk o L p) hC
        rw [e2, e1]
        refine hq0 _ (5, sk o L p) ?_ (hF.tr (CFr.af hf.2)) hf.1
        rw [hE]
        exact if_neg (fun z => c1 (ht.2.2.1.mpr z))
      · refine hq1 S c ρ' p e ?_ (by omega) hF hC hR hO
        rw [hE]
        exact rdF_e (ht.2.2.1.mp c1)
    | succ n ih =>
      intro c ρ' p e S hc hc0 hF hC hR hO hE
      obtain ⟨_, ⟨h2, h2'⟩, ⟨t5, t4, t6⟩, hp⟩ := hC.f
      have ht := tok (o := o) (L := L) e hp.1 hp.2
      refine rR_16 ?_
      rw [t4, t5]
      refine ⟨by omega, fun z => by omega, fun _ => ⟨by omega, fun c1 => ⟨by omega, fun _ => ⟨by omega, ?_⟩, fun z => by omega⟩, fun c1 => ?_⟩⟩
      · rw [rdF_s (fun z => c1 (ht.2.2.1.mpr z))] at hE
        refine cstat hq5 (hF.y hq5 hy) (by omega) hO hC hR (fun T z hz hFT hCT => ?_) (fun T r p' e' hz hFT hCT hRT hOT => ?_)
        · refine rR_62 ⟨by decide, fun _ => hq0 T z ?_ (hF.tr hFT) hCT, fun z => absurd rfl z⟩
          rw [hE]
          unfold stS
          rw [hz]
        · refine rR_62 ⟨by decide, fun z => absurd z (by decide), fun _ => ⟨by omega, csign (by omega) (by decide) hCT (fun U hAU hCU => ?_)⟩⟩
          rcases hX : pxS o L 59 p' e' with z | ⟨v2, p2, e2⟩
          · rw [hX] at hCU
            refine rR_74 ⟨(by decide : r3 0), fun z => absurd rfl z, fun _ => hq0 U z ?_ ((hF.tr hFT).tr (CFr.af hAU)) hCU⟩
            rw [hE]
            unfold stS
            rw [hz]
            dsimp only
            rw [hX]
          · rw [hX] at hCU
            refine rR_74 ⟨(by decide : r3 1), fun _ => ?_, fun z => absurd (show (1 : Int) = 0 from z) (by decide)⟩
            refine ih (c + 1) r p2 e2 U (by omega) (by omega) ((hF.tr hFT).tr (CFr.af hAU)) hCU.v (hRT.af hq5 hAU) hOT ?_
            rw [hE]
            unfold stS
            rw [hz]
            dsimp only
            rw [hX]
      · refine hq1 S c ρ' p e ?_ (by omega) hF hC hR hO
        rw [hE]
        exact rdF_e (ht.2.2.1.mp c1)
  exact key 70 0 (rCl0 ρ) 0 (-1) S1 (by decide) (by decide) (hF0'.tr (CFr.af hA1)) hC1 (hR0.af hq5 hA1) (ROk.clr ρ) rfl
/-! the reference -/
theorem pxW_w {o : Int → Int} {L p e : Int} {i : Nat} (hi : i < 16) : pxW o L (WC (45 + i)) p e = if stW0 o L p e = (i : Int) then .inr (0, te o L (sk o L p), te o L (sk o L p)) else .inl (1, sk o L p) := by
  have hiff : stW0 o L p e = (i : Int) ↔ (kd o L e (sk o L p) = 1 ∧ weq o (WC (45 + i)) (sk o L p) (te o L (sk o L p)) = true) := by
    unfold stW0
    rw [← WL_0 i hi, ← fstW_at (WL_nd 0 (by decide)) (show i < (WL 0).length from hi)]
    split
    · rename_i c
      exact ⟨fun z => ⟨c, z⟩, fun z => z.2⟩
    · rename_i c
      exact ⟨fun z => by omega, fun z => absurd z.1 c⟩
  unfold pxW
  by_cases c : kd o L e (sk o L p) = 1 ∧ weq o (WC (45 + i)) (sk o L p) (te o L (sk o L p)) = true
  · rw [if_pos c, if_pos (hiff.mpr c)]
  · rw [if_neg c, if_neg (fun z => c (hiff.mp z))]
theorem MSp.mf {o : Int → Int} {L : Int} {ρ σ σ' : SG} {p e v : Int} (h : PRl ρ σ) (hO : ROk ρ) (k : MFr σ σ') (hR : RTp o L (.inr (v, p, e)) σ') : MSp o L (.inr (ρ, p, e)) σ' := ⟨hR.v, h.mf k, hO⟩
theorem mstat {d : Nat} {o : Int → Int} {L v p e c : Int} {ρ σ : SG} {Q : Option AV → SG → Prop} (hP : PRl ρ σ) (hO : ROk ρ) (hd : 30 ≤ d) (h : RTp o L (.inr (v, p, e)) σ) (hat : σ 42 2 = sk o L p) (h36 : σ 42 36 = c) (hc : 0 ≤ c ∧ c ≤ 70) (hq70 : c = 70 → ∀ σ', MSf σ σ' → RTp o L (.inl (5, sk o L p)) σ' → Q none σ') (hq : c ≠ 70 → ∀ σ', MSf (up σ 42 36 (c + 1)) σ' → MSp o L (stS o L ρ p e) σ' → Q none σ') : AW d mX9_statementTold 0 [some (.inr (.inr 42)), none] [] σ Q := by
  have h5 := rt0 h
  have hw := waV_r o (kd o L e (sk o L p)) (sk o L p) (te o L (sk o L p)) 0 (by decide)
  change -1 ≤ stW0 o L p e ∧ stW0 o L p e < 16 at hw
  by_cases c70 : c = 70
  · refine uS_0 ?_
    rw [h36, hat]
    refine ⟨by omega, fun z => absurd c70 z, fun _ => ⟨by omega, by omega, fun _ S1 e1 S2 e2 => ?_, fun z => absurd h5 z⟩⟩
    have hf := mfail (k := 5) (pl := sk o L p) h (by decide)
    rw [e2, e1]
    exact hq70 c70 _ (MSf.of hf.2) hf.1
  · have hq := hq c70
    clear hq70
    -- the sign, and the count
    have fin : ∀ T X, MSf σ T → X = stAll o L ρ p e → MSp o L X T → AW (d - 1) mX9_asksSign 0 [some (.inr (.inr 42)), some (.inl 59)] [] T (fun rr σ' => AW d mX9_statementTold 167 [some (.inr (.inr 42)), some (.inl (sk o L p))] (rtS rr []) σ' Q) := by
      intro T X hT hX hM
      have last : ∀ U, MFr T U → MSp o L (stS o L ρ p e) U → AW d mX9_statementTold 167 [some (.inr (.inr 42)), some (.inl (sk o L p))] [] U Q := by
        intro U hU hMU
        refine uS_167 (fun V eV => ?_)
        have u36 : U 42 36 = c := by rw [hU.2 36 (by decide) (by decide) (by decide) (by decide) (by decide) (by decide), hT.2.1 36 (by decide) (by decide) (by decide) (by decide) (by decide) (by decide)]; exact h36
        rw [u36] at eV
        refine hq V ?_ ?_
        · have hTU := hT.tr (MSf.of hU)
          rw [eV]
          obtain ⟨a1, a2, a3, a4, a5, a6, a7, a8⟩ := hTU
          refine ⟨fun p a b => ?_, fun i b1 b2 b3 b4 b5 b6 => ?_, fun i hi => ?_, fun i hi => ?_, fun i hi => ?_, fun i hi => ?_, fun i hi => ?_, ?_⟩
          · rw [up_pf a, up_pf a]
            exact a1 p a b
          · by_cases c36 : i = 36
            · rw [c36, up_at, up_at]
            · rw [up_i c36, up_i c36]
              exact a2 i b1 b2 b3 b4 b5 b6
          · rw [up_p (by decide), up_p (by decide)]
            exact a3 i hi
          · rw [up_p (by decide), up_p (by decide)]
            exact a4 i hi
          · rw [up_p (by decide), up_p (by decide)]
            exact a5 i hi
          · rw [up_p (by decide), up_p (by decide)]
            exact a6 i hi
          · rw [up_p (by decide), up_p (by decide)]
            exact a7 i hi
          · rw [up_p (by decide), up_p (by decide)]
            exact a8
        · rw [eV]
          have hpl : ∀ X, RTp o L X U → RTp o L X (up U 42 36 (c + 1)) := fun X hx => hx.pl (fun i hi => up_i hi) (fun q hq => up_pf (by unfold WP at hq; omega))
          rcases hs : stS o L ρ p e with z | z
          · rw [hs] at hMU
            exact hpl (.inl z) hMU
          · rw [hs] at hMU
            exact ⟨hpl _ hMU.1, hMU.2.1.fr (fun p a b => up_pf (by omega)), hMU.2.2⟩
      rcases X with z | ⟨r, p1, e1⟩
      · have hs : stS o L ρ p e = .inl z := by unfold stS; rw [← hX]
        refine masksS (by decide) (by decide) (by omega) (show RTp o L (.inl z) T from hM) (fun U hU hR => last U hU ?_)
        rw [hs]
        exact hR
      · refine masksS (by decide) (by decide) (by omega) (show RTp o L (.inr (0, p1, e1)) T from hM.1) (fun U hU hR => last U hU ?_)
        have hs : stS o L ρ p e = match pxS o L 59 p1 e1 with
          | .inl y => .inl y
          | .inr y => .inr (r, y.2.1, y.2.2) := by unfold stS; rw [← hX]
        rw [hs]
        change RTp o L (pxS o L 59 p1 e1) U at hR
        rcases hS : pxS o L 59 p1 e1 with y | ⟨v2, p2, e2⟩
        · rw [hS] at hR
          exact hR
        · rw [hS] at hR
          exact MSp.mf hM.2.1 hM.2.2 hU hR
    have hV : stAll o L ρ p e = stV o L ρ (stW0 o L p e) (te o L (sk o L p)) (te o L (sk o L p)) (sk o L p) := rfl
    rw [hV] at fin
    have pw := fun (i : Nat) (hi : i < 16) => @pxW_w o L p e i hi
    generalize hte : te o L (sk o L p) = t at *
    generalize hww : stW0 o L p e = w at *
    have no : ∀ (i : Nat), i < 16 → pxW o L (WC (45 + i)) p e = .inl (1, sk o L p) → w ≠ (i : Int) := by
      intro i hi hz hw
      rw [pw i hi, if_pos hw] at hz
      cases hz
    have yes : ∀ (i : Nat) z, i < 16 → pxW o L (WC (45 + i)) p e = .inr z → w = (i : Int) ∧ z = (0, t, t) := by
      intro i z hi hz
      rw [pw i hi] at hz
      by_cases c : w = (i : Int)
      · rw [if_pos c] at hz
        cases hz
        exact ⟨c, rfl⟩
      · rw [if_neg c] at hz
        cases hz
    refine uS_0 ?_
    rw [h36, hat]
    refine ⟨by omega, fun _ => ⟨by omega, mtakesW (w := 45) (Or.inl (by decide)) (by omega) h (fun S z hz hM hR => ?_) (fun S0 hz0 hM0 hR0 _ => ?_)⟩, fun z => absurd z c70⟩
    · obtain ⟨w1, z1⟩ := yes 0 z (by decide) hz
      subst z1
      refine uS_29 ⟨by decide, fun z => absurd z (by decide), fun _ => ⟨by omega, mtower (hP.mf hM) hO (by omega) hR (fun T hT hX => uS_37 ⟨by omega, fin T _ ((MSf.of hM).tr hT) ?_ hX⟩)⟩⟩
      rw [w1]
      exact stV_0.symm
    refine uS_29 ⟨by decide, fun _ => ⟨by omega, mtakesW (w := 47) (Or.inl (by decide)) (by omega) hR0 (fun S z hz hM' hR => ?_) (fun S2 hz2 hM2' hR2 _ => ?_)⟩, fun z => absurd rfl z⟩
    · obtain ⟨w1, z1⟩ := yes 2 z (by decide) hz
      have hM := hM0.tr hM'
      subst z1
      refine uS_48 ⟨by decide, fun z => absurd z (by decide), fun _ => ⟨by omega, mwood (hP.mf hM) hO (by omega) hR (fun T hT hX => uS_55 ⟨by omega, fin T _ ((MSf.of hM).tr hT) ?_ hX⟩)⟩⟩
      rw [w1]
      exact stV_2.symm
    have hM2 := hM0.tr hM2'
    refine uS_48 ⟨by decide, fun _ => ⟨by omega, mtakesW (w := 49) (Or.inl (by decide)) (by omega) hR2 (fun S z hz hM' hR => ?_) (fun S4 hz4 hM4' hR4 _ => ?_)⟩, fun z => absurd rfl z⟩
    · obtain ⟨w1, z1⟩ := yes 4 z (by decide) hz
      have hM := hM2.tr hM'
      subst z1
      refine uS_66 ⟨by decide, fun z => absurd z (by decide), fun _ => ⟨by omega, mgap (hP.mf hM) hO (by omega) hR (fun T hT hX => uS_74 ⟨by omega, fin T _ ((MSf.of hM).tr hT) ?_ hX⟩)⟩⟩
      rw [w1]
      exact stV_4.symm
    have hM4 := hM2.tr hM4'
    refine uS_66 ⟨by decide, fun _ => ⟨by omega, mtakesW (w := 51) (Or.inl (by decide)) (by omega) hR4 (fun S z hz hM' hR => ?_) (fun S6 hz6 hM6' hR6 _ => ?_)⟩, fun z => absurd rfl z⟩
    · obtain ⟨w1, z1⟩ := yes 6 z (by decide) hz
      have hM := hM4.tr hM'
      subst z1
      refine uS_85 ⟨by decide, fun z => absurd z (by decide), fun _ => ⟨by omega, mguard (hP.mf hM) hO (by omega) hR (fun T hT hX => uS_93 ⟨by omega, fin T _ ((MSf.of hM).tr hT) ?_ hX⟩)⟩⟩
      rw [w1]
      exact stV_6.symm
    have hM6 := hM4.tr hM6'
    refine uS_85 ⟨by decide, fun _ => ⟨by omega, mtakesW (w := 54) (Or.inl (by decide)) (by omega) hR6 (fun S z hz hM' hR => ?_) (fun S9 hz9 hM9' hR9 _ => ?_)⟩, fun z => absurd rfl z⟩
    · obtain ⟨w1, z1⟩ := yes 9 z (by decide) hz
      have hM := hM6.tr hM'
      subst z1
      refine uS_104 ⟨by decide, fun z => absurd z (by decide), fun _ => ⟨by omega, mloan (hP.mf hM) hO (by omega) hR (fun T hT hX => uS_112 ⟨by omega, fin T _ ((MSf.of hM).tr hT) ?_ hX⟩)⟩⟩
      rw [w1]
      exact stV_9.symm
    have hM9 := hM6.tr hM9'
    refine uS_104 ⟨by decide, fun _ => ⟨by omega, mtakesW (w := 58) (Or.inl (by decide)) (by omega) hR9 (fun S z hz hM' hR => ?_) (fun S13 hz13 hM13' hR13 _ => ?_)⟩, fun z => absurd rfl z⟩
    · obtain ⟨w1, z1⟩ := yes 13 z (by decide) hz
      have hM := hM9.tr hM'
      subst z1
      refine uS_123 ⟨by decide, fun z => absurd z (by decide), fun _ => ⟨by omega, mnumW (by decide) (by decide) (by omega) hR (fun T v1 hT hRT hv1 hz1 => ?_)⟩⟩
      change RTp o L (pxN o L 1 99 t t) T at hRT
      refine uS_138 ⟨by decide, fun U eU => ⟨by omega, fin U (stBn o L ρ t t) ?_ ?_ ?_⟩⟩
      · rw [eU]
        exact (MSf.of (hM.tr hT)).up (Or.inr (Or.inr (Or.inr (Or.inr (Or.inr (Or.inr (Or.inr ⟨rfl, rfl⟩)))))))
      · rw [w1]
        exact stV_13.symm
      · rcases hX : pxN o L 1 99 t t with z | ⟨b, p1, e1⟩
        · have hB : stBn o L ρ t t = .inl z := by unfold stBn; rw [hX]; rfl
          rw [hX] at hRT
          rw [hB, eU]
          exact hRT.up (by decide)
        · have hB : stBn o L ρ t t = .inr (rUp ρ 0 4 b, p1, e1) := by unfold stBn; rw [hX]; rfl
          have hb : v1 = b := (hz1 _ _ rfl hX).1
          have hr := pxN_r hX
          rw [hX] at hRT
          rw [hB, eU, hb]
          exact ⟨hRT.v.up (by decide), PRl.bn (hP.mf (hM.tr hT)) (by rw [up_rw, putF_at]) (fun q a b c => up_pf c), hO.bn hr⟩
    have hM13 := hM9.tr hM13'
    refine uS_123 ⟨by decide, fun _ => ⟨by omega, masksW (w := 59) (Or.inl (by decide)) (by omega) hR13 (fun S hM' hR => ?_)⟩, fun z => absurd rfl z⟩
    have hM := hM13.tr hM'
    change RTp o L (pxW o L (WC (45 + 14)) p e) S at hR
    have n0 := no 0 (by decide) hz0
    have n2 := no 2 (by decide) hz2
    have n4 := no 4 (by decide) hz4
    have n6 := no 6 (by decide) hz6
    have n9 := no 9 (by decide) hz9
    have n13 := no 13 (by decide) hz13
    rcases hX : pxW o L (WC (45 + 14)) p e with z | z
    · have h14 : w ≠ 14 := by
        intro hw
        rw [pw 14 (by decide), if_pos (show w = ((14 : Nat) : Int) from hw)] at hX
        cases hX
      have hz : z = (1, sk o L p) := by
        rw [pw 14 (by decide), if_neg (show ¬ w = ((14 : Nat) : Int) from h14)] at hX
        cases hX
        rfl
      subst hz
      rw [hX] at hR
      have hb := rt1 hR
      refine uS_150 ⟨by omega, fun _ => ⟨by omega, fin S (.inl (1, sk o L p)) (MSf.of hM) ?_ hR⟩, fun z => by omega⟩
      exact (stV_n n0 n2 n4 n6 n9 n13 h14).symm
    · obtain ⟨w1, z1⟩ := yes 14 z (by decide) hX
      subst z1
      rw [hX] at hR
      have hb := rt0 hR
      refine uS_150 ⟨by omega, fun z => absurd hb z, fun _ => ⟨by omega, menemy (hP.mf hM) hO (by omega) hR (fun T hT hX => uS_161 ⟨by omega, fin T _ ((MSf.of hM).tr hT) ?_ hX⟩)⟩⟩
      rw [w1]
      exact stV_14.symm
