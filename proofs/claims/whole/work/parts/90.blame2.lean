/-! ===== blame (wip/whole/gen90.py) ===== -/
def kX8_blame_17 : List BI := [bi (.iconst (-1)) 1 [] 0, bi (.ireturn) 1 [] 0]
theorem cX8_blame_17 : chk mX8_blame 17 kX8_blame_17 = true := by decide +kernel
def kX8_blame_74 : List BI := [bi (.aload_n 0) 1 [] 0, bi (.getfield 35) 3 [8, 3] 0, bi (.aload_n 0) 1 [] 0, bi (.getfield 42) 3 [8, 4] 0, bi (.iload_n 3) 1 [] 0, bi (.iload 4) 2 [] 0, bi (.invokevirtual 263) 3 [mX2_forLoansBack, 4, 8, 2] 0]
theorem cX8_blame_74 : chk mX8_blame 74 kX8_blame_74 = true := by decide +kernel
def kX8_blame_44 : List BI := [bi (.getfield 196) 3 [4, 11] 0, bi (.iload_n 1) 1 [] 0, bi (.iaload) 1 [] 0, bi (.istore 5) 2 [] 0, bi (.aload_n 0) 1 [] 0, bi (.getfield 42) 3 [8, 4] 0, bi (.iload_n 3) 1 [] 0, bi (.invokevirtual 148) 3 [mX6_standing, 2, 2, 6] 0, bi (.iload 4) 2 [] 0, bi (.iload 5) 2 [] 0, bi (.iconst 0) 1 [] 0, bi (.invokestatic 237) 3 [mX8_climb, 4, 6] 0, bi (.iload 4) 2 [] 0, bi (.if_icmp .ne (5)) 3 [74] 0, bi (.iconst (-1)) 1 [] 0, bi (.ireturn) 1 [] 0]
theorem cX8_blame_44 : chk mX8_blame 44 kX8_blame_44 = true := by decide +kernel
def kX8_blame_33 : List BI := [bi (.getfield 142) 3 [4, 6] 0, bi (.iload_n 3) 1 [] 0, bi (.iaload) 1 [] 0, bi (.istore 4) 2 [] 0, bi (.aload_n 0) 1 [] 0, bi (.getfield 70) 3 [8, 9] 0]
theorem cX8_blame_33 : chk mX8_blame 33 kX8_blame_33 = true := by decide +kernel
def kX8_blame_23 : List BI := [bi (.getfield 193) 3 [4, 10] 0, bi (.iload_n 1) 1 [] 0, bi (.iaload) 1 [] 0, bi (.istore_n 3) 1 [] 0, bi (.aload_n 0) 1 [] 0, bi (.getfield 70) 3 [8, 9] 0]
theorem cX8_blame_23 : chk mX8_blame 23 kX8_blame_23 = true := by decide +kernel
def kX8_blame_19 : List BI := [bi (.aload_n 0) 1 [] 0, bi (.getfield 70) 3 [8, 9] 0]
theorem cX8_blame_19 : chk mX8_blame 19 kX8_blame_19 = true := by decide +kernel
def kX8_blame_0 : List BI := [bi (.aload_n 0) 1 [] 0, bi (.iload_n 1) 1 [] 0, bi (.invokevirtual 139) 3 [mX8_isGuard, 2, 2, 8] 0, bi (.ifCond .eq (12)) 3 [17] 0, bi (.iload_n 2) 1 [] 0, bi (.ifCond .lt (8)) 3 [17] 0, bi (.iload_n 2) 1 [] 0, bi (.iconst 2) 1 [] 0, bi (.if_icmp .le (5)) 3 [19] 0, bi (.iconst (-1)) 1 [] 0, bi (.ireturn) 1 [] 0]
theorem cX8_blame_0 : chk mX8_blame 0 kX8_blame_0 = true := by decide +kernel
theorem xbl_0 {d : Nat} {σ : SG} {Q : Option AV → SG → Prop} {g w : Int} {r : Nat} (hr : r = 5 ∨ r = 16) (hx : (σ 0 9).toNat = r) (h : (0 < d) ∧ (r3 g) ∧ (g < 0 → Q (some (.inl ((-1)))) σ) ∧ (0 ≤ g → (r3 g ∧ r3 (σ r 1)) ∧ ((σ r 1) ≤ g → Q (some (.inl ((-1)))) σ) ∧ (g < (σ r 1) → (r3 w) ∧ (w < 0 → Q (some (.inl ((-1)))) σ) ∧ (0 ≤ w → (r3 w) ∧ (w ≤ 2 → (0 ≤ g ∧ g < 8) ∧ (0 ≤ (σ (r + 6) g) ∧ (σ (r + 6) g) < 4) ∧ (0 ≤ g ∧ g < 8) ∧ (0 < d) ∧ (0 ≤ (6 + (σ (r + 6) g)) ∧ (6 + (σ (r + 6) g)) < 214) ∧ (0 ≤ (18 + (σ (r + 6) g)) ∧ (18 + (σ (r + 6) g)) < 214) ∧ (0 < d) ∧ (clsO (d - 1) (bor (σ 35 (6 + (σ (r + 6) g))) (σ 35 (18 + (σ (r + 6) g)))) (σ (r + 2) (σ (r + 6) g)) (σ (r + 7) g) 0) ∧ (r3 (climbV (bor (σ 35 (6 + (σ (r + 6) g))) (σ 35 (18 + (σ (r + 6) g)))) (σ (r + 2) (σ (r + 6) g)) (σ (r + 7) g) 0) ∧ r3 (σ (r + 2) (σ (r + 6) g))) ∧ ((climbV (bor (σ 35 (6 + (σ (r + 6) g))) (σ 35 (18 + (σ (r + 6) g)))) (σ (r + 2) (σ (r + 6) g)) (σ (r + 7) g) 0) ≠ (σ (r + 2) (σ (r + 6) g)) → (0 < d) ∧ AW (d - 1) mX2_forLoansBack 0 [some (.inr (.inr 30)), some (.inr (.inr 34)), some (.inl (σ (r + 6) g)), some (.inl (σ (r + 2) (σ (r + 6) g))), none, none, none, none] [] σ (fun rr σ' => AW d mX8_blame 88 [some (.inr (.inr 0)), some (.inl g), some (.inl w), some (.inl (σ (r + 6) g)), some (.inl (σ (r + 2) (σ (r + 6) g))), some (.inl (σ (r + 7) g)), none] (rtS rr []) σ' Q)) ∧ ((climbV (bor (σ 35 (6 + (σ (r + 6) g))) (σ 35 (18 + (σ (r + 6) g)))) (σ (r + 2) (σ (r + 6) g)) (σ (r + 7) g) 0) = (σ (r + 2) (σ (r + 6) g)) → Q (some (.inl ((-1)))) σ)) ∧ (2 < w → Q (some (.inl ((-1)))) σ))))) : AW d mX8_blame 0 [some (.inr (.inr 0)), some (.inl g), some (.inl w), none, none, none, none] [] σ Q := by
  rcases hr with rfl | rfl <;> exact AW.blk kX8_blame_0 cX8_blame_0 (⟨(h).1, AW.blk kX8_isGuard_0 cX8_isGuard_0 (⟨((h).2).1, ⟨fun c5 => AW.blk kX8_isGuard_19 cX8_isGuard_19 (⟨(by decide), ⟨(by decide), ⟨fun _ => AW.blk kX8_blame_17 cX8_blame_17 ((((h).2).2).1 c5), fun c => absurd c (by decide)⟩⟩⟩), fun c5 => aw_rl hx (AW.blk kX8_isGuard_9 cX8_isGuard_9 (⟨⟨(((((h).2).2).2 c5).1).1, (((((h).2).2).2 c5).1).2⟩, ⟨fun c4 => AW.blk kX8_isGuard_19 cX8_isGuard_19 (⟨(by decide), ⟨(by decide), ⟨fun _ => AW.blk kX8_blame_17 cX8_blame_17 ((((((h).2).2).2 c5).2).1 c4), fun c => absurd c (by decide)⟩⟩⟩), fun c4 => AW.blk kX8_isGuard_20 cX8_isGuard_20 (⟨(by decide), ⟨(by decide), ⟨fun c => absurd c (by decide), fun _ => ⟨((((((h).2).2).2 c5).2).2 c4).1, ⟨fun c3 => AW.blk kX8_blame_17 cX8_blame_17 ((((((((h).2).2).2 c5).2).2 c4).2).1 c3), fun c3 => ⟨⟨((((((((h).2).2).2 c5).2).2 c4).2).2 c3).1, (by decide)⟩, ⟨fun c2 => AW.blk kX8_blame_19 cX8_blame_19 (aw_rl hx (AW.blk kX8_blame_23 cX8_blame_23 (⟨⟨(((((((((((h).2).2).2 c5).2).2 c4).2).2 c3).2).1 c2).1).1, (((((((((((h).2).2).2 c5).2).2 c4).2).2 c3).2).1 c2).1).2⟩, aw_rl hx (AW.blk kX8_blame_33 cX8_blame_33 (⟨⟨((((((((((((h).2).2).2 c5).2).2 c4).2).2 c3).2).1 c2).2).1).1, ((((((((((((h).2).2).2 c5).2).2 c4).2).2 c3).2).1 c2).2).1).2⟩, aw_rl hx (AW.blk kX8_blame_44 cX8_blame_44 (⟨⟨(((((((((((((h).2).2).2 c5).2).2 c4).2).2 c3).2).1 c2).2).2).1).1, (((((((((((((h).2).2).2 c5).2).2 c4).2).2 c3).2).1 c2).2).2).1).2⟩, ⟨(((((((((((((h).2).2).2 c5).2).2 c4).2).2 c3).2).1 c2).2).2).2).1, AW.blk kX6_standing_0 cX6_standing_0 (⟨⟨(((((((((((((((h).2).2).2 c5).2).2 c4).2).2 c3).2).1 c2).2).2).2).2).1).1, (((((((((((((((h).2).2).2 c5).2).2 c4).2).2 c3).2).1 c2).2).2).2).2).1).2⟩, ⟨⟨((((((((((((((((h).2).2).2 c5).2).2 c4).2).2 c3).2).1 c2).2).2).2).2).2).1).1, ((((((((((((((((h).2).2).2 c5).2).2 c4).2).2 c3).2).1 c2).2).2).2).2).2).1).2⟩, ⟨((((((((((((((((h).2).2).2 c5).2).2 c4).2).2 c3).2).1 c2).2).2).2).2).2).2).1, climb_ok ⟨(((((((((((((((((h).2).2).2 c5).2).2 c4).2).2 c3).2).1 c2).2).2).2).2).2).2).2).1, ⟨⟨(((((((((((((((((((h).2).2).2 c5).2).2 c4).2).2 c3).2).1 c2).2).2).2).2).2).2).2).2).1).1, (((((((((((((((((((h).2).2).2 c5).2).2 c4).2).2 c3).2).1 c2).2).2).2).2).2).2).2).2).1).2⟩, ⟨fun c1 => AW.blk kX8_blame_74 cX8_blame_74 (⟨((((((((((((((((((((h).2).2).2 c5).2).2 c4).2).2 c3).2).1 c2).2).2).2).2).2).2).2).2).2).1 c1).1, ((((((((((((((((((((h).2).2).2 c5).2).2 c4).2).2 c3).2).1 c2).2).2).2).2).2).2).2).2).2).1 c1).2⟩), fun c1 => (((((((((((((((((((h).2).2).2 c5).2).2 c4).2).2 c3).2).1 c2).2).2).2).2).2).2).2).2).2).2 c1⟩⟩⟩⟩⟩⟩)⟩⟩))⟩))⟩))), fun c2 => (((((((((h).2).2).2 c5).2).2 c4).2).2 c3).2).2 c2⟩⟩⟩⟩⟩⟩⟩)⟩⟩))⟩⟩)⟩)
def kX8_blame_88 : List BI := [bi (.aload_n 0) 1 [] 0, bi (.getfield 35) 3 [8, 3] 0, bi (.iload 4) 2 [] 0, bi (.iload 5) 2 [] 0, bi (.invokevirtual 267) 3 [mX2_fewestSets, 3, 5, 2] 0]
theorem cX8_blame_88 : chk mX8_blame 88 kX8_blame_88 = true := by decide +kernel
theorem xbl_88 {d : Nat} {σ : SG} {Q : Option AV → SG → Prop} {g w l3 l4 l5 : Int} (h : (0 < d) ∧ AW (d - 1) mX2_fewestSets 0 [some (.inr (.inr 30)), some (.inl l4), some (.inl l5), none, none] [] σ (fun rr σ' => AW d mX8_blame 99 [some (.inr (.inr 0)), some (.inl g), some (.inl w), some (.inl l3), some (.inl l4), some (.inl l5), none] (rtS rr []) σ' Q)) : AW d mX8_blame 88 [some (.inr (.inr 0)), some (.inl g), some (.inl w), some (.inl l3), some (.inl l4), some (.inl l5), none] [] σ Q := AW.blk kX8_blame_88 cX8_blame_88 (⟨(h).1, (h).2⟩)
def kX8_blame_136 : List BI := [bi (.iload 6) 2 [] 0, bi (.ldc_w 270) 3 [] 16777216, bi (.idiv) 1 [] 0, bi (.ireturn) 1 [] 0]
theorem cX8_blame_136 : chk mX8_blame 136 kX8_blame_136 = true := by decide +kernel
def kX8_blame_143 : List BI := [bi (.iload 6) 2 [] 0, bi (.ldc_w 270) 3 [] 16777216, bi (.irem) 1 [] 0, bi (.ireturn) 1 [] 0]
theorem cX8_blame_143 : chk mX8_blame 143 kX8_blame_143 = true := by decide +kernel
def kX8_blame_150 : List BI := [bi (.aload_n 0) 1 [] 0, bi (.getfield 35) 3 [8, 3] 0, bi (.getfield 271) 3 [2, 2] 0, bi (.iload 4) 2 [] 0, bi (.iaload) 1 [] 0, bi (.ireturn) 1 [] 0]
theorem cX8_blame_150 : chk mX8_blame 150 kX8_blame_150 = true := by decide +kernel
def kX8_blame_109 : List BI := [bi (.iload_n 2) 1 [] 0, bi (.lookupswitch (40) #[((0), (26)), ((1), (33))]) 26 [150, 136, 143] 0]
theorem cX8_blame_109 : chk mX8_blame 109 kX8_blame_109 = true := by decide +kernel
def kX8_blame_99 : List BI := [bi (.istore 6) 2 [] 0, bi (.iload 6) 2 [] 0, bi (.iconst (-1)) 1 [] 0, bi (.if_icmp .ne (5)) 3 [109] 0, bi (.iconst (-1)) 1 [] 0, bi (.ireturn) 1 [] 0]
theorem cX8_blame_99 : chk mX8_blame 99 kX8_blame_99 = true := by decide +kernel
theorem xbl_99 {d : Nat} {σ : SG} {Q : Option AV → SG → Prop} {g w l3 l4 l5 s0 : Int} (h : (r3 s0) ∧ (s0 ≠ (-1) → (r3 w) ∧ (w = 0 → (r3 s0) ∧ Q (some (.inl (Int.tdiv s0 16777216))) σ) ∧ (w ≠ 0 → (w = 1 → (r3 s0) ∧ Q (some (.inl (Int.tmod s0 16777216))) σ) ∧ (w ≠ 1 → (0 ≤ l4 ∧ l4 < 15) ∧ Q (some (.inl (σ 33 l4))) σ))) ∧ (s0 = (-1) → Q (some (.inl ((-1)))) σ)) : AW d mX8_blame 99 [some (.inr (.inr 0)), some (.inl g), some (.inl w), some (.inl l3), some (.inl l4), some (.inl l5), none] [.inl s0] σ Q := AW.blk kX8_blame_99 cX8_blame_99 (⟨⟨(h).1, (by decide)⟩, ⟨fun c6 => AW.blk kX8_blame_109 cX8_blame_109 (⟨(((h).2).1 c6).1, ⟨fun c7 => AW.blk kX8_blame_136 cX8_blame_136 (⟨⟨(((((h).2).1 c6).2).1 c7).1, (by decide), (by decide)⟩, (((((h).2).1 c6).2).1 c7).2⟩), fun c8 => ⟨fun c9 => AW.blk kX8_blame_143 cX8_blame_143 (⟨⟨((((((h).2).1 c6).2).2 c8).1 c9).1, (by decide), (by decide)⟩, ((((((h).2).1 c6).2).2 c8).1 c9).2⟩), fun c10 => AW.blk kX8_blame_150 cX8_blame_150 (⟨⟨(((((((h).2).1 c6).2).2 c8).2 c10).1).1, (((((((h).2).1 c6).2).2 c8).2 c10).1).2⟩, ((((((h).2).1 c6).2).2 c8).2 c10).2⟩)⟩⟩⟩), fun c6 => ((h).2).2 c6⟩⟩)
def kX9_blame_20 : List BI := [bi (.iconst (-1)) 1 [] 0, bi (.ireturn) 1 [] 0]
theorem cX9_blame_20 : chk mX9_blame 20 kX9_blame_20 = true := by decide +kernel
def kX9_blame_74 : List BI := [bi (.iconst (-1)) 1 [] 0, bi (.ireturn) 1 [] 0]
theorem cX9_blame_74 : chk mX9_blame 74 kX9_blame_74 = true := by decide +kernel
def kX9_blame_22 : List BI := [bi (.aload_n 0) 1 [] 0, bi (.getfield 79) 3 [9, 31] 0, bi (.bipush (24)) 2 [] 0, bi (.iconst 3) 1 [] 0, bi (.iload_n 1) 1 [] 0, bi (.imul) 1 [] 0, bi (.iadd) 1 [] 0, bi (.iaload) 1 [] 0, bi (.istore_n 3) 1 [] 0, bi (.aload_n 0) 1 [] 0, bi (.getfield 79) 3 [9, 31] 0, bi (.bipush (24)) 2 [] 0, bi (.iconst 3) 1 [] 0, bi (.iload_n 1) 1 [] 0, bi (.imul) 1 [] 0, bi (.iadd) 1 [] 0, bi (.iconst 1) 1 [] 0, bi (.iadd) 1 [] 0, bi (.iaload) 1 [] 0, bi (.istore 4) 2 [] 0, bi (.aload_n 0) 1 [] 0, bi (.iload_n 3) 1 [] 0, bi (.aload_n 0) 1 [] 0, bi (.iload_n 3) 1 [] 0, bi (.invokevirtual 350) 3 [mX9_standSet, 2, 2, 9] 0, bi (.iload 4) 2 [] 0, bi (.invokevirtual 364) 3 [mX9_reachesTop, 4, 4, 9] 0, bi (.ifCond .ne (13)) 3 [74] 0, bi (.aload_n 0) 1 [] 0, bi (.iload_n 3) 1 [] 0, bi (.iload 4) 2 [] 0, bi (.invokevirtual 461) 3 [mX9_isBlamed, 3, 6, 9] 0]
theorem cX9_blame_22 : chk mX9_blame 22 kX9_blame_22 = true := by decide +kernel
def kX9_blame_0 : List BI := [bi (.aload_n 0) 1 [] 0, bi (.iload_n 1) 1 [] 0, bi (.invokevirtual 403) 3 [mX9_isGuard, 2, 2, 9] 0, bi (.ifCond .eq (15)) 3 [20] 0, bi (.iload_n 2) 1 [] 0, bi (.i2l) 1 [] 0, bi (.lconst 0) 1 [] 0, bi (.ldc2_w 406) 3 [] 2, bi (.invokestatic 233) 3 [mX9_isIn, 3, 6] 0, bi (.ifCond .ne (5)) 3 [22] 0, bi (.iconst (-1)) 1 [] 0, bi (.ireturn) 1 [] 0]
theorem cX9_blame_0 : chk mX9_blame 0 kX9_blame_0 = true := by decide +kernel
theorem mbl_0 {d : Nat} {σ : SG} {Q : Option AV → SG → Prop} {g w : Int} (h : (0 < d) ∧ (r3 g) ∧ (0 < d - 1) ∧ (r3 ((σ 61 5) - 1)) ∧ (0 < d - 1) ∧ (r6 g) ∧ (g < 0 → Q (some (.inl ((-1)))) σ) ∧ (0 ≤ g → (r6 g ∧ r6 ((σ 61 5) - 1)) ∧ (((σ 61 5) - 1) < g → Q (some (.inl ((-1)))) σ) ∧ (g ≤ ((σ 61 5) - 1) → (r3 w) ∧ (0 < d) ∧ (r6 w) ∧ (w < 0 → Q (some (.inl ((-1)))) σ) ∧ (0 ≤ w → (r6 w) ∧ (2 < w → Q (some (.inl ((-1)))) σ) ∧ (w ≤ 2 → (0 ≤ (24 + (3 * g)) ∧ (24 + (3 * g)) < 48) ∧ (0 ≤ ((24 + (3 * g)) + 1) ∧ ((24 + (3 * g)) + 1) < 48) ∧ (0 < d) ∧ (0 < d - 1) ∧ (mhwO (d - 1 - 1) σ (σ 64 (24 + (3 * g))) 0) ∧ (0 < d - 1) ∧ (2 ≤ d - 1 - 1 ∧ MLR (σ 69) ∧ r3 (σ 64 (24 + (3 * g)))) ∧ (0 < d) ∧ (0 < d - 1) ∧ (higO (d - 1 - 1) σ (σ 64 (24 + (3 * g))) (bor (foI (hwB (σ 69) (σ 64 (24 + (3 * g))) 0) 0 (σ 63 (8 + 2 * (σ 64 (24 + (3 * g)))))) (foI (fsB (σ 69) (σ 64 (24 + (3 * g)))) 0 (σ 69 1))) (σ 64 ((24 + (3 * g)) + 1)) 0) ∧ (∀ f11 : Int → Int, (0 < d - 1) ∧ (0 ≤ (8 + (2 * (σ 64 (24 + (3 * g))))) ∧ (8 + (2 * (σ 64 (24 + (3 * g))))) < 16) ∧ (r3 (ropV (bor (foI (hwB (σ 69) (σ 64 (24 + (3 * g))) 0) 0 (σ 63 (8 + 2 * (σ 64 (24 + (3 * g)))))) (foI (fsB (σ 69) (σ 64 (24 + (3 * g)))) 0 (σ 69 1))) (σ 63 (8 + 2 * (σ 64 (24 + (3 * g))))) (σ 64 ((24 + (3 * g)) + 1)) 0) ∧ r3 (σ 63 (8 + (2 * (σ 64 (24 + (3 * g))))))) ∧ ((ropV (bor (foI (hwB (σ 69) (σ 64 (24 + (3 * g))) 0) 0 (σ 63 (8 + 2 * (σ 64 (24 + (3 * g)))))) (foI (fsB (σ 69) (σ 64 (24 + (3 * g)))) 0 (σ 69 1))) (σ 63 (8 + 2 * (σ 64 (24 + (3 * g))))) (σ 64 ((24 + (3 * g)) + 1)) 0) ≠ (σ 63 (8 + (2 * (σ 64 (24 + (3 * g)))))) → (0 < d) ∧ AW (d - 1) mX9_isBlamed 0 [some (.inr (.inr 42)), some (.inl (σ 64 (24 + (3 * g)))), some (.inl (σ 64 ((24 + (3 * g)) + 1))), none, none, none] [] (putF σ 70 f11) (fun rr σ' => AW d mX9_blame 71 [some (.inr (.inr 42)), some (.inl g), some (.inl w), some (.inl (σ 64 (24 + (3 * g)))), some (.inl (σ 64 ((24 + (3 * g)) + 1)))] (rtS rr []) σ' Q)) ∧ ((ropV (bor (foI (hwB (σ 69) (σ 64 (24 + (3 * g))) 0) 0 (σ 63 (8 + 2 * (σ 64 (24 + (3 * g)))))) (foI (fsB (σ 69) (σ 64 (24 + (3 * g)))) 0 (σ 69 1))) (σ 63 (8 + 2 * (σ 64 (24 + (3 * g))))) (σ 64 ((24 + (3 * g)) + 1)) 0) = (σ 63 (8 + (2 * (σ 64 (24 + (3 * g)))))) → Q (some (.inl ((-1)))) (putF σ 70 f11)))))))) : AW d mX9_blame 0 [some (.inr (.inr 42)), some (.inl g), some (.inl w), none, none] [] σ Q := AW.blk kX9_blame_0 cX9_blame_0 (⟨(h).1, AW.blk kX9_isGuard_0 cX9_isGuard_0 (⟨((h).2).1, ⟨(((h).2).2).1, AW.blk kX9_guardMany_0 cX9_guardMany_0 (⟨⟨(by decide), (by decide)⟩, ⟨((((h).2).2).2).1, ⟨(((((h).2).2).2).2).1, AW.blk kX9_isIn_0 cX9_isIn_0 (⟨⟨((((((h).2).2).2).2).2).1, (by decide)⟩, ⟨fun c16 => AW.blk kX9_isIn_17 cX9_isIn_17 (⟨(by decide), ⟨(by decide), ⟨(by decide), ⟨fun _ => AW.blk kX9_blame_20 cX9_blame_20 ((((((((h).2).2).2).2).2).2).1 c16), fun c => absurd c (by decide)⟩⟩⟩⟩), fun c16 => ⟨⟨(((((((((h).2).2).2).2).2).2).2 c16).1).1, (((((((((h).2).2).2).2).2).2).2 c16).1).2⟩, ⟨fun c15 => AW.blk kX9_isIn_17 cX9_isIn_17 (⟨(by decide), ⟨(by decide), ⟨(by decide), ⟨fun _ => AW.blk kX9_blame_20 cX9_blame_20 ((((((((((h).2).2).2).2).2).2).2 c16).2).1 c15), fun c => absurd c (by decide)⟩⟩⟩⟩), fun c15 => AW.blk kX9_isIn_18 cX9_isIn_18 (⟨(by decide), ⟨(by decide), ⟨(by decide), ⟨fun c => absurd c (by decide), fun _ => ⟨((((((((((h).2).2).2).2).2).2).2 c16).2).2 c15).1, ⟨(((((((((((h).2).2).2).2).2).2).2 c16).2).2 c15).2).1, AW.blk kX9_isIn_0 cX9_isIn_0 (⟨⟨((((((((((((h).2).2).2).2).2).2).2 c16).2).2 c15).2).2).1, (by decide)⟩, ⟨fun c14 => AW.blk kX9_isIn_17 cX9_isIn_17 (⟨(by decide), ⟨(by decide), ⟨fun c => absurd c (by decide), fun _ => (((((((((((((h).2).2).2).2).2).2).2 c16).2).2 c15).2).2).2).1 c14⟩⟩⟩), fun c14 => ⟨⟨((((((((((((((h).2).2).2).2).2).2).2 c16).2).2 c15).2).2).2).2 c14).1, (by decide)⟩, ⟨fun c13 => AW.blk kX9_isIn_17 cX9_isIn_17 (⟨(by decide), ⟨(by decide), ⟨fun c => absurd c (by decide), fun _ => (((((((((((((((h).2).2).2).2).2).2).2 c16).2).2 c15).2).2).2).2 c14).2).1 c13⟩⟩⟩), fun c13 => AW.blk kX9_isIn_18 cX9_isIn_18 (⟨(by decide), ⟨(by decide), ⟨fun _ => AW.blk kX9_blame_22 cX9_blame_22 (⟨⟨(((((((((((((((((h).2).2).2).2).2).2).2 c16).2).2 c15).2).2).2).2 c14).2).2 c13).1).1, (((((((((((((((((h).2).2).2).2).2).2).2 c16).2).2 c15).2).2).2).2 c14).2).2 c13).1).2⟩, ⟨⟨((((((((((((((((((h).2).2).2).2).2).2).2 c16).2).2 c15).2).2).2).2 c14).2).2 c13).2).1).1, ((((((((((((((((((h).2).2).2).2).2).2).2 c16).2).2 c15).2).2).2).2 c14).2).2 c13).2).1).2⟩, ⟨((((((((((((((((((h).2).2).2).2).2).2).2 c16).2).2 c15).2).2).2).2 c14).2).2 c13).2).2).1, AW.blk kX9_standSet_0 cX9_standSet_0 (⟨(((((((((((((((((((h).2).2).2).2).2).2).2 c16).2).2 c15).2).2).2).2 c14).2).2 c13).2).2).2).1, mhow2_ok ⟨((((((((((((((((((((h).2).2).2).2).2).2).2 c16).2).2 c15).2).2).2).2 c14).2).2 c13).2).2).2).2).1, ⟨(((((((((((((((((((((h).2).2).2).2).2).2).2 c16).2).2 c15).2).2).2).2 c14).2).2 c13).2).2).2).2).2).1, mfilledSet_ok ⟨((((((((((((((((((((((h).2).2).2).2).2).2).2 c16).2).2 c15).2).2).2).2 c14).2).2 c13).2).2).2).2).2).2).1, ⟨(((((((((((((((((((((((h).2).2).2).2).2).2).2 c16).2).2 c15).2).2).2).2 c14).2).2 c13).2).2).2).2).2).2).2).1, AW.blk kX9_reachesTop_0 cX9_reachesTop_0 (⟨((((((((((((((((((((((((h).2).2).2).2).2).2).2 c16).2).2 c15).2).2).2).2 c14).2).2 c13).2).2).2).2).2).2).2).2).1, mhigh_ok ⟨(((((((((((((((((((((((((h).2).2).2).2).2).2).2 c16).2).2 c15).2).2).2).2 c14).2).2 c13).2).2).2).2).2).2).2).2).2).1, fun f11 => ⟨(((((((((((((((((((((((((((h).2).2).2).2).2).2).2 c16).2).2 c15).2).2).2).2 c14).2).2 c13).2).2).2).2).2).2).2).2).2).2 f11)).1, AW.blk kX9_stepsOf_0 cX9_stepsOf_0 (⟨⟨(((((((((((((((((((((((((((((h).2).2).2).2).2).2).2 c16).2).2 c15).2).2).2).2 c14).2).2 c13).2).2).2).2).2).2).2).2).2).2 f11)).2).1).1, (((((((((((((((((((((((((((((h).2).2).2).2).2).2).2 c16).2).2 c15).2).2).2).2 c14).2).2 c13).2).2).2).2).2).2).2).2).2).2 f11)).2).1).2⟩, ⟨⟨((((((((((((((((((((((((((((((h).2).2).2).2).2).2).2 c16).2).2 c15).2).2).2).2 c14).2).2 c13).2).2).2).2).2).2).2).2).2).2 f11)).2).2).1).1, ((((((((((((((((((((((((((((((h).2).2).2).2).2).2).2 c16).2).2 c15).2).2).2).2 c14).2).2 c13).2).2).2).2).2).2).2).2).2).2 f11)).2).2).1).2⟩, ⟨fun c12 => AW.blk kX9_reachesTop_20 cX9_reachesTop_20 (⟨(by decide), ⟨(by decide), ⟨fun c => absurd c (by decide), fun _ => ⟨(((((((((((((((((((((((((((((((h).2).2).2).2).2).2).2 c16).2).2 c15).2).2).2).2 c14).2).2 c13).2).2).2).2).2).2).2).2).2).2 f11)).2).2).2).1 c12).1, (((((((((((((((((((((((((((((((h).2).2).2).2).2).2).2 c16).2).2 c15).2).2).2).2 c14).2).2 c13).2).2).2).2).2).2).2).2).2).2 f11)).2).2).2).1 c12).2⟩⟩⟩⟩), fun c12 => AW.blk kX9_reachesTop_21 cX9_reachesTop_21 (⟨(by decide), ⟨(by decide), ⟨fun _ => AW.blk kX9_blame_74 cX9_blame_74 (((((((((((((((((((((((((((((((h).2).2).2).2).2).2).2 c16).2).2 c15).2).2).2).2 c14).2).2 c13).2).2).2).2).2).2).2).2).2).2 f11)).2).2).2).2 c12), fun c => absurd c (by decide)⟩⟩⟩)⟩⟩⟩)⟩⟩⟩)⟩⟩⟩⟩⟩)⟩⟩⟩), fun c => absurd c (by decide)⟩⟩⟩)⟩⟩⟩⟩)⟩⟩⟩⟩⟩⟩)⟩⟩⟩⟩)⟩⟩⟩)⟩⟩)⟩)
def kX9_blame_99 : List BI := [bi (.aload_n 0) 1 [] 0, bi (.getfield 446) 3 [9, 49] 0, bi (.ireturn) 1 [] 0]
theorem cX9_blame_99 : chk mX9_blame 99 kX9_blame_99 = true := by decide +kernel
def kX9_blame_103 : List BI := [bi (.ireturn) 1 [] 0]
theorem cX9_blame_103 : chk mX9_blame 103 kX9_blame_103 = true := by decide +kernel
def kX9_blame_87 : List BI := [bi (.iload_n 2) 1 [] 0, bi (.iconst 1) 1 [] 0, bi (.if_icmp .ne (10)) 3 [99] 0, bi (.aload_n 0) 1 [] 0, bi (.getfield 458) 3 [9, 47] 0, bi (.goto (7)) 3 [103] 0]
theorem cX9_blame_87 : chk mX9_blame 87 kX9_blame_87 = true := by decide +kernel
def kX9_blame_76 : List BI := [bi (.iload_n 2) 1 [] 0, bi (.ifCond .ne (10)) 3 [87] 0, bi (.aload_n 0) 1 [] 0, bi (.getfield 449) 3 [9, 48] 0, bi (.goto (19)) 3 [103] 0]
theorem cX9_blame_76 : chk mX9_blame 76 kX9_blame_76 = true := by decide +kernel
def kX9_blame_71 : List BI := [bi (.ifCond .ne (5)) 3 [76] 0, bi (.iconst (-1)) 1 [] 0, bi (.ireturn) 1 [] 0]
theorem cX9_blame_71 : chk mX9_blame 71 kX9_blame_71 = true := by decide +kernel
theorem mbl_71 {d : Nat} {σ : SG} {Q : Option AV → SG → Prop} {g w l3 l4 s0 : Int} (h : (r3 s0) ∧ (s0 ≠ 0 → (r3 w) ∧ (w ≠ 0 → (r3 w) ∧ (w ≠ 1 → Q (some (.inl (σ 42 49))) σ) ∧ (w = 1 → Q (some (.inl (σ 42 47))) σ)) ∧ (w = 0 → Q (some (.inl (σ 42 48))) σ)) ∧ (s0 = 0 → Q (some (.inl ((-1)))) σ)) : AW d mX9_blame 71 [some (.inr (.inr 42)), some (.inl g), some (.inl w), some (.inl l3), some (.inl l4)] [.inl s0] σ Q := AW.blk kX9_blame_71 cX9_blame_71 (⟨(h).1, ⟨fun c19 => AW.blk kX9_blame_76 cX9_blame_76 (⟨(((h).2).1 c19).1, ⟨fun c18 => AW.blk kX9_blame_87 cX9_blame_87 (⟨⟨(((((h).2).1 c19).2).1 c18).1, (by decide)⟩, ⟨fun c17 => AW.blk kX9_blame_99 cX9_blame_99 (((((((h).2).1 c19).2).1 c18).2).1 c17), fun c17 => AW.blk kX9_blame_103 cX9_blame_103 (((((((h).2).1 c19).2).1 c18).2).2 c17)⟩⟩), fun c18 => AW.blk kX9_blame_103 cX9_blame_103 (((((h).2).1 c19).2).2 c18)⟩⟩), fun c19 => ((h).2).2 c19⟩⟩)
theorem SIM.q5 {n : Int} {σ τ : SG} {r q : Nat} (h : SIM n σ r q) (hp : ∀ p, p ≠ 31 → p ≠ 32 → p ≠ 33 → τ p = σ p) : SIM n τ r q := by
  have e : τ = putF (putF (putF σ 31 (τ 31)) 32 (τ 32)) 33 (τ 33) := by
    funext p i
    unfold putF
    by_cases c1 : p = 33
    · subst c1
      rw [if_pos rfl]
    · rw [if_neg c1]
      by_cases c2 : p = 32
      · subst c2
        rw [if_pos rfl]
      · rw [if_neg c2]
        by_cases c3 : p = 31
        · subst c3
          rw [if_pos rfl]
        · rw [if_neg c3, hp p c3 c2 c1]
  rw [e]
  exact ((h.eqv (EQV.pf h.rr.1 (p := 31) (by omega))).eqv (EQV.pf h.rr.1 (p := 32) (by omega))).eqv (EQV.pf h.rr.1 (p := 33) (by omega))
theorem GW_RR {tw : Int} {H : Int → Int} {B D : Int} {f g : Int → Int} (hR : RS tw H B D f g) (hL : LR f) {t lg ht : Int} {A : Int → Bool} (hht : H t = ht) (h0 : 0 ≤ ht) : (∀ M, GW A (lamF f t) lg ht.toNat M → RRp g t A (lamF f t) lg ht M) ∧ (∀ M, RRp g t A (lamF f t) lg ht M → ¬ GW A (lamF f t) lg ht.toNat M → ∃ M', RRp g t A (lamF f t) lg ht M' ∧ pcM M' < pcM M) := by
  have hRS := hR
  have hLI := lamF_LI (t := t) hL
  obtain ⟨_, hc, _, _, _, hl, _⟩ := hR
  constructor
  · intro M ⟨z1, z2⟩
    refine ⟨fun k hk => ?_, by rw [z2]; omega⟩
    obtain ⟨j, _, _, j3⟩ := z1 k hk
    obtain ⟨a1, a2, a3, a4⟩ := lamF_st (f := f) (t := t) (s := j) (by omega)
    rw [j3] at a1 a2 a3 a4
    obtain ⟨b0, _, _, _, _, _, _, b7⟩ := hl k a1.1 a1.2
    refine ⟨by omega, ?_, ?_⟩
    · rw [b0 7 (by decide) (by decide)]
      rcases b7 with b | b
      · exact b.1
      · exact absurd b.1 a2
    · rw [b0 0 (by decide) (by decide)]
      exact a3
  · intro M ⟨z1, z2⟩ hno
    have hex : ∃ k : Nat, M.testBit k = true ∧ ¬ ∃ j : Nat, (1 ≤ j ∧ j ≤ ht.toNat) ∧ A j = false ∧ lamF f t j = k := Classical.byContradiction fun c => hno ⟨fun k hk => Classical.byContradiction fun c2 => c ⟨k, hk, c2⟩, by rw [z2]; omega⟩
    obtain ⟨k, hk, hkn⟩ := hex
    obtain ⟨o1, o2, o3⟩ := z1 k hk
    obtain ⟨b0, b1, b2, b3, b4, b5, b6, b7⟩ := hl k o1.1 (by omega)
    rw [b0 7 (by decide) (by decide)] at o2
    rw [b0 0 (by decide) (by decide)] at o3
    rw [o3, hht] at b2
    have hlam := lamF_of hRS (s := f (22 + (k : Int) * 8 + 1)) o1.1 (by omega) o2 o3 rfl
    have hA : A (f (22 + (k : Int) * 8 + 1)) = true := by
      cases c : A (f (22 + (k : Int) * 8 + 1))
      · exfalso
        refine hkn ⟨(f (22 + (k : Int) * 8 + 1)).toNat, by omega, ?_, ?_⟩
        · rw [show (((f (22 + (k : Int) * 8 + 1)).toNat : Nat) : Int) = f (22 + (k : Int) * 8 + 1) by omega]
          exact c
        · rw [show (((f (22 + (k : Int) * 8 + 1)).toNat : Nat) : Int) = f (22 + (k : Int) * 8 + 1) by omega]
          exact hlam
      · rfl
    clear hkn
    obtain ⟨M', e, hb⟩ := tbR k M hk
    refine ⟨M', ⟨fun j hj => ?_, ?_⟩, ?_⟩
    · rw [hb, Bool.and_eq_true] at hj
      exact z1 j hj.1
    · refine (clm_cong ht.toNat (fun s s1 s2 => ?_)).trans z2
      unfold SMt
      by_cases c : lamF f t s = k
      · have es : s = f (22 + (k : Int) * 8 + 1) := hLI.2 _ _ (by rw [c, hlam]) (by omega)
        rw [es, hA, Bool.true_or, Bool.true_or]
      · have hs := hLI.1 s
        rw [hb]
        by_cases c2 : lamF f t s = -1
        · rw [decide_eq_false (show ¬ lamF f t s ≠ -1 from fun z => z c2), Bool.false_and, Bool.false_and]
        · rw [decide_eq_true (show (lamF f t s).toNat ≠ k by omega), Bool.and_true]
    · have hf : M'.testBit k = false := by
        rw [hb, decide_eq_false (show ¬ k ≠ k from fun z => z rfl), Bool.and_false]
      have h24 := hL.1
      unfold pcM
      rw [e, pcN_add 24 k M' (by omega) hf]
      omega
theorem mblame_ok {d : Nat} {n : Int} {σ : SG} {r q : Nat} {g w b ww : Int} (hd : 100 ≤ d) (h : SIM n σ r q) (hg : r3 g) (g0 : 0 ≤ g) (g1 : g < σ r 1) (w0 : 0 ≤ w) (w2 : w ≤ 2) (hc : climbV (mstV σ (σ (r + 6) g)) (σ (r + 2) (σ (r + 6) g)) (σ (r + 7) g) 0 ≠ σ (r + 2) (σ (r + 6) g)) (hB : BW (GW (sdS (mstV σ (σ (r + 6) g))) (lamF (σ 35) (σ (r + 6) g)) (σ (r + 7) g) (σ (r + 2) (σ (r + 6) g)).toNat) b ww) : AW d mX9_blame 0 [some (.inr (.inr 42)), some (.inl g), some (.inl w), none, none] [] σ (fun v' σ' => v' = some (.inl (if b = -1 then -1 else if w = 0 then Int.tdiv b 16777216 else if w = 1 then Int.tmod b 16777216 else ww)) ∧ SIM n σ' r q) := by
  obtain ⟨hr, _, hx, _⟩ := h.rr
  obtain ⟨hLR, hSR, hML, hMG, hRL, hN, hW⟩ := h.lr
  obtain ⟨k1, k2, k3, k4⟩ := h.gd g0 g1
  obtain ⟨⟨hh1, hh2, t4⟩, h63, h63c, hMS, em, hrr⟩ := h.tw k1.1 k1.2.1
  have hRS := h.2.2.2.2.2.1
  have h615 : σ 61 5 = σ r 1 := hN.2.2.2.2.2
  have hgr := GW_RR hRS hLR (t := σ (r + 6) g) (lg := σ (r + 7) g) (A := sdS (mstV σ (σ (r + 6) g))) (ht := σ (r + 2) (σ (r + 6) g)) rfl (by omega)
  have em' : bor (foI (hwB (σ 69) (σ (r + 6) g) 0) 0 (σ (r + 2) (σ (r + 6) g))) (foI (fsB (σ 69) (σ (r + 6) g)) 0 (σ 69 1)) = mstV σ (σ (r + 6) g) := by
    unfold mstV
    rw [h63]
  have hcr := climbV_r (sd := mstV σ (σ (r + 6) g)) (lg := σ (r + 7) g) (show (0 : Int) ≤ σ (r + 2) (σ (r + 6) g) by omega)
  refine mbl_0 ?_
  rw [k2, k3, h63, h615, em', ropV_0 (by omega) (by omega)]
  refine ⟨by omega, by omega, by omega, by omega, by omega, by omega, fun c => by omega, fun _ => ⟨by omega, fun c => by omega, fun _ => ⟨by omega, by omega, by omega, fun c => by omega, fun _ => ⟨by omega, fun c => by omega, fun _ => ⟨by omega, by omega, by omega, by omega, ?_, by omega, ⟨by omega, hML, by omega⟩, by omega, by omega, ?_, fun f => ⟨by omega, by omega, ⟨by omega, by omega⟩, fun _ => ⟨by omega, ?_⟩, fun c => absurd c hc⟩⟩⟩⟩⟩⟩
  · unfold mhwO
    rw [h63]
    rw [h63] at hMS
    exact ⟨by omega, by omega, by omega, by decide, by omega, by omega, hMS⟩
  · unfold higO
    rw [h63]
    exact ⟨by omega, by omega, by omega, by omega, by omega, by omega, by omega, by omega, by omega, by omega, by omega⟩
  · have hS := h.p70 f
    have z : ∀ p, p ≠ 70 → putF σ 70 f p = σ p := fun p c => putF_ne c
    have em2 : mstV (putF σ 70 f) (σ (r + 6) g) = mstV σ (σ (r + 6) g) := by
      unfold mstV
      rw [z 69 (by decide), z 63 (by decide)]
    refine isBlamed_ok hS k1.1 (by rw [z r (by omega)]; exact k1.2.1) ⟨by omega, by omega⟩ (by omega) ?_ ?_
    · rw [em2, z 69 (by decide), z 35 (by decide), z 63 (by decide), h63]
      intro τ hF hno
      have hT := BFR.sim hS hF
      refine mbl_71 ⟨by omega, fun c => absurd rfl c, fun _ => ?_⟩
      refine ⟨?_, hT⟩
      have hb : b = -1 := by
        rcases hB with ⟨_, e⟩ | ⟨m, x, ⟨e, _⟩, _⟩
        · exact e
        · exact absurd (hgr.1 x e) (hno x)
      rw [if_pos hb]
    · rw [em2, z 69 (by decide), z 35 (by decide), z 63 (by decide), h63]
      intro τ hF hI hs
      have hT := BFR.sim hS hF
      rcases hI with ⟨e, _⟩ | ⟨_, m, x, ⟨e1, e2⟩, e3, e4, e5, e6⟩
      · omega
      · have hBR : BW (RRp (σ 69) (σ (r + 6) g) (sdS (mstV σ (σ (r + 6) g))) (lamF (σ 35) (σ (r + 6) g)) (σ (r + 7) g) (σ (r + 2) (σ (r + 6) g))) (16777216 * (m : Int) + x) (τ 42 49) := Or.inr ⟨m, x, e3, e4, e5, rfl, e6⟩
        obtain ⟨eb, ew⟩ := hB.same hBR hgr.1 hgr.2
        have hbn : b ≠ -1 := by omega
        have hxl : x < 16777216 := by
          apply Nat.lt_pow_two_of_testBit (n := 24)
          intro i hi
          cases c : x.testBit i
          · rfl
          · have := (e3.1.1 i c).1
            have := hML.1
            omega
        have d1 : Int.tdiv b 16777216 = m := by
          rw [eb, Int.tdiv_eq_ediv_of_nonneg (by omega)]
          omega
        have d2 : Int.tmod b 16777216 = x := by
          rw [eb, Int.tmod_eq_emod_of_nonneg (by omega)]
          omega
        rw [if_neg hbn, d1, d2, ew hbn]
        refine mbl_71 ⟨by omega, fun _ => ⟨by omega, fun c1 => ⟨by omega, fun c2 => ?_, fun c2 => ?_⟩, fun c1 => ?_⟩, fun c => absurd c (by decide)⟩
        · rw [if_neg c1, if_neg c2]
          exact ⟨rfl, hT⟩
        · rw [if_neg c1, if_pos c2]
          exact ⟨by rw [e2], hT⟩
        · rw [if_pos c1]
          exact ⟨by rw [e1], hT⟩
theorem call_blame {d : Nat} {n : Int} {σ : SG} {r q : Nat} {g w : Int} (hd : 100 ≤ d) (h : SIM n σ r q) (hg : r3 g) (hw : r3 w) : AW d mX8_blame 0 [some (.inr (.inr 0)), some (.inl g), some (.inl w), none, none, none, none] [] σ (SAME d n r q mX9_blame [some (.inr (.inr 42)), some (.inl g), some (.inl w), none, none]) := by
  obtain ⟨hr, _, hx, _⟩ := h.rr
  obtain ⟨hLR, hSR, hML, hMG, hRL, hN, hW⟩ := h.lr
  have h615 : σ 61 5 = σ r 1 := hN.2.2.2.2.2
  by_cases hin : (0 ≤ g ∧ g < σ r 1) ∧ (0 ≤ w ∧ w ≤ 2)
  · obtain ⟨⟨g0, g1⟩, w0, w2⟩ := hin
    obtain ⟨k1, k2, k3, k4⟩ := h.gd g0 g1
    obtain ⟨⟨hh1, hh2, t4⟩, h63, h63c, hMS, em, hrr⟩ := h.tw k1.1 k1.2.1
    have hcr := climbV_r (sd := mstV σ (σ (r + 6) g)) (lg := σ (r + 7) g) (show (0 : Int) ≤ σ (r + 2) (σ (r + 6) g) by omega)
    have em' : bor (foI (hwB (σ 69) (σ (r + 6) g) 0) 0 (σ (r + 2) (σ (r + 6) g))) (foI (fsB (σ 69) (σ (r + 6) g)) 0 (σ 69 1)) = mstV σ (σ (r + 6) g) := by
      unfold mstV
      rw [h63]
    refine xbl_0 hr hx ?_
    rw [em]
    refine ⟨by omega, by omega, fun c => by omega, fun _ => ⟨by omega, fun c => by omega, fun _ => ⟨by omega, fun c => by omega, fun _ => ⟨by omega, fun _ => ⟨by omega, by omega, by omega, by omega, by omega, by omega, by omega, ⟨by omega, by omega, by omega, by omega, by omega, by omega, by omega, by omega, by omega⟩, ⟨by omega, by omega⟩, fun c => ⟨by omega, ?_⟩, fun c => ?_⟩, fun c => by omega⟩⟩⟩⟩
    · refine forLoansBack_ok (by omega) hLR hSR k1.1 t4 (by omega) (by omega) (fun f hf => ?_)
      rw [em] at hf
      refine xbl_88 ⟨by omega, ?_⟩
      refine fewest_ok (A := sdS (mstV σ (σ (r + 6) g))) (lam := lamF (σ 35) (σ (r + 6) g)) (lamF_LI hLR) (by omega) (by omega) (by omega) ⟨by omega, by omega⟩ (fun s a b => by rw [putF_at]; exact hf s a b) (fun τ hτ hB => ?_)
      have z : ∀ p, p ≠ 31 → p ≠ 32 → p ≠ 33 → τ p = σ p := fun p a b c => by rw [hτ p b c, putF_ne a]
      have hT := h.q5 z
      have hBr := hB.r (fun M y => y.lt (lamF_LI hLR))
      have zk : ∀ k : Nat, k ≤ 10 → τ (r + k) = σ (r + k) := fun k hk => z _ (by omega) (by omega) (by omega)
      have z0 : τ r = σ r := zk 0 (by decide)
      have em2 : mstV τ (σ (r + 6) g) = mstV σ (σ (r + 6) g) := by
        unfold mstV
        rw [z 69 (by decide) (by decide) (by decide), z 63 (by decide) (by decide) (by decide)]
      have ref := mblame_ok (w := w) (b := τ 32 (σ (r + 2) (σ (r + 6) g))) (ww := τ 33 (σ (r + 2) (σ (r + 6) g))) hd hT hg g0 (by rw [z0]; exact g1) w0 w2 (by rw [zk 6 (by decide), zk 2 (by decide), zk 7 (by decide), em2]; exact c) (by rw [zk 6 (by decide), zk 2 (by decide), zk 7 (by decide), em2, z 35 (by decide) (by decide) (by decide)]; exact hB)
      refine xbl_99 ⟨by omega, fun c1 => ⟨by omega, fun c2 => ⟨by omega, ?_⟩, fun c2 => ⟨fun c3 => ⟨by omega, ?_⟩, fun c3 => ⟨by omega, ?_⟩⟩⟩, fun c1 => ?_⟩
      · rw [if_neg c1, if_pos c2] at ref
        exact ref
      · rw [if_neg c1, if_neg c2, if_pos c3] at ref
        exact ref
      · rw [if_neg c1, if_neg c2, if_neg c3] at ref
        exact ref
      · rw [if_pos c1] at ref
        exact ref
    · unfold SAME
      refine mbl_0 ?_
      rw [k2, k3, h63, h615, em', ropV_0 (by omega) (by omega)]
      refine ⟨by omega, by omega, by omega, by omega, by omega, by omega, fun c => by omega, fun _ => ⟨by omega, fun c => by omega, fun _ => ⟨by omega, by omega, by omega, fun c => by omega, fun _ => ⟨by omega, fun c => by omega, fun _ => ⟨by omega, by omega, by omega, by omega, ?_, by omega, ⟨by omega, hML, by omega⟩, by omega, by omega, ?_, fun f => ⟨by omega, by omega, ⟨by omega, by omega⟩, fun c2 => absurd c c2, fun _ => ⟨rfl, h.p70 f⟩⟩⟩⟩⟩⟩⟩
      · unfold mhwO
        rw [h63]
        rw [h63] at hMS
        exact ⟨by omega, by omega, by omega, by decide, by omega, by omega, hMS⟩
      · unfold higO
        rw [h63]
        exact ⟨by omega, by omega, by omega, by omega, by omega, by omega, by omega, by omega, by omega, by omega, by omega⟩
  · have hm : SAME d n r q mX9_blame [some (.inr (.inr 42)), some (.inl g), some (.inl w), none, none] (some (.inl (-1))) σ := by
      unfold SAME
      refine mbl_0 ?_
      rw [h615]
      exact ⟨by omega, by omega, by omega, by omega, by omega, by omega, fun c => ⟨rfl, h⟩, fun _ => ⟨by omega, fun c => ⟨rfl, h⟩, fun _ => ⟨by omega, by omega, by omega, fun c => ⟨rfl, h⟩, fun _ => ⟨by omega, fun c => ⟨rfl, h⟩, fun c => absurd ⟨⟨by omega, by omega⟩, by omega, by omega⟩ hin⟩⟩⟩⟩
    exact xbl_0 hr hx ⟨by omega, by omega, fun c => hm, fun _ => ⟨by omega, fun c => hm, fun _ => ⟨by omega, fun c => hm, fun _ => ⟨by omega, fun c => absurd ⟨⟨by omega, by omega⟩, by omega, by omega⟩ hin, fun c => hm⟩⟩⟩⟩
