/-! ===== the least wood (wip/whole/gen66.py) ===== -/
def kX8_wood_78 : List BI := [bi (.getfield 145) 3 [4, 7] 0, bi (.iload_n 2) 1 [] 0, bi (.iaload) 1 [] 0, bi (.imul) 1 [] 0, bi (.ireturn) 1 [] 0]
theorem cX8_wood_78 : chk mX8_wood 78 kX8_wood_78 = true := by decide +kernel
def kX8_wood_72 : List BI := [bi (.iload 4) 2 [] 0, bi (.aload_n 0) 1 [] 0, bi (.getfield 70) 3 [8, 9] 0]
theorem cX8_wood_72 : chk mX8_wood 72 kX8_wood_72 = true := by decide +kernel
def kX8_wood_84 : List BI := [bi (.ireturn) 1 [] 0]
theorem cX8_wood_84 : chk mX8_wood 84 kX8_wood_84 = true := by decide +kernel
def kX8_wood_52 : List BI := [bi (.getfield 196) 3 [4, 11] 0, bi (.iload_n 1) 1 [] 0, bi (.iaload) 1 [] 0, bi (.invokevirtual 283) 3 [mX2_cheapest, 3, 6, 2] 0, bi (.istore 4) 2 [] 0, bi (.iload 4) 2 [] 0, bi (.iconst (-1)) 1 [] 0, bi (.if_icmp .ne (7)) 3 [72] 0, bi (.iconst (-1)) 1 [] 0, bi (.goto (15)) 3 [84] 0]
theorem cX8_wood_52 : chk mX8_wood 52 kX8_wood_52 = true := by decide +kernel
def kX8_wood_24 : List BI := [bi (.getfield 142) 3 [4, 6] 0, bi (.iload_n 2) 1 [] 0, bi (.iaload) 1 [] 0, bi (.istore_n 3) 1 [] 0, bi (.aload_n 0) 1 [] 0, bi (.getfield 35) 3 [8, 3] 0, bi (.aload_n 0) 1 [] 0, bi (.getfield 42) 3 [8, 4] 0, bi (.iload_n 2) 1 [] 0, bi (.iload_n 3) 1 [] 0, bi (.invokevirtual 280) 3 [mX2_forRefits, 4, 8, 2] 0, bi (.aload_n 0) 1 [] 0, bi (.getfield 35) 3 [8, 3] 0, bi (.iload_n 3) 1 [] 0, bi (.aload_n 0) 1 [] 0, bi (.getfield 70) 3 [8, 9] 0]
theorem cX8_wood_24 : chk mX8_wood 24 kX8_wood_24 = true := by decide +kernel
def kX8_wood_14 : List BI := [bi (.getfield 193) 3 [4, 10] 0, bi (.iload_n 1) 1 [] 0, bi (.iaload) 1 [] 0, bi (.istore_n 2) 1 [] 0, bi (.aload_n 0) 1 [] 0, bi (.getfield 70) 3 [8, 9] 0]
theorem cX8_wood_14 : chk mX8_wood 14 kX8_wood_14 = true := by decide +kernel
def kX8_wood_10 : List BI := [bi (.aload_n 0) 1 [] 0, bi (.getfield 70) 3 [8, 9] 0]
theorem cX8_wood_10 : chk mX8_wood 10 kX8_wood_10 = true := by decide +kernel
def kX8_wood_0 : List BI := [bi (.aload_n 0) 1 [] 0, bi (.iload_n 1) 1 [] 0, bi (.invokevirtual 139) 3 [mX8_isGuard, 2, 2, 8] 0, bi (.ifCond .ne (5)) 3 [10] 0, bi (.iconst (-1)) 1 [] 0, bi (.ireturn) 1 [] 0]
theorem cX8_wood_0 : chk mX8_wood 0 kX8_wood_0 = true := by decide +kernel
theorem xwood_0 {d : Nat} {σ : SG} {Q : Option AV → SG → Prop} {g : Int} {r : Nat} (hr : r = 5 ∨ r = 16) (hx : (σ 0 9).toNat = r) (h : (0 < d) ∧ (r3 g) ∧ (g < 0 → Q (some (.inl ((-1)))) σ) ∧ (0 ≤ g → (r3 g ∧ r3 (σ r 1)) ∧ ((σ r 1) ≤ g → Q (some (.inl ((-1)))) σ) ∧ (g < (σ r 1) → (0 ≤ g ∧ g < 8) ∧ (0 ≤ (σ (r + 6) g) ∧ (σ (r + 6) g) < 4) ∧ (0 < d) ∧ (1 ≤ d - 1 ∧ SR (σ 35) ∧ 0 ≤ (σ (r + 6) g) ∧ (σ (r + 6) g) < 4 ∧ 0 ≤ (σ (r + 2) (σ (r + 6) g)) ∧ (σ (r + 2) (σ (r + 6) g)) ≤ 14) ∧ (0 ≤ g ∧ g < 8) ∧ (0 < d) ∧ (chpO (d - 1) (putF σ 31 (flF (frP (bor (σ 35 (6 + (σ (r + 6) g))) (σ 35 (18 + (σ (r + 6) g)))) (σ 35 (14 + (σ (r + 6) g)))) (σ 31) (σ (r + 2) (σ (r + 6) g)))) (σ (r + 2) (σ (r + 6) g)) ((putF σ 31 (flF (frP (bor (σ 35 (6 + (σ (r + 6) g))) (σ 35 (18 + (σ (r + 6) g)))) (σ 35 (14 + (σ (r + 6) g)))) (σ 31) (σ (r + 2) (σ (r + 6) g)))) (r + 7) g)) ∧ (∀ f1 : Int → Int, (r3 (chpV ((putF σ 31 (flF (frP (bor (σ 35 (6 + (σ (r + 6) g))) (σ 35 (18 + (σ (r + 6) g)))) (σ 35 (14 + (σ (r + 6) g)))) (σ 31) (σ (r + 2) (σ (r + 6) g)))) 31) ((putF σ 31 (flF (frP (bor (σ 35 (6 + (σ (r + 6) g))) (σ 35 (18 + (σ (r + 6) g)))) (σ 35 (14 + (σ (r + 6) g)))) (σ 31) (σ (r + 2) (σ (r + 6) g)))) (r + 7) g) (σ (r + 2) (σ (r + 6) g)))) ∧ ((chpV ((putF σ 31 (flF (frP (bor (σ 35 (6 + (σ (r + 6) g))) (σ 35 (18 + (σ (r + 6) g)))) (σ 35 (14 + (σ (r + 6) g)))) (σ 31) (σ (r + 2) (σ (r + 6) g)))) 31) ((putF σ 31 (flF (frP (bor (σ 35 (6 + (σ (r + 6) g))) (σ 35 (18 + (σ (r + 6) g)))) (σ 35 (14 + (σ (r + 6) g)))) (σ 31) (σ (r + 2) (σ (r + 6) g)))) (r + 7) g) (σ (r + 2) (σ (r + 6) g))) ≠ (-1) → (0 ≤ (σ (r + 6) g) ∧ (σ (r + 6) g) < 4) ∧ Q (some (.inl ((chpV ((putF σ 31 (flF (frP (bor (σ 35 (6 + (σ (r + 6) g))) (σ 35 (18 + (σ (r + 6) g)))) (σ 35 (14 + (σ (r + 6) g)))) (σ 31) (σ (r + 2) (σ (r + 6) g)))) 31) ((putF σ 31 (flF (frP (bor (σ 35 (6 + (σ (r + 6) g))) (σ 35 (18 + (σ (r + 6) g)))) (σ 35 (14 + (σ (r + 6) g)))) (σ 31) (σ (r + 2) (σ (r + 6) g)))) (r + 7) g) (σ (r + 2) (σ (r + 6) g))) * ((putF (putF σ 31 (flF (frP (bor (σ 35 (6 + (σ (r + 6) g))) (σ 35 (18 + (σ (r + 6) g)))) (σ 35 (14 + (σ (r + 6) g)))) (σ 31) (σ (r + 2) (σ (r + 6) g)))) 32 f1) (r + 3) (σ (r + 6) g))))) (putF (putF σ 31 (flF (frP (bor (σ 35 (6 + (σ (r + 6) g))) (σ 35 (18 + (σ (r + 6) g)))) (σ 35 (14 + (σ (r + 6) g)))) (σ 31) (σ (r + 2) (σ (r + 6) g)))) 32 f1)) ∧ ((chpV ((putF σ 31 (flF (frP (bor (σ 35 (6 + (σ (r + 6) g))) (σ 35 (18 + (σ (r + 6) g)))) (σ 35 (14 + (σ (r + 6) g)))) (σ 31) (σ (r + 2) (σ (r + 6) g)))) 31) ((putF σ 31 (flF (frP (bor (σ 35 (6 + (σ (r + 6) g))) (σ 35 (18 + (σ (r + 6) g)))) (σ 35 (14 + (σ (r + 6) g)))) (σ 31) (σ (r + 2) (σ (r + 6) g)))) (r + 7) g) (σ (r + 2) (σ (r + 6) g))) = (-1) → Q (some (.inl ((-1)))) (putF (putF σ 31 (flF (frP (bor (σ 35 (6 + (σ (r + 6) g))) (σ 35 (18 + (σ (r + 6) g)))) (σ 35 (14 + (σ (r + 6) g)))) (σ 31) (σ (r + 2) (σ (r + 6) g)))) 32 f1)))))) : AW d mX8_wood 0 [some (.inr (.inr 0)), some (.inl g), none, none, none] [] σ Q := by
  rcases hr with rfl | rfl <;> exact AW.blk kX8_wood_0 cX8_wood_0 (⟨(h).1, AW.blk kX8_isGuard_0 cX8_isGuard_0 (⟨((h).2).1, ⟨fun c4 => AW.blk kX8_isGuard_19 cX8_isGuard_19 (⟨(by decide), ⟨(by decide), ⟨fun c => absurd c (by decide), fun _ => (((h).2).2).1 c4⟩⟩⟩), fun c4 => aw_rl hx (AW.blk kX8_isGuard_9 cX8_isGuard_9 (⟨⟨(((((h).2).2).2 c4).1).1, (((((h).2).2).2 c4).1).2⟩, ⟨fun c3 => AW.blk kX8_isGuard_19 cX8_isGuard_19 (⟨(by decide), ⟨(by decide), ⟨fun c => absurd c (by decide), fun _ => (((((h).2).2).2 c4).2).1 c3⟩⟩⟩), fun c3 => AW.blk kX8_isGuard_20 cX8_isGuard_20 (⟨(by decide), ⟨(by decide), ⟨fun _ => AW.blk kX8_wood_10 cX8_wood_10 (aw_rl hx (AW.blk kX8_wood_14 cX8_wood_14 (⟨⟨(((((((h).2).2).2 c4).2).2 c3).1).1, (((((((h).2).2).2 c4).2).2 c3).1).2⟩, aw_rl hx (AW.blk kX8_wood_24 cX8_wood_24 (⟨⟨((((((((h).2).2).2 c4).2).2 c3).2).1).1, ((((((((h).2).2).2 c4).2).2 c3).2).1).2⟩, ⟨((((((((h).2).2).2 c4).2).2 c3).2).2).1, forRefits_ok ⟨(((((((((h).2).2).2 c4).2).2 c3).2).2).2).1, aw_rl hx (AW.blk kX8_wood_52 cX8_wood_52 (⟨⟨(((((((((((h).2).2).2 c4).2).2 c3).2).2).2).2).1).1, (((((((((((h).2).2).2 c4).2).2 c3).2).2).2).2).1).2⟩, ⟨(((((((((((h).2).2).2 c4).2).2 c3).2).2).2).2).2).1, cheapest2_ok ⟨((((((((((((h).2).2).2 c4).2).2 c3).2).2).2).2).2).2).1, fun f1 => ⟨⟨((((((((((((((h).2).2).2 c4).2).2 c3).2).2).2).2).2).2).2 f1)).1, (by decide)⟩, ⟨fun c2 => AW.blk kX8_wood_72 cX8_wood_72 (aw_rl hx (AW.blk kX8_wood_78 cX8_wood_78 (⟨⟨(((((((((((((((((h).2).2).2 c4).2).2 c3).2).2).2).2).2).2).2 f1)).2).1 c2).1).1, (((((((((((((((((h).2).2).2 c4).2).2 c3).2).2).2).2).2).2).2 f1)).2).1 c2).1).2⟩, ((((((((((((((((h).2).2).2 c4).2).2 c3).2).2).2).2).2).2).2 f1)).2).1 c2).2⟩))), fun c2 => AW.blk kX8_wood_84 cX8_wood_84 ((((((((((((((((h).2).2).2 c4).2).2 c3).2).2).2).2).2).2).2 f1)).2).2 c2)⟩⟩⟩⟩⟩))⟩⟩⟩))⟩))), fun c => absurd c (by decide)⟩⟩⟩)⟩⟩))⟩⟩)⟩)
def kX9_wood_50 : List BI := [bi (.iload_n 3) 1 [] 0, bi (.aload_n 0) 1 [] 0, bi (.iload_n 2) 1 [] 0, bi (.invokevirtual 382) 3 [mX9_woodOf, 2, 2, 9] 0, bi (.imul) 1 [] 0, bi (.ireturn) 1 [] 0]
theorem cX9_wood_50 : chk mX9_wood 50 kX9_wood_50 = true := by decide +kernel
def kX9_wood_57 : List BI := [bi (.ireturn) 1 [] 0]
theorem cX9_wood_57 : chk mX9_wood 57 kX9_wood_57 = true := by decide +kernel
def kX9_wood_10 : List BI := [bi (.aload_n 0) 1 [] 0, bi (.getfield 79) 3 [9, 31] 0, bi (.bipush (24)) 2 [] 0, bi (.iconst 3) 1 [] 0, bi (.iload_n 1) 1 [] 0, bi (.imul) 1 [] 0, bi (.iadd) 1 [] 0, bi (.iaload) 1 [] 0, bi (.istore_n 2) 1 [] 0, bi (.aload_n 0) 1 [] 0, bi (.iload_n 2) 1 [] 0, bi (.aload_n 0) 1 [] 0, bi (.getfield 79) 3 [9, 31] 0, bi (.bipush (24)) 2 [] 0, bi (.iconst 3) 1 [] 0, bi (.iload_n 1) 1 [] 0, bi (.imul) 1 [] 0, bi (.iadd) 1 [] 0, bi (.iconst 1) 1 [] 0, bi (.iadd) 1 [] 0, bi (.iaload) 1 [] 0, bi (.invokevirtual 467) 3 [mX9_bentUp, 3, 8, 9] 0, bi (.istore_n 3) 1 [] 0, bi (.iload_n 3) 1 [] 0, bi (.iconst (-1)) 1 [] 0, bi (.if_icmp .ne (7)) 3 [50] 0, bi (.iconst (-1)) 1 [] 0, bi (.goto (10)) 3 [57] 0]
theorem cX9_wood_10 : chk mX9_wood 10 kX9_wood_10 = true := by decide +kernel
def kX9_wood_0 : List BI := [bi (.aload_n 0) 1 [] 0, bi (.iload_n 1) 1 [] 0, bi (.invokevirtual 403) 3 [mX9_isGuard, 2, 2, 9] 0, bi (.ifCond .ne (5)) 3 [10] 0, bi (.iconst (-1)) 1 [] 0, bi (.ireturn) 1 [] 0]
theorem cX9_wood_0 : chk mX9_wood 0 kX9_wood_0 = true := by decide +kernel
theorem mwood_0 {d : Nat} {σ : SG} {Q : Option AV → SG → Prop} {g : Int} (h : (0 < d) ∧ (r3 g) ∧ (0 < d - 1) ∧ (r3 ((σ 61 5) - 1)) ∧ (0 < d - 1) ∧ (r6 g) ∧ (g < 0 → Q (some (.inl ((-1)))) σ) ∧ (0 ≤ g → (r6 g ∧ r6 ((σ 61 5) - 1)) ∧ (((σ 61 5) - 1) < g → Q (some (.inl ((-1)))) σ) ∧ (g ≤ ((σ 61 5) - 1) → (0 ≤ (24 + (3 * g)) ∧ (24 + (3 * g)) < 48) ∧ (0 ≤ ((24 + (3 * g)) + 1) ∧ ((24 + (3 * g)) + 1) < 48) ∧ (0 < d) ∧ (mbO (d - 1) σ (σ 64 (24 + (3 * g))) (σ 64 ((24 + (3 * g)) + 1))) ∧ (∀ f5 : Int → Int, (r3 (chpV (mbP (σ 69) (σ 64 (24 + (3 * g))) (mstV σ (σ 64 (24 + (3 * g))))) (σ 64 ((24 + (3 * g)) + 1)) (σ 63 (8 + 2 * (σ 64 (24 + (3 * g))))))) ∧ ((chpV (mbP (σ 69) (σ 64 (24 + (3 * g))) (mstV σ (σ 64 (24 + (3 * g))))) (σ 64 ((24 + (3 * g)) + 1)) (σ 63 (8 + 2 * (σ 64 (24 + (3 * g)))))) ≠ (-1) → (0 < d) ∧ (0 ≤ ((8 + (2 * (σ 64 (24 + (3 * g))))) + 1) ∧ ((8 + (2 * (σ 64 (24 + (3 * g))))) + 1) < 16) ∧ Q (some (.inl ((chpV (mbP (σ 69) (σ 64 (24 + (3 * g))) (mstV σ (σ 64 (24 + (3 * g))))) (σ 64 ((24 + (3 * g)) + 1)) (σ 63 (8 + 2 * (σ 64 (24 + (3 * g)))))) * (σ 63 ((8 + (2 * (σ 64 (24 + (3 * g))))) + 1))))) (putF σ 70 f5)) ∧ ((chpV (mbP (σ 69) (σ 64 (24 + (3 * g))) (mstV σ (σ 64 (24 + (3 * g))))) (σ 64 ((24 + (3 * g)) + 1)) (σ 63 (8 + 2 * (σ 64 (24 + (3 * g)))))) = (-1) → Q (some (.inl ((-1)))) (putF σ 70 f5)))))) : AW d mX9_wood 0 [some (.inr (.inr 42)), some (.inl g), none, none] [] σ Q := AW.blk kX9_wood_0 cX9_wood_0 (⟨(h).1, AW.blk kX9_isGuard_0 cX9_isGuard_0 (⟨((h).2).1, ⟨(((h).2).2).1, AW.blk kX9_guardMany_0 cX9_guardMany_0 (⟨⟨(by decide), (by decide)⟩, ⟨((((h).2).2).2).1, ⟨(((((h).2).2).2).2).1, AW.blk kX9_isIn_0 cX9_isIn_0 (⟨⟨((((((h).2).2).2).2).2).1, (by decide)⟩, ⟨fun c8 => AW.blk kX9_isIn_17 cX9_isIn_17 (⟨(by decide), ⟨(by decide), ⟨(by decide), ⟨fun c => absurd c (by decide), fun _ => (((((((h).2).2).2).2).2).2).1 c8⟩⟩⟩⟩), fun c8 => ⟨⟨(((((((((h).2).2).2).2).2).2).2 c8).1).1, (((((((((h).2).2).2).2).2).2).2 c8).1).2⟩, ⟨fun c7 => AW.blk kX9_isIn_17 cX9_isIn_17 (⟨(by decide), ⟨(by decide), ⟨(by decide), ⟨fun c => absurd c (by decide), fun _ => (((((((((h).2).2).2).2).2).2).2 c8).2).1 c7⟩⟩⟩⟩), fun c7 => AW.blk kX9_isIn_18 cX9_isIn_18 (⟨(by decide), ⟨(by decide), ⟨(by decide), ⟨fun _ => AW.blk kX9_wood_10 cX9_wood_10 (⟨⟨(((((((((((h).2).2).2).2).2).2).2 c8).2).2 c7).1).1, (((((((((((h).2).2).2).2).2).2).2 c8).2).2 c7).1).2⟩, ⟨⟨((((((((((((h).2).2).2).2).2).2).2 c8).2).2 c7).2).1).1, ((((((((((((h).2).2).2).2).2).2).2 c8).2).2 c7).2).1).2⟩, ⟨((((((((((((h).2).2).2).2).2).2).2 c8).2).2 c7).2).2).1, mbentUp_ok ⟨(((((((((((((h).2).2).2).2).2).2).2 c8).2).2 c7).2).2).2).1, fun f5 => ⟨⟨(((((((((((((((h).2).2).2).2).2).2).2 c8).2).2 c7).2).2).2).2 f5)).1, (by decide)⟩, ⟨fun c6 => AW.blk kX9_wood_50 cX9_wood_50 (⟨(((((((((((((((((h).2).2).2).2).2).2).2 c8).2).2 c7).2).2).2).2 f5)).2).1 c6).1, AW.blk kX9_woodOf_0 cX9_woodOf_0 (⟨⟨(((((((((((((((((((h).2).2).2).2).2).2).2 c8).2).2 c7).2).2).2).2 f5)).2).1 c6).2).1).1, (((((((((((((((((((h).2).2).2).2).2).2).2 c8).2).2 c7).2).2).2).2 f5)).2).1 c6).2).1).2⟩, ((((((((((((((((((h).2).2).2).2).2).2).2 c8).2).2 c7).2).2).2).2 f5)).2).1 c6).2).2⟩)⟩), fun c6 => AW.blk kX9_wood_57 cX9_wood_57 (((((((((((((((((h).2).2).2).2).2).2).2 c8).2).2 c7).2).2).2).2 f5)).2).2 c6)⟩⟩⟩⟩⟩⟩), fun c => absurd c (by decide)⟩⟩⟩⟩)⟩⟩⟩⟩)⟩⟩⟩)⟩⟩)⟩)
theorem wood_P {σ : SG} {n : Int} {r q : Nat} (h : SIM n σ r q) {t : Int} (t0 : 0 ≤ t) (t1 : t < σ r 0) (lg : Int) : chpV (flF (frP (bor (σ 35 (6 + t)) (σ 35 (18 + t))) (σ 35 (14 + t))) (σ 31) (σ (r + 2) t)) lg (σ (r + 2) t) = chpV (mbP (σ 69) t (mstV σ t)) lg (σ (r + 2) t) := by
  obtain ⟨⟨hh1, hh2, t4⟩, h63, _, hMS, em, hr⟩ := h.tw t0 t1
  have hb := (h.2.2.2.2.2.1.2.2.2.1 t t0 t1).2.2.2.1
  apply chpV_cong
  intro s s0 s1
  unfold flF
  rw [if_pos ⟨s0, s1⟩]
  unfold frP mbP
  rw [em, hb]
  have w3 := hwb (σ 69) (t := t) (w := 3) s0 s1 hh2
  have wb := band_pow0 (x := mstV σ t) (k := (s - 1).toNat) (by omega)
  by_cases c : tb (mstV σ t) (s - 1).toNat = true
  · rw [if_pos c, if_neg (fun z => by rw [wb.mp z] at c; cases c)]
  · rw [if_neg c, if_pos (wb.mpr (by simpa using c))]
    by_cases c3 : σ 69 (6 + 14 * t + s - 1) = 3
    · rw [if_pos c3, if_neg (fun z => w3.mp z c3)]
    · rw [if_neg c3, if_pos (w3.mpr c3)]
theorem frP_r (a b : Int) (s : Int) : -1 ≤ frP a b s ∧ frP a b s ≤ 1 := by
  unfold frP
  split
  · split <;> omega
  · omega
theorem call_wood {d : Nat} {n : Int} {σ : SG} {r q : Nat} {g : Int} (hd : 100 ≤ d) (h : SIM n σ r q) (hg : r3 g) : AW d mX8_wood 0 [some (.inr (.inr 0)), some (.inl g), none, none, none] [] σ (SAME d n r q mX9_wood [some (.inr (.inr 42)), some (.inl g), none, none]) := by
  obtain ⟨hr, _, hx, _⟩ := h.rr
  obtain ⟨hLR, hSR, hML, hMG, hRL, hN, hW⟩ := h.lr
  rcases h.gdo g with ⟨g0, g1, g2, g3, g4⟩ | g0
  · have hT0 := g1.1
    have hT1 := g1.2.1
    obtain ⟨⟨hh1, hh2, t4⟩, h63, h63c, hMS, em, hrr⟩ := h.tw hT0 hT1
    have hP := wood_P h hT0 hT1 (σ (r + 7) g)
    have hcr := hRL.2.2.1 _ hT0 hT1
    generalize hA : flF (frP (bor (σ 35 (6 + σ (r + 6) g)) (σ 35 (18 + σ (r + 6) g))) (σ 35 (14 + σ (r + 6) g))) (σ 31) (σ (r + 2) (σ (r + 6) g)) = A at hP
    have hAr : ∀ s, 1 ≤ s → s ≤ σ (r + 2) (σ (r + 6) g) → -1 ≤ A s ∧ A s ≤ 1 := by
      intro s s0 s1
      rw [← hA]
      unfold flF
      rw [if_pos ⟨s0, s1⟩]
      exact frP_r _ _ _
    have hv := chO_r1 (P := A) (g := fun _ => 0) (lg := σ (r + 7) g) (ht := σ (r + 2) (σ (r + 6) g)) (by omega) hAr (i := σ (r + 2) (σ (r + 6) g)) (by omega) (Int.le_refl _) (σ (r + 2) (σ (r + 6) g)) (by omega) (by omega)
    change -1 ≤ chpV A (σ (r + 7) g) (σ (r + 2) (σ (r + 6) g)) ∧ chpV A (σ (r + 7) g) (σ (r + 2) (σ (r + 6) g)) ≤ _ at hv
    have z : ∀ p, p ≠ 31 → putF σ 31 A p = σ p := fun p hp => putF_ne hp
    -- the reference
    have ref : ∀ f : Int → Int, SAME d n r q mX9_wood [some (.inr (.inr 42)), some (.inl g), none, none] (some (.inl (if chpV A (σ (r + 7) g) (σ (r + 2) (σ (r + 6) g)) = -1 then -1 else chpV A (σ (r + 7) g) (σ (r + 2) (σ (r + 6) g)) * σ (r + 3) (σ (r + 6) g)))) (putF (putF σ 31 A) 32 f) := by
      intro f
      generalize hτ : putF (putF σ 31 A) 32 f = τ
      have zt : ∀ p, p ≠ 31 → p ≠ 32 → τ p = σ p := fun p a b => by rw [← hτ, putF_ne b, putF_ne a]
      have hS : ∀ f70, SIM n (putF τ 70 f70) r q := fun f70 => by
        rw [← hτ]
        exact ((h.eqv (EQV.pf hr (p := 31) (f := A) (by omega))).eqv (EQV.pf hr (p := 32) (f := f) (by omega))).p70 f70
      have hS0 : SIM n τ r q := by
        rw [← hτ]
        exact (h.eqv (EQV.pf hr (p := 31) (f := A) (by omega))).eqv (EQV.pf hr (p := 32) (f := f) (by omega))
      have emt : mstV τ (σ (r + 6) g) = mstV σ (σ (r + 6) g) := by unfold mstV; rw [zt 69 (by decide) (by decide), zt 63 (by decide) (by decide)]
      unfold SAME
      refine mwood_0 ?_
      rw [zt 61 (by decide) (by decide), zt 64 (by decide) (by decide), g2, g3, emt, zt 69 (by decide) (by decide), zt 63 (by decide) (by decide), h63, ← hP]
      refine ⟨by omega, by omega, by omega, by omega, by omega, by omega, fun c => by omega, fun _ => ⟨by omega, fun c => by omega, fun _ => ⟨by omega, by omega, by omega, ⟨by omega, by rw [zt 69 (by decide) (by decide)]; exact hML, by omega, by omega, by rw [zt 63 (by decide) (by decide)]; omega, by rw [zt 63 (by decide) (by decide)]; omega, by rw [zt 63 (by decide) (by decide), zt 69 (by decide) (by decide)]; exact hMS, by omega, by omega⟩, fun f70 => ⟨by omega, fun c => ⟨by omega, by omega, ?_⟩, fun c => ?_⟩⟩⟩⟩
      · rw [if_neg c, h63c]
        exact ⟨rfl, hS f70⟩
      · rw [if_pos c]
        exact ⟨rfl, hS f70⟩
    refine xwood_0 hr hx ?_
    rw [hA, putF_at, z (r + 7) (by omega)]
    refine ⟨by omega, by omega, fun c => by omega, fun _ => ⟨by omega, fun c => by omega, fun _ => ⟨by omega, by omega, by omega, ⟨by omega, hSR, by omega, by omega, by omega, by omega⟩, by omega, by omega, ⟨by omega, by omega, by omega, by omega, by omega, ?_⟩, fun f => ⟨by omega, fun c => ⟨by omega, ?_⟩, fun c => ?_⟩⟩⟩⟩
    · intro s s0 s1
      rw [putF_at]
      have := hAr s s0 s1
      omega
    · have := ref f
      rw [if_neg c] at this
      rw [putF_ne (show r + 3 ≠ 32 by omega), z (r + 3) (by omega)]
      exact this
    · have := ref f
      rw [if_pos c] at this
      exact this
  · have hm : SAME d n r q mX9_wood [some (.inr (.inr 42)), some (.inl g), none, none] (some (.inl (-1))) σ := by
      unfold SAME
      exact mwood_0 ⟨by omega, by omega, by omega, by omega, by omega, by omega, fun c => ⟨rfl, h⟩, fun _ => ⟨by omega, fun c => ⟨rfl, h⟩, fun z => by omega⟩⟩
    exact xwood_0 hr hx ⟨by omega, by omega, fun c => hm, fun _ => ⟨by omega, fun c => hm, fun z => by omega⟩⟩
