/-! ===== ring (wip/whole/gen84.py) ===== -/
def kX8_ringThrough_0 : List BI := [bi (.iconst 1) 1 [] 0, bi (.iload_n 1) 1 [] 0, bi (.ishl) 1 [] 0, bi (.istore_n 2) 1 [] 0, bi (.iconst 1) 1 [] 0, bi (.istore_n 3) 1 [] 0]
theorem cX8_ringThrough_0 : chk mX8_ringThrough 0 kX8_ringThrough_0 = true := by decide +kernel
theorem xrt_0 {d : Nat} {σ : SG} {Q : Option AV → SG → Prop} {t : Int} (h : (0 ≤ t ∧ t < 32) ∧ AW d mX8_ringThrough 6 [some (.inr (.inr 0)), some (.inl t), some (.inl (1 * 2 ^ Int.toNat t)), some (.inl 1), none, none] [] σ Q) : AW d mX8_ringThrough 0 [some (.inr (.inr 0)), some (.inl t), none, none, none, none] [] σ Q := AW.blk kX8_ringThrough_0 cX8_ringThrough_0 (⟨⟨((h).1).1, ((h).1).2⟩, (h).2⟩)
def kX8_ringThrough_84 : List BI := [bi (.iconst 0) 1 [] 0, bi (.ireturn) 1 [] 0]
theorem cX8_ringThrough_84 : chk mX8_ringThrough 84 kX8_ringThrough_84 = true := by decide +kernel
def kX8_ringThrough_11 : List BI := [bi (.getfield 100) 3 [4, 0] 0, bi (.if_icmp .gt (70)) 3 [84] 0, bi (.iconst 0) 1 [] 0, bi (.istore 4) 2 [] 0, bi (.iconst 0) 1 [] 0, bi (.istore 5) 2 [] 0]
theorem cX8_ringThrough_11 : chk mX8_ringThrough 11 kX8_ringThrough_11 = true := by decide +kernel
def kX8_ringThrough_6 : List BI := [bi (.iload_n 3) 1 [] 0, bi (.aload_n 0) 1 [] 0, bi (.getfield 70) 3 [8, 9] 0]
theorem cX8_ringThrough_6 : chk mX8_ringThrough 6 kX8_ringThrough_6 = true := by decide +kernel
theorem xrt_6 {d : Nat} {σ : SG} {Q : Option AV → SG → Prop} {t l2 l3 : Int} {r : Nat} (hr : r = 5 ∨ r = 16) (hx : (σ 0 9).toNat = r) (h : (r3 l3 ∧ r3 (σ r 0)) ∧ ((σ r 0) < l3 → Q (some (.inl 0)) σ) ∧ (l3 ≤ (σ r 0) → AW d mX8_ringThrough 23 [some (.inr (.inr 0)), some (.inl t), some (.inl l2), some (.inl l3), some (.inl 0), some (.inl 0)] [] σ Q)) : AW d mX8_ringThrough 6 [some (.inr (.inr 0)), some (.inl t), some (.inl l2), some (.inl l3), none, none] [] σ Q := by
  rcases hr with rfl | rfl <;> exact AW.blk kX8_ringThrough_6 cX8_ringThrough_6 (aw_rl hx (AW.blk kX8_ringThrough_11 cX8_ringThrough_11 (⟨⟨((h).1).1, ((h).1).2⟩, ⟨fun c1 => AW.blk kX8_ringThrough_84 cX8_ringThrough_84 (((h).2).1 c1), fun c1 => ((h).2).2 c1⟩⟩)))
def kX8_ringThrough_75 : List BI := [bi (.iload 4) 2 [] 0, bi (.istore_n 2) 1 [] 0, bi (.iinc 3 (1)) 3 [] 0, bi (.goto (-75)) 3 [6] 0]
theorem cX8_ringThrough_75 : chk mX8_ringThrough 75 kX8_ringThrough_75 = true := by decide +kernel
def kX8_ringThrough_64 : List BI := [bi (.iload 4) 2 [] 0, bi (.iconst 1) 1 [] 0, bi (.iload_n 1) 1 [] 0, bi (.ishl) 1 [] 0, bi (.iand) 1 [] 0, bi (.ifCond .eq (5)) 3 [75] 0, bi (.iload_n 3) 1 [] 0, bi (.ireturn) 1 [] 0]
theorem cX8_ringThrough_64 : chk mX8_ringThrough 64 kX8_ringThrough_64 = true := by decide +kernel
def kX8_ringThrough_58 : List BI := [bi (.iinc 5 (1)) 3 [] 0, bi (.goto (-38)) 3 [23] 0]
theorem cX8_ringThrough_58 : chk mX8_ringThrough 58 kX8_ringThrough_58 = true := by decide +kernel
def kX8_ringThrough_29 : List BI := [bi (.getfield 100) 3 [4, 0] 0, bi (.if_icmp .ge (32)) 3 [64] 0, bi (.iload_n 2) 1 [] 0, bi (.iconst 1) 1 [] 0, bi (.iload 5) 2 [] 0, bi (.ishl) 1 [] 0, bi (.iand) 1 [] 0, bi (.ifCond .eq (17)) 3 [58] 0, bi (.iload 4) 2 [] 0, bi (.aload_n 0) 1 [] 0, bi (.getfield 42) 3 [8, 4] 0, bi (.iload 5) 2 [] 0, bi (.invokevirtual 327) 3 [mX6_borrowersOf, 2, 4, 6] 0, bi (.ior) 1 [] 0, bi (.istore 4) 2 [] 0, bi (.iinc 5 (1)) 3 [] 0, bi (.goto (-38)) 3 [23] 0]
theorem cX8_ringThrough_29 : chk mX8_ringThrough 29 kX8_ringThrough_29 = true := by decide +kernel
def kX8_ringThrough_23 : List BI := [bi (.iload 5) 2 [] 0, bi (.aload_n 0) 1 [] 0, bi (.getfield 70) 3 [8, 9] 0]
theorem cX8_ringThrough_23 : chk mX8_ringThrough 23 kX8_ringThrough_23 = true := by decide +kernel
theorem xrt_23 {d : Nat} {σ : SG} {Q : Option AV → SG → Prop} {t l2 l3 l4 l5 : Int} {r : Nat} (hr : r = 5 ∨ r = 16) (hx : (σ 0 9).toNat = r) (h : (r3 l5 ∧ r3 (σ r 0)) ∧ ((σ r 0) ≤ l5 → (0 ≤ t ∧ t < 32) ∧ (r3 (band l4 (1 * 2 ^ Int.toNat t))) ∧ ((band l4 (1 * 2 ^ Int.toNat t)) = 0 → AW d mX8_ringThrough 6 [some (.inr (.inr 0)), some (.inl t), some (.inl l4), some (.inl (l3 + 1)), none, none] [] σ Q) ∧ ((band l4 (1 * 2 ^ Int.toNat t)) ≠ 0 → Q (some (.inl l3)) σ)) ∧ (l5 < (σ r 0) → (0 ≤ l5 ∧ l5 < 32) ∧ (r3 (band l2 (1 * 2 ^ Int.toNat l5))) ∧ ((band l2 (1 * 2 ^ Int.toNat l5)) = 0 → AW d mX8_ringThrough 23 [some (.inr (.inr 0)), some (.inl t), some (.inl l2), some (.inl l3), some (.inl l4), some (.inl (l5 + 1))] [] σ Q) ∧ ((band l2 (1 * 2 ^ Int.toNat l5)) ≠ 0 → (0 < d) ∧ (2 ≤ d - 1 ∧ LR (σ 35) ∧ r3 l5) ∧ AW d mX8_ringThrough 23 [some (.inr (.inr 0)), some (.inl t), some (.inl l2), some (.inl l3), some (.inl (bor l4 (foI (boB (σ 35) l5) 0 ((σ 35) 1)))), some (.inl (l5 + 1))] [] σ Q))) : AW d mX8_ringThrough 23 [some (.inr (.inr 0)), some (.inl t), some (.inl l2), some (.inl l3), some (.inl l4), some (.inl l5)] [] σ Q := by
  rcases hr with rfl | rfl <;> exact AW.blk kX8_ringThrough_23 cX8_ringThrough_23 (aw_rl hx (AW.blk kX8_ringThrough_29 cX8_ringThrough_29 (⟨⟨((h).1).1, ((h).1).2⟩, ⟨fun c4 => AW.blk kX8_ringThrough_64 cX8_ringThrough_64 (⟨⟨((((h).2).1 c4).1).1, ((((h).2).1 c4).1).2⟩, ⟨((((h).2).1 c4).2).1, ⟨fun c2 => AW.blk kX8_ringThrough_75 cX8_ringThrough_75 (AW.drop 4 (AW.drop 5 ((((((h).2).1 c4).2).2).1 c2))), fun c2 => (((((h).2).1 c4).2).2).2 c2⟩⟩⟩), fun c4 => ⟨⟨((((h).2).2 c4).1).1, ((((h).2).2 c4).1).2⟩, ⟨((((h).2).2 c4).2).1, ⟨fun c3 => AW.blk kX8_ringThrough_58 cX8_ringThrough_58 ((((((h).2).2 c4).2).2).1 c3), fun c3 => ⟨((((((h).2).2 c4).2).2).2 c3).1, borrowersOf_ok (by decide) ⟨(((((((h).2).2 c4).2).2).2 c3).2).1, (((((((h).2).2 c4).2).2).2 c3).2).2⟩⟩⟩⟩⟩⟩⟩)))
def kX8_ring_0 : List BI := [bi (.iconst 0) 1 [] 0, bi (.istore_n 1) 1 [] 0, bi (.iconst 0) 1 [] 0, bi (.istore_n 2) 1 [] 0]
theorem cX8_ring_0 : chk mX8_ring 0 kX8_ring_0 = true := by decide +kernel
theorem xri_0 {d : Nat} {σ : SG} {Q : Option AV → SG → Prop} (h : AW d mX8_ring 4 [some (.inr (.inr 0)), some (.inl 0), some (.inl 0), none] [] σ Q) : AW d mX8_ring 0 [some (.inr (.inr 0)), none, none, none] [] σ Q := AW.blk kX8_ring_0 cX8_ring_0 (h)
def kX8_ring_36 : List BI := [bi (.iinc 2 (1)) 3 [] 0, bi (.goto (-35)) 3 [4] 0]
theorem cX8_ring_36 : chk mX8_ring 36 kX8_ring_36 = true := by decide +kernel
def kX8_ring_34 : List BI := [bi (.iload_n 3) 1 [] 0, bi (.istore_n 1) 1 [] 0, bi (.iinc 2 (1)) 3 [] 0, bi (.goto (-35)) 3 [4] 0]
theorem cX8_ring_34 : chk mX8_ring 34 kX8_ring_34 = true := by decide +kernel
def kX8_ring_20 : List BI := [bi (.istore_n 3) 1 [] 0, bi (.iload_n 3) 1 [] 0, bi (.ifCond .eq (14)) 3 [36] 0, bi (.iload_n 1) 1 [] 0, bi (.ifCond .eq (8)) 3 [34] 0, bi (.iload_n 3) 1 [] 0, bi (.iload_n 1) 1 [] 0, bi (.if_icmp .ge (5)) 3 [36] 0, bi (.iload_n 3) 1 [] 0, bi (.istore_n 1) 1 [] 0, bi (.iinc 2 (1)) 3 [] 0, bi (.goto (-35)) 3 [4] 0]
theorem cX8_ring_20 : chk mX8_ring 20 kX8_ring_20 = true := by decide +kernel
theorem xri_20 {d : Nat} {σ : SG} {Q : Option AV → SG → Prop} {l1 l2 s0 : Int} (h : (r3 s0) ∧ (s0 = 0 → AW d mX8_ring 4 [some (.inr (.inr 0)), some (.inl l1), some (.inl (l2 + 1)), none] [] σ Q) ∧ (s0 ≠ 0 → (r3 l1) ∧ (l1 = 0 → AW d mX8_ring 4 [some (.inr (.inr 0)), some (.inl s0), some (.inl (l2 + 1)), none] [] σ Q) ∧ (l1 ≠ 0 → (r3 s0 ∧ r3 l1) ∧ (l1 ≤ s0 → AW d mX8_ring 4 [some (.inr (.inr 0)), some (.inl l1), some (.inl (l2 + 1)), none] [] σ Q) ∧ (s0 < l1 → AW d mX8_ring 4 [some (.inr (.inr 0)), some (.inl s0), some (.inl (l2 + 1)), none] [] σ Q)))) : AW d mX8_ring 20 [some (.inr (.inr 0)), some (.inl l1), some (.inl l2), none] [.inl s0] σ Q := AW.blk kX8_ring_20 cX8_ring_20 (⟨(h).1, ⟨fun c7 => AW.blk kX8_ring_36 cX8_ring_36 (AW.drop 3 (((h).2).1 c7)), fun c7 => ⟨(((h).2).2 c7).1, ⟨fun c6 => AW.blk kX8_ring_34 cX8_ring_34 (AW.drop 3 (((((h).2).2 c7).2).1 c6)), fun c6 => ⟨⟨((((((h).2).2 c7).2).2 c6).1).1, ((((((h).2).2 c7).2).2 c6).1).2⟩, ⟨fun c5 => AW.blk kX8_ring_36 cX8_ring_36 (AW.drop 3 (((((((h).2).2 c7).2).2 c6).2).1 c5)), fun c5 => AW.drop 3 (((((((h).2).2 c7).2).2 c6).2).2 c5)⟩⟩⟩⟩⟩⟩)
def kX8_ring_42 : List BI := [bi (.iload_n 1) 1 [] 0, bi (.ireturn) 1 [] 0]
theorem cX8_ring_42 : chk mX8_ring 42 kX8_ring_42 = true := by decide +kernel
def kX8_ring_9 : List BI := [bi (.getfield 100) 3 [4, 0] 0, bi (.if_icmp .ge (30)) 3 [42] 0, bi (.aload_n 0) 1 [] 0, bi (.iload_n 2) 1 [] 0, bi (.invokevirtual 277) 3 [mX8_ringThrough, 2, 6, 8] 0]
theorem cX8_ring_9 : chk mX8_ring 9 kX8_ring_9 = true := by decide +kernel
def kX8_ring_4 : List BI := [bi (.iload_n 2) 1 [] 0, bi (.aload_n 0) 1 [] 0, bi (.getfield 70) 3 [8, 9] 0]
theorem cX8_ring_4 : chk mX8_ring 4 kX8_ring_4 = true := by decide +kernel
theorem xri_4 {d : Nat} {σ : SG} {Q : Option AV → SG → Prop} {l1 l2 : Int} {r : Nat} (hr : r = 5 ∨ r = 16) (hx : (σ 0 9).toNat = r) (h : (r3 l2 ∧ r3 (σ r 0)) ∧ ((σ r 0) ≤ l2 → Q (some (.inl l1)) σ) ∧ (l2 < (σ r 0) → (0 < d) ∧ AW (d - 1) mX8_ringThrough 0 [some (.inr (.inr 0)), some (.inl l2), none, none, none, none] [] σ (fun rr σ' => AW d mX8_ring 20 [some (.inr (.inr 0)), some (.inl l1), some (.inl l2), none] (rtS rr []) σ' Q))) : AW d mX8_ring 4 [some (.inr (.inr 0)), some (.inl l1), some (.inl l2), none] [] σ Q := by
  rcases hr with rfl | rfl <;> exact AW.blk kX8_ring_4 cX8_ring_4 (aw_rl hx (AW.blk kX8_ring_9 cX8_ring_9 (⟨⟨((h).1).1, ((h).1).2⟩, ⟨fun c8 => AW.blk kX8_ring_42 cX8_ring_42 (((h).2).1 c8), fun c8 => ⟨(((h).2).2 c8).1, (((h).2).2 c8).2⟩⟩⟩)))
def kX9_hasLent_0 : List BI := [bi (.iconst 0) 1 [] 0, bi (.istore_n 3) 1 [] 0]
theorem cX9_hasLent_0 : chk mX9_hasLent 0 kX9_hasLent_0 = true := by decide +kernel
theorem mhl_0 {d : Nat} {σ : SG} {Q : Option AV → SG → Prop} {a b : Int} (h : AW d mX9_hasLent 2 [some (.inr (.inr 42)), some (.inl a), some (.inl b), some (.inl 0)] [] σ Q) : AW d mX9_hasLent 0 [some (.inr (.inr 42)), some (.inl a), some (.inl b), none] [] σ Q := AW.blk kX9_hasLent_0 cX9_hasLent_0 (h)
def kX9_hasLent_46 : List BI := [bi (.iconst 0) 1 [] 0, bi (.ireturn) 1 [1] 0]
theorem cX9_hasLent_46 : chk mX9_hasLent 46 kX9_hasLent_46 = true := by decide +kernel
def kX9_hasLent_40 : List BI := [bi (.iinc 3 (1)) 3 [] 0, bi (.goto (-41)) 3 [2] 0]
theorem cX9_hasLent_40 : chk mX9_hasLent 40 kX9_hasLent_40 = true := by decide +kernel
def kX9_hasLent_2 : List BI := [bi (.iload_n 3) 1 [] 0, bi (.aload_n 0) 1 [] 0, bi (.invokevirtual 335) 3 [mX9_loanMany, 1, 1, 9] 0, bi (.if_icmp .ge (39)) 3 [46] 0, bi (.aload_n 0) 1 [] 0, bi (.iload_n 3) 1 [] 0, bi (.invokevirtual 338) 3 [mX9_lasts, 2, 2, 9] 0, bi (.ifCond .eq (25)) 3 [40] 0, bi (.aload_n 0) 1 [] 0, bi (.iload_n 3) 1 [] 0, bi (.iconst 0) 1 [] 0, bi (.invokevirtual 332) 3 [mX9_loanOf, 3, 3, 9] 0, bi (.iload_n 1) 1 [] 0, bi (.if_icmp .ne (15)) 3 [40] 0, bi (.aload_n 0) 1 [] 0, bi (.iload_n 3) 1 [] 0, bi (.iconst 2) 1 [] 0, bi (.invokevirtual 332) 3 [mX9_loanOf, 3, 3, 9] 0, bi (.iload_n 2) 1 [] 0, bi (.if_icmp .ne (5)) 3 [40] 0, bi (.iconst 1) 1 [] 0, bi (.ireturn) 1 [1] 0]
theorem cX9_hasLent_2 : chk mX9_hasLent 2 kX9_hasLent_2 = true := by decide +kernel
theorem mhl_2 {d : Nat} {σ : SG} {Q : Option AV → SG → Prop} {a b l3 : Int} (h : (0 < d) ∧ (r3 l3 ∧ r3 (σ 69 1)) ∧ ((σ 69 1) ≤ l3 → Q (some (.inl 0)) σ) ∧ (l3 < (σ 69 1) → (0 < d) ∧ (0 < d - 1) ∧ (0 ≤ ((62 + (8 * l3)) + 7) ∧ ((62 + (8 * l3)) + 7) < 254) ∧ (r3 (σ 69 ((62 + (8 * l3)) + 7))) ∧ ((σ 69 ((62 + (8 * l3)) + 7)) ≠ 0 → AW d mX9_hasLent 2 [some (.inr (.inr 42)), some (.inl a), some (.inl b), some (.inl (l3 + 1))] [] σ Q) ∧ ((σ 69 ((62 + (8 * l3)) + 7)) = 0 → (0 < d) ∧ (0 ≤ ((62 + (8 * l3)) + 0) ∧ ((62 + (8 * l3)) + 0) < 254) ∧ (r3 (σ 69 ((62 + (8 * l3)) + 0)) ∧ r3 a) ∧ ((σ 69 ((62 + (8 * l3)) + 0)) ≠ a → AW d mX9_hasLent 2 [some (.inr (.inr 42)), some (.inl a), some (.inl b), some (.inl (l3 + 1))] [] σ Q) ∧ ((σ 69 ((62 + (8 * l3)) + 0)) = a → (0 < d) ∧ (0 ≤ ((62 + (8 * l3)) + 2) ∧ ((62 + (8 * l3)) + 2) < 254) ∧ (r3 (σ 69 ((62 + (8 * l3)) + 2)) ∧ r3 b) ∧ ((σ 69 ((62 + (8 * l3)) + 2)) ≠ b → AW d mX9_hasLent 2 [some (.inr (.inr 42)), some (.inl a), some (.inl b), some (.inl (l3 + 1))] [] σ Q) ∧ ((σ 69 ((62 + (8 * l3)) + 2)) = b → Q (some (.inl 1)) σ))))) : AW d mX9_hasLent 2 [some (.inr (.inr 42)), some (.inl a), some (.inl b), some (.inl l3)] [] σ Q := AW.blk kX9_hasLent_2 cX9_hasLent_2 (⟨(h).1, AW.blk kX9_loanMany_0 cX9_loanMany_0 (⟨⟨(by decide), (by decide)⟩, ⟨⟨(((h).2).1).1, (((h).2).1).2⟩, ⟨fun c12 => AW.blk kX9_hasLent_46 cX9_hasLent_46 (⟨(by decide), (((h).2).2).1 c12⟩), fun c12 => ⟨((((h).2).2).2 c12).1, AW.blk kX9_lasts_0 cX9_lasts_0 (⟨(((((h).2).2).2 c12).2).1, AW.blk kX9_loanOf_0 cX9_loanOf_0 (⟨⟨(((((((h).2).2).2 c12).2).2).1).1, (((((((h).2).2).2 c12).2).2).1).2⟩, ⟨(((((((h).2).2).2 c12).2).2).2).1, ⟨fun c11 => AW.blk kX9_lasts_14 cX9_lasts_14 (⟨(by decide), ⟨(by decide), ⟨fun _ => AW.blk kX9_hasLent_40 cX9_hasLent_40 (((((((((h).2).2).2 c12).2).2).2).2).1 c11), fun c => absurd c (by decide)⟩⟩⟩), fun c11 => AW.blk kX9_lasts_15 cX9_lasts_15 (⟨(by decide), ⟨(by decide), ⟨fun c => absurd c (by decide), fun _ => ⟨(((((((((h).2).2).2 c12).2).2).2).2).2 c11).1, AW.blk kX9_loanOf_0 cX9_loanOf_0 (⟨⟨(((((((((((h).2).2).2 c12).2).2).2).2).2 c11).2).1).1, (((((((((((h).2).2).2 c12).2).2).2).2).2 c11).2).1).2⟩, ⟨⟨((((((((((((h).2).2).2 c12).2).2).2).2).2 c11).2).2).1).1, ((((((((((((h).2).2).2 c12).2).2).2).2).2 c11).2).2).1).2⟩, ⟨fun c10 => AW.blk kX9_hasLent_40 cX9_hasLent_40 (((((((((((((h).2).2).2 c12).2).2).2).2).2 c11).2).2).2).1 c10), fun c10 => ⟨(((((((((((((h).2).2).2 c12).2).2).2).2).2 c11).2).2).2).2 c10).1, AW.blk kX9_loanOf_0 cX9_loanOf_0 (⟨⟨(((((((((((((((h).2).2).2 c12).2).2).2).2).2 c11).2).2).2).2 c10).2).1).1, (((((((((((((((h).2).2).2 c12).2).2).2).2).2 c11).2).2).2).2 c10).2).1).2⟩, ⟨⟨((((((((((((((((h).2).2).2 c12).2).2).2).2).2 c11).2).2).2).2 c10).2).2).1).1, ((((((((((((((((h).2).2).2 c12).2).2).2).2).2 c11).2).2).2).2 c10).2).2).1).2⟩, ⟨fun c9 => AW.blk kX9_hasLent_40 cX9_hasLent_40 (((((((((((((((((h).2).2).2 c12).2).2).2).2).2 c11).2).2).2).2 c10).2).2).2).1 c9), fun c9 => ⟨(by decide), ((((((((((((((((h).2).2).2 c12).2).2).2).2).2 c11).2).2).2).2 c10).2).2).2).2 c9⟩⟩⟩⟩)⟩⟩⟩⟩)⟩⟩⟩⟩)⟩⟩⟩)⟩)⟩⟩⟩⟩)⟩)
def hlB (g : Int → Int) (a b : Int) : Int → Bool := fun i => decide (g (62 + 8 * i + 7) = 0 ∧ g (62 + 8 * i + 0) = a ∧ g (62 + 8 * i + 2) = b)
def hlV (g : Int → Int) (a b : Int) : Int := if fstI (hlB g a b) (g 1) = -1 then 0 else 1
theorem mhasLent_ok {d : Nat} {σ : SG} {Q : Option AV → SG → Prop} {a b : Int} (h : (2 ≤ d ∧ MLR (σ 69) ∧ r3 a ∧ r3 b) ∧ Q (some (.inl (hlV (σ 69) a b))) σ) : AW d mX9_hasLent 0 [some (.inr (.inr 42)), some (.inl a), some (.inl b), none] [] σ Q := by
  obtain ⟨⟨hd, ⟨hc, hL⟩, ht, hs⟩, hq⟩ := h
  unfold hlV at hq
  refine mhl_0 ?_
  refine downInd (P := fun i => fstI (hlB (σ 69) a b) i = -1 → AW d mX9_hasLent 2 [some (.inr (.inr 42)), some (.inl a), some (.inl b), some (.inl i)] [] σ Q) (hi := σ 69 1) hc.1 ?_ ?_ rfl
  · intro hn
    rw [if_pos hn] at hq
    exact mhl_2 ⟨by omega, by omega, fun _ => hq, fun c => by omega⟩
  · intro i h0 h1 ih hn
    have hi := hL i h0 h1
    refine mhl_2 ⟨by omega, by omega, fun c => by omega, fun _ => ⟨by omega, by omega, by omega, by omega, fun c => ih ?_, fun c => ⟨by omega, by omega, by omega, fun c2 => ih ?_, fun c2 => ⟨by omega, by omega, by omega, fun c3 => ih ?_, fun c3 => ?_⟩⟩⟩⟩
    · exact (fstI_s1 _ h0).mpr ⟨hn, decide_eq_false (fun z => c z.1)⟩
    · exact (fstI_s1 _ h0).mpr ⟨hn, decide_eq_false (fun z => c2 z.2.1)⟩
    · exact (fstI_s1 _ h0).mpr ⟨hn, decide_eq_false (fun z => c3 z.2.2)⟩
    · have hh := fstI_hit (hlB (σ 69) a b) h0 h1 hn (decide_eq_true ⟨c, c2, c3⟩)
      rw [hh, if_neg (by omega)] at hq
      exact hq

def kX9_ring_0 : List BI := [bi (.iconst 0) 1 [] 0, bi (.istore_n 1) 1 [] 0, bi (.iconst 0) 1 [] 0, bi (.istore_n 2) 1 [] 0]
theorem cX9_ring_0 : chk mX9_ring 0 kX9_ring_0 = true := by decide +kernel
theorem mri_0 {d : Nat} {σ : SG} {Q : Option AV → SG → Prop} (h : AW d mX9_ring 4 [some (.inr (.inr 42)), some (.inl 0), some (.inl 0), none, none, none, none, none, none] [] σ Q) : AW d mX9_ring 0 [some (.inr (.inr 42)), none, none, none, none, none, none, none, none] [] σ Q := AW.blk kX9_ring_0 cX9_ring_0 (h)
def kX9_ring_150 : List BI := [bi (.iload_n 1) 1 [] 0, bi (.ireturn) 1 [] 0]
theorem cX9_ring_150 : chk mX9_ring 150 kX9_ring_150 = true := by decide +kernel
def kX9_ring_4 : List BI := [bi (.iload_n 2) 1 [] 0, bi (.aload_n 0) 1 [] 0, bi (.invokevirtual 319) 3 [mX9_towerMany, 1, 1, 9] 0, bi (.if_icmp .ge (141)) 3 [150] 0, bi (.iconst 1) 1 [] 0, bi (.iload_n 2) 1 [] 0, bi (.ishl) 1 [] 0, bi (.istore_n 3) 1 [] 0, bi (.iconst 0) 1 [] 0, bi (.istore 4) 2 [] 0, bi (.iconst 1) 1 [] 0, bi (.istore 5) 2 [] 0]
theorem cX9_ring_4 : chk mX9_ring 4 kX9_ring_4 = true := by decide +kernel
theorem mri_4 {d : Nat} {σ : SG} {Q : Option AV → SG → Prop} {l1 l2 : Int} (h : (0 < d) ∧ (r3 l2 ∧ r3 (σ 61 4)) ∧ ((σ 61 4) ≤ l2 → Q (some (.inl l1)) σ) ∧ (l2 < (σ 61 4) → (0 ≤ l2 ∧ l2 < 32) ∧ AW d mX9_ring 22 [some (.inr (.inr 42)), some (.inl l1), some (.inl l2), some (.inl (1 * 2 ^ Int.toNat l2)), some (.inl 0), some (.inl 1), none, none, none] [] σ Q)) : AW d mX9_ring 4 [some (.inr (.inr 42)), some (.inl l1), some (.inl l2), none, none, none, none, none, none] [] σ Q := AW.blk kX9_ring_4 cX9_ring_4 (⟨(h).1, AW.blk kX9_towerMany_0 cX9_towerMany_0 (⟨⟨(by decide), (by decide)⟩, ⟨⟨(((h).2).1).1, (((h).2).1).2⟩, ⟨fun c13 => AW.blk kX9_ring_150 cX9_ring_150 ((((h).2).2).1 c13), fun c13 => ⟨⟨(((((h).2).2).2 c13).1).1, (((((h).2).2).2 c13).1).2⟩, ((((h).2).2).2 c13).2⟩⟩⟩⟩)⟩)
def kX9_ring_144 : List BI := [bi (.iinc 2 (1)) 3 [] 0, bi (.goto (-143)) 3 [4] 0]
theorem cX9_ring_144 : chk mX9_ring 144 kX9_ring_144 = true := by decide +kernel
def kX9_ring_22 : List BI := [bi (.iload 5) 2 [] 0, bi (.aload_n 0) 1 [] 0, bi (.invokevirtual 319) 3 [mX9_towerMany, 1, 1, 9] 0, bi (.if_icmp .gt (116)) 3 [144] 0, bi (.iconst 0) 1 [] 0, bi (.istore 6) 2 [] 0, bi (.iconst 0) 1 [] 0, bi (.istore 7) 2 [] 0]
theorem cX9_ring_22 : chk mX9_ring 22 kX9_ring_22 = true := by decide +kernel
theorem mri_22 {d : Nat} {σ : SG} {Q : Option AV → SG → Prop} {l1 l2 l3 l4 l5 : Int} (h : (0 < d) ∧ (r3 l5 ∧ r3 (σ 61 4)) ∧ ((σ 61 4) < l5 → AW d mX9_ring 4 [some (.inr (.inr 42)), some (.inl l1), some (.inl (l2 + 1)), none, none, none, none, none, none] [] σ Q) ∧ (l5 ≤ (σ 61 4) → AW d mX9_ring 37 [some (.inr (.inr 42)), some (.inl l1), some (.inl l2), some (.inl l3), some (.inl l4), some (.inl l5), some (.inl 0), some (.inl 0), none] [] σ Q)) : AW d mX9_ring 22 [some (.inr (.inr 42)), some (.inl l1), some (.inl l2), some (.inl l3), some (.inl l4), some (.inl l5), none, none, none] [] σ Q := AW.blk kX9_ring_22 cX9_ring_22 (⟨(h).1, AW.blk kX9_towerMany_0 cX9_towerMany_0 (⟨⟨(by decide), (by decide)⟩, ⟨⟨(((h).2).1).1, (((h).2).1).2⟩, ⟨fun c14 => AW.blk kX9_ring_144 cX9_ring_144 (AW.drop 3 (AW.drop 4 (AW.drop 5 ((((h).2).2).1 c14)))), fun c14 => (((h).2).2).2 c14⟩⟩⟩)⟩)
def kX9_ring_123 : List BI := [bi (.iload 6) 2 [] 0, bi (.iload 4) 2 [] 0, bi (.iconst (-1)) 1 [] 0, bi (.ixor) 1 [] 0, bi (.iand) 1 [] 0, bi (.istore_n 3) 1 [] 0, bi (.iload 4) 2 [] 0, bi (.iload 6) 2 [] 0, bi (.ior) 1 [] 0, bi (.istore 4) 2 [] 0, bi (.iinc 5 (1)) 3 [] 0, bi (.goto (-119)) 3 [22] 0]
theorem cX9_ring_123 : chk mX9_ring 123 kX9_ring_123 = true := by decide +kernel
def kX9_ring_120 : List BI := [bi (.iload 5) 2 [] 0, bi (.istore_n 1) 1 [] 0, bi (.iload 6) 2 [] 0, bi (.iload 4) 2 [] 0, bi (.iconst (-1)) 1 [] 0, bi (.ixor) 1 [] 0, bi (.iand) 1 [] 0, bi (.istore_n 3) 1 [] 0, bi (.iload 4) 2 [] 0, bi (.iload 6) 2 [] 0, bi (.ior) 1 [] 0, bi (.istore 4) 2 [] 0, bi (.iinc 5 (1)) 3 [] 0, bi (.goto (-119)) 3 [22] 0]
theorem cX9_ring_120 : chk mX9_ring 120 kX9_ring_120 = true := by decide +kernel
def kX9_ring_100 : List BI := [bi (.iload 6) 2 [] 0, bi (.iload_n 2) 1 [] 0, bi (.ishr) 1 [] 0, bi (.iconst 1) 1 [] 0, bi (.iand) 1 [] 0, bi (.iconst 1) 1 [] 0, bi (.if_icmp .ne (16)) 3 [123] 0, bi (.iload_n 1) 1 [] 0, bi (.ifCond .eq (9)) 3 [120] 0, bi (.iload 5) 2 [] 0, bi (.iload_n 1) 1 [] 0, bi (.if_icmp .ge (6)) 3 [123] 0, bi (.iload 5) 2 [] 0, bi (.istore_n 1) 1 [] 0, bi (.iload 6) 2 [] 0, bi (.iload 4) 2 [] 0, bi (.iconst (-1)) 1 [] 0, bi (.ixor) 1 [] 0, bi (.iand) 1 [] 0, bi (.istore_n 3) 1 [] 0, bi (.iload 4) 2 [] 0, bi (.iload 6) 2 [] 0, bi (.ior) 1 [] 0, bi (.istore 4) 2 [] 0, bi (.iinc 5 (1)) 3 [] 0, bi (.goto (-119)) 3 [22] 0]
theorem cX9_ring_100 : chk mX9_ring 100 kX9_ring_100 = true := by decide +kernel
def kX9_ring_37 : List BI := [bi (.iload 7) 2 [] 0, bi (.aload_n 0) 1 [] 0, bi (.invokevirtual 319) 3 [mX9_towerMany, 1, 1, 9] 0, bi (.if_icmp .ge (57)) 3 [100] 0, bi (.iconst 0) 1 [] 0, bi (.istore 8) 2 [] 0]
theorem cX9_ring_37 : chk mX9_ring 37 kX9_ring_37 = true := by decide +kernel
theorem mri_37 {d : Nat} {σ : SG} {Q : Option AV → SG → Prop} {l1 l2 l3 l4 l5 l6 l7 : Int} (h : (0 < d) ∧ (r3 l7 ∧ r3 (σ 61 4)) ∧ ((σ 61 4) ≤ l7 → (0 ≤ l2 ∧ l2 < 32 ∧ r3 l6) ∧ (r3 (band (l6 / 2 ^ Int.toNat l2) 1)) ∧ ((band (l6 / 2 ^ Int.toNat l2) 1) ≠ 1 → AW d mX9_ring 22 [some (.inr (.inr 42)), some (.inl l1), some (.inl l2), some (.inl (band l6 (bxor l4 (-1)))), some (.inl (bor l4 l6)), some (.inl (l5 + 1)), none, none, none] [] σ Q) ∧ ((band (l6 / 2 ^ Int.toNat l2) 1) = 1 → (r3 l1) ∧ (l1 = 0 → AW d mX9_ring 22 [some (.inr (.inr 42)), some (.inl l5), some (.inl l2), some (.inl (band l6 (bxor l4 (-1)))), some (.inl (bor l4 l6)), some (.inl (l5 + 1)), none, none, none] [] σ Q) ∧ (l1 ≠ 0 → (r3 l5 ∧ r3 l1) ∧ (l1 ≤ l5 → AW d mX9_ring 22 [some (.inr (.inr 42)), some (.inl l1), some (.inl l2), some (.inl (band l6 (bxor l4 (-1)))), some (.inl (bor l4 l6)), some (.inl (l5 + 1)), none, none, none] [] σ Q) ∧ (l5 < l1 → AW d mX9_ring 22 [some (.inr (.inr 42)), some (.inl l5), some (.inl l2), some (.inl (band l6 (bxor l4 (-1)))), some (.inl (bor l4 l6)), some (.inl (l5 + 1)), none, none, none] [] σ Q)))) ∧ (l7 < (σ 61 4) → AW d mX9_ring 49 [some (.inr (.inr 42)), some (.inl l1), some (.inl l2), some (.inl l3), some (.inl l4), some (.inl l5), some (.inl l6), some (.inl l7), some (.inl 0)] [] σ Q)) : AW d mX9_ring 37 [some (.inr (.inr 42)), some (.inl l1), some (.inl l2), some (.inl l3), some (.inl l4), some (.inl l5), some (.inl l6), some (.inl l7), none] [] σ Q := AW.blk kX9_ring_37 cX9_ring_37 (⟨(h).1, AW.blk kX9_towerMany_0 cX9_towerMany_0 (⟨⟨(by decide), (by decide)⟩, ⟨⟨(((h).2).1).1, (((h).2).1).2⟩, ⟨fun c18 => AW.blk kX9_ring_100 cX9_ring_100 (⟨⟨(((((h).2).2).1 c18).1).1, ((((((h).2).2).1 c18).1).2).1, ((((((h).2).2).1 c18).1).2).2⟩, ⟨⟨(((((h).2).2).1 c18).2).1, (by decide)⟩, ⟨fun c17 => AW.blk kX9_ring_123 cX9_ring_123 (AW.drop 6 (AW.drop 7 (((((((h).2).2).1 c18).2).2).1 c17))), fun c17 => ⟨(((((((h).2).2).1 c18).2).2).2 c17).1, ⟨fun c16 => AW.blk kX9_ring_120 cX9_ring_120 (AW.drop 6 (AW.drop 7 (((((((((h).2).2).1 c18).2).2).2 c17).2).1 c16))), fun c16 => ⟨⟨((((((((((h).2).2).1 c18).2).2).2 c17).2).2 c16).1).1, ((((((((((h).2).2).1 c18).2).2).2 c17).2).2 c16).1).2⟩, ⟨fun c15 => AW.blk kX9_ring_123 cX9_ring_123 (AW.drop 6 (AW.drop 7 (((((((((((h).2).2).1 c18).2).2).2 c17).2).2 c16).2).1 c15))), fun c15 => AW.drop 6 (AW.drop 7 (((((((((((h).2).2).1 c18).2).2).2 c17).2).2 c16).2).2 c15))⟩⟩⟩⟩⟩⟩⟩), fun c18 => (((h).2).2).2 c18⟩⟩⟩)⟩)
def kX9_ring_94 : List BI := [bi (.iinc 7 (1)) 3 [] 0, bi (.goto (-60)) 3 [37] 0]
theorem cX9_ring_94 : chk mX9_ring 94 kX9_ring_94 = true := by decide +kernel
def kX9_ring_88 : List BI := [bi (.iinc 8 (1)) 3 [] 0, bi (.goto (-42)) 3 [49] 0]
theorem cX9_ring_88 : chk mX9_ring 88 kX9_ring_88 = true := by decide +kernel
def kX9_ring_49 : List BI := [bi (.iload 8) 2 [] 0, bi (.aload_n 0) 1 [] 0, bi (.invokevirtual 319) 3 [mX9_towerMany, 1, 1, 9] 0, bi (.if_icmp .ge (39)) 3 [94] 0, bi (.iload_n 3) 1 [] 0, bi (.iload 7) 2 [] 0, bi (.ishr) 1 [] 0, bi (.iconst 1) 1 [] 0, bi (.iand) 1 [] 0, bi (.iconst 1) 1 [] 0, bi (.if_icmp .ne (23)) 3 [88] 0, bi (.aload_n 0) 1 [] 0, bi (.iload 7) 2 [] 0, bi (.iload 8) 2 [] 0, bi (.invokevirtual 464) 3 [mX9_hasLent, 3, 4, 9] 0, bi (.ifCond .eq (12)) 3 [88] 0, bi (.iload 6) 2 [] 0, bi (.iconst 1) 1 [] 0, bi (.iload 8) 2 [] 0, bi (.ishl) 1 [] 0, bi (.ior) 1 [] 0, bi (.istore 6) 2 [] 0, bi (.iinc 8 (1)) 3 [] 0, bi (.goto (-42)) 3 [49] 0]
theorem cX9_ring_49 : chk mX9_ring 49 kX9_ring_49 = true := by decide +kernel
theorem mri_49 {d : Nat} {σ : SG} {Q : Option AV → SG → Prop} {l1 l2 l3 l4 l5 l6 l7 l8 : Int} (h : (0 < d) ∧ (r3 l8 ∧ r3 (σ 61 4)) ∧ ((σ 61 4) ≤ l8 → AW d mX9_ring 37 [some (.inr (.inr 42)), some (.inl l1), some (.inl l2), some (.inl l3), some (.inl l4), some (.inl l5), some (.inl l6), some (.inl (l7 + 1)), none] [] σ Q) ∧ (l8 < (σ 61 4) → (0 ≤ l7 ∧ l7 < 32 ∧ r3 l3) ∧ (r3 (band (l3 / 2 ^ Int.toNat l7) 1)) ∧ ((band (l3 / 2 ^ Int.toNat l7) 1) ≠ 1 → AW d mX9_ring 49 [some (.inr (.inr 42)), some (.inl l1), some (.inl l2), some (.inl l3), some (.inl l4), some (.inl l5), some (.inl l6), some (.inl l7), some (.inl (l8 + 1))] [] σ Q) ∧ ((band (l3 / 2 ^ Int.toNat l7) 1) = 1 → (0 < d) ∧ (2 ≤ d - 1 ∧ MLR (σ 69) ∧ r3 l7 ∧ r3 l8) ∧ (r3 (hlV (σ 69) l7 l8)) ∧ ((hlV (σ 69) l7 l8) = 0 → AW d mX9_ring 49 [some (.inr (.inr 42)), some (.inl l1), some (.inl l2), some (.inl l3), some (.inl l4), some (.inl l5), some (.inl l6), some (.inl l7), some (.inl (l8 + 1))] [] σ Q) ∧ ((hlV (σ 69) l7 l8) ≠ 0 → (0 ≤ l8 ∧ l8 < 32) ∧ AW d mX9_ring 49 [some (.inr (.inr 42)), some (.inl l1), some (.inl l2), some (.inl l3), some (.inl l4), some (.inl l5), some (.inl (bor l6 (1 * 2 ^ Int.toNat l8))), some (.inl l7), some (.inl (l8 + 1))] [] σ Q)))) : AW d mX9_ring 49 [some (.inr (.inr 42)), some (.inl l1), some (.inl l2), some (.inl l3), some (.inl l4), some (.inl l5), some (.inl l6), some (.inl l7), some (.inl l8)] [] σ Q := AW.blk kX9_ring_49 cX9_ring_49 (⟨(h).1, AW.blk kX9_towerMany_0 cX9_towerMany_0 (⟨⟨(by decide), (by decide)⟩, ⟨⟨(((h).2).1).1, (((h).2).1).2⟩, ⟨fun c21 => AW.blk kX9_ring_94 cX9_ring_94 (AW.drop 8 ((((h).2).2).1 c21)), fun c21 => ⟨⟨(((((h).2).2).2 c21).1).1, ((((((h).2).2).2 c21).1).2).1, ((((((h).2).2).2 c21).1).2).2⟩, ⟨⟨(((((h).2).2).2 c21).2).1, (by decide)⟩, ⟨fun c20 => AW.blk kX9_ring_88 cX9_ring_88 (((((((h).2).2).2 c21).2).2).1 c20), fun c20 => ⟨(((((((h).2).2).2 c21).2).2).2 c20).1, mhasLent_ok ⟨((((((((h).2).2).2 c21).2).2).2 c20).2).1, ⟨(((((((((h).2).2).2 c21).2).2).2 c20).2).2).1, ⟨fun c19 => AW.blk kX9_ring_88 cX9_ring_88 (((((((((((h).2).2).2 c21).2).2).2 c20).2).2).2).1 c19), fun c19 => ⟨⟨((((((((((((h).2).2).2 c21).2).2).2 c20).2).2).2).2 c19).1).1, ((((((((((((h).2).2).2 c21).2).2).2 c20).2).2).2).2 c19).1).2⟩, (((((((((((h).2).2).2 c21).2).2).2 c20).2).2).2).2 c19).2⟩⟩⟩⟩⟩⟩⟩⟩⟩⟩⟩)⟩)
theorem fstI_none {p : Int → Bool} {n : Int} (h : fstI p n = -1) {i : Int} (i0 : 0 ≤ i) (i1 : i < n) : p i = false := by
  have key : ∀ m : Nat, fstI p m = -1 → i < m → p i = false := by
    intro m
    induction m with
    | zero => intro _ z; omega
    | succ m ih =>
      intro hz hi
      rw [show ((m + 1 : Nat) : Int) = (m : Int) + 1 by omega] at hz
      obtain ⟨z1, z2⟩ := (fstI_s1 _ (by omega)).mp hz
      by_cases c : i = m
      · rw [c]
        exact z2
      · exact ih z1 (by omega)
  refine key n.toNat ?_ (by omega)
  rw [show ((n.toNat : Nat) : Int) = n by omega]
  exact h
theorem orF_tb {F : Int → Int → Int} {p : Int → Bool} {v : Int → Int} {x0 : Int} : ∀ n : Nat, (∀ a x, 0 ≤ a → a < (n : Int) → F a x = if p a = true then bor x (v a) else x) → ∀ k : Nat, (tb (foI F x0 n) k = true ↔ tb x0 k = true ∨ ∃ a, (0 ≤ a ∧ a < (n : Int)) ∧ p a = true ∧ tb (v a) k = true) := by
  intro n
  induction n with
  | zero =>
    intro _ k
    constructor
    · intro z
      exact Or.inl z
    · intro z
      rcases z with z | ⟨a, z, _⟩
      · exact z
      · omega
  | succ n ih =>
    intro hF k
    have hi := ih (fun a x b c => hF a x b (by omega)) k
    rw [show ((n + 1 : Nat) : Int) = (n : Int) + 1 by omega, foI_s _ _ (by omega), hF n _ (by omega) (by omega)]
    by_cases c : p n = true
    · rw [if_pos c, tb_bor, Bool.or_eq_true, hi]
      constructor
      · intro z
        rcases z with (z | ⟨a, z1, z2⟩) | z
        · exact Or.inl z
        · exact Or.inr ⟨a, ⟨z1.1, by omega⟩, z2⟩
        · exact Or.inr ⟨n, ⟨by omega, by omega⟩, c, z⟩
      · intro z
        rcases z with z | ⟨a, z1, z2, z3⟩
        · exact Or.inl (Or.inl z)
        · by_cases e : a = n
          · subst e
            exact Or.inr z3
          · exact Or.inl (Or.inr ⟨a, ⟨z1.1, by omega⟩, z2, z3⟩)
    · rw [if_neg c, hi]
      constructor
      · intro z
        rcases z with z | ⟨a, z1, z2⟩
        · exact Or.inl z
        · exact Or.inr ⟨a, ⟨z1.1, by omega⟩, z2⟩
      · intro z
        rcases z with z | ⟨a, z1, z2, z3⟩
        · exact Or.inl z
        · by_cases e : a = n
          · subst e
            exact absurd z2 c
          · exact Or.inr ⟨a, ⟨z1.1, by omega⟩, z2, z3⟩
theorem orF_r {F : Int → Int → Int} {p : Int → Bool} {v : Int → Int} {x0 : Int} (hx : 0 ≤ x0 ∧ x0 < 16384) : ∀ n : Nat, (∀ a x, 0 ≤ a → a < (n : Int) → F a x = if p a = true then bor x (v a) else x) → (∀ a, 0 ≤ a → a < (n : Int) → p a = true → 0 ≤ v a ∧ v a < 16384) → 0 ≤ foI F x0 n ∧ foI F x0 n < 16384 := by
  intro n
  induction n with
  | zero => intro _ _; exact hx
  | succ n ih =>
    intro hF hv
    have hi := ih (fun a x b c => hF a x b (by omega)) (fun a b c => hv a b (by omega))
    rw [show ((n + 1 : Nat) : Int) = (n : Int) + 1 by omega, foI_s _ _ (by omega), hF n _ (by omega) (by omega)]
    split
    · rename_i c
      exact bor_r hi (hv n (by omega) (by omega) c)
    · exact hi
/-- to whom the ones of a set have lent -/
def EX (e : Int → Int) (tw s : Int) : Int := foI (fun a x => if tb s a.toNat = true then bor x (e a) else x) 0 tw
theorem EX_tb {e : Int → Int} {tw s : Int} (h : 0 ≤ tw) (k : Nat) : tb (EX e tw s) k = true ↔ ∃ a, (0 ≤ a ∧ a < tw) ∧ tb s a.toNat = true ∧ tb (e a) k = true := by
  have := orF_tb (F := fun a x => if tb s a.toNat = true then bor x (e a) else x) (p := fun a => tb s a.toNat) (v := e) (x0 := 0) tw.toNat (fun _ _ _ _ => rfl) k
  rw [show ((tw.toNat : Nat) : Int) = tw by omega, tb_zero] at this
  unfold EX
  rw [this]
  constructor
  · intro z
    rcases z with z | z
    · cases z
    · exact z
  · exact Or.inr
theorem EX_r {e : Int → Int} {tw s : Int} (h : 0 ≤ tw) (he : ∀ a, 0 ≤ a → a < tw → 0 ≤ e a ∧ e a < 16384) : 0 ≤ EX e tw s ∧ EX e tw s < 16384 := by
  have := orF_r (F := fun a x => if tb s a.toNat = true then bor x (e a) else x) (p := fun a => tb s a.toNat) (v := e) (x0 := 0) (by omega) tw.toNat (fun _ _ _ _ => rfl) (fun a b c _ => he a b (by omega))
  rwa [show ((tw.toNat : Nat) : Int) = tw by omega] at this
def cR (e : Int → Int) (tw t : Int) : Nat → Int
  | 0 => 1 * 2 ^ Int.toNat t
  | n + 1 => EX e tw (cR e tw t n)
def rgB (e : Int → Int) (tw t : Int) : Int → Bool := fun i => tb (cR e tw t (i.toNat + 1)) t.toNat
def rtV (e : Int → Int) (tw t : Int) : Int := fstI (rgB e tw t) tw + 1
def rgC (x s : Int) : Int := if s ≠ 0 ∧ (x = 0 ∨ s < x) then s else x
def rgV (e : Int → Int) (tw n : Int) : Int := foI (fun t x => rgC x (rtV e tw t)) 0 n
theorem cR_r {e : Int → Int} {tw t : Int} (h : 0 ≤ tw) (t0 : 0 ≤ t) (t1 : t < 4) (he : ∀ a, 0 ≤ a → a < tw → 0 ≤ e a ∧ e a < 16384) (n : Nat) : 0 ≤ cR e tw t n ∧ cR e tw t n < 16384 := by
  cases n with
  | zero => exact pow_r t0 (by omega)
  | succ n => exact EX_r h he
/-- what holds between the class's set R and the reference's set s and seen v -/
def RJ (e : Int → Int) (tw t R s v : Int) : Prop := (∀ k : Nat, k < 32 → tb s k = true → tb R k = true) ∧ (∀ k : Nat, k < 32 → tb (EX e tw R) k = true → tb v k = true ∨ tb (EX e tw s) k = true) ∧ (∀ (a : Int) (k : Nat), 0 ≤ a → a < tw → k < 32 → tb v a.toNat = true → tb s a.toNat = false → tb (e a) k = true → tb v k = true) ∧ tb v t.toNat = false
theorem RJ.beg {e : Int → Int} {tw t : Int} : RJ e tw t (cR e tw t 0) (1 * 2 ^ Int.toNat t) 0 := by
  refine ⟨fun _ _ z => z, fun _ _ z => Or.inr z, fun a k _ _ _ z => ?_, tb_zero _⟩
  rw [tb_zero] at z
  cases z
theorem RJ.hit {e : Int → Int} {tw t R s v : Int} (h : RJ e tw t R s v) (h0 : 0 ≤ tw) (h4 : tw ≤ 4) (t0 : 0 ≤ t) (t1 : t < tw) : tb (EX e tw s) t.toNat = tb (EX e tw R) t.toNat := by
  obtain ⟨h1, h2, h3, h5⟩ := h
  cases hb : tb (EX e tw R) t.toNat
  · cases ha : tb (EX e tw s) t.toNat
    · rfl
    · obtain ⟨a, a0, a1, a2⟩ := (EX_tb h0 _).mp ha
      have := (EX_tb (s := R) h0 t.toNat).mpr ⟨a, a0, h1 _ (by omega) a1, a2⟩
      rw [hb] at this
      cases this
  · rcases h2 _ (by omega) hb with z | z
    · rw [h5] at z
      cases z
    · exact z
theorem RJ.next {e : Int → Int} {tw t R s v : Int} (h : RJ e tw t R s v) (h0 : 0 ≤ tw) (h4 : tw ≤ 4) (t0 : 0 ≤ t) (t1 : t < tw) (hn : tb (EX e tw R) t.toNat = false) : RJ e tw t (EX e tw R) (band (EX e tw s) (bxor v (-1))) (bor v (EX e tw s)) := by
  have hh := h.hit h0 h4 t0 t1
  obtain ⟨h1, h2, h3, h5⟩ := h
  have hs : ∀ k : Nat, k < 32 → tb (band (EX e tw s) (bxor v (-1))) k = (tb (EX e tw s) k && !tb v k) := fun k hk => by
    rw [tb_band, tb_bxor, tb_m1 hk, Bool.xor_true]
  have hv : ∀ k : Nat, tb (bor v (EX e tw s)) k = (tb v k || tb (EX e tw s) k) := fun k => tb_bor _ _ _
  have h3' : ∀ (a : Int) (k : Nat), 0 ≤ a → a < tw → k < 32 → tb (bor v (EX e tw s)) a.toNat = true → tb (band (EX e tw s) (bxor v (-1))) a.toNat = false → tb (e a) k = true → tb (bor v (EX e tw s)) k = true := by
    intro a k a0 a1 k1 z1 z2 z3
    rw [hv] at z1 ⊢
    rw [hs _ (by omega)] at z2
    have hva : tb v a.toNat = true := by
      cases c : tb v a.toNat
      · rw [c] at z1 z2
        rw [Bool.false_or] at z1
        rw [z1] at z2
        cases z2
      · rfl
    cases c : tb s a.toNat
    · rw [h3 a k a0 a1 k1 hva c z3]
      rfl
    · rw [(EX_tb (s := s) h0 k).mpr ⟨a, ⟨a0, a1⟩, c, z3⟩, Bool.or_true]
  refine ⟨fun k hk z => ?_, fun k hk z => ?_, h3', ?_⟩
  · rw [hs k hk] at z
    have z1 : tb (EX e tw s) k = true := by
      cases c : tb (EX e tw s) k
      · rw [c] at z
        cases z
      · rfl
    obtain ⟨a, a0, a1, a2⟩ := (EX_tb h0 _).mp z1
    exact (EX_tb h0 k).mpr ⟨a, a0, h1 _ (by omega) a1, a2⟩
  · obtain ⟨a, a0, a1, a2⟩ := (EX_tb h0 _).mp z
    have hva : tb (bor v (EX e tw s)) a.toNat = true := by
      rw [hv]
      rcases h2 _ (by omega) a1 with z | z
      · rw [z]
        rfl
      · rw [z, Bool.or_true]
    cases c : tb (band (EX e tw s) (bxor v (-1))) a.toNat
    · exact Or.inl (h3' a k a0.1 a0.2 hk hva c a2)
    · exact Or.inr ((EX_tb h0 k).mpr ⟨a, a0, c, a2⟩)
  · rw [hv, h5, hh, hn]
    rfl
/-! to whom a tower has lent -/
def bwE (f : Int → Int) : Int → Int := fun a => foI (boB f a) 0 (f 1)
theorem bwE_c {f : Int → Int} (a i x : Int) : boB f a i x = if decide (f (22 + i * 8 + 7) ≠ 1 ∧ f (22 + i * 8 + 0) = a) = true then bor x (1 * 2 ^ (f (22 + i * 8 + 2)).toNat) else x := by
  unfold boB
  by_cases c : f (22 + i * 8 + 7) ≠ 1 ∧ f (22 + i * 8 + 0) = a
  · rw [if_pos c, decide_eq_true c, if_pos rfl]
  · rw [if_neg c, decide_eq_false c, if_neg (by decide)]
theorem bwE_r {f : Int → Int} (hL : LR f) (a : Int) : 0 ≤ bwE f a ∧ bwE f a < 16384 := by
  have := orF_r (F := boB f a) (v := fun i => 1 * 2 ^ (f (22 + i * 8 + 2)).toNat) (x0 := 0) (by omega) (f 1).toNat (fun i x _ _ => bwE_c a i x) (fun i b c _ => by
    have := hL.2 i b (by omega)
    exact pow_r (by omega) (by omega))
  rwa [show (((f 1).toNat : Nat) : Int) = f 1 by have := hL.1; omega] at this
theorem bwE_tb {tw : Int} {H : Int → Int} {B D : Int} {f g : Int → Int} (h : RS tw H B D f g) (ht : tw ≤ 4) (hL : LR f) (a : Int) (k : Nat) : tb (bwE f a) k = true ↔ ((k : Int) < tw ∧ hlV g a k ≠ 0) := by
  have hh := orF_tb (F := boB f a) (v := fun i => 1 * 2 ^ (f (22 + i * 8 + 2)).toNat) (x0 := 0) (f 1).toNat (fun i x _ _ => bwE_c a i x) k
  rw [show (((f 1).toNat : Nat) : Int) = f 1 by have := hL.1; omega, tb_zero] at hh
  obtain ⟨_, h1, _, _, _, hl, _⟩ := h
  unfold bwE
  rw [hh]
  constructor
  · intro z
    rcases z with z | ⟨i, i0, i1, i2⟩
    · cases z
    · obtain ⟨z1, z2⟩ := of_decide_eq_true i1
      obtain ⟨b0, b1, b2, b3, b4, b5, b6, b7⟩ := hl i i0.1 i0.2
      have b7' : f (22 + i * 8 + 7) = 0 := by
        rcases b7 with b7 | b7
        · exact b7.1
        · exact absurd b7.1 z1
      have i2' : tb (1 * 2 ^ (f (22 + i * 8 + 2)).toNat) k = true := i2
      rw [tb_pow (by omega)] at i2'
      have ek := of_decide_eq_true i2'
      refine ⟨by omega, ?_⟩
      unfold hlV
      by_cases c : fstI (hlB g a k) (g 1) = -1
      · have := fstI_none c i0.1 (by omega)
        have hp : hlB g a k i = true := decide_eq_true ⟨by rw [b0 7 (by decide) (by decide)]; exact b7', by rw [b0 0 (by decide) (by decide)]; exact z2, by rw [b0 2 (by decide) (by decide)]; omega⟩
        rw [hp] at this
        cases this
      · rw [if_neg c]
        decide
  · intro ⟨z1, z2⟩
    right
    have c : ¬ fstI (hlB g a k) (g 1) = -1 := fun c => z2 (if_pos c)
    rcases fstI_r (hlB g a k) (g 1) with c' | ⟨i0, i1, i2⟩
    · exact absurd c' c
    · generalize fstI (hlB g a k) (g 1) = i at i0 i1 i2
      obtain ⟨b0, b1, b2, b3, b4, b5, b6, b7⟩ := hl i i0 (by omega)
      obtain ⟨y1, y2, y3⟩ := of_decide_eq_true i2
      rw [b0 7 (by decide) (by decide)] at y1
      rw [b0 0 (by decide) (by decide)] at y2
      rw [b0 2 (by decide) (by decide)] at y3
      refine ⟨i, ⟨i0, by omega⟩, decide_eq_true ⟨by omega, y2⟩, ?_⟩
      show tb (1 * 2 ^ (f (22 + i * 8 + 2)).toNat) k = true
      rw [tb_pow (by omega)]
      exact decide_eq_true (by omega)
theorem ringThrough_ok {d : Nat} {n : Int} {σ : SG} {r q : Nat} {t : Int} {Q : Option AV → SG → Prop} (h : SIM n σ r q) (t0 : 0 ≤ t) (t1 : t < σ r 0) (hd : 5 ≤ d) (hq : Q (some (.inl (rtV (bwE (σ 35)) (σ r 0) t))) σ) : AW d mX8_ringThrough 0 [some (.inr (.inr 0)), some (.inl t), none, none, none, none] [] σ Q := by
  obtain ⟨hr, _, hx, _⟩ := h.rr
  obtain ⟨hLR, hSR, hML, hMG, hRL, hN, hW⟩ := h.lr
  have he : ∀ a, 0 ≤ a → a < σ r 0 → 0 ≤ bwE (σ 35) a ∧ bwE (σ 35) a < 16384 := fun a _ _ => bwE_r hLR a
  unfold rtV at hq
  refine xrt_0 ⟨by omega, ?_⟩
  have key := downInd (P := fun i => fstI (rgB (bwE (σ 35)) (σ r 0) t) i = -1 → AW d mX8_ringThrough 6 [some (.inr (.inr 0)), some (.inl t), some (.inl (cR (bwE (σ 35)) (σ r 0) t i.toNat)), some (.inl (i + 1)), none, none] [] σ Q) (lo := 0) (hi := σ r 0) hN.1 ?_ ?_ rfl
  · exact key
  · intro hn
    rw [hn] at hq
    exact xrt_6 hr hx ⟨by omega, fun _ => hq, fun c => by omega⟩
  · intro i i0 i1 ih hn
    have hR := cR_r hN.1 t0 (by omega) he i.toNat
    refine xrt_6 hr hx ⟨by omega, fun c => by omega, fun _ => ?_⟩
    have hRn := cR_r hN.1 t0 (by omega) he (i.toNat + 1)
    have hre : cR (bwE (σ 35)) (σ r 0) t (i.toNat + 1) = foI (fun a x => if tb (cR (bwE (σ 35)) (σ r 0) t i.toNat) a.toNat = true then bor x (bwE (σ 35) a) else x) 0 (σ r 0) := rfl
    have hrg : rgB (bwE (σ 35)) (σ r 0) t i = tb (cR (bwE (σ 35)) (σ r 0) t (i.toNat + 1)) t.toNat := rfl
    rw [show (i + 1).toNat = i.toNat + 1 by omega] at ih
    generalize cR (bwE (σ 35)) (σ r 0) t (i.toNat + 1) = R' at *
    generalize cR (bwE (σ 35)) (σ r 0) t i.toNat = R at *
    have inner := downInd (P := fun a => AW d mX8_ringThrough 23 [some (.inr (.inr 0)), some (.inl t), some (.inl R), some (.inl (i + 1)), some (.inl (foI (fun a x => if tb R a.toNat = true then bor x (bwE (σ 35) a) else x) 0 a)), some (.inl a)] [] σ Q) (lo := 0) (hi := σ r 0) hN.1 ?_ ?_
    · exact inner
    · rw [← hre]
      have hb := band_pow0 (x := R') (k := Int.toNat t) (by omega)
      refine xrt_23 hr hx ⟨by omega, fun _ => ⟨by omega, band_r3 hRn.1 (by omega), fun c => ?_, fun c => ?_⟩, fun c => by omega⟩
      · exact ih ((fstI_s1 _ i0).mpr ⟨hn, by rw [hrg]; exact hb.mp c⟩)
      · have hp : rgB (bwE (σ 35)) (σ r 0) t i = true := by
          rw [hrg]
          cases e : tb R' t.toNat
          · exact absurd (hb.mpr e) c
          · rfl
        rw [fstI_hit _ i0 i1 hn hp] at hq
        exact hq
    · intro a a0 a1 iha
      have hb := band_pow0 (x := R) (k := Int.toNat a) (by omega)
      rw [foI_s _ _ a0] at iha
      refine xrt_23 hr hx ⟨by omega, fun c => by omega, fun _ => ⟨by omega, band_r3 hR.1 (by omega), fun c => ?_, fun c => ⟨by omega, ⟨by omega, hLR, by omega⟩, ?_⟩⟩⟩
      · rw [if_neg (by rw [hb.mp c]; decide)] at iha
        exact iha
      · have e : tb R a.toNat = true := by
          cases e : tb R a.toNat
          · exact absurd (hb.mpr e) c
          · rfl
        rw [if_pos e] at iha
        exact iha
theorem rtV_r {e : Int → Int} {tw t : Int} (h : 0 ≤ tw) : 0 ≤ rtV e tw t ∧ rtV e tw t ≤ tw := by
  unfold rtV
  have := fstI_r (rgB e tw t) tw
  omega
theorem rgV_r {e : Int → Int} {tw : Int} (h : 0 ≤ tw) (n : Nat) : 0 ≤ rgV e tw n ∧ rgV e tw n ≤ tw := by
  induction n with
  | zero => exact ⟨Int.le_refl _, h⟩
  | succ n ih =>
    have hs : rgV e tw ((n : Int) + 1) = rgC (rgV e tw n) (rtV e tw n) := foI_s _ _ (by omega)
    have hr := rtV_r (e := e) (t := (n : Int)) h
    rw [show ((n + 1 : Nat) : Int) = (n : Int) + 1 by omega, hs]
    unfold rgC
    split <;> omega
theorem call_ring {d : Nat} {n : Int} {σ : SG} {r q : Nat} (hd : 100 ≤ d) (h : SIM n σ r q) : AW d mX8_ring 0 [some (.inr (.inr 0)), none, none, none] [] σ (SAME d n r q mX9_ring [some (.inr (.inr 42)), none, none, none, none, none, none, none, none]) := by
  obtain ⟨hr, _, hx, _⟩ := h.rr
  obtain ⟨hLR, hSR, hML, hMG, hRL, hN, hW⟩ := h.lr
  have he : ∀ a, 0 ≤ a → a < σ r 0 → 0 ≤ bwE (σ 35) a ∧ bwE (σ 35) a < 16384 := fun a _ _ => bwE_r hLR a
  have hRS := h.2.2.2.2.2.1
  -- the reference
  have ref : AW d mX9_ring 0 [some (.inr (.inr 42)), none, none, none, none, none, none, none, none] [] σ (fun v' σ' => v' = some (.inl (rgV (bwE (σ 35)) (σ r 0) (σ r 0))) ∧ SIM n σ' r q) := by
    have e4 : σ 61 4 = σ r 0 := hN.2.2.2.2.1
    refine mri_0 ?_
    have key := downInd (P := fun t => AW d mX9_ring 4 [some (.inr (.inr 42)), some (.inl (rgV (bwE (σ 35)) (σ r 0) t)), some (.inl t), none, none, none, none, none, none] [] σ (fun v' σ' => v' = some (.inl (rgV (bwE (σ 35)) (σ r 0) (σ r 0))) ∧ SIM n σ' r q)) (lo := 0) (hi := σ r 0) hN.1 ?_ ?_
    · exact key
    · refine mri_4 ?_
      rw [e4]
      exact ⟨by omega, by omega, fun _ => ⟨rfl, h⟩, fun c => by omega⟩
    · intro t t0 t1 iht
      have hb0 := rgV_r (e := bwE (σ 35)) hN.1 t.toNat
      rw [show ((t.toNat : Nat) : Int) = t by omega] at hb0
      have hs : rgV (bwE (σ 35)) (σ r 0) (t + 1) = rgC (rgV (bwE (σ 35)) (σ r 0) t) (rtV (bwE (σ 35)) (σ r 0) t) := foI_s _ _ t0
      rw [hs] at iht
      generalize rgV (bwE (σ 35)) (σ r 0) t = b0 at *
      refine mri_4 ?_
      rw [e4]
      refine ⟨by omega, by omega, fun c => by omega, fun _ => ⟨by omega, ?_⟩⟩
      have loop := downInd (P := fun i => ∀ s v, (0 ≤ s ∧ s < 16384) → (0 ≤ v ∧ v < 16384) → (fstI (rgB (bwE (σ 35)) (σ r 0) t) i = -1 → RJ (bwE (σ 35)) (σ r 0) t (cR (bwE (σ 35)) (σ r 0) t i.toNat) s v) → AW d mX9_ring 22 [some (.inr (.inr 42)), some (.inl (rgC b0 (fstI (rgB (bwE (σ 35)) (σ r 0) t) i + 1))), some (.inl t), some (.inl s), some (.inl v), some (.inl (i + 1)), none, none, none] [] σ (fun v' σ' => v' = some (.inl (rgV (bwE (σ 35)) (σ r 0) (σ r 0))) ∧ SIM n σ' r q)) (lo := 0) (hi := σ r 0) hN.1 ?_ ?_ (1 * 2 ^ Int.toNat t) 0 (pow_r t0 (by omega)) (by omega) (fun _ => RJ.beg)
      · have e0 : rgC b0 (fstI (rgB (bwE (σ 35)) (σ r 0) t) 0 + 1) = b0 := by
          show rgC b0 0 = b0
          unfold rgC
          rw [if_neg (fun z => z.1 rfl)]
        rw [e0] at loop
        exact loop
      · intro s v hs hv hJ
        refine mri_22 ?_
        rw [e4]
        exact ⟨by omega, by omega, fun _ => iht, fun c => by omega⟩
      · intro i i0 i1 ihi s v hs hv hJ
        refine mri_22 ?_
        rw [e4]
        refine ⟨by omega, by omega, fun c => by omega, fun _ => ?_⟩
        have hX := EX_r (e := bwE (σ 35)) (tw := σ r 0) (s := s) hN.1 he
        have hXe : EX (bwE (σ 35)) (σ r 0) s = foI (fun a x => if tb s a.toNat = true then bor x (bwE (σ 35) a) else x) 0 (σ r 0) := rfl
        have outer := downInd (P := fun a => AW d mX9_ring 37 [some (.inr (.inr 42)), some (.inl (rgC b0 (fstI (rgB (bwE (σ 35)) (σ r 0) t) i + 1))), some (.inl t), some (.inl s), some (.inl v), some (.inl (i + 1)), some (.inl (foI (fun a x => if tb s a.toNat = true then bor x (bwE (σ 35) a) else x) 0 a)), some (.inl a), none] [] σ (fun v' σ' => v' = some (.inl (rgV (bwE (σ 35)) (σ r 0) (σ r 0))) ∧ SIM n σ' r q)) (lo := 0) (hi := σ r 0) hN.1 ?_ ?_
        · exact outer
        · rw [← hXe]
          have hb := sh1 (x := EX (bwE (σ 35)) (σ r 0) s) (k := Int.toNat t) hX.1 (by omega)
          have hs' : 0 ≤ band (EX (bwE (σ 35)) (σ r 0) s) (bxor v (-1)) ∧ band (EX (bwE (σ 35)) (σ r 0) s) (bxor v (-1)) < 16384 := band_r hX
          have hv' : 0 ≤ bor v (EX (bwE (σ 35)) (σ r 0) s) ∧ bor v (EX (bwE (σ 35)) (σ r 0) s) < 16384 := bor_r hv hX
          have hk := fstI_r (rgB (bwE (σ 35)) (σ r 0) t) i
          have hks := fstI_s (rgB (bwE (σ 35)) (σ r 0) t) i0
          have ih2 := ihi _ _ hs' hv'
          rw [show (i + 1).toNat = i.toNat + 1 by omega] at ih2
          have hcb : ∀ z, 0 ≤ z → z ≤ 4 → r3 (rgC b0 z) := fun z z0 z1 => by
            unfold rgC
            split <;> omega
          have hr1 := hcb (fstI (rgB (bwE (σ 35)) (σ r 0) t) i + 1) (by omega) (by omega)
          have hr2 : r3 (if tb (EX (bwE (σ 35)) (σ r 0) s) t.toNat = true then 1 else 0) := by split <;> decide
          refine mri_37 ?_
          rw [e4, hb]
          by_cases ck : fstI (rgB (bwE (σ 35)) (σ r 0) t) i = -1
          · have hJ' := hJ ck
            have hhit := hJ'.hit hN.1 (by omega) t0 t1
            rw [if_pos ck] at hks
            have e0 : rgC b0 (-1 + 1) = b0 := by
              unfold rgC
              rw [if_neg (fun z => z.1 rfl)]
            rw [ck, e0] at hr1 ⊢
            rw [hhit] at hr2 ⊢
            cases hB : tb (EX (bwE (σ 35)) (σ r 0) (cR (bwE (σ 35)) (σ r 0) t i.toNat)) t.toNat
            · have hp : rgB (bwE (σ 35)) (σ r 0) t i = false := hB
              rw [hp, if_neg (by decide)] at hks
              have := ih2 (fun _ => hJ'.next hN.1 (by omega) t0 t1 hB)
              rw [hks, e0] at this
              exact ⟨by omega, by omega, fun _ => ⟨by omega, by decide, fun _ => this, fun c => absurd c (by decide)⟩, fun c => by omega⟩
            · have hp : rgB (bwE (σ 35)) (σ r 0) t i = true := hB
              rw [hp, if_pos rfl] at hks
              have := ih2 (fun c => by rw [hks] at c; omega)
              rw [hks] at this
              refine ⟨by omega, by omega, fun _ => ⟨by omega, by decide, fun c => absurd rfl c, fun _ => ⟨hr1, fun c => ?_, fun c => ⟨⟨by omega, hr1⟩, fun c2 => ?_, fun c2 => ?_⟩⟩⟩, fun c => by omega⟩
              · rwa [show rgC b0 (i + 1) = i + 1 from if_pos ⟨by omega, Or.inl c⟩] at this
              · rwa [show rgC b0 (i + 1) = b0 from if_neg (fun z => by omega)] at this
              · rwa [show rgC b0 (i + 1) = i + 1 from if_pos ⟨by omega, Or.inr c2⟩] at this
          · rw [if_neg ck] at hks
            have := ih2 (fun c => by rw [hks] at c; exact absurd c ck)
            rw [hks] at this
            generalize hke : fstI (rgB (bwE (σ 35)) (σ r 0) t) i = k at *
            have hle : rgC b0 (k + 1) ≠ 0 ∧ rgC b0 (k + 1) ≤ k + 1 := by
              unfold rgC
              split <;> omega
            generalize tb (EX (bwE (σ 35)) (σ r 0) s) t.toNat = bb at *
            exact ⟨by omega, by omega, fun _ => ⟨by omega, hr2, fun c => this, fun _ => ⟨hr1, fun c => absurd c hle.1, fun c => ⟨⟨by omega, hr1⟩, fun c2 => this, fun c2 => by omega⟩⟩⟩, fun c => by omega⟩
        · intro a a0 a1 iha
          rw [foI_s _ _ a0] at iha
          have hx : 0 ≤ foI (fun a x => if tb s a.toNat = true then bor x (bwE (σ 35) a) else x) 0 a ∧ foI (fun a x => if tb s a.toNat = true then bor x (bwE (σ 35) a) else x) 0 a < 16384 := EX_r (tw := a) a0 (fun c b1 b2 => bwE_r hLR c)
          generalize foI (fun a x => if tb s a.toNat = true then bor x (bwE (σ 35) a) else x) 0 a = x at *
          refine mri_37 ?_
          rw [e4]
          refine ⟨by omega, by omega, fun c => by omega, fun _ => ?_⟩
          have hin : ∀ m x, foI (fun b x => if tb s a.toNat = true ∧ hlV (σ 69) a b ≠ 0 then bor x (1 * 2 ^ Int.toNat b) else x) x m = foI (fun b x => if decide (tb s a.toNat = true ∧ hlV (σ 69) a b ≠ 0) = true then bor x (1 * 2 ^ Int.toNat b) else x) x m := fun m x => by
            apply foI_cong
            intro b y _ _
            by_cases c : tb s a.toNat = true ∧ hlV (σ 69) a b ≠ 0
            · rw [if_pos c, decide_eq_true c, if_pos rfl]
            · rw [if_neg c, decide_eq_false c, if_neg (by decide)]
          have hend : foI (fun b x => if tb s a.toNat = true ∧ hlV (σ 69) a b ≠ 0 then bor x (1 * 2 ^ Int.toNat b) else x) x (σ r 0) = if tb s a.toNat = true then bor x (bwE (σ 35) a) else x := by
            rw [hin]
            have hr0 := orF_r (F := fun b x => if decide (tb s a.toNat = true ∧ hlV (σ 69) a b ≠ 0) = true then bor x (1 * 2 ^ Int.toNat b) else x) (p := fun b => decide (tb s a.toNat = true ∧ hlV (σ 69) a b ≠ 0)) (v := fun b => 1 * 2 ^ Int.toNat b) hx (σ r 0).toNat (fun _ _ _ _ => rfl) (fun b b0 b1 _ => pow_r b0 (by omega))
            have ht0 := fun k => orF_tb (F := fun b x => if decide (tb s a.toNat = true ∧ hlV (σ 69) a b ≠ 0) = true then bor x (1 * 2 ^ Int.toNat b) else x) (p := fun b => decide (tb s a.toNat = true ∧ hlV (σ 69) a b ≠ 0)) (v := fun b => 1 * 2 ^ Int.toNat b) (x0 := x) (σ r 0).toNat (fun _ _ _ _ => rfl) k
            rw [show (((σ r 0).toNat : Nat) : Int) = σ r 0 by omega] at hr0 ht0
            have hr1 : 0 ≤ (if tb s a.toNat = true then bor x (bwE (σ 35) a) else x) ∧ (if tb s a.toNat = true then bor x (bwE (σ 35) a) else x) < 16384 := by
              split
              · exact bor_r hx (bwE_r hLR a)
              · exact hx
            apply tb_eq hr0.1 (by omega) hr1.1 (by omega)
            intro k hk
            have hh := ht0 k
            have hw := bwE_tb hRS (by omega) hLR a k
            apply Bool.eq_iff_iff.mpr
            rw [hh]
            cases hc : tb s a.toNat
            · rw [if_neg (by decide)]
              constructor
              · intro z
                rcases z with z | ⟨b, b0, b1, b2⟩
                · exact z
                · have := (of_decide_eq_true b1).1
                  cases this
              · exact Or.inl
            · rw [if_pos rfl, tb_bor, Bool.or_eq_true, hw]
              constructor
              · intro z
                rcases z with z | ⟨b, b0, b1, b2⟩
                · exact Or.inl z
                · have b2' : tb (1 * 2 ^ Int.toNat b) k = true := b2
                  rw [tb_pow (by omega)] at b2'
                  have ek := of_decide_eq_true b2'
                  have eb : b = (k : Int) := by omega
                  rw [eb] at b0 b1
                  exact Or.inr ⟨b0.2, (of_decide_eq_true b1).2⟩
              · intro z
                rcases z with z | ⟨z1, z2⟩
                · exact Or.inl z
                · refine Or.inr ⟨k, ⟨by omega, z1⟩, decide_eq_true ⟨rfl, z2⟩, ?_⟩
                  show tb (1 * 2 ^ Int.toNat (k : Int)) k = true
                  rw [tb_pow (by omega)]
                  exact decide_eq_true (by omega)
          have inner := downInd (P := fun b => AW d mX9_ring 49 [some (.inr (.inr 42)), some (.inl (rgC b0 (fstI (rgB (bwE (σ 35)) (σ r 0) t) i + 1))), some (.inl t), some (.inl s), some (.inl v), some (.inl (i + 1)), some (.inl (foI (fun b x => if tb s a.toNat = true ∧ hlV (σ 69) a b ≠ 0 then bor x (1 * 2 ^ Int.toNat b) else x) x b)), some (.inl a), some (.inl b)] [] σ (fun v' σ' => v' = some (.inl (rgV (bwE (σ 35)) (σ r 0) (σ r 0))) ∧ SIM n σ' r q)) (lo := 0) (hi := σ r 0) hN.1 ?_ ?_
          · exact inner
          · rw [hend]
            refine mri_49 ?_
            rw [e4]
            exact ⟨by omega, by omega, fun _ => iha, fun c => by omega⟩
          · intro b b0 b1 ihb
            rw [foI_s _ _ b0] at ihb
            generalize foI (fun b x => if tb s a.toNat = true ∧ hlV (σ 69) a b ≠ 0 then bor x (1 * 2 ^ Int.toNat b) else x) x b = y at *
            have hb := sh1 (x := s) (k := Int.toNat a) hs.1 (by omega)
            have hh01 : r3 (hlV (σ 69) a b) := by unfold hlV; split <;> decide
            refine mri_49 ?_
            rw [e4, hb]
            cases hc : tb s a.toNat
            · rw [if_neg (fun z => by rw [hc] at z; cases z.1)] at ihb
              exact ⟨by omega, by omega, fun c => by omega, fun _ => ⟨by omega, by decide, fun _ => ihb, fun c => absurd c (by decide)⟩⟩
            · refine ⟨by omega, by omega, fun c => by omega, fun _ => ⟨by omega, by decide, fun c => absurd rfl c, fun _ => ⟨by omega, ⟨by omega, hML, by omega, by omega⟩, hh01, fun c => ?_, fun c => ⟨by omega, ?_⟩⟩⟩⟩
              · rw [if_neg (fun z => z.2 c)] at ihb
                exact ihb
              · rw [if_pos ⟨hc, c⟩] at ihb
                exact ihb
  refine xri_0 ?_
  have key := downInd (P := fun t => AW d mX8_ring 4 [some (.inr (.inr 0)), some (.inl (rgV (bwE (σ 35)) (σ r 0) t)), some (.inl t), none] [] σ (SAME d n r q mX9_ring [some (.inr (.inr 42)), none, none, none, none, none, none, none, none])) (lo := 0) (hi := σ r 0) hN.1 ?_ ?_
  · exact key
  · refine xri_4 hr hx ⟨by omega, fun _ => ?_, fun c => by omega⟩
    unfold SAME
    exact ref
  · intro t t0 t1 ih
    have hs : rgV (bwE (σ 35)) (σ r 0) (t + 1) = rgC (rgV (bwE (σ 35)) (σ r 0) t) (rtV (bwE (σ 35)) (σ r 0) t) := foI_s _ _ t0
    have hb0 := rgV_r (e := bwE (σ 35)) hN.1 t.toNat
    rw [show ((t.toNat : Nat) : Int) = t by omega] at hb0
    have hrt := rtV_r (e := bwE (σ 35)) (t := t) hN.1
    rw [hs] at ih
    refine xri_4 hr hx ⟨by omega, fun c => by omega, fun _ => ⟨by omega, ?_⟩⟩
    refine ringThrough_ok h t0 t1 (by omega) ?_
    generalize rtV (bwE (σ 35)) (σ r 0) t = s at *
    generalize rgV (bwE (σ 35)) (σ r 0) t = x at *
    unfold rgC at ih
    refine xri_20 ⟨by omega, fun c => ?_, fun c => ⟨by omega, fun c2 => ?_, fun c2 => ⟨by omega, fun c3 => ?_, fun c3 => ?_⟩⟩⟩
    · rw [if_neg (fun z => z.1 c)] at ih
      exact ih
    · rw [if_pos ⟨c, Or.inl c2⟩] at ih
      exact ih
    · rw [if_neg (fun z => by omega)] at ih
      exact ih
    · rw [if_pos ⟨c, Or.inr c3⟩] at ih
      exact ih
