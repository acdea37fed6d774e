/-! ===== the image (wip/whole/gen64.py) ===== -/
def kX1_draw_0 : List BI := [bi (.aload_n 0) 1 [] 0, bi (.iconst 0) 1 [] 0, bi (.putfield 17) 3 [1, 1] 0, bi (.aload_n 0) 1 [] 0, bi (.aload_n 2) 1 [] 0, bi (.invokevirtual 21) 3 [mX6_today, 1, 1, 6] 0, bi (.iconst 2) 1 [] 0, bi (.invokevirtual 25) 3 [mX1_putBytes, 3, 4, 1] 0, bi (.iconst 0) 1 [] 0, bi (.istore_n 3) 1 [] 0]
theorem cX1_draw_0 : chk mX1_draw 0 kX1_draw_0 = true := by decide +kernel
theorem xdraw_0 {d : Nat} {σ : SG} {Q : Option AV → SG → Prop} {r : Nat} (hr : r = 5 ∨ r = 16) (h : (∀ S1 : SG, S1 = up σ 40 1 0 → (0 < d) ∧ (0 < d) ∧ (pbO S1 2) ∧ (∀ S2 : SG, S2 = pbS S1 (S1 35 0) 2 → AW d mX1_draw 16 [some (.inr (.inr 40)), some (.inr (.inr r)), some (.inr (.inr 34)), some (.inl 0), none] [] S2 Q))) : AW d mX1_draw 0 [some (.inr (.inr 40)), some (.inr (.inr r)), some (.inr (.inr 34)), none, none] [] σ Q := by
  rcases hr with rfl | rfl <;> exact AW.blk kX1_draw_0 cX1_draw_0 (⟨((h) _ rfl).1, AW.blk kX6_today_0 cX6_today_0 (⟨⟨(by decide), (by decide)⟩, ⟨(((h) _ rfl).2).1, putBytes_ok ⟨((((h) _ rfl).2).2).1, (((((h) _ rfl).2).2).2) _ rfl⟩⟩⟩)⟩)
def kX1_draw_72 : List BI := [bi (.aload_n 0) 1 [] 0, bi (.aload_n 2) 1 [] 0, bi (.invokevirtual 45) 3 [mX6_loans, 1, 1, 6] 0, bi (.iconst 1) 1 [] 0, bi (.invokevirtual 25) 3 [mX1_putBytes, 3, 4, 1] 0, bi (.iconst 0) 1 [] 0, bi (.istore_n 3) 1 [] 0]
theorem cX1_draw_72 : chk mX1_draw 72 kX1_draw_72 = true := by decide +kernel
def kX1_draw_16 : List BI := [bi (.iload_n 3) 1 [] 0, bi (.aload_n 1) 1 [] 0, bi (.getfield 29) 3 [4, 0] 0, bi (.if_icmp .ge (51)) 3 [72] 0, bi (.aload_n 0) 1 [] 0, bi (.aload_n 2) 1 [] 0, bi (.iload_n 3) 1 [] 0, bi (.invokevirtual 34) 3 [mX6_inPurse, 2, 2, 6] 0, bi (.iconst 4) 1 [] 0, bi (.invokevirtual 25) 3 [mX1_putBytes, 3, 4, 1] 0, bi (.iconst 1) 1 [] 0, bi (.istore 4) 2 [] 0]
theorem cX1_draw_16 : chk mX1_draw 16 kX1_draw_16 = true := by decide +kernel
theorem xdraw_16 {d : Nat} {σ : SG} {Q : Option AV → SG → Prop} {l3 : Int} {r : Nat} (hr : r = 5 ∨ r = 16) (h : (r3 l3 ∧ r3 (σ r 0)) ∧ ((σ r 0) ≤ l3 → (0 < d) ∧ (0 < d) ∧ (pbO σ 1) ∧ (∀ S3 : SG, S3 = pbS σ (σ 35 1) 1 → AW d mX1_draw 83 [some (.inr (.inr 40)), none, some (.inr (.inr 34)), some (.inl 0), none] [] S3 Q)) ∧ (l3 < (σ r 0) → (0 < d) ∧ (0 ≤ (2 + l3) ∧ (2 + l3) < 214) ∧ (0 < d) ∧ (pbO σ 4) ∧ (∀ S4 : SG, S4 = pbS σ (σ 35 (2 + l3)) 4 → AW d mX1_draw 37 [some (.inr (.inr 40)), some (.inr (.inr r)), some (.inr (.inr 34)), some (.inl l3), some (.inl 1)] [] S4 Q))) : AW d mX1_draw 16 [some (.inr (.inr 40)), some (.inr (.inr r)), some (.inr (.inr 34)), some (.inl l3), none] [] σ Q := by
  rcases hr with rfl | rfl <;> exact AW.blk kX1_draw_16 cX1_draw_16 (⟨⟨((h).1).1, ((h).1).2⟩, ⟨fun c5 => AW.blk kX1_draw_72 cX1_draw_72 (⟨(((h).2).1 c5).1, AW.blk kX6_loans_0 cX6_loans_0 (⟨⟨(by decide), (by decide)⟩, ⟨((((h).2).1 c5).2).1, putBytes_ok ⟨(((((h).2).1 c5).2).2).1, AW.drop 1 (((((((h).2).1 c5).2).2).2) _ rfl)⟩⟩⟩)⟩), fun c5 => ⟨(((h).2).2 c5).1, AW.blk kX6_inPurse_0 cX6_inPurse_0 (⟨⟨(((((h).2).2 c5).2).1).1, (((((h).2).2 c5).2).1).2⟩, ⟨(((((h).2).2 c5).2).2).1, putBytes_ok ⟨((((((h).2).2 c5).2).2).2).1, (((((((h).2).2 c5).2).2).2).2) _ rfl⟩⟩⟩)⟩⟩⟩)
def kX1_draw_125 : List BI := [bi (.aload_n 0) 1 [] 0, bi (.aload_n 0) 1 [] 0, bi (.invokevirtual 51) 3 [mX1_check, 1, 3, 1] 0, bi (.iconst 1) 1 [] 0, bi (.invokevirtual 25) 3 [mX1_putBytes, 3, 4, 1] 0, bi (.aload_n 0) 1 [] 0, bi (.getfield 17) 3 [1, 1] 0, bi (.ireturn) 1 [] 0]
theorem cX1_draw_125 : chk mX1_draw 125 kX1_draw_125 = true := by decide +kernel
def kX1_draw_83 : List BI := [bi (.iload_n 3) 1 [] 0, bi (.aload_n 2) 1 [] 0, bi (.invokevirtual 45) 3 [mX6_loans, 1, 1, 6] 0, bi (.if_icmp .ge (37)) 3 [125] 0, bi (.iconst 0) 1 [] 0, bi (.istore 4) 2 [] 0]
theorem cX1_draw_83 : chk mX1_draw 83 kX1_draw_83 = true := by decide +kernel
theorem xdraw_83 {d : Nat} {σ : SG} {Q : Option AV → SG → Prop} {l3 : Int} (h : (0 < d) ∧ (r3 l3 ∧ r3 (σ 35 1)) ∧ ((σ 35 1) ≤ l3 → (0 < d) ∧ (ckO σ) ∧ (0 < d) ∧ (pbO σ 1) ∧ (∀ S6 : SG, S6 = pbS σ (ckV (σ 41) (σ 40 1)) 1 → Q (some (.inl (S6 40 1))) S6)) ∧ (l3 < (σ 35 1) → AW d mX1_draw 94 [some (.inr (.inr 40)), none, some (.inr (.inr 34)), some (.inl l3), some (.inl 0)] [] σ Q)) : AW d mX1_draw 83 [some (.inr (.inr 40)), none, some (.inr (.inr 34)), some (.inl l3), none] [] σ Q := AW.blk kX1_draw_83 cX1_draw_83 (⟨(h).1, AW.blk kX6_loans_0 cX6_loans_0 (⟨⟨(by decide), (by decide)⟩, ⟨⟨(((h).2).1).1, (((h).2).1).2⟩, ⟨fun c7 => AW.blk kX1_draw_125 cX1_draw_125 (⟨((((h).2).2).1 c7).1, check_ok ⟨(((((h).2).2).1 c7).2).1, ⟨((((((h).2).2).1 c7).2).2).1, putBytes_ok ⟨(((((((h).2).2).1 c7).2).2).2).1, ((((((((h).2).2).1 c7).2).2).2).2) _ rfl⟩⟩⟩⟩), fun c7 => (((h).2).2).2 c7⟩⟩⟩)⟩)
def kX1_draw_66 : List BI := [bi (.iinc 3 (1)) 3 [] 0, bi (.goto (-53)) 3 [16] 0]
theorem cX1_draw_66 : chk mX1_draw 66 kX1_draw_66 = true := by decide +kernel
def kX1_draw_37 : List BI := [bi (.iload 4) 2 [] 0, bi (.aload_n 1) 1 [] 0, bi (.getfield 38) 3 [4, 6] 0, bi (.iload_n 3) 1 [] 0, bi (.iaload) 1 [] 0, bi (.if_icmp .gt (21)) 3 [66] 0, bi (.aload_n 0) 1 [] 0, bi (.aload_n 2) 1 [] 0, bi (.iload_n 3) 1 [] 0, bi (.iload 4) 2 [] 0, bi (.invokevirtual 41) 3 [mX6_howIs, 3, 4, 6] 0, bi (.iconst 1) 1 [] 0, bi (.invokevirtual 25) 3 [mX1_putBytes, 3, 4, 1] 0, bi (.iinc 4 (1)) 3 [] 0, bi (.goto (-26)) 3 [37] 0]
theorem cX1_draw_37 : chk mX1_draw 37 kX1_draw_37 = true := by decide +kernel
theorem xdraw_37 {d : Nat} {σ : SG} {Q : Option AV → SG → Prop} {l3 l4 : Int} {r : Nat} (hr : r = 5 ∨ r = 16) (h : (0 ≤ l3 ∧ l3 < 4) ∧ (r3 l4 ∧ r3 (σ (r + 2) l3)) ∧ ((σ (r + 2) l3) < l4 → AW d mX1_draw 16 [some (.inr (.inr 40)), some (.inr (.inr r)), some (.inr (.inr 34)), some (.inl (l3 + 1)), none] [] σ Q) ∧ (l4 ≤ (σ (r + 2) l3) → (0 < d) ∧ (1 ≤ d - 1 ∧ SR (σ 35) ∧ 0 ≤ l3 ∧ l3 < 4 ∧ 1 ≤ l4 ∧ l4 ≤ 14) ∧ (0 < d) ∧ (pbO σ 1) ∧ (∀ S8 : SG, S8 = pbS σ (hwV (σ 35) l3 l4) 1 → AW d mX1_draw 37 [some (.inr (.inr 40)), some (.inr (.inr r)), some (.inr (.inr 34)), some (.inl l3), some (.inl (l4 + 1))] [] S8 Q))) : AW d mX1_draw 37 [some (.inr (.inr 40)), some (.inr (.inr r)), some (.inr (.inr 34)), some (.inl l3), some (.inl l4)] [] σ Q := by
  rcases hr with rfl | rfl <;> exact AW.blk kX1_draw_37 cX1_draw_37 (⟨⟨((h).1).1, ((h).1).2⟩, ⟨⟨(((h).2).1).1, (((h).2).1).2⟩, ⟨fun c9 => AW.blk kX1_draw_66 cX1_draw_66 (AW.drop 4 ((((h).2).2).1 c9)), fun c9 => ⟨((((h).2).2).2 c9).1, howIs_ok (by decide) ⟨(((((h).2).2).2 c9).2).1, ⟨((((((h).2).2).2 c9).2).2).1, putBytes_ok ⟨(((((((h).2).2).2 c9).2).2).2).1, ((((((((h).2).2).2 c9).2).2).2).2) _ rfl⟩⟩⟩⟩⟩⟩⟩)
def kX1_draw_119 : List BI := [bi (.iinc 3 (1)) 3 [] 0, bi (.goto (-39)) 3 [83] 0]
theorem cX1_draw_119 : chk mX1_draw 119 kX1_draw_119 = true := by decide +kernel
def kX1_draw_94 : List BI := [bi (.iload 4) 2 [] 0, bi (.bipush (8)) 2 [] 0, bi (.if_icmp .ge (21)) 3 [119] 0, bi (.aload_n 0) 1 [] 0, bi (.aload_n 2) 1 [] 0, bi (.iload_n 3) 1 [] 0, bi (.iload 4) 2 [] 0, bi (.invokevirtual 48) 3 [mX6_ofLoan, 3, 3, 6] 0, bi (.iconst 1) 1 [] 0, bi (.invokevirtual 25) 3 [mX1_putBytes, 3, 4, 1] 0, bi (.iinc 4 (1)) 3 [] 0, bi (.goto (-22)) 3 [94] 0]
theorem cX1_draw_94 : chk mX1_draw 94 kX1_draw_94 = true := by decide +kernel
theorem xdraw_94 {d : Nat} {σ : SG} {Q : Option AV → SG → Prop} {l3 l4 : Int} (h : (r3 l4) ∧ (8 ≤ l4 → AW d mX1_draw 83 [some (.inr (.inr 40)), none, some (.inr (.inr 34)), some (.inl (l3 + 1)), none] [] σ Q) ∧ (l4 < 8 → (0 < d) ∧ (0 ≤ ((22 + (l3 * 8)) + l4) ∧ ((22 + (l3 * 8)) + l4) < 214) ∧ (0 < d) ∧ (pbO σ 1) ∧ (∀ S10 : SG, S10 = pbS σ (σ 35 ((22 + (l3 * 8)) + l4)) 1 → AW d mX1_draw 94 [some (.inr (.inr 40)), none, some (.inr (.inr 34)), some (.inl l3), some (.inl (l4 + 1))] [] S10 Q))) : AW d mX1_draw 94 [some (.inr (.inr 40)), none, some (.inr (.inr 34)), some (.inl l3), some (.inl l4)] [] σ Q := AW.blk kX1_draw_94 cX1_draw_94 (⟨⟨(h).1, (by decide)⟩, ⟨fun c11 => AW.blk kX1_draw_119 cX1_draw_119 (AW.drop 4 (((h).2).1 c11)), fun c11 => ⟨(((h).2).2 c11).1, AW.blk kX6_ofLoan_0 cX6_ofLoan_0 (⟨⟨(((((h).2).2 c11).2).1).1, (((((h).2).2 c11).2).1).2⟩, ⟨(((((h).2).2 c11).2).2).1, putBytes_ok ⟨((((((h).2).2 c11).2).2).2).1, (((((((h).2).2 c11).2).2).2).2) _ rfl⟩⟩⟩)⟩⟩⟩)
def kX8_image_8 : List BI := [bi (.aload_n 0) 1 [] 0, bi (.getfield 42) 3 [8, 4] 0, bi (.invokevirtual 304) 3 [mX1_draw, 3, 5, 1] 0]
theorem cX8_image_8 : chk mX8_image 8 kX8_image_8 = true := by decide +kernel
def kX8_image_0 : List BI := [bi (.aload_n 0) 1 [] 0, bi (.getfield 59) 3 [8, 7] 0, bi (.aload_n 0) 1 [] 0, bi (.getfield 70) 3 [8, 9] 0]
theorem cX8_image_0 : chk mX8_image 0 kX8_image_0 = true := by decide +kernel
theorem ximage_0 {d : Nat} {σ : SG} {Q : Option AV → SG → Prop} {r : Nat} (hr : r = 5 ∨ r = 16) (hx : (σ 0 9).toNat = r) (h : (0 < d) ∧ AW (d - 1) mX1_draw 0 [some (.inr (.inr 40)), some (.inr (.inr r)), some (.inr (.inr 34)), none, none] [] σ (fun rr σ' => AW d mX8_image 15 [some (.inr (.inr 0))] (rtS rr []) σ' Q)) : AW d mX8_image 0 [some (.inr (.inr 0))] [] σ Q := by
  rcases hr with rfl | rfl <;> exact AW.blk kX8_image_0 cX8_image_0 (aw_rl hx (AW.blk kX8_image_8 cX8_image_8 (⟨(h).1, (h).2⟩)))
def kX8_image_15 : List BI := [bi (.ireturn) 1 [] 0]
theorem cX8_image_15 : chk mX8_image 15 kX8_image_15 = true := by decide +kernel
theorem ximage_15 {d : Nat} {σ : SG} {Q : Option AV → SG → Prop} {s0 : Int} (h : Q (some (.inl s0)) σ) : AW d mX8_image 15 [some (.inr (.inr 0))] [.inl s0] σ Q := AW.blk kX8_image_15 cX8_image_15 (h)
def kX9_writes_0 : List BI := [bi (.aload_n 0) 1 [] 0, bi (.getfield 184) 3 [9, 80] 0, bi (.aload_n 0) 1 [] 0, bi (.getfield 601) 3 [9, 81] 0, bi (.iload_n 1) 1 [] 0, bi (.iastore) 1 [] 0, bi (.aload_n 0) 1 [] 0, bi (.dup) 1 [] 0, bi (.getfield 601) 3 [9, 81] 0, bi (.iconst 1) 1 [] 0, bi (.iadd) 1 [] 0, bi (.putfield 601) 3 [9, 81] 0, bi (.return_) 1 [] 0]
theorem cX9_writes_0 : chk mX9_writes 0 kX9_writes_0 = true := by decide +kernel
def kX9_image_0 : List BI := [bi (.aload_n 0) 1 [] 0, bi (.iconst 0) 1 [] 0, bi (.putfield 601) 3 [9, 81] 0, bi (.aload_n 0) 1 [] 0, bi (.aload_n 0) 1 [] 0, bi (.getfield 94) 3 [9, 37] 0, bi (.iconst 0) 1 [] 0, bi (.iaload) 1 [] 0, bi (.sipush (256)) 3 [] 0, bi (.idiv) 1 [] 0, bi (.invokevirtual 604) 3 [mX9_writes, 2, 2, 9] 0, bi (.aload_n 0) 1 [] 0, bi (.aload_n 0) 1 [] 0, bi (.getfield 94) 3 [9, 37] 0, bi (.iconst 0) 1 [] 0, bi (.iaload) 1 [] 0, bi (.sipush (256)) 3 [] 0, bi (.irem) 1 [] 0, bi (.invokevirtual 604) 3 [mX9_writes, 2, 2, 9] 0, bi (.iconst 0) 1 [] 0, bi (.istore_n 1) 1 [] 0]
theorem cX9_image_0 : chk mX9_image 0 kX9_image_0 = true := by decide +kernel
theorem mimage_0 {d : Nat} {σ : SG} {Q : Option AV → SG → Prop} (h : (∀ S12 : SG, S12 = up σ 42 81 0 → (r3 (S12 69 0)) ∧ (0 < d) ∧ (0 ≤ (S12 42 81) ∧ (S12 42 81) < 268) ∧ (∀ S13 : SG, S13 = up S12 99 (S12 42 81) (Int.tdiv (S12 69 0) 256) → (∀ S14 : SG, S14 = up S13 42 81 ((S13 42 81) + 1) → (r3 (S14 69 0)) ∧ (0 < d) ∧ (0 ≤ (S14 42 81) ∧ (S14 42 81) < 268) ∧ (∀ S15 : SG, S15 = up S14 99 (S14 42 81) (Int.tmod (S14 69 0) 256) → (∀ S16 : SG, S16 = up S15 42 81 ((S15 42 81) + 1) → AW d mX9_image 35 [some (.inr (.inr 42)), some (.inl 0), none] [] S16 Q)))))) : AW d mX9_image 0 [some (.inr (.inr 42)), none, none] [] σ Q := AW.blk kX9_image_0 cX9_image_0 (⟨⟨(by decide), (by decide)⟩, ⟨⟨((h) _ rfl).1, (by decide), (by decide)⟩, ⟨(((h) _ rfl).2).1, AW.blk kX9_writes_0 cX9_writes_0 (⟨⟨(((((h) _ rfl).2).2).1).1, (((((h) _ rfl).2).2).1).2⟩, ⟨⟨(by decide), (by decide)⟩, ⟨⟨(((((((h) _ rfl).2).2).2) _ rfl) _ rfl).1, (by decide), (by decide)⟩, ⟨((((((((h) _ rfl).2).2).2) _ rfl) _ rfl).2).1, AW.blk kX9_writes_0 cX9_writes_0 (⟨⟨((((((((((h) _ rfl).2).2).2) _ rfl) _ rfl).2).2).1).1, ((((((((((h) _ rfl).2).2).2) _ rfl) _ rfl).2).2).1).2⟩, (((((((((((h) _ rfl).2).2).2) _ rfl) _ rfl).2).2).2) _ rfl) _ rfl⟩)⟩⟩⟩⟩)⟩⟩⟩)
def kX9_image_107 : List BI := [bi (.aload_n 0) 1 [] 0, bi (.aload_n 0) 1 [] 0, bi (.invokevirtual 335) 3 [mX9_loanMany, 1, 1, 9] 0, bi (.invokevirtual 604) 3 [mX9_writes, 2, 2, 9] 0, bi (.iconst 0) 1 [] 0, bi (.istore_n 1) 1 [] 0]
theorem cX9_image_107 : chk mX9_image 107 kX9_image_107 = true := by decide +kernel
def kX9_image_35 : List BI := [bi (.iload_n 1) 1 [] 0, bi (.aload_n 0) 1 [] 0, bi (.invokevirtual 319) 3 [mX9_towerMany, 1, 1, 9] 0, bi (.if_icmp .ge (67)) 3 [107] 0, bi (.bipush (24)) 2 [] 0, bi (.istore_n 2) 1 [] 0]
theorem cX9_image_35 : chk mX9_image 35 kX9_image_35 = true := by decide +kernel
theorem mimage_35 {d : Nat} {σ : SG} {Q : Option AV → SG → Prop} {l1 : Int} (h : (0 < d) ∧ (r3 l1 ∧ r3 (σ 61 4)) ∧ ((σ 61 4) ≤ l1 → (0 < d) ∧ (0 < d) ∧ (0 ≤ (σ 42 81) ∧ (σ 42 81) < 268) ∧ (∀ S17 : SG, S17 = up σ 99 (σ 42 81) (σ 69 1) → (∀ S18 : SG, S18 = up S17 42 81 ((S17 42 81) + 1) → AW d mX9_image 117 [some (.inr (.inr 42)), some (.inl 0), none] [] S18 Q))) ∧ (l1 < (σ 61 4) → AW d mX9_image 46 [some (.inr (.inr 42)), some (.inl l1), some (.inl 24)] [] σ Q)) : AW d mX9_image 35 [some (.inr (.inr 42)), some (.inl l1), none] [] σ Q := AW.blk kX9_image_35 cX9_image_35 (⟨(h).1, AW.blk kX9_towerMany_0 cX9_towerMany_0 (⟨⟨(by decide), (by decide)⟩, ⟨⟨(((h).2).1).1, (((h).2).1).2⟩, ⟨fun c19 => AW.blk kX9_image_107 cX9_image_107 (⟨((((h).2).2).1 c19).1, AW.blk kX9_loanMany_0 cX9_loanMany_0 (⟨⟨(by decide), (by decide)⟩, ⟨(((((h).2).2).1 c19).2).1, AW.blk kX9_writes_0 cX9_writes_0 (⟨⟨(((((((h).2).2).1 c19).2).2).1).1, (((((((h).2).2).1 c19).2).2).1).2⟩, ((((((((h).2).2).1 c19).2).2).2) _ rfl) _ rfl⟩)⟩⟩)⟩), fun c19 => (((h).2).2).2 c19⟩⟩⟩)⟩)
def kX9_image_155 : List BI := [bi (.bipush (127)) 2 [] 0, bi (.istore_n 1) 1 [] 0, bi (.iconst 0) 1 [] 0, bi (.istore_n 2) 1 [] 0]
theorem cX9_image_155 : chk mX9_image 155 kX9_image_155 = true := by decide +kernel
def kX9_image_117 : List BI := [bi (.iload_n 1) 1 [] 0, bi (.aload_n 0) 1 [] 0, bi (.invokevirtual 335) 3 [mX9_loanMany, 1, 1, 9] 0, bi (.if_icmp .ge (33)) 3 [155] 0, bi (.iconst 0) 1 [] 0, bi (.istore_n 2) 1 [] 0]
theorem cX9_image_117 : chk mX9_image 117 kX9_image_117 = true := by decide +kernel
theorem mimage_117 {d : Nat} {σ : SG} {Q : Option AV → SG → Prop} {l1 : Int} (h : (0 < d) ∧ (r3 l1 ∧ r3 (σ 69 1)) ∧ ((σ 69 1) ≤ l1 → AW d mX9_image 160 [some (.inr (.inr 42)), some (.inl 127), some (.inl 0)] [] σ Q) ∧ (l1 < (σ 69 1) → AW d mX9_image 127 [some (.inr (.inr 42)), some (.inl l1), some (.inl 0)] [] σ Q)) : AW d mX9_image 117 [some (.inr (.inr 42)), some (.inl l1), none] [] σ Q := AW.blk kX9_image_117 cX9_image_117 (⟨(h).1, AW.blk kX9_loanMany_0 cX9_loanMany_0 (⟨⟨(by decide), (by decide)⟩, ⟨⟨(((h).2).1).1, (((h).2).1).2⟩, ⟨fun c20 => AW.blk kX9_image_155 cX9_image_155 ((((h).2).2).1 c20), fun c20 => (((h).2).2).2 c20⟩⟩⟩)⟩)
def kX9_image_74 : List BI := [bi (.iconst 1) 1 [] 0, bi (.istore_n 2) 1 [] 0]
theorem cX9_image_74 : chk mX9_image 74 kX9_image_74 = true := by decide +kernel
def kX9_image_46 : List BI := [bi (.iload_n 2) 1 [] 0, bi (.ifCond .lt (27)) 3 [74] 0, bi (.aload_n 0) 1 [] 0, bi (.aload_n 0) 1 [] 0, bi (.getfield 94) 3 [9, 37] 0, bi (.iconst 2) 1 [] 0, bi (.iload_n 1) 1 [] 0, bi (.iadd) 1 [] 0, bi (.iaload) 1 [] 0, bi (.iload_n 2) 1 [] 0, bi (.ishr) 1 [] 0, bi (.sipush (255)) 3 [] 0, bi (.iand) 1 [] 0, bi (.invokevirtual 604) 3 [mX9_writes, 2, 2, 9] 0, bi (.iinc 2 (-8)) 3 [] 0, bi (.goto (-25)) 3 [46] 0]
theorem cX9_image_46 : chk mX9_image 46 kX9_image_46 = true := by decide +kernel
theorem mimage_46 {d : Nat} {σ : SG} {Q : Option AV → SG → Prop} {l1 l2 : Int} (h : (r3 l2) ∧ (l2 < 0 → AW d mX9_image 76 [some (.inr (.inr 42)), some (.inl l1), some (.inl 1)] [] σ Q) ∧ (0 ≤ l2 → (0 ≤ (2 + l1) ∧ (2 + l1) < 254) ∧ (0 ≤ l2 ∧ l2 < 32 ∧ r3 (σ 69 (2 + l1))) ∧ (0 < d) ∧ (0 ≤ (σ 42 81) ∧ (σ 42 81) < 268) ∧ (∀ S21 : SG, S21 = up σ 99 (σ 42 81) (band ((σ 69 (2 + l1)) / 2 ^ Int.toNat l2) 255) → (∀ S22 : SG, S22 = up S21 42 81 ((S21 42 81) + 1) → AW d mX9_image 46 [some (.inr (.inr 42)), some (.inl l1), some (.inl (l2 + (-8)))] [] S22 Q)))) : AW d mX9_image 46 [some (.inr (.inr 42)), some (.inl l1), some (.inl l2)] [] σ Q := AW.blk kX9_image_46 cX9_image_46 (⟨(h).1, ⟨fun c23 => AW.blk kX9_image_74 cX9_image_74 (((h).2).1 c23), fun c23 => ⟨⟨((((h).2).2 c23).1).1, ((((h).2).2 c23).1).2⟩, ⟨⟨(((((h).2).2 c23).2).1).1, ((((((h).2).2 c23).2).1).2).1, ((((((h).2).2 c23).2).1).2).2⟩, ⟨(((((h).2).2 c23).2).2).1, AW.blk kX9_writes_0 cX9_writes_0 (⟨⟨(((((((h).2).2 c23).2).2).2).1).1, (((((((h).2).2 c23).2).2).2).1).2⟩, ((((((((h).2).2 c23).2).2).2).2) _ rfl) _ rfl⟩)⟩⟩⟩⟩⟩)
def kX9_image_189 : List BI := [bi (.aload_n 0) 1 [] 0, bi (.iload_n 1) 1 [] 0, bi (.invokevirtual 604) 3 [mX9_writes, 2, 2, 9] 0, bi (.aload_n 0) 1 [] 0, bi (.getfield 601) 3 [9, 81] 0, bi (.ireturn) 1 [] 0]
theorem cX9_image_189 : chk mX9_image 189 kX9_image_189 = true := by decide +kernel
def kX9_image_160 : List BI := [bi (.iload_n 2) 1 [] 0, bi (.aload_n 0) 1 [] 0, bi (.getfield 601) 3 [9, 81] 0, bi (.if_icmp .ge (24)) 3 [189] 0, bi (.iconst 3) 1 [] 0, bi (.iload_n 1) 1 [] 0, bi (.imul) 1 [] 0, bi (.aload_n 0) 1 [] 0, bi (.getfield 184) 3 [9, 80] 0, bi (.iload_n 2) 1 [] 0, bi (.iaload) 1 [] 0, bi (.iadd) 1 [] 0, bi (.sipush (249)) 3 [] 0, bi (.irem) 1 [] 0, bi (.istore_n 1) 1 [] 0, bi (.iinc 2 (1)) 3 [] 0, bi (.goto (-26)) 3 [160] 0]
theorem cX9_image_160 : chk mX9_image 160 kX9_image_160 = true := by decide +kernel
theorem mimage_160 {d : Nat} {σ : SG} {Q : Option AV → SG → Prop} {l1 l2 : Int} (h : (r3 l2 ∧ r3 (σ 42 81)) ∧ ((σ 42 81) ≤ l2 → (0 < d) ∧ (0 ≤ (σ 42 81) ∧ (σ 42 81) < 268) ∧ (∀ S24 : SG, S24 = up σ 99 (σ 42 81) l1 → (∀ S25 : SG, S25 = up S24 42 81 ((S24 42 81) + 1) → Q (some (.inl (S25 42 81))) S25))) ∧ (l2 < (σ 42 81) → (0 ≤ l2 ∧ l2 < 268) ∧ (r3 ((3 * l1) + (σ 99 l2))) ∧ AW d mX9_image 160 [some (.inr (.inr 42)), some (.inl (Int.tmod ((3 * l1) + (σ 99 l2)) 249)), some (.inl (l2 + 1))] [] σ Q)) : AW d mX9_image 160 [some (.inr (.inr 42)), some (.inl l1), some (.inl l2)] [] σ Q := AW.blk kX9_image_160 cX9_image_160 (⟨⟨((h).1).1, ((h).1).2⟩, ⟨fun c26 => AW.blk kX9_image_189 cX9_image_189 (⟨(((h).2).1 c26).1, AW.blk kX9_writes_0 cX9_writes_0 (⟨⟨(((((h).2).1 c26).2).1).1, (((((h).2).1 c26).2).1).2⟩, ((((((h).2).1 c26).2).2) _ rfl) _ rfl⟩)⟩), fun c26 => ⟨⟨((((h).2).2 c26).1).1, ((((h).2).2 c26).1).2⟩, ⟨⟨((((h).2).2 c26).2).1, (by decide), (by decide)⟩, ((((h).2).2 c26).2).2⟩⟩⟩⟩)
def kX9_image_149 : List BI := [bi (.iinc 1 (1)) 3 [] 0, bi (.goto (-35)) 3 [117] 0]
theorem cX9_image_149 : chk mX9_image 149 kX9_image_149 = true := by decide +kernel
def kX9_image_127 : List BI := [bi (.iload_n 2) 1 [] 0, bi (.bipush (8)) 2 [] 0, bi (.if_icmp .ge (19)) 3 [149] 0, bi (.aload_n 0) 1 [] 0, bi (.aload_n 0) 1 [] 0, bi (.iload_n 1) 1 [] 0, bi (.iload_n 2) 1 [] 0, bi (.invokevirtual 332) 3 [mX9_loanOf, 3, 3, 9] 0, bi (.invokevirtual 604) 3 [mX9_writes, 2, 2, 9] 0, bi (.iinc 2 (1)) 3 [] 0, bi (.goto (-19)) 3 [127] 0]
theorem cX9_image_127 : chk mX9_image 127 kX9_image_127 = true := by decide +kernel
theorem mimage_127 {d : Nat} {σ : SG} {Q : Option AV → SG → Prop} {l1 l2 : Int} (h : (r3 l2) ∧ (8 ≤ l2 → AW d mX9_image 117 [some (.inr (.inr 42)), some (.inl (l1 + 1)), none] [] σ Q) ∧ (l2 < 8 → (0 < d) ∧ (0 ≤ ((62 + (8 * l1)) + l2) ∧ ((62 + (8 * l1)) + l2) < 254) ∧ (0 < d) ∧ (0 ≤ (σ 42 81) ∧ (σ 42 81) < 268) ∧ (∀ S27 : SG, S27 = up σ 99 (σ 42 81) (σ 69 ((62 + (8 * l1)) + l2)) → (∀ S28 : SG, S28 = up S27 42 81 ((S27 42 81) + 1) → AW d mX9_image 127 [some (.inr (.inr 42)), some (.inl l1), some (.inl (l2 + 1))] [] S28 Q)))) : AW d mX9_image 127 [some (.inr (.inr 42)), some (.inl l1), some (.inl l2)] [] σ Q := AW.blk kX9_image_127 cX9_image_127 (⟨⟨(h).1, (by decide)⟩, ⟨fun c29 => AW.blk kX9_image_149 cX9_image_149 (AW.drop 2 (((h).2).1 c29)), fun c29 => ⟨(((h).2).2 c29).1, AW.blk kX9_loanOf_0 cX9_loanOf_0 (⟨⟨(((((h).2).2 c29).2).1).1, (((((h).2).2 c29).2).1).2⟩, ⟨(((((h).2).2 c29).2).2).1, AW.blk kX9_writes_0 cX9_writes_0 (⟨⟨(((((((h).2).2 c29).2).2).2).1).1, (((((((h).2).2 c29).2).2).2).1).2⟩, ((((((((h).2).2 c29).2).2).2).2) _ rfl) _ rfl⟩)⟩⟩)⟩⟩⟩)
def kX9_image_101 : List BI := [bi (.iinc 1 (1)) 3 [] 0, bi (.goto (-69)) 3 [35] 0]
theorem cX9_image_101 : chk mX9_image 101 kX9_image_101 = true := by decide +kernel
def kX9_image_76 : List BI := [bi (.iload_n 2) 1 [] 0, bi (.aload_n 0) 1 [] 0, bi (.iload_n 1) 1 [] 0, bi (.invokevirtual 328) 3 [mX9_stepsOf, 2, 2, 9] 0, bi (.if_icmp .gt (19)) 3 [101] 0, bi (.aload_n 0) 1 [] 0, bi (.aload_n 0) 1 [] 0, bi (.iload_n 1) 1 [] 0, bi (.iload_n 2) 1 [] 0, bi (.invokevirtual 341) 3 [mX9_howIs, 3, 3, 9] 0, bi (.invokevirtual 604) 3 [mX9_writes, 2, 2, 9] 0, bi (.iinc 2 (1)) 3 [] 0, bi (.goto (-22)) 3 [76] 0]
theorem cX9_image_76 : chk mX9_image 76 kX9_image_76 = true := by decide +kernel
theorem mimage_76 {d : Nat} {σ : SG} {Q : Option AV → SG → Prop} {l1 l2 : Int} (h : (0 < d) ∧ (0 ≤ (8 + (2 * l1)) ∧ (8 + (2 * l1)) < 16) ∧ (r3 l2 ∧ r3 (σ 63 (8 + (2 * l1)))) ∧ ((σ 63 (8 + (2 * l1))) < l2 → AW d mX9_image 35 [some (.inr (.inr 42)), some (.inl (l1 + 1)), none] [] σ Q) ∧ (l2 ≤ (σ 63 (8 + (2 * l1))) → (0 < d) ∧ (0 ≤ (((6 + (14 * l1)) + l2) - 1) ∧ (((6 + (14 * l1)) + l2) - 1) < 254) ∧ (0 < d) ∧ (0 ≤ (σ 42 81) ∧ (σ 42 81) < 268) ∧ (∀ S30 : SG, S30 = up σ 99 (σ 42 81) (σ 69 (((6 + (14 * l1)) + l2) - 1)) → (∀ S31 : SG, S31 = up S30 42 81 ((S30 42 81) + 1) → AW d mX9_image 76 [some (.inr (.inr 42)), some (.inl l1), some (.inl (l2 + 1))] [] S31 Q)))) : AW d mX9_image 76 [some (.inr (.inr 42)), some (.inl l1), some (.inl l2)] [] σ Q := AW.blk kX9_image_76 cX9_image_76 (⟨(h).1, AW.blk kX9_stepsOf_0 cX9_stepsOf_0 (⟨⟨(((h).2).1).1, (((h).2).1).2⟩, ⟨⟨((((h).2).2).1).1, ((((h).2).2).1).2⟩, ⟨fun c32 => AW.blk kX9_image_101 cX9_image_101 (AW.drop 2 (((((h).2).2).2).1 c32)), fun c32 => ⟨(((((h).2).2).2).2 c32).1, AW.blk kX9_howIs_0 cX9_howIs_0 (⟨⟨(((((((h).2).2).2).2 c32).2).1).1, (((((((h).2).2).2).2 c32).2).1).2⟩, ⟨(((((((h).2).2).2).2 c32).2).2).1, AW.blk kX9_writes_0 cX9_writes_0 (⟨⟨(((((((((h).2).2).2).2 c32).2).2).2).1).1, (((((((((h).2).2).2).2 c32).2).2).2).1).2⟩, ((((((((((h).2).2).2).2 c32).2).2).2).2) _ rfl) _ rfl⟩)⟩⟩)⟩⟩⟩⟩)⟩)
/-! the image as a list -/
theorem pb1 (σ : SG) (L : List Int) (v : Int) : pbS (stW σ 41 40 1 L) v 1 = stW σ 41 40 1 (L ++ byL v 1) := pbS_st σ L v 1
theorem pb2 (σ : SG) (L : List Int) (v : Int) : pbS (stW σ 41 40 1 L) v 2 = stW σ 41 40 1 (L ++ byL v 2) := pbS_st σ L v 2
theorem pb4 (σ : SG) (L : List Int) (v : Int) : pbS (stW σ 41 40 1 L) v 4 = stW σ 41 40 1 (L ++ byL v 4) := pbS_st σ L v 4
def seqL (F : Int → Int) : Nat → List Int
  | 0 => []
  | n + 1 => seqL F n ++ [F n]
theorem seqL_len (F : Int → Int) : ∀ n, (seqL F n).length = n
  | 0 => rfl
  | n + 1 => by rw [seqL, List.length_append, seqL_len F n]; rfl
theorem seqL_r {F : Int → Int} : ∀ n : Nat, (∀ i, 0 ≤ i → i < (n : Int) → 0 ≤ F i ∧ F i ≤ 255) → ∀ b ∈ seqL F n, 0 ≤ b ∧ b ≤ 255
  | 0, _, b, h => by simp [seqL] at h
  | n + 1, hF, b, h => by
    rw [seqL] at h
    rcases List.mem_append.mp h with h | h
    · exact seqL_r n (fun i a c => hF i a (by omega)) b h
    · rw [List.mem_singleton.mp h]
      exact hF n (by omega) (by omega)
def twL (g H : Int → Int) : Nat → List Int
  | 0 => []
  | n + 1 => twL g H n ++ byL (g (2 + n)) 4 ++ seqL (fun i => g (6 + 14 * n + i)) (H n).toNat
def lnL (g : Int → Int) : Nat → List Int
  | 0 => []
  | n + 1 => lnL g n ++ seqL (fun c => g (62 + 8 * n + c)) 8
theorem twL_len {g H : Int → Int} : ∀ n : Nat, (∀ t, 0 ≤ t → t < (n : Int) → 3 ≤ H t ∧ H t ≤ 14) → (twL g H n).length ≤ 18 * n
  | 0, _ => Nat.le_refl _
  | n + 1, hH => by
    have := twL_len (g := g) (H := H) n (fun t a b => hH t a (by omega))
    have hn := hH n (by omega) (by omega)
    rw [twL, List.length_append, List.length_append, byL_len, seqL_len]
    omega
theorem lnL_len (g : Int → Int) : ∀ n : Nat, (lnL g n).length = 8 * n
  | 0 => rfl
  | n + 1 => by
    rw [lnL, List.length_append, lnL_len g n, seqL_len]
    omega
def imA (day : Int) (g H : Int → Int) (tw cnt : Int) : List Int := byL day 2 ++ twL g H tw.toNat ++ [cnt] ++ lnL g cnt.toNat
theorem wL_r {f : Int → Int} {L : List Int} (h : ∀ b ∈ L, 0 ≤ b ∧ b ≤ 255) : ∀ i, 0 ≤ i → i < (L.length : Int) → 0 ≤ wL f L i ∧ wL f L i ≤ 255 := by
  intro i i0 i1
  unfold wL
  rw [if_pos ⟨i0, i1⟩, List.getElem?_eq_getElem (by omega)]
  exact h _ (List.getElem_mem _)
theorem byL_1 {v : Int} (h0 : 0 ≤ v) (h1 : v ≤ 255) : byL v 1 = [v] := by
  show [v / 2 ^ 0 % 256] = [v]
  rw [show v / 2 ^ 0 % 256 = v by rw [show (2 : Int) ^ 0 = 1 from rfl]; omega]
theorem ckV_w (f f' : Int → Int) (L : List Int) : ckV (wL f L) (L.length : Int) = ckV (wL f' L) (L.length : Int) := by
  unfold ckV
  apply foI_cong
  intro i x i0 i1
  unfold wL
  rw [if_pos ⟨i0, i1⟩, if_pos ⟨i0, i1⟩]
theorem imA_all {tw : Int} {H : Int → Int} {B D : Int} {f g : Int → Int} (h : RS tw H B D f g) (ht : 0 ≤ tw ∧ tw ≤ 4) (hH : ∀ t, 0 ≤ t → t < tw → 3 ≤ H t ∧ H t ≤ 14) : (imA (g 0) g H tw (g 1)).length ≤ 267 ∧ ∀ b ∈ imA (g 0) g H tw (g 1), 0 ≤ b ∧ b ≤ 255 := by
  have hM := h.mlr ht.2 hH
  have h1 := h.2.1
  constructor
  · unfold imA
    have := twL_len (g := g) (H := H) tw.toNat (fun t a b => hH t a (by omega))
    rw [List.length_append, List.length_append, List.length_append, byL_len, lnL_len]
    simp only [List.length_cons, List.length_nil]
    omega
  · have ht2 : ∀ n : Nat, (n : Int) ≤ tw → ∀ b ∈ twL g H n, 0 ≤ b ∧ b ≤ 255 := by
      intro n
      induction n with
      | zero => intro _ b hb; simp [twL] at hb
      | succ n ih =>
        intro hn b hb
        rw [twL] at hb
        have m := (h.2.2.2.1 n (by omega) (by omega)).1
        rcases List.mem_append.mp hb with hb | hb
        · rcases List.mem_append.mp hb with hb | hb
          · exact ih (by omega) b hb
          · exact byL_r _ _ b hb
        · refine seqL_r _ (fun i i0 i1 => ?_) b hb
          have := m i i0 (by have := hH n (by omega) (by omega); omega)
          omega
    have hl2 : ∀ n : Nat, (n : Int) ≤ g 1 → ∀ b ∈ lnL g n, 0 ≤ b ∧ b ≤ 255 := by
      intro n
      induction n with
      | zero => intro _ b hb; simp [lnL] at hb
      | succ n ih =>
        intro hn b hb
        rw [lnL] at hb
        rcases List.mem_append.mp hb with hb | hb
        · exact ih (by omega) b hb
        · refine seqL_r _ (fun c c0 c1 => ?_) b hb
          have q := hM.2 n (by omega) (by omega)
          rcases (by omega : c = 0 ∨ c = 1 ∨ c = 2 ∨ c = 3 ∨ c = 4 ∨ c = 5 ∨ c = 6 ∨ c = 7) with rfl | rfl | rfl | rfl | rfl | rfl | rfl | rfl <;> omega
    intro b hb
    unfold imA at hb
    rcases List.mem_append.mp hb with hb | hb
    · rcases List.mem_append.mp hb with hb | hb
      · rcases List.mem_append.mp hb with hb | hb
        · exact byL_r _ _ b hb
        · exact ht2 _ (by omega) b hb
      · rw [List.mem_singleton.mp hb]
        omega
    · exact hl2 _ (by omega) b hb
theorem stW_nil (σ : SG) (P O : Nat) (k : Int) : up σ O k 0 = stW σ P O k [] := by
  unfold stW
  rw [wL_nil, putF_self]
  rfl
theorem nat_toNat_succ {i : Int} (h : 0 ≤ i) : (i + 1).toNat = i.toNat + 1 := by omega
theorem xdraw_ok {d : Nat} {σ : SG} {Q : Option AV → SG → Prop} {r : Nat} {B D : Int} (hr : r = 5 ∨ r = 16) (hd : 50 ≤ d) (hL : RLR σ r) (hR : RS (σ r 0) (σ (r + 2)) B D (σ 35) (σ 69)) (hq : ∀ A, A = imA (σ 69 0) (σ 69) (σ (r + 2)) (σ r 0) (σ 69 1) → Q (some (.inl ((A.length : Int) + 1))) (stW σ 41 40 1 (A ++ [ckV (wL (σ 41) A) (A.length : Int)]))) : AW d mX1_draw 0 [some (.inr (.inr 40)), some (.inr (.inr r)), some (.inr (.inr 34)), none, none] [] σ Q := by
  have hH := hL.hH
  have htw := hL.1.1
  have hSR := hR.sr htw.2 hH
  have hLR := hR.lr htw.2 hH
  obtain ⟨lenA, byA⟩ := imA_all hR htw hH
  have h0 := hR.1
  have h1 := hR.2.1
  have z35 : ∀ L, stW σ 41 40 1 L 35 = σ 35 := fun L => stW_ne (by decide) (by decide)
  have zr : ∀ L, stW σ 41 40 1 L r = σ r := fun L => stW_ne (by omega) (by omega)
  have zr2 : ∀ L, stW σ 41 40 1 L (r + 2) = σ (r + 2) := fun L => stW_ne (by omega) (by omega)
  have z41 : ∀ L, stW σ 41 40 1 L 41 = wL (σ 41) L := fun L => stW_arr (by decide)
  -- behind the towers
  have back : AW d mX1_draw 16 [some (.inr (.inr 40)), some (.inr (.inr r)), some (.inr (.inr 34)), some (.inl (σ r 0)), none] [] (stW σ 41 40 1 (byL (σ 35 0) 2 ++ twL (σ 69) (σ (r + 2)) (σ r 0).toNat)) Q := by
    have lt := twL_len (g := σ 69) (H := σ (r + 2)) (σ r 0).toNat (fun t a b => hH t a (by omega))
    generalize hL1 : byL (σ 35 0) 2 ++ twL (σ 69) (σ (r + 2)) (σ r 0).toNat = L1
    have l1 : L1.length ≤ 74 := by
      rw [← hL1, List.length_append, byL_len]
      omega
    refine xdraw_16 hr ?_
    rw [zr, z35]
    refine ⟨by omega, fun _ => ⟨by omega, by omega, ⟨by rw [stW_len]; omega, by rw [stW_len]; omega, by decide, by decide⟩, fun S3 e3 => ?_⟩, fun c => by omega⟩
    rw [pb1, byL_1 (by omega) (by omega), ← h1.2.2] at e3
    subst e3
    have eA : imA (σ 69 0) (σ 69) (σ (r + 2)) (σ r 0) (σ 69 1) = L1 ++ [σ 69 1] ++ lnL (σ 69) (σ 69 1).toNat := by
      unfold imA
      rw [h0.2.2, hL1]
    have key := downInd (P := fun i => AW d mX1_draw 83 [some (.inr (.inr 40)), none, some (.inr (.inr 34)), some (.inl i), none] [] (stW σ 41 40 1 (L1 ++ [σ 69 1] ++ lnL (σ 69) i.toNat)) Q) (lo := 0) (hi := σ 69 1) (by omega) ?_ ?_
    · change AW d mX1_draw 83 [some (.inr (.inr 40)), none, some (.inr (.inr 34)), some (.inl 0), none] [] (stW σ 41 40 1 (L1 ++ [σ 69 1] ++ [])) Q at key
      rwa [List.append_nil] at key
    · rw [← eA]
      have hqA := hq _ rfl
      generalize imA (σ 69 0) (σ 69) (σ (r + 2)) (σ r 0) (σ 69 1) = A at *
      have hck := ckV_r (f := wL (σ 41) A) A.length (wL_r byA)
      refine xdraw_83 ?_
      rw [z35, stW_len, z41]
      refine ⟨by omega, by omega, fun _ => ⟨by omega, ⟨by rw [stW_len]; omega, fun i i0 i1 => ?_⟩, by omega, ⟨by rw [stW_len]; omega, by rw [stW_len]; omega, by decide, by decide⟩, fun S6 e6 => ?_⟩, fun c => by omega⟩
      · rw [stW_len] at i1
        rw [z41]
        exact wL_r byA i i0 i1
      · rw [pb1, byL_1 (by omega) (by omega)] at e6
        subst e6
        rw [stW_len, show ((A ++ [ckV (wL (σ 41) A) (A.length : Int)]).length : Int) = (A.length : Int) + 1 by simp]
        exact hqA
    · intro i i0 i1 ih
      have hi := hR.2.2.2.2.2.1 i i0 (by omega)
      have hlr := hLR.2 i i0 (by omega)
      rw [nat_toNat_succ i0, lnL, show ((i.toNat : Nat) : Int) = i by omega] at ih
      refine xdraw_83 ?_
      rw [z35]
      refine ⟨by omega, by omega, fun c => by omega, fun _ => ?_⟩
      have lnl := lnL_len (σ 69) i.toNat
      generalize hL2 : L1 ++ [σ 69 1] ++ lnL (σ 69) i.toNat = L2 at *
      have l2 : L2.length ≤ 75 + 8 * i.toNat := by
        rw [← hL2, List.length_append, List.length_append, lnl]
        simp only [List.length_cons, List.length_nil]
        omega
      have key := downInd (P := fun c => AW d mX1_draw 94 [some (.inr (.inr 40)), none, some (.inr (.inr 34)), some (.inl i), some (.inl c)] [] (stW σ 41 40 1 (L2 ++ seqL (fun c => σ 69 (62 + 8 * i + c)) c.toNat)) Q) (lo := 0) (hi := 8) (by decide) ?_ ?_
      · change AW d mX1_draw 94 [some (.inr (.inr 40)), none, some (.inr (.inr 34)), some (.inl i), some (.inl 0)] [] (stW σ 41 40 1 (L2 ++ [])) Q at key
        rwa [List.append_nil] at key
      · refine xdraw_94 ⟨by omega, fun _ => ?_, fun c => by omega⟩
        rw [← List.append_assoc, hL2] at ih
        exact ih
      · intro c c0 c1 jh
        rw [nat_toNat_succ c0, seqL, show ((c.toNat : Nat) : Int) = c by omega] at jh
        have lc : (L2 ++ seqL (fun c => σ 69 (62 + 8 * i + c)) c.toNat).length ≤ 75 + 8 * i.toNat + c.toNat := by rw [List.length_append, seqL_len]; omega
        rw [← List.append_assoc] at jh
        have ec := hi.1 c c0 c1
        have er : 0 ≤ σ 35 (22 + i * 8 + c) ∧ σ 35 (22 + i * 8 + c) ≤ 255 := by
          rcases (by omega : c = 0 ∨ c = 1 ∨ c = 2 ∨ c = 3 ∨ c = 4 ∨ c = 5 ∨ c = 6 ∨ c = 7) with rfl | rfl | rfl | rfl | rfl | rfl | rfl | rfl <;> omega
        generalize L2 ++ seqL (fun c => σ 69 (62 + 8 * i + c)) c.toNat = L3 at *
        refine xdraw_94 ?_
        rw [z35]
        refine ⟨by omega, fun z => by omega, fun _ => ⟨by omega, by omega, by omega, ⟨by rw [stW_len]; omega, by rw [stW_len]; omega, by decide, by decide⟩, fun S e => ?_⟩⟩
        rw [pb1, byL_1 er.1 er.2, ← ec] at e
        subst e
        exact jh
  refine xdraw_0 hr (fun S1 e1 => ?_)
  rw [stW_nil σ 41 40 1] at e1
  subst e1
  rw [z35]
  refine ⟨by omega, by omega, ⟨by rw [stW_len]; decide, by rw [stW_len]; decide, by decide, by decide⟩, fun S2 e2 => ?_⟩
  rw [pb2, List.nil_append] at e2
  subst e2
  have key := downInd (P := fun t => AW d mX1_draw 16 [some (.inr (.inr 40)), some (.inr (.inr r)), some (.inr (.inr 34)), some (.inl t), none] [] (stW σ 41 40 1 (byL (σ 35 0) 2 ++ twL (σ 69) (σ (r + 2)) t.toNat)) Q) (lo := 0) (hi := σ r 0) htw.1 back ?_
  · change AW d mX1_draw 16 [some (.inr (.inr 40)), some (.inr (.inr r)), some (.inr (.inr 34)), some (.inl 0), none] [] (stW σ 41 40 1 (byL (σ 35 0) 2 ++ [])) Q at key
    rwa [List.append_nil] at key
  · intro t t0 t1 ih
    have hh := hH t t0 t1
    have hpu := (hR.2.2.1 t t0 (by omega)).1
    have lt := twL_len (g := σ 69) (H := σ (r + 2)) t.toNat (fun t a b => hH t a (by omega))
    rw [nat_toNat_succ t0, twL, show ((t.toNat : Nat) : Int) = t by omega] at ih
    rw [← List.append_assoc, ← List.append_assoc, hpu] at ih
    have l1 : (byL (σ 35 0) 2 ++ twL (σ 69) (σ (r + 2)) t.toNat).length ≤ 2 + 18 * t.toNat := by
      rw [List.length_append, byL_len]
      omega
    generalize byL (σ 35 0) 2 ++ twL (σ 69) (σ (r + 2)) t.toNat = L1 at *
    refine xdraw_16 hr ?_
    rw [zr, z35]
    refine ⟨by omega, fun c => by omega, fun _ => ⟨by omega, by omega, by omega, ⟨by rw [stW_len]; omega, by rw [stW_len]; omega, by decide, by decide⟩, fun S4 e4 => ?_⟩⟩
    rw [pb4] at e4
    subst e4
    have l2 : (L1 ++ byL (σ 35 (2 + t)) 4).length ≤ 6 + 18 * t.toNat := by
      rw [List.length_append, byL_len]
      omega
    generalize L1 ++ byL (σ 35 (2 + t)) 4 = L2 at *
    have key := downInd (P := fun s => AW d mX1_draw 37 [some (.inr (.inr 40)), some (.inr (.inr r)), some (.inr (.inr 34)), some (.inl t), some (.inl (s + 1))] [] (stW σ 41 40 1 (L2 ++ seqL (fun i => σ 69 (6 + 14 * t + i)) s.toNat)) Q) (lo := 0) (hi := σ (r + 2) t) (by omega) ?_ ?_
    · change AW d mX1_draw 37 [some (.inr (.inr 40)), some (.inr (.inr r)), some (.inr (.inr 34)), some (.inl t), some (.inl 1)] [] (stW σ 41 40 1 (L2 ++ [])) Q at key
      rwa [List.append_nil] at key
    · refine xdraw_37 hr ?_
      rw [zr2]
      exact ⟨by omega, by omega, fun _ => ih, fun c => by omega⟩
    · intro s s0 s1 jh
      rw [nat_toNat_succ s0, seqL, show ((s.toNat : Nat) : Int) = s by omega, ← List.append_assoc] at jh
      have l3 : (L2 ++ seqL (fun i => σ 69 (6 + 14 * t + i)) s.toNat).length ≤ 6 + 18 * t.toNat + s.toNat := by rw [List.length_append, seqL_len]; omega
      have eh := hR.how hH (t := t) (s := s + 1) t0 t1 (by omega) (by omega)
      rw [show 6 + 14 * t + (s + 1) - 1 = 6 + 14 * t + s by omega] at eh
      have hm := (hR.2.2.2.1 t t0 t1).1 s s0 s1
      generalize L2 ++ seqL (fun i => σ 69 (6 + 14 * t + i)) s.toNat = L3 at *
      refine xdraw_37 hr ?_
      rw [zr2, z35]
      refine ⟨by omega, by omega, fun c => by omega, fun _ => ⟨by omega, ⟨by omega, hSR, by omega, by omega, by omega, by omega⟩, by omega, ⟨by rw [stW_len]; omega, by rw [stW_len]; omega, by decide, by decide⟩, fun S e => ?_⟩⟩
      rw [pb1, eh] at e
      rw [byL_1 (by omega) (by omega)] at e
      subst e
      exact jh

theorem stW_o {σ : SG} {P O : Nat} {k i : Int} {L : List Int} (h : P ≠ O) (hi : i ≠ k) : stW σ P O k L O i = σ O i := by
  unfold stW
  rw [up_i hi, putF_ne (Ne.symm h)]
theorem mimage_ok {d : Nat} {σ : SG} {Q : Option AV → SG → Prop} {tw : Int} {H : Int → Int} {B D : Int} {f : Int → Int} (hd : 50 ≤ d) (hR : RS tw H B D f (σ 69)) (hD : D ≤ 999) (htw : 0 ≤ tw ∧ tw ≤ 4) (h61 : σ 61 4 = tw) (h63 : ∀ t, 0 ≤ t → t < tw → σ 63 (8 + 2 * t) = H t) (hH : ∀ t, 0 ≤ t → t < tw → 3 ≤ H t ∧ H t ≤ 14) (hB : B ≤ 200000000) (hq : ∀ A, A = imA (σ 69 0) (σ 69) H tw (σ 69 1) → Q (some (.inl ((A.length : Int) + 1))) (stW σ 99 42 81 (A ++ [ckV (wL (σ 99) A) (A.length : Int)]))) : AW d mX9_image 0 [some (.inr (.inr 42)), none, none] [] σ Q := by
  have hML := hR.mlr htw.2 hH
  obtain ⟨lenA, byA⟩ := imA_all hR htw hH
  have h0 := hR.1
  have h1 := hR.2.1
  have z69 : ∀ L, stW σ 99 42 81 L 69 = σ 69 := fun L => stW_ne (by decide) (by decide)
  have z61 : ∀ L, stW σ 99 42 81 L 61 = σ 61 := fun L => stW_ne (by decide) (by decide)
  have z63 : ∀ L, stW σ 99 42 81 L 63 = σ 63 := fun L => stW_ne (by decide) (by decide)
  have z99 : ∀ L, stW σ 99 42 81 L 99 = wL (σ 99) L := fun L => stW_arr (by decide)
  have back : AW d mX9_image 35 [some (.inr (.inr 42)), some (.inl tw), none] [] (stW σ 99 42 81 (byL (σ 69 0) 2 ++ twL (σ 69) H tw.toNat)) Q := by
    have lt := twL_len (g := σ 69) (H := H) tw.toNat (fun t a b => hH t a (by omega))
    generalize hL1 : byL (σ 69 0) 2 ++ twL (σ 69) H tw.toNat = L1
    have l1 : L1.length ≤ 74 := by
      rw [← hL1, List.length_append, byL_len]
      omega
    refine mimage_35 ?_
    rw [z61, stW_len, z69]
    refine ⟨by omega, by omega, fun _ => ⟨by omega, by omega, by omega, fun S6 e6 => fun S7 e7 => ?_⟩, fun c => by omega⟩
    rw [stW_push (by decide) e6 e7]
    have eA : imA (σ 69 0) (σ 69) H tw (σ 69 1) = L1 ++ [σ 69 1] ++ lnL (σ 69) (σ 69 1).toNat := by
      unfold imA
      rw [hL1]
    have key := downInd (P := fun i => AW d mX9_image 117 [some (.inr (.inr 42)), some (.inl i), none] [] (stW σ 99 42 81 (L1 ++ [σ 69 1] ++ lnL (σ 69) i.toNat)) Q) (lo := 0) (hi := σ 69 1) (by omega) ?_ ?_
    · change AW d mX9_image 117 [some (.inr (.inr 42)), some (.inl 0), none] [] (stW σ 99 42 81 (L1 ++ [σ 69 1] ++ [])) Q at key
      rwa [List.append_nil] at key
    · rw [← eA]
      have hqA := hq _ rfl
      generalize imA (σ 69 0) (σ 69) H tw (σ 69 1) = A at *
      refine mimage_117 ?_
      rw [z69]
      refine ⟨by omega, by omega, fun _ => ?_, fun c => by omega⟩
      refine downInd (P := fun i => AW d mX9_image 160 [some (.inr (.inr 42)), some (.inl (ckV (wL (σ 99) A) i)), some (.inl i)] [] (stW σ 99 42 81 A) Q) (lo := 0) (hi := (A.length : Int)) (by omega) ?_ ?_
      · refine mimage_160 ?_
        rw [stW_len]
        refine ⟨by omega, fun _ => ⟨by omega, by omega, fun S1 e1 => fun S2 e2 => ?_⟩, fun c => by omega⟩
        rw [stW_push (by decide) e1 e2, stW_len, show ((A ++ [ckV (wL (σ 99) A) (A.length : Int)]).length : Int) = (A.length : Int) + 1 by simp]
        exact hqA
      · intro i i0 i1 ih
        have hr := ckV_r (f := wL (σ 99) A) i.toNat (fun j a b => wL_r byA j a (by omega))
        rw [show ((i.toNat : Nat) : Int) = i by omega] at hr
        have hi := wL_r (f := σ 99) byA i i0 i1
        have e : ckV (wL (σ 99) A) (i + 1) = Int.tmod (3 * ckV (wL (σ 99) A) i + wL (σ 99) A i) 249 := foI_s _ _ i0
        rw [e] at ih
        refine mimage_160 ?_
        rw [stW_len, z99]
        exact ⟨by omega, fun z => by omega, fun _ => ⟨by omega, by omega, ih⟩⟩
    · intro i i0 i1 ih
      rw [nat_toNat_succ i0, lnL, show ((i.toNat : Nat) : Int) = i by omega, ← List.append_assoc] at ih
      have lnl := lnL_len (σ 69) i.toNat
      have l2 : (L1 ++ [σ 69 1] ++ lnL (σ 69) i.toNat).length ≤ 75 + 8 * i.toNat := by
        rw [List.length_append, List.length_append, lnl]
        simp only [List.length_cons, List.length_nil]
        omega
      generalize L1 ++ [σ 69 1] ++ lnL (σ 69) i.toNat = L2 at *
      refine mimage_117 ?_
      rw [z69]
      refine ⟨by omega, by omega, fun c => by omega, fun _ => ?_⟩
      have key := downInd (P := fun c => AW d mX9_image 127 [some (.inr (.inr 42)), some (.inl i), some (.inl c)] [] (stW σ 99 42 81 (L2 ++ seqL (fun c => σ 69 (62 + 8 * i + c)) c.toNat)) Q) (lo := 0) (hi := 8) (by decide) ?_ ?_
      · change AW d mX9_image 127 [some (.inr (.inr 42)), some (.inl i), some (.inl 0)] [] (stW σ 99 42 81 (L2 ++ [])) Q at key
        rwa [List.append_nil] at key
      · exact mimage_127 ⟨by omega, fun _ => ih, fun c => by omega⟩
      · intro c c0 c1 jh
        rw [nat_toNat_succ c0, seqL, show ((c.toNat : Nat) : Int) = c by omega, ← List.append_assoc] at jh
        have lc : (L2 ++ seqL (fun c => σ 69 (62 + 8 * i + c)) c.toNat).length ≤ 75 + 8 * i.toNat + c.toNat := by rw [List.length_append, seqL_len]; omega
        generalize L2 ++ seqL (fun c => σ 69 (62 + 8 * i + c)) c.toNat = L3 at *
        refine mimage_127 ?_
        rw [z69, stW_len]
        refine ⟨by omega, fun z => by omega, fun _ => ⟨by omega, by omega, by omega, by omega, fun S1 e1 => fun S2 e2 => ?_⟩⟩
        rw [stW_push (by decide) e1 e2]
        exact jh
  refine mimage_0 (fun S1 e1 => ?_)
  rw [stW_nil σ 99 42 81] at e1
  subst e1
  rw [z69, stW_len]
  refine ⟨by omega, by omega, by simp, fun S2 e2 => fun S3 e3 => ?_⟩
  have e3' := stW_push (by decide) e2 e3
  subst e3'
  rw [z69, stW_len]
  refine ⟨by omega, by omega, by simp, fun S4 e4 => fun S5 e5 => ?_⟩
  rw [stW_push (by decide) e4 e5]
  have eb : ([] : List Int) ++ [Int.tdiv (σ 69 0) 256] ++ [Int.tmod (σ 69 0) 256] = byL (σ 69 0) 2 := by
    rw [Int.tdiv_eq_ediv_of_nonneg (by omega), Int.tmod_eq_emod_of_nonneg (by omega)]
    show [σ 69 0 / 256, σ 69 0 % 256] = [σ 69 0 / 2 ^ (8 * 1) % 256, σ 69 0 / 2 ^ (8 * 0) % 256]
    rw [show (2 : Int) ^ (8 * 1) = 256 from rfl, show (2 : Int) ^ (8 * 0) = 1 from rfl, show σ 69 0 / 256 % 256 = σ 69 0 / 256 by omega, show σ 69 0 / 1 % 256 = σ 69 0 % 256 by omega]
  rw [eb]
  have key := downInd (P := fun t => AW d mX9_image 35 [some (.inr (.inr 42)), some (.inl t), none] [] (stW σ 99 42 81 (byL (σ 69 0) 2 ++ twL (σ 69) H t.toNat)) Q) (lo := 0) (hi := tw) htw.1 back ?_
  · change AW d mX9_image 35 [some (.inr (.inr 42)), some (.inl 0), none] [] (stW σ 99 42 81 (byL (σ 69 0) 2 ++ [])) Q at key
    rwa [List.append_nil] at key
  · intro t t0 t1 ih
    have hh := hH t t0 t1
    have e63 := h63 t t0 t1
    have hpu := hR.2.2.1 t t0 (by omega)
    have lt := twL_len (g := σ 69) (H := H) t.toNat (fun t a b => hH t a (by omega))
    rw [nat_toNat_succ t0, twL, show ((t.toNat : Nat) : Int) = t by omega] at ih
    rw [← List.append_assoc, ← List.append_assoc] at ih
    have l1 : (byL (σ 69 0) 2 ++ twL (σ 69) H t.toNat).length ≤ 2 + 18 * t.toNat := by
      rw [List.length_append, byL_len]
      omega
    generalize byL (σ 69 0) 2 ++ twL (σ 69) H t.toNat = L1 at *
    refine mimage_35 ?_
    rw [z61]
    refine ⟨by omega, by omega, fun c => by omega, fun _ => ?_⟩
    have st : ∀ (L : List Int) (l2 : Int), L.length < 268 → (l2 = 24 ∨ l2 = 16 ∨ l2 = 8 ∨ l2 = 0) → AW d mX9_image 46 [some (.inr (.inr 42)), some (.inl t), some (.inl (l2 + -8))] [] (stW σ 99 42 81 (L ++ [σ 69 (2 + t) / 2 ^ Int.toNat l2 % 256])) Q → AW d mX9_image 46 [some (.inr (.inr 42)), some (.inl t), some (.inl l2)] [] (stW σ 99 42 81 L) Q := by
      intro L l2 hl h2 hk
      refine mimage_46 ?_
      rw [z69, stW_len, band255]
      refine ⟨by omega, fun z => by omega, fun _ => ⟨by omega, ⟨by omega, by omega, by omega⟩, by omega, by omega, fun S1 e1 => fun S2 e2 => ?_⟩⟩
      rw [stW_push (by decide) e1 e2]
      exact hk
    refine st L1 24 (by omega) (by omega) ?_
    refine st _ 16 (by rw [List.length_append]; simp only [List.length_cons, List.length_nil]; omega) (by omega) ?_
    refine st _ 8 (by rw [List.length_append, List.length_append]; simp only [List.length_cons, List.length_nil]; omega) (by omega) ?_
    refine st _ 0 (by rw [List.length_append, List.length_append, List.length_append]; simp only [List.length_cons, List.length_nil]; omega) (by omega) ?_
    have e4 : L1 ++ [σ 69 (2 + t) / 2 ^ Int.toNat 24 % 256] ++ [σ 69 (2 + t) / 2 ^ Int.toNat 16 % 256] ++ [σ 69 (2 + t) / 2 ^ Int.toNat 8 % 256] ++ [σ 69 (2 + t) / 2 ^ Int.toNat 0 % 256] = L1 ++ byL (σ 69 (2 + t)) 4 := by
      rw [List.append_assoc, List.append_assoc, List.append_assoc]
      rfl
    rw [e4]
    have l2 : (L1 ++ byL (σ 69 (2 + t)) 4).length ≤ 6 + 18 * t.toNat := by
      rw [List.length_append, byL_len]
      omega
    generalize L1 ++ byL (σ 69 (2 + t)) 4 = L2 at *
    refine mimage_46 ⟨by omega, fun _ => ?_, fun c => by omega⟩
    have key := downInd (P := fun s => AW d mX9_image 76 [some (.inr (.inr 42)), some (.inl t), some (.inl (s + 1))] [] (stW σ 99 42 81 (L2 ++ seqL (fun i => σ 69 (6 + 14 * t + i)) s.toNat)) Q) (lo := 0) (hi := H t) (by omega) ?_ ?_
    · change AW d mX9_image 76 [some (.inr (.inr 42)), some (.inl t), some (.inl 1)] [] (stW σ 99 42 81 (L2 ++ [])) Q at key
      rwa [List.append_nil] at key
    · refine mimage_76 ?_
      rw [z63, e63]
      exact ⟨by omega, by omega, by omega, fun _ => ih, fun c => by omega⟩
    · intro s s0 s1 jh
      rw [nat_toNat_succ s0, seqL, show ((s.toNat : Nat) : Int) = s by omega, ← List.append_assoc] at jh
      have l3 : (L2 ++ seqL (fun i => σ 69 (6 + 14 * t + i)) s.toNat).length ≤ 6 + 18 * t.toNat + s.toNat := by rw [List.length_append, seqL_len]; omega
      generalize L2 ++ seqL (fun i => σ 69 (6 + 14 * t + i)) s.toNat = L3 at *
      refine mimage_76 ?_
      rw [z63, e63, z69, stW_len, show 6 + 14 * t + (s + 1) - 1 = 6 + 14 * t + s by omega]
      refine ⟨by omega, by omega, by omega, fun c => by omega, fun _ => ⟨by omega, by omega, by omega, by omega, fun S1 e1 => fun S2 e2 => ?_⟩⟩
      rw [stW_push (by decide) e1 e2]
      exact jh
theorem call_image {d : Nat} {n : Int} {σ : SG} {r q : Nat} (hd : 100 ≤ d) (h : SIM n σ r q) (hn : n ≤ 600) : AW d mX8_image 0 [some (.inr (.inr 0))] [] σ (SAME d n r q mX9_image [some (.inr (.inr 42)), none, none]) := by
  obtain ⟨hr, _, hx, _⟩ := h.rr
  have hL := h.2.2.2.2.1
  have hRS := h.2.2.2.2.2.1
  have hlr := h.lr
  refine ximage_0 hr hx ⟨by omega, xdraw_ok hr (by omega) hL hRS (fun A eA => ximage_15 ?_)⟩
  have lenA := (imA_all hRS hL.1.1 hL.hH).1
  rw [← eA] at lenA
  generalize hck : ckV (wL (σ 41) A) (A.length : Int) = ck
  have hck2 : ckV (wL (stW σ 41 40 1 (A ++ [ck]) 99) A) (A.length : Int) = ck := by rw [← hck]; exact ckV_w _ _ _
  generalize hτ : stW σ 41 40 1 (A ++ [ck]) = τ at *
  have zt : ∀ p, p ≠ 40 → p ≠ 41 → τ p = σ p := fun p a b => by rw [← hτ]; exact stW_ne b a
  have l2 : ((A ++ [ck]).length : Int) = (A.length : Int) + 1 := by simp
  unfold SAME
  refine mimage_ok (by omega) (tw := σ r 0) (H := σ (r + 2)) (B := n * 300000) (D := 999) (f := σ 35) (by rw [zt 69 (by decide) (by decide)]; exact hRS) (by decide) hL.1.1 (by rw [zt 61 (by decide) (by decide)]; exact hL.2.1.1) (fun t a b => by rw [zt 63 (by decide) (by decide)]; exact (hL.2.2.1 t a b).1) hL.hH (by omega) (fun A' eA' => ?_)
  rw [zt 69 (by decide) (by decide), ← eA] at eA'
  rw [eA', hck2]
  refine ⟨rfl, h.re ⟨fun p hp => ?_, ?_⟩ ?_ ?_ ?_ ?_ ?_⟩
  · rw [stW_ne (by omega) (by omega), zt p (by omega) (by omega)]
  · rw [stW_ne (by decide) (by decide), stW_ne (by decide) (by decide), stW_ne (by decide) (by decide), stW_ne (by decide) (by decide), stW_ne (by decide) (by decide), stW_ne (by decide) (by decide), zt 61 (by decide) (by decide), zt 62 (by decide) (by decide), zt 63 (by decide) (by decide), zt 64 (by decide) (by decide), zt 65 (by decide) (by decide), zt 68 (by decide) (by decide)]
    exact ⟨fun _ _ => rfl, fun _ _ => rfl, fun _ _ => rfl, fun _ _ => rfl, fun _ _ => rfl, rfl⟩
  · have q2 : stW τ 99 42 81 (A ++ [ck]) 2 = σ 2 := by rw [stW_ne (by decide) (by decide), zt 2 (by decide) (by decide)]
    have q42 : ∀ i, i ≠ 81 → stW τ 99 42 81 (A ++ [ck]) 42 i = σ 42 i := fun i hi => by rw [stW_o (by decide) hi, zt 42 (by decide) (by decide)]
    exact h.2.2.1.cong (by rw [q2]) (by rw [q2]) (by rw [q2]) (by rw [stW_ne (by decide) (by decide), zt 3 (by decide) (by decide)]) (by rw [stW_ne (by decide) (by decide), zt 43 (by decide) (by decide)]) (q42 1 (by decide)) (q42 7 (by decide)) (q42 8 (by decide))
  · exact h.2.2.2.1.cong (by rw [stW_ne (by decide) (by decide), zt 1 (by decide) (by decide)]) (by rw [stW_ne (by decide) (by decide), zt 44 (by decide) (by decide)])
  · rw [stW_ne (by decide) (by decide), stW_ne (by decide) (by decide), zt 35 (by decide) (by decide), zt 69 (by decide) (by decide)]
    exact hRS
  · have q42 : ∀ i, i ≠ 81 → stW τ 99 42 81 (A ++ [ck]) 42 i = σ 42 i := fun i hi => by rw [stW_o (by decide) hi, zt 42 (by decide) (by decide)]
    exact h.2.2.2.2.2.2.1.cong (by rw [stW_ne (by omega) (by omega), zt r (by omega) (by omega)]) (by rw [stW_ne (by omega) (by omega), zt (r + 2) (by omega) (by omega)]) (by rw [stW_ne (by decide) (by decide), zt 38 (by decide) (by decide)]) (by rw [stW_ne (by decide) (by decide), zt 39 (by decide) (by decide)]) (by rw [stW_ne (by decide) (by decide), zt 71 (by decide) (by decide)]) (q42 40 (by decide)) (q42 41 (by decide))
  · have z40 : stW τ 99 42 81 (A ++ [ck]) 40 1 = ((A ++ [ck]).length : Int) := by rw [stW_ne (by decide) (by decide), ← hτ, stW_len]
    have z41 : stW τ 99 42 81 (A ++ [ck]) 41 = wL (σ 41) (A ++ [ck]) := by rw [stW_ne (by decide) (by decide), ← hτ, stW_arr (by decide)]
    have z99 : stW τ 99 42 81 (A ++ [ck]) 99 = wL (τ 99) (A ++ [ck]) := stW_arr (by decide)
    refine ⟨?_, fun k k0 k1 => ?_⟩
    · rw [z40, stW_len, l2]
      omega
    · rw [z40] at k1
      rw [z99, z41]
      unfold wL
      rw [if_pos ⟨k0, k1⟩, if_pos ⟨k0, k1⟩]
