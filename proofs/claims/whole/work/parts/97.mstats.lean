/-! ===== a realm's statements read by the reference (wip/whole/gen97.py) ===== -/
def kX9_takenOf_0 : List BI := [bi (.aload_n 0) 1 [] 0, bi (.invokevirtual 271) 3 [mX9_towerTold, 1, 4, 9] 0]
theorem cX9_takenOf_0 : chk mX9_takenOf 0 kX9_takenOf_0 = true := by decide +kernel
theorem mto_0 {d : Nat} {σ : SG} {Q : Option AV → SG → Prop} {s b : Int} (h : (0 < d) ∧ AW (d - 1) mX9_towerTold 0 [some (.inr (.inr 42)), none, none, none] [] σ (fun rr σ' => AW d mX9_takenOf 4 [some (.inr (.inr 42)), some (.inl s), some (.inl b), none] (rtS rr []) σ' Q)) : AW d mX9_takenOf 0 [some (.inr (.inr 42)), some (.inl s), some (.inl b), none] [] σ Q := AW.blk kX9_takenOf_0 cX9_takenOf_0 (⟨(h).1, (h).2⟩)
def kX9_takenOf_65 : List BI := [bi (.iload_n 3) 1 [] 0, bi (.ireturn) 1 [] 0]
theorem cX9_takenOf_65 : chk mX9_takenOf 65 kX9_takenOf_65 = true := by decide +kernel
def kX9_takenOf_56 : List BI := [bi (.aload_n 0) 1 [] 0, bi (.iconst 2) 1 [] 0, bi (.aload_n 0) 1 [] 0, bi (.getfield 241) 3 [9, 27] 0, bi (.invokevirtual 220) 3 [mX9_fail, 3, 3, 9] 0, bi (.iload_n 3) 1 [] 0, bi (.ireturn) 1 [] 0]
theorem cX9_takenOf_56 : chk mX9_takenOf 56 kX9_takenOf_56 = true := by decide +kernel
def kX9_takenOf_40 : List BI := [bi (.aload_n 0) 1 [] 0, bi (.getfield 85) 3 [9, 33] 0, bi (.bipush (14)) 2 [] 0, bi (.iload_n 3) 1 [] 0, bi (.imul) 1 [] 0, bi (.iload_n 1) 1 [] 0, bi (.iadd) 1 [] 0, bi (.iconst 1) 1 [] 0, bi (.isub) 1 [] 0, bi (.iaload) 1 [] 0, bi (.ifCond .eq (12)) 3 [65] 0, bi (.aload_n 0) 1 [] 0, bi (.iconst 2) 1 [] 0, bi (.aload_n 0) 1 [] 0, bi (.getfield 241) 3 [9, 27] 0, bi (.invokevirtual 220) 3 [mX9_fail, 3, 3, 9] 0, bi (.iload_n 3) 1 [] 0, bi (.ireturn) 1 [] 0]
theorem cX9_takenOf_40 : chk mX9_takenOf 40 kX9_takenOf_40 = true := by decide +kernel
def kX9_takenOf_4 : List BI := [bi (.istore_n 3) 1 [] 0, bi (.aload_n 0) 1 [] 0, bi (.getfield 190) 3 [9, 5] 0, bi (.ifCond .ne (56)) 3 [65] 0, bi (.iload_n 1) 1 [] 0, bi (.aload_n 0) 1 [] 0, bi (.getfield 76) 3 [9, 30] 0, bi (.iconst 2) 1 [] 0, bi (.iload_n 3) 1 [] 0, bi (.imul) 1 [] 0, bi (.iaload) 1 [] 0, bi (.if_icmp .gt (35)) 3 [56] 0, bi (.iload_n 2) 1 [] 0, bi (.ifCond .ne (15)) 3 [40] 0, bi (.iload_n 1) 1 [] 0, bi (.aload_n 0) 1 [] 0, bi (.getfield 76) 3 [9, 30] 0, bi (.iconst 2) 1 [] 0, bi (.iload_n 3) 1 [] 0, bi (.imul) 1 [] 0, bi (.iaload) 1 [] 0, bi (.if_icmp .eq (19)) 3 [56] 0, bi (.aload_n 0) 1 [] 0, bi (.getfield 85) 3 [9, 33] 0, bi (.bipush (14)) 2 [] 0, bi (.iload_n 3) 1 [] 0, bi (.imul) 1 [] 0, bi (.iload_n 1) 1 [] 0, bi (.iadd) 1 [] 0, bi (.iconst 1) 1 [] 0, bi (.isub) 1 [] 0, bi (.iaload) 1 [] 0, bi (.ifCond .eq (12)) 3 [65] 0, bi (.aload_n 0) 1 [] 0, bi (.iconst 2) 1 [] 0, bi (.aload_n 0) 1 [] 0, bi (.getfield 241) 3 [9, 27] 0, bi (.invokevirtual 220) 3 [mX9_fail, 3, 3, 9] 0, bi (.iload_n 3) 1 [] 0, bi (.ireturn) 1 [] 0]
theorem cX9_takenOf_4 : chk mX9_takenOf 4 kX9_takenOf_4 = true := by decide +kernel
theorem mto_4 {d : Nat} {σ : SG} {Q : Option AV → SG → Prop} {s b s0 : Int} (h : (r3 (σ 42 5)) ∧ ((σ 42 5) ≠ 0 → Q (some (.inl s0)) σ) ∧ ((σ 42 5) = 0 → (0 ≤ (2 * s0) ∧ (2 * s0) < 16) ∧ (r3 s ∧ r3 (σ 63 (2 * s0))) ∧ ((σ 63 (2 * s0)) < s → (0 < d) ∧ (r3 (σ 42 5)) ∧ ((σ 42 5) = 0 → (∀ S1 : SG, S1 = up σ 42 5 2 → (∀ S2 : SG, S2 = up S1 42 6 (σ 42 27) → Q (some (.inl s0)) S2))) ∧ ((σ 42 5) ≠ 0 → Q (some (.inl s0)) σ)) ∧ (s ≤ (σ 63 (2 * s0)) → (r3 b) ∧ (b ≠ 0 → (0 ≤ (((14 * s0) + s) - 1) ∧ (((14 * s0) + s) - 1) < 56) ∧ (r3 (σ 66 (((14 * s0) + s) - 1))) ∧ ((σ 66 (((14 * s0) + s) - 1)) = 0 → Q (some (.inl s0)) σ) ∧ ((σ 66 (((14 * s0) + s) - 1)) ≠ 0 → (0 < d) ∧ (r3 (σ 42 5)) ∧ ((σ 42 5) = 0 → (∀ S4 : SG, S4 = up σ 42 5 2 → (∀ S5 : SG, S5 = up S4 42 6 (σ 42 27) → Q (some (.inl s0)) S5))) ∧ ((σ 42 5) ≠ 0 → Q (some (.inl s0)) σ))) ∧ (b = 0 → (0 ≤ (2 * s0) ∧ (2 * s0) < 16) ∧ (r3 s ∧ r3 (σ 63 (2 * s0))) ∧ (s = (σ 63 (2 * s0)) → (0 < d) ∧ (r3 (σ 42 5)) ∧ ((σ 42 5) = 0 → (∀ S8 : SG, S8 = up σ 42 5 2 → (∀ S9 : SG, S9 = up S8 42 6 (σ 42 27) → Q (some (.inl s0)) S9))) ∧ ((σ 42 5) ≠ 0 → Q (some (.inl s0)) σ)) ∧ (s ≠ (σ 63 (2 * s0)) → (0 ≤ (((14 * s0) + s) - 1) ∧ (((14 * s0) + s) - 1) < 56) ∧ (r3 (σ 66 (((14 * s0) + s) - 1))) ∧ ((σ 66 (((14 * s0) + s) - 1)) = 0 → Q (some (.inl s0)) σ) ∧ ((σ 66 (((14 * s0) + s) - 1)) ≠ 0 → (0 < d) ∧ (r3 (σ 42 5)) ∧ ((σ 42 5) = 0 → (∀ S11 : SG, S11 = up σ 42 5 2 → (∀ S12 : SG, S12 = up S11 42 6 (σ 42 27) → Q (some (.inl s0)) S12))) ∧ ((σ 42 5) ≠ 0 → Q (some (.inl s0)) σ))))))) : AW d mX9_takenOf 4 [some (.inr (.inr 42)), some (.inl s), some (.inl b), none] [.inl s0] σ Q := AW.blk kX9_takenOf_4 cX9_takenOf_4 (⟨(h).1, ⟨fun c18 => AW.blk kX9_takenOf_65 cX9_takenOf_65 (((h).2).1 c18), fun c18 => ⟨⟨((((h).2).2 c18).1).1, ((((h).2).2 c18).1).2⟩, ⟨⟨(((((h).2).2 c18).2).1).1, (((((h).2).2 c18).2).1).2⟩, ⟨fun c17 => AW.blk kX9_takenOf_56 cX9_takenOf_56 (⟨((((((h).2).2 c18).2).2).1 c17).1, AW.blk kX9_fail_0 cX9_fail_0 (⟨(((((((h).2).2 c18).2).2).1 c17).2).1, ⟨fun c3 => AW.blk kX9_fail_8 cX9_fail_8 (((((((((((h).2).2 c18).2).2).1 c17).2).2).1 c3) _ rfl) _ rfl), fun c3 => ((((((((h).2).2 c18).2).2).1 c17).2).2).2 c3⟩⟩)⟩), fun c17 => ⟨((((((h).2).2 c18).2).2).2 c17).1, ⟨fun c16 => AW.blk kX9_takenOf_40 cX9_takenOf_40 (⟨⟨(((((((((h).2).2 c18).2).2).2 c17).2).1 c16).1).1, (((((((((h).2).2 c18).2).2).2 c17).2).1 c16).1).2⟩, ⟨(((((((((h).2).2 c18).2).2).2 c17).2).1 c16).2).1, ⟨fun c7 => AW.blk kX9_takenOf_65 cX9_takenOf_65 (((((((((((h).2).2 c18).2).2).2 c17).2).1 c16).2).2).1 c7), fun c7 => ⟨(((((((((((h).2).2 c18).2).2).2 c17).2).1 c16).2).2).2 c7).1, AW.blk kX9_fail_0 cX9_fail_0 (⟨((((((((((((h).2).2 c18).2).2).2 c17).2).1 c16).2).2).2 c7).2).1, ⟨fun c6 => AW.blk kX9_fail_8 cX9_fail_8 ((((((((((((((((h).2).2 c18).2).2).2 c17).2).1 c16).2).2).2 c7).2).2).1 c6) _ rfl) _ rfl), fun c6 => (((((((((((((h).2).2 c18).2).2).2 c17).2).1 c16).2).2).2 c7).2).2).2 c6⟩⟩)⟩⟩⟩⟩), fun c16 => ⟨⟨(((((((((h).2).2 c18).2).2).2 c17).2).2 c16).1).1, (((((((((h).2).2 c18).2).2).2 c17).2).2 c16).1).2⟩, ⟨⟨((((((((((h).2).2 c18).2).2).2 c17).2).2 c16).2).1).1, ((((((((((h).2).2 c18).2).2).2 c17).2).2 c16).2).1).2⟩, ⟨fun c15 => AW.blk kX9_takenOf_56 cX9_takenOf_56 (⟨(((((((((((h).2).2 c18).2).2).2 c17).2).2 c16).2).2).1 c15).1, AW.blk kX9_fail_0 cX9_fail_0 (⟨((((((((((((h).2).2 c18).2).2).2 c17).2).2 c16).2).2).1 c15).2).1, ⟨fun c10 => AW.blk kX9_fail_8 cX9_fail_8 ((((((((((((((((h).2).2 c18).2).2).2 c17).2).2 c16).2).2).1 c15).2).2).1 c10) _ rfl) _ rfl), fun c10 => (((((((((((((h).2).2 c18).2).2).2 c17).2).2 c16).2).2).1 c15).2).2).2 c10⟩⟩)⟩), fun c15 => ⟨⟨((((((((((((h).2).2 c18).2).2).2 c17).2).2 c16).2).2).2 c15).1).1, ((((((((((((h).2).2 c18).2).2).2 c17).2).2 c16).2).2).2 c15).1).2⟩, ⟨((((((((((((h).2).2 c18).2).2).2 c17).2).2 c16).2).2).2 c15).2).1, ⟨fun c14 => AW.blk kX9_takenOf_65 cX9_takenOf_65 ((((((((((((((h).2).2 c18).2).2).2 c17).2).2 c16).2).2).2 c15).2).2).1 c14), fun c14 => ⟨((((((((((((((h).2).2 c18).2).2).2 c17).2).2 c16).2).2).2 c15).2).2).2 c14).1, AW.blk kX9_fail_0 cX9_fail_0 (⟨(((((((((((((((h).2).2 c18).2).2).2 c17).2).2 c16).2).2).2 c15).2).2).2 c14).2).1, ⟨fun c13 => AW.blk kX9_fail_8 cX9_fail_8 (((((((((((((((((((h).2).2 c18).2).2).2 c17).2).2 c16).2).2).2 c15).2).2).2 c14).2).2).1 c13) _ rfl) _ rfl), fun c13 => ((((((((((((((((h).2).2 c18).2).2).2 c17).2).2 c16).2).2).2 c15).2).2).2 c14).2).2).2 c13⟩⟩)⟩⟩⟩⟩⟩⟩⟩⟩⟩⟩⟩⟩⟩⟩)
def kX9_newTower_11 : List BI := [bi (.aload_n 0) 1 [] 0, bi (.getfield 69) 3 [9, 28] 0, bi (.iconst 0) 1 [] 0, bi (.iaload) 1 [] 0, bi (.istore_n 2) 1 [] 0, bi (.aload_n 0) 1 [] 0, bi (.invokevirtual 260) 3 [mX9_newName, 1, 3, 9] 0]
theorem cX9_newTower_11 : chk mX9_newTower 11 kX9_newTower_11 = true := by decide +kernel
def kX9_isFull_34 : List BI := [bi (.iconst 0) 1 [] 0, bi (.ireturn) 1 [1] 0]
theorem cX9_isFull_34 : chk mX9_isFull 34 kX9_isFull_34 = true := by decide +kernel
def kX9_isFull_35 : List BI := [bi (.ireturn) 1 [1] 0]
theorem cX9_isFull_35 : chk mX9_isFull 35 kX9_isFull_35 = true := by decide +kernel
def kX9_isFull_23 : List BI := [bi (.aload_n 0) 1 [] 0, bi (.getfield 190) 3 [9, 5] 0, bi (.ifCond .eq (7)) 3 [34] 0, bi (.iconst 1) 1 [] 0, bi (.goto (4)) 3 [35] 0]
theorem cX9_isFull_23 : chk mX9_isFull 23 kX9_isFull_23 = true := by decide +kernel
def kX9_isFull_0 : List BI := [bi (.aload_n 0) 1 [] 0, bi (.getfield 190) 3 [9, 5] 0, bi (.ifCond .ne (19)) 3 [23] 0, bi (.aload_n 0) 1 [] 0, bi (.getfield 69) 3 [9, 28] 0, bi (.iload_n 1) 1 [] 0, bi (.iaload) 1 [] 0, bi (.iload_n 2) 1 [] 0, bi (.if_icmp .ne (9)) 3 [23] 0, bi (.aload_n 0) 1 [] 0, bi (.iconst 5) 1 [] 0, bi (.iload_n 3) 1 [] 0, bi (.invokevirtual 220) 3 [mX9_fail, 3, 3, 9] 0, bi (.aload_n 0) 1 [] 0, bi (.getfield 190) 3 [9, 5] 0, bi (.ifCond .eq (7)) 3 [34] 0, bi (.iconst 1) 1 [] 0, bi (.goto (4)) 3 [35] 0]
theorem cX9_isFull_0 : chk mX9_isFull 0 kX9_isFull_0 = true := by decide +kernel
def kX9_newTower_0 : List BI := [bi (.aload_n 0) 1 [] 0, bi (.iconst 0) 1 [] 0, bi (.iconst 4) 1 [] 0, bi (.iload_n 1) 1 [] 0, bi (.invokevirtual 256) 3 [mX9_isFull, 4, 4, 9] 0, bi (.ifCond .eq (4)) 3 [11] 0, bi (.return_) 1 [] 0]
theorem cX9_newTower_0 : chk mX9_newTower 0 kX9_newTower_0 = true := by decide +kernel
theorem uT_0 {d : Nat} {σ : SG} {Q : Option AV → SG → Prop} {b : Int} (h : (0 < d) ∧ (r3 (σ 42 5)) ∧ ((σ 42 5) ≠ 0 → (r3 (σ 42 5)) ∧ ((σ 42 5) = 0 → (0 < d) ∧ AW (d - 1) mX9_newName 0 [some (.inr (.inr 42)), none, none] [] σ (fun rr σ' => AW d mX9_newTower 22 [some (.inr (.inr 42)), some (.inl b), some (.inl (σ 61 0)), none, none, none, none] (rtS rr []) σ' Q)) ∧ ((σ 42 5) ≠ 0 → Q none σ)) ∧ ((σ 42 5) = 0 → (r3 (σ 61 0)) ∧ ((σ 61 0) ≠ 4 → (r3 (σ 42 5)) ∧ ((σ 42 5) = 0 → (0 < d) ∧ AW (d - 1) mX9_newName 0 [some (.inr (.inr 42)), none, none] [] σ (fun rr σ' => AW d mX9_newTower 22 [some (.inr (.inr 42)), some (.inl b), some (.inl (σ 61 0)), none, none, none, none] (rtS rr []) σ' Q)) ∧ ((σ 42 5) ≠ 0 → Q none σ)) ∧ ((σ 61 0) = 4 → (0 < d - 1) ∧ (r3 (σ 42 5)) ∧ ((σ 42 5) = 0 → (∀ S21 : SG, S21 = up σ 42 5 5 → (∀ S22 : SG, S22 = up S21 42 6 b → (r3 (S22 42 5)) ∧ ((S22 42 5) = 0 → (0 < d) ∧ AW (d - 1) mX9_newName 0 [some (.inr (.inr 42)), none, none] [] S22 (fun rr σ' => AW d mX9_newTower 22 [some (.inr (.inr 42)), some (.inl b), some (.inl (S22 61 0)), none, none, none, none] (rtS rr []) σ' Q)) ∧ ((S22 42 5) ≠ 0 → Q none S22)))) ∧ ((σ 42 5) ≠ 0 → (r3 (σ 42 5)) ∧ ((σ 42 5) = 0 → (0 < d) ∧ AW (d - 1) mX9_newName 0 [some (.inr (.inr 42)), none, none] [] σ (fun rr σ' => AW d mX9_newTower 22 [some (.inr (.inr 42)), some (.inl b), some (.inl (σ 61 0)), none, none, none, none] (rtS rr []) σ' Q)) ∧ ((σ 42 5) ≠ 0 → Q none σ))))) : AW d mX9_newTower 0 [some (.inr (.inr 42)), some (.inl b), none, none, none, none, none] [] σ Q := AW.blk kX9_newTower_0 cX9_newTower_0 (⟨(h).1, AW.blk kX9_isFull_0 cX9_isFull_0 (⟨((h).2).1, ⟨fun c27 => AW.blk kX9_isFull_23 cX9_isFull_23 (⟨((((h).2).2).1 c27).1, ⟨fun c19 => AW.blk kX9_isFull_34 cX9_isFull_34 (⟨(by decide), ⟨(by decide), ⟨fun _ => AW.blk kX9_newTower_11 cX9_newTower_11 (⟨⟨(by decide), (by decide)⟩, ⟨((((((h).2).2).1 c27).2).1 c19).1, ((((((h).2).2).1 c27).2).1 c19).2⟩⟩), fun c => absurd c (by decide)⟩⟩⟩), fun c19 => AW.blk kX9_isFull_35 cX9_isFull_35 (⟨(by decide), ⟨(by decide), ⟨fun c => absurd c (by decide), fun _ => (((((h).2).2).1 c27).2).2 c19⟩⟩⟩)⟩⟩), fun c27 => ⟨⟨(by decide), (by decide)⟩, ⟨⟨((((h).2).2).2 c27).1, (by decide)⟩, ⟨fun c26 => AW.blk kX9_isFull_23 cX9_isFull_23 (⟨((((((h).2).2).2 c27).2).1 c26).1, ⟨fun c20 => AW.blk kX9_isFull_34 cX9_isFull_34 (⟨(by decide), ⟨(by decide), ⟨fun _ => AW.blk kX9_newTower_11 cX9_newTower_11 (⟨⟨(by decide), (by decide)⟩, ⟨((((((((h).2).2).2 c27).2).1 c26).2).1 c20).1, ((((((((h).2).2).2 c27).2).1 c26).2).1 c20).2⟩⟩), fun c => absurd c (by decide)⟩⟩⟩), fun c20 => AW.blk kX9_isFull_35 cX9_isFull_35 (⟨(by decide), ⟨(by decide), ⟨fun c => absurd c (by decide), fun _ => (((((((h).2).2).2 c27).2).1 c26).2).2 c20⟩⟩⟩)⟩⟩), fun c26 => ⟨((((((h).2).2).2 c27).2).2 c26).1, AW.blk kX9_fail_0 cX9_fail_0 (⟨(((((((h).2).2).2 c27).2).2 c26).2).1, ⟨fun c25 => AW.blk kX9_fail_8 cX9_fail_8 (⟨(((((((((((h).2).2).2 c27).2).2 c26).2).2).1 c25) _ rfl) _ rfl).1, ⟨fun c23 => AW.blk kX9_isFull_34 cX9_isFull_34 (⟨(by decide), ⟨(by decide), ⟨fun _ => AW.blk kX9_newTower_11 cX9_newTower_11 (⟨⟨(by decide), (by decide)⟩, ⟨(((((((((((((h).2).2).2 c27).2).2 c26).2).2).1 c25) _ rfl) _ rfl).2).1 c23).1, (((((((((((((h).2).2).2 c27).2).2 c26).2).2).1 c25) _ rfl) _ rfl).2).1 c23).2⟩⟩), fun c => absurd c (by decide)⟩⟩⟩), fun c23 => AW.blk kX9_isFull_35 cX9_isFull_35 (⟨(by decide), ⟨(by decide), ⟨fun c => absurd c (by decide), fun _ => ((((((((((((h).2).2).2 c27).2).2 c26).2).2).1 c25) _ rfl) _ rfl).2).2 c23⟩⟩⟩)⟩⟩), fun c25 => ⟨(((((((((h).2).2).2 c27).2).2 c26).2).2).2 c25).1, ⟨fun c24 => AW.blk kX9_isFull_34 cX9_isFull_34 (⟨(by decide), ⟨(by decide), ⟨fun _ => AW.blk kX9_newTower_11 cX9_newTower_11 (⟨⟨(by decide), (by decide)⟩, ⟨(((((((((((h).2).2).2 c27).2).2 c26).2).2).2 c25).2).1 c24).1, (((((((((((h).2).2).2 c27).2).2 c26).2).2).2 c25).2).1 c24).2⟩⟩), fun c => absurd c (by decide)⟩⟩⟩), fun c24 => AW.blk kX9_isFull_35 cX9_isFull_35 (⟨(by decide), ⟨(by decide), ⟨fun c => absurd c (by decide), fun _ => ((((((((((h).2).2).2 c27).2).2 c26).2).2).2 c25).2).2 c24⟩⟩⟩)⟩⟩⟩⟩)⟩⟩⟩⟩⟩⟩)⟩)
def kX9_newTower_22 : List BI := [bi (.lstore_n 3) 1 [] 0, bi (.aload_n 0) 1 [] 0, bi (.aload_n 0) 1 [] 0, bi (.getfield 24) 3 [9, 12] 0, bi (.invokevirtual 263) 3 [mX9_asks, 2, 2, 9] 0]
theorem cX9_newTower_22 : chk mX9_newTower 22 kX9_newTower_22 = true := by decide +kernel
theorem uT_22 {d : Nat} {σ : SG} {Q : Option AV → SG → Prop} {b l2 s0 : Int} (h : (0 < d) ∧ AW (d - 1) mX9_asks 0 [some (.inr (.inr 42)), some (.inr (.inr 46))] [] σ (fun rr σ' => AW d mX9_newTower 31 [some (.inr (.inr 42)), some (.inl b), some (.inl l2), some (.inr (.inl s0)), none, none, none] (rtS rr []) σ' Q)) : AW d mX9_newTower 22 [some (.inr (.inr 42)), some (.inl b), some (.inl l2), none, none, none, none] [.inr (.inl s0)] σ Q := AW.blk kX9_newTower_22 cX9_newTower_22 (⟨(h).1, (h).2⟩)
def kX9_newTower_31 : List BI := [bi (.aload_n 0) 1 [] 0, bi (.iconst 3) 1 [] 0, bi (.bipush (14)) 2 [] 0, bi (.invokevirtual 267) 3 [mX9_number, 3, 5, 9] 0]
theorem cX9_newTower_31 : chk mX9_newTower 31 kX9_newTower_31 = true := by decide +kernel
theorem uT_31 {d : Nat} {σ : SG} {Q : Option AV → SG → Prop} {b l2 l3 : Int} (h : (0 < d) ∧ AW (d - 1) mX9_number 0 [some (.inr (.inr 42)), some (.inl 3), some (.inl 14), none, none] [] σ (fun rr σ' => AW d mX9_newTower 38 [some (.inr (.inr 42)), some (.inl b), some (.inl l2), some (.inr (.inl l3)), none, none, none] (rtS rr []) σ' Q)) : AW d mX9_newTower 31 [some (.inr (.inr 42)), some (.inl b), some (.inl l2), some (.inr (.inl l3)), none, none, none] [] σ Q := AW.blk kX9_newTower_31 cX9_newTower_31 (⟨(h).1, (h).2⟩)
def kX9_newTower_48 : List BI := [bi (.aload_n 0) 1 [] 0, bi (.getfield 72) 3 [9, 29] 0, bi (.iload_n 2) 1 [] 0, bi (.lload_n 3) 1 [] 0, bi (.lastore) 1 [] 0, bi (.aload_n 0) 1 [] 0, bi (.getfield 76) 3 [9, 30] 0, bi (.iconst 2) 1 [] 0, bi (.iload_n 2) 1 [] 0, bi (.imul) 1 [] 0, bi (.iload 5) 2 [] 0, bi (.iastore) 1 [] 0, bi (.aload_n 0) 1 [] 0, bi (.getfield 76) 3 [9, 30] 0, bi (.iconst 2) 1 [] 0, bi (.iload_n 2) 1 [] 0, bi (.imul) 1 [] 0, bi (.iconst 1) 1 [] 0, bi (.iadd) 1 [] 0, bi (.iconst 1) 1 [] 0, bi (.iastore) 1 [] 0, bi (.iconst 0) 1 [] 0, bi (.istore 6) 2 [] 0]
theorem cX9_newTower_48 : chk mX9_newTower 48 kX9_newTower_48 = true := by decide +kernel
def kX9_newTower_38 : List BI := [bi (.istore 5) 2 [] 0, bi (.aload_n 0) 1 [] 0, bi (.getfield 190) 3 [9, 5] 0, bi (.ifCond .eq (4)) 3 [48] 0, bi (.return_) 1 [] 0]
theorem cX9_newTower_38 : chk mX9_newTower 38 kX9_newTower_38 = true := by decide +kernel
theorem uT_38 {d : Nat} {σ : SG} {Q : Option AV → SG → Prop} {b l2 l3 s0 : Int} (h : (r3 (σ 42 5)) ∧ ((σ 42 5) = 0 → (0 ≤ l2 ∧ l2 < 32) ∧ (∀ S28 : SG, S28 = up σ 62 l2 l3 → (0 ≤ (2 * l2) ∧ (2 * l2) < 16) ∧ (∀ S29 : SG, S29 = up S28 63 (2 * l2) s0 → (0 ≤ ((2 * l2) + 1) ∧ ((2 * l2) + 1) < 16) ∧ (∀ S30 : SG, S30 = up S29 63 ((2 * l2) + 1) 1 → AW d mX9_newTower 79 [some (.inr (.inr 42)), none, some (.inl l2), none, none, none, some (.inl 0)] [] S30 Q)))) ∧ ((σ 42 5) ≠ 0 → Q none σ)) : AW d mX9_newTower 38 [some (.inr (.inr 42)), some (.inl b), some (.inl l2), some (.inr (.inl l3)), none, none, none] [.inl s0] σ Q := AW.blk kX9_newTower_38 cX9_newTower_38 (⟨(h).1, ⟨fun c31 => AW.blk kX9_newTower_48 cX9_newTower_48 (⟨⟨((((h).2).1 c31).1).1, ((((h).2).1 c31).1).2⟩, ⟨⟨((((((h).2).1 c31).2) _ rfl).1).1, ((((((h).2).1 c31).2) _ rfl).1).2⟩, ⟨⟨((((((((h).2).1 c31).2) _ rfl).2) _ rfl).1).1, ((((((((h).2).1 c31).2) _ rfl).2) _ rfl).1).2⟩, AW.drop 1 (AW.drop 3 (AW.drop 5 (((((((((h).2).1 c31).2) _ rfl).2) _ rfl).2) _ rfl)))⟩⟩⟩), fun c31 => ((h).2).2 c31⟩⟩)
def kX9_newTower_105 : List BI := [bi (.aload_n 0) 1 [] 0, bi (.getfield 69) 3 [9, 28] 0, bi (.iconst 0) 1 [] 0, bi (.dup2) 1 [] 0, bi (.iaload) 1 [] 0, bi (.iconst 1) 1 [] 0, bi (.iadd) 1 [] 0, bi (.iastore) 1 [] 0, bi (.return_) 1 [] 0]
theorem cX9_newTower_105 : chk mX9_newTower 105 kX9_newTower_105 = true := by decide +kernel
def kX9_newTower_79 : List BI := [bi (.iload 6) 2 [] 0, bi (.bipush (14)) 2 [] 0, bi (.if_icmp .ge (22)) 3 [105] 0, bi (.aload_n 0) 1 [] 0, bi (.getfield 85) 3 [9, 33] 0, bi (.bipush (14)) 2 [] 0, bi (.iload_n 2) 1 [] 0, bi (.imul) 1 [] 0, bi (.iload 6) 2 [] 0, bi (.iadd) 1 [] 0, bi (.iconst 0) 1 [] 0, bi (.iastore) 1 [] 0, bi (.iinc 6 (1)) 3 [] 0, bi (.goto (-23)) 3 [79] 0]
theorem cX9_newTower_79 : chk mX9_newTower 79 kX9_newTower_79 = true := by decide +kernel
theorem uT_79 {d : Nat} {σ : SG} {Q : Option AV → SG → Prop} {l2 l6 : Int} (h : (r3 l6) ∧ (14 ≤ l6 → (∀ S32 : SG, S32 = up σ 61 0 ((σ 61 0) + 1) → Q none S32)) ∧ (l6 < 14 → (0 ≤ ((14 * l2) + l6) ∧ ((14 * l2) + l6) < 56) ∧ (∀ S33 : SG, S33 = up σ 66 ((14 * l2) + l6) 0 → AW d mX9_newTower 79 [some (.inr (.inr 42)), none, some (.inl l2), none, none, none, some (.inl (l6 + 1))] [] S33 Q))) : AW d mX9_newTower 79 [some (.inr (.inr 42)), none, some (.inl l2), none, none, none, some (.inl l6)] [] σ Q := AW.blk kX9_newTower_79 cX9_newTower_79 (⟨⟨(h).1, (by decide)⟩, ⟨fun c34 => AW.blk kX9_newTower_105 cX9_newTower_105 (⟨⟨(by decide), (by decide)⟩, ⟨⟨(by decide), (by decide)⟩, (((h).2).1 c34) _ rfl⟩⟩), fun c34 => ⟨⟨((((h).2).2 c34).1).1, ((((h).2).2 c34).1).2⟩, ((((h).2).2 c34).2) _ rfl⟩⟩⟩)
def kX9_woodTold_0 : List BI := [bi (.aload_n 0) 1 [] 0, bi (.invokevirtual 271) 3 [mX9_towerTold, 1, 4, 9] 0]
theorem cX9_woodTold_0 : chk mX9_woodTold 0 kX9_woodTold_0 = true := by decide +kernel
theorem uW_0 {d : Nat} {σ : SG} {Q : Option AV → SG → Prop} (h : (0 < d) ∧ AW (d - 1) mX9_towerTold 0 [some (.inr (.inr 42)), none, none, none] [] σ (fun rr σ' => AW d mX9_woodTold 4 [some (.inr (.inr 42)), none, none] (rtS rr []) σ' Q)) : AW d mX9_woodTold 0 [some (.inr (.inr 42)), none, none] [] σ Q := AW.blk kX9_woodTold_0 cX9_woodTold_0 (⟨(h).1, (h).2⟩)
def kX9_woodTold_4 : List BI := [bi (.istore_n 1) 1 [] 0, bi (.aload_n 0) 1 [] 0, bi (.aload_n 0) 1 [] 0, bi (.getfield 30) 3 [9, 14] 0, bi (.invokevirtual 263) 3 [mX9_asks, 2, 2, 9] 0]
theorem cX9_woodTold_4 : chk mX9_woodTold 4 kX9_woodTold_4 = true := by decide +kernel
theorem uW_4 {d : Nat} {σ : SG} {Q : Option AV → SG → Prop} {s0 : Int} (h : (0 < d) ∧ AW (d - 1) mX9_asks 0 [some (.inr (.inr 42)), some (.inr (.inr 48))] [] σ (fun rr σ' => AW d mX9_woodTold 13 [some (.inr (.inr 42)), some (.inl s0), none] (rtS rr []) σ' Q)) : AW d mX9_woodTold 4 [some (.inr (.inr 42)), none, none] [.inl s0] σ Q := AW.blk kX9_woodTold_4 cX9_woodTold_4 (⟨(h).1, (h).2⟩)
def kX9_woodTold_13 : List BI := [bi (.aload_n 0) 1 [] 0, bi (.iconst 0) 1 [] 0, bi (.bipush (99)) 2 [] 0, bi (.invokevirtual 267) 3 [mX9_number, 3, 5, 9] 0]
theorem cX9_woodTold_13 : chk mX9_woodTold 13 kX9_woodTold_13 = true := by decide +kernel
theorem uW_13 {d : Nat} {σ : SG} {Q : Option AV → SG → Prop} {l1 : Int} (h : (0 < d) ∧ AW (d - 1) mX9_number 0 [some (.inr (.inr 42)), some (.inl 0), some (.inl 99), none, none] [] σ (fun rr σ' => AW d mX9_woodTold 20 [some (.inr (.inr 42)), some (.inl l1), none] (rtS rr []) σ' Q)) : AW d mX9_woodTold 13 [some (.inr (.inr 42)), some (.inl l1), none] [] σ Q := AW.blk kX9_woodTold_13 cX9_woodTold_13 (⟨(h).1, (h).2⟩)
def kX9_woodTold_39 : List BI := [bi (.return_) 1 [] 0]
theorem cX9_woodTold_39 : chk mX9_woodTold 39 kX9_woodTold_39 = true := by decide +kernel
def kX9_woodTold_20 : List BI := [bi (.istore_n 2) 1 [] 0, bi (.aload_n 0) 1 [] 0, bi (.getfield 190) 3 [9, 5] 0, bi (.ifCond .ne (14)) 3 [39] 0, bi (.aload_n 0) 1 [] 0, bi (.getfield 76) 3 [9, 30] 0, bi (.iconst 2) 1 [] 0, bi (.iload_n 1) 1 [] 0, bi (.imul) 1 [] 0, bi (.iconst 1) 1 [] 0, bi (.iadd) 1 [] 0, bi (.iload_n 2) 1 [] 0, bi (.iastore) 1 [] 0, bi (.return_) 1 [] 0]
theorem cX9_woodTold_20 : chk mX9_woodTold 20 kX9_woodTold_20 = true := by decide +kernel
theorem uW_20 {d : Nat} {σ : SG} {Q : Option AV → SG → Prop} {l1 s0 : Int} (h : (r3 (σ 42 5)) ∧ ((σ 42 5) ≠ 0 → Q none σ) ∧ ((σ 42 5) = 0 → (0 ≤ ((2 * l1) + 1) ∧ ((2 * l1) + 1) < 16) ∧ (∀ S35 : SG, S35 = up σ 63 ((2 * l1) + 1) s0 → Q none S35))) : AW d mX9_woodTold 20 [some (.inr (.inr 42)), some (.inl l1), none] [.inl s0] σ Q := AW.blk kX9_woodTold_20 cX9_woodTold_20 (⟨(h).1, ⟨fun c36 => AW.blk kX9_woodTold_39 cX9_woodTold_39 (((h).2).1 c36), fun c36 => ⟨⟨((((h).2).2 c36).1).1, ((((h).2).2 c36).1).2⟩, ((((h).2).2 c36).2) _ rfl⟩⟩⟩)
def kX9_gapTold_12 : List BI := [bi (.aload_n 0) 1 [] 0, bi (.iconst 1) 1 [] 0, bi (.bipush (14)) 2 [] 0, bi (.invokevirtual 267) 3 [mX9_number, 3, 5, 9] 0]
theorem cX9_gapTold_12 : chk mX9_gapTold 12 kX9_gapTold_12 = true := by decide +kernel
def kX9_gapTold_0 : List BI := [bi (.aload_n 0) 1 [] 0, bi (.iconst 3) 1 [] 0, bi (.bipush (20)) 2 [] 0, bi (.iload_n 1) 1 [] 0, bi (.invokevirtual 256) 3 [mX9_isFull, 4, 4, 9] 0, bi (.ifCond .eq (4)) 3 [12] 0, bi (.return_) 1 [] 0]
theorem cX9_gapTold_0 : chk mX9_gapTold 0 kX9_gapTold_0 = true := by decide +kernel
theorem uG_0 {d : Nat} {σ : SG} {Q : Option AV → SG → Prop} {b : Int} (h : (0 < d) ∧ (r3 (σ 42 5)) ∧ ((σ 42 5) ≠ 0 → (r3 (σ 42 5)) ∧ ((σ 42 5) = 0 → (0 < d) ∧ AW (d - 1) mX9_number 0 [some (.inr (.inr 42)), some (.inl 1), some (.inl 14), none, none] [] σ (fun rr σ' => AW d mX9_gapTold 19 [some (.inr (.inr 42)), some (.inl b), none, none] (rtS rr []) σ' Q)) ∧ ((σ 42 5) ≠ 0 → Q none σ)) ∧ ((σ 42 5) = 0 → (r3 (σ 61 3)) ∧ ((σ 61 3) ≠ 20 → (r3 (σ 42 5)) ∧ ((σ 42 5) = 0 → (0 < d) ∧ AW (d - 1) mX9_number 0 [some (.inr (.inr 42)), some (.inl 1), some (.inl 14), none, none] [] σ (fun rr σ' => AW d mX9_gapTold 19 [some (.inr (.inr 42)), some (.inl b), none, none] (rtS rr []) σ' Q)) ∧ ((σ 42 5) ≠ 0 → Q none σ)) ∧ ((σ 61 3) = 20 → (0 < d - 1) ∧ (r3 (σ 42 5)) ∧ ((σ 42 5) = 0 → (∀ S39 : SG, S39 = up σ 42 5 5 → (∀ S40 : SG, S40 = up S39 42 6 b → (r3 (S40 42 5)) ∧ ((S40 42 5) = 0 → (0 < d) ∧ AW (d - 1) mX9_number 0 [some (.inr (.inr 42)), some (.inl 1), some (.inl 14), none, none] [] S40 (fun rr σ' => AW d mX9_gapTold 19 [some (.inr (.inr 42)), some (.inl b), none, none] (rtS rr []) σ' Q)) ∧ ((S40 42 5) ≠ 0 → Q none S40)))) ∧ ((σ 42 5) ≠ 0 → (r3 (σ 42 5)) ∧ ((σ 42 5) = 0 → (0 < d) ∧ AW (d - 1) mX9_number 0 [some (.inr (.inr 42)), some (.inl 1), some (.inl 14), none, none] [] σ (fun rr σ' => AW d mX9_gapTold 19 [some (.inr (.inr 42)), some (.inl b), none, none] (rtS rr []) σ' Q)) ∧ ((σ 42 5) ≠ 0 → Q none σ))))) : AW d mX9_gapTold 0 [some (.inr (.inr 42)), some (.inl b), none, none] [] σ Q := AW.blk kX9_gapTold_0 cX9_gapTold_0 (⟨(h).1, AW.blk kX9_isFull_0 cX9_isFull_0 (⟨((h).2).1, ⟨fun c45 => AW.blk kX9_isFull_23 cX9_isFull_23 (⟨((((h).2).2).1 c45).1, ⟨fun c37 => AW.blk kX9_isFull_34 cX9_isFull_34 (⟨(by decide), ⟨(by decide), ⟨fun _ => AW.blk kX9_gapTold_12 cX9_gapTold_12 (⟨((((((h).2).2).1 c45).2).1 c37).1, ((((((h).2).2).1 c45).2).1 c37).2⟩), fun c => absurd c (by decide)⟩⟩⟩), fun c37 => AW.blk kX9_isFull_35 cX9_isFull_35 (⟨(by decide), ⟨(by decide), ⟨fun c => absurd c (by decide), fun _ => (((((h).2).2).1 c45).2).2 c37⟩⟩⟩)⟩⟩), fun c45 => ⟨⟨(by decide), (by decide)⟩, ⟨⟨((((h).2).2).2 c45).1, (by decide)⟩, ⟨fun c44 => AW.blk kX9_isFull_23 cX9_isFull_23 (⟨((((((h).2).2).2 c45).2).1 c44).1, ⟨fun c38 => AW.blk kX9_isFull_34 cX9_isFull_34 (⟨(by decide), ⟨(by decide), ⟨fun _ => AW.blk kX9_gapTold_12 cX9_gapTold_12 (⟨((((((((h).2).2).2 c45).2).1 c44).2).1 c38).1, ((((((((h).2).2).2 c45).2).1 c44).2).1 c38).2⟩), fun c => absurd c (by decide)⟩⟩⟩), fun c38 => AW.blk kX9_isFull_35 cX9_isFull_35 (⟨(by decide), ⟨(by decide), ⟨fun c => absurd c (by decide), fun _ => (((((((h).2).2).2 c45).2).1 c44).2).2 c38⟩⟩⟩)⟩⟩), fun c44 => ⟨((((((h).2).2).2 c45).2).2 c44).1, AW.blk kX9_fail_0 cX9_fail_0 (⟨(((((((h).2).2).2 c45).2).2 c44).2).1, ⟨fun c43 => AW.blk kX9_fail_8 cX9_fail_8 (⟨(((((((((((h).2).2).2 c45).2).2 c44).2).2).1 c43) _ rfl) _ rfl).1, ⟨fun c41 => AW.blk kX9_isFull_34 cX9_isFull_34 (⟨(by decide), ⟨(by decide), ⟨fun _ => AW.blk kX9_gapTold_12 cX9_gapTold_12 (⟨(((((((((((((h).2).2).2 c45).2).2 c44).2).2).1 c43) _ rfl) _ rfl).2).1 c41).1, (((((((((((((h).2).2).2 c45).2).2 c44).2).2).1 c43) _ rfl) _ rfl).2).1 c41).2⟩), fun c => absurd c (by decide)⟩⟩⟩), fun c41 => AW.blk kX9_isFull_35 cX9_isFull_35 (⟨(by decide), ⟨(by decide), ⟨fun c => absurd c (by decide), fun _ => ((((((((((((h).2).2).2 c45).2).2 c44).2).2).1 c43) _ rfl) _ rfl).2).2 c41⟩⟩⟩)⟩⟩), fun c43 => ⟨(((((((((h).2).2).2 c45).2).2 c44).2).2).2 c43).1, ⟨fun c42 => AW.blk kX9_isFull_34 cX9_isFull_34 (⟨(by decide), ⟨(by decide), ⟨fun _ => AW.blk kX9_gapTold_12 cX9_gapTold_12 (⟨(((((((((((h).2).2).2 c45).2).2 c44).2).2).2 c43).2).1 c42).1, (((((((((((h).2).2).2 c45).2).2 c44).2).2).2 c43).2).1 c42).2⟩), fun c => absurd c (by decide)⟩⟩⟩), fun c42 => AW.blk kX9_isFull_35 cX9_isFull_35 (⟨(by decide), ⟨(by decide), ⟨fun c => absurd c (by decide), fun _ => ((((((((((h).2).2).2 c45).2).2 c44).2).2).2 c43).2).2 c42⟩⟩⟩)⟩⟩⟩⟩)⟩⟩⟩⟩⟩⟩)⟩)
def kX9_gapTold_19 : List BI := [bi (.istore_n 2) 1 [] 0, bi (.aload_n 0) 1 [] 0, bi (.aload_n 0) 1 [] 0, bi (.getfield 36) 3 [9, 16] 0, bi (.invokevirtual 263) 3 [mX9_asks, 2, 2, 9] 0]
theorem cX9_gapTold_19 : chk mX9_gapTold 19 kX9_gapTold_19 = true := by decide +kernel
theorem uG_19 {d : Nat} {σ : SG} {Q : Option AV → SG → Prop} {b s0 : Int} (h : (0 < d) ∧ AW (d - 1) mX9_asks 0 [some (.inr (.inr 42)), some (.inr (.inr 50))] [] σ (fun rr σ' => AW d mX9_gapTold 28 [some (.inr (.inr 42)), some (.inl b), some (.inl s0), none] (rtS rr []) σ' Q)) : AW d mX9_gapTold 19 [some (.inr (.inr 42)), some (.inl b), none, none] [.inl s0] σ Q := AW.blk kX9_gapTold_19 cX9_gapTold_19 (⟨(h).1, (h).2⟩)
def kX9_gapTold_28 : List BI := [bi (.aload_n 0) 1 [] 0, bi (.iload_n 2) 1 [] 0, bi (.iconst 0) 1 [] 0, bi (.invokevirtual 274) 3 [mX9_takenOf, 3, 4, 9] 0]
theorem cX9_gapTold_28 : chk mX9_gapTold 28 kX9_gapTold_28 = true := by decide +kernel
theorem uG_28 {d : Nat} {σ : SG} {Q : Option AV → SG → Prop} {b l2 : Int} (h : (0 < d) ∧ AW (d - 1) mX9_takenOf 0 [some (.inr (.inr 42)), some (.inl l2), some (.inl 0), none] [] σ (fun rr σ' => AW d mX9_gapTold 34 [some (.inr (.inr 42)), some (.inl b), some (.inl l2), none] (rtS rr []) σ' Q)) : AW d mX9_gapTold 28 [some (.inr (.inr 42)), some (.inl b), some (.inl l2), none] [] σ Q := AW.blk kX9_gapTold_28 cX9_gapTold_28 (⟨(h).1, (h).2⟩)
def kX9_gapTold_43 : List BI := [bi (.aload_n 0) 1 [] 0, bi (.getfield 85) 3 [9, 33] 0, bi (.bipush (14)) 2 [] 0, bi (.iload_n 3) 1 [] 0, bi (.imul) 1 [] 0, bi (.iload_n 2) 1 [] 0, bi (.iadd) 1 [] 0, bi (.iconst 1) 1 [] 0, bi (.isub) 1 [] 0, bi (.iconst 1) 1 [] 0, bi (.iastore) 1 [] 0, bi (.aload_n 0) 1 [] 0, bi (.getfield 69) 3 [9, 28] 0, bi (.iconst 3) 1 [] 0, bi (.dup2) 1 [] 0, bi (.iaload) 1 [] 0, bi (.iconst 1) 1 [] 0, bi (.iadd) 1 [] 0, bi (.iastore) 1 [] 0, bi (.return_) 1 [] 0]
theorem cX9_gapTold_43 : chk mX9_gapTold 43 kX9_gapTold_43 = true := by decide +kernel
def kX9_gapTold_34 : List BI := [bi (.istore_n 3) 1 [] 0, bi (.aload_n 0) 1 [] 0, bi (.getfield 190) 3 [9, 5] 0, bi (.ifCond .eq (4)) 3 [43] 0, bi (.return_) 1 [] 0]
theorem cX9_gapTold_34 : chk mX9_gapTold 34 kX9_gapTold_34 = true := by decide +kernel
theorem uG_34 {d : Nat} {σ : SG} {Q : Option AV → SG → Prop} {b l2 s0 : Int} (h : (r3 (σ 42 5)) ∧ ((σ 42 5) = 0 → (0 ≤ (((14 * s0) + l2) - 1) ∧ (((14 * s0) + l2) - 1) < 56) ∧ (∀ S46 : SG, S46 = up σ 66 (((14 * s0) + l2) - 1) 1 → (∀ S47 : SG, S47 = up S46 61 3 ((S46 61 3) + 1) → Q none S47))) ∧ ((σ 42 5) ≠ 0 → Q none σ)) : AW d mX9_gapTold 34 [some (.inr (.inr 42)), some (.inl b), some (.inl l2), none] [.inl s0] σ Q := AW.blk kX9_gapTold_34 cX9_gapTold_34 (⟨(h).1, ⟨fun c48 => AW.blk kX9_gapTold_43 cX9_gapTold_43 (⟨⟨((((h).2).1 c48).1).1, ((((h).2).1 c48).1).2⟩, ⟨⟨(by decide), (by decide)⟩, ⟨⟨(by decide), (by decide)⟩, (((((h).2).1 c48).2) _ rfl) _ rfl⟩⟩⟩), fun c48 => ((h).2).2 c48⟩⟩)
def kX9_guardTold_12 : List BI := [bi (.aload_n 0) 1 [] 0, bi (.getfield 69) 3 [9, 28] 0, bi (.iconst 1) 1 [] 0, bi (.iaload) 1 [] 0, bi (.istore_n 2) 1 [] 0, bi (.aload_n 0) 1 [] 0, bi (.invokevirtual 260) 3 [mX9_newName, 1, 3, 9] 0]
theorem cX9_guardTold_12 : chk mX9_guardTold 12 kX9_guardTold_12 = true := by decide +kernel
def kX9_guardTold_0 : List BI := [bi (.aload_n 0) 1 [] 0, bi (.iconst 1) 1 [] 0, bi (.bipush (8)) 2 [] 0, bi (.iload_n 1) 1 [] 0, bi (.invokevirtual 256) 3 [mX9_isFull, 4, 4, 9] 0, bi (.ifCond .eq (4)) 3 [12] 0, bi (.return_) 1 [] 0]
theorem cX9_guardTold_0 : chk mX9_guardTold 0 kX9_guardTold_0 = true := by decide +kernel
theorem uU_0 {d : Nat} {σ : SG} {Q : Option AV → SG → Prop} {b : Int} (h : (0 < d) ∧ (r3 (σ 42 5)) ∧ ((σ 42 5) ≠ 0 → (r3 (σ 42 5)) ∧ ((σ 42 5) = 0 → (0 < d) ∧ AW (d - 1) mX9_newName 0 [some (.inr (.inr 42)), none, none] [] σ (fun rr σ' => AW d mX9_guardTold 23 [some (.inr (.inr 42)), some (.inl b), some (.inl (σ 61 1)), none, none, none, none, none] (rtS rr []) σ' Q)) ∧ ((σ 42 5) ≠ 0 → Q none σ)) ∧ ((σ 42 5) = 0 → (r3 (σ 61 1)) ∧ ((σ 61 1) ≠ 8 → (r3 (σ 42 5)) ∧ ((σ 42 5) = 0 → (0 < d) ∧ AW (d - 1) mX9_newName 0 [some (.inr (.inr 42)), none, none] [] σ (fun rr σ' => AW d mX9_guardTold 23 [some (.inr (.inr 42)), some (.inl b), some (.inl (σ 61 1)), none, none, none, none, none] (rtS rr []) σ' Q)) ∧ ((σ 42 5) ≠ 0 → Q none σ)) ∧ ((σ 61 1) = 8 → (0 < d - 1) ∧ (r3 (σ 42 5)) ∧ ((σ 42 5) = 0 → (∀ S51 : SG, S51 = up σ 42 5 5 → (∀ S52 : SG, S52 = up S51 42 6 b → (r3 (S52 42 5)) ∧ ((S52 42 5) = 0 → (0 < d) ∧ AW (d - 1) mX9_newName 0 [some (.inr (.inr 42)), none, none] [] S52 (fun rr σ' => AW d mX9_guardTold 23 [some (.inr (.inr 42)), some (.inl b), some (.inl (S52 61 1)), none, none, none, none, none] (rtS rr []) σ' Q)) ∧ ((S52 42 5) ≠ 0 → Q none S52)))) ∧ ((σ 42 5) ≠ 0 → (r3 (σ 42 5)) ∧ ((σ 42 5) = 0 → (0 < d) ∧ AW (d - 1) mX9_newName 0 [some (.inr (.inr 42)), none, none] [] σ (fun rr σ' => AW d mX9_guardTold 23 [some (.inr (.inr 42)), some (.inl b), some (.inl (σ 61 1)), none, none, none, none, none] (rtS rr []) σ' Q)) ∧ ((σ 42 5) ≠ 0 → Q none σ))))) : AW d mX9_guardTold 0 [some (.inr (.inr 42)), some (.inl b), none, none, none, none, none, none] [] σ Q := AW.blk kX9_guardTold_0 cX9_guardTold_0 (⟨(h).1, AW.blk kX9_isFull_0 cX9_isFull_0 (⟨((h).2).1, ⟨fun c57 => AW.blk kX9_isFull_23 cX9_isFull_23 (⟨((((h).2).2).1 c57).1, ⟨fun c49 => AW.blk kX9_isFull_34 cX9_isFull_34 (⟨(by decide), ⟨(by decide), ⟨fun _ => AW.blk kX9_guardTold_12 cX9_guardTold_12 (⟨⟨(by decide), (by decide)⟩, ⟨((((((h).2).2).1 c57).2).1 c49).1, ((((((h).2).2).1 c57).2).1 c49).2⟩⟩), fun c => absurd c (by decide)⟩⟩⟩), fun c49 => AW.blk kX9_isFull_35 cX9_isFull_35 (⟨(by decide), ⟨(by decide), ⟨fun c => absurd c (by decide), fun _ => (((((h).2).2).1 c57).2).2 c49⟩⟩⟩)⟩⟩), fun c57 => ⟨⟨(by decide), (by decide)⟩, ⟨⟨((((h).2).2).2 c57).1, (by decide)⟩, ⟨fun c56 => AW.blk kX9_isFull_23 cX9_isFull_23 (⟨((((((h).2).2).2 c57).2).1 c56).1, ⟨fun c50 => AW.blk kX9_isFull_34 cX9_isFull_34 (⟨(by decide), ⟨(by decide), ⟨fun _ => AW.blk kX9_guardTold_12 cX9_guardTold_12 (⟨⟨(by decide), (by decide)⟩, ⟨((((((((h).2).2).2 c57).2).1 c56).2).1 c50).1, ((((((((h).2).2).2 c57).2).1 c56).2).1 c50).2⟩⟩), fun c => absurd c (by decide)⟩⟩⟩), fun c50 => AW.blk kX9_isFull_35 cX9_isFull_35 (⟨(by decide), ⟨(by decide), ⟨fun c => absurd c (by decide), fun _ => (((((((h).2).2).2 c57).2).1 c56).2).2 c50⟩⟩⟩)⟩⟩), fun c56 => ⟨((((((h).2).2).2 c57).2).2 c56).1, AW.blk kX9_fail_0 cX9_fail_0 (⟨(((((((h).2).2).2 c57).2).2 c56).2).1, ⟨fun c55 => AW.blk kX9_fail_8 cX9_fail_8 (⟨(((((((((((h).2).2).2 c57).2).2 c56).2).2).1 c55) _ rfl) _ rfl).1, ⟨fun c53 => AW.blk kX9_isFull_34 cX9_isFull_34 (⟨(by decide), ⟨(by decide), ⟨fun _ => AW.blk kX9_guardTold_12 cX9_guardTold_12 (⟨⟨(by decide), (by decide)⟩, ⟨(((((((((((((h).2).2).2 c57).2).2 c56).2).2).1 c55) _ rfl) _ rfl).2).1 c53).1, (((((((((((((h).2).2).2 c57).2).2 c56).2).2).1 c55) _ rfl) _ rfl).2).1 c53).2⟩⟩), fun c => absurd c (by decide)⟩⟩⟩), fun c53 => AW.blk kX9_isFull_35 cX9_isFull_35 (⟨(by decide), ⟨(by decide), ⟨fun c => absurd c (by decide), fun _ => ((((((((((((h).2).2).2 c57).2).2 c56).2).2).1 c55) _ rfl) _ rfl).2).2 c53⟩⟩⟩)⟩⟩), fun c55 => ⟨(((((((((h).2).2).2 c57).2).2 c56).2).2).2 c55).1, ⟨fun c54 => AW.blk kX9_isFull_34 cX9_isFull_34 (⟨(by decide), ⟨(by decide), ⟨fun _ => AW.blk kX9_guardTold_12 cX9_guardTold_12 (⟨⟨(by decide), (by decide)⟩, ⟨(((((((((((h).2).2).2 c57).2).2 c56).2).2).2 c55).2).1 c54).1, (((((((((((h).2).2).2 c57).2).2 c56).2).2).2 c55).2).1 c54).2⟩⟩), fun c => absurd c (by decide)⟩⟩⟩), fun c54 => AW.blk kX9_isFull_35 cX9_isFull_35 (⟨(by decide), ⟨(by decide), ⟨fun c => absurd c (by decide), fun _ => ((((((((((h).2).2).2 c57).2).2 c56).2).2).2 c55).2).2 c54⟩⟩⟩)⟩⟩⟩⟩)⟩⟩⟩⟩⟩⟩)⟩)
def kX9_guardTold_23 : List BI := [bi (.lstore_n 3) 1 [] 0, bi (.aload_n 0) 1 [] 0, bi (.aload_n 0) 1 [] 0, bi (.getfield 36) 3 [9, 16] 0, bi (.invokevirtual 263) 3 [mX9_asks, 2, 2, 9] 0]
theorem cX9_guardTold_23 : chk mX9_guardTold 23 kX9_guardTold_23 = true := by decide +kernel
theorem uU_23 {d : Nat} {σ : SG} {Q : Option AV → SG → Prop} {b l2 s0 : Int} (h : (0 < d) ∧ AW (d - 1) mX9_asks 0 [some (.inr (.inr 42)), some (.inr (.inr 50))] [] σ (fun rr σ' => AW d mX9_guardTold 32 [some (.inr (.inr 42)), some (.inl b), some (.inl l2), some (.inr (.inl s0)), none, none, none, none] (rtS rr []) σ' Q)) : AW d mX9_guardTold 23 [some (.inr (.inr 42)), some (.inl b), some (.inl l2), none, none, none, none, none] [.inr (.inl s0)] σ Q := AW.blk kX9_guardTold_23 cX9_guardTold_23 (⟨(h).1, (h).2⟩)
def kX9_guardTold_32 : List BI := [bi (.aload_n 0) 1 [] 0, bi (.invokevirtual 271) 3 [mX9_towerTold, 1, 4, 9] 0]
theorem cX9_guardTold_32 : chk mX9_guardTold 32 kX9_guardTold_32 = true := by decide +kernel
theorem uU_32 {d : Nat} {σ : SG} {Q : Option AV → SG → Prop} {b l2 l3 : Int} (h : (0 < d) ∧ AW (d - 1) mX9_towerTold 0 [some (.inr (.inr 42)), none, none, none] [] σ (fun rr σ' => AW d mX9_guardTold 36 [some (.inr (.inr 42)), some (.inl b), some (.inl l2), some (.inr (.inl l3)), none, none, none, none] (rtS rr []) σ' Q)) : AW d mX9_guardTold 32 [some (.inr (.inr 42)), some (.inl b), some (.inl l2), some (.inr (.inl l3)), none, none, none, none] [] σ Q := AW.blk kX9_guardTold_32 cX9_guardTold_32 (⟨(h).1, (h).2⟩)
def kX9_guardTold_36 : List BI := [bi (.istore 5) 2 [] 0, bi (.aload_n 0) 1 [] 0, bi (.aload_n 0) 1 [] 0, bi (.getfield 42) 3 [9, 18] 0, bi (.invokevirtual 263) 3 [mX9_asks, 2, 2, 9] 0]
theorem cX9_guardTold_36 : chk mX9_guardTold 36 kX9_guardTold_36 = true := by decide +kernel
theorem uU_36 {d : Nat} {σ : SG} {Q : Option AV → SG → Prop} {b l2 l3 s0 : Int} (h : (0 < d) ∧ AW (d - 1) mX9_asks 0 [some (.inr (.inr 42)), some (.inr (.inr 52))] [] σ (fun rr σ' => AW d mX9_guardTold 46 [some (.inr (.inr 42)), some (.inl b), some (.inl l2), some (.inr (.inl l3)), none, some (.inl s0), none, none] (rtS rr []) σ' Q)) : AW d mX9_guardTold 36 [some (.inr (.inr 42)), some (.inl b), some (.inl l2), some (.inr (.inl l3)), none, none, none, none] [.inl s0] σ Q := AW.blk kX9_guardTold_36 cX9_guardTold_36 (⟨(h).1, (h).2⟩)
def kX9_guardTold_46 : List BI := [bi (.aload_n 0) 1 [] 0, bi (.iconst 1) 1 [] 0, bi (.bipush (6)) 2 [] 0, bi (.invokevirtual 267) 3 [mX9_number, 3, 5, 9] 0]
theorem cX9_guardTold_46 : chk mX9_guardTold 46 kX9_guardTold_46 = true := by decide +kernel
theorem uU_46 {d : Nat} {σ : SG} {Q : Option AV → SG → Prop} {b l2 l3 l5 : Int} (h : (0 < d) ∧ AW (d - 1) mX9_number 0 [some (.inr (.inr 42)), some (.inl 1), some (.inl 6), none, none] [] σ (fun rr σ' => AW d mX9_guardTold 53 [some (.inr (.inr 42)), some (.inl b), some (.inl l2), some (.inr (.inl l3)), none, some (.inl l5), none, none] (rtS rr []) σ' Q)) : AW d mX9_guardTold 46 [some (.inr (.inr 42)), some (.inl b), some (.inl l2), some (.inr (.inl l3)), none, some (.inl l5), none, none] [] σ Q := AW.blk kX9_guardTold_46 cX9_guardTold_46 (⟨(h).1, (h).2⟩)
def kX9_guardTold_53 : List BI := [bi (.istore 6) 2 [] 0, bi (.aload_n 0) 1 [] 0, bi (.aload_n 0) 1 [] 0, bi (.getfield 45) 3 [9, 19] 0, bi (.invokevirtual 263) 3 [mX9_asks, 2, 2, 9] 0]
theorem cX9_guardTold_53 : chk mX9_guardTold 53 kX9_guardTold_53 = true := by decide +kernel
theorem uU_53 {d : Nat} {σ : SG} {Q : Option AV → SG → Prop} {b l2 l3 l5 s0 : Int} (h : (0 < d) ∧ AW (d - 1) mX9_asks 0 [some (.inr (.inr 42)), some (.inr (.inr 53))] [] σ (fun rr σ' => AW d mX9_guardTold 63 [some (.inr (.inr 42)), some (.inl b), some (.inl l2), some (.inr (.inl l3)), none, some (.inl l5), some (.inl s0), none] (rtS rr []) σ' Q)) : AW d mX9_guardTold 53 [some (.inr (.inr 42)), some (.inl b), some (.inl l2), some (.inr (.inl l3)), none, some (.inl l5), none, none] [.inl s0] σ Q := AW.blk kX9_guardTold_53 cX9_guardTold_53 (⟨(h).1, (h).2⟩)
def kX9_guardTold_63 : List BI := [bi (.aload_n 0) 1 [] 0, bi (.iconst 0) 1 [] 0, bi (.bipush (6)) 2 [] 0, bi (.invokevirtual 267) 3 [mX9_number, 3, 5, 9] 0]
theorem cX9_guardTold_63 : chk mX9_guardTold 63 kX9_guardTold_63 = true := by decide +kernel
theorem uU_63 {d : Nat} {σ : SG} {Q : Option AV → SG → Prop} {b l2 l3 l5 l6 : Int} (h : (0 < d) ∧ AW (d - 1) mX9_number 0 [some (.inr (.inr 42)), some (.inl 0), some (.inl 6), none, none] [] σ (fun rr σ' => AW d mX9_guardTold 70 [some (.inr (.inr 42)), some (.inl b), some (.inl l2), some (.inr (.inl l3)), none, some (.inl l5), some (.inl l6), none] (rtS rr []) σ' Q)) : AW d mX9_guardTold 63 [some (.inr (.inr 42)), some (.inl b), some (.inl l2), some (.inr (.inl l3)), none, some (.inl l5), some (.inl l6), none] [] σ Q := AW.blk kX9_guardTold_63 cX9_guardTold_63 (⟨(h).1, (h).2⟩)
def kX9_guardTold_80 : List BI := [bi (.aload_n 0) 1 [] 0, bi (.getfield 72) 3 [9, 29] 0, bi (.bipush (8)) 2 [] 0, bi (.iload_n 2) 1 [] 0, bi (.iadd) 1 [] 0, bi (.lload_n 3) 1 [] 0, bi (.lastore) 1 [] 0, bi (.aload_n 0) 1 [] 0, bi (.getfield 79) 3 [9, 31] 0, bi (.iconst 3) 1 [] 0, bi (.iload_n 2) 1 [] 0, bi (.imul) 1 [] 0, bi (.iload 5) 2 [] 0, bi (.iastore) 1 [] 0, bi (.aload_n 0) 1 [] 0, bi (.getfield 79) 3 [9, 31] 0, bi (.iconst 3) 1 [] 0, bi (.iload_n 2) 1 [] 0, bi (.imul) 1 [] 0, bi (.iconst 1) 1 [] 0, bi (.iadd) 1 [] 0, bi (.iload 6) 2 [] 0, bi (.iastore) 1 [] 0, bi (.aload_n 0) 1 [] 0, bi (.getfield 79) 3 [9, 31] 0, bi (.iconst 3) 1 [] 0, bi (.iload_n 2) 1 [] 0, bi (.imul) 1 [] 0, bi (.iconst 2) 1 [] 0, bi (.iadd) 1 [] 0, bi (.iload 7) 2 [] 0, bi (.iastore) 1 [] 0, bi (.aload_n 0) 1 [] 0, bi (.getfield 69) 3 [9, 28] 0, bi (.iconst 1) 1 [] 0, bi (.dup2) 1 [] 0, bi (.iaload) 1 [] 0, bi (.iconst 1) 1 [] 0, bi (.iadd) 1 [] 0, bi (.iastore) 1 [] 0, bi (.return_) 1 [] 0]
theorem cX9_guardTold_80 : chk mX9_guardTold 80 kX9_guardTold_80 = true := by decide +kernel
def kX9_guardTold_70 : List BI := [bi (.istore 7) 2 [] 0, bi (.aload_n 0) 1 [] 0, bi (.getfield 190) 3 [9, 5] 0, bi (.ifCond .eq (4)) 3 [80] 0, bi (.return_) 1 [] 0]
theorem cX9_guardTold_70 : chk mX9_guardTold 70 kX9_guardTold_70 = true := by decide +kernel
theorem uU_70 {d : Nat} {σ : SG} {Q : Option AV → SG → Prop} {b l2 l3 l5 l6 s0 : Int} (h : (r3 (σ 42 5)) ∧ ((σ 42 5) = 0 → (0 ≤ (8 + l2) ∧ (8 + l2) < 32) ∧ (∀ S58 : SG, S58 = up σ 62 (8 + l2) l3 → (0 ≤ (3 * l2) ∧ (3 * l2) < 48) ∧ (∀ S59 : SG, S59 = up S58 64 (3 * l2) l5 → (0 ≤ ((3 * l2) + 1) ∧ ((3 * l2) + 1) < 48) ∧ (∀ S60 : SG, S60 = up S59 64 ((3 * l2) + 1) l6 → (0 ≤ ((3 * l2) + 2) ∧ ((3 * l2) + 2) < 48) ∧ (∀ S61 : SG, S61 = up S60 64 ((3 * l2) + 2) s0 → (∀ S62 : SG, S62 = up S61 61 1 ((S61 61 1) + 1) → Q none S62)))))) ∧ ((σ 42 5) ≠ 0 → Q none σ)) : AW d mX9_guardTold 70 [some (.inr (.inr 42)), some (.inl b), some (.inl l2), some (.inr (.inl l3)), none, some (.inl l5), some (.inl l6), none] [.inl s0] σ Q := AW.blk kX9_guardTold_70 cX9_guardTold_70 (⟨(h).1, ⟨fun c63 => AW.blk kX9_guardTold_80 cX9_guardTold_80 (⟨⟨((((h).2).1 c63).1).1, ((((h).2).1 c63).1).2⟩, ⟨⟨((((((h).2).1 c63).2) _ rfl).1).1, ((((((h).2).1 c63).2) _ rfl).1).2⟩, ⟨⟨((((((((h).2).1 c63).2) _ rfl).2) _ rfl).1).1, ((((((((h).2).1 c63).2) _ rfl).2) _ rfl).1).2⟩, ⟨⟨((((((((((h).2).1 c63).2) _ rfl).2) _ rfl).2) _ rfl).1).1, ((((((((((h).2).1 c63).2) _ rfl).2) _ rfl).2) _ rfl).1).2⟩, ⟨⟨(by decide), (by decide)⟩, ⟨⟨(by decide), (by decide)⟩, (((((((((((h).2).1 c63).2) _ rfl).2) _ rfl).2) _ rfl).2) _ rfl) _ rfl⟩⟩⟩⟩⟩⟩), fun c63 => ((h).2).2 c63⟩⟩)
def kX9_loanIsTold_12 : List BI := [bi (.iconst 5) 1 [] 0, bi (.aload_n 0) 1 [] 0, bi (.getfield 69) 3 [9, 28] 0, bi (.iconst 2) 1 [] 0, bi (.iaload) 1 [] 0, bi (.imul) 1 [] 0, bi (.istore_n 2) 1 [] 0, bi (.aload_n 0) 1 [] 0, bi (.iconst 1) 1 [] 0, bi (.bipush (14)) 2 [] 0, bi (.invokevirtual 267) 3 [mX9_number, 3, 5, 9] 0]
theorem cX9_loanIsTold_12 : chk mX9_loanIsTold 12 kX9_loanIsTold_12 = true := by decide +kernel
def kX9_loanIsTold_0 : List BI := [bi (.aload_n 0) 1 [] 0, bi (.iconst 2) 1 [] 0, bi (.bipush (12)) 2 [] 0, bi (.iload_n 1) 1 [] 0, bi (.invokevirtual 256) 3 [mX9_isFull, 4, 4, 9] 0, bi (.ifCond .eq (4)) 3 [12] 0, bi (.return_) 1 [] 0]
theorem cX9_loanIsTold_0 : chk mX9_loanIsTold 0 kX9_loanIsTold_0 = true := by decide +kernel
theorem uL_0 {d : Nat} {σ : SG} {Q : Option AV → SG → Prop} {b : Int} (h : (0 < d) ∧ (r3 (σ 42 5)) ∧ ((σ 42 5) ≠ 0 → (r3 (σ 42 5)) ∧ ((σ 42 5) = 0 → (0 < d) ∧ AW (d - 1) mX9_number 0 [some (.inr (.inr 42)), some (.inl 1), some (.inl 14), none, none] [] σ (fun rr σ' => AW d mX9_loanIsTold 28 [some (.inr (.inr 42)), some (.inl b), some (.inl (5 * (σ 61 2))), none, none, none, none, none] (rtS rr []) σ' Q)) ∧ ((σ 42 5) ≠ 0 → Q none σ)) ∧ ((σ 42 5) = 0 → (r3 (σ 61 2)) ∧ ((σ 61 2) ≠ 12 → (r3 (σ 42 5)) ∧ ((σ 42 5) = 0 → (0 < d) ∧ AW (d - 1) mX9_number 0 [some (.inr (.inr 42)), some (.inl 1), some (.inl 14), none, none] [] σ (fun rr σ' => AW d mX9_loanIsTold 28 [some (.inr (.inr 42)), some (.inl b), some (.inl (5 * (σ 61 2))), none, none, none, none, none] (rtS rr []) σ' Q)) ∧ ((σ 42 5) ≠ 0 → Q none σ)) ∧ ((σ 61 2) = 12 → (0 < d - 1) ∧ (r3 (σ 42 5)) ∧ ((σ 42 5) = 0 → (∀ S66 : SG, S66 = up σ 42 5 5 → (∀ S67 : SG, S67 = up S66 42 6 b → (r3 (S67 42 5)) ∧ ((S67 42 5) = 0 → (0 < d) ∧ AW (d - 1) mX9_number 0 [some (.inr (.inr 42)), some (.inl 1), some (.inl 14), none, none] [] S67 (fun rr σ' => AW d mX9_loanIsTold 28 [some (.inr (.inr 42)), some (.inl b), some (.inl (5 * (S67 61 2))), none, none, none, none, none] (rtS rr []) σ' Q)) ∧ ((S67 42 5) ≠ 0 → Q none S67)))) ∧ ((σ 42 5) ≠ 0 → (r3 (σ 42 5)) ∧ ((σ 42 5) = 0 → (0 < d) ∧ AW (d - 1) mX9_number 0 [some (.inr (.inr 42)), some (.inl 1), some (.inl 14), none, none] [] σ (fun rr σ' => AW d mX9_loanIsTold 28 [some (.inr (.inr 42)), some (.inl b), some (.inl (5 * (σ 61 2))), none, none, none, none, none] (rtS rr []) σ' Q)) ∧ ((σ 42 5) ≠ 0 → Q none σ))))) : AW d mX9_loanIsTold 0 [some (.inr (.inr 42)), some (.inl b), none, none, none, none, none, none] [] σ Q := AW.blk kX9_loanIsTold_0 cX9_loanIsTold_0 (⟨(h).1, AW.blk kX9_isFull_0 cX9_isFull_0 (⟨((h).2).1, ⟨fun c72 => AW.blk kX9_isFull_23 cX9_isFull_23 (⟨((((h).2).2).1 c72).1, ⟨fun c64 => AW.blk kX9_isFull_34 cX9_isFull_34 (⟨(by decide), ⟨(by decide), ⟨fun _ => AW.blk kX9_loanIsTold_12 cX9_loanIsTold_12 (⟨⟨(by decide), (by decide)⟩, ⟨((((((h).2).2).1 c72).2).1 c64).1, ((((((h).2).2).1 c72).2).1 c64).2⟩⟩), fun c => absurd c (by decide)⟩⟩⟩), fun c64 => AW.blk kX9_isFull_35 cX9_isFull_35 (⟨(by decide), ⟨(by decide), ⟨fun c => absurd c (by decide), fun _ => (((((h).2).2).1 c72).2).2 c64⟩⟩⟩)⟩⟩), fun c72 => ⟨⟨(by decide), (by decide)⟩, ⟨⟨((((h).2).2).2 c72).1, (by decide)⟩, ⟨fun c71 => AW.blk kX9_isFull_23 cX9_isFull_23 (⟨((((((h).2).2).2 c72).2).1 c71).1, ⟨fun c65 => AW.blk kX9_isFull_34 cX9_isFull_34 (⟨(by decide), ⟨(by decide), ⟨fun _ => AW.blk kX9_loanIsTold_12 cX9_loanIsTold_12 (⟨⟨(by decide), (by decide)⟩, ⟨((((((((h).2).2).2 c72).2).1 c71).2).1 c65).1, ((((((((h).2).2).2 c72).2).1 c71).2).1 c65).2⟩⟩), fun c => absurd c (by decide)⟩⟩⟩), fun c65 => AW.blk kX9_isFull_35 cX9_isFull_35 (⟨(by decide), ⟨(by decide), ⟨fun c => absurd c (by decide), fun _ => (((((((h).2).2).2 c72).2).1 c71).2).2 c65⟩⟩⟩)⟩⟩), fun c71 => ⟨((((((h).2).2).2 c72).2).2 c71).1, AW.blk kX9_fail_0 cX9_fail_0 (⟨(((((((h).2).2).2 c72).2).2 c71).2).1, ⟨fun c70 => AW.blk kX9_fail_8 cX9_fail_8 (⟨(((((((((((h).2).2).2 c72).2).2 c71).2).2).1 c70) _ rfl) _ rfl).1, ⟨fun c68 => AW.blk kX9_isFull_34 cX9_isFull_34 (⟨(by decide), ⟨(by decide), ⟨fun _ => AW.blk kX9_loanIsTold_12 cX9_loanIsTold_12 (⟨⟨(by decide), (by decide)⟩, ⟨(((((((((((((h).2).2).2 c72).2).2 c71).2).2).1 c70) _ rfl) _ rfl).2).1 c68).1, (((((((((((((h).2).2).2 c72).2).2 c71).2).2).1 c70) _ rfl) _ rfl).2).1 c68).2⟩⟩), fun c => absurd c (by decide)⟩⟩⟩), fun c68 => AW.blk kX9_isFull_35 cX9_isFull_35 (⟨(by decide), ⟨(by decide), ⟨fun c => absurd c (by decide), fun _ => ((((((((((((h).2).2).2 c72).2).2 c71).2).2).1 c70) _ rfl) _ rfl).2).2 c68⟩⟩⟩)⟩⟩), fun c70 => ⟨(((((((((h).2).2).2 c72).2).2 c71).2).2).2 c70).1, ⟨fun c69 => AW.blk kX9_isFull_34 cX9_isFull_34 (⟨(by decide), ⟨(by decide), ⟨fun _ => AW.blk kX9_loanIsTold_12 cX9_loanIsTold_12 (⟨⟨(by decide), (by decide)⟩, ⟨(((((((((((h).2).2).2 c72).2).2 c71).2).2).2 c70).2).1 c69).1, (((((((((((h).2).2).2 c72).2).2 c71).2).2).2 c70).2).1 c69).2⟩⟩), fun c => absurd c (by decide)⟩⟩⟩), fun c69 => AW.blk kX9_isFull_35 cX9_isFull_35 (⟨(by decide), ⟨(by decide), ⟨fun c => absurd c (by decide), fun _ => ((((((((((h).2).2).2 c72).2).2 c71).2).2).2 c70).2).2 c69⟩⟩⟩)⟩⟩⟩⟩)⟩⟩⟩⟩⟩⟩)⟩)
def kX9_loanIsTold_28 : List BI := [bi (.istore_n 3) 1 [] 0, bi (.aload_n 0) 1 [] 0, bi (.aload_n 0) 1 [] 0, bi (.getfield 36) 3 [9, 16] 0, bi (.invokevirtual 263) 3 [mX9_asks, 2, 2, 9] 0]
theorem cX9_loanIsTold_28 : chk mX9_loanIsTold 28 kX9_loanIsTold_28 = true := by decide +kernel
theorem uL_28 {d : Nat} {σ : SG} {Q : Option AV → SG → Prop} {b l2 s0 : Int} (h : (0 < d) ∧ AW (d - 1) mX9_asks 0 [some (.inr (.inr 42)), some (.inr (.inr 50))] [] σ (fun rr σ' => AW d mX9_loanIsTold 37 [some (.inr (.inr 42)), some (.inl b), some (.inl l2), some (.inl s0), none, none, none, none] (rtS rr []) σ' Q)) : AW d mX9_loanIsTold 28 [some (.inr (.inr 42)), some (.inl b), some (.inl l2), none, none, none, none, none] [.inl s0] σ Q := AW.blk kX9_loanIsTold_28 cX9_loanIsTold_28 (⟨(h).1, (h).2⟩)
def kX9_loanIsTold_37 : List BI := [bi (.aload_n 0) 1 [] 0, bi (.iload_n 3) 1 [] 0, bi (.iconst 1) 1 [] 0, bi (.invokevirtual 274) 3 [mX9_takenOf, 3, 4, 9] 0]
theorem cX9_loanIsTold_37 : chk mX9_loanIsTold 37 kX9_loanIsTold_37 = true := by decide +kernel
theorem uL_37 {d : Nat} {σ : SG} {Q : Option AV → SG → Prop} {b l2 l3 : Int} (h : (0 < d) ∧ AW (d - 1) mX9_takenOf 0 [some (.inr (.inr 42)), some (.inl l3), some (.inl 1), none] [] σ (fun rr σ' => AW d mX9_loanIsTold 43 [some (.inr (.inr 42)), some (.inl b), some (.inl l2), some (.inl l3), none, none, none, none] (rtS rr []) σ' Q)) : AW d mX9_loanIsTold 37 [some (.inr (.inr 42)), some (.inl b), some (.inl l2), some (.inl l3), none, none, none, none] [] σ Q := AW.blk kX9_loanIsTold_37 cX9_loanIsTold_37 (⟨(h).1, (h).2⟩)
def kX9_loanIsTold_43 : List BI := [bi (.istore 4) 2 [] 0, bi (.aload_n 0) 1 [] 0, bi (.aload_n 0) 1 [] 0, bi (.getfield 51) 3 [9, 21] 0, bi (.invokevirtual 263) 3 [mX9_asks, 2, 2, 9] 0]
theorem cX9_loanIsTold_43 : chk mX9_loanIsTold 43 kX9_loanIsTold_43 = true := by decide +kernel
theorem uL_43 {d : Nat} {σ : SG} {Q : Option AV → SG → Prop} {b l2 l3 s0 : Int} (h : (0 < d) ∧ AW (d - 1) mX9_asks 0 [some (.inr (.inr 42)), some (.inr (.inr 55))] [] σ (fun rr σ' => AW d mX9_loanIsTold 53 [some (.inr (.inr 42)), some (.inl b), some (.inl l2), some (.inl l3), some (.inl s0), none, none, none] (rtS rr []) σ' Q)) : AW d mX9_loanIsTold 43 [some (.inr (.inr 42)), some (.inl b), some (.inl l2), some (.inl l3), none, none, none, none] [.inl s0] σ Q := AW.blk kX9_loanIsTold_43 cX9_loanIsTold_43 (⟨(h).1, (h).2⟩)
def kX9_loanIsTold_53 : List BI := [bi (.aload_n 0) 1 [] 0, bi (.invokevirtual 271) 3 [mX9_towerTold, 1, 4, 9] 0]
theorem cX9_loanIsTold_53 : chk mX9_loanIsTold 53 kX9_loanIsTold_53 = true := by decide +kernel
theorem uL_53 {d : Nat} {σ : SG} {Q : Option AV → SG → Prop} {b l2 l3 l4 : Int} (h : (0 < d) ∧ AW (d - 1) mX9_towerTold 0 [some (.inr (.inr 42)), none, none, none] [] σ (fun rr σ' => AW d mX9_loanIsTold 57 [some (.inr (.inr 42)), some (.inl b), some (.inl l2), some (.inl l3), some (.inl l4), none, none, none] (rtS rr []) σ' Q)) : AW d mX9_loanIsTold 53 [some (.inr (.inr 42)), some (.inl b), some (.inl l2), some (.inl l3), some (.inl l4), none, none, none] [] σ Q := AW.blk kX9_loanIsTold_53 cX9_loanIsTold_53 (⟨(h).1, (h).2⟩)
def kX9_loanIsTold_82 : List BI := [bi (.aload_n 0) 1 [] 0, bi (.aload_n 0) 1 [] 0, bi (.getfield 54) 3 [9, 22] 0, bi (.invokevirtual 263) 3 [mX9_asks, 2, 2, 9] 0]
theorem cX9_loanIsTold_82 : chk mX9_loanIsTold 82 kX9_loanIsTold_82 = true := by decide +kernel
def kX9_loanIsTold_57 : List BI := [bi (.istore 5) 2 [] 0, bi (.aload_n 0) 1 [] 0, bi (.getfield 190) 3 [9, 5] 0, bi (.ifCond .ne (19)) 3 [82] 0, bi (.iload 5) 2 [] 0, bi (.iload 4) 2 [] 0, bi (.if_icmp .ne (12)) 3 [82] 0, bi (.aload_n 0) 1 [] 0, bi (.iconst 3) 1 [] 0, bi (.aload_n 0) 1 [] 0, bi (.getfield 241) 3 [9, 27] 0, bi (.invokevirtual 220) 3 [mX9_fail, 3, 3, 9] 0, bi (.aload_n 0) 1 [] 0, bi (.aload_n 0) 1 [] 0, bi (.getfield 54) 3 [9, 22] 0, bi (.invokevirtual 263) 3 [mX9_asks, 2, 2, 9] 0]
theorem cX9_loanIsTold_57 : chk mX9_loanIsTold 57 kX9_loanIsTold_57 = true := by decide +kernel
theorem uL_57 {d : Nat} {σ : SG} {Q : Option AV → SG → Prop} {b l2 l3 l4 s0 : Int} (h : (r3 (σ 42 5)) ∧ ((σ 42 5) ≠ 0 → (0 < d) ∧ AW (d - 1) mX9_asks 0 [some (.inr (.inr 42)), some (.inr (.inr 56))] [] σ (fun rr σ' => AW d mX9_loanIsTold 90 [some (.inr (.inr 42)), some (.inl b), some (.inl l2), some (.inl l3), some (.inl l4), some (.inl s0), none, none] (rtS rr []) σ' Q)) ∧ ((σ 42 5) = 0 → (r3 s0 ∧ r3 l4) ∧ (s0 ≠ l4 → (0 < d) ∧ AW (d - 1) mX9_asks 0 [some (.inr (.inr 42)), some (.inr (.inr 56))] [] σ (fun rr σ' => AW d mX9_loanIsTold 90 [some (.inr (.inr 42)), some (.inl b), some (.inl l2), some (.inl l3), some (.inl l4), some (.inl s0), none, none] (rtS rr []) σ' Q)) ∧ (s0 = l4 → (0 < d) ∧ (r3 (σ 42 5)) ∧ ((σ 42 5) = 0 → (∀ S73 : SG, S73 = up σ 42 5 3 → (∀ S74 : SG, S74 = up S73 42 6 (σ 42 27) → (0 < d) ∧ AW (d - 1) mX9_asks 0 [some (.inr (.inr 42)), some (.inr (.inr 56))] [] S74 (fun rr σ' => AW d mX9_loanIsTold 90 [some (.inr (.inr 42)), some (.inl b), some (.inl l2), some (.inl l3), some (.inl l4), some (.inl s0), none, none] (rtS rr []) σ' Q)))) ∧ ((σ 42 5) ≠ 0 → (0 < d) ∧ AW (d - 1) mX9_asks 0 [some (.inr (.inr 42)), some (.inr (.inr 56))] [] σ (fun rr σ' => AW d mX9_loanIsTold 90 [some (.inr (.inr 42)), some (.inl b), some (.inl l2), some (.inl l3), some (.inl l4), some (.inl s0), none, none] (rtS rr []) σ' Q))))) : AW d mX9_loanIsTold 57 [some (.inr (.inr 42)), some (.inl b), some (.inl l2), some (.inl l3), some (.inl l4), none, none, none] [.inl s0] σ Q := AW.blk kX9_loanIsTold_57 cX9_loanIsTold_57 (⟨(h).1, ⟨fun c77 => AW.blk kX9_loanIsTold_82 cX9_loanIsTold_82 (⟨(((h).2).1 c77).1, (((h).2).1 c77).2⟩), fun c77 => ⟨⟨((((h).2).2 c77).1).1, ((((h).2).2 c77).1).2⟩, ⟨fun c76 => AW.blk kX9_loanIsTold_82 cX9_loanIsTold_82 (⟨(((((h).2).2 c77).2).1 c76).1, (((((h).2).2 c77).2).1 c76).2⟩), fun c76 => ⟨(((((h).2).2 c77).2).2 c76).1, AW.blk kX9_fail_0 cX9_fail_0 (⟨((((((h).2).2 c77).2).2 c76).2).1, ⟨fun c75 => AW.blk kX9_fail_8 cX9_fail_8 (⟨((((((((((h).2).2 c77).2).2 c76).2).2).1 c75) _ rfl) _ rfl).1, ((((((((((h).2).2 c77).2).2 c76).2).2).1 c75) _ rfl) _ rfl).2⟩), fun c75 => ⟨((((((((h).2).2 c77).2).2 c76).2).2).2 c75).1, ((((((((h).2).2 c77).2).2 c76).2).2).2 c75).2⟩⟩⟩)⟩⟩⟩⟩⟩)
def kX9_loanIsTold_90 : List BI := [bi (.aload_n 0) 1 [] 0, bi (.iconst 1) 1 [] 0, bi (.bipush (99)) 2 [] 0, bi (.invokevirtual 267) 3 [mX9_number, 3, 5, 9] 0]
theorem cX9_loanIsTold_90 : chk mX9_loanIsTold 90 kX9_loanIsTold_90 = true := by decide +kernel
theorem uL_90 {d : Nat} {σ : SG} {Q : Option AV → SG → Prop} {b l2 l3 l4 l5 : Int} (h : (0 < d) ∧ AW (d - 1) mX9_number 0 [some (.inr (.inr 42)), some (.inl 1), some (.inl 99), none, none] [] σ (fun rr σ' => AW d mX9_loanIsTold 97 [some (.inr (.inr 42)), some (.inl b), some (.inl l2), some (.inl l3), some (.inl l4), some (.inl l5), none, none] (rtS rr []) σ' Q)) : AW d mX9_loanIsTold 90 [some (.inr (.inr 42)), some (.inl b), some (.inl l2), some (.inl l3), some (.inl l4), some (.inl l5), none, none] [] σ Q := AW.blk kX9_loanIsTold_90 cX9_loanIsTold_90 (⟨(h).1, (h).2⟩)
def kX9_loanIsTold_97 : List BI := [bi (.istore 6) 2 [] 0, bi (.aload_n 0) 1 [] 0, bi (.aload_n 0) 1 [] 0, bi (.getfield 57) 3 [9, 23] 0, bi (.invokevirtual 263) 3 [mX9_asks, 2, 2, 9] 0]
theorem cX9_loanIsTold_97 : chk mX9_loanIsTold 97 kX9_loanIsTold_97 = true := by decide +kernel
theorem uL_97 {d : Nat} {σ : SG} {Q : Option AV → SG → Prop} {b l2 l3 l4 l5 s0 : Int} (h : (0 < d) ∧ AW (d - 1) mX9_asks 0 [some (.inr (.inr 42)), some (.inr (.inr 57))] [] σ (fun rr σ' => AW d mX9_loanIsTold 107 [some (.inr (.inr 42)), some (.inl b), some (.inl l2), some (.inl l3), some (.inl l4), some (.inl l5), some (.inl s0), none] (rtS rr []) σ' Q)) : AW d mX9_loanIsTold 97 [some (.inr (.inr 42)), some (.inl b), some (.inl l2), some (.inl l3), some (.inl l4), some (.inl l5), none, none] [.inl s0] σ Q := AW.blk kX9_loanIsTold_97 cX9_loanIsTold_97 (⟨(h).1, (h).2⟩)
def kX9_loanIsTold_107 : List BI := [bi (.aload_n 0) 1 [] 0, bi (.iconst 0) 1 [] 0, bi (.bipush (99)) 2 [] 0, bi (.invokevirtual 267) 3 [mX9_number, 3, 5, 9] 0]
theorem cX9_loanIsTold_107 : chk mX9_loanIsTold 107 kX9_loanIsTold_107 = true := by decide +kernel
theorem uL_107 {d : Nat} {σ : SG} {Q : Option AV → SG → Prop} {b l2 l3 l4 l5 l6 : Int} (h : (0 < d) ∧ AW (d - 1) mX9_number 0 [some (.inr (.inr 42)), some (.inl 0), some (.inl 99), none, none] [] σ (fun rr σ' => AW d mX9_loanIsTold 114 [some (.inr (.inr 42)), some (.inl b), some (.inl l2), some (.inl l3), some (.inl l4), some (.inl l5), some (.inl l6), none] (rtS rr []) σ' Q)) : AW d mX9_loanIsTold 107 [some (.inr (.inr 42)), some (.inl b), some (.inl l2), some (.inl l3), some (.inl l4), some (.inl l5), some (.inl l6), none] [] σ Q := AW.blk kX9_loanIsTold_107 cX9_loanIsTold_107 (⟨(h).1, (h).2⟩)
def kX9_loanIsTold_124 : List BI := [bi (.aload_n 0) 1 [] 0, bi (.getfield 85) 3 [9, 33] 0, bi (.bipush (14)) 2 [] 0, bi (.iload 4) 2 [] 0, bi (.imul) 1 [] 0, bi (.iload_n 3) 1 [] 0, bi (.iadd) 1 [] 0, bi (.iconst 1) 1 [] 0, bi (.isub) 1 [] 0, bi (.iconst 2) 1 [] 0, bi (.iastore) 1 [] 0, bi (.aload_n 0) 1 [] 0, bi (.getfield 88) 3 [9, 34] 0, bi (.iload_n 2) 1 [] 0, bi (.iload 4) 2 [] 0, bi (.iastore) 1 [] 0, bi (.aload_n 0) 1 [] 0, bi (.getfield 88) 3 [9, 34] 0, bi (.iload_n 2) 1 [] 0, bi (.iconst 1) 1 [] 0, bi (.iadd) 1 [] 0, bi (.iload_n 3) 1 [] 0, bi (.iastore) 1 [] 0, bi (.aload_n 0) 1 [] 0, bi (.getfield 88) 3 [9, 34] 0, bi (.iload_n 2) 1 [] 0, bi (.iconst 2) 1 [] 0, bi (.iadd) 1 [] 0, bi (.iload 5) 2 [] 0, bi (.iastore) 1 [] 0, bi (.aload_n 0) 1 [] 0, bi (.getfield 88) 3 [9, 34] 0, bi (.iload_n 2) 1 [] 0, bi (.iconst 3) 1 [] 0, bi (.iadd) 1 [] 0, bi (.iload 6) 2 [] 0, bi (.iastore) 1 [] 0, bi (.aload_n 0) 1 [] 0, bi (.getfield 88) 3 [9, 34] 0, bi (.iload_n 2) 1 [] 0, bi (.iconst 4) 1 [] 0, bi (.iadd) 1 [] 0, bi (.iload 7) 2 [] 0, bi (.iastore) 1 [] 0, bi (.aload_n 0) 1 [] 0, bi (.getfield 69) 3 [9, 28] 0, bi (.iconst 2) 1 [] 0, bi (.dup2) 1 [] 0, bi (.iaload) 1 [] 0, bi (.iconst 1) 1 [] 0, bi (.iadd) 1 [] 0, bi (.iastore) 1 [] 0, bi (.return_) 1 [] 0]
theorem cX9_loanIsTold_124 : chk mX9_loanIsTold 124 kX9_loanIsTold_124 = true := by decide +kernel
def kX9_loanIsTold_114 : List BI := [bi (.istore 7) 2 [] 0, bi (.aload_n 0) 1 [] 0, bi (.getfield 190) 3 [9, 5] 0, bi (.ifCond .eq (4)) 3 [124] 0, bi (.return_) 1 [] 0]
theorem cX9_loanIsTold_114 : chk mX9_loanIsTold 114 kX9_loanIsTold_114 = true := by decide +kernel
theorem uL_114 {d : Nat} {σ : SG} {Q : Option AV → SG → Prop} {b l2 l3 l4 l5 l6 s0 : Int} (h : (r3 (σ 42 5)) ∧ ((σ 42 5) = 0 → (0 ≤ (((14 * l4) + l3) - 1) ∧ (((14 * l4) + l3) - 1) < 56) ∧ (∀ S78 : SG, S78 = up σ 66 (((14 * l4) + l3) - 1) 2 → (0 ≤ l2 ∧ l2 < 60) ∧ (∀ S79 : SG, S79 = up S78 67 l2 l4 → (0 ≤ (l2 + 1) ∧ (l2 + 1) < 60) ∧ (∀ S80 : SG, S80 = up S79 67 (l2 + 1) l3 → (0 ≤ (l2 + 2) ∧ (l2 + 2) < 60) ∧ (∀ S81 : SG, S81 = up S80 67 (l2 + 2) l5 → (0 ≤ (l2 + 3) ∧ (l2 + 3) < 60) ∧ (∀ S82 : SG, S82 = up S81 67 (l2 + 3) l6 → (0 ≤ (l2 + 4) ∧ (l2 + 4) < 60) ∧ (∀ S83 : SG, S83 = up S82 67 (l2 + 4) s0 → (∀ S84 : SG, S84 = up S83 61 2 ((S83 61 2) + 1) → Q none S84)))))))) ∧ ((σ 42 5) ≠ 0 → Q none σ)) : AW d mX9_loanIsTold 114 [some (.inr (.inr 42)), some (.inl b), some (.inl l2), some (.inl l3), some (.inl l4), some (.inl l5), some (.inl l6), none] [.inl s0] σ Q := AW.blk kX9_loanIsTold_114 cX9_loanIsTold_114 (⟨(h).1, ⟨fun c85 => AW.blk kX9_loanIsTold_124 cX9_loanIsTold_124 (⟨⟨((((h).2).1 c85).1).1, ((((h).2).1 c85).1).2⟩, ⟨⟨((((((h).2).1 c85).2) _ rfl).1).1, ((((((h).2).1 c85).2) _ rfl).1).2⟩, ⟨⟨((((((((h).2).1 c85).2) _ rfl).2) _ rfl).1).1, ((((((((h).2).1 c85).2) _ rfl).2) _ rfl).1).2⟩, ⟨⟨((((((((((h).2).1 c85).2) _ rfl).2) _ rfl).2) _ rfl).1).1, ((((((((((h).2).1 c85).2) _ rfl).2) _ rfl).2) _ rfl).1).2⟩, ⟨⟨((((((((((((h).2).1 c85).2) _ rfl).2) _ rfl).2) _ rfl).2) _ rfl).1).1, ((((((((((((h).2).1 c85).2) _ rfl).2) _ rfl).2) _ rfl).2) _ rfl).1).2⟩, ⟨⟨((((((((((((((h).2).1 c85).2) _ rfl).2) _ rfl).2) _ rfl).2) _ rfl).2) _ rfl).1).1, ((((((((((((((h).2).1 c85).2) _ rfl).2) _ rfl).2) _ rfl).2) _ rfl).2) _ rfl).1).2⟩, ⟨⟨(by decide), (by decide)⟩, ⟨⟨(by decide), (by decide)⟩, (((((((((((((((h).2).1 c85).2) _ rfl).2) _ rfl).2) _ rfl).2) _ rfl).2) _ rfl).2) _ rfl) _ rfl⟩⟩⟩⟩⟩⟩⟩⟩), fun c85 => ((h).2).2 c85⟩⟩)
def kX9_enemyTold_0 : List BI := [bi (.aload_n 0) 1 [] 0, bi (.iconst 1) 1 [] 0, bi (.bipush (6)) 2 [] 0, bi (.invokevirtual 267) 3 [mX9_number, 3, 5, 9] 0]
theorem cX9_enemyTold_0 : chk mX9_enemyTold 0 kX9_enemyTold_0 = true := by decide +kernel
theorem uE_0 {d : Nat} {σ : SG} {Q : Option AV → SG → Prop} (h : (0 < d) ∧ AW (d - 1) mX9_number 0 [some (.inr (.inr 42)), some (.inl 1), some (.inl 6), none, none] [] σ (fun rr σ' => AW d mX9_enemyTold 7 [some (.inr (.inr 42)), none, none] (rtS rr []) σ' Q)) : AW d mX9_enemyTold 0 [some (.inr (.inr 42)), none, none] [] σ Q := AW.blk kX9_enemyTold_0 cX9_enemyTold_0 (⟨(h).1, (h).2⟩)
def kX9_enemyTold_33 : List BI := [bi (.aload_n 0) 1 [] 0, bi (.aload_n 0) 1 [] 0, bi (.getfield 66) 3 [9, 26] 0, bi (.invokevirtual 263) 3 [mX9_asks, 2, 2, 9] 0]
theorem cX9_enemyTold_33 : chk mX9_enemyTold 33 kX9_enemyTold_33 = true := by decide +kernel
def kX9_enemyTold_7 : List BI := [bi (.istore_n 1) 1 [] 0, bi (.aload_n 0) 1 [] 0, bi (.getfield 190) 3 [9, 5] 0, bi (.ifCond .ne (21)) 3 [33] 0, bi (.aload_n 0) 1 [] 0, bi (.getfield 82) 3 [9, 32] 0, bi (.iload_n 1) 1 [] 0, bi (.iaload) 1 [] 0, bi (.ifCond .le (12)) 3 [33] 0, bi (.aload_n 0) 1 [] 0, bi (.iconst 2) 1 [] 0, bi (.aload_n 0) 1 [] 0, bi (.getfield 230) 3 [9, 10] 0, bi (.invokevirtual 220) 3 [mX9_fail, 3, 3, 9] 0, bi (.aload_n 0) 1 [] 0, bi (.aload_n 0) 1 [] 0, bi (.getfield 66) 3 [9, 26] 0, bi (.invokevirtual 263) 3 [mX9_asks, 2, 2, 9] 0]
theorem cX9_enemyTold_7 : chk mX9_enemyTold 7 kX9_enemyTold_7 = true := by decide +kernel
theorem uE_7 {d : Nat} {σ : SG} {Q : Option AV → SG → Prop} {s0 : Int} (h : (r3 (σ 42 5)) ∧ ((σ 42 5) ≠ 0 → (0 < d) ∧ AW (d - 1) mX9_asks 0 [some (.inr (.inr 42)), some (.inr (.inr 60))] [] σ (fun rr σ' => AW d mX9_enemyTold 41 [some (.inr (.inr 42)), some (.inl s0), none] (rtS rr []) σ' Q)) ∧ ((σ 42 5) = 0 → (0 ≤ s0 ∧ s0 < 14) ∧ (r3 (σ 65 s0)) ∧ ((σ 65 s0) ≤ 0 → (0 < d) ∧ AW (d - 1) mX9_asks 0 [some (.inr (.inr 42)), some (.inr (.inr 60))] [] σ (fun rr σ' => AW d mX9_enemyTold 41 [some (.inr (.inr 42)), some (.inl s0), none] (rtS rr []) σ' Q)) ∧ (0 < (σ 65 s0) → (0 < d) ∧ (r3 (σ 42 5)) ∧ ((σ 42 5) = 0 → (∀ S86 : SG, S86 = up σ 42 5 2 → (∀ S87 : SG, S87 = up S86 42 6 (σ 42 10) → (0 < d) ∧ AW (d - 1) mX9_asks 0 [some (.inr (.inr 42)), some (.inr (.inr 60))] [] S87 (fun rr σ' => AW d mX9_enemyTold 41 [some (.inr (.inr 42)), some (.inl s0), none] (rtS rr []) σ' Q)))) ∧ ((σ 42 5) ≠ 0 → (0 < d) ∧ AW (d - 1) mX9_asks 0 [some (.inr (.inr 42)), some (.inr (.inr 60))] [] σ (fun rr σ' => AW d mX9_enemyTold 41 [some (.inr (.inr 42)), some (.inl s0), none] (rtS rr []) σ' Q))))) : AW d mX9_enemyTold 7 [some (.inr (.inr 42)), none, none] [.inl s0] σ Q := AW.blk kX9_enemyTold_7 cX9_enemyTold_7 (⟨(h).1, ⟨fun c90 => AW.blk kX9_enemyTold_33 cX9_enemyTold_33 (⟨(((h).2).1 c90).1, (((h).2).1 c90).2⟩), fun c90 => ⟨⟨((((h).2).2 c90).1).1, ((((h).2).2 c90).1).2⟩, ⟨((((h).2).2 c90).2).1, ⟨fun c89 => AW.blk kX9_enemyTold_33 cX9_enemyTold_33 (⟨((((((h).2).2 c90).2).2).1 c89).1, ((((((h).2).2 c90).2).2).1 c89).2⟩), fun c89 => ⟨((((((h).2).2 c90).2).2).2 c89).1, AW.blk kX9_fail_0 cX9_fail_0 (⟨(((((((h).2).2 c90).2).2).2 c89).2).1, ⟨fun c88 => AW.blk kX9_fail_8 cX9_fail_8 (⟨(((((((((((h).2).2 c90).2).2).2 c89).2).2).1 c88) _ rfl) _ rfl).1, (((((((((((h).2).2 c90).2).2).2 c89).2).2).1 c88) _ rfl) _ rfl).2⟩), fun c88 => ⟨(((((((((h).2).2 c90).2).2).2 c89).2).2).2 c88).1, (((((((((h).2).2 c90).2).2).2 c89).2).2).2 c88).2⟩⟩⟩)⟩⟩⟩⟩⟩⟩)
def kX9_enemyTold_41 : List BI := [bi (.aload_n 0) 1 [] 0, bi (.iconst 1) 1 [] 0, bi (.bipush (99)) 2 [] 0, bi (.invokevirtual 267) 3 [mX9_number, 3, 5, 9] 0]
theorem cX9_enemyTold_41 : chk mX9_enemyTold 41 kX9_enemyTold_41 = true := by decide +kernel
theorem uE_41 {d : Nat} {σ : SG} {Q : Option AV → SG → Prop} {l1 : Int} (h : (0 < d) ∧ AW (d - 1) mX9_number 0 [some (.inr (.inr 42)), some (.inl 1), some (.inl 99), none, none] [] σ (fun rr σ' => AW d mX9_enemyTold 48 [some (.inr (.inr 42)), some (.inl l1), none] (rtS rr []) σ' Q)) : AW d mX9_enemyTold 41 [some (.inr (.inr 42)), some (.inl l1), none] [] σ Q := AW.blk kX9_enemyTold_41 cX9_enemyTold_41 (⟨(h).1, (h).2⟩)
def kX9_enemyTold_63 : List BI := [bi (.return_) 1 [] 0]
theorem cX9_enemyTold_63 : chk mX9_enemyTold 63 kX9_enemyTold_63 = true := by decide +kernel
def kX9_enemyTold_48 : List BI := [bi (.istore_n 2) 1 [] 0, bi (.aload_n 0) 1 [] 0, bi (.getfield 190) 3 [9, 5] 0, bi (.ifCond .ne (10)) 3 [63] 0, bi (.aload_n 0) 1 [] 0, bi (.getfield 82) 3 [9, 32] 0, bi (.iload_n 1) 1 [] 0, bi (.iload_n 2) 1 [] 0, bi (.iastore) 1 [] 0, bi (.return_) 1 [] 0]
theorem cX9_enemyTold_48 : chk mX9_enemyTold 48 kX9_enemyTold_48 = true := by decide +kernel
theorem uE_48 {d : Nat} {σ : SG} {Q : Option AV → SG → Prop} {l1 s0 : Int} (h : (r3 (σ 42 5)) ∧ ((σ 42 5) ≠ 0 → Q none σ) ∧ ((σ 42 5) = 0 → (0 ≤ l1 ∧ l1 < 14) ∧ (∀ S91 : SG, S91 = up σ 65 l1 s0 → Q none S91))) : AW d mX9_enemyTold 48 [some (.inr (.inr 42)), some (.inl l1), none] [.inl s0] σ Q := AW.blk kX9_enemyTold_48 cX9_enemyTold_48 (⟨(h).1, ⟨fun c92 => AW.blk kX9_enemyTold_63 cX9_enemyTold_63 (((h).2).1 c92), fun c92 => ⟨⟨((((h).2).2 c92).1).1, ((((h).2).2 c92).1).2⟩, ((((h).2).2 c92).2) _ rfl⟩⟩⟩)
/-! the reference's first halves against what the class has been told -/
def PRl (ρ σ : SG) : Prop := (σ 61 0 = ρ 0 0 ∧ σ 61 1 = ρ 0 1 ∧ σ 61 2 = ρ 0 3 ∧ σ 61 3 = ρ 0 2) ∧ (∀ t, 0 ≤ t → t < ρ 0 0 → NM (fun k => ρ 1 (t * 6 + k)) (σ 62 t)) ∧ (∀ g, 0 ≤ g → g < ρ 0 1 → NM (fun k => ρ 1 ((4 + g) * 6 + k)) (σ 62 (8 + g))) ∧ (∀ t, 0 ≤ t → t < ρ 0 0 → σ 63 (2 * t) = ρ 2 t ∧ σ 63 (2 * t + 1) = ρ 3 t) ∧ (∀ g, 0 ≤ g → g < ρ 0 1 → σ 64 (3 * g) = ρ 6 g ∧ σ 64 (3 * g + 1) = ρ 7 g ∧ σ 64 (3 * g + 2) = ρ 8 g) ∧ (∀ k, 0 ≤ k → k ≤ 6 → σ 65 k = ρ 9 k) ∧ (∀ t, 0 ≤ t → t < ρ 0 0 → ∀ i : Nat, i < 14 → σ 66 (14 * t + (i : Int)) = if tb (ρ 4 t) i = true then 1 else if tb (ρ 5 t) i = true then 2 else 0) ∧ (∀ k, 0 ≤ k → k < ρ 0 3 * 5 → σ 67 k = ρ 10 k) ∧ σ 68 0 = ρ 0 4
def MSf (σ σ' : SG) : Prop := (∀ p, p ≠ 42 → ¬ (61 ≤ p ∧ p ≤ 68) → σ' p = σ p) ∧ (∀ i, i ≠ 2 → i ≠ 4 → i ≠ 5 → i ≠ 6 → i ≠ 10 → i ≠ 27 → σ' 42 i = σ 42 i) ∧ (∀ i, 4 ≤ i → σ' 61 i = σ 61 i) ∧ (∀ i, 16 ≤ i → σ' 62 i = σ 62 i) ∧ (∀ i, 8 ≤ i → σ' 63 i = σ 63 i) ∧ (∀ i, 24 ≤ i → σ' 64 i = σ 64 i) ∧ (∀ i, 7 ≤ i → σ' 65 i = σ 65 i) ∧ σ' 68 1 = σ 68 1
theorem MSf.of {σ σ' : SG} (h : MFr σ σ') : MSf σ σ' := by
  refine ⟨fun p a _ => h.1 p a, fun i a b c d e f => h.2 i a b c d e f, fun i _ => ?_, fun i _ => ?_, fun i _ => ?_, fun i _ => ?_, fun i _ => ?_, ?_⟩ <;> rw [h.1 _ (by decide)]
theorem MSf.tr {σ σ' σ'' : SG} (h : MSf σ σ') (k : MSf σ' σ'') : MSf σ σ'' := by
  obtain ⟨a1, a2, a3, a4, a5, a6, a7, a8⟩ := h
  obtain ⟨b1, b2, b3, b4, b5, b6, b7, b8⟩ := k
  exact ⟨fun p x y => (b1 p x y).trans (a1 p x y), fun i x1 x2 x3 x4 x5 x6 => (b2 i x1 x2 x3 x4 x5 x6).trans (a2 i x1 x2 x3 x4 x5 x6), fun i x => (b3 i x).trans (a3 i x), fun i x => (b4 i x).trans (a4 i x), fun i x => (b5 i x).trans (a5 i x), fun i x => (b6 i x).trans (a6 i x), fun i x => (b7 i x).trans (a7 i x), b8.trans a8⟩
theorem MSf.rf (σ : SG) : MSf σ σ := MSf.of (MFr.rf σ)
theorem MSf.up {σ σ' : SG} (h : MSf σ σ') {p : Nat} {i v : Int} (hp : (p = 61 ∧ i < 4) ∨ (p = 62 ∧ i < 16) ∨ (p = 63 ∧ i < 8) ∨ (p = 64 ∧ i < 24) ∨ (p = 65 ∧ i < 7) ∨ p = 66 ∨ p = 67 ∨ (p = 68 ∧ i = 0)) : MSf σ (up σ' p i v) := by
  refine h.tr ⟨fun q a b => up_pf (by omega), fun j a b c d e f => ?_, fun j hj => ?_, fun j hj => ?_, fun j hj => ?_, fun j hj => ?_, fun j hj => ?_, ?_⟩
  · exact up_p (by omega)
  · by_cases c : p = 61
    · rw [c, up_i (by omega)]
    · exact up_p (Ne.symm c)
  · by_cases c : p = 62
    · rw [c, up_i (by omega)]
    · exact up_p (Ne.symm c)
  · by_cases c : p = 63
    · rw [c, up_i (by omega)]
    · exact up_p (Ne.symm c)
  · by_cases c : p = 64
    · rw [c, up_i (by omega)]
    · exact up_p (Ne.symm c)
  · by_cases c : p = 65
    · rw [c, up_i (by omega)]
    · exact up_p (Ne.symm c)
  · by_cases c : p = 68
    · rw [c, up_i (by omega)]
    · exact up_p (Ne.symm c)
theorem MSf.pf {σ σ' : SG} (h : MSf σ σ') {p : Nat} {f : Int → Int} (hp : p = 66 ∨ p = 67) : MSf σ (putF σ' p f) := by
  refine h.tr ⟨fun q a b => putF_ne (by omega), fun j a b c d e f => ?_, fun j hj => ?_, fun j hj => ?_, fun j hj => ?_, fun j hj => ?_, fun j hj => ?_, ?_⟩ <;> rw [putF_ne (by omega)]
theorem RTp.pl {o : Int → Int} {L : Int} {X : PXv} {σ σ' : SG} (h : RTp o L X σ) (e42 : ∀ i, i ≠ 36 → σ' 42 i = σ 42 i) (e : ∀ p, p = 43 ∨ WP p → σ' p = σ p) : RTp o L X σ' := by
  obtain ⟨⟨a, b, c, f, g⟩, h2⟩ := h
  refine ⟨⟨fun i x y => by rw [e 43 (Or.inl rfl)]; exact a i x y, by rw [e42 3 (by decide)]; exact b, c, f, g.cong (fun p hp => e p (Or.inr hp))⟩, ?_⟩
  rcases X with z | z
  · show σ' 42 5 = _ ∧ σ' 42 6 = _ ∧ _
    rw [e42 5 (by decide), e42 6 (by decide)]
    exact h2
  · show (σ' 42 5 = 0 ∧ σ' 42 6 = -1) ∧ (z.2.1 ≤ σ' 42 2 ∧ σ' 42 2 ≤ L ∧ sk o L (σ' 42 2) = sk o L z.2.1) ∧ 0 ≤ z.2.1 ∧ (-1 ≤ σ' 42 4 ∧ σ' 42 4 ≤ z.2.1) ∧ ∀ s, z.2.1 ≤ s → (s = σ' 42 4 ↔ s = z.2.2)
    rw [e42 5 (by decide), e42 6 (by decide), e42 2 (by decide), e42 4 (by decide)]
    exact h2
theorem RTp.up {o : Int → Int} {L : Int} {X : PXv} {σ : SG} (h : RTp o L X σ) {p : Nat} {i v : Int} (hp : 61 ≤ p ∧ p ≤ 68) : RTp o L X (up σ p i v) := h.pl (fun _ _ => up_p (by omega)) (fun q hq => up_pf (by unfold WP at hq; omega))
theorem RTp.pf {o : Int → Int} {L : Int} {X : PXv} {σ : SG} (h : RTp o L X σ) {p : Nat} {f : Int → Int} (hp : 61 ≤ p ∧ p ≤ 68) : RTp o L X (putF σ p f) := h.pl (fun _ _ => by rw [putF_ne (by omega)]) (fun q hq => putF_ne (by unfold WP at hq; omega))
theorem PRl.fr {ρ σ σ' : SG} (h : PRl ρ σ) (e : ∀ p, 61 ≤ p → p ≤ 68 → σ' p = σ p) : PRl ρ σ' := by
  unfold PRl
  rw [e 61 (by decide) (by decide), e 62 (by decide) (by decide), e 63 (by decide) (by decide), e 64 (by decide) (by decide), e 65 (by decide) (by decide), e 66 (by decide) (by decide), e 67 (by decide) (by decide), e 68 (by decide) (by decide)]
  exact h
theorem PRl.mf {ρ σ σ' : SG} (h : PRl ρ σ) (k : MFr σ σ') : PRl ρ σ' := h.fr (fun p a b => k.1 p (by omega))
theorem PRl.nr {ρ σ : SG} (h : PRl ρ σ) (hO : ROk ρ) : NRl (ρ 1) (ρ 0 0) (ρ 0 1) σ := ⟨⟨h.1.1, hO.1.1⟩, ⟨h.1.2.1, hO.1.2.1⟩, h.2.1, h.2.2.1⟩
def MSp (o : Int → Int) (L : Int) (X : SRv) (σ : SG) : Prop := match X with
  | .inl z => RTp o L (.inl z) σ
  | .inr z => RTp o L (.inr (0, z.2.1, z.2.2)) σ ∧ PRl z.1 σ ∧ ROk z.1
theorem pxb_r {X : PXv} {f : Int → Int → PXv} {z : Int × Int × Int} (h : pxb X f = .inr z) : ∃ y, X = .inr y ∧ f y.2.1 y.2.2 = .inr z := by
  rcases X with y | y
  · cases h
  · exact ⟨y, rfl, h⟩
theorem NM_cong {a b : Int → Int} {v : Int} (h : NM a v) (e : ∀ k : Nat, k < 6 → b (k : Int) = a (k : Int)) : NM b v := by
  have e' : ∀ k, 0 ≤ k → k < 6 → b k = a k := fun k k0 k1 => by
    have := e k.toNat (by omega)
    rwa [show ((k.toNat : Nat) : Int) = k by omega] at this
  obtain ⟨m, m0, ma, mz, mv⟩ := h
  refine ⟨m, m0, fun k k0 k1 => by rw [e' k k0 (by omega)]; exact ma k k0 k1, fun k k0 k1 => by rw [e' k (by omega) k1]; exact mz k k0 k1, ?_⟩
  rw [mv]
  apply foI_cong
  intro i x i0 i1
  rw [e' i i0 (by omega)]
theorem rt0 {o : Int → Int} {L : Int} {z : Int × Int × Int} {σ : SG} (h : RTp o L (.inr z) σ) : σ 42 5 = 0 := h.2.1.1
theorem rt1 {o : Int → Int} {L : Int} {z : Int × Int} {σ : SG} (h : RTp o L (.inl z) σ) : 1 ≤ σ 42 5 ∧ σ 42 5 ≤ 5 := by
  have h2 : σ 42 5 = z.1 ∧ σ 42 6 = z.2 ∧ (1 ≤ z.1 ∧ z.1 ≤ 5) := h.2
  omega
theorem PRl.tw {o : Int → Int} {L : Int} {ρ σ T : SG} {s hh n : Int} (h : PRl ρ σ) (hO : ROk ρ) (e61 : T 61 = upf (σ 61) 0 (ρ 0 0 + 1)) (e62 : T 62 = upf (σ 62) (ρ 0 0) n) (e63 : T 63 = upf (upf (σ 63) (2 * ρ 0 0) hh) (2 * ρ 0 0 + 1) 1) (e64 : T 64 = σ 64) (e65 : T 65 = σ 65) (e66 : ∀ j, T 66 j = if 14 * ρ 0 0 ≤ j ∧ j < 14 * ρ 0 0 + 14 then 0 else σ 66 j) (e67 : T 67 = σ 67) (e68 : T 68 = σ 68) (h4 : ρ 0 0 < 4) (hn : NM (fun k => ltH o s (te o L s) k) n) : PRl (rTw o L ρ s hh) T := by
  obtain ⟨⟨a0, a1, a2, a3⟩, b1, b2, b3, b4, b5, b6, b7, b8⟩ := h
  have hO1 := hO.1
  obtain ⟨r0, r1, r2, r3', r4, r5, r6⟩ := @rTw_e o L ρ s hh
  have z0 : rTw o L ρ s hh 0 0 = ρ 0 0 + 1 := by rw [r0, upf_at]
  have z1 : ∀ i, i ≠ 0 → rTw o L ρ s hh 0 i = ρ 0 i := fun i hi => by rw [r0, upf_ne hi]
  unfold PRl
  rw [e61, e62, e63, e64, e65, e67, e68, z0, z1 1 (by decide), z1 2 (by decide), z1 3 (by decide), z1 4 (by decide), r1, r2, r3', r4, r5, r6 6 (by decide), r6 7 (by decide), r6 8 (by decide), r6 9 (by decide), r6 10 (by decide)]
  refine ⟨⟨upf_at .., by rw [upf_ne (by decide)]; exact a1, by rw [upf_ne (by decide)]; exact a2, by rw [upf_ne (by decide)]; exact a3⟩, fun t t0 t1 => ?_, fun g g0 g1 => ?_, fun t t0 t1 => ?_, b4, b5, fun t t0 t1 i hi => ?_, b7, b8⟩
  · by_cases c : t = ρ 0 0
    · rw [c, upf_at]
      exact NM_cong hn (fun k hk => nmW_in hk)
    · rw [upf_ne c]
      exact NM_cong (b1 t t0 (by omega)) (fun k hk => nmW_out hk c)
  · rw [upf_ne (by omega)]
    exact NM_cong (b2 g g0 g1) (fun k hk => nmW_out hk (by omega))
  · by_cases c : t = ρ 0 0
    · rw [c, upf_ne (by omega), upf_at, upf_at, upf_at, upf_at]
      exact ⟨rfl, rfl⟩
    · have q1 : upf (upf (σ 63) (2 * ρ 0 0) hh) (2 * ρ 0 0 + 1) 1 (2 * t) = σ 63 (2 * t) := by rw [upf_ne (by omega), upf_ne (by omega)]
      have q2 : upf (upf (σ 63) (2 * ρ 0 0) hh) (2 * ρ 0 0 + 1) 1 (2 * t + 1) = σ 63 (2 * t + 1) := by rw [upf_ne (by omega), upf_ne (by omega)]
      rw [q1, q2, upf_ne c, upf_ne c]
      exact b3 t t0 (by omega)
  · rw [e66]
    by_cases c : t = ρ 0 0
    · rw [c, if_pos (by omega), upf_at, upf_at, tb_zero, if_neg (by decide), if_neg (by decide)]
    · rw [if_neg (by omega), upf_ne c, upf_ne c]
      exact b6 t t0 (by omega) i hi
theorem mtower {d : Nat} {o : Int → Int} {L v p e b : Int} {ρ σ : SG} {Q : Option AV → SG → Prop} (hP : PRl ρ σ) (hO : ROk ρ) (hd : 20 ≤ d) (h : RTp o L (.inr (v, p, e)) σ) (hq : ∀ σ', MSf σ σ' → MSp o L (if 4 ≤ ρ 0 0 then .inl (5, b) else stTw o L ρ p e) σ' → Q none σ') : AW d mX9_newTower 0 [some (.inr (.inr 42)), some (.inl b), none, none, none, none, none] [] σ Q := by
  have hO1 := hO.1
  have h5 := rt0 h
  have e61 := hP.1.1
  have hp := h.f.2.2
  have hLo := h.f.1.2.2
  by_cases c4 : 4 ≤ ρ 0 0
  · rw [if_pos c4] at hq
    refine uT_0 ⟨by omega, by omega, fun z => absurd h5 z, fun _ => ⟨by omega, fun z => by omega, fun _ => ⟨by omega, by omega, fun _ S1 e1 S2 e2 => ?_, fun z => absurd h5 z⟩⟩⟩
    have hf := mfail (k := 5) (pl := b) h (by decide)
    have y5 : up (up σ 42 5 5) 42 6 b 42 5 = 5 := by rw [up_i (by decide), up_at]
    rw [e2, e1, y5]
    exact ⟨by decide, fun z => absurd z (by decide), fun _ => hq _ (MSf.of hf.2) hf.1⟩
  · rw [if_neg c4] at hq
    refine uT_0 ⟨by omega, by omega, fun z => absurd h5 z, fun _ => ⟨by omega, fun _ => ⟨by omega, fun _ => ⟨by omega, ?_⟩, fun z => absurd h5 z⟩, fun z => by omega⟩⟩
    rw [e61]
    refine mnewW (hP.nr hO) (by omega) h (fun S1 n1 hM1 hR1 hn hz => ?_)
    refine uT_22 ⟨by omega, masksW (w := 46) (Or.inl (by decide)) (by omega) hR1 (fun S2 hM2 hR2 => ?_)⟩
    refine uT_31 ⟨by omega, mnumW (by decide) (by decide) (by omega) hR2 (fun S3 v3 hM3 hR3 hv3 hz3 => ?_)⟩
    have hM := (hM1.tr hM2).tr hM3
    rcases hX : pxb (pxb (pxA o L (ρ 1) (ρ 0 0) (ρ 0 1) p e) (pxW o L (WC 46))) (pxN o L 3 14) with z | ⟨w, p3, e3⟩
    · have hR3' : RTp o L (.inl z) S3 := by rw [← hX]; exact hR3
      have hb := rt1 hR3'
      exact uT_38 ⟨by omega, fun c => by omega, fun _ => hq S3 (MSf.of hM) (by unfold stTw; rw [hX]; exact hR3')⟩
    · have hR3' : RTp o L (.inr (w, p3, e3)) S3 := by rw [← hX]; exact hR3
      obtain ⟨⟨v2, p2, e2⟩, hX2, hX3⟩ := pxb_r hX
      obtain ⟨⟨s1, p1, e1⟩, hX1, _⟩ := pxb_r hX2
      have hv : v3 = w := (hz3 _ _ hX2 hX).1
      have hn1 := hz _ hX1
      have hA := pxA_r hX1 ⟨hp.2.1, by omega⟩
      have hw := pxN_r hX3
      dsimp only at hn1 hA hw
      rw [hA.1] at hn1
      subst hv
      have h53 := rt0 hR3'
      refine uT_38 ⟨by omega, fun _ => ⟨by omega, fun T1 f1 => ⟨by omega, fun T2 f2 => ⟨by omega, fun T3 f3 => ?_⟩⟩⟩, fun z => absurd h53 z⟩
      have t66 : T3 66 = S3 66 := by rw [f3, up_pf (by decide), f2, up_pf (by decide), f1, up_pf (by decide)]
      have loop := downInd (P := fun i => ∀ g, (∀ j, g j = if 14 * ρ 0 0 ≤ j ∧ j < 14 * ρ 0 0 + i then 0 else S3 66 j) → AW d mX9_newTower 79 [some (.inr (.inr 42)), none, some (.inl (ρ 0 0)), none, none, none, some (.inl i)] [] (putF T3 66 g) Q) (lo := 0) (hi := 14) (by decide) ?_ ?_ (T3 66) (fun j => by rw [if_neg (by omega), t66])
      · rw [putF_self] at loop
        exact loop
      · intro g hg
        refine uT_79 ⟨by decide, fun _ S32 e32 => ?_, fun z => by omega⟩
        have x61 : putF T3 66 g 61 = σ 61 := by rw [putF_ne (by decide), f3, up_pf (by decide), f2, up_pf (by decide), f1, up_pf (by decide), hM.1 61 (by decide)]
        rw [x61, e61] at e32
        have hs : MSf σ S32 := by
          rw [e32]
          refine MSf.up (MSf.pf ?_ (Or.inl rfl)) (Or.inl ⟨rfl, by decide⟩)
          rw [f3, f2, f1]
          exact (((MSf.of hM).up (Or.inr (Or.inl ⟨rfl, by omega⟩))).up (Or.inr (Or.inr (Or.inl ⟨rfl, by omega⟩)))).up (Or.inr (Or.inr (Or.inl ⟨rfl, by omega⟩)))
        refine hq S32 hs ?_
        unfold stTw
        rw [hX]
        show RTp o L (.inr (0, p3, e3)) S32 ∧ PRl (rTw o L ρ (pxv (pxA o L (ρ 1) (ρ 0 0) (ρ 0 1) p e)) v3) S32 ∧ ROk (rTw o L ρ (pxv (pxA o L (ρ 1) (ρ 0 0) (ρ 0 1) p e)) v3)
        rw [hX1]
        change RTp o L (.inr (0, p3, e3)) S32 ∧ PRl (rTw o L ρ s1 v3) S32 ∧ ROk (rTw o L ρ s1 v3)
        refine ⟨?_, ?_, hO.tw hLo.2.1 hA.2.1 (by omega) (by omega) hw⟩
        · rw [e32, f3, f2, f1]
          exact ((((hR3'.v.up (by decide)).up (by decide)).up (by decide)).pf (by decide)).up (by decide)
        · refine PRl.tw (hP.mf hM) hO ?_ ?_ ?_ ?_ ?_ (fun j => ?_) ?_ ?_ (by omega) hn1
          · rw [e32, up_rw, putF_at, x61, hM.1 61 (by decide)]
          · rw [e32, up_pf (by decide), putF_ne (by decide), f3, up_pf (by decide), f2, up_pf (by decide), f1, up_rw, putF_at]
          · rw [e32, up_pf (by decide), putF_ne (by decide), f3, up_rw, putF_at, f2, up_rw, putF_at, f1, up_pf (by decide)]
          · rw [e32, up_pf (by decide), putF_ne (by decide), f3, up_pf (by decide), f2, up_pf (by decide), f1, up_pf (by decide)]
          · rw [e32, up_pf (by decide), putF_ne (by decide), f3, up_pf (by decide), f2, up_pf (by decide), f1, up_pf (by decide)]
          · rw [e32, up_pf (by decide), putF_at]
            exact hg j
          · rw [e32, up_pf (by decide), putF_ne (by decide), f3, up_pf (by decide), f2, up_pf (by decide), f1, up_pf (by decide)]
          · rw [e32, up_pf (by decide), putF_ne (by decide), f3, up_pf (by decide), f2, up_pf (by decide), f1, up_pf (by decide)]
      · intro i i0 i1 ih g hg
        refine uT_79 ⟨by omega, fun z => by omega, fun _ => ⟨by omega, fun S33 e33 => ?_⟩⟩
        rw [e33, putF_up]
        refine ih _ (fun j => ?_)
        by_cases c1 : j = 14 * ρ 0 0 + i
        · rw [if_pos c1, if_pos (by omega)]
        · rw [if_neg c1, hg j]
          by_cases c2 : 14 * ρ 0 0 ≤ j ∧ j < 14 * ρ 0 0 + i
          · rw [if_pos c2, if_pos (by omega)]
          · rw [if_neg c2, if_neg (by omega)]
theorem PRl.wd {ρ σ T : SG} {t c : Int} (h : PRl ρ σ) (ht : 0 ≤ t ∧ t < ρ 0 0) (e63 : T 63 = upf (σ 63) (2 * t + 1) c) (e : ∀ p, 61 ≤ p → p ≤ 68 → p ≠ 63 → T p = σ p) : PRl (rUp ρ 3 t c) T := by
  obtain ⟨b0, b1, b2, b3, b4, b5, b6, b7, b8⟩ := h
  have r : ∀ j, j ≠ 3 → rUp ρ 3 t c j = ρ j := fun j hj => rUp_ne hj
  unfold PRl
  rw [e63, e 61 (by decide) (by decide) (by decide), e 62 (by decide) (by decide) (by decide), e 64 (by decide) (by decide) (by decide), e 65 (by decide) (by decide) (by decide), e 66 (by decide) (by decide) (by decide), e 67 (by decide) (by decide) (by decide), e 68 (by decide) (by decide) (by decide), r 0 (by decide), r 1 (by decide), r 2 (by decide), r 4 (by decide), r 5 (by decide), r 6 (by decide), r 7 (by decide), r 8 (by decide), r 9 (by decide), r 10 (by decide), rUp_at]
  refine ⟨b0, b1, b2, fun u u0 u1 => ?_, b4, b5, b6, b7, b8⟩
  rw [upf_ne (by omega)]
  refine ⟨(b3 u u0 u1).1, ?_⟩
  by_cases z : u = t
  · rw [z, upf_at, upf_at]
  · rw [upf_ne (by omega), upf_ne z]
    exact (b3 u u0 u1).2
theorem mwood {d : Nat} {o : Int → Int} {L v p e : Int} {ρ σ : SG} {Q : Option AV → SG → Prop} (hP : PRl ρ σ) (hO : ROk ρ) (hd : 20 ≤ d) (h : RTp o L (.inr (v, p, e)) σ) (hq : ∀ σ', MSf σ σ' → MSp o L (stWd o L ρ p e) σ' → Q none σ') : AW d mX9_woodTold 0 [some (.inr (.inr 42)), none, none] [] σ Q := by
  have hO1 := hO.1
  refine uW_0 ⟨by omega, mtowW (hP.nr hO) (by omega) h (fun S1 t1 hM1 hR1 ht1 hz1 => ?_)⟩
  refine uW_4 ⟨by omega, masksW (w := 48) (Or.inl (by decide)) (by omega) hR1 (fun S2 hM2 hR2 => ?_)⟩
  refine uW_13 ⟨by omega, mnumW (by decide) (by decide) (by omega) hR2 (fun S3 v3 hM3 hR3 hv3 hz3 => ?_)⟩
  have hM := (hM1.tr hM2).tr hM3
  rcases hX : pxb (pxb (pxT o L (ρ 1) (ρ 0 0) (-1) p e) (pxW o L (WC 48))) (pxN o L 0 99) with z | ⟨w, p3, e3⟩
  · have hR3' : RTp o L (.inl z) S3 := by rw [← hX]; exact hR3
    have hb := rt1 hR3'
    exact uW_20 ⟨by omega, fun _ => hq S3 (MSf.of hM) (by unfold stWd; rw [hX]; exact hR3'), fun c => by omega⟩
  · have hR3' : RTp o L (.inr (w, p3, e3)) S3 := by rw [← hX]; exact hR3
    obtain ⟨⟨v2, p2, e2⟩, hX2, hX3⟩ := pxb_r hX
    obtain ⟨⟨s1, p1, e1⟩, hX1, _⟩ := pxb_r hX2
    have hv : v3 = w := (hz3 _ _ hX2 hX).1
    have ht : t1 = s1 := (hz1 _ _ rfl hX1).1
    have hT := pxT_r hX1
    have hw := pxN_r hX3
    dsimp only at hT hw
    subst hv ht
    have h53 := rt0 hR3'
    refine uW_20 ⟨by omega, fun z => absurd h53 z, fun _ => ⟨by omega, fun T f1 => ?_⟩⟩
    refine hq T (by rw [f1]; exact (MSf.of hM).up (Or.inr (Or.inr (Or.inl ⟨rfl, by omega⟩)))) ?_
    unfold stWd
    rw [hX]
    show RTp o L (.inr (0, p3, e3)) T ∧ PRl (rUp ρ 3 (pxv (pxT o L (ρ 1) (ρ 0 0) (-1) p e)) v3) T ∧ ROk (rUp ρ 3 (pxv (pxT o L (ρ 1) (ρ 0 0) (-1) p e)) v3)
    rw [hX1]
    change RTp o L (.inr (0, p3, e3)) T ∧ PRl (rUp ρ 3 t1 v3) T ∧ ROk (rUp ρ 3 t1 v3)
    refine ⟨?_, ?_, hO.wd hw⟩
    · rw [f1]
      exact hR3'.v.up (by decide)
    · refine PRl.wd (hP.mf hM) ⟨hT.1, hT.2.1⟩ ?_ (fun q a b c => ?_)
      · rw [f1, up_rw, putF_at]
      · rw [f1, up_pf c]
theorem mtknW {d : Nat} {o : Int → Int} {L s b : Int} {X : PXv} {ρ σ : SG} {Q : Option AV → SG → Prop} (hP : PRl ρ σ) (hO : ROk ρ) (hd : 8 ≤ d) (h : RTp o L X σ) (hs : r3 s) (hs1 : ∀ z, X = .inr z → 1 ≤ s ∧ s ≤ 14) (hb : b = 0 ∨ b = 1) (hq : ∀ σ' t, MFr σ σ' → RTp o L (pxb X (pxK o L ρ s b)) σ' → (0 ≤ t ∧ t ≤ 3) → (∀ z, pxb X (pxK o L ρ s b) = .inr z → t = z.1) → Q (some (.inl t)) σ') : AW d mX9_takenOf 0 [some (.inr (.inr 42)), some (.inl s), some (.inl b), none] [] σ Q := by
  refine mto_0 ⟨by omega, mtowW (hP.nr hO) (by omega) h (fun S t hM hR ht hz => ?_)⟩
  rcases X with z | ⟨v, p, e⟩
  · have hb1 := rt1 hR
    exact mto_4 ⟨by omega, fun _ => hq S t hM hR ht (fun z hz => by cases hz), fun c => by omega⟩
  · have hs1 := hs1 _ rfl
    change RTp o L (pxT o L (ρ 1) (ρ 0 0) (-1) p e) S at hR
    have hq : ∀ σ' t, MFr σ σ' → RTp o L (pxK o L ρ s b p e) σ' → (0 ≤ t ∧ t ≤ 3) → (∀ z, pxK o L ρ s b p e = .inr z → t = z.1) → Q (some (.inl t)) σ' := hq
    rcases hX : pxT o L (ρ 1) (ρ 0 0) (-1) p e with z | z
    · have hK : pxK o L ρ s b p e = .inl z := by unfold pxK; rw [hX]
      rw [hX] at hR
      have hb1 := rt1 hR
      exact mto_4 ⟨by omega, fun _ => hq S t hM (by rw [hK]; exact hR) ht (fun z hz => by rw [hK] at hz; cases hz), fun c => by omega⟩
    · obtain ⟨e1, e27⟩ := hz (v, p, e) z rfl hX
      have hT := pxT_r hX
      rw [hX] at hR
      obtain ⟨t', p', e'⟩ := z
      dsimp only at e1 e27 hT
      subst e1
      have h5 := rt0 hR
      obtain ⟨b1, b2, b3, b4, b5, b6⟩ := hO.2.1 t hT.1 hT.2.1
      have hPS := hP.mf hM
      have e63 := (hPS.2.2.2.1 t hT.1 hT.2.1).1
      have e66 := hPS.2.2.2.2.2.2.1 t hT.1 hT.2.1 (s - 1).toNat (by omega)
      rw [show 14 * t + (((s - 1).toNat : Nat) : Int) = 14 * t + s - 1 by omega] at e66
      have hK : pxK o L ρ s b p e = if ρ 2 t < s ∨ (b = 0 ∧ s = ρ 2 t) ∨ tb (bor (ρ 4 t) (ρ 5 t)) (s - 1).toNat = true then .inl (2, sk o L p) else .inr (t, p', e') := by
        unfold pxK
        rw [hX]
      rw [hK] at hq
      have bad : (ρ 2 t < s ∨ (b = 0 ∧ s = ρ 2 t) ∨ tb (bor (ρ 4 t) (ρ 5 t)) (s - 1).toNat = true) → Q (some (.inl t)) (up (up S 42 5 2) 42 6 (sk o L p)) := by
        intro z
        have hf := mfail (k := 2) (pl := sk o L p) hR (by decide)
        rw [if_pos z] at hq
        exact hq _ t (hM.tr hf.2) hf.1 ht (fun z hz => by cases hz)
      have good : ¬ (ρ 2 t < s ∨ (b = 0 ∧ s = ρ 2 t) ∨ tb (bor (ρ 4 t) (ρ 5 t)) (s - 1).toNat = true) → Q (some (.inl t)) S := by
        intro z
        rw [if_neg z] at hq
        exact hq S t hM hR ht (fun z hz => by cases hz; rfl)
      have htb : S 66 (14 * t + s - 1) ≠ 0 ↔ tb (bor (ρ 4 t) (ρ 5 t)) (s - 1).toNat = true := by
        rw [e66, tb_bor]
        cases tb (ρ 4 t) (s - 1).toNat <;> cases tb (ρ 5 t) (s - 1).toNat <;> decide
      have h66 : 0 ≤ S 66 (14 * t + s - 1) ∧ S 66 (14 * t + s - 1) ≤ 2 := by
        rw [e66]
        split
        · decide
        · split <;> decide
      refine mto_4 ?_
      rw [e27, e63]
      refine ⟨by omega, fun z => absurd h5 z, fun _ => ⟨by omega, by omega, fun c => ⟨by omega, by omega, fun _ S1 e1 S2 e2 => ?_, fun z => absurd h5 z⟩, fun c => ⟨by omega, fun c2 => ⟨by omega, by omega, fun c3 => good ?_, fun c3 => ⟨by omega, by omega, fun _ S1 e1 S2 e2 => ?_, fun z => absurd h5 z⟩⟩, fun c2 => ⟨by omega, by omega, fun c3 => ⟨by omega, by omega, fun _ S1 e1 S2 e2 => ?_, fun z => absurd h5 z⟩, fun c3 => ⟨by omega, by omega, fun c4 => good ?_, fun c4 => ⟨by omega, by omega, fun _ S1 e1 S2 e2 => ?_, fun z => absurd h5 z⟩⟩⟩⟩⟩⟩
      · rw [e2, e1]
        exact bad (Or.inl c)
      · rintro (z | z | z)
        · omega
        · exact c2 z.1
        · exact (htb.mpr z) c3
      · rw [e2, e1]
        exact bad (Or.inr (Or.inr (htb.mp c3)))
      · rw [e2, e1]
        exact bad (Or.inr (Or.inl ⟨c2, c3⟩))
      · rintro (z | z | z)
        · omega
        · exact c3 z.2
        · exact (htb.mpr z) c4
      · rw [e2, e1]
        exact bad (Or.inr (Or.inr (htb.mp c4)))
theorem PRl.gp {ρ σ T : SG} {s t : Int} (h : PRl ρ σ) (hO : ROk ρ) (ht : 0 ≤ t ∧ t < ρ 0 0) (hs : 1 ≤ s ∧ s ≤ ρ 2 t) (e61 : T 61 = upf (σ 61) 3 (ρ 0 2 + 1)) (e66 : T 66 = upf (σ 66) (14 * t + s - 1) 1) (e : ∀ p, 61 ≤ p → p ≤ 68 → p ≠ 61 → p ≠ 66 → T p = σ p) : PRl (rGp ρ s t) T := by
  have hh := (hO.2.1 t ht.1 ht.2).1
  obtain ⟨b0, b1, b2, b3, b4, b5, b6, b7, b8⟩ := h
  obtain ⟨r0, r4, r⟩ := @rGp_e ρ s t
  have z : ∀ i, i ≠ 2 → rGp ρ s t 0 i = ρ 0 i := fun i hi => by rw [r0, upf_ne hi]
  have z2 : rGp ρ s t 0 2 = ρ 0 2 + 1 := by rw [r0, upf_at]
  unfold PRl
  rw [e61, e66, e 62 (by decide) (by decide) (by decide) (by decide), e 63 (by decide) (by decide) (by decide) (by decide), e 64 (by decide) (by decide) (by decide) (by decide), e 65 (by decide) (by decide) (by decide) (by decide), e 67 (by decide) (by decide) (by decide) (by decide), e 68 (by decide) (by decide) (by decide) (by decide), z 0 (by decide), z 1 (by decide), z2, z 3 (by decide), z 4 (by decide), r 1 (by decide) (by decide), r 2 (by decide) (by decide), r 3 (by decide) (by decide), r 5 (by decide) (by decide), r 6 (by decide) (by decide), r 7 (by decide) (by decide), r 8 (by decide) (by decide), r 9 (by decide) (by decide), r 10 (by decide) (by decide), r4]
  refine ⟨⟨by rw [upf_ne (by decide)]; exact b0.1, by rw [upf_ne (by decide)]; exact b0.2.1, by rw [upf_ne (by decide)]; exact b0.2.2.1, upf_at ..⟩, b1, b2, b3, b4, b5, fun u u0 u1 i hi => ?_, b7, b8⟩
  by_cases c : u = t
  · rw [c, upf_at, tb_set (by omega)]
    by_cases c2 : (s - 1).toNat = i
    · rw [decide_eq_true c2, Bool.or_true, if_pos rfl, show 14 * t + (i : Int) = 14 * t + s - 1 by omega, upf_at]
    · rw [decide_eq_false c2, Bool.or_false, upf_ne (by omega)]
      exact b6 t ht.1 ht.2 i hi
  · rw [upf_ne (by omega), upf_ne c]
    exact b6 u u0 u1 i hi
theorem mgap {d : Nat} {o : Int → Int} {L v p e b : Int} {ρ σ : SG} {Q : Option AV → SG → Prop} (hP : PRl ρ σ) (hO : ROk ρ) (hd : 20 ≤ d) (h : RTp o L (.inr (v, p, e)) σ) (hq : ∀ σ', MSf σ σ' → MSp o L (if 20 ≤ ρ 0 2 then .inl (5, b) else stGp o L ρ p e) σ' → Q none σ') : AW d mX9_gapTold 0 [some (.inr (.inr 42)), some (.inl b), none, none] [] σ Q := by
  have hO1 := hO.1
  have h5 := rt0 h
  have e61 := hP.1.2.2.2
  by_cases c4 : 20 ≤ ρ 0 2
  · rw [if_pos c4] at hq
    refine uG_0 ⟨by omega, by omega, fun z => absurd h5 z, fun _ => ⟨by omega, fun z => by omega, fun _ => ⟨by omega, by omega, fun _ S1 e1 S2 e2 => ?_, fun z => absurd h5 z⟩⟩⟩
    have hf := mfail (k := 5) (pl := b) h (by decide)
    have y5 : up (up σ 42 5 5) 42 6 b 42 5 = 5 := by rw [up_i (by decide), up_at]
    rw [e2, e1, y5]
    exact ⟨by decide, fun z => absurd z (by decide), fun _ => hq _ (MSf.of hf.2) hf.1⟩
  · rw [if_neg c4] at hq
    refine uG_0 ⟨by omega, by omega, fun z => absurd h5 z, fun _ => ⟨by omega, fun _ => ⟨by omega, fun _ => ⟨by omega, ?_⟩, fun z => absurd h5 z⟩, fun z => by omega⟩⟩
    refine mnumW (by decide) (by decide) (by omega) h (fun S1 v1 hM1 hR1 hv1 hz1 => ?_)
    refine uG_19 ⟨by omega, masksW (w := 50) (Or.inl (by decide)) (by omega) hR1 (fun S2 hM2 hR2 => ?_)⟩
    change RTp o L (pxb (pxN o L 1 14 p e) (pxW o L (WC 50))) S2 at hR2
    have hk1 : ∀ z, pxN o L 1 14 p e = .inr z → v1 = z.1 ∧ 1 ≤ v1 ∧ v1 ≤ 14 := fun z hz => by
      have a := (hz1 _ _ rfl hz).1
      have c := pxN_r hz
      omega
    refine uG_28 ⟨by omega, mtknW (hP.mf (hM1.tr hM2)) hO (by omega) hR2 (by omega) (fun z hz => ?_) (Or.inl rfl) (fun S3 t hM3 hR3 ht hz3 => ?_)⟩
    · obtain ⟨y, hy, _⟩ := pxb_r hz
      exact (hk1 y hy).2
    have hM := (hM1.tr hM2).tr hM3
    have hE : pxb (pxb (pxN o L 1 14 p e) (pxW o L (WC 50))) (pxK o L ρ v1 0) = pxb (pxb (pxN o L 1 14 p e) (pxW o L (WC 50))) (pxK o L ρ (pxv (pxN o L 1 14 p e)) 0) := by
      rcases hX1 : pxN o L 1 14 p e with z | z
      · rfl
      · rw [(hk1 z hX1).1]
        rfl
    rw [hE] at hR3 hz3
    rcases hX : pxb (pxb (pxN o L 1 14 p e) (pxW o L (WC 50))) (pxK o L ρ (pxv (pxN o L 1 14 p e)) 0) with z | ⟨w, p3, e3⟩
    · rw [hX] at hR3
      have hb := rt1 hR3
      exact uG_34 ⟨by omega, fun c => by omega, fun _ => hq S3 (MSf.of hM) (by unfold stGp; rw [hX]; exact hR3)⟩
    · have hw := hz3 _ hX
      rw [hX] at hR3
      obtain ⟨⟨v2, p2, e2⟩, hX2, hX3⟩ := pxb_r hX
      obtain ⟨y1, hX1, _⟩ := pxb_r hX2
      obtain ⟨k1, k2⟩ := hk1 y1 hX1
      have hpv : pxv (pxN o L 1 14 p e) = v1 := by rw [hX1]; exact k1.symm
      rw [hpv] at hX3
      dsimp only at hX3 hw
      subst hw
      have h53 := rt0 hR3
      unfold pxK at hX3
      split at hX3
      · cases hX3
      · rename_i y hy
        split at hX3
        · cases hX3
        · rename_i hn
          cases hX3
          have hT := pxT_r hy
          dsimp only at hT hn
          have n1 : ¬ ρ 2 t < v1 := fun z => hn (Or.inl z)
          have n2 : v1 ≠ ρ 2 t := fun z => hn (Or.inr (Or.inl ⟨rfl, z⟩))
          have n3 : tb (bor (ρ 4 t) (ρ 5 t)) (v1 - 1).toNat = false := by
            cases hb : tb (bor (ρ 4 t) (ρ 5 t)) (v1 - 1).toNat
            · rfl
            · exact absurd (Or.inr (Or.inr hb)) hn
          refine uG_34 ⟨by omega, fun _ => ⟨by omega, fun T1 f1 T2 f2 => ?_⟩, fun z => absurd h53 z⟩
          have x61 : T1 61 = σ 61 := by rw [f1, up_pf (by decide), hM.1 61 (by decide)]
          rw [x61, e61] at f2
          refine hq T2 (by rw [f2, f1]; exact ((MSf.of hM).up (Or.inr (Or.inr (Or.inr (Or.inr (Or.inr (Or.inl rfl))))))).up (Or.inl ⟨rfl, by decide⟩)) ?_
          unfold stGp
          rw [hX]
          show RTp o L (.inr (0, p3, e3)) T2 ∧ PRl (rGp ρ (pxv (pxN o L 1 14 p e)) t) T2 ∧ ROk (rGp ρ (pxv (pxN o L 1 14 p e)) t)
          rw [hpv]
          refine ⟨?_, ?_, hO.gp ⟨hT.1, hT.2.1⟩ (by omega) (by omega) n3⟩
          · rw [f2, f1]
            exact (hR3.v.up (by decide)).up (by decide)
          · refine PRl.gp (hP.mf hM) hO ⟨hT.1, hT.2.1⟩ (by omega) ?_ ?_ (fun q a b c c' => ?_)
            · rw [f2, up_rw, putF_at, x61, hM.1 61 (by decide)]
            · rw [f2, up_pf (by decide), f1, up_rw, putF_at]
            · rw [f2, up_pf c, f1, up_pf c']
theorem PRl.gd {o : Int → Int} {L : Int} {ρ σ T : SG} {s t lg rp n : Int} (h : PRl ρ σ) (hO : ROk ρ) (e61 : T 61 = upf (σ 61) 1 (ρ 0 1 + 1)) (e62 : T 62 = upf (σ 62) (8 + ρ 0 1) n) (e64 : T 64 = upf (upf (upf (σ 64) (3 * ρ 0 1) t) (3 * ρ 0 1 + 1) lg) (3 * ρ 0 1 + 2) rp) (e : ∀ p, 61 ≤ p → p ≤ 68 → p ≠ 61 → p ≠ 62 → p ≠ 64 → T p = σ p) (hn : NM (fun k => ltH o s (te o L s) k) n) : PRl (rGd o L ρ s t lg rp) T := by
  have hO1 := hO.1
  obtain ⟨b0, b1, b2, b3, b4, b5, b6, b7, b8⟩ := h
  obtain ⟨r0, r1, r6, r7, r8, r⟩ := @rGd_e o L ρ s t lg rp
  have z : ∀ i, i ≠ 1 → rGd o L ρ s t lg rp 0 i = ρ 0 i := fun i hi => by rw [r0, upf_ne hi]
  have z1 : rGd o L ρ s t lg rp 0 1 = ρ 0 1 + 1 := by rw [r0, upf_at]
  have r' : ∀ j, (j = 2 ∨ j = 3 ∨ j = 4 ∨ j = 5 ∨ j = 9 ∨ j = 10) → rGd o L ρ s t lg rp j = ρ j := fun j hj => r j (by omega) (by omega) (by omega) (by omega) (by omega)
  unfold PRl
  rw [e61, e62, e64, e 63 (by decide) (by decide) (by decide) (by decide) (by decide), e 65 (by decide) (by decide) (by decide) (by decide) (by decide), e 66 (by decide) (by decide) (by decide) (by decide) (by decide), e 67 (by decide) (by decide) (by decide) (by decide) (by decide), e 68 (by decide) (by decide) (by decide) (by decide) (by decide), z 0 (by decide), z1, z 2 (by decide), z 3 (by decide), z 4 (by decide), r1, r' 2 (by decide), r' 3 (by decide), r' 4 (by decide), r' 5 (by decide), r6, r7, r8, r' 9 (by decide), r' 10 (by decide)]
  refine ⟨⟨by rw [upf_ne (by decide)]; exact b0.1, upf_at .., by rw [upf_ne (by decide)]; exact b0.2.2.1, by rw [upf_ne (by decide)]; exact b0.2.2.2⟩, fun t t0 t1 => ?_, fun g g0 g1 => ?_, b3, fun g g0 g1 => ?_, b5, b6, b7, b8⟩
  · rw [upf_ne (by omega)]
    exact NM_cong (b1 t t0 t1) (fun k hk => nmW_out hk (by omega))
  · by_cases c : g = ρ 0 1
    · rw [c, upf_at]
      exact NM_cong hn (fun k hk => nmW_in hk)
    · rw [upf_ne (by omega)]
      exact NM_cong (b2 g g0 (by omega)) (fun k hk => nmW_out hk (by omega))
  · by_cases c : g = ρ 0 1
    · rw [c]
      refine ⟨?_, ?_, ?_⟩
      · rw [upf_ne (by omega), upf_ne (by omega), upf_at, upf_at]
      · rw [upf_ne (by omega), upf_at, upf_at]
      · rw [upf_at, upf_at]
    · rw [upf_ne c, upf_ne c, upf_ne c]
      have q : ∀ j, j ≠ 3 * ρ 0 1 → j ≠ 3 * ρ 0 1 + 1 → j ≠ 3 * ρ 0 1 + 2 → upf (upf (upf (σ 64) (3 * ρ 0 1) t) (3 * ρ 0 1 + 1) lg) (3 * ρ 0 1 + 2) rp j = σ 64 j := fun j a b c => by rw [upf_ne c, upf_ne b, upf_ne a]
      rw [q _ (by omega) (by omega) (by omega), q _ (by omega) (by omega) (by omega), q _ (by omega) (by omega) (by omega)]
      exact b4 g g0 (by omega)
theorem mguard {d : Nat} {o : Int → Int} {L v p e b : Int} {ρ σ : SG} {Q : Option AV → SG → Prop} (hP : PRl ρ σ) (hO : ROk ρ) (hd : 20 ≤ d) (h : RTp o L (.inr (v, p, e)) σ) (hq : ∀ σ', MSf σ σ' → MSp o L (if 8 ≤ ρ 0 1 then .inl (5, b) else stGd o L ρ p e) σ' → Q none σ') : AW d mX9_guardTold 0 [some (.inr (.inr 42)), some (.inl b), none, none, none, none, none, none] [] σ Q := by
  have hO1 := hO.1
  have h5 := rt0 h
  have e61 := hP.1.2.1
  have hp := h.f.2.2
  have hLo := h.f.1.2.2
  by_cases c4 : 8 ≤ ρ 0 1
  · rw [if_pos c4] at hq
    refine uU_0 ⟨by omega, by omega, fun z => absurd h5 z, fun _ => ⟨by omega, fun z => by omega, fun _ => ⟨by omega, by omega, fun _ S1 e1 S2 e2 => ?_, fun z => absurd h5 z⟩⟩⟩
    have hf := mfail (k := 5) (pl := b) h (by decide)
    have y5 : up (up σ 42 5 5) 42 6 b 42 5 = 5 := by rw [up_i (by decide), up_at]
    rw [e2, e1, y5]
    exact ⟨by decide, fun z => absurd z (by decide), fun _ => hq _ (MSf.of hf.2) hf.1⟩
  · rw [if_neg c4] at hq
    refine uU_0 ⟨by omega, by omega, fun z => absurd h5 z, fun _ => ⟨by omega, fun _ => ⟨by omega, fun _ => ⟨by omega, ?_⟩, fun z => absurd h5 z⟩, fun z => by omega⟩⟩
    rw [e61]
    refine mnewW (hP.nr hO) (by omega) h (fun S1 n1 hM1 hR1 hn hz => ?_)
    change RTp o L (gd1 o L ρ p e) S1 at hR1
    refine uU_23 ⟨by omega, masksW (w := 50) (Or.inl (by decide)) (by omega) hR1 (fun S2 hM2 hR2 => ?_)⟩
    have hM12 := hM1.tr hM2
    refine uU_32 ⟨by omega, mtowW ((hP.mf hM12).nr hO) (by omega) hR2 (fun S3 t3 hM3 hR3 ht3 hz3 => ?_)⟩
    change RTp o L (gd2 o L ρ p e) S3 at hR3
    refine uU_36 ⟨by omega, masksW (w := 52) (Or.inl (by decide)) (by omega) hR3 (fun S4 hM4 hR4 => ?_)⟩
    refine uU_46 ⟨by omega, mnumW (by decide) (by decide) (by omega) hR4 (fun S5 v5 hM5 hR5 hv5 hz5 => ?_)⟩
    change RTp o L (gd3 o L ρ p e) S5 at hR5
    refine uU_53 ⟨by omega, masksW (w := 53) (Or.inl (by decide)) (by omega) hR5 (fun S6 hM6 hR6 => ?_)⟩
    refine uU_63 ⟨by omega, mnumW (by decide) (by decide) (by omega) hR6 (fun S7 v7 hM7 hR7 hv7 hz7 => ?_)⟩
    change RTp o L (gd4 o L ρ p e) S7 at hR7
    have hM := ((((hM12.tr hM3).tr hM4).tr hM5).tr hM6).tr hM7
    rcases hX : gd4 o L ρ p e with z | ⟨w, p7, e7⟩
    · rw [hX] at hR7
      have hb := rt1 hR7
      exact uU_70 ⟨by omega, fun c => by omega, fun _ => hq S7 (MSf.of hM) (by unfold stGd; rw [hX]; exact hR7)⟩
    · rw [hX] at hR7
      obtain ⟨y6, hX6, hX7⟩ := pxb_r hX
      obtain ⟨⟨w5, q5, f5⟩, hX5, _⟩ := pxb_r hX6
      obtain ⟨y4, hX4, hX5'⟩ := pxb_r hX5
      obtain ⟨⟨w3, q3, f3⟩, hX3, _⟩ := pxb_r hX4
      obtain ⟨y2, hX2, hX3'⟩ := pxb_r hX3
      obtain ⟨⟨s1, p1, e1⟩, hX1, _⟩ := pxb_r hX2
      have k7 : v7 = w := (hz7 _ _ hX6 hX).1
      have k5 : v5 = w5 := (hz5 _ _ hX4 hX5).1
      have k3 : t3 = w3 := (hz3 _ _ hX2 hX3).1
      have hn1 := hz _ hX1
      have hA := pxA_r hX1 ⟨hp.2.1, by omega⟩
      have hT := pxT_r hX3'
      have hw5 := pxN_r hX5'
      have hw7 := pxN_r hX7
      dsimp only at hn1 hA hT hw5 hw7
      rw [hA.1] at hn1
      subst k7 k5 k3
      have h53 := rt0 hR7
      refine uU_70 ⟨by omega, fun _ => ⟨by omega, fun T1 f1 => ⟨by omega, fun T2 f2 => ⟨by omega, fun T3 f3 => ⟨by omega, fun T4 f4 T5 f5 => ?_⟩⟩⟩⟩, fun z => absurd h53 z⟩
      have x61 : T4 61 = σ 61 := by rw [f4, up_pf (by decide), f3, up_pf (by decide), f2, up_pf (by decide), f1, up_pf (by decide), hM.1 61 (by decide)]
      rw [x61, e61] at f5
      refine hq T5 (by rw [f5, f4, f3, f2, f1]; exact (((((MSf.of hM).up (Or.inr (Or.inl ⟨rfl, by omega⟩))).up (Or.inr (Or.inr (Or.inr (Or.inl ⟨rfl, by omega⟩))))).up (Or.inr (Or.inr (Or.inr (Or.inl ⟨rfl, by omega⟩))))).up (Or.inr (Or.inr (Or.inr (Or.inl ⟨rfl, by omega⟩))))).up (Or.inl ⟨rfl, by decide⟩)) ?_
      unfold stGd
      rw [hX]
      show RTp o L (.inr (0, p7, e7)) T5 ∧ PRl (rGd o L ρ (pxv (gd1 o L ρ p e)) (pxv (gd2 o L ρ p e)) (pxv (gd3 o L ρ p e)) v7) T5 ∧ ROk (rGd o L ρ (pxv (gd1 o L ρ p e)) (pxv (gd2 o L ρ p e)) (pxv (gd3 o L ρ p e)) v7)
      rw [hX1, hX3, hX5]
      change RTp o L (.inr (0, p7, e7)) T5 ∧ PRl (rGd o L ρ s1 t3 v5 v7) T5 ∧ ROk (rGd o L ρ s1 t3 v5 v7)
      refine ⟨?_, ?_, hO.gd hLo.2.1 hA.2.1 (by omega) (by omega) ⟨hT.1, hT.2.1⟩ hw5 hw7⟩
      · rw [f5, f4, f3, f2, f1]
        exact ((((hR7.v.up (by decide)).up (by decide)).up (by decide)).up (by decide)).up (by decide)
      · refine PRl.gd (hP.mf hM) hO ?_ ?_ ?_ (fun q a b c c' c'' => ?_) hn1
        · rw [f5, up_rw, putF_at, x61, hM.1 61 (by decide)]
        · rw [f5, up_pf (by decide), f4, up_pf (by decide), f3, up_pf (by decide), f2, up_pf (by decide), f1, up_rw, putF_at]
        · rw [f5, up_pf (by decide), f4, up_rw, putF_at, f3, up_rw, putF_at, f2, up_rw, putF_at, f1, up_pf (by decide)]
        · rw [f5, up_pf c, f4, up_pf c'', f3, up_pf c'', f2, up_pf c'', f1, up_pf c']
theorem pxT_o {o : Int → Int} {L : Int} {nm : Int → Int} {tw other p e : Int} : (∀ z, pxT o L nm tw (-1) p e = .inl z → pxT o L nm tw other p e = .inl z) ∧ (∀ z, pxT o L nm tw (-1) p e = .inr z → pxT o L nm tw other p e = if z.1 = other then .inl (3, sk o L p) else .inr z) := by
  unfold pxT
  rcases hM : pxM o L p e with y | y
  · exact ⟨fun z h => h, fun z h => by cases h⟩
  · have hy := (pxM_r hM).1
    dsimp only
    by_cases c : twN nm tw o y.1 y.2.1 = -1
    · rw [if_pos (Or.inl c), if_pos (Or.inl c)]
      exact ⟨fun z h => h, fun z h => by cases h⟩
    · rw [if_neg (fun z => c (z.elim id id))]
      refine ⟨fun z h => (by cases h), fun z h => ?_⟩
      cases h
      dsimp only
      by_cases c2 : twN nm tw o y.1 y.2.1 = other
      · rw [if_pos (Or.inr c2), if_pos c2, hy]
      · rw [if_neg (fun z => z.elim c c2), if_neg c2]
theorem PRl.ln {ρ σ T : SG} {t s to dy rn : Int} (h : PRl ρ σ) (hO : ROk ρ) (ht : 0 ≤ t ∧ t < ρ 0 0) (hs : 1 ≤ s ∧ s ≤ ρ 2 t) (hb : tb (bor (ρ 4 t) (ρ 5 t)) (s - 1).toNat = false) (e61 : T 61 = upf (σ 61) 2 (ρ 0 3 + 1)) (e66 : T 66 = upf (σ 66) (14 * t + s - 1) 2) (e67 : T 67 = upf (upf (upf (upf (upf (σ 67) (5 * ρ 0 3) t) (5 * ρ 0 3 + 1) s) (5 * ρ 0 3 + 2) to) (5 * ρ 0 3 + 3) dy) (5 * ρ 0 3 + 4) rn) (e : ∀ p, 61 ≤ p → p ≤ 68 → p ≠ 61 → p ≠ 66 → p ≠ 67 → T p = σ p) : PRl (rLn ρ t s to dy rn) T := by
  have hh := (hO.2.1 t ht.1 ht.2).1
  have hO1 := hO.1
  obtain ⟨b0, b1, b2, b3, b4, b5, b6, b7, b8⟩ := h
  obtain ⟨r0, r5, _, r⟩ := @rLn_e ρ t s to dy rn
  obtain ⟨y0, y1, y2, y3, y4, y⟩ := @rLn_10 ρ t s to dy rn
  rw [tb_bor, Bool.or_eq_false_iff] at hb
  have z : ∀ i, i ≠ 3 → rLn ρ t s to dy rn 0 i = ρ 0 i := fun i hi => by rw [r0, upf_ne hi]
  have z3 : rLn ρ t s to dy rn 0 3 = ρ 0 3 + 1 := by rw [r0, upf_at]
  have r' : ∀ j, (j = 1 ∨ j = 2 ∨ j = 3 ∨ j = 4 ∨ j = 6 ∨ j = 7 ∨ j = 8 ∨ j = 9) → rLn ρ t s to dy rn j = ρ j := fun j hj => r j (by omega) (by omega) (by omega)
  unfold PRl
  rw [e61, e66, e67, e 62 (by decide) (by decide) (by decide) (by decide) (by decide), e 63 (by decide) (by decide) (by decide) (by decide) (by decide), e 64 (by decide) (by decide) (by decide) (by decide) (by decide), e 65 (by decide) (by decide) (by decide) (by decide) (by decide), e 68 (by decide) (by decide) (by decide) (by decide) (by decide), z 0 (by decide), z 1 (by decide), z 2 (by decide), z3, z 4 (by decide), r' 1 (by decide), r' 2 (by decide), r' 3 (by decide), r' 4 (by decide), r5, r' 6 (by decide), r' 7 (by decide), r' 8 (by decide), r' 9 (by decide)]
  refine ⟨⟨by rw [upf_ne (by decide)]; exact b0.1, by rw [upf_ne (by decide)]; exact b0.2.1, upf_at .., by rw [upf_ne (by decide)]; exact b0.2.2.2⟩, b1, b2, b3, b4, b5, fun u u0 u1 i hi => ?_, fun k k0 k1 => ?_, b8⟩
  · by_cases c : u = t
    · rw [c, upf_at, tb_set (by omega)]
      by_cases c2 : (s - 1).toNat = i
      · rw [decide_eq_true c2, Bool.or_true, ← c2, hb.1, if_neg (by decide), if_pos rfl, show 14 * t + (((s - 1).toNat : Nat) : Int) = 14 * t + s - 1 by omega, upf_at]
      · rw [decide_eq_false c2, Bool.or_false, upf_ne (by omega)]
        exact b6 t ht.1 ht.2 i hi
    · rw [upf_ne (by omega), upf_ne c]
      exact b6 u u0 u1 i hi
  · by_cases c0 : k = ρ 0 3 * 5
    · rw [c0, y0, upf_ne (by omega), upf_ne (by omega), upf_ne (by omega), upf_ne (by omega), show ρ 0 3 * 5 = 5 * ρ 0 3 by omega, upf_at]
    · by_cases c1 : k = ρ 0 3 * 5 + 1
      · rw [c1, y1, upf_ne (by omega), upf_ne (by omega), upf_ne (by omega), show ρ 0 3 * 5 + 1 = 5 * ρ 0 3 + 1 by omega, upf_at]
      · by_cases c2 : k = ρ 0 3 * 5 + 2
        · rw [c2, y2, upf_ne (by omega), upf_ne (by omega), show ρ 0 3 * 5 + 2 = 5 * ρ 0 3 + 2 by omega, upf_at]
        · by_cases c3 : k = ρ 0 3 * 5 + 3
          · rw [c3, y3, upf_ne (by omega), show ρ 0 3 * 5 + 3 = 5 * ρ 0 3 + 3 by omega, upf_at]
          · by_cases c4 : k = ρ 0 3 * 5 + 4
            · rw [c4, y4, show ρ 0 3 * 5 + 4 = 5 * ρ 0 3 + 4 by omega, upf_at]
            · rw [y k (by omega), upf_ne (by omega), upf_ne (by omega), upf_ne (by omega), upf_ne (by omega), upf_ne (by omega)]
              exact b7 k k0 (by omega)
theorem mloan {d : Nat} {o : Int → Int} {L v p e b : Int} {ρ σ : SG} {Q : Option AV → SG → Prop} (hP : PRl ρ σ) (hO : ROk ρ) (hd : 20 ≤ d) (h : RTp o L (.inr (v, p, e)) σ) (hq : ∀ σ', MSf σ σ' → MSp o L (if 12 ≤ ρ 0 3 then .inl (5, b) else stLn o L ρ p e) σ' → Q none σ') : AW d mX9_loanIsTold 0 [some (.inr (.inr 42)), some (.inl b), none, none, none, none, none, none] [] σ Q := by
  have hO1 := hO.1
  have h5 := rt0 h
  have e61 := hP.1.2.2.1
  by_cases c4 : 12 ≤ ρ 0 3
  · rw [if_pos c4] at hq
    refine uL_0 ⟨by omega, by omega, fun z => absurd h5 z, fun _ => ⟨by omega, fun z => by omega, fun _ => ⟨by omega, by omega, fun _ S1 e1 S2 e2 => ?_, fun z => absurd h5 z⟩⟩⟩
    have hf := mfail (k := 5) (pl := b) h (by decide)
    have y5 : up (up σ 42 5 5) 42 6 b 42 5 = 5 := by rw [up_i (by decide), up_at]
    rw [e2, e1, y5]
    exact ⟨by decide, fun z => absurd z (by decide), fun _ => hq _ (MSf.of hf.2) hf.1⟩
  · rw [if_neg c4] at hq
    refine uL_0 ⟨by omega, by omega, fun z => absurd h5 z, fun _ => ⟨by omega, fun _ => ⟨by omega, fun _ => ⟨by omega, ?_⟩, fun z => absurd h5 z⟩, fun z => by omega⟩⟩
    rw [e61]
    refine mnumW (by decide) (by decide) (by omega) h (fun S1 v1 hM1 hR1 hv1 hz1 => ?_)
    change RTp o L (ln1 o L p e) S1 at hR1
    refine uL_28 ⟨by omega, masksW (w := 50) (Or.inl (by decide)) (by omega) hR1 (fun S2 hM2 hR2 => ?_)⟩
    have hk1 : ∀ z, ln1 o L p e = .inr z → v1 = z.1 ∧ 1 ≤ v1 ∧ v1 ≤ 14 := fun z hz => by
      have a := (hz1 _ _ rfl hz).1
      have c := pxN_r hz
      omega
    refine uL_37 ⟨by omega, mtknW (hP.mf (hM1.tr hM2)) hO (by omega) hR2 (by omega) (fun z hz => ?_) (Or.inr rfl) (fun S3 t3 hM3 hR3 ht3 hz3 => ?_)⟩
    · obtain ⟨y, hy, _⟩ := pxb_r hz
      exact (hk1 y hy).2
    have hE : pxb (pxb (ln1 o L p e) (pxW o L (WC 50))) (pxK o L ρ v1 1) = ln2 o L ρ p e := by
      unfold ln2
      rcases hX1 : ln1 o L p e with z | z
      · rfl
      · rw [(hk1 z hX1).1]
        rfl
    rw [hE] at hR3 hz3
    have hM123 := (hM1.tr hM2).tr hM3
    refine uL_43 ⟨by omega, masksW (w := 55) (Or.inl (by decide)) (by omega) hR3 (fun S4 hM4 hR4 => ?_)⟩
    refine uL_53 ⟨by omega, mtowW ((hP.mf (hM123.tr hM4)).nr hO) (by omega) hR4 (fun S5 t5 hM5 hR5 ht5 hz5 => ?_)⟩
    have hM15 := (hM123.tr hM4).tr hM5
    -- behind the borrower's name
    have nxt : ∀ S, MFr σ S → RTp o L (ln3 o L ρ p e) S → (∀ z, ln3 o L ρ p e = .inr z → t5 = z.1) → AW (d - 1) mX9_asks 0 [some (.inr (.inr 42)), some (.inr (.inr 56))] [] S (fun rr σ' => AW d mX9_loanIsTold 90 [some (.inr (.inr 42)), some (.inl b), some (.inl (5 * ρ 0 3)), some (.inl v1), some (.inl t3), some (.inl t5), none, none] (rtS rr []) σ' Q) := by
      intro S hMS hRS hzS
      refine masksW (w := 56) (Or.inl (by decide)) (by omega) hRS (fun S6 hM6 hR6 => ?_)
      refine uL_90 ⟨by omega, mnumW (by decide) (by decide) (by omega) hR6 (fun S7 v7 hM7 hR7 hv7 hz7 => ?_)⟩
      change RTp o L (ln4 o L ρ p e) S7 at hR7
      refine uL_97 ⟨by omega, masksW (w := 57) (Or.inl (by decide)) (by omega) hR7 (fun S8 hM8 hR8 => ?_)⟩
      refine uL_107 ⟨by omega, mnumW (by decide) (by decide) (by omega) hR8 (fun S9 v9 hM9 hR9 hv9 hz9 => ?_)⟩
      change RTp o L (ln5 o L ρ p e) S9 at hR9
      have hM := (((hMS.tr hM6).tr hM7).tr hM8).tr hM9
      rcases hX : ln5 o L ρ p e with z | ⟨w9, p9, e9⟩
      · rw [hX] at hR9
        have hb := rt1 hR9
        exact uL_114 ⟨by omega, fun c => by omega, fun _ => hq S9 (MSf.of hM) (by unfold stLn; rw [hX]; exact hR9)⟩
      · rw [hX] at hR9
        obtain ⟨y8, hX8, hX9⟩ := pxb_r hX
        obtain ⟨⟨w7, q7, g7⟩, hX7, _⟩ := pxb_r hX8
        obtain ⟨y6, hX6, hX7'⟩ := pxb_r hX7
        obtain ⟨⟨w5, q5, g5⟩, hX5, _⟩ := pxb_r hX6
        obtain ⟨y4, hX4, hX5'⟩ := pxb_r hX5
        obtain ⟨⟨w3, q3, g3⟩, hX3, _⟩ := pxb_r hX4
        obtain ⟨y2, hX2, hX3'⟩ := pxb_r hX3
        obtain ⟨⟨w1, q1, g1⟩, hX1, _⟩ := pxb_r hX2
        have k9 : v9 = w9 := (hz9 _ _ hX8 hX).1
        have k7 : v7 = w7 := (hz7 _ _ hX6 hX7).1
        have k5 : t5 = w5 := hzS _ hX5
        have k3 : t3 = w3 := hz3 _ hX3
        obtain ⟨k1, k1'⟩ := hk1 _ hX1
        have hp1 : pxv (ln1 o L p e) = v1 := by rw [hX1]; exact k1.symm
        have hp2 : pxv (ln2 o L ρ p e) = t3 := by rw [hX3]; exact k3.symm
        rw [hp2] at hX5'
        rw [hp1] at hX3'
        have hT5 := pxT_r hX5'
        have hw7 := pxN_r hX7'
        have hw9 := pxN_r hX9
        dsimp only at hT5 hw7 hw9 k1 hX3'
        subst k9 k7 k5 k3
        unfold pxK at hX3'
        split at hX3'
        · cases hX3'
        · rename_i y hy
          split at hX3'
          · cases hX3'
          · rename_i hn
            cases hX3'
            have hT := pxT_r hy
            dsimp only at hT hn
            have n1 : ¬ ρ 2 t3 < v1 := fun z => hn (Or.inl z)
            have n3 : tb (bor (ρ 4 t3) (ρ 5 t3)) (v1 - 1).toNat = false := by
              cases hb : tb (bor (ρ 4 t3) (ρ 5 t3)) (v1 - 1).toNat
              · rfl
              · exact absurd (Or.inr (Or.inr hb)) hn
            have h53 := rt0 hR9
            refine uL_114 ⟨by omega, fun _ => ⟨by omega, fun T1 f1 => ⟨by omega, fun T2 f2 => ⟨by omega, fun T3 f3 => ⟨by omega, fun T4 f4 => ⟨by omega, fun T5 f5 => ⟨by omega, fun T6 f6 T7 f7 => ?_⟩⟩⟩⟩⟩⟩, fun z => absurd h53 z⟩
            have x61 : T6 61 = σ 61 := by rw [f6, up_pf (by decide), f5, up_pf (by decide), f4, up_pf (by decide), f3, up_pf (by decide), f2, up_pf (by decide), f1, up_pf (by decide), hM.1 61 (by decide)]
            rw [x61, e61] at f7
            refine hq T7 (by rw [f7, f6, f5, f4, f3, f2, f1]; exact (((((((MSf.of hM).up (Or.inr (Or.inr (Or.inr (Or.inr (Or.inr (Or.inl rfl))))))).up (Or.inr (Or.inr (Or.inr (Or.inr (Or.inr (Or.inr (Or.inl rfl)))))))).up (Or.inr (Or.inr (Or.inr (Or.inr (Or.inr (Or.inr (Or.inl rfl)))))))).up (Or.inr (Or.inr (Or.inr (Or.inr (Or.inr (Or.inr (Or.inl rfl)))))))).up (Or.inr (Or.inr (Or.inr (Or.inr (Or.inr (Or.inr (Or.inl rfl)))))))).up (Or.inr (Or.inr (Or.inr (Or.inr (Or.inr (Or.inr (Or.inl rfl)))))))).up (Or.inl ⟨rfl, by decide⟩)) ?_
            unfold stLn
            rw [hX]
            show RTp o L (.inr (0, p9, e9)) T7 ∧ PRl (rLn ρ (pxv (ln2 o L ρ p e)) (pxv (ln1 o L p e)) (pxv (ln3 o L ρ p e)) (pxv (ln4 o L ρ p e)) v9) T7 ∧ ROk (rLn ρ (pxv (ln2 o L ρ p e)) (pxv (ln1 o L p e)) (pxv (ln3 o L ρ p e)) (pxv (ln4 o L ρ p e)) v9)
            rw [hp1, hp2, hX5, hX7]
            change RTp o L (.inr (0, p9, e9)) T7 ∧ PRl (rLn ρ t3 v1 t5 v7 v9) T7 ∧ ROk (rLn ρ t3 v1 t5 v7 v9)
            refine ⟨?_, ?_, hO.ln ⟨hT.1, hT.2.1⟩ (by omega) ⟨hT5.1, hT5.2.1⟩ (fun z => hT5.2.2 z.symm) hw7 hw9 (by omega) n3⟩
            · rw [f7, f6, f5, f4, f3, f2, f1]
              exact ((((((hR9.v.up (by decide)).up (by decide)).up (by decide)).up (by decide)).up (by decide)).up (by decide)).up (by decide)
            · refine PRl.ln (hP.mf hM) hO ⟨hT.1, hT.2.1⟩ (by omega) n3 ?_ ?_ ?_ (fun q a b c c' c'' => ?_)
              · rw [f7, up_rw, putF_at, x61, hM.1 61 (by decide)]
              · rw [f7, up_pf (by decide), f6, up_pf (by decide), f5, up_pf (by decide), f4, up_pf (by decide), f3, up_pf (by decide), f2, up_pf (by decide), f1, up_rw, putF_at]
              · rw [f7, up_pf (by decide), f6, up_rw, putF_at, f5, up_rw, putF_at, f4, up_rw, putF_at, f3, up_rw, putF_at, f2, up_rw, putF_at, f1, up_pf (by decide)]
              · rw [f7, up_pf c, f6, up_pf c'', f5, up_pf c'', f4, up_pf c'', f3, up_pf c'', f2, up_pf c'', f1, up_pf c']
    -- is he the lender
    have hP3 : ∀ z, ln2 o L ρ p e = .inr z → pxv (ln2 o L ρ p e) = t3 := fun z hz => by
      rw [hz]
      exact (hz3 z hz).symm
    rcases hY : pxb (ln2 o L ρ p e) (pxW o L (WC 55)) with z | z0
    · have hL3 : ln3 o L ρ p e = .inl z := by unfold ln3; rw [hY]; rfl
      have hR5' : RTp o L (.inl z) S5 := by rw [hY] at hR5; exact hR5
      have hb := rt1 hR5'
      exact uL_57 ⟨by omega, fun _ => ⟨by omega, nxt S5 hM15 (by rw [hL3]; exact hR5') (fun z hz => by rw [hL3] at hz; cases hz)⟩, fun c => by omega⟩
    · obtain ⟨y2, hy2, _⟩ := pxb_r hY
      have hL3 : ln3 o L ρ p e = pxT o L (ρ 1) (ρ 0 0) t3 z0.2.1 z0.2.2 := by
        unfold ln3
        rw [hY, hP3 _ hy2]
        rfl
      have hR5' : RTp o L (pxT o L (ρ 1) (ρ 0 0) (-1) z0.2.1 z0.2.2) S5 := by rw [hY] at hR5; exact hR5
      obtain ⟨o1, o2⟩ := @pxT_o o L (ρ 1) (ρ 0 0) t3 z0.2.1 z0.2.2
      rcases hX5 : pxT o L (ρ 1) (ρ 0 0) (-1) z0.2.1 z0.2.2 with z | z
      · rw [o1 z hX5] at hL3
        rw [hX5] at hR5'
        have hb := rt1 hR5'
        exact uL_57 ⟨by omega, fun _ => ⟨by omega, nxt S5 hM15 (by rw [hL3]; exact hR5') (fun z hz => by rw [hL3] at hz; cases hz)⟩, fun c => by omega⟩
      · rw [o2 z hX5] at hL3
        rw [hX5] at hR5'
        obtain ⟨k5, k27⟩ := hz5 z0 z hY (by rw [hY]; exact hX5)
        have hb := rt0 hR5'
        refine uL_57 ?_
        rw [k27]
        refine ⟨by omega, fun z => absurd hb z, fun _ => ⟨by omega, fun c => ⟨by omega, nxt S5 hM15 ?_ (fun y hy => ?_)⟩, fun c => ⟨by omega, by omega, fun _ T1 f1 T2 f2 => ⟨by omega, ?_⟩, fun z => absurd hb z⟩⟩⟩
        · rw [hL3, if_neg (by omega)]
          exact hR5'
        · rw [hL3, if_neg (by omega)] at hy
          cases hy
          exact k5
        · obtain ⟨z1, z2, z3⟩ := z
          have hf := mfail (k := 3) (pl := sk o L z0.2.1) hR5' (by decide)
          dsimp only at k5
          rw [if_pos (by omega)] at hL3
          rw [f2, f1]
          exact nxt _ (hM15.tr hf.2) (by rw [hL3]; exact hf.1) (fun y hy => by rw [hL3] at hy; cases hy)
theorem PRl.en {ρ σ T : SG} {k v : Int} (h : PRl ρ σ) (e65 : T 65 = upf (σ 65) k v) (e : ∀ p, 61 ≤ p → p ≤ 68 → p ≠ 65 → T p = σ p) : PRl (rUp ρ 9 k v) T := by
  obtain ⟨b0, b1, b2, b3, b4, b5, b6, b7, b8⟩ := h
  have r : ∀ j, j ≠ 9 → rUp ρ 9 k v j = ρ j := fun j hj => rUp_ne hj
  unfold PRl
  rw [e65, e 61 (by decide) (by decide) (by decide), e 62 (by decide) (by decide) (by decide), e 63 (by decide) (by decide) (by decide), e 64 (by decide) (by decide) (by decide), e 66 (by decide) (by decide) (by decide), e 67 (by decide) (by decide) (by decide), e 68 (by decide) (by decide) (by decide), r 0 (by decide), r 1 (by decide), r 2 (by decide), r 3 (by decide), r 4 (by decide), r 5 (by decide), r 6 (by decide), r 7 (by decide), r 8 (by decide), r 10 (by decide), rUp_at]
  refine ⟨b0, b1, b2, b3, b4, fun j j0 j1 => ?_, b6, b7, b8⟩
  by_cases c : j = k
  · rw [c, upf_at, upf_at]
  · rw [upf_ne c, upf_ne c]
    exact b5 j j0 j1
theorem PRl.bn {ρ σ T : SG} {b : Int} (h : PRl ρ σ) (e68 : T 68 = upf (σ 68) 0 b) (e : ∀ p, 61 ≤ p → p ≤ 68 → p ≠ 68 → T p = σ p) : PRl (rUp ρ 0 4 b) T := by
  obtain ⟨b0, b1, b2, b3, b4, b5, b6, b7, b8⟩ := h
  have r : ∀ j, j ≠ 0 → rUp ρ 0 4 b j = ρ j := fun j hj => rUp_ne hj
  have z : ∀ i, i ≠ 4 → rUp ρ 0 4 b 0 i = ρ 0 i := fun i hi => by rw [rUp_at, upf_ne hi]
  have z4 : rUp ρ 0 4 b 0 4 = b := by rw [rUp_at, upf_at]
  unfold PRl
  rw [e68, e 61 (by decide) (by decide) (by decide), e 62 (by decide) (by decide) (by decide), e 63 (by decide) (by decide) (by decide), e 64 (by decide) (by decide) (by decide), e 65 (by decide) (by decide) (by decide), e 66 (by decide) (by decide) (by decide), e 67 (by decide) (by decide) (by decide), z 0 (by decide), z 1 (by decide), z 2 (by decide), z 3 (by decide), z4, r 1 (by decide), r 2 (by decide), r 3 (by decide), r 4 (by decide), r 5 (by decide), r 6 (by decide), r 7 (by decide), r 8 (by decide), r 9 (by decide), r 10 (by decide)]
  exact ⟨b0, b1, b2, b3, b4, b5, b6, b7, upf_at ..⟩
theorem menemy {d : Nat} {o : Int → Int} {L v p e : Int} {ρ σ : SG} {Q : Option AV → SG → Prop} (hP : PRl ρ σ) (hO : ROk ρ) (hd : 20 ≤ d) (h : RTp o L (.inr (v, p, e)) σ) (hq : ∀ σ', MSf σ σ' → MSp o L (stEn o L ρ p e) σ' → Q none σ') : AW d mX9_enemyTold 0 [some (.inr (.inr 42)), none, none] [] σ Q := by
  have hO1 := hO.1
  refine uE_0 ⟨by omega, mnumW (by decide) (by decide) (by omega) h (fun S1 v1 hM1 hR1 hv1 hz1 => ?_)⟩
  change RTp o L (pxN o L 1 6 p e) S1 at hR1
  have hk1 : ∀ z, pxN o L 1 6 p e = .inr z → v1 = z.1 ∧ (1 ≤ v1 ∧ v1 ≤ 6) ∧ S1 42 10 = sk o L p := fun z hz => by
    have a := hz1 _ _ rfl hz
    have c := pxN_r hz
    exact ⟨a.1, by omega, a.2⟩
  have nxt : ∀ S, MFr σ S → RTp o L (en1 o L ρ p e) S → (∀ z, en1 o L ρ p e = .inr z → v1 = z.1) → AW (d - 1) mX9_asks 0 [some (.inr (.inr 42)), some (.inr (.inr 60))] [] S (fun rr σ' => AW d mX9_enemyTold 41 [some (.inr (.inr 42)), some (.inl v1), none] (rtS rr []) σ' Q) := by
    intro S hMS hRS hzS
    refine masksW (w := 60) (Or.inl (by decide)) (by omega) hRS (fun S2 hM2 hR2 => ?_)
    refine uE_41 ⟨by omega, mnumW (by decide) (by decide) (by omega) hR2 (fun S3 v3 hM3 hR3 hv3 hz3 => ?_)⟩
    have hM := (hMS.tr hM2).tr hM3
    rcases hX : pxb (pxb (en1 o L ρ p e) (pxW o L (WC 60))) (pxN o L 1 99) with z | ⟨w, p3, e3⟩
    · rw [hX] at hR3
      have hb := rt1 hR3
      exact uE_48 ⟨by omega, fun _ => hq S3 (MSf.of hM) (by unfold stEn; rw [hX]; exact hR3), fun c => by omega⟩
    · have hv : v3 = w := by
        obtain ⟨y2, hX2, _⟩ := pxb_r hX
        exact (hz3 _ _ hX2 hX).1
      rw [hX] at hR3
      obtain ⟨y2, hX2, hX3⟩ := pxb_r hX
      obtain ⟨y1, hX1, _⟩ := pxb_r hX2
      have hy1 := hzS _ hX1
      have hw := pxN_r hX3
      dsimp only at hw
      subst hv
      have hr : 1 ≤ v1 ∧ v1 ≤ 6 := by
        unfold en1 at hX1
        obtain ⟨y0, hX0, _⟩ := pxb_r hX1
        exact (hk1 _ hX0).2.1
      have h53 := rt0 hR3
      refine uE_48 ⟨by omega, fun z => absurd h53 z, fun _ => ⟨by omega, fun T f1 => ?_⟩⟩
      refine hq T (by rw [f1]; exact (MSf.of hM).up (Or.inr (Or.inr (Or.inr (Or.inr (Or.inl ⟨rfl, by omega⟩)))))) ?_
      have hpv : pxv (en1 o L ρ p e) = v1 := by rw [hX1]; exact hy1.symm
      unfold stEn
      rw [hX]
      show RTp o L (.inr (0, p3, e3)) T ∧ PRl (rUp ρ 9 (pxv (en1 o L ρ p e)) v3) T ∧ ROk (rUp ρ 9 (pxv (en1 o L ρ p e)) v3)
      rw [hpv]
      refine ⟨?_, ?_, hO.en hw⟩
      · rw [f1]
        exact hR3.v.up (by decide)
      · refine PRl.en (hP.mf hM) ?_ (fun q a b c => ?_)
        · rw [f1, up_rw, putF_at]
        · rw [f1, up_pf c]
  rcases hX1 : pxN o L 1 6 p e with z | ⟨w, p1, e1⟩
  · have hE : en1 o L ρ p e = .inl z := by unfold en1; rw [hX1]; rfl
    rw [hX1] at hR1
    have hb := rt1 hR1
    exact uE_7 ⟨by omega, fun _ => ⟨by omega, nxt S1 hM1 (by rw [hE]; exact hR1) (fun z hz => by rw [hE] at hz; cases hz)⟩, fun c => by omega⟩
  · obtain ⟨k1, k2, k3⟩ := hk1 _ hX1
    dsimp only at k1
    subst k1
    rw [hX1] at hR1
    have hb := rt0 hR1
    have hE : en1 o L ρ p e = if ρ 9 v1 ≠ 0 then .inl (2, sk o L p) else .inr (v1, p1, e1) := by unfold en1; rw [hX1]; rfl
    have h9 := hO.2.2.2.1 v1 (by omega) (by omega)
    have e65 : S1 65 v1 = ρ 9 v1 := (hP.mf hM1).2.2.2.2.2.1 v1 (by omega) (by omega)
    refine uE_7 ?_
    rw [k3, e65]
    refine ⟨by omega, fun z => absurd hb z, fun _ => ⟨by omega, by omega, fun c => ⟨by omega, nxt S1 hM1 ?_ (fun y hy => ?_)⟩, fun c => ⟨by omega, by omega, fun _ T1 f1 T2 f2 => ⟨by omega, ?_⟩, fun z => absurd hb z⟩⟩⟩
    · rw [hE, if_neg (by omega)]
      exact hR1
    · rw [hE, if_neg (by omega)] at hy
      cases hy
      rfl
    · have hf := mfail (k := 2) (pl := sk o L p) hR1 (by decide)
      rw [if_pos (by omega)] at hE
      rw [f2, f1]
      exact nxt _ (hM1.tr hf.2) (by rw [hE]; exact hf.1) (fun y hy => by rw [hE] at hy; cases hy)
