/-! ===== rescue of the reference (wip/whole/gen83.py) ===== -/
def kX9_rescueMany_0 : List BI := [bi (.iconst 0) 1 [] 0, bi (.istore_n 1) 1 [] 0, bi (.iconst 0) 1 [] 0, bi (.istore_n 2) 1 [] 0]
theorem cX9_rescueMany_0 : chk mX9_rescueMany 0 kX9_rescueMany_0 = true := by decide +kernel
theorem mrm_0 {d : Nat} {σ : SG} {Q : Option AV → SG → Prop} (h : AW d mX9_rescueMany 4 [some (.inr (.inr 42)), some (.inl 0), some (.inl 0), none, none, none, none] [] σ Q) : AW d mX9_rescueMany 0 [some (.inr (.inr 42)), none, none, none, none, none, none] [] σ Q := AW.blk kX9_rescueMany_0 cX9_rescueMany_0 (h)
def kX9_rescueMany_29 : List BI := [bi (.iconst 0) 1 [] 0, bi (.istore_n 2) 1 [] 0]
theorem cX9_rescueMany_29 : chk mX9_rescueMany 29 kX9_rescueMany_29 = true := by decide +kernel
def kX9_rescueMany_4 : List BI := [bi (.iload_n 2) 1 [] 0, bi (.aload_n 0) 1 [] 0, bi (.invokevirtual 319) 3 [mX9_towerMany, 1, 1, 9] 0, bi (.if_icmp .ge (20)) 3 [29] 0, bi (.aload_n 0) 1 [] 0, bi (.getfield 106) 3 [9, 43] 0, bi (.iload_n 2) 1 [] 0, bi (.aload_n 0) 1 [] 0, bi (.iload_n 2) 1 [] 0, bi (.invokevirtual 426) 3 [mX9_spareSet, 2, 8, 9] 0, bi (.iastore) 1 [] 0, bi (.iinc 2 (1)) 3 [] 0, bi (.goto (-22)) 3 [4] 0]
theorem cX9_rescueMany_4 : chk mX9_rescueMany 4 kX9_rescueMany_4 = true := by decide +kernel
theorem mrm_4 {d : Nat} {σ : SG} {Q : Option AV → SG → Prop} {l1 l2 : Int} (h : (0 < d) ∧ (r3 l2 ∧ r3 (σ 61 4)) ∧ ((σ 61 4) ≤ l2 → AW d mX9_rescueMany 31 [some (.inr (.inr 42)), some (.inl l1), some (.inl 0), none, none, none, none] [] σ Q) ∧ (l2 < (σ 61 4) → (0 < d) ∧ (msO (d - 1) σ l2) ∧ (∀ f1 : Int → Int, (0 ≤ l2 ∧ l2 < 4) ∧ (∀ S2 : SG, S2 = up (putF σ 70 f1) 73 l2 (mspV σ l2) → AW d mX9_rescueMany 4 [some (.inr (.inr 42)), some (.inl l1), some (.inl (l2 + 1)), none, none, none, none] [] S2 Q)))) : AW d mX9_rescueMany 4 [some (.inr (.inr 42)), some (.inl l1), some (.inl l2), none, none, none, none] [] σ Q := AW.blk kX9_rescueMany_4 cX9_rescueMany_4 (⟨(h).1, AW.blk kX9_towerMany_0 cX9_towerMany_0 (⟨⟨(by decide), (by decide)⟩, ⟨⟨(((h).2).1).1, (((h).2).1).2⟩, ⟨fun c3 => AW.blk kX9_rescueMany_29 cX9_rescueMany_29 ((((h).2).2).1 c3), fun c3 => ⟨((((h).2).2).2 c3).1, mspareSet_ok ⟨(((((h).2).2).2 c3).2).1, fun f1 => ⟨⟨((((((((h).2).2).2 c3).2).2 f1)).1).1, ((((((((h).2).2).2 c3).2).2 f1)).1).2⟩, ((((((((h).2).2).2 c3).2).2 f1)).2) _ rfl⟩⟩⟩⟩⟩⟩)⟩)
def kX9_rescueMany_180 : List BI := [bi (.iload_n 1) 1 [] 0, bi (.ireturn) 1 [] 0]
theorem cX9_rescueMany_180 : chk mX9_rescueMany 180 kX9_rescueMany_180 = true := by decide +kernel
def kX9_rescueMany_31 : List BI := [bi (.iload_n 2) 1 [] 0, bi (.aload_n 0) 1 [] 0, bi (.invokevirtual 319) 3 [mX9_towerMany, 1, 1, 9] 0, bi (.if_icmp .ge (144)) 3 [180] 0, bi (.aload_n 0) 1 [] 0, bi (.iload_n 2) 1 [] 0, bi (.invokevirtual 432) 3 [mX9_needSet, 2, 7, 9] 0, bi (.istore_n 3) 1 [] 0, bi (.iconst 1) 1 [] 0, bi (.istore 4) 2 [] 0]
theorem cX9_rescueMany_31 : chk mX9_rescueMany 31 kX9_rescueMany_31 = true := by decide +kernel
theorem mrm_31 {d : Nat} {σ : SG} {Q : Option AV → SG → Prop} {l1 l2 : Int} (h : (0 < d) ∧ (r3 l2 ∧ r3 (σ 61 4)) ∧ ((σ 61 4) ≤ l2 → Q (some (.inl l1)) σ) ∧ (l2 < (σ 61 4) → (0 < d) ∧ (msO (d - 1) σ l2) ∧ (∀ f4 : Int → Int, AW d mX9_rescueMany 48 [some (.inr (.inr 42)), some (.inl l1), some (.inl l2), some (.inl (mneV σ l2)), some (.inl 1), none, none] [] (putF σ 70 f4) Q))) : AW d mX9_rescueMany 31 [some (.inr (.inr 42)), some (.inl l1), some (.inl l2), none, none, none, none] [] σ Q := AW.blk kX9_rescueMany_31 cX9_rescueMany_31 (⟨(h).1, AW.blk kX9_towerMany_0 cX9_towerMany_0 (⟨⟨(by decide), (by decide)⟩, ⟨⟨(((h).2).1).1, (((h).2).1).2⟩, ⟨fun c5 => AW.blk kX9_rescueMany_180 cX9_rescueMany_180 ((((h).2).2).1 c5), fun c5 => ⟨((((h).2).2).2 c5).1, mneedSet_ok ⟨(((((h).2).2).2 c5).2).1, fun f4 => ((((((h).2).2).2 c5).2).2 f4)⟩⟩⟩⟩⟩)⟩)
def kX9_rescueMany_174 : List BI := [bi (.iinc 2 (1)) 3 [] 0, bi (.goto (-146)) 3 [31] 0]
theorem cX9_rescueMany_174 : chk mX9_rescueMany 174 kX9_rescueMany_174 = true := by decide +kernel
def kX9_rescueMany_86 : List BI := [bi (.aload_n 0) 1 [] 0, bi (.getfield 106) 3 [9, 43] 0, bi (.iload 5) 2 [] 0, bi (.iaload) 1 [] 0, bi (.iconst 0) 1 [] 0, bi (.invokestatic 423) 3 [mX9_bitAt, 2, 4] 0, bi (.istore 6) 2 [] 0, bi (.aload_n 0) 1 [] 0, bi (.getfield 106) 3 [9, 43] 0, bi (.iload 5) 2 [] 0, bi (.dup2) 1 [] 0, bi (.iaload) 1 [] 0, bi (.aload_n 0) 1 [] 0, bi (.getfield 106) 3 [9, 43] 0, bi (.iload 5) 2 [] 0, bi (.iaload) 1 [] 0, bi (.iconst 1) 1 [] 0, bi (.isub) 1 [] 0, bi (.iand) 1 [] 0, bi (.iastore) 1 [] 0, bi (.aload_n 0) 1 [] 0, bi (.getfield 109) 3 [9, 44] 0, bi (.iconst 4) 1 [] 0, bi (.iload_n 1) 1 [] 0, bi (.imul) 1 [] 0, bi (.iload 5) 2 [] 0, bi (.iastore) 1 [] 0, bi (.aload_n 0) 1 [] 0, bi (.getfield 109) 3 [9, 44] 0, bi (.iconst 4) 1 [] 0, bi (.iload_n 1) 1 [] 0, bi (.imul) 1 [] 0, bi (.iconst 1) 1 [] 0, bi (.iadd) 1 [] 0, bi (.iload 6) 2 [] 0, bi (.iconst 1) 1 [] 0, bi (.iadd) 1 [] 0, bi (.iastore) 1 [] 0, bi (.aload_n 0) 1 [] 0, bi (.getfield 109) 3 [9, 44] 0, bi (.iconst 4) 1 [] 0, bi (.iload_n 1) 1 [] 0, bi (.imul) 1 [] 0, bi (.iconst 2) 1 [] 0, bi (.iadd) 1 [] 0, bi (.iload_n 2) 1 [] 0, bi (.iastore) 1 [] 0, bi (.aload_n 0) 1 [] 0, bi (.getfield 109) 3 [9, 44] 0, bi (.iconst 4) 1 [] 0, bi (.iload_n 1) 1 [] 0, bi (.imul) 1 [] 0, bi (.iconst 3) 1 [] 0, bi (.iadd) 1 [] 0, bi (.iload 4) 2 [] 0, bi (.iastore) 1 [] 0, bi (.iinc 1 (1)) 3 [] 0, bi (.iinc 4 (1)) 3 [] 0, bi (.goto (-123)) 3 [48] 0]
theorem cX9_rescueMany_86 : chk mX9_rescueMany 86 kX9_rescueMany_86 = true := by decide +kernel
def kX9_rescueMany_72 : List BI := [bi (.aload_n 0) 1 [] 0, bi (.invokevirtual 435) 3 [mX9_spareLeft, 1, 2, 9] 0, bi (.istore 5) 2 [] 0, bi (.iload 5) 2 [] 0, bi (.iconst (-1)) 1 [] 0, bi (.if_icmp .ne (5)) 3 [86] 0, bi (.iconst (-1)) 1 [] 0, bi (.ireturn) 1 [] 0]
theorem cX9_rescueMany_72 : chk mX9_rescueMany 72 kX9_rescueMany_72 = true := by decide +kernel
def kX9_rescueMany_168 : List BI := [bi (.iinc 4 (1)) 3 [] 0, bi (.goto (-123)) 3 [48] 0]
theorem cX9_rescueMany_168 : chk mX9_rescueMany 168 kX9_rescueMany_168 = true := by decide +kernel
def kX9_rescueMany_48 : List BI := [bi (.iload 4) 2 [] 0, bi (.aload_n 0) 1 [] 0, bi (.iload_n 2) 1 [] 0, bi (.invokevirtual 328) 3 [mX9_stepsOf, 2, 2, 9] 0, bi (.if_icmp .gt (119)) 3 [174] 0, bi (.iload_n 3) 1 [] 0, bi (.iload 4) 2 [] 0, bi (.iconst 1) 1 [] 0, bi (.isub) 1 [] 0, bi (.ishr) 1 [] 0, bi (.iconst 1) 1 [] 0, bi (.iand) 1 [] 0, bi (.ifCond .ne (6)) 3 [72] 0, bi (.goto (99)) 3 [168] 0]
theorem cX9_rescueMany_48 : chk mX9_rescueMany 48 kX9_rescueMany_48 = true := by decide +kernel
theorem mrm_48 {d : Nat} {σ : SG} {Q : Option AV → SG → Prop} {l1 l2 l3 l4 : Int} (h : (0 < d) ∧ (0 ≤ (8 + (2 * l2)) ∧ (8 + (2 * l2)) < 16) ∧ (r3 l4 ∧ r3 (σ 63 (8 + (2 * l2)))) ∧ ((σ 63 (8 + (2 * l2))) < l4 → AW d mX9_rescueMany 31 [some (.inr (.inr 42)), some (.inl l1), some (.inl (l2 + 1)), none, none, none, none] [] σ Q) ∧ (l4 ≤ (σ 63 (8 + (2 * l2))) → (0 ≤ (l4 - 1) ∧ (l4 - 1) < 32 ∧ r3 l3) ∧ (r3 (band (l3 / 2 ^ Int.toNat (l4 - 1)) 1)) ∧ ((band (l3 / 2 ^ Int.toNat (l4 - 1)) 1) ≠ 0 → (0 < d) ∧ (1 ≤ d - 1 ∧ 0 ≤ σ 61 4 ∧ σ 61 4 ≤ 4 ∧ ∀ t, 0 ≤ t → t < σ 61 4 → r3 (σ 73 t)) ∧ (r3 (fstI (nzB (σ 73)) (σ 61 4))) ∧ ((fstI (nzB (σ 73)) (σ 61 4)) ≠ (-1) → (0 ≤ (fstI (nzB (σ 73)) (σ 61 4)) ∧ (fstI (nzB (σ 73)) (σ 61 4)) < 4) ∧ (0 < d) ∧ (0 ≤ (σ 73 (fstI (nzB (σ 73)) (σ 61 4))) ∧ (σ 73 (fstI (nzB (σ 73)) (σ 61 4))) < 16384 ∧ r3 0) ∧ (0 ≤ (fstI (nzB (σ 73)) (σ 61 4)) ∧ (fstI (nzB (σ 73)) (σ 61 4)) < 4) ∧ (0 ≤ (fstI (nzB (σ 73)) (σ 61 4)) ∧ (fstI (nzB (σ 73)) (σ 61 4)) < 4) ∧ (0 ≤ (fstI (nzB (σ 73)) (σ 61 4)) ∧ (fstI (nzB (σ 73)) (σ 61 4)) < 4) ∧ (∀ S6 : SG, S6 = up σ 73 (fstI (nzB (σ 73)) (σ 61 4)) (band (σ 73 (fstI (nzB (σ 73)) (σ 61 4))) ((σ 73 (fstI (nzB (σ 73)) (σ 61 4))) - 1)) → (0 ≤ (4 * l1) ∧ (4 * l1) < 240) ∧ (∀ S7 : SG, S7 = up S6 74 (4 * l1) (fstI (nzB (σ 73)) (σ 61 4)) → (0 ≤ ((4 * l1) + 1) ∧ ((4 * l1) + 1) < 240) ∧ (∀ S8 : SG, S8 = up S7 74 ((4 * l1) + 1) ((fstI (kthB (σ 73 (fstI (nzB (σ 73)) (σ 61 4))) 0) 24) + 1) → (0 ≤ ((4 * l1) + 2) ∧ ((4 * l1) + 2) < 240) ∧ (∀ S9 : SG, S9 = up S8 74 ((4 * l1) + 2) l2 → (0 ≤ ((4 * l1) + 3) ∧ ((4 * l1) + 3) < 240) ∧ (∀ S10 : SG, S10 = up S9 74 ((4 * l1) + 3) l4 → AW d mX9_rescueMany 48 [some (.inr (.inr 42)), some (.inl (l1 + 1)), some (.inl l2), some (.inl l3), some (.inl (l4 + 1)), none, none] [] S10 Q)))))) ∧ ((fstI (nzB (σ 73)) (σ 61 4)) = (-1) → Q (some (.inl ((-1)))) σ)) ∧ ((band (l3 / 2 ^ Int.toNat (l4 - 1)) 1) = 0 → AW d mX9_rescueMany 48 [some (.inr (.inr 42)), some (.inl l1), some (.inl l2), some (.inl l3), some (.inl (l4 + 1)), none, none] [] σ Q))) : AW d mX9_rescueMany 48 [some (.inr (.inr 42)), some (.inl l1), some (.inl l2), some (.inl l3), some (.inl l4), none, none] [] σ Q := AW.blk kX9_rescueMany_48 cX9_rescueMany_48 (⟨(h).1, AW.blk kX9_stepsOf_0 cX9_stepsOf_0 (⟨⟨(((h).2).1).1, (((h).2).1).2⟩, ⟨⟨((((h).2).2).1).1, ((((h).2).2).1).2⟩, ⟨fun c13 => AW.blk kX9_rescueMany_174 cX9_rescueMany_174 (AW.drop 3 (AW.drop 4 (((((h).2).2).2).1 c13))), fun c13 => ⟨⟨((((((h).2).2).2).2 c13).1).1, (((((((h).2).2).2).2 c13).1).2).1, (((((((h).2).2).2).2 c13).1).2).2⟩, ⟨((((((h).2).2).2).2 c13).2).1, ⟨fun c12 => AW.blk kX9_rescueMany_72 cX9_rescueMany_72 (⟨((((((((h).2).2).2).2 c13).2).2).1 c12).1, spareLeft_ok ⟨(((((((((h).2).2).2).2 c13).2).2).1 c12).2).1, ⟨⟨((((((((((h).2).2).2).2 c13).2).2).1 c12).2).2).1, (by decide)⟩, ⟨fun c11 => AW.blk kX9_rescueMany_86 cX9_rescueMany_86 (⟨⟨(((((((((((((h).2).2).2).2 c13).2).2).1 c12).2).2).2).1 c11).1).1, (((((((((((((h).2).2).2).2 c13).2).2).1 c12).2).2).2).1 c11).1).2⟩, ⟨(((((((((((((h).2).2).2).2 c13).2).2).1 c12).2).2).2).1 c11).2).1, mbitAt_ok ⟨((((((((((((((h).2).2).2).2 c13).2).2).1 c12).2).2).2).1 c11).2).2).1, ⟨⟨((((((((((((((((h).2).2).2).2 c13).2).2).1 c12).2).2).2).1 c11).2).2).2).1).1, ((((((((((((((((h).2).2).2).2 c13).2).2).1 c12).2).2).2).1 c11).2).2).2).1).2⟩, ⟨⟨(((((((((((((((((h).2).2).2).2 c13).2).2).1 c12).2).2).2).1 c11).2).2).2).2).1).1, (((((((((((((((((h).2).2).2).2 c13).2).2).1 c12).2).2).2).1 c11).2).2).2).2).1).2⟩, ⟨⟨((((((((((((((((((h).2).2).2).2 c13).2).2).1 c12).2).2).2).1 c11).2).2).2).2).2).1).1, ((((((((((((((((((h).2).2).2).2 c13).2).2).1 c12).2).2).2).1 c11).2).2).2).2).2).1).2⟩, ⟨⟨((((((((((((((((((((h).2).2).2).2 c13).2).2).1 c12).2).2).2).1 c11).2).2).2).2).2).2) _ rfl).1).1, ((((((((((((((((((((h).2).2).2).2 c13).2).2).1 c12).2).2).2).1 c11).2).2).2).2).2).2) _ rfl).1).2⟩, ⟨⟨((((((((((((((((((((((h).2).2).2).2 c13).2).2).1 c12).2).2).2).1 c11).2).2).2).2).2).2) _ rfl).2) _ rfl).1).1, ((((((((((((((((((((((h).2).2).2).2 c13).2).2).1 c12).2).2).2).1 c11).2).2).2).2).2).2) _ rfl).2) _ rfl).1).2⟩, ⟨⟨((((((((((((((((((((((((h).2).2).2).2 c13).2).2).1 c12).2).2).2).1 c11).2).2).2).2).2).2) _ rfl).2) _ rfl).2) _ rfl).1).1, ((((((((((((((((((((((((h).2).2).2).2 c13).2).2).1 c12).2).2).2).1 c11).2).2).2).2).2).2) _ rfl).2) _ rfl).2) _ rfl).1).2⟩, ⟨⟨((((((((((((((((((((((((((h).2).2).2).2 c13).2).2).1 c12).2).2).2).1 c11).2).2).2).2).2).2) _ rfl).2) _ rfl).2) _ rfl).2) _ rfl).1).1, ((((((((((((((((((((((((((h).2).2).2).2 c13).2).2).1 c12).2).2).2).1 c11).2).2).2).2).2).2) _ rfl).2) _ rfl).2) _ rfl).2) _ rfl).1).2⟩, AW.drop 5 (AW.drop 6 (((((((((((((((((((((((((((h).2).2).2).2 c13).2).2).1 c12).2).2).2).1 c11).2).2).2).2).2).2) _ rfl).2) _ rfl).2) _ rfl).2) _ rfl).2) _ rfl))⟩⟩⟩⟩⟩⟩⟩⟩⟩⟩), fun c11 => (((((((((((h).2).2).2).2 c13).2).2).1 c12).2).2).2).2 c11⟩⟩⟩⟩), fun c12 => AW.blk kX9_rescueMany_168 cX9_rescueMany_168 ((((((((h).2).2).2).2 c13).2).2).2 c12)⟩⟩⟩⟩⟩⟩)⟩)
def kX9_rescue_0 : List BI := [bi (.aload_n 0) 1 [] 0, bi (.invokevirtual 438) 3 [mX9_rescueMany, 1, 7, 9] 0]
theorem cX9_rescue_0 : chk mX9_rescue 0 kX9_rescue_0 = true := by decide +kernel
theorem mr_0 {d : Nat} {σ : SG} {Q : Option AV → SG → Prop} {k w : Int} (h : (0 < d) ∧ AW (d - 1) mX9_rescueMany 0 [some (.inr (.inr 42)), none, none, none, none, none, none] [] σ (fun rr σ' => AW d mX9_rescue 4 [some (.inr (.inr 42)), some (.inl k), some (.inl w), none] (rtS rr []) σ' Q)) : AW d mX9_rescue 0 [some (.inr (.inr 42)), some (.inl k), some (.inl w), none] [] σ Q := AW.blk kX9_rescue_0 cX9_rescue_0 (⟨(h).1, (h).2⟩)
def kX9_rescue_50 : List BI := [bi (.iconst (-1)) 1 [] 0, bi (.ireturn) 1 [] 0]
theorem cX9_rescue_50 : chk mX9_rescue 50 kX9_rescue_50 = true := by decide +kernel
def kX9_rescue_51 : List BI := [bi (.ireturn) 1 [] 0]
theorem cX9_rescue_51 : chk mX9_rescue 51 kX9_rescue_51 = true := by decide +kernel
def kX9_rescue_12 : List BI := [bi (.iload_n 1) 1 [] 0, bi (.i2l) 1 [] 0, bi (.lconst 0) 1 [] 0, bi (.iload_n 3) 1 [] 0, bi (.iconst 1) 1 [] 0, bi (.isub) 1 [] 0, bi (.i2l) 1 [] 0, bi (.invokestatic 233) 3 [mX9_isIn, 3, 6] 0, bi (.ifCond .eq (28)) 3 [50] 0, bi (.iload_n 2) 1 [] 0, bi (.i2l) 1 [] 0, bi (.lconst 0) 1 [] 0, bi (.ldc2_w 421) 3 [] 3, bi (.invokestatic 233) 3 [mX9_isIn, 3, 6] 0, bi (.ifCond .eq (16)) 3 [50] 0, bi (.aload_n 0) 1 [] 0, bi (.getfield 109) 3 [9, 44] 0, bi (.iconst 4) 1 [] 0, bi (.iload_n 1) 1 [] 0, bi (.imul) 1 [] 0, bi (.iload_n 2) 1 [] 0, bi (.iadd) 1 [] 0, bi (.iaload) 1 [] 0, bi (.goto (4)) 3 [51] 0]
theorem cX9_rescue_12 : chk mX9_rescue 12 kX9_rescue_12 = true := by decide +kernel
def kX9_rescue_4 : List BI := [bi (.istore_n 3) 1 [] 0, bi (.iload_n 1) 1 [] 0, bi (.iconst (-1)) 1 [] 0, bi (.if_icmp .ne (5)) 3 [12] 0, bi (.iload_n 3) 1 [] 0, bi (.ireturn) 1 [] 0]
theorem cX9_rescue_4 : chk mX9_rescue 4 kX9_rescue_4 = true := by decide +kernel
theorem mr_4 {d : Nat} {σ : SG} {Q : Option AV → SG → Prop} {k w s0 : Int} (h : (r3 k) ∧ (k ≠ (-1) → (r3 k) ∧ (r3 (s0 - 1)) ∧ (0 < d) ∧ (r6 k) ∧ (k < 0 → Q (some (.inl ((-1)))) σ) ∧ (0 ≤ k → (r6 k ∧ r6 (s0 - 1)) ∧ ((s0 - 1) < k → Q (some (.inl ((-1)))) σ) ∧ (k ≤ (s0 - 1) → (r3 w) ∧ (0 < d) ∧ (r6 w) ∧ (w < 0 → Q (some (.inl ((-1)))) σ) ∧ (0 ≤ w → (r6 w) ∧ (3 < w → Q (some (.inl ((-1)))) σ) ∧ (w ≤ 3 → (0 ≤ ((4 * k) + w) ∧ ((4 * k) + w) < 240) ∧ Q (some (.inl (σ 74 ((4 * k) + w)))) σ))))) ∧ (k = (-1) → Q (some (.inl s0)) σ)) : AW d mX9_rescue 4 [some (.inr (.inr 42)), some (.inl k), some (.inl w), none] [.inl s0] σ Q := AW.blk kX9_rescue_4 cX9_rescue_4 (⟨⟨(h).1, (by decide)⟩, ⟨fun c18 => AW.blk kX9_rescue_12 cX9_rescue_12 (⟨(((h).2).1 c18).1, ⟨((((h).2).1 c18).2).1, ⟨(((((h).2).1 c18).2).2).1, AW.blk kX9_isIn_0 cX9_isIn_0 (⟨⟨((((((h).2).1 c18).2).2).2).1, (by decide)⟩, ⟨fun c17 => AW.blk kX9_isIn_17 cX9_isIn_17 (⟨(by decide), ⟨(by decide), ⟨fun _ => AW.blk kX9_rescue_50 cX9_rescue_50 ((((((((h).2).1 c18).2).2).2).2).1 c17), fun c => absurd c (by decide)⟩⟩⟩), fun c17 => ⟨⟨(((((((((h).2).1 c18).2).2).2).2).2 c17).1).1, (((((((((h).2).1 c18).2).2).2).2).2 c17).1).2⟩, ⟨fun c16 => AW.blk kX9_isIn_17 cX9_isIn_17 (⟨(by decide), ⟨(by decide), ⟨fun _ => AW.blk kX9_rescue_50 cX9_rescue_50 ((((((((((h).2).1 c18).2).2).2).2).2 c17).2).1 c16), fun c => absurd c (by decide)⟩⟩⟩), fun c16 => AW.blk kX9_isIn_18 cX9_isIn_18 (⟨(by decide), ⟨(by decide), ⟨fun c => absurd c (by decide), fun _ => ⟨((((((((((h).2).1 c18).2).2).2).2).2 c17).2).2 c16).1, ⟨(((((((((((h).2).1 c18).2).2).2).2).2 c17).2).2 c16).2).1, AW.blk kX9_isIn_0 cX9_isIn_0 (⟨⟨((((((((((((h).2).1 c18).2).2).2).2).2 c17).2).2 c16).2).2).1, (by decide)⟩, ⟨fun c15 => AW.blk kX9_isIn_17 cX9_isIn_17 (⟨(by decide), ⟨(by decide), ⟨fun _ => AW.blk kX9_rescue_50 cX9_rescue_50 ((((((((((((((h).2).1 c18).2).2).2).2).2 c17).2).2 c16).2).2).2).1 c15), fun c => absurd c (by decide)⟩⟩⟩), fun c15 => ⟨⟨((((((((((((((h).2).1 c18).2).2).2).2).2 c17).2).2 c16).2).2).2).2 c15).1, (by decide)⟩, ⟨fun c14 => AW.blk kX9_isIn_17 cX9_isIn_17 (⟨(by decide), ⟨(by decide), ⟨fun _ => AW.blk kX9_rescue_50 cX9_rescue_50 ((((((((((((((((h).2).1 c18).2).2).2).2).2 c17).2).2 c16).2).2).2).2 c15).2).1 c14), fun c => absurd c (by decide)⟩⟩⟩), fun c14 => AW.blk kX9_isIn_18 cX9_isIn_18 (⟨(by decide), ⟨(by decide), ⟨fun c => absurd c (by decide), fun _ => ⟨⟨(((((((((((((((((h).2).1 c18).2).2).2).2).2 c17).2).2 c16).2).2).2).2 c15).2).2 c14).1).1, (((((((((((((((((h).2).1 c18).2).2).2).2).2 c17).2).2 c16).2).2).2).2 c15).2).2 c14).1).2⟩, AW.blk kX9_rescue_51 cX9_rescue_51 (((((((((((((((((h).2).1 c18).2).2).2).2).2 c17).2).2 c16).2).2).2).2 c15).2).2 c14).2)⟩⟩⟩⟩)⟩⟩⟩⟩)⟩⟩⟩⟩⟩)⟩⟩⟩⟩)⟩⟩⟩), fun c18 => ((h).2).2 c18⟩⟩)
theorem fstI_min (p : Int → Bool) {n u : Int} (h : fstI p n = u) (hu : u ≠ -1) : fstI p u = -1 := by
  have key : ∀ m : Nat, fstI p m ≠ -1 → fstI p (fstI p m) = -1 := by
    intro m
    induction m with
    | zero => intro h; exact absurd rfl h
    | succ m ih =>
      intro h
      rw [show ((m + 1 : Nat) : Int) = (m : Int) + 1 by omega] at h ⊢
      have hs := fstI_s p (i := (m : Int)) (by omega)
      by_cases c : fstI p (m : Int) = -1
      · rw [if_pos c] at hs
        by_cases c2 : p (m : Int) = true
        · rw [if_pos c2] at hs
          rw [hs]
          exact c
        · rw [if_neg c2] at hs
          exact absurd hs h
      · rw [if_neg c] at hs
        rw [hs]
        exact ih c
  have e : fstI p n = fstI p (n.toNat : Int) := by
    unfold fstI
    rw [show ((n.toNat : Nat) : Int).toNat = n.toNat by omega]
  rw [e] at h
  have := key n.toNat (by rw [h]; exact hu)
  rwa [h] at this
theorem smP_mono (S : Int → Int) {i j : Int} (h0 : 0 ≤ i) (h : i ≤ j) : smP S i ≤ smP S j := by
  have key : ∀ m : Nat, smP S i ≤ smP S (i + m) := by
    intro m
    induction m with
    | zero =>
      rw [show i + ((0 : Nat) : Int) = i by omega]
      exact Int.le_refl _
    | succ m ih =>
      have := smP_s S (t := i + m) (by omega)
      have := popc_nn (S (i + m))
      rw [show i + ((m + 1 : Nat) : Int) = i + m + 1 by omega]
      omega
  have := key (j - i).toNat
  rwa [show i + ((j - i).toNat : Int) = j by omega] at this
theorem popc_14 {x : Int} (hx : 0 ≤ x ∧ x < 16384) : popc x ≤ 14 := by
  rw [popc_low hx]
  exact (lowB_r x (by decide)).2
theorem smP_14 {S : Int → Int} {t : Int} (h : 0 ≤ t) (hS : ∀ u, 0 ≤ u → u < t → 0 ≤ S u ∧ S u < 16384) : smP S t ≤ 14 * t := by
  have key : ∀ m : Nat, (m : Int) ≤ t → smP S m ≤ 14 * m := by
    intro m
    induction m with
    | zero => intro _; exact Int.le_refl _
    | succ m ih =>
      intro hm
      have h1 := smP_s S (t := (m : Int)) (by omega)
      have h2 := popc_14 (hS m (by omega) (by omega))
      have h3 := ih (by omega)
      rw [show ((m + 1 : Nat) : Int) = (m : Int) + 1 by omega]
      omega
  have := key t.toNat (by omega)
  rwa [show ((t.toNat : Nat) : Int) = t by omega] at this
theorem smP_0 (S : Int → Int) : smP S 0 = 0 := rfl
def spG (S : Int → Int) (c : Int) : Int → Int := fun u => dropN (S u) (c - smP S u).toNat
theorem left_eq {S G : Int → Int} {tw c : Int} (hS : ∀ u, 0 ≤ u → u < tw → 0 ≤ S u ∧ S u < 16384) (hG : ∀ u, 0 ≤ u → u < tw → G u = spG S c u) (hc : 0 ≤ c) : ∀ m : Nat, (m : Int) ≤ tw → fstI (nzB G) m = fstI (tkB S c) m ∧ (fstI (tkB S c) m = -1 → smP S m ≤ c) := by
  intro m
  induction m with
  | zero => intro _; exact ⟨rfl, fun _ => hc⟩
  | succ m ih =>
    intro hm
    obtain ⟨h1, h2⟩ := ih (by omega)
    have hs := smP_s S (t := (m : Int)) (by omega)
    rw [show ((m + 1 : Nat) : Int) = (m : Int) + 1 by omega, fstI_s _ (by omega), fstI_s _ (by omega), h1]
    by_cases c1 : fstI (tkB S c) m = -1
    · rw [if_pos c1, if_pos c1]
      have hle := h2 c1
      have hd := dropN_z (hS m (by omega) (by omega)) (c - smP S m).toNat
      have hg := hG m (by omega) (by omega)
      by_cases c2 : c - smP S m < popc (S m)
      · have e1 : nzB G m = true := decide_eq_true (fun z => by
          rw [hg] at z
          have := hd.mp z
          omega)
        have e2 : tkB S c m = true := decide_eq_true c2
        rw [e1, e2]
        exact ⟨rfl, fun z => by rw [if_pos rfl] at z; omega⟩
      · have e1 : nzB G m = false := decide_eq_false (fun z => z (by
          rw [hg]
          exact hd.mpr (by omega)))
        have e2 : tkB S c m = false := decide_eq_false c2
        rw [e1, e2]
        exact ⟨rfl, fun _ => by omega⟩
    · rw [if_neg c1, if_neg c1]
      exact ⟨rfl, fun z => absurd z c1⟩
theorem tk_char {S : Int → Int} {tw c u : Int} (hc : 0 ≤ c) (h : fstI (tkB S c) tw = u) (hu : u ≠ -1) : (0 ≤ u ∧ u < tw) ∧ smP S u ≤ c ∧ c < smP S u + popc (S u) := by
  have hr := fstI_r (tkB S c) tw
  rw [h] at hr
  rcases hr with hr | ⟨a, b, e⟩
  · exact absurd hr hu
  · have e2 := of_decide_eq_true e
    have hm := fstI_min _ h hu
    have key : ∀ m : Nat, fstI (tkB S c) m = -1 → smP S m ≤ c := by
      intro m
      induction m with
      | zero => intro _; exact hc
      | succ m ih =>
        intro z
        rw [show ((m + 1 : Nat) : Int) = (m : Int) + 1 by omega] at z ⊢
        obtain ⟨z1, z2⟩ := (fstI_s1 _ (by omega)).mp z
        have := of_decide_eq_false z2
        have := smP_s S (t := (m : Int)) (by omega)
        omega
    have := key u.toNat (by rwa [show ((u.toNat : Nat) : Int) = u by omega])
    rw [show ((u.toNat : Nat) : Int) = u by omega] at this
    exact ⟨⟨a, b⟩, this, by omega⟩
theorem tk_here {S : Int → Int} {tw c t : Int} (t0 : 0 ≤ t) (t1 : t < tw) (h0 : smP S t ≤ c) (h1 : c < smP S t + popc (S t)) : fstI (tkB S c) tw = t := by
  refine fstI_hit _ t0 t1 ?_ (decide_eq_true (by omega))
  have key : ∀ m : Nat, (m : Int) ≤ t → fstI (tkB S c) m = -1 := by
    intro m
    induction m with
    | zero => intro _; rfl
    | succ m ih =>
      intro hm
      rw [show ((m + 1 : Nat) : Int) = (m : Int) + 1 by omega]
      refine (fstI_s1 _ (by omega)).mpr ⟨ih (by omega), decide_eq_false ?_⟩
      have := smP_s S (t := (m : Int)) (by omega)
      have := smP_mono S (i := (m : Int) + 1) (j := t) (by omega) (by omega)
      omega
  have := key t.toNat (by omega)
  rwa [show ((t.toNat : Nat) : Int) = t by omega] at this
theorem lowB_popc {x s : Int} (hx : 0 ≤ x ∧ x < 16384) (h0 : 0 ≤ s) (hb : tb x s.toNat = true) : lowB x s < popc x := by
  have h14 := tb_lt hx hb
  have hs := lowB_s x h0
  rw [hb, if_pos rfl] at hs
  have := lowB_mono x (i := s + 1) (by omega) (14 - s - 1).toNat
  rw [show s + 1 + ((14 - s - 1).toNat : Int) = 14 by omega] at this
  rw [popc_low hx]
  omega
theorem neB_lt {σ : SG} {t st b0 P : Int} (hb : 0 ≤ b0 ∧ b0 < P) : ∀ n : Nat, (n : Int) ≤ P → 0 ≤ (foI (neB σ t st) (b0, 0) n).1 ∧ (foI (neB σ t st) (b0, 0) n).1 < P := by
  intro n
  induction n with
  | zero => intro _; exact hb
  | succ n ih =>
    intro hn
    have ih := ih (by omega)
    rw [show ((n + 1 : Nat) : Int) = (n : Int) + 1 by omega, foI_s _ _ (by omega)]
    generalize foI (neB σ t st) (b0, 0) n = x at ih
    unfold neB
    split
    · exact ⟨by show 0 ≤ (n : Int); omega, by show (n : Int) < P; omega⟩
    · exact ih
theorem mneV_lt {σ : SG} {t : Int} (h0 : 3 ≤ σ 63 (8 + 2 * t)) (h1 : σ 63 (8 + 2 * t) ≤ 14) : 0 ≤ mneV σ t ∧ mneV σ t < 1 * 2 ^ Int.toNat (σ 63 (8 + 2 * t)) := by
  have hp2 := pow_r2 (i := σ 63 (8 + 2 * t)) (by omega) (by omega)
  unfold mneV
  generalize (1 : Int) * 2 ^ Int.toNat (σ 63 (8 + 2 * t)) = P at *
  split
  · have hl := band_le_l (x := P - 1) (y := bxor (mstV σ t) (-1)) (by omega) (by omega)
    have hn := band_nn (P - 1) (bxor (mstV σ t) (-1))
    have := neB_lt (σ := σ) (t := t) (st := mstV σ t) (b0 := band (P - 1) (bxor (mstV σ t) (-1))) (P := P) ⟨hn, by omega⟩ P.toNat (by omega)
    rw [show ((P.toNat : Nat) : Int) = P - 1 + 1 by omega] at this
    exact this
  · omega
theorem lowB_top {x h : Int} (h0 : 0 ≤ h) (h1 : h ≤ 14) (hx : 0 ≤ x ∧ x < 1 * 2 ^ Int.toNat h) (hx2 : x < 16384) : lowB x h = lowB x 14 := by
  have hu : un x < 2 ^ h.toNat := by
    rw [un_of hx.1 (by omega)]
    have : ((2 ^ h.toNat : Nat) : Int) = 2 ^ h.toNat := by push_cast; rfl
    omega
  have key : ∀ m : Nat, lowB x (h + m) = lowB x h := by
    intro m
    induction m with
    | zero => rw [show h + ((0 : Nat) : Int) = h by omega]
    | succ m ih =>
      have hf : tb x (h + m).toNat = false := by
        unfold tb
        apply Nat.testBit_lt_two_pow
        exact Nat.lt_of_lt_of_le hu (Nat.pow_le_pow_right (by decide) (by omega))
      rw [show h + ((m + 1 : Nat) : Int) = h + m + 1 by omega, lowB_s x (by omega), hf, if_neg (by decide)]
      exact ih
  have := key (14 - h).toNat
  rw [show h + ((14 - h).toNat : Int) = 14 by omega] at this
  exact this.symm
/-- the state of the reference's walk, c loans found -/
def RSC (σ : SG) (S N : Int → Int) (tw : Int) (c : Int) (τ : SG) : Prop := (∀ p, p ≠ 70 → p ≠ 73 → p ≠ 74 → τ p = σ p) ∧ (∀ u, 0 ≤ u → u < tw → τ 73 u = spG S c u) ∧ (∀ j, 0 ≤ j → j < c → τ 74 (4 * j) = fstI (tkB S j) tw ∧ τ 74 (4 * j + 1) = skV S j tw ∧ τ 74 (4 * j + 2) = fstI (tkB N j) tw ∧ τ 74 (4 * j + 3) = skV N j tw) ∧ c ≤ smP S tw
theorem spG_next {S : Int → Int} {tw c u : Int} (hS : ∀ w, 0 ≤ w → w < tw → 0 ≤ S w ∧ S w < 16384) (hc : 0 ≤ c) (u0 : 0 ≤ u) (h1 : smP S u ≤ c) (h2 : c < smP S u + popc (S u)) {w : Int} (w0 : 0 ≤ w) (w1 : w < tw) : spG S (c + 1) w = if w = u then dlB (spG S c u) else spG S c w := by
  unfold spG
  by_cases e : w = u
  · subst e
    rw [if_pos rfl, show (c + 1 - smP S w).toNat = (c - smP S w).toNat + 1 by omega]
    rfl
  · rw [if_neg e]
    by_cases e2 : w < u
    · have := smP_s S w0
      have := smP_mono S (i := w + 1) (j := u) (by omega) (by omega)
      rw [(dropN_z (hS w w0 w1) _).mpr (by omega), (dropN_z (hS w w0 w1) _).mpr (by omega)]
    · have := smP_s S u0
      have := smP_mono S (i := u + 1) (j := w) (by omega) (by omega)
      rw [show (c + 1 - smP S w).toNat = 0 by omega, show (c - smP S w).toNat = 0 by omega]
theorem SIM.q3 {n : Int} {σ τ : SG} {r q : Nat} (h : SIM n σ r q) (hp : ∀ p, p ≠ 70 → p ≠ 73 → p ≠ 74 → τ p = σ p) : SIM n τ r q := by
  have e : τ = putF (putF (putF σ 70 (τ 70)) 73 (τ 73)) 74 (τ 74) := by
    funext p i
    unfold putF
    by_cases c1 : p = 74
    · subst c1
      rw [if_pos rfl]
    · rw [if_neg c1]
      by_cases c2 : p = 73
      · subst c2
        rw [if_pos rfl]
      · rw [if_neg c2]
        by_cases c3 : p = 70
        · subst c3
          rw [if_pos rfl]
        · rw [if_neg c3, hp p c3 c2 c1]
  rw [e]
  exact ((h.eqv (EQV.pf h.rr.1 (p := 70) (by omega))).eqv (EQV.pf h.rr.1 (p := 73) (by omega))).eqv (EQV.pf h.rr.1 (p := 74) (by omega))
theorem csV_kth {x k : Int} (hk : k ≠ -1) (h : fstI (kthB x k) 24 ≠ -1) : csV x k = fstI (kthB x k) 24 + 1 := by
  unfold csV
  rw [if_neg hk, if_neg h]
theorem rescueMany_ok {d : Nat} {n : Int} {σ : SG} {r q : Nat} {Q : Option AV → SG → Prop} (h : SIM n σ r q) (hd : 20 ≤ d) (hq1 : ∀ τ, RSC σ (mspV σ) (mneV σ) (σ r 0) (smP (mneV σ) (σ r 0)) τ → ¬ smP (mspV σ) (σ r 0) < smP (mneV σ) (σ r 0) → Q (some (.inl (smP (mneV σ) (σ r 0)))) τ) (hq2 : ∀ τ, (∀ p, p ≠ 70 → p ≠ 73 → p ≠ 74 → τ p = σ p) → smP (mspV σ) (σ r 0) < smP (mneV σ) (σ r 0) → Q (some (.inl (-1))) τ) : AW d mX9_rescueMany 0 [some (.inr (.inr 42)), none, none, none, none, none, none] [] σ Q := by
  obtain ⟨hr, _, hx, _⟩ := h.rr
  obtain ⟨hLR, hSR, hML, hMG, hRL, hN, hW⟩ := h.lr
  have hR : ∀ u, 0 ≤ u → u < σ r 0 → (0 ≤ mspV σ u ∧ mspV σ u < 16384) ∧ (0 ≤ mneV σ u ∧ mneV σ u < 16384) := fun u u0 u1 => by
    obtain ⟨⟨hh1, hh2, t4⟩, h63, _⟩ := h.tw u0 u1
    exact mspV_r (σ := σ) (t := u) (by omega) (by omega) hML
  have hS : ∀ u, 0 ≤ u → u < σ r 0 → 0 ≤ mspV σ u ∧ mspV σ u < 16384 := fun u a b => (hR u a b).1
  generalize hSe : mspV σ = S at hS hq1 hq2
  generalize hNe : mneV σ = N at hq1 hq2
  generalize htw : σ r 0 = tw at hS hq1 hq2
  have e4 : ∀ τ : SG, (∀ p, p ≠ 70 → p ≠ 73 → p ≠ 74 → τ p = σ p) → τ 61 4 = tw := fun τ z => by rw [z 61 (by decide) (by decide) (by decide), ← htw]; exact hN.2.2.2.2.1
  -- the second loop
  have two : ∀ t, 0 ≤ t → t ≤ tw → ∀ τ, RSC σ S N tw (smP N t) τ → AW d mX9_rescueMany 31 [some (.inr (.inr 42)), some (.inl (smP N t)), some (.inl t), none, none, none, none] [] τ Q := by
    intro t t0 t1
    refine downInd (P := fun t => 0 ≤ t → ∀ τ, RSC σ S N tw (smP N t) τ → AW d mX9_rescueMany 31 [some (.inr (.inr 42)), some (.inl (smP N t)), some (.inl t), none, none, none, none] [] τ Q) (lo := t) (hi := tw) t1 ?_ ?_ t0
    · intro _ τ hτ
      refine mrm_31 ?_
      rw [e4 τ hτ.1]
      have := hτ.2.2.2
      exact ⟨by omega, by omega, fun _ => hq1 τ hτ (by omega), fun c => by omega⟩
    · intro t _ t1 ih t0 τ hτ
      have hSt := h.q3 hτ.1
      have hms := hSt.msO (t := t) t0 (by rw [hτ.1 r (by omega) (by omega) (by omega), htw]; exact t1) (d - 1) (by omega)
      have hv : mneV τ t = N t := by rw [(mspV_q (hτ.1 61 (by decide) (by decide) (by decide)) (hτ.1 63 (by decide) (by decide) (by decide)) (hτ.1 64 (by decide) (by decide) (by decide)) (hτ.1 69 (by decide) (by decide) (by decide)) t).2, hNe]
      obtain ⟨⟨hh1, hh2, t4⟩, h63, _⟩ := h.tw t0 (by rw [htw]; exact t1)
      have hNr : 0 ≤ N t ∧ N t < 16384 := by rw [← hNe]; exact (hR t t0 (by rw [htw]; exact t1)).2
      refine mrm_31 ?_
      rw [e4 τ hτ.1, hv]
      refine ⟨by omega, by omega, fun c => by omega, fun _ => ⟨by omega, hms, fun f70 => ?_⟩⟩
      have hN14 : smP N (t + 1) ≤ 14 * (t + 1) := smP_14 (by omega) (fun u a b => by rw [← hNe]; exact (hR u a (by omega)).2)
      have hNm : ∀ s, lowB (N t) s ≤ popc (N t) → smP N t + lowB (N t) s ≤ 56 := fun s z => by
        have := smP_s N t0
        omega
      have hNt := smP_s N t0
      have hN0 := (smP_r N t0).1
      have key := downInd (P := fun s => ∀ τ, RSC σ S N tw (smP N t + lowB (N t) (s - 1)) τ → AW d mX9_rescueMany 48 [some (.inr (.inr 42)), some (.inl (smP N t + lowB (N t) (s - 1))), some (.inl t), some (.inl (N t)), some (.inl s), none, none] [] τ Q) (lo := 1) (hi := σ 63 (8 + 2 * t) + 1) (by omega) ?_ ?_ (putF τ 70 f70) ?_
      · have e : lowB (N t) (1 - 1) = 0 := rfl
        rw [e, show smP N t + 0 = smP N t by omega] at key
        exact key
      · intro τ hτ
        have e63 : τ 63 = σ 63 := hτ.1 63 (by decide) (by decide) (by decide)
        refine mrm_48 ?_
        rw [e63]
        refine ⟨by omega, by omega, by omega, fun _ => ?_, fun c => by omega⟩
        have ee : smP N t + lowB (N t) (σ 63 (8 + 2 * t) + 1 - 1) = smP N (t + 1) := by
          have hlt := mneV_lt (σ := σ) (t := t) (by omega) (by omega)
          rw [hNe] at hlt
          rw [smP_s N t0, popc_low hNr, show σ 63 (8 + 2 * t) + 1 - 1 = σ 63 (8 + 2 * t) by omega, lowB_top (by omega) (by omega) hlt hNr.2]
        rw [ee] at hτ ⊢
        exact ih (by omega) τ hτ
      · intro s s0 s1 ihs τ hτ
        have e63 : τ 63 = σ 63 := hτ.1 63 (by decide) (by decide) (by decide)
        have hb := sh1 (x := N t) (k := Int.toNat (s - 1)) hNr.1 (by omega)
        have hls := lowB_s (N t) (i := s - 1) (by omega)
        rw [show s - 1 + 1 = s by omega] at hls
        have hl0 := (lowB_r (N t) (i := s - 1) (by omega)).1
        refine mrm_48 ?_
        rw [e63, e4 τ hτ.1, hb]
        cases htb : tb (N t) (s - 1).toNat
        · rw [htb, if_neg (by decide)] at hls
          have := ihs τ
          rw [show s + 1 - 1 = s by omega, hls] at this
          refine ⟨by omega, by omega, by omega, fun c => by omega, fun _ => ⟨by omega, ?_, fun c => absurd rfl c, fun _ => this hτ⟩⟩
          decide
        · rw [htb, if_pos rfl] at hls
          have hlp := lowB_popc hNr (show 0 ≤ s - 1 by omega) htb
          obtain ⟨hτ1, hτ2, hτ3, hτ4⟩ := hτ
          generalize hc : smP N t + lowB (N t) (s - 1) = c at *
          have hc0 : 0 ≤ c := by omega
          have hl := (left_eq hS hτ2 hc0 tw.toNat (by omega))
          rw [show ((tw.toNat : Nat) : Int) = tw by omega] at hl
          have hG : ∀ u, 0 ≤ u → u < tw → 0 ≤ τ 73 u ∧ τ 73 u < 16384 := fun u a b => by
            rw [hτ2 u a b]
            exact dropN_r (hS u a b) _
          rw [hl.1]
          generalize hu : fstI (tkB S c) tw = u at hl
          have hfr := fstI_r (tkB S c) tw
          rw [hu] at hfr
          have h56 : c ≤ 55 := by omega
          refine ⟨by omega, by omega, by omega, fun c => by omega, fun _ => ⟨by omega, by decide, fun _ => ⟨by omega, ⟨by omega, by omega, by omega, fun w w0 w1 => ?_⟩, by omega, fun hu1 => ?_, fun hu1 => ?_⟩, fun c => absurd c (by decide)⟩⟩
          · have := hG w w0 w1
            omega
          · obtain ⟨hu0, huS, huP⟩ := tk_char hc0 hu hu1
            have hGu := hG u hu0.1 hu0.2
            have hz : τ 73 u ≠ 0 := by
              rw [hτ2 u hu0.1 hu0.2]
              intro z
              have := (dropN_z (hS u hu0.1 hu0.2) _).mp z
              omega
            have hk0 := kth0_ex hGu hz
            have hkk : fstI (kthB (τ 73 u) 0) 24 = fstI (kthB (S u) (c - smP S u)) 24 := by
              apply kthB_eq
              intro m
              have := dropN_kth (hS u hu0.1 hu0.2) (c - smP S u).toNat (by omega) 0 m
              rw [hτ2 u hu0.1 hu0.2]
              unfold spG
              rw [show ((0 : Nat) : Int) = 0 from rfl] at this
              rw [this, show (0 : Int) + ((c - smP S u).toNat : Int) = c - smP S u by omega]
            refine ⟨by omega, by omega, by omega, by omega, by omega, by omega, fun S6 e6 => ⟨by omega, fun S7 e7 => ⟨by omega, fun S8 e8 => ⟨by omega, fun S9 e9 => ⟨by omega, fun SA eA => ?_⟩⟩⟩⟩⟩
            have := ihs SA
            rw [show s + 1 - 1 = s by omega, hls, ← Int.add_assoc, hc] at this
            refine this ?_
            have hA : ∀ p, p ≠ 73 → p ≠ 74 → SA p = τ p := fun p a b => by
              rw [eA, e9, e8, e7, e6, up_putF, putF_ne b, up_putF, putF_ne b, up_putF, putF_ne b, up_putF, putF_ne b, up_putF, putF_ne a]
            refine ⟨fun p a b c => by rw [hA p b c]; exact hτ1 p a b c, fun w w0 w1 => ?_, fun j j0 j1 => ?_, by have := smP_s S hu0.1; have := smP_mono S (i := u + 1) (j := tw) (by omega) (by omega); omega⟩
            · have e73 : SA 73 w = if w = u then dlB (τ 73 u) else τ 73 w := by
                rw [eA, e9, e8, e7, up_putF, putF_ne (by decide), up_putF, putF_ne (by decide), up_putF, putF_ne (by decide), up_putF, putF_ne (by decide), e6, up_putF, putF_at]
                rfl
              rw [e73, spG_next hS hc0 hu0.1 huS huP w0 w1, hτ2 u hu0.1 hu0.2, hτ2 w w0 w1]
            · have e74 : ∀ i, SA 74 i = if i = 4 * c + 3 then s else if i = 4 * c + 2 then t else if i = 4 * c + 1 then fstI (kthB (τ 73 u) 0) 24 + 1 else if i = 4 * c then u else τ 74 i := by
                intro i
                rw [eA, e9, e8, e7, e6]
                unfold up
                simp only [and_true, true_and, if_false, and_false, show ((74 : Nat) = 73) = False from by decide, false_and, true_and]
              by_cases cj : j = c
              · subst cj
                have htk := tk_here (S := N) (tw := tw) (c := j) t0 t1 (by omega) (by omega)
                have hkh := kth_here (x := N t) (s := s - 1) (n := 24) (by omega) (by omega) htb
                have esk : skV S j tw = fstI (kthB (τ 73 u) 0) 24 + 1 := by
                  unfold skV
                  rw [hu, if_neg hu1, csV_kth (by omega) (by rw [← hkk]; omega), hkk]
                have esn : skV N j tw = s := by
                  unfold skV
                  rw [htk, if_neg (by omega), show j - smP N t = lowB (N t) (s - 1) by omega, csV_kth (by omega) (by rw [hkh]; omega), hkh]
                  omega
                rw [esk, esn, htk, hu, e74, e74, e74, e74]
                refine ⟨?_, ?_, ?_, ?_⟩
                · rw [if_neg (by omega), if_neg (by omega), if_neg (by omega), if_pos rfl]
                · rw [if_neg (by omega), if_neg (by omega), if_pos rfl]
                · rw [if_neg (by omega), if_pos rfl]
                · rw [if_pos rfl]
              · rw [e74, e74, e74, e74, if_neg (by omega), if_neg (by omega), if_neg (by omega), if_neg (by omega), if_neg (by omega), if_neg (by omega), if_neg (by omega), if_neg (by omega), if_neg (by omega), if_neg (by omega), if_neg (by omega), if_neg (by omega), if_neg (by omega), if_neg (by omega), if_neg (by omega), if_neg (by omega)]
                exact hτ3 j j0 (by omega)
          · refine hq2 τ hτ1 ?_
            have := hl.2 hu1
            have := smP_mono N (i := t + 1) (j := tw) (by omega) (by omega)
            omega
      · have e : lowB (N t) (1 - 1) = 0 := rfl
        rw [e, show smP N t + 0 = smP N t by omega]
        refine ⟨fun p a b c => by rw [putF_ne a]; exact hτ.1 p a b c, ?_, ?_, hτ.2.2.2⟩
        · rw [putF_ne (by decide)]
          exact hτ.2.1
        · rw [putF_ne (by decide)]
          exact hτ.2.2.1
  -- the first loop
  have tw0 : 0 ≤ tw := by rw [← htw]; exact hN.1
  have one := downInd (P := fun t => ∀ τ : SG, (∀ p, p ≠ 70 → p ≠ 73 → p ≠ 74 → τ p = σ p) → (∀ u, 0 ≤ u → u < t → τ 73 u = S u) → AW d mX9_rescueMany 4 [some (.inr (.inr 42)), some (.inl 0), some (.inl t), none, none, none, none] [] τ Q) (lo := 0) (hi := tw) tw0 ?_ ?_ σ (fun _ _ _ _ => rfl) (fun u a b => by omega)
  · exact mrm_0 one
  · intro τ z hu
    refine mrm_4 ?_
    rw [e4 τ z]
    refine ⟨by omega, by omega, fun _ => ?_, fun c => by omega⟩
    refine two 0 (by omega) tw0 τ ⟨z, fun u a b => ?_, fun j a b => by rw [smP_0] at b; omega, (smP_r S tw0).1⟩
    rw [hu u a b]
    unfold spG
    rw [smP_0, show (0 - smP S u).toNat = 0 by have := (smP_r S a).1; omega]
    rfl
  · intro t t0 t1 ih τ z hu
    have hSt := h.q3 z
    have hms := hSt.msO (t := t) t0 (by rw [z r (by omega) (by omega) (by omega), htw]; exact t1) (d - 1) (by omega)
    have hv : mspV τ t = S t := by rw [(mspV_q (z 61 (by decide) (by decide) (by decide)) (z 63 (by decide) (by decide) (by decide)) (z 64 (by decide) (by decide) (by decide)) (z 69 (by decide) (by decide) (by decide)) t).1, hSe]
    obtain ⟨⟨hh1, hh2, t4⟩, h63, _⟩ := h.tw t0 (by rw [htw]; exact t1)
    refine mrm_4 ?_
    rw [e4 τ z, hv]
    refine ⟨by omega, by omega, fun c => by omega, fun _ => ⟨by omega, hms, fun f70 => ⟨by omega, fun S2 e2 => ih S2 ?_ ?_⟩⟩⟩
    · intro p a b c
      rw [e2, up_putF, putF_ne b, putF_ne a]
      exact z p a b c
    · intro u a b
      rw [e2, up_putF, putF_at, putF_ne (by decide)]
      by_cases c : u = t
      · subst c
        exact if_pos rfl
      · show (if u = t then S t else τ 73 u) = S u
        rw [if_neg c]
        exact hu u a (by omega)
theorem call_rescue {d : Nat} {n : Int} {σ : SG} {r q : Nat} {k w : Int} (hd : 100 ≤ d) (h : SIM n σ r q) (hk : r3 k) (hw : r3 w) : AW d mX8_rescue 0 [some (.inr (.inr 0)), some (.inl k), some (.inl w), none, none, none] [] σ (SAME d n r q mX9_rescue [some (.inr (.inr 42)), some (.inl k), some (.inl w), none]) := by
  refine rescue_sim h hk hw (by omega) (fun A B => ?_)
  have hS := h.p3 A B
  obtain ⟨hr, _, hx, _⟩ := h.rr
  obtain ⟨_, _, hML, _, _, hN, _⟩ := h.lr
  have hv : mspV (putF (putF σ 31 A) 32 B) = mspV σ := funext fun t => (p3_mV σ A B t).1
  have hu : mneV (putF (putF σ 31 A) 32 B) = mneV σ := funext fun t => (p3_mV σ A B t).2
  have zr : putF (putF σ 31 A) 32 B r = σ r := by rw [putF_ne (by omega), putF_ne (by omega)]
  have e0 : seB 0 σ = mneV σ := funext fun t => if_pos rfl
  have e1 : seB 1 σ = mspV σ := funext fun t => if_neg (by decide)
  have s0 := smP_r (mneV σ) hN.1
  unfold rsV
  rw [e0, e1]
  unfold SAME
  refine mr_0 ⟨by omega, ?_⟩
  refine rescueMany_ok hS (by omega) ?_ ?_
  · rw [hv, hu, zr]
    intro τ hτ hno
    have hT := hS.q3 hτ.1
    have h56 : smP (mneV σ) (σ r 0) ≤ 14 * σ r 0 := smP_14 hN.1 (fun u a b => by
      obtain ⟨⟨hh1, hh2, t4⟩, h63, _⟩ := h.tw a b
      exact (mspV_r (σ := σ) (t := u) (by omega) (by omega) hML).2)
    rw [if_neg hno]
    refine mr_4 ⟨hk, fun c1 => ⟨by omega, by omega, by omega, by omega, fun c2 => ?_, fun c2 => ⟨by omega, fun c3 => ?_, fun c3 => ⟨by omega, by omega, by omega, fun c4 => ?_, fun c4 => ⟨by omega, fun c5 => ?_, fun c5 => ⟨by omega, ?_⟩⟩⟩⟩⟩, fun c1 => ?_⟩
    · rw [if_neg c1, if_pos (Or.inl c2)]
      exact ⟨rfl, hT⟩
    · rw [if_neg c1, if_pos (Or.inr (by omega))]
      exact ⟨rfl, hT⟩
    · rw [if_neg c1, if_neg (by omega), if_neg (by omega), if_neg (by omega), if_neg (by omega), if_neg (by omega)]
      exact ⟨rfl, hT⟩
    · rw [if_neg c1, if_neg (by omega), if_neg (by omega), if_neg (by omega), if_neg (by omega), if_neg (by omega)]
      exact ⟨rfl, hT⟩
    · rw [if_neg c1, if_neg (show ¬ (k < 0 ∨ smP (mneV σ) (σ r 0) ≤ k) by omega)]
      obtain ⟨g0, g1, g2, g3⟩ := hτ.2.2.1 k c2 (by omega)
      refine ⟨?_, hT⟩
      have hw' : w = 0 ∨ w = 1 ∨ w = 2 ∨ w = 3 := by omega
      rcases hw' with e | e | e | e <;> subst e
      · rw [if_pos rfl, show 4 * k + 0 = 4 * k by omega, g0]
      · rw [if_neg (by decide), if_pos rfl, g1]
      · rw [if_neg (by decide), if_neg (by decide), if_pos rfl, g2]
      · rw [if_neg (by decide), if_neg (by decide), if_neg (by decide), if_pos rfl, g3]
    · rw [if_pos c1]
      exact ⟨rfl, hT⟩
  · rw [hv, hu, zr]
    intro τ hτ hlt
    have hT := hS.q3 hτ
    rw [if_pos hlt]
    exact mr_4 ⟨hk, fun c1 => ⟨by omega, by omega, by omega, by omega, fun c2 => ⟨rfl, hT⟩, fun c2 => ⟨by omega, fun c3 => ⟨rfl, hT⟩, fun c3 => by omega⟩⟩, fun c1 => ⟨rfl, hT⟩⟩
