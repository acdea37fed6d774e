/-! ===== realm (wip/whole/gen9a.py) ===== -/
def kX8_realm_0 : List BI := [bi (.aload_n 0) 1 [] 0, bi (.getfield 21) 3 [8, 1] 0, bi (.invokevirtual 82) 3 [mX5_read, 1, 2, 5] 0]
theorem cX8_realm_0 : chk mX8_realm 0 kX8_realm_0 = true := by decide +kernel
theorem xR_0 {d : Nat} {σ : SG} {Q : Option AV → SG → Prop} (h : (0 < d) ∧ AW (d - 1) mX5_read 0 [some (.inr (.inr 4)), none] [] σ (fun rr σ' => AW d mX8_realm 7 [some (.inr (.inr 0)), none, none] (rtS rr []) σ' Q)) : AW d mX8_realm 0 [some (.inr (.inr 0)), none, none] [] σ Q := AW.blk kX8_realm_0 cX8_realm_0 (⟨(h).1, (h).2⟩)
def kX8_realm_49 : List BI := [bi (.putfield 86) 3 [5, 1] 0, bi (.aload_n 0) 1 [] 0, bi (.aload_n 2) 1 [] 0, bi (.putfield 70) 3 [8, 9] 0]
theorem cX8_realm_49 : chk mX8_realm 49 kX8_realm_49 = true := by decide +kernel
def kX8_realm_40 : List BI := [bi (.astore_n 2) 1 [] 0, bi (.aload_n 0) 1 [] 0, bi (.getfield 21) 3 [8, 1] 0, bi (.aload_n 0) 1 [] 0, bi (.getfield 70) 3 [8, 9] 0]
theorem cX8_realm_40 : chk mX8_realm 40 kX8_realm_40 = true := by decide +kernel
def kX8_realm_33 : List BI := [bi (.aload_n 0) 1 [] 0, bi (.getfield 21) 3 [8, 1] 0, bi (.getfield 86) 3 [5, 1] 0]
theorem cX8_realm_33 : chk mX8_realm 33 kX8_realm_33 = true := by decide +kernel
def kX8_realm_7 : List BI := [bi (.istore_n 1) 1 [] 0, bi (.aload_n 0) 1 [] 0, bi (.getfield 10) 3 [8, 0] 0, bi (.iconst 0) 1 [] 0, bi (.putfield 74) 3 [7, 1] 0, bi (.iload_n 1) 1 [] 0, bi (.iconst (-1)) 1 [] 0, bi (.if_icmp .ne (15)) 3 [33] 0, bi (.aload_n 0) 1 [] 0, bi (.getfield 63) 3 [8, 8] 0, bi (.iconst 1) 1 [] 0, bi (.dup2) 1 [] 0, bi (.iaload) 1 [] 0, bi (.iconst 1) 1 [] 0, bi (.iadd) 1 [] 0, bi (.iastore) 1 [] 0, bi (.iconst (-1)) 1 [] 0, bi (.ireturn) 1 [] 0]
theorem cX8_realm_7 : chk mX8_realm 7 kX8_realm_7 = true := by decide +kernel
theorem xR_7 {d : Nat} {σ : SG} {Q : Option AV → SG → Prop} {s0 : Int} {r : Nat} (hr : r = 5 ∨ r = 16) {q : Nat} (hq : q = 5 ∨ q = 16) (hx : (σ 0 9).toNat = r) (hy : (σ 4 1).toNat = q) (h : (∀ S1 : SG, S1 = up σ 2 1 0 → (r3 s0) ∧ (s0 ≠ (-1) → (∀ S2 : SG, S2 = up S1 4 1 ((r : Nat) : Int) → (∀ S3 : SG, S3 = up S2 0 9 ((q : Nat) : Int) → AW d mX8_realm 57 [some (.inr (.inr 0)), some (.inl s0), none] [] S3 Q))) ∧ (s0 = (-1) → (∀ S4 : SG, S4 = up S1 1 1 ((S1 1 1) + 1) → Q (some (.inl ((-1)))) S4)))) : AW d mX8_realm 7 [some (.inr (.inr 0)), none, none] [.inl s0] σ Q := by
  rcases hr with rfl | rfl <;> rcases hq with rfl | rfl <;> exact AW.blk kX8_realm_7 cX8_realm_7 (⟨⟨((h) _ rfl).1, (by decide)⟩, ⟨fun c5 => AW.blk kX8_realm_33 cX8_realm_33 (aw_rl hy (AW.blk kX8_realm_40 cX8_realm_40 (aw_rl hx (AW.blk kX8_realm_49 cX8_realm_49 (AW.drop 2 ((((((h) _ rfl).2).1 c5) _ rfl) _ rfl)))))), fun c5 => ⟨⟨(by decide), (by decide)⟩, ⟨⟨(by decide), (by decide)⟩, ((((h) _ rfl).2).2 c5) _ rfl⟩⟩⟩⟩)
def kX8_realm_57 : List BI := [bi (.aload_n 0) 1 [] 0, bi (.getfield 42) 3 [8, 4] 0, bi (.aload_n 0) 1 [] 0, bi (.getfield 70) 3 [8, 9] 0]
theorem cX8_realm_57 : chk mX8_realm 57 kX8_realm_57 = true := by decide +kernel
theorem xR_57 {d : Nat} {σ : SG} {Q : Option AV → SG → Prop} {l1 : Int} (h : AW d mX8_realm 65 [some (.inr (.inr 0)), some (.inl l1), none] [.inr (.inr ((σ 0 9).toNat)), .inr (.inr 34)] σ Q) : AW d mX8_realm 57 [some (.inr (.inr 0)), some (.inl l1), none] [] σ Q := AW.blk kX8_realm_57 cX8_realm_57 (h)
def kX8_realm_65 : List BI := [bi (.invokevirtual 87) 3 [mX6_beginWith, 2, 5, 6] 0]
theorem cX8_realm_65 : chk mX8_realm 65 kX8_realm_65 = true := by decide +kernel
theorem xR_65 {d : Nat} {σ : SG} {Q : Option AV → SG → Prop} {l1 : Int} {q : Nat} (hq : q = 5 ∨ q = 16) (h : (0 < d) ∧ AW (d - 1) mX6_beginWith 0 [some (.inr (.inr 34)), some (.inr (.inr q)), none, none, none] [] σ (fun rr σ' => AW d mX8_realm 68 [some (.inr (.inr 0)), some (.inl l1), none] (rtS rr []) σ' Q)) : AW d mX8_realm 65 [some (.inr (.inr 0)), some (.inl l1), none] [.inr (.inr q), .inr (.inr 34)] σ Q := by
  rcases hq with rfl | rfl <;> exact AW.blk kX8_realm_65 cX8_realm_65 (⟨(h).1, (h).2⟩)
def kX0_forget_0 : List BI := [bi (.aload_n 0) 1 [] 0, bi (.iconst 0) 1 [] 0, bi (.putfield 21) 3 [0, 2] 0, bi (.return_) 1 [] 0]
theorem cX0_forget_0 : chk mX0_forget 0 kX0_forget_0 = true := by decide +kernel
def kX8_realm_68 : List BI := [bi (.aload_n 0) 1 [] 0, bi (.getfield 52) 3 [8, 6] 0, bi (.invokevirtual 91) 3 [mX0_forget, 1, 1, 0] 0, bi (.iload_n 1) 1 [] 0, bi (.ireturn) 1 [] 0]
theorem cX8_realm_68 : chk mX8_realm 68 kX8_realm_68 = true := by decide +kernel
theorem xR_68 {d : Nat} {σ : SG} {Q : Option AV → SG → Prop} {l1 : Int} (h : (0 < d) ∧ (∀ S6 : SG, S6 = up σ 38 2 0 → Q (some (.inl l1)) S6)) : AW d mX8_realm 68 [some (.inr (.inr 0)), some (.inl l1), none] [] σ Q := AW.blk kX8_realm_68 cX8_realm_68 (⟨(h).1, AW.blk kX0_forget_0 cX0_forget_0 (((h).2) _ rfl)⟩)
def kX6_beginWith_0 : List BI := [bi (.iconst 0) 1 [] 0, bi (.istore_n 2) 1 [] 0]
theorem cX6_beginWith_0 : chk mX6_beginWith 0 kX6_beginWith_0 = true := by decide +kernel
theorem sB_0 {d : Nat} {σ : SG} {Q : Option AV → SG → Prop} {r : Nat} (hr : r = 5 ∨ r = 16) (h : AW d mX6_beginWith 2 [some (.inr (.inr 34)), some (.inr (.inr r)), some (.inl 0), none, none] [] σ Q) : AW d mX6_beginWith 0 [some (.inr (.inr 34)), some (.inr (.inr r)), none, none, none] [] σ Q := by
  rcases hr with rfl | rfl <;> exact AW.blk kX6_beginWith_0 cX6_beginWith_0 (h)
def kX6_beginWith_22 : List BI := [bi (.iconst 0) 1 [] 0, bi (.istore_n 2) 1 [] 0]
theorem cX6_beginWith_22 : chk mX6_beginWith 22 kX6_beginWith_22 = true := by decide +kernel
def kX6_beginWith_2 : List BI := [bi (.iload_n 2) 1 [] 0, bi (.sipush (214)) 3 [] 0, bi (.if_icmp .ge (16)) 3 [22] 0, bi (.aload_n 0) 1 [] 0, bi (.getfield 11) 3 [6, 0] 0, bi (.iload_n 2) 1 [] 0, bi (.iconst 0) 1 [] 0, bi (.iastore) 1 [] 0, bi (.iinc 2 (1)) 3 [] 0, bi (.goto (-17)) 3 [2] 0]
theorem cX6_beginWith_2 : chk mX6_beginWith 2 kX6_beginWith_2 = true := by decide +kernel
theorem sB_2 {d : Nat} {σ : SG} {Q : Option AV → SG → Prop} {l2 : Int} {r : Nat} (hr : r = 5 ∨ r = 16) (h : (r3 l2) ∧ (214 ≤ l2 → AW d mX6_beginWith 24 [some (.inr (.inr 34)), some (.inr (.inr r)), some (.inl 0), none, none] [] σ Q) ∧ (l2 < 214 → (0 ≤ l2 ∧ l2 < 214) ∧ (∀ S7 : SG, S7 = up σ 35 l2 0 → AW d mX6_beginWith 2 [some (.inr (.inr 34)), some (.inr (.inr r)), some (.inl (l2 + 1)), none, none] [] S7 Q))) : AW d mX6_beginWith 2 [some (.inr (.inr 34)), some (.inr (.inr r)), some (.inl l2), none, none] [] σ Q := by
  rcases hr with rfl | rfl <;> exact AW.blk kX6_beginWith_2 cX6_beginWith_2 (⟨⟨(h).1, (by decide)⟩, ⟨fun c8 => AW.blk kX6_beginWith_22 cX6_beginWith_22 (((h).2).1 c8), fun c8 => ⟨⟨((((h).2).2 c8).1).1, ((((h).2).2 c8).1).2⟩, ((((h).2).2 c8).2) _ rfl⟩⟩⟩)
def kX6_beginWith_68 : List BI := [bi (.aload_n 1) 1 [] 0, bi (.getfield 33) 3 [4, 14] 0, bi (.astore_n 2) 1 [] 0, bi (.iconst 0) 1 [] 0, bi (.istore_n 3) 1 [] 0]
theorem cX6_beginWith_68 : chk mX6_beginWith 68 kX6_beginWith_68 = true := by decide +kernel
def kX6_beginWith_24 : List BI := [bi (.iload_n 2) 1 [] 0, bi (.aload_n 1) 1 [] 0, bi (.getfield 21) 3 [4, 0] 0, bi (.if_icmp .ge (39)) 3 [68] 0, bi (.iconst 1) 1 [] 0, bi (.aload_n 1) 1 [] 0, bi (.getfield 27) 3 [4, 6] 0, bi (.iload_n 2) 1 [] 0, bi (.iaload) 1 [] 0, bi (.ishl) 1 [] 0, bi (.iconst 1) 1 [] 0, bi (.isub) 1 [] 0, bi (.istore_n 3) 1 [] 0, bi (.aload_n 0) 1 [] 0, bi (.getfield 11) 3 [6, 0] 0, bi (.bipush (6)) 2 [] 0, bi (.iload_n 2) 1 [] 0, bi (.iadd) 1 [] 0, bi (.iload_n 3) 1 [] 0, bi (.aload_n 1) 1 [] 0, bi (.getfield 30) 3 [4, 8] 0, bi (.iload_n 2) 1 [] 0, bi (.iaload) 1 [] 0, bi (.iconst (-1)) 1 [] 0, bi (.ixor) 1 [] 0, bi (.iand) 1 [] 0, bi (.iastore) 1 [] 0, bi (.iinc 2 (1)) 3 [] 0, bi (.goto (-41)) 3 [24] 0]
theorem cX6_beginWith_24 : chk mX6_beginWith 24 kX6_beginWith_24 = true := by decide +kernel
theorem sB_24 {d : Nat} {σ : SG} {Q : Option AV → SG → Prop} {l2 : Int} {r : Nat} (hr : r = 5 ∨ r = 16) (h : (r3 l2 ∧ r3 (σ r 0)) ∧ ((σ r 0) ≤ l2 → AW d mX6_beginWith 75 [some (.inr (.inr 34)), some (.inr (.inr r)), some (.inr (.inr (r + 10))), some (.inl 0), none] [] σ Q) ∧ (l2 < (σ r 0) → (0 ≤ l2 ∧ l2 < 4) ∧ (0 ≤ (σ (r + 2) l2) ∧ (σ (r + 2) l2) < 32) ∧ (0 ≤ l2 ∧ l2 < 4) ∧ (0 ≤ (6 + l2) ∧ (6 + l2) < 214) ∧ (∀ S9 : SG, S9 = up σ 35 (6 + l2) (band ((1 * 2 ^ Int.toNat (σ (r + 2) l2)) - 1) (bxor (σ (r + 4) l2) (-1))) → AW d mX6_beginWith 24 [some (.inr (.inr 34)), some (.inr (.inr r)), some (.inl (l2 + 1)), none, none] [] S9 Q))) : AW d mX6_beginWith 24 [some (.inr (.inr 34)), some (.inr (.inr r)), some (.inl l2), none, none] [] σ Q := by
  rcases hr with rfl | rfl <;> exact AW.blk kX6_beginWith_24 cX6_beginWith_24 (⟨⟨((h).1).1, ((h).1).2⟩, ⟨fun c10 => AW.blk kX6_beginWith_68 cX6_beginWith_68 (((h).2).1 c10), fun c10 => ⟨⟨((((h).2).2 c10).1).1, ((((h).2).2 c10).1).2⟩, ⟨⟨(((((h).2).2 c10).2).1).1, (((((h).2).2 c10).2).1).2⟩, ⟨⟨((((((h).2).2 c10).2).2).1).1, ((((((h).2).2 c10).2).2).1).2⟩, ⟨⟨(((((((h).2).2 c10).2).2).2).1).1, (((((((h).2).2 c10).2).2).2).1).2⟩, AW.drop 3 ((((((((h).2).2 c10).2).2).2).2) _ rfl)⟩⟩⟩⟩⟩⟩)
def kX6_beginWith_128 : List BI := [bi (.return_) 1 [] 0]
theorem cX6_beginWith_128 : chk mX6_beginWith 128 kX6_beginWith_128 = true := by decide +kernel
def kX6_beginWith_75 : List BI := [bi (.iload_n 3) 1 [] 0, bi (.aload_n 1) 1 [] 0, bi (.getfield 36) 3 [4, 3] 0, bi (.if_icmp .ge (48)) 3 [128] 0, bi (.iload_n 3) 1 [] 0, bi (.iconst 5) 1 [] 0, bi (.imul) 1 [] 0, bi (.istore 4) 2 [] 0, bi (.aload_n 0) 1 [] 0, bi (.aload_n 1) 1 [] 0, bi (.aload_n 2) 1 [] 0, bi (.iload 4) 2 [] 0, bi (.iaload) 1 [] 0, bi (.aload_n 2) 1 [] 0, bi (.iload 4) 2 [] 0, bi (.iconst 1) 1 [] 0, bi (.iadd) 1 [] 0, bi (.iaload) 1 [] 0, bi (.aload_n 2) 1 [] 0, bi (.iload 4) 2 [] 0, bi (.iconst 2) 1 [] 0, bi (.iadd) 1 [] 0, bi (.iaload) 1 [] 0, bi (.aload_n 2) 1 [] 0, bi (.iload 4) 2 [] 0, bi (.iconst 3) 1 [] 0, bi (.iadd) 1 [] 0, bi (.iaload) 1 [] 0, bi (.aload_n 2) 1 [] 0, bi (.iload 4) 2 [] 0, bi (.iconst 4) 1 [] 0, bi (.iadd) 1 [] 0, bi (.iaload) 1 [] 0, bi (.invokevirtual 39) 3 [mX6_startLoan, 7, 10, 6] 0, bi (.pop) 1 [] 0, bi (.iinc 3 (1)) 3 [] 0, bi (.goto (-50)) 3 [75] 0]
theorem cX6_beginWith_75 : chk mX6_beginWith 75 kX6_beginWith_75 = true := by decide +kernel
theorem sB_75 {d : Nat} {σ : SG} {Q : Option AV → SG → Prop} {l3 : Int} {r : Nat} (hr : r = 5 ∨ r = 16) (h : (r3 l3 ∧ r3 (σ r 3)) ∧ ((σ r 3) ≤ l3 → Q none σ) ∧ (l3 < (σ r 3) → (0 ≤ (l3 * 5) ∧ (l3 * 5) < 60) ∧ (0 ≤ ((l3 * 5) + 1) ∧ ((l3 * 5) + 1) < 60) ∧ (0 ≤ ((l3 * 5) + 2) ∧ ((l3 * 5) + 2) < 60) ∧ (0 ≤ ((l3 * 5) + 3) ∧ ((l3 * 5) + 3) < 60) ∧ (0 ≤ ((l3 * 5) + 4) ∧ ((l3 * 5) + 4) < 60) ∧ (0 < d) ∧ (2 ≤ d - 1 ∧ SR (σ 35) ∧ 0 ≤ (σ (r + 10) (l3 * 5)) ∧ (σ (r + 10) (l3 * 5)) < 4 ∧ 1 ≤ (σ (r + 10) ((l3 * 5) + 1)) ∧ (σ (r + 10) ((l3 * 5) + 1)) ≤ 14 ∧ 0 ≤ (σ (r + 10) ((l3 * 5) + 2)) ∧ (σ (r + 10) ((l3 * 5) + 2)) < 4 ∧ (σ (r + 10) (l3 * 5)) ≠ (σ (r + 10) ((l3 * 5) + 2)) ∧ 0 ≤ (σ (r + 2) (σ (r + 10) ((l3 * 5) + 2))) ∧ (σ (r + 2) (σ (r + 10) ((l3 * 5) + 2))) ≤ 14 ∧ 0 ≤ (σ 35) 1 ∧ (σ 35) 1 < 24) ∧ AW d mX6_beginWith 75 [some (.inr (.inr 34)), some (.inr (.inr r)), some (.inr (.inr (r + 10))), some (.inl (l3 + 1)), none] [] (putF σ 35 (stF (σ 35) (σ (r + 10) (l3 * 5)) (σ (r + 10) ((l3 * 5) + 1)) (σ (r + 10) ((l3 * 5) + 2)) (σ (r + 10) ((l3 * 5) + 3)) (σ (r + 10) ((l3 * 5) + 4)) (lowO (bor ((σ 35) (6 + (σ (r + 10) ((l3 * 5) + 2)))) ((σ 35) (18 + (σ (r + 10) ((l3 * 5) + 2))))) (σ (r + 2) (σ (r + 10) ((l3 * 5) + 2)))))) Q)) : AW d mX6_beginWith 75 [some (.inr (.inr 34)), some (.inr (.inr r)), some (.inr (.inr (r + 10))), some (.inl l3), none] [] σ Q := by
  rcases hr with rfl | rfl <;> exact AW.blk kX6_beginWith_75 cX6_beginWith_75 (⟨⟨((h).1).1, ((h).1).2⟩, ⟨fun c11 => AW.blk kX6_beginWith_128 cX6_beginWith_128 (((h).2).1 c11), fun c11 => ⟨⟨((((h).2).2 c11).1).1, ((((h).2).2 c11).1).2⟩, ⟨⟨(((((h).2).2 c11).2).1).1, (((((h).2).2 c11).2).1).2⟩, ⟨⟨((((((h).2).2 c11).2).2).1).1, ((((((h).2).2 c11).2).2).1).2⟩, ⟨⟨(((((((h).2).2 c11).2).2).2).1).1, (((((((h).2).2 c11).2).2).2).1).2⟩, ⟨⟨((((((((h).2).2 c11).2).2).2).2).1).1, ((((((((h).2).2 c11).2).2).2).2).1).2⟩, ⟨((((((((h).2).2 c11).2).2).2).2).2).1, startLoan_ok (by decide) (by decide) ⟨(((((((((h).2).2 c11).2).2).2).2).2).2).1, AW.drop 4 ((((((((((h).2).2 c11).2).2).2).2).2).2).2)⟩⟩⟩⟩⟩⟩⟩⟩⟩)
def kX9_realm_0 : List BI := [bi (.aload_n 0) 1 [] 0, bi (.aload_n 0) 1 [] 0, bi (.getfield 187) 3 [9, 1] 0, bi (.putfield 199) 3 [9, 3] 0, bi (.aload_n 0) 1 [] 0, bi (.iconst 0) 1 [] 0, bi (.putfield 187) 3 [9, 1] 0, bi (.aload_n 0) 1 [] 0, bi (.iconst 0) 1 [] 0, bi (.putfield 196) 3 [9, 2] 0, bi (.aload_n 0) 1 [] 0, bi (.iconst (-1)) 1 [] 0, bi (.putfield 210) 3 [9, 4] 0, bi (.aload_n 0) 1 [] 0, bi (.iconst 0) 1 [] 0, bi (.putfield 190) 3 [9, 5] 0, bi (.aload_n 0) 1 [] 0, bi (.iconst (-1)) 1 [] 0, bi (.putfield 193) 3 [9, 6] 0, bi (.aload_n 0) 1 [] 0, bi (.iconst 0) 1 [] 0, bi (.putfield 278) 3 [9, 36] 0, bi (.aload_n 0) 1 [] 0, bi (.getfield 91) 3 [9, 35] 0, bi (.iconst 0) 1 [] 0, bi (.bipush (99)) 2 [] 0, bi (.iastore) 1 [] 0, bi (.iconst 0) 1 [] 0, bi (.istore_n 1) 1 [] 0]
theorem cX9_realm_0 : chk mX9_realm 0 kX9_realm_0 = true := by decide +kernel
theorem uR_0 {d : Nat} {σ : SG} {Q : Option AV → SG → Prop} (h : (∀ S12 : SG, S12 = up σ 42 3 (σ 42 1) → (∀ S13 : SG, S13 = up S12 42 1 0 → (∀ S14 : SG, S14 = up S13 42 2 0 → (∀ S15 : SG, S15 = up S14 42 4 (-1) → (∀ S16 : SG, S16 = up S15 42 5 0 → (∀ S17 : SG, S17 = up S16 42 6 (-1) → (∀ S18 : SG, S18 = up S17 42 36 0 → (∀ S19 : SG, S19 = up S18 68 0 99 → AW d mX9_realm 48 [some (.inr (.inr 42)), some (.inl 0)] [] S19 Q))))))))) : AW d mX9_realm 0 [some (.inr (.inr 42)), none] [] σ Q := AW.blk kX9_realm_0 cX9_realm_0 (⟨⟨(by decide), (by decide)⟩, ((((((((h) _ rfl) _ rfl) _ rfl) _ rfl) _ rfl) _ rfl) _ rfl) _ rfl⟩)
def kX9_realm_66 : List BI := [bi (.iconst 0) 1 [] 0, bi (.istore_n 1) 1 [] 0]
theorem cX9_realm_66 : chk mX9_realm 66 kX9_realm_66 = true := by decide +kernel
def kX9_realm_48 : List BI := [bi (.iload_n 1) 1 [] 0, bi (.iconst 4) 1 [] 0, bi (.if_icmp .ge (16)) 3 [66] 0, bi (.aload_n 0) 1 [] 0, bi (.getfield 69) 3 [9, 28] 0, bi (.iload_n 1) 1 [] 0, bi (.iconst 0) 1 [] 0, bi (.iastore) 1 [] 0, bi (.iinc 1 (1)) 3 [] 0, bi (.goto (-15)) 3 [48] 0]
theorem cX9_realm_48 : chk mX9_realm 48 kX9_realm_48 = true := by decide +kernel
theorem uR_48 {d : Nat} {σ : SG} {Q : Option AV → SG → Prop} {l1 : Int} (h : (r3 l1) ∧ (4 ≤ l1 → AW d mX9_realm 68 [some (.inr (.inr 42)), some (.inl 0)] [] σ Q) ∧ (l1 < 4 → (0 ≤ l1 ∧ l1 < 8) ∧ (∀ S20 : SG, S20 = up σ 61 l1 0 → AW d mX9_realm 48 [some (.inr (.inr 42)), some (.inl (l1 + 1))] [] S20 Q))) : AW d mX9_realm 48 [some (.inr (.inr 42)), some (.inl l1)] [] σ Q := AW.blk kX9_realm_48 cX9_realm_48 (⟨⟨(h).1, (by decide)⟩, ⟨fun c21 => AW.blk kX9_realm_66 cX9_realm_66 (((h).2).1 c21), fun c21 => ⟨⟨((((h).2).2 c21).1).1, ((((h).2).2 c21).1).2⟩, ((((h).2).2 c21).2) _ rfl⟩⟩⟩)
def kX9_realm_68 : List BI := [bi (.iload_n 1) 1 [] 0, bi (.bipush (7)) 2 [] 0, bi (.if_icmp .ge (16)) 3 [87] 0, bi (.aload_n 0) 1 [] 0, bi (.getfield 82) 3 [9, 32] 0, bi (.iload_n 1) 1 [] 0, bi (.iconst 0) 1 [] 0, bi (.iastore) 1 [] 0, bi (.iinc 1 (1)) 3 [] 0, bi (.goto (-16)) 3 [68] 0]
theorem cX9_realm_68 : chk mX9_realm 68 kX9_realm_68 = true := by decide +kernel
theorem uR_68 {d : Nat} {σ : SG} {Q : Option AV → SG → Prop} {l1 : Int} (h : (r3 l1) ∧ (7 ≤ l1 → AW d mX9_realm 87 [some (.inr (.inr 42)), none] [] σ Q) ∧ (l1 < 7 → (0 ≤ l1 ∧ l1 < 14) ∧ (∀ S22 : SG, S22 = up σ 65 l1 0 → AW d mX9_realm 68 [some (.inr (.inr 42)), some (.inl (l1 + 1))] [] S22 Q))) : AW d mX9_realm 68 [some (.inr (.inr 42)), some (.inl l1)] [] σ Q := AW.blk kX9_realm_68 cX9_realm_68 (⟨⟨(h).1, (by decide)⟩, ⟨fun c23 => AW.drop 1 (((h).2).1 c23), fun c23 => ⟨⟨((((h).2).2 c23).1).1, ((((h).2).2 c23).1).2⟩, ((((h).2).2 c23).2) _ rfl⟩⟩⟩)
def kX9_realm_144 : List BI := [bi (.aload_n 0) 1 [] 0, bi (.invokevirtual 309) 3 [mX9_stands, 1, 2, 9] 0]
theorem cX9_realm_144 : chk mX9_realm 144 kX9_realm_144 = true := by decide +kernel
def kX9_realm_109 : List BI := [bi (.aload_n 0) 1 [] 0, bi (.aload_n 0) 1 [] 0, bi (.getfield 190) 3 [9, 5] 0, bi (.putfield 306) 3 [9, 7] 0, bi (.aload_n 0) 1 [] 0, bi (.aload_n 0) 1 [] 0, bi (.getfield 193) 3 [9, 6] 0, bi (.putfield 13) 3 [9, 8] 0, bi (.aload_n 0) 1 [] 0, bi (.getfield 190) 3 [9, 5] 0, bi (.ifCond .eq (15)) 3 [144] 0, bi (.aload_n 0) 1 [] 0, bi (.getfield 17) 3 [9, 9] 0, bi (.iconst 1) 1 [] 0, bi (.dup2) 1 [] 0, bi (.iaload) 1 [] 0, bi (.iconst 1) 1 [] 0, bi (.iadd) 1 [] 0, bi (.iastore) 1 [] 0, bi (.iconst (-1)) 1 [] 0, bi (.ireturn) 1 [] 0]
theorem cX9_realm_109 : chk mX9_realm 109 kX9_realm_109 = true := by decide +kernel
def kX9_realm_87 : List BI := [bi (.aload_n 0) 1 [] 0, bi (.getfield 190) 3 [9, 5] 0, bi (.ifCond .ne (18)) 3 [109] 0, bi (.aload_n 0) 1 [] 0, bi (.invokevirtual 202) 3 [mX9_look, 1, 1, 9] 0]
theorem cX9_realm_87 : chk mX9_realm 87 kX9_realm_87 = true := by decide +kernel
theorem uR_87 {d : Nat} {σ : SG} {Q : Option AV → SG → Prop} (h : (r3 (σ 42 5)) ∧ ((σ 42 5) ≠ 0 → (∀ S24 : SG, S24 = up σ 42 7 (σ 42 5) → (∀ S25 : SG, S25 = up S24 42 8 (S24 42 6) → (r3 (S25 42 5)) ∧ ((S25 42 5) = 0 → (0 < d) ∧ AW (d - 1) mX9_stands 0 [some (.inr (.inr 42)), none] [] S25 (fun rr σ' => AW d mX9_realm 148 [some (.inr (.inr 42)), none] (rtS rr []) σ' Q)) ∧ ((S25 42 5) ≠ 0 → (∀ S26 : SG, S26 = up S25 44 1 ((S25 44 1) + 1) → Q (some (.inl ((-1)))) S26))))) ∧ ((σ 42 5) = 0 → (0 < d) ∧ AW (d - 1) mX9_look 0 [some (.inr (.inr 42))] [] σ (fun rr σ' => AW d mX9_realm 98 [some (.inr (.inr 42)), none] (rtS rr []) σ' Q))) : AW d mX9_realm 87 [some (.inr (.inr 42)), none] [] σ Q := AW.blk kX9_realm_87 cX9_realm_87 (⟨(h).1, ⟨fun c28 => AW.blk kX9_realm_109 cX9_realm_109 (⟨(((((h).2).1 c28) _ rfl) _ rfl).1, ⟨fun c27 => AW.blk kX9_realm_144 cX9_realm_144 (⟨(((((((h).2).1 c28) _ rfl) _ rfl).2).1 c27).1, (((((((h).2).1 c28) _ rfl) _ rfl).2).1 c27).2⟩), fun c27 => ⟨⟨(by decide), (by decide)⟩, ⟨⟨(by decide), (by decide)⟩, (((((((h).2).1 c28) _ rfl) _ rfl).2).2 c27) _ rfl⟩⟩⟩⟩), fun c28 => ⟨(((h).2).2 c28).1, (((h).2).2 c28).2⟩⟩⟩)
def kX9_realm_148 : List BI := [bi (.aload_n 0) 1 [] 0, bi (.getfield 278) 3 [9, 36] 0, bi (.ireturn) 1 [] 0]
theorem cX9_realm_148 : chk mX9_realm 148 kX9_realm_148 = true := by decide +kernel
theorem uR_148 {d : Nat} {σ : SG} {Q : Option AV → SG → Prop} (h : Q (some (.inl (σ 42 36))) σ) : AW d mX9_realm 148 [some (.inr (.inr 42)), none] [] σ Q := AW.blk kX9_realm_148 cX9_realm_148 (h)
def kX9_realm_98 : List BI := [bi (.iconst (-1)) 1 [] 0, bi (.if_icmp .eq (10)) 3 [109] 0, bi (.aload_n 0) 1 [] 0, bi (.invokevirtual 303) 3 [mX9_statementTold, 1, 2, 9] 0]
theorem cX9_realm_98 : chk mX9_realm 98 kX9_realm_98 = true := by decide +kernel
theorem uR_98 {d : Nat} {σ : SG} {Q : Option AV → SG → Prop} {s0 : Int} (h : (r3 s0) ∧ (s0 = (-1) → (∀ S29 : SG, S29 = up σ 42 7 (σ 42 5) → (∀ S30 : SG, S30 = up S29 42 8 (S29 42 6) → (r3 (S30 42 5)) ∧ ((S30 42 5) = 0 → (0 < d) ∧ AW (d - 1) mX9_stands 0 [some (.inr (.inr 42)), none] [] S30 (fun rr σ' => AW d mX9_realm 148 [some (.inr (.inr 42)), none] (rtS rr []) σ' Q)) ∧ ((S30 42 5) ≠ 0 → (∀ S31 : SG, S31 = up S30 44 1 ((S30 44 1) + 1) → Q (some (.inl ((-1)))) S31))))) ∧ (s0 ≠ (-1) → (0 < d) ∧ AW (d - 1) mX9_statementTold 0 [some (.inr (.inr 42)), none] [] σ (fun rr σ' => AW d mX9_realm 106 [some (.inr (.inr 42)), none] (rtS rr []) σ' Q))) : AW d mX9_realm 98 [some (.inr (.inr 42)), none] [.inl s0] σ Q := AW.blk kX9_realm_98 cX9_realm_98 (⟨⟨(h).1, (by decide)⟩, ⟨fun c33 => AW.blk kX9_realm_109 cX9_realm_109 (⟨(((((h).2).1 c33) _ rfl) _ rfl).1, ⟨fun c32 => AW.blk kX9_realm_144 cX9_realm_144 (⟨(((((((h).2).1 c33) _ rfl) _ rfl).2).1 c32).1, (((((((h).2).1 c33) _ rfl) _ rfl).2).1 c32).2⟩), fun c32 => ⟨⟨(by decide), (by decide)⟩, ⟨⟨(by decide), (by decide)⟩, (((((((h).2).1 c33) _ rfl) _ rfl).2).2 c32) _ rfl⟩⟩⟩⟩), fun c33 => ⟨(((h).2).2 c33).1, (((h).2).2 c33).2⟩⟩⟩)
def kX9_realm_106 : List BI := [bi (.goto (-19)) 3 [87] 0]
theorem cX9_realm_106 : chk mX9_realm 106 kX9_realm_106 = true := by decide +kernel
theorem uR_106 {d : Nat} {σ : SG} {Q : Option AV → SG → Prop} (h : AW d mX9_realm 87 [some (.inr (.inr 42)), none] [] σ Q) : AW d mX9_realm 106 [some (.inr (.inr 42)), none] [] σ Q := AW.blk kX9_realm_106 cX9_realm_106 (h)
def kX9_stands_0 : List BI := [bi (.iconst 0) 1 [] 0, bi (.istore_n 1) 1 [] 0]
theorem cX9_stands_0 : chk mX9_stands 0 kX9_stands_0 = true := by decide +kernel
theorem uN_0 {d : Nat} {σ : SG} {Q : Option AV → SG → Prop} (h : AW d mX9_stands 2 [some (.inr (.inr 42)), some (.inl 0)] [] σ Q) : AW d mX9_stands 0 [some (.inr (.inr 42)), none] [] σ Q := AW.blk kX9_stands_0 cX9_stands_0 (h)
def kX9_stands_27 : List BI := [bi (.iconst 0) 1 [] 0, bi (.istore_n 1) 1 [] 0]
theorem cX9_stands_27 : chk mX9_stands 27 kX9_stands_27 = true := by decide +kernel
def kX9_stands_2 : List BI := [bi (.iload_n 1) 1 [] 0, bi (.iconst 4) 1 [] 0, bi (.if_icmp .ge (23)) 3 [27] 0, bi (.aload_n 0) 1 [] 0, bi (.getfield 69) 3 [9, 28] 0, bi (.iconst 4) 1 [] 0, bi (.iload_n 1) 1 [] 0, bi (.iadd) 1 [] 0, bi (.aload_n 0) 1 [] 0, bi (.getfield 69) 3 [9, 28] 0, bi (.iload_n 1) 1 [] 0, bi (.iaload) 1 [] 0, bi (.iastore) 1 [] 0, bi (.iinc 1 (1)) 3 [] 0, bi (.goto (-22)) 3 [2] 0]
theorem cX9_stands_2 : chk mX9_stands 2 kX9_stands_2 = true := by decide +kernel
theorem uN_2 {d : Nat} {σ : SG} {Q : Option AV → SG → Prop} {l1 : Int} (h : (r3 l1) ∧ (4 ≤ l1 → AW d mX9_stands 29 [some (.inr (.inr 42)), some (.inl 0)] [] σ Q) ∧ (l1 < 4 → (0 ≤ l1 ∧ l1 < 8) ∧ (0 ≤ (4 + l1) ∧ (4 + l1) < 8) ∧ (∀ S34 : SG, S34 = up σ 61 (4 + l1) (σ 61 l1) → AW d mX9_stands 2 [some (.inr (.inr 42)), some (.inl (l1 + 1))] [] S34 Q))) : AW d mX9_stands 2 [some (.inr (.inr 42)), some (.inl l1)] [] σ Q := AW.blk kX9_stands_2 cX9_stands_2 (⟨⟨(h).1, (by decide)⟩, ⟨fun c35 => AW.blk kX9_stands_27 cX9_stands_27 (((h).2).1 c35), fun c35 => ⟨⟨((((h).2).2 c35).1).1, ((((h).2).2 c35).1).2⟩, ⟨⟨(((((h).2).2 c35).2).1).1, (((((h).2).2 c35).2).1).2⟩, (((((h).2).2 c35).2).2) _ rfl⟩⟩⟩⟩)
def kX9_stands_56 : List BI := [bi (.iconst 0) 1 [] 0, bi (.istore_n 1) 1 [] 0]
theorem cX9_stands_56 : chk mX9_stands 56 kX9_stands_56 = true := by decide +kernel
def kX9_stands_29 : List BI := [bi (.iload_n 1) 1 [] 0, bi (.bipush (16)) 2 [] 0, bi (.if_icmp .ge (24)) 3 [56] 0, bi (.aload_n 0) 1 [] 0, bi (.getfield 72) 3 [9, 29] 0, bi (.bipush (16)) 2 [] 0, bi (.iload_n 1) 1 [] 0, bi (.iadd) 1 [] 0, bi (.aload_n 0) 1 [] 0, bi (.getfield 72) 3 [9, 29] 0, bi (.iload_n 1) 1 [] 0, bi (.laload) 1 [] 0, bi (.lastore) 1 [] 0, bi (.iinc 1 (1)) 3 [] 0, bi (.goto (-24)) 3 [29] 0]
theorem cX9_stands_29 : chk mX9_stands 29 kX9_stands_29 = true := by decide +kernel
theorem uN_29 {d : Nat} {σ : SG} {Q : Option AV → SG → Prop} {l1 : Int} (h : (r3 l1) ∧ (16 ≤ l1 → AW d mX9_stands 58 [some (.inr (.inr 42)), some (.inl 0)] [] σ Q) ∧ (l1 < 16 → (0 ≤ l1 ∧ l1 < 32) ∧ (0 ≤ (16 + l1) ∧ (16 + l1) < 32) ∧ (∀ S36 : SG, S36 = up σ 62 (16 + l1) (σ 62 l1) → AW d mX9_stands 29 [some (.inr (.inr 42)), some (.inl (l1 + 1))] [] S36 Q))) : AW d mX9_stands 29 [some (.inr (.inr 42)), some (.inl l1)] [] σ Q := AW.blk kX9_stands_29 cX9_stands_29 (⟨⟨(h).1, (by decide)⟩, ⟨fun c37 => AW.blk kX9_stands_56 cX9_stands_56 (((h).2).1 c37), fun c37 => ⟨⟨((((h).2).2 c37).1).1, ((((h).2).2 c37).1).2⟩, ⟨⟨(((((h).2).2 c37).2).1).1, (((((h).2).2 c37).2).1).2⟩, (((((h).2).2 c37).2).2) _ rfl⟩⟩⟩⟩)
def kX9_stands_85 : List BI := [bi (.iconst 0) 1 [] 0, bi (.istore_n 1) 1 [] 0]
theorem cX9_stands_85 : chk mX9_stands 85 kX9_stands_85 = true := by decide +kernel
def kX9_stands_58 : List BI := [bi (.iload_n 1) 1 [] 0, bi (.bipush (8)) 2 [] 0, bi (.if_icmp .ge (24)) 3 [85] 0, bi (.aload_n 0) 1 [] 0, bi (.getfield 76) 3 [9, 30] 0, bi (.bipush (8)) 2 [] 0, bi (.iload_n 1) 1 [] 0, bi (.iadd) 1 [] 0, bi (.aload_n 0) 1 [] 0, bi (.getfield 76) 3 [9, 30] 0, bi (.iload_n 1) 1 [] 0, bi (.iaload) 1 [] 0, bi (.iastore) 1 [] 0, bi (.iinc 1 (1)) 3 [] 0, bi (.goto (-24)) 3 [58] 0]
theorem cX9_stands_58 : chk mX9_stands 58 kX9_stands_58 = true := by decide +kernel
theorem uN_58 {d : Nat} {σ : SG} {Q : Option AV → SG → Prop} {l1 : Int} (h : (r3 l1) ∧ (8 ≤ l1 → AW d mX9_stands 87 [some (.inr (.inr 42)), some (.inl 0)] [] σ Q) ∧ (l1 < 8 → (0 ≤ l1 ∧ l1 < 16) ∧ (0 ≤ (8 + l1) ∧ (8 + l1) < 16) ∧ (∀ S38 : SG, S38 = up σ 63 (8 + l1) (σ 63 l1) → AW d mX9_stands 58 [some (.inr (.inr 42)), some (.inl (l1 + 1))] [] S38 Q))) : AW d mX9_stands 58 [some (.inr (.inr 42)), some (.inl l1)] [] σ Q := AW.blk kX9_stands_58 cX9_stands_58 (⟨⟨(h).1, (by decide)⟩, ⟨fun c39 => AW.blk kX9_stands_85 cX9_stands_85 (((h).2).1 c39), fun c39 => ⟨⟨((((h).2).2 c39).1).1, ((((h).2).2 c39).1).2⟩, ⟨⟨(((((h).2).2 c39).2).1).1, (((((h).2).2 c39).2).1).2⟩, (((((h).2).2 c39).2).2) _ rfl⟩⟩⟩⟩)
def kX9_stands_114 : List BI := [bi (.iconst 0) 1 [] 0, bi (.istore_n 1) 1 [] 0]
theorem cX9_stands_114 : chk mX9_stands 114 kX9_stands_114 = true := by decide +kernel
def kX9_stands_87 : List BI := [bi (.iload_n 1) 1 [] 0, bi (.bipush (24)) 2 [] 0, bi (.if_icmp .ge (24)) 3 [114] 0, bi (.aload_n 0) 1 [] 0, bi (.getfield 79) 3 [9, 31] 0, bi (.bipush (24)) 2 [] 0, bi (.iload_n 1) 1 [] 0, bi (.iadd) 1 [] 0, bi (.aload_n 0) 1 [] 0, bi (.getfield 79) 3 [9, 31] 0, bi (.iload_n 1) 1 [] 0, bi (.iaload) 1 [] 0, bi (.iastore) 1 [] 0, bi (.iinc 1 (1)) 3 [] 0, bi (.goto (-24)) 3 [87] 0]
theorem cX9_stands_87 : chk mX9_stands 87 kX9_stands_87 = true := by decide +kernel
theorem uN_87 {d : Nat} {σ : SG} {Q : Option AV → SG → Prop} {l1 : Int} (h : (r3 l1) ∧ (24 ≤ l1 → AW d mX9_stands 116 [some (.inr (.inr 42)), some (.inl 0)] [] σ Q) ∧ (l1 < 24 → (0 ≤ l1 ∧ l1 < 48) ∧ (0 ≤ (24 + l1) ∧ (24 + l1) < 48) ∧ (∀ S40 : SG, S40 = up σ 64 (24 + l1) (σ 64 l1) → AW d mX9_stands 87 [some (.inr (.inr 42)), some (.inl (l1 + 1))] [] S40 Q))) : AW d mX9_stands 87 [some (.inr (.inr 42)), some (.inl l1)] [] σ Q := AW.blk kX9_stands_87 cX9_stands_87 (⟨⟨(h).1, (by decide)⟩, ⟨fun c41 => AW.blk kX9_stands_114 cX9_stands_114 (((h).2).1 c41), fun c41 => ⟨⟨((((h).2).2 c41).1).1, ((((h).2).2 c41).1).2⟩, ⟨⟨(((((h).2).2 c41).2).1).1, (((((h).2).2 c41).2).1).2⟩, (((((h).2).2 c41).2).2) _ rfl⟩⟩⟩⟩)
def kX9_stands_143 : List BI := [bi (.aload_n 0) 1 [] 0, bi (.getfield 91) 3 [9, 35] 0, bi (.iconst 1) 1 [] 0, bi (.aload_n 0) 1 [] 0, bi (.getfield 91) 3 [9, 35] 0, bi (.iconst 0) 1 [] 0, bi (.iaload) 1 [] 0, bi (.iastore) 1 [] 0, bi (.iconst 0) 1 [] 0, bi (.istore_n 1) 1 [] 0]
theorem cX9_stands_143 : chk mX9_stands 143 kX9_stands_143 = true := by decide +kernel
def kX9_stands_116 : List BI := [bi (.iload_n 1) 1 [] 0, bi (.bipush (7)) 2 [] 0, bi (.if_icmp .ge (24)) 3 [143] 0, bi (.aload_n 0) 1 [] 0, bi (.getfield 82) 3 [9, 32] 0, bi (.bipush (7)) 2 [] 0, bi (.iload_n 1) 1 [] 0, bi (.iadd) 1 [] 0, bi (.aload_n 0) 1 [] 0, bi (.getfield 82) 3 [9, 32] 0, bi (.iload_n 1) 1 [] 0, bi (.iaload) 1 [] 0, bi (.iastore) 1 [] 0, bi (.iinc 1 (1)) 3 [] 0, bi (.goto (-24)) 3 [116] 0]
theorem cX9_stands_116 : chk mX9_stands 116 kX9_stands_116 = true := by decide +kernel
theorem uN_116 {d : Nat} {σ : SG} {Q : Option AV → SG → Prop} {l1 : Int} (h : (r3 l1) ∧ (7 ≤ l1 → (∀ S42 : SG, S42 = up σ 68 1 (σ 68 0) → AW d mX9_stands 157 [some (.inr (.inr 42)), some (.inl 0)] [] S42 Q)) ∧ (l1 < 7 → (0 ≤ l1 ∧ l1 < 14) ∧ (0 ≤ (7 + l1) ∧ (7 + l1) < 14) ∧ (∀ S43 : SG, S43 = up σ 65 (7 + l1) (σ 65 l1) → AW d mX9_stands 116 [some (.inr (.inr 42)), some (.inl (l1 + 1))] [] S43 Q))) : AW d mX9_stands 116 [some (.inr (.inr 42)), some (.inl l1)] [] σ Q := AW.blk kX9_stands_116 cX9_stands_116 (⟨⟨(h).1, (by decide)⟩, ⟨fun c44 => AW.blk kX9_stands_143 cX9_stands_143 (⟨⟨(by decide), (by decide)⟩, ⟨⟨(by decide), (by decide)⟩, (((h).2).1 c44) _ rfl⟩⟩), fun c44 => ⟨⟨((((h).2).2 c44).1).1, ((((h).2).2 c44).1).2⟩, ⟨⟨(((((h).2).2 c44).2).1).1, (((((h).2).2 c44).2).1).2⟩, (((((h).2).2 c44).2).2) _ rfl⟩⟩⟩⟩)
def kX9_stands_177 : List BI := [bi (.iconst 0) 1 [] 0, bi (.istore_n 1) 1 [] 0]
theorem cX9_stands_177 : chk mX9_stands 177 kX9_stands_177 = true := by decide +kernel
def kX9_stands_157 : List BI := [bi (.iload_n 1) 1 [] 0, bi (.sipush (254)) 3 [] 0, bi (.if_icmp .ge (16)) 3 [177] 0, bi (.aload_n 0) 1 [] 0, bi (.getfield 94) 3 [9, 37] 0, bi (.iload_n 1) 1 [] 0, bi (.iconst 0) 1 [] 0, bi (.iastore) 1 [] 0, bi (.iinc 1 (1)) 3 [] 0, bi (.goto (-17)) 3 [157] 0]
theorem cX9_stands_157 : chk mX9_stands 157 kX9_stands_157 = true := by decide +kernel
theorem uN_157 {d : Nat} {σ : SG} {Q : Option AV → SG → Prop} {l1 : Int} (h : (r3 l1) ∧ (254 ≤ l1 → AW d mX9_stands 179 [some (.inr (.inr 42)), some (.inl 0)] [] σ Q) ∧ (l1 < 254 → (0 ≤ l1 ∧ l1 < 254) ∧ (∀ S45 : SG, S45 = up σ 69 l1 0 → AW d mX9_stands 157 [some (.inr (.inr 42)), some (.inl (l1 + 1))] [] S45 Q))) : AW d mX9_stands 157 [some (.inr (.inr 42)), some (.inl l1)] [] σ Q := AW.blk kX9_stands_157 cX9_stands_157 (⟨⟨(h).1, (by decide)⟩, ⟨fun c46 => AW.blk kX9_stands_177 cX9_stands_177 (((h).2).1 c46), fun c46 => ⟨⟨((((h).2).2 c46).1).1, ((((h).2).2 c46).1).2⟩, ((((h).2).2 c46).2) _ rfl⟩⟩⟩)
def kX9_stands_228 : List BI := [bi (.iconst 0) 1 [] 0, bi (.istore_n 1) 1 [] 0]
theorem cX9_stands_228 : chk mX9_stands 228 kX9_stands_228 = true := by decide +kernel
def kX9_stands_220 : List BI := [bi (.iconst 0) 1 [] 0, bi (.iastore) 1 [] 0, bi (.iinc 1 (1)) 3 [] 0, bi (.goto (-46)) 3 [179] 0]
theorem cX9_stands_220 : chk mX9_stands 220 kX9_stands_220 = true := by decide +kernel
def kX9_stands_221 : List BI := [bi (.iastore) 1 [] 0, bi (.iinc 1 (1)) 3 [] 0, bi (.goto (-46)) 3 [179] 0]
theorem cX9_stands_221 : chk mX9_stands 221 kX9_stands_221 = true := by decide +kernel
def kX9_stands_179 : List BI := [bi (.iload_n 1) 1 [] 0, bi (.bipush (56)) 2 [] 0, bi (.if_icmp .ge (46)) 3 [228] 0, bi (.aload_n 0) 1 [] 0, bi (.getfield 94) 3 [9, 37] 0, bi (.bipush (6)) 2 [] 0, bi (.iload_n 1) 1 [] 0, bi (.iadd) 1 [] 0, bi (.iload_n 1) 1 [] 0, bi (.bipush (14)) 2 [] 0, bi (.aload_n 0) 1 [] 0, bi (.getfield 69) 3 [9, 28] 0, bi (.iconst 0) 1 [] 0, bi (.iaload) 1 [] 0, bi (.imul) 1 [] 0, bi (.if_icmp .ge (17)) 3 [220] 0, bi (.aload_n 0) 1 [] 0, bi (.getfield 85) 3 [9, 33] 0, bi (.iload_n 1) 1 [] 0, bi (.iaload) 1 [] 0, bi (.iconst 1) 1 [] 0, bi (.if_icmp .ne (7)) 3 [220] 0, bi (.iconst 1) 1 [] 0, bi (.goto (4)) 3 [221] 0]
theorem cX9_stands_179 : chk mX9_stands 179 kX9_stands_179 = true := by decide +kernel
theorem uN_179 {d : Nat} {σ : SG} {Q : Option AV → SG → Prop} {l1 : Int} (h : (r3 l1) ∧ (56 ≤ l1 → AW d mX9_stands 230 [some (.inr (.inr 42)), some (.inl 0)] [] σ Q) ∧ (l1 < 56 → (r3 l1 ∧ r3 (14 * (σ 61 0))) ∧ ((14 * (σ 61 0)) ≤ l1 → (0 ≤ (6 + l1) ∧ (6 + l1) < 254) ∧ (∀ S47 : SG, S47 = up σ 69 (6 + l1) 0 → AW d mX9_stands 179 [some (.inr (.inr 42)), some (.inl (l1 + 1))] [] S47 Q)) ∧ (l1 < (14 * (σ 61 0)) → (0 ≤ l1 ∧ l1 < 56) ∧ (r3 (σ 66 l1)) ∧ ((σ 66 l1) ≠ 1 → (0 ≤ (6 + l1) ∧ (6 + l1) < 254) ∧ (∀ S48 : SG, S48 = up σ 69 (6 + l1) 0 → AW d mX9_stands 179 [some (.inr (.inr 42)), some (.inl (l1 + 1))] [] S48 Q)) ∧ ((σ 66 l1) = 1 → (0 ≤ (6 + l1) ∧ (6 + l1) < 254) ∧ (∀ S49 : SG, S49 = up σ 69 (6 + l1) 1 → AW d mX9_stands 179 [some (.inr (.inr 42)), some (.inl (l1 + 1))] [] S49 Q))))) : AW d mX9_stands 179 [some (.inr (.inr 42)), some (.inl l1)] [] σ Q := AW.blk kX9_stands_179 cX9_stands_179 (⟨⟨(h).1, (by decide)⟩, ⟨fun c52 => AW.blk kX9_stands_228 cX9_stands_228 (((h).2).1 c52), fun c52 => ⟨⟨(by decide), (by decide)⟩, ⟨⟨((((h).2).2 c52).1).1, ((((h).2).2 c52).1).2⟩, ⟨fun c51 => AW.blk kX9_stands_220 cX9_stands_220 (⟨⟨((((((h).2).2 c52).2).1 c51).1).1, ((((((h).2).2 c52).2).1 c51).1).2⟩, ((((((h).2).2 c52).2).1 c51).2) _ rfl⟩), fun c51 => ⟨⟨((((((h).2).2 c52).2).2 c51).1).1, ((((((h).2).2 c52).2).2 c51).1).2⟩, ⟨⟨((((((h).2).2 c52).2).2 c51).2).1, (by decide)⟩, ⟨fun c50 => AW.blk kX9_stands_220 cX9_stands_220 (⟨⟨(((((((((h).2).2 c52).2).2 c51).2).2).1 c50).1).1, (((((((((h).2).2 c52).2).2 c51).2).2).1 c50).1).2⟩, (((((((((h).2).2 c52).2).2 c51).2).2).1 c50).2) _ rfl⟩), fun c50 => AW.blk kX9_stands_221 cX9_stands_221 (⟨⟨(((((((((h).2).2 c52).2).2 c51).2).2).2 c50).1).1, (((((((((h).2).2 c52).2).2 c51).2).2).2 c50).1).2⟩, (((((((((h).2).2 c52).2).2 c51).2).2).2 c50).2) _ rfl⟩)⟩⟩⟩⟩⟩⟩⟩⟩)
def kX9_stands_299 : List BI := [bi (.aload_n 0) 1 [] 0, bi (.iconst 0) 1 [] 0, bi (.putfield 316) 3 [9, 40] 0, bi (.return_) 1 [] 0]
theorem cX9_stands_299 : chk mX9_stands 299 kX9_stands_299 = true := by decide +kernel
def kX9_stands_230 : List BI := [bi (.iload_n 1) 1 [] 0, bi (.aload_n 0) 1 [] 0, bi (.getfield 69) 3 [9, 28] 0, bi (.iconst 2) 1 [] 0, bi (.iaload) 1 [] 0, bi (.if_icmp .ge (62)) 3 [299] 0, bi (.aload_n 0) 1 [] 0, bi (.aload_n 0) 1 [] 0, bi (.getfield 88) 3 [9, 34] 0, bi (.iconst 5) 1 [] 0, bi (.iload_n 1) 1 [] 0, bi (.imul) 1 [] 0, bi (.iaload) 1 [] 0, bi (.aload_n 0) 1 [] 0, bi (.getfield 88) 3 [9, 34] 0, bi (.iconst 5) 1 [] 0, bi (.iload_n 1) 1 [] 0, bi (.imul) 1 [] 0, bi (.iconst 1) 1 [] 0, bi (.iadd) 1 [] 0, bi (.iaload) 1 [] 0, bi (.aload_n 0) 1 [] 0, bi (.getfield 88) 3 [9, 34] 0, bi (.iconst 5) 1 [] 0, bi (.iload_n 1) 1 [] 0, bi (.imul) 1 [] 0, bi (.iconst 2) 1 [] 0, bi (.iadd) 1 [] 0, bi (.iaload) 1 [] 0, bi (.aload_n 0) 1 [] 0, bi (.getfield 88) 3 [9, 34] 0, bi (.iconst 5) 1 [] 0, bi (.iload_n 1) 1 [] 0, bi (.imul) 1 [] 0, bi (.iconst 3) 1 [] 0, bi (.iadd) 1 [] 0, bi (.iaload) 1 [] 0, bi (.aload_n 0) 1 [] 0, bi (.getfield 88) 3 [9, 34] 0, bi (.iconst 5) 1 [] 0, bi (.iload_n 1) 1 [] 0, bi (.imul) 1 [] 0, bi (.iconst 4) 1 [] 0, bi (.iadd) 1 [] 0, bi (.iaload) 1 [] 0, bi (.invokevirtual 312) 3 [mX9_lends, 6, 10, 9] 0, bi (.pop) 1 [] 0, bi (.iinc 1 (1)) 3 [] 0, bi (.goto (-66)) 3 [230] 0]
theorem cX9_stands_230 : chk mX9_stands 230 kX9_stands_230 = true := by decide +kernel
theorem uN_230 {d : Nat} {σ : SG} {Q : Option AV → SG → Prop} {l1 : Int} (h : (r3 l1 ∧ r3 (σ 61 2)) ∧ ((σ 61 2) ≤ l1 → (∀ S53 : SG, S53 = up σ 42 40 0 → Q none S53)) ∧ (l1 < (σ 61 2) → (0 ≤ (5 * l1) ∧ (5 * l1) < 60) ∧ (0 ≤ ((5 * l1) + 1) ∧ ((5 * l1) + 1) < 60) ∧ (0 ≤ ((5 * l1) + 2) ∧ ((5 * l1) + 2) < 60) ∧ (0 ≤ ((5 * l1) + 3) ∧ ((5 * l1) + 3) < 60) ∧ (0 ≤ ((5 * l1) + 4) ∧ ((5 * l1) + 4) < 60) ∧ (0 < d) ∧ (4 ≤ d - 1 ∧ MLR (σ 69) ∧ 0 ≤ (σ 67 (5 * l1)) ∧ (σ 67 (5 * l1)) < 4 ∧ 1 ≤ (σ 67 ((5 * l1) + 1)) ∧ (σ 67 ((5 * l1) + 1)) ≤ 14 ∧ 0 ≤ (σ 67 ((5 * l1) + 2)) ∧ (σ 67 ((5 * l1) + 2)) < 4 ∧ 0 ≤ (σ 63 (8 + 2 * (σ 67 ((5 * l1) + 2)))) ∧ (σ 63 (8 + 2 * (σ 67 ((5 * l1) + 2)))) ≤ 14 ∧ MSR (σ 69) (σ 67 ((5 * l1) + 2)) (σ 63 (8 + 2 * (σ 67 ((5 * l1) + 2)))) ∧ (σ 69) 1 < 24) ∧ AW d mX9_stands 230 [some (.inr (.inr 42)), some (.inl (l1 + 1))] [] (putF σ 69 (mstF (σ 69) (σ 67 (5 * l1)) (σ 67 ((5 * l1) + 1)) (σ 67 ((5 * l1) + 2)) (σ 67 ((5 * l1) + 3)) (σ 67 ((5 * l1) + 4)) (lowO (mstV σ (σ 67 ((5 * l1) + 2))) (σ 63 (8 + 2 * (σ 67 ((5 * l1) + 2))))))) Q)) : AW d mX9_stands 230 [some (.inr (.inr 42)), some (.inl l1)] [] σ Q := AW.blk kX9_stands_230 cX9_stands_230 (⟨⟨(by decide), (by decide)⟩, ⟨⟨((h).1).1, ((h).1).2⟩, ⟨fun c54 => AW.blk kX9_stands_299 cX9_stands_299 ((((h).2).1 c54) _ rfl), fun c54 => ⟨⟨((((h).2).2 c54).1).1, ((((h).2).2 c54).1).2⟩, ⟨⟨(((((h).2).2 c54).2).1).1, (((((h).2).2 c54).2).1).2⟩, ⟨⟨((((((h).2).2 c54).2).2).1).1, ((((((h).2).2 c54).2).2).1).2⟩, ⟨⟨(((((((h).2).2 c54).2).2).2).1).1, (((((((h).2).2 c54).2).2).2).1).2⟩, ⟨⟨((((((((h).2).2 c54).2).2).2).2).1).1, ((((((((h).2).2 c54).2).2).2).2).1).2⟩, ⟨((((((((h).2).2 c54).2).2).2).2).2).1, mlends_ok ⟨(((((((((h).2).2 c54).2).2).2).2).2).2).1, (((((((((h).2).2 c54).2).2).2).2).2).2).2⟩⟩⟩⟩⟩⟩⟩⟩⟩⟩)
def MSh (σ σ' : SG) : Prop := (∀ p, p ≠ 42 → ¬ (61 ≤ p ∧ p ≤ 68) → σ' p = σ p) ∧ (σ' 42 1 = σ 42 1 ∧ σ' 42 40 = σ 42 40 ∧ σ' 42 41 = σ 42 41 ∧ σ' 42 81 = σ 42 81) ∧ (∀ i, 4 ≤ i → σ' 61 i = σ 61 i) ∧ (∀ i, 16 ≤ i → σ' 62 i = σ 62 i) ∧ (∀ i, 8 ≤ i → σ' 63 i = σ 63 i) ∧ (∀ i, 24 ≤ i → σ' 64 i = σ 64 i) ∧ (∀ i, 7 ≤ i → σ' 65 i = σ 65 i) ∧ σ' 68 1 = σ 68 1
theorem MSh.of {σ σ' : SG} (h : MSf σ σ') : MSh σ σ' := by
  obtain ⟨a1, a2, a3, a4, a5, a6, a7, a8⟩ := h
  have b : ∀ i, i = 1 ∨ i = 40 ∨ i = 41 ∨ i = 81 → σ' 42 i = σ 42 i := fun i hi => a2 i (by omega) (by omega) (by omega) (by omega) (by omega) (by omega)
  exact ⟨a1, ⟨b 1 (by decide), b 40 (by decide), b 41 (by decide), b 81 (by decide)⟩, a3, a4, a5, a6, a7, a8⟩
theorem MSh.rf (σ : SG) : MSh σ σ := MSh.of (MSf.rf σ)
theorem MSh.tr {σ σ' σ'' : SG} (h : MSh σ σ') (k : MSh σ' σ'') : MSh σ σ'' := by
  obtain ⟨a1, ⟨x1, x2, x3, x4⟩, a3, a4, a5, a6, a7, a8⟩ := h
  obtain ⟨b1, ⟨y1, y2, y3, y4⟩, b3, b4, b5, b6, b7, b8⟩ := k
  exact ⟨fun p x y => (b1 p x y).trans (a1 p x y), ⟨y1.trans x1, y2.trans x2, y3.trans x3, y4.trans x4⟩, fun i x => (b3 i x).trans (a3 i x), fun i x => (b4 i x).trans (a4 i x), fun i x => (b5 i x).trans (a5 i x), fun i x => (b6 i x).trans (a6 i x), fun i x => (b7 i x).trans (a7 i x), b8.trans a8⟩
theorem MSh.u36 (σ : SG) (v : Int) : MSh σ (up σ 42 36 v) := by
  refine ⟨fun p a b => up_pf a, ⟨up_i (by decide), up_i (by decide), up_i (by decide), up_i (by decide)⟩, fun i _ => up_p (by decide), fun i _ => up_p (by decide), fun i _ => up_p (by decide), fun i _ => up_p (by decide), fun i _ => up_p (by decide), up_p (by decide)⟩
theorem mrd {d : Nat} {o : Int → Int} {L : Int} {ρ0 τ : SG} {Q : Option AV → SG → Prop} (hd : 40 ≤ d) (hq0 : ∀ S z, rdF o L 70 0 ρ0 0 (-1) = .inl z → MSh τ S → RTp o L (.inl z) S → AW d mX9_realm 87 [some (.inr (.inr 42)), none] [] S Q) (hq1 : ∀ S c ρ' p e, rdF o L 70 0 ρ0 0 (-1) = .inr (c, ρ') → MSh τ S → RTp o L (.inr (0, p, e)) S → PRl ρ' S → ROk ρ' → S 42 36 = c → AW d mX9_realm 98 [some (.inr (.inr 42)), none] [.inl (-1)] S Q) (hP : PRl ρ0 τ) (hO : ROk ρ0) (hR : RTp o L (.inr (0, 0, -1)) τ) (h36 : τ 42 36 = 0) : AW d mX9_realm 87 [some (.inr (.inr 42)), none] [] τ Q := by
  have key : ∀ (n : Nat) (c : Int) (ρ' : SG) (p e : Int) (S : SG), c = 70 - (n : Int) → 0 ≤ c → MSh τ S → RTp o L (.inr (0, p, e)) S → PRl ρ' S → ROk ρ' → S 42 36 = c → rdF o L 70 0 ρ0 0 (-1) = rdF o L n c ρ' p e → AW d mX9_realm 87 [some (.inr (.inr 42)), none] [] S Q := by
    intro n
    induction n with
    | zero =>
      intro c ρ' p e S hc hc0 hF hR hP hO h36 hE
      have h5 := rt0 hR
      have ho := hR.f.1.2.2.2.1
      have hL0 := hR.f.1.2.2.1
      have hpp := hR.f.2.2
      have ht := tok (o := o) (L := L) e hpp.2.1 (by omega)
      refine uR_87 ⟨by omega, fun z => absurd h5 z, fun _ => ⟨by omega, mlook hR (fun S1 _ hM hR1 hS1 => ?_)⟩⟩
      have s36 : S1 42 36 = c := by rw [hM.2 36 (by decide) (by decide) (by decide) (by decide) (by decide) (by decide)]; exact h36
      have hlr := lkV_r (o := o) (L := L) (s := sk o L p) ho (by omega) hL0.2
      by_cases cL : L ≤ sk o L p
      · have e1 : lkV o L (sk o L p) = -1 := if_neg (by omega)
        rw [e1]
        exact hq1 S1 c ρ' p e (by rw [hE]; exact rdF_e cL) (hF.tr (MSh.of (MSf.of hM))) hR1 (hP.mf hM) hO s36
      · have e1 : lkV o L (sk o L p) ≠ -1 := by
          unfold lkV
          rw [if_pos (by omega)]
          have := ho (sk o L p) (by omega) (by omega)
          omega
        refine uR_98 ⟨by omega, fun z => absurd z e1, fun _ => ⟨by omega, mstat (hP.mf hM) hO (by omega) hR1 hS1 s36 (by omega) (fun _ T hT hRT => ?_) (fun z => absurd (by omega) z)⟩⟩
        refine uR_106 (hq0 T (5, sk o L p) ?_ (hF.tr ((MSh.of (MSf.of hM)).tr (MSh.of hT))) hRT)
        rw [hE]
        exact if_neg cL
    | succ n ih =>
      intro c ρ' p e S hc hc0 hF hR hP hO h36 hE
      have h5 := rt0 hR
      have ho := hR.f.1.2.2.2.1
      have hL0 := hR.f.1.2.2.1
      have hpp := hR.f.2.2
      have ht := tok (o := o) (L := L) e hpp.2.1 (by omega)
      refine uR_87 ⟨by omega, fun z => absurd h5 z, fun _ => ⟨by omega, mlook hR (fun S1 _ hM hR1 hS1 => ?_)⟩⟩
      have s36 : S1 42 36 = c := by rw [hM.2 36 (by decide) (by decide) (by decide) (by decide) (by decide) (by decide)]; exact h36
      have hlr := lkV_r (o := o) (L := L) (s := sk o L p) ho (by omega) hL0.2
      by_cases cL : L ≤ sk o L p
      · have e1 : lkV o L (sk o L p) = -1 := if_neg (by omega)
        rw [e1]
        exact hq1 S1 c ρ' p e (by rw [hE]; exact rdF_e cL) (hF.tr (MSh.of (MSf.of hM))) hR1 (hP.mf hM) hO s36
      · have e1 : lkV o L (sk o L p) ≠ -1 := by
          unfold lkV
          rw [if_pos (by omega)]
          have := ho (sk o L p) (by omega) (by omega)
          omega
        rw [rdF_s cL] at hE
        refine uR_98 ⟨by omega, fun z => absurd z e1, fun _ => ⟨by omega, mstat (hP.mf hM) hO (by omega) hR1 hS1 s36 (by omega) (fun z => absurd z (by omega)) (fun _ T hT hX => ?_)⟩⟩
        have hFT := hF.tr ((MSh.of (MSf.of hM)).tr ((MSh.u36 S1 (c + 1)).tr (MSh.of hT)))
        have t36 : T 42 36 = c + 1 := by rw [hT.2.1 36 (by decide) (by decide) (by decide) (by decide) (by decide) (by decide), up_at]
        rcases hs : stS o L ρ' p e with z | ⟨r, p1, e1⟩
        · rw [hs] at hX hE
          exact uR_106 (hq0 T z hE hFT hX)
        · rw [hs] at hX hE
          exact uR_106 (ih (c + 1) r p1 e1 T (by omega) (by omega) hFT hX.1 hX.2.1 hX.2.2 t36 hE)
  exact key 70 0 ρ0 0 (-1) τ (by decide) (by decide) (MSh.rf τ) hR hP hO h36 rfl
/-- the reference's realm up to its end -/
theorem mref {d : Nat} {o : Int → Int} {L : Int} {ρ τ : SG} {Q : Option AV → SG → Prop} (hd : 40 ≤ d) (h43 : ∀ i, 0 ≤ i → i < 1600 → τ 43 i = o i) (h1 : τ 42 1 = L) (hL : 0 ≤ L ∧ L ≤ 1600) (ho : OCT o) (hW : WD τ) (hq0 : ∀ S z, rdF o L 70 0 (rCl0 ρ) 0 (-1) = .inl z → MSh (up τ 42 1 0) S → RTp o L (.inl z) S → AW d mX9_realm 87 [some (.inr (.inr 42)), none] [] S Q) (hq1 : ∀ S c ρ' p e, rdF o L 70 0 (rCl0 ρ) 0 (-1) = .inr (c, ρ') → MSh (up τ 42 1 0) S → RTp o L (.inr (0, p, e)) S → PRl ρ' S → ROk ρ' → S 42 36 = c → AW d mX9_realm 98 [some (.inr (.inr 42)), none] [.inl (-1)] S Q) : AW d mX9_realm 0 [some (.inr (.inr 42)), none] [] τ Q := by
  refine uR_0 (fun S1 e1 S2 e2 S3 e3 S4 e4 S5 e5 S6 e6 S7 e7 S8 e8 => ?_)
  rw [h1] at e1
  have hp : ∀ p, p ≠ 42 → p ≠ 68 → S8 p = τ p := fun p a b => by rw [e8, up_pf b, e7, up_pf a, e6, up_pf a, e5, up_pf a, e4, up_pf a, e3, up_pf a, e2, up_pf a, e1, up_pf a]
  have h68 : S8 68 = upf (τ 68) 0 99 := by rw [e8, up_rw, putF_at, e7, up_pf (by decide), e6, up_pf (by decide), e5, up_pf (by decide), e4, up_pf (by decide), e3, up_pf (by decide), e2, up_pf (by decide), e1, up_pf (by decide)]
  have h42 : ∀ i, i ≠ 3 → i ≠ 1 → i ≠ 2 → i ≠ 4 → i ≠ 5 → i ≠ 6 → i ≠ 36 → S8 42 i = τ 42 i := fun i a b c f g k l => by rw [e8, up_p (by decide), e7, up_i l, e6, up_i k, e5, up_i g, e4, up_i f, e3, up_i c, e2, up_i b, e1, up_i a]
  have k36 : S8 42 36 = 0 := by rw [e8, up_p (by decide), e7, up_at]
  have k6 : S8 42 6 = -1 := by rw [e8, up_p (by decide), e7, up_i (by decide), e6, up_at]
  have k5 : S8 42 5 = 0 := by rw [e8, up_p (by decide), e7, up_i (by decide), e6, up_i (by decide), e5, up_at]
  have k4 : S8 42 4 = -1 := by rw [e8, up_p (by decide), e7, up_i (by decide), e6, up_i (by decide), e5, up_i (by decide), e4, up_at]
  have k2 : S8 42 2 = 0 := by rw [e8, up_p (by decide), e7, up_i (by decide), e6, up_i (by decide), e5, up_i (by decide), e4, up_i (by decide), e3, up_at]
  have k1 : S8 42 1 = 0 := by rw [e8, up_p (by decide), e7, up_i (by decide), e6, up_i (by decide), e5, up_i (by decide), e4, up_i (by decide), e3, up_i (by decide), e2, up_at]
  have k3 : S8 42 3 = L := by rw [e8, up_p (by decide), e7, up_i (by decide), e6, up_i (by decide), e5, up_i (by decide), e4, up_i (by decide), e3, up_i (by decide), e2, up_i (by decide), e1, up_at]
  have loop1 := downInd (P := fun i => ∀ g, (∀ j, g j = if 0 ≤ j ∧ j < i then 0 else τ 61 j) → AW d mX9_realm 48 [some (.inr (.inr 42)), some (.inl i)] [] (putF S8 61 g) Q) (lo := 0) (hi := 4) (by decide) ?_ ?_ (τ 61) (fun j => by rw [if_neg (by omega)])
  · rw [← hp 61 (by decide) (by decide), putF_self] at loop1
    exact loop1
  · intro g hg
    refine uR_48 ⟨by decide, fun _ => ?_, fun z => by omega⟩
    have loop2 := downInd (P := fun i => ∀ g', (∀ j, g' j = if 0 ≤ j ∧ j < i then 0 else τ 65 j) → AW d mX9_realm 68 [some (.inr (.inr 42)), some (.inl i)] [] (putF (putF S8 61 g) 65 g') Q) (lo := 0) (hi := 7) (by decide) ?_ ?_ (τ 65) (fun j => by rw [if_neg (by omega)])
    · have e : putF (putF S8 61 g) 65 (τ 65) = putF S8 61 g := by
        have := putF_self (putF S8 61 g) 65
        rw [putF_ne (by decide), hp 65 (by decide) (by decide)] at this
        exact this
      rw [e] at loop2
      exact loop2
    · intro g' hg'
      refine uR_68 ⟨by decide, fun _ => ?_, fun z => by omega⟩
      have y : ∀ p, p ≠ 61 → p ≠ 65 → putF (putF S8 61 g) 65 g' p = S8 p := fun p a b => by rw [putF_ne b, putF_ne a]
      have y61 : putF (putF S8 61 g) 65 g' 61 = g := by rw [putF_ne (by decide), putF_at]
      have y65 : putF (putF S8 61 g) 65 g' 65 = g' := putF_at ..
      have hMS : MSh (up τ 42 1 0) (putF (putF S8 61 g) 65 g') := by
        refine ⟨fun p a b => ?_, ⟨?_, ?_, ?_, ?_⟩, fun i hi => ?_, fun i hi => ?_, fun i hi => ?_, fun i hi => ?_, fun i hi => ?_, ?_⟩
        · rw [y p (by omega) (by omega), hp p a (by omega), up_pf a]
        · rw [y 42 (by decide) (by decide), up_at]
          exact k1
        · rw [y 42 (by decide) (by decide), up_i (by decide)]
          exact h42 40 (by decide) (by decide) (by decide) (by decide) (by decide) (by decide) (by decide)
        · rw [y 42 (by decide) (by decide), up_i (by decide)]
          exact h42 41 (by decide) (by decide) (by decide) (by decide) (by decide) (by decide) (by decide)
        · rw [y 42 (by decide) (by decide), up_i (by decide)]
          exact h42 81 (by decide) (by decide) (by decide) (by decide) (by decide) (by decide) (by decide)
        · rw [y61, up_p (by decide), hg i, if_neg (by omega)]
        · rw [y 62 (by decide) (by decide), hp 62 (by decide) (by decide), up_p (by decide)]
        · rw [y 63 (by decide) (by decide), hp 63 (by decide) (by decide), up_p (by decide)]
        · rw [y 64 (by decide) (by decide), hp 64 (by decide) (by decide), up_p (by decide)]
        · rw [y65, up_p (by decide), hg' i, if_neg (by omega)]
        · rw [y 68 (by decide) (by decide), h68, upf_ne (by decide), up_p (by decide)]
      obtain ⟨a0, a1, a2, a3, a4, a9⟩ := rCl0_0 ρ
      refine mrd hd (fun S z hz hS hRS => hq0 S z hz (hMS.tr hS) hRS) (fun S c ρ' p e hz hS => hq1 S c ρ' p e hz (hMS.tr hS)) ?_ (ROk.clr ρ) ?_ ?_
      · unfold PRl
        rw [y61, y65, a0, a1, a2, a3, a4]
        refine ⟨⟨by rw [hg 0, if_pos (by decide)], by rw [hg 1, if_pos (by decide)], by rw [hg 2, if_pos (by decide)], by rw [hg 3, if_pos (by decide)]⟩, fun t t0 t1 => by omega, fun t t0 t1 => by omega, fun t t0 t1 => by omega, fun t t0 t1 => by omega, fun k k0 k1 => ?_, fun t t0 t1 => by omega, fun k k0 k1 => by omega, ?_⟩
        · rw [hg' k, if_pos (by omega), a9 k k0 k1]
        · rw [y 68 (by decide) (by decide), h68, upf_at]
      · refine RTp.mk ⟨fun i i0 i1 => ?_, ?_, hL, ho, hW.cong (fun p hp' => ?_)⟩ ?_ ?_ (by decide) ?_ ?_
        · rw [y 43 (by decide) (by decide), hp 43 (by decide) (by decide)]
          exact h43 i i0 i1
        · rw [y 42 (by decide) (by decide)]
          exact k3
        · unfold WP at hp'
          rw [y p (by omega) (by omega), hp p (by omega) (by omega)]
        · rw [y 42 (by decide) (by decide)]
          exact ⟨k5, k6⟩
        · rw [y 42 (by decide) (by decide), k2]
          exact ⟨by decide, hL.1, rfl⟩
        · rw [y 42 (by decide) (by decide), k4]
          decide
        · rw [y 42 (by decide) (by decide), k4]
          exact fun s _ => Iff.rfl
      · rw [y 42 (by decide) (by decide)]
        exact k36
    · intro i i0 i1 ih g' hg'
      refine uR_68 ⟨by omega, fun z => by omega, fun _ => ⟨by omega, fun S eS => ?_⟩⟩
      rw [eS, putF_up]
      refine ih _ (fun j => ?_)
      by_cases c1 : j = i
      · rw [if_pos c1, if_pos (by omega)]
      · rw [if_neg c1, hg' j]
        by_cases c2 : 0 ≤ j ∧ j < i
        · rw [if_pos c2, if_pos (by omega)]
        · rw [if_neg c2, if_neg (by omega)]
  · intro i i0 i1 ih g hg
    refine uR_48 ⟨by omega, fun z => by omega, fun _ => ⟨by omega, fun S eS => ?_⟩⟩
    rw [eS, putF_up]
    refine ih _ (fun j => ?_)
    by_cases c1 : j = i
    · rw [if_pos c1, if_pos (by omega)]
    · rw [if_neg c1, hg j]
      by_cases c2 : 0 ≤ j ∧ j < i
      · rw [if_pos c2, if_pos (by omega)]
      · rw [if_neg c2, if_neg (by omega)]
theorem sn_2 {d : Nat} {σ : SG} {Q : Option AV → SG → Prop} (hq : AW d mX9_stands 29 [some (.inr (.inr 42)), some (.inl 0)] [] (putF σ 61 (fun j => if 4 ≤ j ∧ j < 8 then σ 61 (j - 4) else σ 61 j)) Q) : AW d mX9_stands 2 [some (.inr (.inr 42)), some (.inl 0)] [] σ Q := by
  have loop := downInd (P := fun i => ∀ g, (∀ j, g j = if 4 ≤ j ∧ j < 4 + i then σ 61 (j - 4) else σ 61 j) → AW d mX9_stands 2 [some (.inr (.inr 42)), some (.inl i)] [] (putF σ 61 g) Q) (lo := 0) (hi := 4) (by decide) ?_ ?_ (σ 61) (fun j => by rw [if_neg (by omega)])
  · rw [putF_self] at loop
    exact loop
  · intro g hg
    have eg : g = (fun j => if 4 ≤ j ∧ j < 8 then σ 61 (j - 4) else σ 61 j) := funext hg
    rw [← eg] at hq
    exact uN_2 ⟨by decide, fun _ => hq, fun z => by omega⟩
  · intro i i0 i1 ih g hg
    refine uN_2 ⟨by omega, fun z => by omega, fun _ => ⟨by omega, by omega, fun S eS => ?_⟩⟩
    rw [eS, putF_up, putF_at]
    refine ih _ (fun j => ?_)
    by_cases c1 : j = 4 + i
    · rw [if_pos c1, if_pos (by omega), c1, show 4 + i - 4 = i by omega, hg i, if_neg (by omega)]
    · rw [if_neg c1, hg j]
      by_cases c2 : 4 ≤ j ∧ j < 4 + i
      · rw [if_pos c2, if_pos (by omega)]
      · rw [if_neg c2, if_neg (by omega)]
theorem sn_29 {d : Nat} {σ : SG} {Q : Option AV → SG → Prop} (hq : AW d mX9_stands 58 [some (.inr (.inr 42)), some (.inl 0)] [] (putF σ 62 (fun j => if 16 ≤ j ∧ j < 32 then σ 62 (j - 16) else σ 62 j)) Q) : AW d mX9_stands 29 [some (.inr (.inr 42)), some (.inl 0)] [] σ Q := by
  have loop := downInd (P := fun i => ∀ g, (∀ j, g j = if 16 ≤ j ∧ j < 16 + i then σ 62 (j - 16) else σ 62 j) → AW d mX9_stands 29 [some (.inr (.inr 42)), some (.inl i)] [] (putF σ 62 g) Q) (lo := 0) (hi := 16) (by decide) ?_ ?_ (σ 62) (fun j => by rw [if_neg (by omega)])
  · rw [putF_self] at loop
    exact loop
  · intro g hg
    have eg : g = (fun j => if 16 ≤ j ∧ j < 32 then σ 62 (j - 16) else σ 62 j) := funext hg
    rw [← eg] at hq
    exact uN_29 ⟨by decide, fun _ => hq, fun z => by omega⟩
  · intro i i0 i1 ih g hg
    refine uN_29 ⟨by omega, fun z => by omega, fun _ => ⟨by omega, by omega, fun S eS => ?_⟩⟩
    rw [eS, putF_up, putF_at]
    refine ih _ (fun j => ?_)
    by_cases c1 : j = 16 + i
    · rw [if_pos c1, if_pos (by omega), c1, show 16 + i - 16 = i by omega, hg i, if_neg (by omega)]
    · rw [if_neg c1, hg j]
      by_cases c2 : 16 ≤ j ∧ j < 16 + i
      · rw [if_pos c2, if_pos (by omega)]
      · rw [if_neg c2, if_neg (by omega)]
theorem sn_58 {d : Nat} {σ : SG} {Q : Option AV → SG → Prop} (hq : AW d mX9_stands 87 [some (.inr (.inr 42)), some (.inl 0)] [] (putF σ 63 (fun j => if 8 ≤ j ∧ j < 16 then σ 63 (j - 8) else σ 63 j)) Q) : AW d mX9_stands 58 [some (.inr (.inr 42)), some (.inl 0)] [] σ Q := by
  have loop := downInd (P := fun i => ∀ g, (∀ j, g j = if 8 ≤ j ∧ j < 8 + i then σ 63 (j - 8) else σ 63 j) → AW d mX9_stands 58 [some (.inr (.inr 42)), some (.inl i)] [] (putF σ 63 g) Q) (lo := 0) (hi := 8) (by decide) ?_ ?_ (σ 63) (fun j => by rw [if_neg (by omega)])
  · rw [putF_self] at loop
    exact loop
  · intro g hg
    have eg : g = (fun j => if 8 ≤ j ∧ j < 16 then σ 63 (j - 8) else σ 63 j) := funext hg
    rw [← eg] at hq
    exact uN_58 ⟨by decide, fun _ => hq, fun z => by omega⟩
  · intro i i0 i1 ih g hg
    refine uN_58 ⟨by omega, fun z => by omega, fun _ => ⟨by omega, by omega, fun S eS => ?_⟩⟩
    rw [eS, putF_up, putF_at]
    refine ih _ (fun j => ?_)
    by_cases c1 : j = 8 + i
    · rw [if_pos c1, if_pos (by omega), c1, show 8 + i - 8 = i by omega, hg i, if_neg (by omega)]
    · rw [if_neg c1, hg j]
      by_cases c2 : 8 ≤ j ∧ j < 8 + i
      · rw [if_pos c2, if_pos (by omega)]
      · rw [if_neg c2, if_neg (by omega)]
theorem sn_87 {d : Nat} {σ : SG} {Q : Option AV → SG → Prop} (hq : AW d mX9_stands 116 [some (.inr (.inr 42)), some (.inl 0)] [] (putF σ 64 (fun j => if 24 ≤ j ∧ j < 48 then σ 64 (j - 24) else σ 64 j)) Q) : AW d mX9_stands 87 [some (.inr (.inr 42)), some (.inl 0)] [] σ Q := by
  have loop := downInd (P := fun i => ∀ g, (∀ j, g j = if 24 ≤ j ∧ j < 24 + i then σ 64 (j - 24) else σ 64 j) → AW d mX9_stands 87 [some (.inr (.inr 42)), some (.inl i)] [] (putF σ 64 g) Q) (lo := 0) (hi := 24) (by decide) ?_ ?_ (σ 64) (fun j => by rw [if_neg (by omega)])
  · rw [putF_self] at loop
    exact loop
  · intro g hg
    have eg : g = (fun j => if 24 ≤ j ∧ j < 48 then σ 64 (j - 24) else σ 64 j) := funext hg
    rw [← eg] at hq
    exact uN_87 ⟨by decide, fun _ => hq, fun z => by omega⟩
  · intro i i0 i1 ih g hg
    refine uN_87 ⟨by omega, fun z => by omega, fun _ => ⟨by omega, by omega, fun S eS => ?_⟩⟩
    rw [eS, putF_up, putF_at]
    refine ih _ (fun j => ?_)
    by_cases c1 : j = 24 + i
    · rw [if_pos c1, if_pos (by omega), c1, show 24 + i - 24 = i by omega, hg i, if_neg (by omega)]
    · rw [if_neg c1, hg j]
      by_cases c2 : 24 ≤ j ∧ j < 24 + i
      · rw [if_pos c2, if_pos (by omega)]
      · rw [if_neg c2, if_neg (by omega)]
theorem sn_116 {d : Nat} {σ : SG} {Q : Option AV → SG → Prop} (hq : ∀ S, S = up (putF σ 65 (fun j => if 7 ≤ j ∧ j < 14 then σ 65 (j - 7) else σ 65 j)) 68 1 (σ 68 0) → AW d mX9_stands 157 [some (.inr (.inr 42)), some (.inl 0)] [] S Q) : AW d mX9_stands 116 [some (.inr (.inr 42)), some (.inl 0)] [] σ Q := by
  have loop := downInd (P := fun i => ∀ g, (∀ j, g j = if 7 ≤ j ∧ j < 7 + i then σ 65 (j - 7) else σ 65 j) → AW d mX9_stands 116 [some (.inr (.inr 42)), some (.inl i)] [] (putF σ 65 g) Q) (lo := 0) (hi := 7) (by decide) ?_ ?_ (σ 65) (fun j => by rw [if_neg (by omega)])
  · rw [putF_self] at loop
    exact loop
  · intro g hg
    have eg : g = (fun j => if 7 ≤ j ∧ j < 14 then σ 65 (j - 7) else σ 65 j) := funext hg
    refine uN_116 ⟨by decide, fun _ S eS => ?_, fun z => by omega⟩
    refine hq S ?_
    rw [eS, eg, putF_ne (by decide)]
  · intro i i0 i1 ih g hg
    refine uN_116 ⟨by omega, fun z => by omega, fun _ => ⟨by omega, by omega, fun S eS => ?_⟩⟩
    rw [eS, putF_up, putF_at]
    refine ih _ (fun j => ?_)
    by_cases c1 : j = 7 + i
    · rw [if_pos c1, if_pos (by omega), c1, show 7 + i - 7 = i by omega, hg i, if_neg (by omega)]
    · rw [if_neg c1, hg j]
      by_cases c2 : 7 ≤ j ∧ j < 7 + i
      · rw [if_pos c2, if_pos (by omega)]
      · rw [if_neg c2, if_neg (by omega)]
theorem sn_157 {d : Nat} {σ : SG} {Q : Option AV → SG → Prop} (hq : ∀ g, (∀ j, 0 ≤ j → j < 254 → g j = 0) → AW d mX9_stands 179 [some (.inr (.inr 42)), some (.inl 0)] [] (putF σ 69 g) Q) : AW d mX9_stands 157 [some (.inr (.inr 42)), some (.inl 0)] [] σ Q := by
  have loop := downInd (P := fun i => ∀ g, (∀ j, 0 ≤ j → j < i → g j = 0) → AW d mX9_stands 157 [some (.inr (.inr 42)), some (.inl i)] [] (putF σ 69 g) Q) (lo := 0) (hi := 254) (by decide) ?_ ?_ (σ 69) (fun j a b => by omega)
  · rw [putF_self] at loop
    exact loop
  · intro g hg
    exact uN_157 ⟨by decide, fun _ => hq g hg, fun z => by omega⟩
  · intro i i0 i1 ih g hg
    refine uN_157 ⟨by omega, fun z => by omega, fun _ => ⟨by omega, fun S eS => ?_⟩⟩
    rw [eS, putF_up]
    refine ih _ (fun j a b => ?_)
    by_cases c1 : j = i
    · rw [if_pos c1]
    · rw [if_neg c1]
      exact hg j a (by omega)
theorem sn_179 {d : Nat} {ρ σ : SG} {Q : Option AV → SG → Prop} (h61 : σ 61 0 = ρ 0 0) (h0 : 0 ≤ ρ 0 0 ∧ ρ 0 0 ≤ 4) (h66 : ∀ t, 0 ≤ t → t < ρ 0 0 → ∀ i : Nat, i < 14 → σ 66 (14 * t + (i : Int)) = if tb (ρ 4 t) i = true then 1 else if tb (ρ 5 t) i = true then 2 else 0) (h69 : ∀ j, 0 ≤ j → j < 254 → σ 69 j = 0) (hq : ∀ g, (∀ j, 0 ≤ j → j < 254 → g j = lg0 ρ j) → AW d mX9_stands 230 [some (.inr (.inr 42)), some (.inl 0)] [] (putF σ 69 g) Q) : AW d mX9_stands 179 [some (.inr (.inr 42)), some (.inl 0)] [] σ Q := by
  have loop := downInd (P := fun i => ∀ g, (∀ j, 0 ≤ j → j < 254 → g j = if j < 6 + i then lg0 ρ j else 0) → AW d mX9_stands 179 [some (.inr (.inr 42)), some (.inl i)] [] (putF σ 69 g) Q) (lo := 0) (hi := 56) (by decide) ?_ ?_ (σ 69) (fun j a b => ?_)
  · rw [putF_self] at loop
    exact loop
  · intro g hg
    refine uN_179 ⟨by decide, fun _ => hq g (fun j a b => ?_), fun z => by omega⟩
    rw [hg j a b]
    by_cases c : j < 6 + 56
    · rw [if_pos c]
    · rw [if_neg c]
      unfold lg0
      rw [if_neg (by omega)]
  · intro i i0 i1 ih g hg
    have nxt : ∀ v, v = lg0 ρ (6 + i) → AW d mX9_stands 179 [some (.inr (.inr 42)), some (.inl (i + 1))] [] (putF σ 69 (fun j => if j = 6 + i then v else g j)) Q := by
      intro v hv
      refine ih _ (fun j a b => ?_)
      by_cases c1 : j = 6 + i
      · rw [if_pos c1, if_pos (by omega), c1]
        exact hv
      · rw [if_neg c1, hg j a b]
        by_cases c2 : j < 6 + i
        · rw [if_pos c2, if_pos (by omega)]
        · rw [if_neg c2, if_neg (by omega)]
    refine uN_179 ?_
    rw [putF_ne (show 61 ≠ 69 by decide), putF_ne (show 66 ≠ 69 by decide), h61]
    have e66 : i < 14 * ρ 0 0 → σ 66 i = (if tb (ρ 4 (i / 14)) (i % 14).toNat = true then 1 else if tb (ρ 5 (i / 14)) (i % 14).toNat = true then 2 else 0) := by
      intro z
      have := h66 (i / 14) (by omega) (by omega) (i % 14).toNat (by omega)
      rwa [show 14 * (i / 14) + (((i % 14).toNat : Nat) : Int) = i by omega] at this
    have el : lg0 ρ (6 + i) = if 6 ≤ 6 + i ∧ 6 + i < 6 + 14 * ρ 0 0 ∧ tb (ρ 4 (i / 14)) (i % 14).toNat = true then 1 else 0 := by
      unfold lg0
      rw [show 6 + i - 6 = i by omega]
    refine ⟨by omega, fun z => by omega, fun _ => ⟨by omega, fun c => ⟨by omega, fun S eS => ?_⟩, fun c => ⟨by omega, ?_, fun c2 => ⟨by omega, fun S eS => ?_⟩, fun c2 => ⟨by omega, fun S eS => ?_⟩⟩⟩⟩
    · rw [eS, putF_up]
      refine nxt 0 ?_
      rw [el, if_neg (by omega)]
    · rw [e66 c]
      split
      · decide
      · split <;> decide
    · rw [eS, putF_up]
      refine nxt 0 ?_
      rw [e66 c] at c2
      rw [el, if_neg]
      rintro ⟨_, _, z⟩
      rw [if_pos z] at c2
      exact c2 rfl
    · rw [eS, putF_up]
      refine nxt 1 ?_
      rw [e66 c] at c2
      rw [el, if_pos]
      refine ⟨by omega, by omega, ?_⟩
      cases hb : tb (ρ 4 (i / 14)) (i % 14).toNat
      · rw [hb, if_neg (by decide)] at c2
        split at c2 <;> omega
      · rfl
  · rw [h69 j a b]
    by_cases c : j < 6 + 0
    · rw [if_pos c]
      unfold lg0
      rw [if_neg (by omega)]
    · rw [if_neg c]
theorem mstF_cong {f g : Int → Int} {t s to dy rn fl j : Int} (h1 : g 1 = f 1) (hj : g j = f j) : mstF g t s to dy rn fl j = mstF f t s to dy rn fl j := by
  unfold mstF
  rw [h1, hj]
theorem stF_cong {f g : Int → Int} {t s to dy rn fl j : Int} (h1 : g 1 = f 1) (hj : g j = f j) : stF g t s to dy rn fl j = stF f t s to dy rn fl j := by
  unfold stF
  rw [h1, hj]
theorem sn_230 {d : Nat} {ρ σ : SG} {Q : Option AV → SG → Prop} (hd : 10 ≤ d) (hO : ROk ρ) (h61 : σ 61 2 = ρ 0 3) (h67 : ∀ k, 0 ≤ k → k < ρ 0 3 * 5 → σ 67 k = ρ 10 k) (h63 : ∀ t, 0 ≤ t → t < ρ 0 0 → σ 63 (8 + 2 * t) = ρ 2 t) (h69 : ∀ j, 0 ≤ j → j < 254 → σ 69 j = lg0 ρ j) (hq : ∀ g, (∀ j, 0 ≤ j → j < 254 → g j = (lFG ρ (ρ 0 3).toNat).2 j) → Q none (up (putF σ 69 g) 42 40 0)) : AW d mX9_stands 230 [some (.inr (.inr 42)), some (.inl 0)] [] σ Q := by
  have hO' := hO
  obtain ⟨⟨a0, a1, a2, a3, a4⟩, hT, hG, hE, hLo, hDi, hN, hM⟩ := hO'
  have hH : ∀ t, 0 ≤ t → t < ρ 0 0 → 3 ≤ ρ 2 t ∧ ρ 2 t ≤ 14 := fun t x y => (hT t x y).1
  have loop := downInd (P := fun i => ∀ g, (∀ j, 0 ≤ j → j < 254 → g j = (lFG ρ i.toNat).2 j) → AW d mX9_stands 230 [some (.inr (.inr 42)), some (.inl i)] [] (putF σ 69 g) Q) (lo := 0) (hi := ρ 0 3) a3.1 ?_ ?_ (σ 69) h69
  · rw [putF_self] at loop
    exact loop
  · intro g hg
    refine uN_230 ?_
    rw [putF_ne (show 61 ≠ 69 by decide), h61]
    refine ⟨by omega, fun _ S eS => ?_, fun z => by omega⟩
    rw [eS]
    exact hq g hg
  · intro i i0 i1 ih g hg
    obtain ⟨h1, h2, h3⟩ := RS_told hO (B := 0) (D := 0) (by decide) (by decide) i.toNat (by omega)
    have hei : ((i.toNat : Nat) : Int) = i := by omega
    have hR := h1.cong a0.2 hH (f' := (lFG ρ i.toNat).1) (g' := g) (fun _ _ _ => rfl) hg
    obtain ⟨l1, l2, l3, l4, l5, l6, l7⟩ := hLo i i0 i1
    have hh := hH _ l1.1 l1.2
    have ho := hH _ l3.1 l3.2
    have hMl := hR.mlr a0.2 hH
    obtain ⟨m1, m2, _, _, m5⟩ := hR.2.2.2.1 _ l3.1 l3.2
    have g1 : g 1 = (lFG ρ i.toNat).1 1 := hR.2.1.2.2
    refine uN_230 ?_
    rw [putF_ne (show 61 ≠ 69 by decide), putF_ne (show 67 ≠ 69 by decide), putF_ne (show 63 ≠ 69 by decide), putF_at, h61]
    have e0 : σ 67 (5 * i) = ρ 10 (i * 5) := by rw [show i * 5 = 5 * i by omega]; exact h67 _ (by omega) (by omega)
    have e1 : σ 67 (5 * i + 1) = ρ 10 (i * 5 + 1) := by rw [show i * 5 = 5 * i by omega]; exact h67 _ (by omega) (by omega)
    have e2 : σ 67 (5 * i + 2) = ρ 10 (i * 5 + 2) := by rw [show i * 5 = 5 * i by omega]; exact h67 _ (by omega) (by omega)
    have e3 : σ 67 (5 * i + 3) = ρ 10 (i * 5 + 3) := by rw [show i * 5 = 5 * i by omega]; exact h67 _ (by omega) (by omega)
    have e4 : σ 67 (5 * i + 4) = ρ 10 (i * 5 + 4) := by rw [show i * 5 = 5 * i by omega]; exact h67 _ (by omega) (by omega)
    have e63 := h63 _ l3.1 l3.2
    have em : mstV (putF σ 69 g) (ρ 10 (i * 5 + 2)) = bor ((lFG ρ i.toNat).1 (6 + ρ 10 (i * 5 + 2))) ((lFG ρ i.toNat).1 (18 + ρ 10 (i * 5 + 2))) := by
      unfold mstV
      rw [putF_at, putF_ne (show 63 ≠ 69 by decide), e63, ← m2, ← m5]
    rw [e0, e1, e2, e3, e4, e63, em, putF_putF]
    refine ⟨by omega, fun z => by omega, fun _ => ⟨by omega, by omega, by omega, by omega, by omega, by omega, ⟨by omega, hMl, by omega, by omega, by omega, by omega, by omega, by omega, by omega, by omega, m1, by omega⟩, ih _ (fun j a b => ?_)⟩⟩
    rw [show (i + 1).toNat = i.toNat + 1 by omega]
    show _ = lstG ρ (lFG ρ i.toNat).1 (lFG ρ i.toNat).2 ((i.toNat : Nat) : Int) j
    unfold lstG lfl
    rw [hei]
    exact mstF_cong (hg 1 (by decide) (by decide)) (hg j a b)
/-- the class's row of a realm that begins -/
theorem cbegin {d r : Nat} {ρ σ : SG} {Q : Option AV → SG → Prop} (hr : r = 5 ∨ r = 16) (hd : 6 ≤ d) (hC : RCl r ρ σ) (hO : ROk ρ) (hq : ∀ F, (∀ j, 0 ≤ j → j < 214 → F j = (lFG ρ (ρ 0 3).toNat).1 j) → Q none (putF σ 35 F)) : AW d mX6_beginWith 0 [some (.inr (.inr 34)), some (.inr (.inr r)), none, none, none] [] σ Q := by
  have hO' := hO
  obtain ⟨⟨a0, a1, a2, a3, a4⟩, hT, hG, hE, hLo, hDi, hN, hM⟩ := hO'
  have hH : ∀ t, 0 ≤ t → t < ρ 0 0 → 3 ≤ ρ 2 t ∧ ρ 2 t ≤ 14 := fun t x y => (hT t x y).1
  have y : ∀ (g : Int → Int) j, j ≤ 10 → putF σ 35 g (r + j) = ρ j := fun g j hj => by rw [putF_ne (by omega)]; exact hC j hj
  have y0 : ∀ (g : Int → Int), putF σ 35 g r = ρ 0 := fun g => y g 0 (by decide)
  refine sB_0 hr ?_
  have loop1 := downInd (P := fun i => ∀ g, (∀ j, 0 ≤ j → j < i → g j = 0) → AW d mX6_beginWith 2 [some (.inr (.inr 34)), some (.inr (.inr r)), some (.inl i), none, none] [] (putF σ 35 g) Q) (lo := 0) (hi := 214) (by decide) ?_ ?_ (σ 35) (fun j a b => by omega)
  · rw [putF_self] at loop1
    exact loop1
  · intro g hg
    refine sB_2 hr ⟨by decide, fun _ => ?_, fun z => by omega⟩
    have loop2 := downInd (P := fun i => ∀ g, (∀ j, 0 ≤ j → j < 214 → g j = if j < 6 + i then lf0 ρ j else 0) → AW d mX6_beginWith 24 [some (.inr (.inr 34)), some (.inr (.inr r)), some (.inl i), none, none] [] (putF σ 35 g) Q) (lo := 0) (hi := ρ 0 0) a0.1 ?_ ?_ g (fun j a b => ?_)
    · exact loop2
    · intro g hg
      refine sB_24 hr ?_
      rw [y0]
      refine ⟨by omega, fun _ => ?_, fun z => by omega⟩
      have loop3 := downInd (P := fun i => ∀ g, (∀ j, 0 ≤ j → j < 214 → g j = (lFG ρ i.toNat).1 j) → AW d mX6_beginWith 75 [some (.inr (.inr 34)), some (.inr (.inr r)), some (.inr (.inr (r + 10))), some (.inl i), none] [] (putF σ 35 g) Q) (lo := 0) (hi := ρ 0 3) a3.1 ?_ ?_ g (fun j a b => ?_)
      · exact loop3
      · intro g hg
        refine sB_75 hr ?_
        rw [y0]
        exact ⟨by omega, fun _ => hq g hg, fun z => by omega⟩
      · intro i i0 i1 ih g hg
        obtain ⟨h1, h2, h3⟩ := RS_told hO (B := 0) (D := 0) (by decide) (by decide) i.toNat (by omega)
        have hei : ((i.toNat : Nat) : Int) = i := by omega
        have hR := h1.cong a0.2 hH (f' := g) (g' := (lFG ρ i.toNat).2) hg (fun _ _ _ => rfl)
        obtain ⟨l1, l2, l3, l4, l5, l6, l7⟩ := hLo i i0 i1
        have hh := hH _ l1.1 l1.2
        have ho := hH _ l3.1 l3.2
        have hS := hR.sr a0.2 hH
        have g1 := hg 1 (by decide) (by decide)
        refine sB_75 hr ?_
        rw [y0, y g 10 (by decide), y g 2 (by decide), putF_at, putF_putF]
        refine ⟨by omega, fun z => by omega, fun _ => ⟨by omega, by omega, by omega, by omega, by omega, by omega, ⟨by omega, hS, by omega, by omega, by omega, by omega, by omega, by omega, l4, by omega, by omega, by omega, by omega⟩, ih _ (fun j a b => ?_)⟩⟩
        rw [show (i + 1).toNat = i.toNat + 1 by omega]
        show _ = lstF ρ (lFG ρ i.toNat).1 ((i.toNat : Nat) : Int) j
        unfold lstF lfl
        rw [hei, ← hg (6 + ρ 10 (i * 5 + 2)) (by omega) (by omega), ← hg (18 + ρ 10 (i * 5 + 2)) (by omega) (by omega)]
        exact stF_cong g1 (hg j a b)
      · rw [hg j a b]
        show _ = lf0 ρ j
        by_cases c : j < 6 + ρ 0 0
        · rw [if_pos c]
        · rw [if_neg c]
          unfold lf0
          rw [if_neg (by omega)]
    · intro i i0 i1 ih g hg
      have hhi := hH i i0 i1
      refine sB_24 hr ?_
      rw [y0, y g 2 (by decide), y g 4 (by decide)]
      refine ⟨by omega, fun z => by omega, fun _ => ⟨by omega, by omega, by omega, by omega, fun S eS => ?_⟩⟩
      rw [eS, putF_up]
      refine ih _ (fun j a b => ?_)
      by_cases c1 : j = 6 + i
      · rw [if_pos c1, if_pos (by omega), c1]
        unfold lf0
        rw [if_pos (by omega), show 6 + i - 6 = i by omega]
      · rw [if_neg c1, hg j a b]
        by_cases c2 : j < 6 + i
        · rw [if_pos c2, if_pos (by omega)]
        · rw [if_neg c2, if_neg (by omega)]
    · rw [hg j a b]
      by_cases c : j < 6 + 0
      · rw [if_pos c]
        unfold lf0
        rw [if_neg (by omega)]
      · rw [if_neg c]
  · intro i i0 i1 ih g hg
    refine sB_2 hr ⟨by omega, fun z => by omega, fun _ => ⟨by omega, fun S eS => ?_⟩⟩
    rw [eS, putF_up]
    refine ih _ (fun j a b => ?_)
    by_cases c1 : j = i
    · rw [if_pos c1]
    · rw [if_neg c1]
      exact hg j a (by omega)
