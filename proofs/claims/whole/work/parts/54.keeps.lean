/-! ===== the reference: a day; copies; history (wip/whole/gen54.py) ===== -/
def kX9_dayGoes_0 : List BI := [bi (.iconst 0) 1 [] 0, bi (.istore_n 1) 1 [] 0, bi (.iconst 0) 1 [] 0, bi (.istore_n 2) 1 [] 0]
theorem cX9_dayGoes_0 : chk mX9_dayGoes 0 kX9_dayGoes_0 = true := by decide +kernel
theorem mdayGoes_0 {d : Nat} {σ : SG} {Q : Option AV → SG → Prop} (h : AW d mX9_dayGoes 4 [some (.inr (.inr 42)), some (.inl 0), some (.inl 0)] [] σ Q) : AW d mX9_dayGoes 0 [some (.inr (.inr 42)), none, none] [] σ Q := AW.blk kX9_dayGoes_0 cX9_dayGoes_0 (h)
def kX9_dayGoes_129 : List BI := [bi (.aload_n 0) 1 [] 0, bi (.getfield 94) 3 [9, 37] 0, bi (.iconst 0) 1 [] 0, bi (.dup2) 1 [] 0, bi (.iaload) 1 [] 0, bi (.iconst 1) 1 [] 0, bi (.iadd) 1 [] 0, bi (.iastore) 1 [] 0, bi (.iload_n 1) 1 [] 0, bi (.ireturn) 1 [] 0]
theorem cX9_dayGoes_129 : chk mX9_dayGoes 129 kX9_dayGoes_129 = true := by decide +kernel
def kX9_dayGoes_123 : List BI := [bi (.iinc 2 (1)) 3 [] 0, bi (.goto (-122)) 3 [4] 0]
theorem cX9_dayGoes_123 : chk mX9_dayGoes 123 kX9_dayGoes_123 = true := by decide +kernel
def kX9_dayGoes_115 : List BI := [bi (.aload_n 0) 1 [] 0, bi (.iload_n 2) 1 [] 0, bi (.invokevirtual 357) 3 [mX9_ends, 2, 2, 9] 0, bi (.iinc 1 (1)) 3 [] 0, bi (.iinc 2 (1)) 3 [] 0, bi (.goto (-122)) 3 [4] 0]
theorem cX9_dayGoes_115 : chk mX9_dayGoes 115 kX9_dayGoes_115 = true := by decide +kernel
def kX9_dayGoes_23 : List BI := [bi (.aload_n 0) 1 [] 0, bi (.getfield 94) 3 [9, 37] 0, bi (.iconst 2) 1 [] 0, bi (.aload_n 0) 1 [] 0, bi (.iload_n 2) 1 [] 0, bi (.iconst 2) 1 [] 0, bi (.invokevirtual 332) 3 [mX9_loanOf, 3, 3, 9] 0, bi (.iadd) 1 [] 0, bi (.dup2) 1 [] 0, bi (.iaload) 1 [] 0, bi (.aload_n 0) 1 [] 0, bi (.iload_n 2) 1 [] 0, bi (.iconst 4) 1 [] 0, bi (.invokevirtual 332) 3 [mX9_loanOf, 3, 3, 9] 0, bi (.isub) 1 [] 0, bi (.iastore) 1 [] 0, bi (.aload_n 0) 1 [] 0, bi (.getfield 94) 3 [9, 37] 0, bi (.iconst 2) 1 [] 0, bi (.aload_n 0) 1 [] 0, bi (.iload_n 2) 1 [] 0, bi (.iconst 0) 1 [] 0, bi (.invokevirtual 332) 3 [mX9_loanOf, 3, 3, 9] 0, bi (.iadd) 1 [] 0, bi (.dup2) 1 [] 0, bi (.iaload) 1 [] 0, bi (.aload_n 0) 1 [] 0, bi (.iload_n 2) 1 [] 0, bi (.iconst 4) 1 [] 0, bi (.invokevirtual 332) 3 [mX9_loanOf, 3, 3, 9] 0, bi (.iadd) 1 [] 0, bi (.iastore) 1 [] 0, bi (.aload_n 0) 1 [] 0, bi (.getfield 94) 3 [9, 37] 0, bi (.bipush (62)) 2 [] 0, bi (.bipush (8)) 2 [] 0, bi (.iload_n 2) 1 [] 0, bi (.imul) 1 [] 0, bi (.iadd) 1 [] 0, bi (.iconst 3) 1 [] 0, bi (.iadd) 1 [] 0, bi (.dup2) 1 [] 0, bi (.iaload) 1 [] 0, bi (.iconst 1) 1 [] 0, bi (.isub) 1 [] 0, bi (.iastore) 1 [] 0, bi (.aload_n 0) 1 [] 0, bi (.getfield 94) 3 [9, 37] 0, bi (.bipush (62)) 2 [] 0, bi (.bipush (8)) 2 [] 0, bi (.iload_n 2) 1 [] 0, bi (.imul) 1 [] 0, bi (.iadd) 1 [] 0, bi (.iconst 5) 1 [] 0, bi (.iadd) 1 [] 0, bi (.dup2) 1 [] 0, bi (.iaload) 1 [] 0, bi (.iconst 1) 1 [] 0, bi (.iadd) 1 [] 0, bi (.iastore) 1 [] 0, bi (.aload_n 0) 1 [] 0, bi (.iload_n 2) 1 [] 0, bi (.iconst 3) 1 [] 0, bi (.invokevirtual 332) 3 [mX9_loanOf, 3, 3, 9] 0, bi (.ifCond .le (6)) 3 [115] 0, bi (.goto (11)) 3 [123] 0]
theorem cX9_dayGoes_23 : chk mX9_dayGoes 23 kX9_dayGoes_23 = true := by decide +kernel
def kX9_dayGoes_4 : List BI := [bi (.iload_n 2) 1 [] 0, bi (.aload_n 0) 1 [] 0, bi (.invokevirtual 335) 3 [mX9_loanMany, 1, 1, 9] 0, bi (.if_icmp .ge (120)) 3 [129] 0, bi (.aload_n 0) 1 [] 0, bi (.iload_n 2) 1 [] 0, bi (.invokevirtual 338) 3 [mX9_lasts, 2, 2, 9] 0, bi (.ifCond .ne (6)) 3 [23] 0, bi (.goto (103)) 3 [123] 0]
theorem cX9_dayGoes_4 : chk mX9_dayGoes 4 kX9_dayGoes_4 = true := by decide +kernel
theorem mdayGoes_4 {d : Nat} {σ : SG} {Q : Option AV → SG → Prop} {l1 l2 : Int} (h : (0 < d) ∧ (r3 l2 ∧ r3 (σ 69 1)) ∧ ((σ 69 1) ≤ l2 → (∀ S1 : SG, S1 = up σ 69 0 ((σ 69 0) + 1) → Q (some (.inl l1)) S1)) ∧ (l2 < (σ 69 1) → (0 < d) ∧ (0 < d - 1) ∧ (0 ≤ ((62 + (8 * l2)) + 7) ∧ ((62 + (8 * l2)) + 7) < 254) ∧ (r3 (σ 69 ((62 + (8 * l2)) + 7))) ∧ ((σ 69 ((62 + (8 * l2)) + 7)) ≠ 0 → AW d mX9_dayGoes 4 [some (.inr (.inr 42)), some (.inl l1), some (.inl (l2 + 1))] [] σ Q) ∧ ((σ 69 ((62 + (8 * l2)) + 7)) = 0 → (0 < d) ∧ (0 ≤ ((62 + (8 * l2)) + 2) ∧ ((62 + (8 * l2)) + 2) < 254) ∧ (0 ≤ (2 + (σ 69 ((62 + (8 * l2)) + 2))) ∧ (2 + (σ 69 ((62 + (8 * l2)) + 2))) < 254) ∧ (0 < d) ∧ (0 ≤ ((62 + (8 * l2)) + 4) ∧ ((62 + (8 * l2)) + 4) < 254) ∧ (0 ≤ (2 + (σ 69 ((62 + (8 * l2)) + 2))) ∧ (2 + (σ 69 ((62 + (8 * l2)) + 2))) < 254) ∧ (∀ S2 : SG, S2 = up σ 69 (2 + (σ 69 ((62 + (8 * l2)) + 2))) ((σ 69 (2 + (σ 69 ((62 + (8 * l2)) + 2)))) - (σ 69 ((62 + (8 * l2)) + 4))) → (0 < d) ∧ (0 ≤ ((62 + (8 * l2)) + 0) ∧ ((62 + (8 * l2)) + 0) < 254) ∧ (0 ≤ (2 + (S2 69 ((62 + (8 * l2)) + 0))) ∧ (2 + (S2 69 ((62 + (8 * l2)) + 0))) < 254) ∧ (0 < d) ∧ (0 ≤ ((62 + (8 * l2)) + 4) ∧ ((62 + (8 * l2)) + 4) < 254) ∧ (0 ≤ (2 + (S2 69 ((62 + (8 * l2)) + 0))) ∧ (2 + (S2 69 ((62 + (8 * l2)) + 0))) < 254) ∧ (∀ S3 : SG, S3 = up S2 69 (2 + (S2 69 ((62 + (8 * l2)) + 0))) ((S2 69 (2 + (S2 69 ((62 + (8 * l2)) + 0)))) + (S2 69 ((62 + (8 * l2)) + 4))) → (0 ≤ ((62 + (8 * l2)) + 3) ∧ ((62 + (8 * l2)) + 3) < 254) ∧ (0 ≤ ((62 + (8 * l2)) + 3) ∧ ((62 + (8 * l2)) + 3) < 254) ∧ (∀ S4 : SG, S4 = up S3 69 ((62 + (8 * l2)) + 3) ((S3 69 ((62 + (8 * l2)) + 3)) - 1) → (0 ≤ ((62 + (8 * l2)) + 5) ∧ ((62 + (8 * l2)) + 5) < 254) ∧ (0 ≤ ((62 + (8 * l2)) + 5) ∧ ((62 + (8 * l2)) + 5) < 254) ∧ (∀ S5 : SG, S5 = up S4 69 ((62 + (8 * l2)) + 5) ((S4 69 ((62 + (8 * l2)) + 5)) + 1) → (0 < d) ∧ (0 ≤ ((62 + (8 * l2)) + 3) ∧ ((62 + (8 * l2)) + 3) < 254) ∧ (r3 (S5 69 ((62 + (8 * l2)) + 3))) ∧ ((S5 69 ((62 + (8 * l2)) + 3)) ≤ 0 → (0 < d) ∧ (1 ≤ d - 1 ∧ MLR (S5 69) ∧ 0 ≤ l2 ∧ l2 < (S5 69) 1 ∧ r3 (S5 68 1)) ∧ AW d mX9_dayGoes 4 [some (.inr (.inr 42)), some (.inl (l1 + 1)), some (.inl (l2 + 1))] [] (putF S5 69 (menF (S5 69) l2 (if (S5 69) (62 + 8 * l2 + 5) < (S5 68 1) then 6 else 14))) Q) ∧ (0 < (S5 69 ((62 + (8 * l2)) + 3)) → AW d mX9_dayGoes 4 [some (.inr (.inr 42)), some (.inl l1), some (.inl (l2 + 1))] [] S5 Q)))))))) : AW d mX9_dayGoes 4 [some (.inr (.inr 42)), some (.inl l1), some (.inl l2)] [] σ Q := AW.blk kX9_dayGoes_4 cX9_dayGoes_4 (⟨(h).1, AW.blk kX9_loanMany_0 cX9_loanMany_0 (⟨⟨(by decide), (by decide)⟩, ⟨⟨(((h).2).1).1, (((h).2).1).2⟩, ⟨fun c8 => AW.blk kX9_dayGoes_129 cX9_dayGoes_129 (⟨⟨(by decide), (by decide)⟩, ⟨⟨(by decide), (by decide)⟩, ((((h).2).2).1 c8) _ rfl⟩⟩), fun c8 => ⟨((((h).2).2).2 c8).1, AW.blk kX9_lasts_0 cX9_lasts_0 (⟨(((((h).2).2).2 c8).2).1, AW.blk kX9_loanOf_0 cX9_loanOf_0 (⟨⟨(((((((h).2).2).2 c8).2).2).1).1, (((((((h).2).2).2 c8).2).2).1).2⟩, ⟨(((((((h).2).2).2 c8).2).2).2).1, ⟨fun c7 => AW.blk kX9_lasts_14 cX9_lasts_14 (⟨(by decide), ⟨(by decide), ⟨fun c => absurd c (by decide), fun _ => AW.blk kX9_dayGoes_123 cX9_dayGoes_123 (((((((((h).2).2).2 c8).2).2).2).2).1 c7)⟩⟩⟩), fun c7 => AW.blk kX9_lasts_15 cX9_lasts_15 (⟨(by decide), ⟨(by decide), ⟨fun _ => AW.blk kX9_dayGoes_23 cX9_dayGoes_23 (⟨(((((((((h).2).2).2 c8).2).2).2).2).2 c7).1, AW.blk kX9_loanOf_0 cX9_loanOf_0 (⟨⟨(((((((((((h).2).2).2 c8).2).2).2).2).2 c7).2).1).1, (((((((((((h).2).2).2 c8).2).2).2).2).2 c7).2).1).2⟩, ⟨⟨((((((((((((h).2).2).2 c8).2).2).2).2).2 c7).2).2).1).1, ((((((((((((h).2).2).2 c8).2).2).2).2).2 c7).2).2).1).2⟩, ⟨((((((((((((h).2).2).2 c8).2).2).2).2).2 c7).2).2).2).1, AW.blk kX9_loanOf_0 cX9_loanOf_0 (⟨⟨((((((((((((((h).2).2).2 c8).2).2).2).2).2 c7).2).2).2).2).1).1, ((((((((((((((h).2).2).2 c8).2).2).2).2).2 c7).2).2).2).2).1).2⟩, ⟨⟨(((((((((((((((h).2).2).2 c8).2).2).2).2).2 c7).2).2).2).2).2).1).1, (((((((((((((((h).2).2).2 c8).2).2).2).2).2 c7).2).2).2).2).2).1).2⟩, ⟨((((((((((((((((h).2).2).2 c8).2).2).2).2).2 c7).2).2).2).2).2).2) _ rfl).1, AW.blk kX9_loanOf_0 cX9_loanOf_0 (⟨⟨((((((((((((((((((h).2).2).2 c8).2).2).2).2).2 c7).2).2).2).2).2).2) _ rfl).2).1).1, ((((((((((((((((((h).2).2).2 c8).2).2).2).2).2 c7).2).2).2).2).2).2) _ rfl).2).1).2⟩, ⟨⟨(((((((((((((((((((h).2).2).2 c8).2).2).2).2).2 c7).2).2).2).2).2).2) _ rfl).2).2).1).1, (((((((((((((((((((h).2).2).2 c8).2).2).2).2).2 c7).2).2).2).2).2).2) _ rfl).2).2).1).2⟩, ⟨(((((((((((((((((((h).2).2).2 c8).2).2).2).2).2 c7).2).2).2).2).2).2) _ rfl).2).2).2).1, AW.blk kX9_loanOf_0 cX9_loanOf_0 (⟨⟨(((((((((((((((((((((h).2).2).2 c8).2).2).2).2).2 c7).2).2).2).2).2).2) _ rfl).2).2).2).2).1).1, (((((((((((((((((((((h).2).2).2 c8).2).2).2).2).2 c7).2).2).2).2).2).2) _ rfl).2).2).2).2).1).2⟩, ⟨⟨((((((((((((((((((((((h).2).2).2 c8).2).2).2).2).2 c7).2).2).2).2).2).2) _ rfl).2).2).2).2).2).1).1, ((((((((((((((((((((((h).2).2).2 c8).2).2).2).2).2 c7).2).2).2).2).2).2) _ rfl).2).2).2).2).2).1).2⟩, ⟨⟨((((((((((((((((((((((((h).2).2).2 c8).2).2).2).2).2 c7).2).2).2).2).2).2) _ rfl).2).2).2).2).2).2) _ rfl).1).1, ((((((((((((((((((((((((h).2).2).2 c8).2).2).2).2).2 c7).2).2).2).2).2).2) _ rfl).2).2).2).2).2).2) _ rfl).1).2⟩, ⟨⟨(((((((((((((((((((((((((h).2).2).2 c8).2).2).2).2).2 c7).2).2).2).2).2).2) _ rfl).2).2).2).2).2).2) _ rfl).2).1).1, (((((((((((((((((((((((((h).2).2).2 c8).2).2).2).2).2 c7).2).2).2).2).2).2) _ rfl).2).2).2).2).2).2) _ rfl).2).1).2⟩, ⟨⟨(((((((((((((((((((((((((((h).2).2).2 c8).2).2).2).2).2 c7).2).2).2).2).2).2) _ rfl).2).2).2).2).2).2) _ rfl).2).2) _ rfl).1).1, (((((((((((((((((((((((((((h).2).2).2 c8).2).2).2).2).2 c7).2).2).2).2).2).2) _ rfl).2).2).2).2).2).2) _ rfl).2).2) _ rfl).1).2⟩, ⟨⟨((((((((((((((((((((((((((((h).2).2).2 c8).2).2).2).2).2 c7).2).2).2).2).2).2) _ rfl).2).2).2).2).2).2) _ rfl).2).2) _ rfl).2).1).1, ((((((((((((((((((((((((((((h).2).2).2 c8).2).2).2).2).2 c7).2).2).2).2).2).2) _ rfl).2).2).2).2).2).2) _ rfl).2).2) _ rfl).2).1).2⟩, ⟨(((((((((((((((((((((((((((((h).2).2).2 c8).2).2).2).2).2 c7).2).2).2).2).2).2) _ rfl).2).2).2).2).2).2) _ rfl).2).2) _ rfl).2).2) _ rfl).1, AW.blk kX9_loanOf_0 cX9_loanOf_0 (⟨⟨(((((((((((((((((((((((((((((((h).2).2).2 c8).2).2).2).2).2 c7).2).2).2).2).2).2) _ rfl).2).2).2).2).2).2) _ rfl).2).2) _ rfl).2).2) _ rfl).2).1).1, (((((((((((((((((((((((((((((((h).2).2).2 c8).2).2).2).2).2 c7).2).2).2).2).2).2) _ rfl).2).2).2).2).2).2) _ rfl).2).2) _ rfl).2).2) _ rfl).2).1).2⟩, ⟨(((((((((((((((((((((((((((((((h).2).2).2 c8).2).2).2).2).2 c7).2).2).2).2).2).2) _ rfl).2).2).2).2).2).2) _ rfl).2).2) _ rfl).2).2) _ rfl).2).2).1, ⟨fun c6 => AW.blk kX9_dayGoes_115 cX9_dayGoes_115 (⟨(((((((((((((((((((((((((((((((((h).2).2).2 c8).2).2).2).2).2 c7).2).2).2).2).2).2) _ rfl).2).2).2).2).2).2) _ rfl).2).2) _ rfl).2).2) _ rfl).2).2).2).1 c6).1, mends_ok ⟨((((((((((((((((((((((((((((((((((h).2).2).2 c8).2).2).2).2).2 c7).2).2).2).2).2).2) _ rfl).2).2).2).2).2).2) _ rfl).2).2) _ rfl).2).2) _ rfl).2).2).2).1 c6).2).1, ((((((((((((((((((((((((((((((((((h).2).2).2 c8).2).2).2).2).2 c7).2).2).2).2).2).2) _ rfl).2).2).2).2).2).2) _ rfl).2).2) _ rfl).2).2) _ rfl).2).2).2).1 c6).2).2⟩⟩), fun c6 => AW.blk kX9_dayGoes_123 cX9_dayGoes_123 (((((((((((((((((((((((((((((((((h).2).2).2 c8).2).2).2).2).2 c7).2).2).2).2).2).2) _ rfl).2).2).2).2).2).2) _ rfl).2).2) _ rfl).2).2) _ rfl).2).2).2).2 c6)⟩⟩⟩)⟩⟩⟩⟩⟩⟩⟩)⟩⟩⟩)⟩⟩⟩)⟩⟩⟩)⟩), fun c => absurd c (by decide)⟩⟩⟩)⟩⟩⟩)⟩)⟩⟩⟩⟩)⟩)
def kX9_putsAside_0 : List BI := [bi (.iconst 0) 1 [] 0, bi (.istore_n 1) 1 [] 0]
theorem cX9_putsAside_0 : chk mX9_putsAside 0 kX9_putsAside_0 = true := by decide +kernel
theorem mputs_0 {d : Nat} {σ : SG} {Q : Option AV → SG → Prop} (h : AW d mX9_putsAside 2 [some (.inr (.inr 42)), some (.inl 0)] [] σ Q) : AW d mX9_putsAside 0 [some (.inr (.inr 42)), none] [] σ Q := AW.blk kX9_putsAside_0 cX9_putsAside_0 (h)
def kX9_putsAside_27 : List BI := [bi (.return_) 1 [] 0]
theorem cX9_putsAside_27 : chk mX9_putsAside 27 kX9_putsAside_27 = true := by decide +kernel
def kX9_putsAside_2 : List BI := [bi (.iload_n 1) 1 [] 0, bi (.sipush (254)) 3 [] 0, bi (.if_icmp .ge (21)) 3 [27] 0, bi (.aload_n 0) 1 [] 0, bi (.getfield 103) 3 [9, 42] 0, bi (.iload_n 1) 1 [] 0, bi (.aload_n 0) 1 [] 0, bi (.getfield 94) 3 [9, 37] 0, bi (.iload_n 1) 1 [] 0, bi (.iaload) 1 [] 0, bi (.iastore) 1 [] 0, bi (.iinc 1 (1)) 3 [] 0, bi (.goto (-22)) 3 [2] 0]
theorem cX9_putsAside_2 : chk mX9_putsAside 2 kX9_putsAside_2 = true := by decide +kernel
theorem mputs_2 {d : Nat} {σ : SG} {Q : Option AV → SG → Prop} {l1 : Int} (h : (r3 l1) ∧ (254 ≤ l1 → Q none σ) ∧ (l1 < 254 → (0 ≤ l1 ∧ l1 < 254) ∧ (0 ≤ l1 ∧ l1 < 254) ∧ (∀ S9 : SG, S9 = up σ 72 l1 (σ 69 l1) → AW d mX9_putsAside 2 [some (.inr (.inr 42)), some (.inl (l1 + 1))] [] S9 Q))) : AW d mX9_putsAside 2 [some (.inr (.inr 42)), some (.inl l1)] [] σ Q := AW.blk kX9_putsAside_2 cX9_putsAside_2 (⟨⟨(h).1, (by decide)⟩, ⟨fun c10 => AW.blk kX9_putsAside_27 cX9_putsAside_27 (((h).2).1 c10), fun c10 => ⟨⟨((((h).2).2 c10).1).1, ((((h).2).2 c10).1).2⟩, ⟨⟨(((((h).2).2 c10).2).1).1, (((((h).2).2 c10).2).1).2⟩, (((((h).2).2 c10).2).2) _ rfl⟩⟩⟩⟩)
def kX9_takesBack_0 : List BI := [bi (.iconst 0) 1 [] 0, bi (.istore_n 1) 1 [] 0]
theorem cX9_takesBack_0 : chk mX9_takesBack 0 kX9_takesBack_0 = true := by decide +kernel
theorem mtakes_0 {d : Nat} {σ : SG} {Q : Option AV → SG → Prop} (h : AW d mX9_takesBack 2 [some (.inr (.inr 42)), some (.inl 0)] [] σ Q) : AW d mX9_takesBack 0 [some (.inr (.inr 42)), none] [] σ Q := AW.blk kX9_takesBack_0 cX9_takesBack_0 (h)
def kX9_takesBack_27 : List BI := [bi (.return_) 1 [] 0]
theorem cX9_takesBack_27 : chk mX9_takesBack 27 kX9_takesBack_27 = true := by decide +kernel
def kX9_takesBack_2 : List BI := [bi (.iload_n 1) 1 [] 0, bi (.sipush (254)) 3 [] 0, bi (.if_icmp .ge (21)) 3 [27] 0, bi (.aload_n 0) 1 [] 0, bi (.getfield 94) 3 [9, 37] 0, bi (.iload_n 1) 1 [] 0, bi (.aload_n 0) 1 [] 0, bi (.getfield 103) 3 [9, 42] 0, bi (.iload_n 1) 1 [] 0, bi (.iaload) 1 [] 0, bi (.iastore) 1 [] 0, bi (.iinc 1 (1)) 3 [] 0, bi (.goto (-22)) 3 [2] 0]
theorem cX9_takesBack_2 : chk mX9_takesBack 2 kX9_takesBack_2 = true := by decide +kernel
theorem mtakes_2 {d : Nat} {σ : SG} {Q : Option AV → SG → Prop} {l1 : Int} (h : (r3 l1) ∧ (254 ≤ l1 → Q none σ) ∧ (l1 < 254 → (0 ≤ l1 ∧ l1 < 254) ∧ (0 ≤ l1 ∧ l1 < 254) ∧ (∀ S11 : SG, S11 = up σ 69 l1 (σ 72 l1) → AW d mX9_takesBack 2 [some (.inr (.inr 42)), some (.inl (l1 + 1))] [] S11 Q))) : AW d mX9_takesBack 2 [some (.inr (.inr 42)), some (.inl l1)] [] σ Q := AW.blk kX9_takesBack_2 cX9_takesBack_2 (⟨⟨(h).1, (by decide)⟩, ⟨fun c12 => AW.blk kX9_takesBack_27 cX9_takesBack_27 (((h).2).1 c12), fun c12 => ⟨⟨((((h).2).2 c12).1).1, ((((h).2).2 c12).1).2⟩, ⟨⟨(((((h).2).2 c12).2).1).1, (((((h).2).2 c12).2).1).2⟩, (((((h).2).2 c12).2).2) _ rfl⟩⟩⟩⟩)
def kX9_keeps_0 : List BI := [bi (.aload_n 0) 1 [] 0, bi (.aload_n 0) 1 [] 0, bi (.getfield 408) 3 [9, 41] 0, bi (.iconst 1) 1 [] 0, bi (.iadd) 1 [] 0, bi (.bipush (20)) 2 [] 0, bi (.irem) 1 [] 0, bi (.putfield 408) 3 [9, 41] 0, bi (.iconst 0) 1 [] 0, bi (.istore_n 1) 1 [] 0]
theorem cX9_keeps_0 : chk mX9_keeps 0 kX9_keeps_0 = true := by decide +kernel
theorem mkeeps_0 {d : Nat} {σ : SG} {Q : Option AV → SG → Prop} (h : (r3 ((σ 42 41) + 1)) ∧ (∀ S13 : SG, S13 = up σ 42 41 (Int.tmod ((σ 42 41) + 1) 20) → AW d mX9_keeps 15 [some (.inr (.inr 42)), some (.inl 0)] [] S13 Q)) : AW d mX9_keeps 0 [some (.inr (.inr 42)), none] [] σ Q := AW.blk kX9_keeps_0 cX9_keeps_0 (⟨⟨(h).1, (by decide), (by decide)⟩, ((h).2) _ rfl⟩)
def kX9_keeps_68 : List BI := [bi (.return_) 1 [] 0]
theorem cX9_keeps_68 : chk mX9_keeps 68 kX9_keeps_68 = true := by decide +kernel
def kX9_keeps_49 : List BI := [bi (.aload_n 0) 1 [] 0, bi (.getfield 316) 3 [9, 40] 0, bi (.bipush (20)) 2 [] 0, bi (.if_icmp .ge (13)) 3 [68] 0, bi (.aload_n 0) 1 [] 0, bi (.dup) 1 [] 0, bi (.getfield 316) 3 [9, 40] 0, bi (.iconst 1) 1 [] 0, bi (.iadd) 1 [] 0, bi (.putfield 316) 3 [9, 40] 0, bi (.return_) 1 [] 0]
theorem cX9_keeps_49 : chk mX9_keeps 49 kX9_keeps_49 = true := by decide +kernel
def kX9_keeps_15 : List BI := [bi (.iload_n 1) 1 [] 0, bi (.sipush (254)) 3 [] 0, bi (.if_icmp .ge (30)) 3 [49] 0, bi (.aload_n 0) 1 [] 0, bi (.getfield 100) 3 [9, 39] 0, bi (.sipush (254)) 3 [] 0, bi (.aload_n 0) 1 [] 0, bi (.getfield 408) 3 [9, 41] 0, bi (.imul) 1 [] 0, bi (.iload_n 1) 1 [] 0, bi (.iadd) 1 [] 0, bi (.aload_n 0) 1 [] 0, bi (.getfield 94) 3 [9, 37] 0, bi (.iload_n 1) 1 [] 0, bi (.iaload) 1 [] 0, bi (.iastore) 1 [] 0, bi (.iinc 1 (1)) 3 [] 0, bi (.goto (-31)) 3 [15] 0]
theorem cX9_keeps_15 : chk mX9_keeps 15 kX9_keeps_15 = true := by decide +kernel
theorem mkeeps_15 {d : Nat} {σ : SG} {Q : Option AV → SG → Prop} {l1 : Int} (h : (r3 l1) ∧ (254 ≤ l1 → (r3 (σ 42 40)) ∧ (20 ≤ (σ 42 40) → Q none σ) ∧ ((σ 42 40) < 20 → (∀ S14 : SG, S14 = up σ 42 40 ((σ 42 40) + 1) → Q none S14))) ∧ (l1 < 254 → (0 ≤ l1 ∧ l1 < 254) ∧ (0 ≤ ((254 * (σ 42 41)) + l1) ∧ ((254 * (σ 42 41)) + l1) < 5080) ∧ (∀ S16 : SG, S16 = up σ 71 ((254 * (σ 42 41)) + l1) (σ 69 l1) → AW d mX9_keeps 15 [some (.inr (.inr 42)), some (.inl (l1 + 1))] [] S16 Q))) : AW d mX9_keeps 15 [some (.inr (.inr 42)), some (.inl l1)] [] σ Q := AW.blk kX9_keeps_15 cX9_keeps_15 (⟨⟨(h).1, (by decide)⟩, ⟨fun c17 => AW.blk kX9_keeps_49 cX9_keeps_49 (⟨⟨(((h).2).1 c17).1, (by decide)⟩, ⟨fun c15 => AW.blk kX9_keeps_68 cX9_keeps_68 (((((h).2).1 c17).2).1 c15), fun c15 => (((((h).2).1 c17).2).2 c15) _ rfl⟩⟩), fun c17 => ⟨⟨((((h).2).2 c17).1).1, ((((h).2).2 c17).1).2⟩, ⟨⟨(((((h).2).2 c17).2).1).1, (((((h).2).2 c17).2).1).2⟩, (((((h).2).2 c17).2).2) _ rfl⟩⟩⟩⟩)
def kX0_keep_0 : List BI := [bi (.aload_n 1) 1 [] 0, bi (.getfield 24) 3 [6, 0] 0, bi (.iconst 0) 1 [] 0, bi (.aload_n 0) 1 [] 0, bi (.getfield 11) 3 [0, 0] 0, bi (.aload_n 0) 1 [] 0, bi (.getfield 17) 3 [0, 1] 0, bi (.sipush (214)) 3 [] 0, bi (.imul) 1 [] 0, bi (.sipush (214)) 3 [] 0, bi (.invokestatic 27) 3 [] 0, bi (.aload_n 0) 1 [] 0, bi (.aload_n 0) 1 [] 0, bi (.getfield 17) 3 [0, 1] 0, bi (.iconst 1) 1 [] 0, bi (.iadd) 1 [] 0, bi (.bipush (20)) 2 [] 0, bi (.irem) 1 [] 0, bi (.putfield 17) 3 [0, 1] 0, bi (.aload_n 0) 1 [] 0, bi (.aload_n 0) 1 [] 0, bi (.getfield 21) 3 [0, 2] 0, bi (.iconst 1) 1 [] 0, bi (.iadd) 1 [] 0, bi (.bipush (20)) 2 [] 0, bi (.invokestatic 33) 3 [1] 0, bi (.putfield 21) 3 [0, 2] 0, bi (.return_) 1 [] 0]
theorem cX0_keep_0 : chk mX0_keep 0 kX0_keep_0 = true := by decide +kernel
theorem hkeep_0 {d : Nat} {σ : SG} {Q : Option AV → SG → Prop} (h : (0 < d) ∧ (0 ≤ ((σ 38 1) * 214) ∧ ((σ 38 1) * 214) + 214 ≤ 4280) ∧ (∀ S18 : SG, S18 = cpy σ 35 39 0 ((σ 38 1) * 214) 214 → (r3 ((S18 38 1) + 1)) ∧ (∀ S19 : SG, S19 = up S18 38 1 (Int.tmod ((S18 38 1) + 1) 20) → (0 < d) ∧ (r3 ((S19 38 2) + 1)) ∧ (∀ S20 : SG, S20 = up S19 38 2 (if 20 < ((S19 38 2) + 1) then 20 else ((S19 38 2) + 1)) → Q none S20)))) : AW d mX0_keep 0 [some (.inr (.inr 38)), some (.inr (.inr 34))] [] σ Q := AW.blk kX0_keep_0 cX0_keep_0 (⟨(h).1, ⟨⟨(by decide), (((h).2).1).1, (by decide), (by decide), (((h).2).1).2⟩, ⟨⟨((((h).2).2) _ rfl).1, (by decide), (by decide)⟩, ⟨((((((h).2).2) _ rfl).2) _ rfl).1, ⟨⟨(((((((h).2).2) _ rfl).2) _ rfl).2).1, (by decide)⟩, ⟨rfl, ((((((((h).2).2) _ rfl).2) _ rfl).2).2) _ rfl⟩⟩⟩⟩⟩⟩)
theorem mdayGoes_ok {d : Nat} {σ : SG} {Q : Option AV → SG → Prop} {b : Int} {tw : Int} {H : Int → Int} {B D : Int} {f : Int → Int} (hR : RS tw H B D f (σ 69)) (ht : tw ≤ 4) (hH : ∀ t, 0 ≤ t → t < tw → 3 ≤ H t ∧ H t ≤ 14) (hD : D < 5000) (hd : 2 ≤ d) (hb : r3 b) (hb2 : 0 < σ 69 1 → σ 68 1 = b) (hq : Q (some (.inl (mdayV (σ 69) b).2)) (putF σ 69 (mdyR (σ 69) b))) : AW d mX9_dayGoes 0 [some (.inr (.inr 42)), none, none] [] σ Q := by
  generalize hg : σ 69 = g at *
  have h1 := hR.2.1
  have hP : putF σ 69 g = σ := by rw [← hg]; exact putF_self σ 69
  refine mdayGoes_0 ?_
  have key := downInd (P := fun i => AW d mX9_dayGoes 4 [some (.inr (.inr 42)), some (.inl (foI (mdyF b) (g, 0) i).2), some (.inl i)] [] (putF σ 69 (foI (mdyF b) (g, 0) i).1) Q) (lo := 0) (hi := g 1) (by omega) ?_ ?_
  · change AW d mX9_dayGoes 4 [some (.inr (.inr 42)), some (.inl 0), some (.inl 0)] [] (putF σ 69 g) Q at key
    rwa [hP] at key
  · have s := hR.steps ht hH hD b (f 1).toNat (by omega)
    rw [show (((f 1).toNat : Nat) : Int) = f 1 by omega, ← h1.2.2] at s
    have s1 := s.1.2.1
    refine mdayGoes_4 ⟨by omega, ?_, fun c S1 e1 => ?_, fun c => ?_⟩
    · rw [putF_at, s1.2.2]
      omega
    · rw [e1, putF_at, putF_upf]
      exact hq
    · rw [putF_at] at c
      omega
  · intro i i0 i1 ih
    have s := hR.steps ht hH hD b i.toNat (by omega)
    rw [show ((i.toNat : Nat) : Int) = i by omega] at s
    rw [foI_s _ _ i0] at ih
    obtain ⟨s1, s2, s3, s4, s5⟩ := s
    generalize (foI (dyF b) (f, 0) i).1 = ff at s1 s3 s4
    generalize (foI (dyF b) (f, 0) i).2 = fe at s2 s5
    generalize foI (mdyF b) (g, 0) i = q at s1 s2 ih ⊢
    obtain ⟨gq, eq⟩ := q
    dsimp only at s1 s2 s3 s4 s5 ih ⊢
    have hM := s1.mlr ht hH
    have n1 := s1.2.1
    obtain ⟨c0, c1, c2, c3, c4, c5, c6, c7⟩ := hM.2 i i0 (by omega)
    have hb3 := hb2 (by omega)
    have z68 : ∀ F, putF σ 69 F 68 1 = b := fun F => by rw [putF_ne (by decide)]; exact hb3
    unfold mdyF at ih
    dsimp only at ih
    refine mdayGoes_4 ?_
    rw [putF_at]
    refine ⟨by omega, by omega, fun c => by omega, fun _ => ⟨by omega, by omega, by omega, by omega, fun c => ?_, fun c => ?_⟩⟩
    · rw [if_pos c] at ih
      exact ih
    · rw [if_neg (show ¬ (gq (62 + 8 * i + 7) ≠ 0) by omega)] at ih
      refine ⟨by omega, by omega, by omega, by omega, by omega, by omega, fun S2 e2 => ?_⟩
      rw [putF_upf] at e2
      have z2 : S2 69 = upf gq (2 + gq (62 + 8 * i + 2)) (gq (2 + gq (62 + 8 * i + 2)) - gq (62 + 8 * i + 4)) := by rw [e2, putF_at]
      have z20 : S2 69 (62 + 8 * i + 0) = gq (62 + 8 * i + 0) := by rw [z2, upf_ne (by omega)]
      have z24 : S2 69 (62 + 8 * i + 4) = gq (62 + 8 * i + 4) := by rw [z2, upf_ne (by omega)]
      rw [z20, z24]
      refine ⟨by omega, by omega, by omega, by omega, by omega, by omega, fun S3 e3 => ?_⟩
      rw [e2, putF_upf, putF_at] at e3
      have z3 : S3 69 = upf (upf gq (2 + gq (62 + 8 * i + 2)) (gq (2 + gq (62 + 8 * i + 2)) - gq (62 + 8 * i + 4))) (2 + gq (62 + 8 * i + 0)) (upf gq (2 + gq (62 + 8 * i + 2)) (gq (2 + gq (62 + 8 * i + 2)) - gq (62 + 8 * i + 4)) (2 + gq (62 + 8 * i + 0)) + gq (62 + 8 * i + 4)) := by rw [e3, putF_at]
      have z33 : S3 69 (62 + 8 * i + 3) = gq (62 + 8 * i + 3) := by rw [z3, upf_ne (by omega), upf_ne (by omega)]
      rw [z33]
      refine ⟨by omega, by omega, fun S4 e4 => ?_⟩
      rw [e3, putF_upf] at e4
      have z45 : S4 69 (62 + 8 * i + 5) = gq (62 + 8 * i + 5) := by rw [e4, putF_at, upf_ne (by omega), upf_ne (by omega), upf_ne (by omega)]
      rw [z45]
      refine ⟨by omega, by omega, fun S5 e5 => ?_⟩
      have e5' : S5 = putF σ 69 (mpayF gq i) := by
        rw [e5, e4, putF_upf]
        congr 1
        funext j
        unfold mpayF
        simp only [upf]
        by_cases j3 : j = 62 + 8 * i + 3
        · rw [if_neg (by omega), if_pos j3, if_pos j3, j3]
        · rw [if_neg j3, if_neg j3]
          exact ite2 (fun z => by rw [z]) (fun _ => ite2 (fun z => by rw [← z]; split <;> simp_all) (fun _ => ite2 (fun z => by rw [z]) (fun _ => rfl)))
      have z5 : S5 69 = mpayF gq i := by rw [e5', putF_at]
      have z58 : S5 68 1 = b := by rw [e5']; exact z68 _
      have F3 : mpayF gq i (62 + 8 * i + 3) = gq (62 + 8 * i + 3) - 1 := by unfold mpayF; rw [if_pos rfl]
      have Fo : ∀ j, 22 ≤ j → j ≠ 62 + 8 * i + 3 → j ≠ 62 + 8 * i + 5 → mpayF gq i j = gq j := by
        intro j b1 b2 b3
        unfold mpayF
        rw [if_neg b2, if_neg b3, if_neg (by omega), if_neg (by omega)]
      have F1 : mpayF gq i 1 = gq 1 := by
        unfold mpayF
        rw [if_neg (by omega), if_neg (by omega), if_neg (by omega), if_neg (by omega)]
      have lnl := (s1.2.2.2.2.2.1 i i0 (by omega))
      have ln7 := lnl.1 7 (by decide) (by decide)
      have ln3 := lnl.1 3 (by decide) (by decide)
      have P := s1.pay ht hH (k := i) i0 (by omega) (by omega) (by have := lnl.2.2.2.2.2.2.2; omega) (by omega)
      rw [z5, z58]
      refine ⟨by omega, by omega, by omega, fun cz => ⟨by omega, ⟨by omega, P.mlr ht hH, i0, by rw [F1]; omega, hb⟩, ?_⟩, fun cz => ?_⟩
      · rw [if_pos cz] at ih
        rw [e5', putF_putF]
        exact ih
      · rw [if_neg (by omega)] at ih
        rw [e5']
        exact ih
/-! copies -/
def cpR (f g : Int → Int) (a b n : Int) : Int → Int := fun j => if a ≤ j ∧ j < a + n then g (j - a + b) else f j
theorem cpR_0 (f g : Int → Int) (a b : Int) : cpR f g a b 0 = f := by
  funext j
  unfold cpR
  rw [if_neg (by omega)]
theorem cpR_s (f g : Int → Int) (a b : Int) {i : Int} (h : 0 ≤ i) : upf (cpR f g a b i) (a + i) (g (i + b)) = cpR f g a b (i + 1) := by
  funext j
  unfold cpR
  simp only [upf]
  by_cases hj : j = a + i
  · rw [if_pos hj, if_pos (by omega), hj, show a + i - a + b = i + b by omega]
  · rw [if_neg hj]
    by_cases hc : a ≤ j ∧ j < a + i
    · rw [if_pos hc, if_pos (by omega)]
    · rw [if_neg hc, if_neg (by omega)]
theorem mputs_ok {d : Nat} {σ : SG} {Q : Option AV → SG → Prop} (hq : Q none (putF σ 72 (cpR (σ 72) (σ 69) 0 0 254))) : AW d mX9_putsAside 0 [some (.inr (.inr 42)), none] [] σ Q := by
  refine mputs_0 ?_
  have key := downInd (P := fun i => AW d mX9_putsAside 2 [some (.inr (.inr 42)), some (.inl i)] [] (putF σ 72 (cpR (σ 72) (σ 69) 0 0 i)) Q) (lo := 0) (hi := 254) (by decide) ?_ ?_
  · rwa [cpR_0, putF_self] at key
  · exact mputs_2 ⟨by omega, fun _ => hq, fun c => by omega⟩
  · intro i i0 i1 ih
    refine mputs_2 ⟨by omega, fun c => by omega, fun _ => ⟨by omega, by omega, fun S e => ?_⟩⟩
    rw [putF_ne (by decide), putF_upf] at e
    have h := cpR_s (σ 72) (σ 69) 0 0 i0
    rw [Int.zero_add, Int.add_zero] at h
    rw [e, h]
    exact ih
theorem mtakes_ok {d : Nat} {σ : SG} {Q : Option AV → SG → Prop} (hq : Q none (putF σ 69 (cpR (σ 69) (σ 72) 0 0 254))) : AW d mX9_takesBack 0 [some (.inr (.inr 42)), none] [] σ Q := by
  refine mtakes_0 ?_
  have key := downInd (P := fun i => AW d mX9_takesBack 2 [some (.inr (.inr 42)), some (.inl i)] [] (putF σ 69 (cpR (σ 69) (σ 72) 0 0 i)) Q) (lo := 0) (hi := 254) (by decide) ?_ ?_
  · rwa [cpR_0, putF_self] at key
  · exact mtakes_2 ⟨by omega, fun _ => hq, fun c => by omega⟩
  · intro i i0 i1 ih
    refine mtakes_2 ⟨by omega, fun c => by omega, fun _ => ⟨by omega, by omega, fun S e => ?_⟩⟩
    rw [putF_ne (by decide), putF_upf] at e
    have h := cpR_s (σ 69) (σ 72) 0 0 i0
    rw [Int.zero_add, Int.add_zero] at h
    rw [e, h]
    exact ih
/-! history -/
def kpX (σ : SG) : SG := fun p i => if p = 39 then cpR (σ 39) (σ 35) (σ 38 1 * 214) 0 214 i else if p = 38 then (if i = 1 then (σ 38 1 + 1) % 20 else if i = 2 then (if 20 < σ 38 2 + 1 then 20 else σ 38 2 + 1) else σ 38 i) else σ p i
def kpM (σ : SG) : SG := fun p i => if p = 71 then cpR (σ 71) (σ 69) (254 * ((σ 42 41 + 1) % 20)) 0 254 i else if p = 42 then (if i = 41 then (σ 42 41 + 1) % 20 else if i = 40 then (if σ 42 40 < 20 then σ 42 40 + 1 else σ 42 40) else σ 42 i) else σ p i
theorem kpX_ne {σ : SG} {p : Nat} (h1 : p ≠ 38) (h2 : p ≠ 39) : kpX σ p = σ p := by
  funext i
  unfold kpX
  rw [if_neg h2, if_neg h1]
theorem kpM_ne {σ : SG} {p : Nat} (h1 : p ≠ 42) (h2 : p ≠ 71) : kpM σ p = σ p := by
  funext i
  unfold kpM
  rw [if_neg h2, if_neg h1]
theorem hkeep_ok {d : Nat} {σ : SG} {Q : Option AV → SG → Prop} (h : (1 ≤ d ∧ 0 ≤ σ 38 1 ∧ σ 38 1 < 20 ∧ 0 ≤ σ 38 2 ∧ σ 38 2 ≤ 20) ∧ Q none (kpX σ)) : AW d mX0_keep 0 [some (.inr (.inr 38)), some (.inr (.inr 34))] [] σ Q := by
  obtain ⟨⟨hd, h1, h2, h3, h4⟩, hq⟩ := h
  refine hkeep_0 ⟨by omega, by omega, fun S1 e1 => ?_⟩
  have z1 : S1 38 = σ 38 := by
    rw [e1]
    funext i
    unfold cpy
    rw [if_neg (fun z => absurd z.1 (by decide))]
  rw [z1]
  refine ⟨by omega, fun S2 e2 => ?_⟩
  have z2 : S2 38 2 = σ 38 2 := by rw [e2, up_i (by decide), z1]
  rw [z2]
  refine ⟨by omega, by omega, fun S3 e3 => ?_⟩
  have : S3 = kpX σ := by
    rw [e3, e2, e1]
    funext p i
    unfold kpX up cpy cpR
    by_cases p39 : p = 39
    · subst p39
      rw [if_neg (fun z => absurd z.1 (by decide)), if_neg (fun z => absurd z.1 (by decide)), if_pos rfl]
      by_cases hc : σ 38 1 * 214 ≤ i ∧ i < σ 38 1 * 214 + 214
      · rw [if_pos ⟨rfl, hc⟩, if_pos hc, Int.zero_add, Int.add_zero]
      · rw [if_neg (fun z => hc z.2), if_neg hc]
    · rw [if_neg p39]
      by_cases p38 : p = 38
      · subst p38
        rw [if_pos rfl]
        by_cases i2 : i = 2
        · subst i2
          rw [if_pos ⟨rfl, rfl⟩, if_neg (show ¬ (2 : Int) = 1 by decide), if_pos (rfl : (2 : Int) = 2)]
        · rw [if_neg (fun z => i2 z.2)]
          by_cases i1 : i = 1
          · subst i1
            rw [if_pos ⟨rfl, rfl⟩, if_pos rfl, Int.tmod_eq_emod_of_nonneg (by omega)]
          · rw [if_neg (fun z => i1 z.2), if_neg (fun z => p39 z.1), if_neg i1, if_neg i2]
      · rw [if_neg (fun z => p38 z.1), if_neg (fun z => p38 z.1), if_neg (fun z => p39 z.1), if_neg p38]
  rw [this]
  exact hq
theorem mkeeps_ok {d : Nat} {σ : SG} {Q : Option AV → SG → Prop} (h : (0 ≤ σ 42 41 ∧ σ 42 41 < 20 ∧ 0 ≤ σ 42 40 ∧ σ 42 40 ≤ 20) ∧ Q none (kpM σ)) : AW d mX9_keeps 0 [some (.inr (.inr 42)), none] [] σ Q := by
  obtain ⟨⟨h1, h2, h3, h4⟩, hq⟩ := h
  refine mkeeps_0 ⟨by omega, fun S1 e1 => ?_⟩
  rw [Int.tmod_eq_emod_of_nonneg (by omega)] at e1
  have z41 : S1 42 41 = (σ 42 41 + 1) % 20 := by rw [e1, up_at]
  have z40 : S1 42 40 = σ 42 40 := by rw [e1, up_i (by decide)]
  have z69 : S1 69 = σ 69 := by rw [e1, up_pf (by decide)]
  have z71 : S1 71 = σ 71 := by rw [e1, up_pf (by decide)]
  have key := downInd (P := fun i => AW d mX9_keeps 15 [some (.inr (.inr 42)), some (.inl i)] [] (putF S1 71 (cpR (σ 71) (σ 69) (254 * ((σ 42 41 + 1) % 20)) 0 i)) Q) (lo := 0) (hi := 254) (by decide) ?_ ?_
  · rwa [cpR_0, ← z71, putF_self] at key
  · refine mkeeps_15 ?_
    rw [putF_ne (by decide), z40]
    have fin : ∀ S, (∀ p, p ≠ 42 → S p = putF S1 71 (cpR (σ 71) (σ 69) (254 * ((σ 42 41 + 1) % 20)) 0 254) p) → (∀ i, S 42 i = kpM σ 42 i) → Q none S := by
      intro S a b
      have : S = kpM σ := by
        funext p i
        by_cases p42 : p = 42
        · subst p42
          exact b i
        · rw [a p p42]
          unfold kpM
          by_cases p71 : p = 71
          · subst p71
            rw [putF_at, if_pos rfl]
          · rw [putF_ne p71, if_neg p71, if_neg p42, e1, up_p p42]
      rw [this]
      exact hq
    refine ⟨by omega, fun c => ⟨by omega, fun c2 => ?_, fun c2 S2 e2 => ?_⟩, fun c => by omega⟩
    · refine fin _ (fun p _ => rfl) (fun i => ?_)
      rw [putF_ne (by decide)]
      unfold kpM
      rw [if_neg (by decide), if_pos rfl, if_neg (show ¬ σ 42 40 < 20 by omega)]
      by_cases i41 : i = 41
      · subst i41
        rw [z41, if_pos rfl]
      · rw [if_neg i41, e1, up_i i41]
        by_cases i40 : i = 40
        · subst i40
          rw [if_pos rfl]
        · rw [if_neg i40]
    · refine fin _ (fun p hp => by rw [e2, up_pf hp]) (fun i => ?_)
      rw [e2]
      unfold kpM
      rw [if_neg (by decide), if_pos rfl, if_pos c2]
      by_cases i40 : i = 40
      · subst i40
        rw [up_at, if_neg (by decide), if_pos rfl]
      · rw [up_i i40, putF_ne (by decide)]
        by_cases i41 : i = 41
        · subst i41
          rw [z41, if_pos rfl]
        · rw [if_neg i41, if_neg i40, e1, up_i i41]
  · intro i i0 i1 ih
    refine mkeeps_15 ?_
    rw [putF_ne (by decide), putF_ne (by decide), z40, z41, z69]
    refine ⟨by omega, fun c => by omega, fun _ => ⟨by omega, by omega, fun S e => ?_⟩⟩
    have h := cpR_s (σ 71) (σ 69) (254 * ((σ 42 41 + 1) % 20)) 0 i0
    rw [Int.add_zero] at h
    rw [e, putF_upf, h]
    exact ih
