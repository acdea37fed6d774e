/-! ===== what the class takes off the tape (wip/whole/gen93.py) ===== -/
def kX7_rewind_0 : List BI := [bi (.aload_n 0) 1 [] 0, bi (.iconst 0) 1 [] 0, bi (.putfield 19) 3 [7, 2] 0, bi (.aload_n 0) 1 [] 0, bi (.iconst (-1)) 1 [] 0, bi (.putfield 22) 3 [7, 3] 0, bi (.aload_n 0) 1 [] 0, bi (.iconst 0) 1 [] 0, bi (.putfield 25) 3 [7, 4] 0, bi (.aload_n 0) 1 [] 0, bi (.iconst 0) 1 [] 0, bi (.putfield 31) 3 [7, 6] 0, bi (.aload_n 0) 1 [] 0, bi (.invokevirtual 34) 3 [mX7_advance, 1, 3, 7] 0]
theorem cX7_rewind_0 : chk mX7_rewind 0 kX7_rewind_0 = true := by decide +kernel
theorem trw_0 {d : Nat} {σ : SG} {Q : Option AV → SG → Prop} (h : (∀ S1 : SG, S1 = up σ 2 2 0 → (∀ S2 : SG, S2 = up S1 2 3 (-1) → (∀ S3 : SG, S3 = up S2 2 4 0 → (∀ S4 : SG, S4 = up S3 2 6 0 → (0 < d) ∧ AW (d - 1) mX7_advance 0 [some (.inr (.inr 2)), none, none] [] S4 (fun rr σ' => AW d mX7_rewind 24 [some (.inr (.inr 2))] (rtS rr []) σ' Q)))))) : AW d mX7_rewind 0 [some (.inr (.inr 2))] [] σ Q := AW.blk kX7_rewind_0 cX7_rewind_0 (⟨(((((h) _ rfl) _ rfl) _ rfl) _ rfl).1, (((((h) _ rfl) _ rfl) _ rfl) _ rfl).2⟩)
def kX7_rewind_24 : List BI := [bi (.return_) 1 [] 0]
theorem cX7_rewind_24 : chk mX7_rewind 24 kX7_rewind_24 = true := by decide +kernel
theorem trw_24 {d : Nat} {σ : SG} {Q : Option AV → SG → Prop} (h : Q none σ) : AW d mX7_rewind 24 [some (.inr (.inr 2))] [] σ Q := AW.blk kX7_rewind_24 cX7_rewind_24 (h)
def kX7_failHere_0 : List BI := [bi (.aload_n 0) 1 [] 0, bi (.iconst 1) 1 [] 0, bi (.aload_n 0) 1 [] 0, bi (.getfield 28) 3 [7, 5] 0, bi (.invokevirtual 47) 3 [mX7_fail, 3, 3, 7] 0, bi (.ireturn) 1 [1] 0]
theorem cX7_failHere_0 : chk mX7_failHere 0 kX7_failHere_0 = true := by decide +kernel
def kX7_isSign_25 : List BI := [bi (.iconst 0) 1 [] 0, bi (.ireturn) 1 [1] 0]
theorem cX7_isSign_25 : chk mX7_isSign 25 kX7_isSign_25 = true := by decide +kernel
def kX7_takeSign_13 : List BI := [bi (.aload_n 0) 1 [] 0, bi (.invokevirtual 34) 3 [mX7_advance, 1, 3, 7] 0]
theorem cX7_takeSign_13 : chk mX7_takeSign 13 kX7_takeSign_13 = true := by decide +kernel
def kX7_isSign_26 : List BI := [bi (.ireturn) 1 [1] 0]
theorem cX7_isSign_26 : chk mX7_isSign 26 kX7_isSign_26 = true := by decide +kernel
def kX7_isSign_0 : List BI := [bi (.aload_n 0) 1 [] 0, bi (.getfield 25) 3 [7, 4] 0, bi (.iconst 3) 1 [] 0, bi (.if_icmp .ne (20)) 3 [25] 0, bi (.aload_n 0) 1 [] 0, bi (.getfield 9) 3 [7, 0] 0, bi (.aload_n 0) 1 [] 0, bi (.getfield 28) 3 [7, 5] 0, bi (.iaload) 1 [] 0, bi (.iload_n 1) 1 [] 0, bi (.if_icmp .ne (7)) 3 [25] 0, bi (.iconst 1) 1 [] 0, bi (.goto (4)) 3 [26] 0]
theorem cX7_isSign_0 : chk mX7_isSign 0 kX7_isSign_0 = true := by decide +kernel
def kX7_takeSign_0 : List BI := [bi (.aload_n 0) 1 [] 0, bi (.iload_n 1) 1 [] 0, bi (.invokevirtual 51) 3 [mX7_isSign, 2, 2, 7] 0, bi (.ifCond .ne (8)) 3 [13] 0, bi (.aload_n 0) 1 [] 0, bi (.invokevirtual 55) 3 [mX7_failHere, 1, 1, 7] 0, bi (.ireturn) 1 [1] 0]
theorem cX7_takeSign_0 : chk mX7_takeSign 0 kX7_takeSign_0 = true := by decide +kernel
theorem tts_0 {d : Nat} {σ : SG} {Q : Option AV → SG → Prop} {c : Int} (h : (0 < d) ∧ (r3 (σ 2 4)) ∧ ((σ 2 4) ≠ 3 → (0 < d) ∧ (0 < d - 1) ∧ (r3 (σ 2 2)) ∧ ((σ 2 2) ≠ 0 → Q (some (.inl 0)) σ) ∧ ((σ 2 2) = 0 → (∀ S5 : SG, S5 = up σ 2 2 1 → (∀ S6 : SG, S6 = up S5 2 3 (σ 2 5) → Q (some (.inl 0)) S6)))) ∧ ((σ 2 4) = 3 → (0 ≤ (σ 2 5) ∧ (σ 2 5) < 1600) ∧ (r3 (σ 3 (σ 2 5)) ∧ r3 c) ∧ ((σ 3 (σ 2 5)) ≠ c → (0 < d) ∧ (0 < d - 1) ∧ (r3 (σ 2 2)) ∧ ((σ 2 2) ≠ 0 → Q (some (.inl 0)) σ) ∧ ((σ 2 2) = 0 → (∀ S8 : SG, S8 = up σ 2 2 1 → (∀ S9 : SG, S9 = up S8 2 3 (σ 2 5) → Q (some (.inl 0)) S9)))) ∧ ((σ 3 (σ 2 5)) = c → (0 < d) ∧ AW (d - 1) mX7_advance 0 [some (.inr (.inr 2)), none, none] [] σ (fun rr σ' => AW d mX7_takeSign 17 [some (.inr (.inr 2)), some (.inl c)] (rtS rr []) σ' Q)))) : AW d mX7_takeSign 0 [some (.inr (.inr 2)), some (.inl c)] [] σ Q := AW.blk kX7_takeSign_0 cX7_takeSign_0 (⟨(h).1, AW.blk kX7_isSign_0 cX7_isSign_0 (⟨⟨((h).2).1, (by decide)⟩, ⟨fun c12 => AW.blk kX7_isSign_25 cX7_isSign_25 (⟨(by decide), ⟨(by decide), ⟨fun c => absurd c (by decide), fun _ => ⟨((((h).2).2).1 c12).1, AW.blk kX7_failHere_0 cX7_failHere_0 (⟨(((((h).2).2).1 c12).2).1, AW.blk kX7_fail_0 cX7_fail_0 (⟨((((((h).2).2).1 c12).2).2).1, ⟨fun c7 => AW.blk kX7_fail_17 cX7_fail_17 (⟨(by decide), ⟨(by decide), ⟨(by decide), (((((((h).2).2).1 c12).2).2).2).1 c7⟩⟩⟩), fun c7 => ⟨(by decide), ⟨(by decide), ⟨(by decide), (((((((((h).2).2).1 c12).2).2).2).2 c7) _ rfl) _ rfl⟩⟩⟩⟩⟩)⟩)⟩⟩⟩⟩), fun c12 => ⟨⟨(((((h).2).2).2 c12).1).1, (((((h).2).2).2 c12).1).2⟩, ⟨⟨((((((h).2).2).2 c12).2).1).1, ((((((h).2).2).2 c12).2).1).2⟩, ⟨fun c11 => AW.blk kX7_isSign_25 cX7_isSign_25 (⟨(by decide), ⟨(by decide), ⟨fun c => absurd c (by decide), fun _ => ⟨(((((((h).2).2).2 c12).2).2).1 c11).1, AW.blk kX7_failHere_0 cX7_failHere_0 (⟨((((((((h).2).2).2 c12).2).2).1 c11).2).1, AW.blk kX7_fail_0 cX7_fail_0 (⟨(((((((((h).2).2).2 c12).2).2).1 c11).2).2).1, ⟨fun c10 => AW.blk kX7_fail_17 cX7_fail_17 (⟨(by decide), ⟨(by decide), ⟨(by decide), ((((((((((h).2).2).2 c12).2).2).1 c11).2).2).2).1 c10⟩⟩⟩), fun c10 => ⟨(by decide), ⟨(by decide), ⟨(by decide), ((((((((((((h).2).2).2 c12).2).2).1 c11).2).2).2).2 c10) _ rfl) _ rfl⟩⟩⟩⟩⟩)⟩)⟩⟩⟩⟩), fun c11 => AW.blk kX7_isSign_26 cX7_isSign_26 (⟨(by decide), ⟨(by decide), ⟨fun _ => AW.blk kX7_takeSign_13 cX7_takeSign_13 (⟨(((((((h).2).2).2 c12).2).2).2 c11).1, (((((((h).2).2).2 c12).2).2).2 c11).2⟩), fun c => absurd c (by decide)⟩⟩⟩)⟩⟩⟩⟩⟩)⟩)
def kX7_takeSign_17 : List BI := [bi (.iconst 1) 1 [] 0, bi (.ireturn) 1 [1] 0]
theorem cX7_takeSign_17 : chk mX7_takeSign 17 kX7_takeSign_17 = true := by decide +kernel
theorem tts_17 {d : Nat} {σ : SG} {Q : Option AV → SG → Prop} {c : Int} (h : Q (some (.inl 1)) σ) : AW d mX7_takeSign 17 [some (.inr (.inr 2)), some (.inl c)] [] σ Q := AW.blk kX7_takeSign_17 cX7_takeSign_17 (⟨(by decide), h⟩)
def kX5_takeWord_0 : List BI := [bi (.aload_n 0) 1 [] 0, bi (.getfield 18) 3 [5, 0] 0, bi (.ldc 49) 2 [0] 0, bi (.invokevirtual 51) 3 [mX7_wordAmong, 2, 6, 7] 0]
theorem cX5_takeWord_0 : chk mX5_takeWord 0 kX5_takeWord_0 = true := by decide +kernel
theorem rtw_0 {d : Nat} {σ : SG} {Q : Option AV → SG → Prop} {wd : Int} (h : (0 < d) ∧ AW (d - 1) mX7_wordAmong 0 [some (.inr (.inr 2)), some (.inr (.inr 1000)), none, none, none, none] [] σ (fun rr σ' => AW d mX5_takeWord 9 [some (.inr (.inr 4)), some (.inl wd)] (rtS rr []) σ' Q)) : AW d mX5_takeWord 0 [some (.inr (.inr 4)), some (.inl wd)] [] σ Q := AW.blk kX5_takeWord_0 cX5_takeWord_0 (⟨(h).1, (h).2⟩)
def kX5_takeWord_21 : List BI := [bi (.aload_n 0) 1 [] 0, bi (.getfield 18) 3 [5, 0] 0, bi (.invokevirtual 95) 3 [mX7_advance, 1, 3, 7] 0]
theorem cX5_takeWord_21 : chk mX5_takeWord 21 kX5_takeWord_21 = true := by decide +kernel
def kX5_takeWord_9 : List BI := [bi (.iload_n 1) 1 [] 0, bi (.if_icmp .eq (11)) 3 [21] 0, bi (.aload_n 0) 1 [] 0, bi (.getfield 18) 3 [5, 0] 0, bi (.invokevirtual 80) 3 [mX7_failHere, 1, 1, 7] 0, bi (.ireturn) 1 [1] 0]
theorem cX5_takeWord_9 : chk mX5_takeWord 9 kX5_takeWord_9 = true := by decide +kernel
theorem rtw_9 {d : Nat} {σ : SG} {Q : Option AV → SG → Prop} {wd s0 : Int} (h : (r3 s0 ∧ r3 wd) ∧ (s0 = wd → (0 < d) ∧ AW (d - 1) mX7_advance 0 [some (.inr (.inr 2)), none, none] [] σ (fun rr σ' => AW d mX5_takeWord 28 [some (.inr (.inr 4)), some (.inl wd)] (rtS rr []) σ' Q)) ∧ (s0 ≠ wd → (0 < d) ∧ (0 < d - 1) ∧ (r3 (σ 2 2)) ∧ ((σ 2 2) ≠ 0 → Q (some (.inl 0)) σ) ∧ ((σ 2 2) = 0 → (∀ S13 : SG, S13 = up σ 2 2 1 → (∀ S14 : SG, S14 = up S13 2 3 (σ 2 5) → Q (some (.inl 0)) S14))))) : AW d mX5_takeWord 9 [some (.inr (.inr 4)), some (.inl wd)] [.inl s0] σ Q := AW.blk kX5_takeWord_9 cX5_takeWord_9 (⟨⟨((h).1).1, ((h).1).2⟩, ⟨fun c16 => AW.blk kX5_takeWord_21 cX5_takeWord_21 (⟨(((h).2).1 c16).1, (((h).2).1 c16).2⟩), fun c16 => ⟨(((h).2).2 c16).1, AW.blk kX7_failHere_0 cX7_failHere_0 (⟨((((h).2).2 c16).2).1, AW.blk kX7_fail_0 cX7_fail_0 (⟨(((((h).2).2 c16).2).2).1, ⟨fun c15 => AW.blk kX7_fail_17 cX7_fail_17 (⟨(by decide), ⟨(by decide), ⟨(by decide), ((((((h).2).2 c16).2).2).2).1 c15⟩⟩⟩), fun c15 => ⟨(by decide), ⟨(by decide), ⟨(by decide), ((((((((h).2).2 c16).2).2).2).2 c15) _ rfl) _ rfl⟩⟩⟩⟩⟩)⟩)⟩⟩⟩)
def kX5_takeWord_28 : List BI := [bi (.iconst 1) 1 [] 0, bi (.ireturn) 1 [1] 0]
theorem cX5_takeWord_28 : chk mX5_takeWord 28 kX5_takeWord_28 = true := by decide +kernel
theorem rtw_28 {d : Nat} {σ : SG} {Q : Option AV → SG → Prop} {wd : Int} (h : Q (some (.inl 1)) σ) : AW d mX5_takeWord 28 [some (.inr (.inr 4)), some (.inl wd)] [] σ Q := AW.blk kX5_takeWord_28 cX5_takeWord_28 (⟨(by decide), h⟩)
def kX5_takeNumber_0 : List BI := [bi (.aload_n 0) 1 [] 0, bi (.getfield 18) 3 [5, 0] 0, bi (.invokevirtual 149) 3 [mX7_numberHere, 1, 3, 7] 0]
theorem cX5_takeNumber_0 : chk mX5_takeNumber 0 kX5_takeNumber_0 = true := by decide +kernel
theorem rtn_0 {d : Nat} {σ : SG} {Q : Option AV → SG → Prop} {lo hi : Int} (h : (0 < d) ∧ AW (d - 1) mX7_numberHere 0 [some (.inr (.inr 2)), none, none] [] σ (fun rr σ' => AW d mX5_takeNumber 7 [some (.inr (.inr 4)), some (.inl lo), some (.inl hi), none] (rtS rr []) σ' Q)) : AW d mX5_takeNumber 0 [some (.inr (.inr 4)), some (.inl lo), some (.inl hi), none] [] σ Q := AW.blk kX5_takeNumber_0 cX5_takeNumber_0 (⟨(h).1, (h).2⟩)
def kX5_takeNumber_25 : List BI := [bi (.aload_n 0) 1 [] 0, bi (.getfield 18) 3 [5, 0] 0, bi (.iconst 2) 1 [] 0, bi (.aload_n 0) 1 [] 0, bi (.getfield 18) 3 [5, 0] 0, bi (.getfield 34) 3 [7, 5] 0, bi (.invokevirtual 37) 3 [mX7_fail, 3, 3, 7] 0, bi (.pop) 1 [] 0, bi (.iconst (-1)) 1 [] 0, bi (.ireturn) 1 [] 0]
theorem cX5_takeNumber_25 : chk mX5_takeNumber 25 kX5_takeNumber_25 = true := by decide +kernel
def kX5_takeNumber_43 : List BI := [bi (.aload_n 0) 1 [] 0, bi (.getfield 18) 3 [5, 0] 0, bi (.invokevirtual 95) 3 [mX7_advance, 1, 3, 7] 0]
theorem cX5_takeNumber_43 : chk mX5_takeNumber 43 kX5_takeNumber_43 = true := by decide +kernel
def kX5_takeNumber_15 : List BI := [bi (.iload_n 3) 1 [] 0, bi (.iload_n 1) 1 [] 0, bi (.if_icmp .lt (8)) 3 [25] 0, bi (.iload_n 3) 1 [] 0, bi (.iload_n 2) 1 [] 0, bi (.if_icmp .le (21)) 3 [43] 0, bi (.aload_n 0) 1 [] 0, bi (.getfield 18) 3 [5, 0] 0, bi (.iconst 2) 1 [] 0, bi (.aload_n 0) 1 [] 0, bi (.getfield 18) 3 [5, 0] 0, bi (.getfield 34) 3 [7, 5] 0, bi (.invokevirtual 37) 3 [mX7_fail, 3, 3, 7] 0, bi (.pop) 1 [] 0, bi (.iconst (-1)) 1 [] 0, bi (.ireturn) 1 [] 0]
theorem cX5_takeNumber_15 : chk mX5_takeNumber 15 kX5_takeNumber_15 = true := by decide +kernel
def kX5_takeNumber_7 : List BI := [bi (.istore_n 3) 1 [] 0, bi (.iload_n 3) 1 [] 0, bi (.iconst (-1)) 1 [] 0, bi (.if_icmp .ne (5)) 3 [15] 0, bi (.iconst (-1)) 1 [] 0, bi (.ireturn) 1 [] 0]
theorem cX5_takeNumber_7 : chk mX5_takeNumber 7 kX5_takeNumber_7 = true := by decide +kernel
theorem rtn_7 {d : Nat} {σ : SG} {Q : Option AV → SG → Prop} {lo hi s0 : Int} (h : (r3 s0) ∧ (s0 ≠ (-1) → (r3 s0 ∧ r3 lo) ∧ (s0 < lo → (0 < d) ∧ (r3 (σ 2 2)) ∧ ((σ 2 2) ≠ 0 → Q (some (.inl ((-1)))) σ) ∧ ((σ 2 2) = 0 → (∀ S17 : SG, S17 = up σ 2 2 2 → (∀ S18 : SG, S18 = up S17 2 3 (σ 2 5) → Q (some (.inl ((-1)))) S18)))) ∧ (lo ≤ s0 → (r3 s0 ∧ r3 hi) ∧ (s0 ≤ hi → (0 < d) ∧ AW (d - 1) mX7_advance 0 [some (.inr (.inr 2)), none, none] [] σ (fun rr σ' => AW d mX5_takeNumber 50 [some (.inr (.inr 4)), some (.inl lo), some (.inl hi), some (.inl s0)] (rtS rr []) σ' Q)) ∧ (hi < s0 → (0 < d) ∧ (r3 (σ 2 2)) ∧ ((σ 2 2) ≠ 0 → Q (some (.inl ((-1)))) σ) ∧ ((σ 2 2) = 0 → (∀ S20 : SG, S20 = up σ 2 2 2 → (∀ S21 : SG, S21 = up S20 2 3 (σ 2 5) → Q (some (.inl ((-1)))) S21)))))) ∧ (s0 = (-1) → Q (some (.inl ((-1)))) σ)) : AW d mX5_takeNumber 7 [some (.inr (.inr 4)), some (.inl lo), some (.inl hi), none] [.inl s0] σ Q := AW.blk kX5_takeNumber_7 cX5_takeNumber_7 (⟨⟨(h).1, (by decide)⟩, ⟨fun c25 => AW.blk kX5_takeNumber_15 cX5_takeNumber_15 (⟨⟨((((h).2).1 c25).1).1, ((((h).2).1 c25).1).2⟩, ⟨fun c24 => AW.blk kX5_takeNumber_25 cX5_takeNumber_25 (⟨(((((h).2).1 c25).2).1 c24).1, AW.blk kX7_fail_0 cX7_fail_0 (⟨((((((h).2).1 c25).2).1 c24).2).1, ⟨fun c19 => AW.blk kX7_fail_17 cX7_fail_17 (⟨(by decide), (((((((h).2).1 c25).2).1 c24).2).2).1 c19⟩), fun c19 => ⟨(by decide), (((((((((h).2).1 c25).2).1 c24).2).2).2 c19) _ rfl) _ rfl⟩⟩⟩)⟩), fun c24 => ⟨⟨((((((h).2).1 c25).2).2 c24).1).1, ((((((h).2).1 c25).2).2 c24).1).2⟩, ⟨fun c23 => AW.blk kX5_takeNumber_43 cX5_takeNumber_43 (⟨(((((((h).2).1 c25).2).2 c24).2).1 c23).1, (((((((h).2).1 c25).2).2 c24).2).1 c23).2⟩), fun c23 => ⟨(((((((h).2).1 c25).2).2 c24).2).2 c23).1, AW.blk kX7_fail_0 cX7_fail_0 (⟨((((((((h).2).1 c25).2).2 c24).2).2 c23).2).1, ⟨fun c22 => AW.blk kX7_fail_17 cX7_fail_17 (⟨(by decide), (((((((((h).2).1 c25).2).2 c24).2).2 c23).2).2).1 c22⟩), fun c22 => ⟨(by decide), (((((((((((h).2).1 c25).2).2 c24).2).2 c23).2).2).2 c22) _ rfl) _ rfl⟩⟩⟩)⟩⟩⟩⟩⟩), fun c25 => ((h).2).2 c25⟩⟩)
def kX5_takeNumber_50 : List BI := [bi (.iload_n 3) 1 [] 0, bi (.ireturn) 1 [] 0]
theorem cX5_takeNumber_50 : chk mX5_takeNumber 50 kX5_takeNumber_50 = true := by decide +kernel
theorem rtn_50 {d : Nat} {σ : SG} {Q : Option AV → SG → Prop} {lo hi l3 : Int} (h : Q (some (.inl l3)) σ) : AW d mX5_takeNumber 50 [some (.inr (.inr 4)), some (.inl lo), some (.inl hi), some (.inl l3)] [] σ Q := AW.blk kX5_takeNumber_50 cX5_takeNumber_50 (h)
def kX5_canBeName_24 : List BI := [bi (.aload_n 0) 1 [] 0, bi (.getfield 18) 3 [5, 0] 0, bi (.invokevirtual 80) 3 [mX7_failHere, 1, 1, 7] 0, bi (.ireturn) 1 [1] 0]
theorem cX5_canBeName_24 : chk mX5_canBeName 24 kX5_canBeName_24 = true := by decide +kernel
def kX5_canBeName_0 : List BI := [bi (.aload_n 0) 1 [] 0, bi (.getfield 18) 3 [5, 0] 0, bi (.getfield 30) 3 [7, 4] 0, bi (.iconst 1) 1 [] 0, bi (.if_icmp .ne (16)) 3 [24] 0, bi (.aload_n 0) 1 [] 0, bi (.getfield 18) 3 [5, 0] 0, bi (.ldc 49) 2 [0] 0, bi (.invokevirtual 51) 3 [mX7_wordAmong, 2, 6, 7] 0]
theorem cX5_canBeName_0 : chk mX5_canBeName 0 kX5_canBeName_0 = true := by decide +kernel
theorem rcb_0 {d : Nat} {σ : SG} {Q : Option AV → SG → Prop} (h : (r3 (σ 2 4)) ∧ ((σ 2 4) ≠ 1 → (0 < d) ∧ (0 < d - 1) ∧ (r3 (σ 2 2)) ∧ ((σ 2 2) ≠ 0 → Q (some (.inl 0)) σ) ∧ ((σ 2 2) = 0 → (∀ S26 : SG, S26 = up σ 2 2 1 → (∀ S27 : SG, S27 = up S26 2 3 (σ 2 5) → Q (some (.inl 0)) S27)))) ∧ ((σ 2 4) = 1 → (0 < d) ∧ AW (d - 1) mX7_wordAmong 0 [some (.inr (.inr 2)), some (.inr (.inr 1000)), none, none, none, none] [] σ (fun rr σ' => AW d mX5_canBeName 20 [some (.inr (.inr 4))] (rtS rr []) σ' Q))) : AW d mX5_canBeName 0 [some (.inr (.inr 4))] [] σ Q := AW.blk kX5_canBeName_0 cX5_canBeName_0 (⟨⟨(h).1, (by decide)⟩, ⟨fun c29 => AW.blk kX5_canBeName_24 cX5_canBeName_24 (⟨(((h).2).1 c29).1, AW.blk kX7_failHere_0 cX7_failHere_0 (⟨((((h).2).1 c29).2).1, AW.blk kX7_fail_0 cX7_fail_0 (⟨(((((h).2).1 c29).2).2).1, ⟨fun c28 => AW.blk kX7_fail_17 cX7_fail_17 (⟨(by decide), ⟨(by decide), ⟨(by decide), ((((((h).2).1 c29).2).2).2).1 c28⟩⟩⟩), fun c28 => ⟨(by decide), ⟨(by decide), ⟨(by decide), ((((((((h).2).1 c29).2).2).2).2 c28) _ rfl) _ rfl⟩⟩⟩⟩⟩)⟩)⟩), fun c29 => ⟨(((h).2).2 c29).1, (((h).2).2 c29).2⟩⟩⟩)
def kX5_canBeName_71 : List BI := [bi (.iconst 1) 1 [] 0, bi (.ireturn) 1 [1] 0]
theorem cX5_canBeName_71 : chk mX5_canBeName 71 kX5_canBeName_71 = true := by decide +kernel
def kX5_canBeName_32 : List BI := [bi (.aload_n 0) 1 [] 0, bi (.getfield 18) 3 [5, 0] 0, bi (.getfield 153) 3 [7, 6] 0, bi (.aload_n 0) 1 [] 0, bi (.getfield 18) 3 [5, 0] 0, bi (.getfield 34) 3 [7, 5] 0, bi (.isub) 1 [] 0, bi (.bipush (6)) 2 [] 0, bi (.if_icmp .le (22)) 3 [71] 0, bi (.aload_n 0) 1 [] 0, bi (.getfield 18) 3 [5, 0] 0, bi (.iconst 1) 1 [] 0, bi (.aload_n 0) 1 [] 0, bi (.getfield 18) 3 [5, 0] 0, bi (.getfield 34) 3 [7, 5] 0, bi (.bipush (6)) 2 [] 0, bi (.iadd) 1 [] 0, bi (.invokevirtual 37) 3 [mX7_fail, 3, 3, 7] 0, bi (.ireturn) 1 [1] 0]
theorem cX5_canBeName_32 : chk mX5_canBeName 32 kX5_canBeName_32 = true := by decide +kernel
def kX5_canBeName_20 : List BI := [bi (.iconst (-1)) 1 [] 0, bi (.if_icmp .eq (11)) 3 [32] 0, bi (.aload_n 0) 1 [] 0, bi (.getfield 18) 3 [5, 0] 0, bi (.invokevirtual 80) 3 [mX7_failHere, 1, 1, 7] 0, bi (.ireturn) 1 [1] 0]
theorem cX5_canBeName_20 : chk mX5_canBeName 20 kX5_canBeName_20 = true := by decide +kernel
theorem rcb_20 {d : Nat} {σ : SG} {Q : Option AV → SG → Prop} {s0 : Int} (h : (r3 s0) ∧ (s0 = (-1) → (r3 ((σ 2 6) - (σ 2 5))) ∧ (((σ 2 6) - (σ 2 5)) ≤ 6 → Q (some (.inl 1)) σ) ∧ (6 < ((σ 2 6) - (σ 2 5)) → (0 < d) ∧ (r3 (σ 2 2)) ∧ ((σ 2 2) ≠ 0 → Q (some (.inl 0)) σ) ∧ ((σ 2 2) = 0 → (∀ S30 : SG, S30 = up σ 2 2 1 → (∀ S31 : SG, S31 = up S30 2 3 ((σ 2 5) + 6) → Q (some (.inl 0)) S31))))) ∧ (s0 ≠ (-1) → (0 < d) ∧ (0 < d - 1) ∧ (r3 (σ 2 2)) ∧ ((σ 2 2) ≠ 0 → Q (some (.inl 0)) σ) ∧ ((σ 2 2) = 0 → (∀ S34 : SG, S34 = up σ 2 2 1 → (∀ S35 : SG, S35 = up S34 2 3 (σ 2 5) → Q (some (.inl 0)) S35))))) : AW d mX5_canBeName 20 [some (.inr (.inr 4))] [.inl s0] σ Q := AW.blk kX5_canBeName_20 cX5_canBeName_20 (⟨⟨(h).1, (by decide)⟩, ⟨fun c37 => AW.blk kX5_canBeName_32 cX5_canBeName_32 (⟨⟨(((h).2).1 c37).1, (by decide)⟩, ⟨fun c33 => AW.blk kX5_canBeName_71 cX5_canBeName_71 (⟨(by decide), ((((h).2).1 c37).2).1 c33⟩), fun c33 => ⟨(((((h).2).1 c37).2).2 c33).1, AW.blk kX7_fail_0 cX7_fail_0 (⟨((((((h).2).1 c37).2).2 c33).2).1, ⟨fun c32 => AW.blk kX7_fail_17 cX7_fail_17 (⟨(by decide), ⟨(by decide), (((((((h).2).1 c37).2).2 c33).2).2).1 c32⟩⟩), fun c32 => ⟨(by decide), ⟨(by decide), (((((((((h).2).1 c37).2).2 c33).2).2).2 c32) _ rfl) _ rfl⟩⟩⟩⟩)⟩⟩⟩), fun c37 => ⟨(((h).2).2 c37).1, AW.blk kX7_failHere_0 cX7_failHere_0 (⟨((((h).2).2 c37).2).1, AW.blk kX7_fail_0 cX7_fail_0 (⟨(((((h).2).2 c37).2).2).1, ⟨fun c36 => AW.blk kX7_fail_17 cX7_fail_17 (⟨(by decide), ⟨(by decide), ⟨(by decide), ((((((h).2).2 c37).2).2).2).1 c36⟩⟩⟩), fun c36 => ⟨(by decide), ⟨(by decide), ⟨(by decide), ((((((((h).2).2 c37).2).2).2).2 c36) _ rfl) _ rfl⟩⟩⟩⟩⟩)⟩)⟩⟩⟩)
def kX5_isNameHere_0 : List BI := [bi (.iconst 0) 1 [] 0, bi (.istore_n 2) 1 [] 0]
theorem cX5_isNameHere_0 : chk mX5_isNameHere 0 kX5_isNameHere_0 = true := by decide +kernel
theorem rnh_0 {d : Nat} {σ : SG} {Q : Option AV → SG → Prop} {k : Int} (h : AW d mX5_isNameHere 2 [some (.inr (.inr 4)), some (.inl k), some (.inl 0)] [] σ Q) : AW d mX5_isNameHere 0 [some (.inr (.inr 4)), some (.inl k), none] [] σ Q := AW.blk kX5_isNameHere_0 cX5_isNameHere_0 (h)
def kX5_isNameHere_36 : List BI := [bi (.iconst 1) 1 [] 0, bi (.ireturn) 1 [1] 0]
theorem cX5_isNameHere_36 : chk mX5_isNameHere 36 kX5_isNameHere_36 = true := by decide +kernel
def kX5_isNameHere_30 : List BI := [bi (.iinc 2 (1)) 3 [] 0, bi (.goto (-31)) 3 [2] 0]
theorem cX5_isNameHere_30 : chk mX5_isNameHere 30 kX5_isNameHere_30 = true := by decide +kernel
def kX7_letterHere_29 : List BI := [bi (.iconst 0) 1 [] 0, bi (.ireturn) 1 [] 0]
theorem cX7_letterHere_29 : chk mX7_letterHere 29 kX7_letterHere_29 = true := by decide +kernel
def kX7_letterHere_30 : List BI := [bi (.ireturn) 1 [] 0]
theorem cX7_letterHere_30 : chk mX7_letterHere 30 kX7_letterHere_30 = true := by decide +kernel
def kX7_letterHere_0 : List BI := [bi (.aload_n 0) 1 [] 0, bi (.getfield 28) 3 [7, 5] 0, bi (.iload_n 1) 1 [] 0, bi (.iadd) 1 [] 0, bi (.istore_n 2) 1 [] 0, bi (.iload_n 2) 1 [] 0, bi (.aload_n 0) 1 [] 0, bi (.getfield 31) 3 [7, 6] 0, bi (.if_icmp .ge (17)) 3 [29] 0, bi (.aload_n 0) 1 [] 0, bi (.getfield 9) 3 [7, 0] 0, bi (.iload_n 2) 1 [] 0, bi (.iaload) 1 [] 0, bi (.bipush (97)) 2 [] 0, bi (.isub) 1 [] 0, bi (.iconst 1) 1 [] 0, bi (.iadd) 1 [] 0, bi (.goto (4)) 3 [30] 0]
theorem cX7_letterHere_0 : chk mX7_letterHere 0 kX7_letterHere_0 = true := by decide +kernel
def kX5_isNameHere_12 : List BI := [bi (.iload_n 1) 1 [] 0, bi (.iload_n 2) 1 [] 0, bi (.invokevirtual 174) 3 [mX4_letterOf, 3, 3, 4] 0, bi (.aload_n 0) 1 [] 0, bi (.getfield 18) 3 [5, 0] 0, bi (.iload_n 2) 1 [] 0, bi (.invokevirtual 168) 3 [mX7_letterHere, 2, 3, 7] 0, bi (.if_icmp .eq (5)) 3 [30] 0, bi (.iconst 0) 1 [] 0, bi (.ireturn) 1 [1] 0]
theorem cX5_isNameHere_12 : chk mX5_isNameHere 12 kX5_isNameHere_12 = true := by decide +kernel
def kX5_isNameHere_2 : List BI := [bi (.iload_n 2) 1 [] 0, bi (.bipush (6)) 2 [] 0, bi (.if_icmp .ge (31)) 3 [36] 0, bi (.aload_n 0) 1 [] 0, bi (.getfield 12) 3 [5, 1] 0]
theorem cX5_isNameHere_2 : chk mX5_isNameHere 2 kX5_isNameHere_2 = true := by decide +kernel
theorem rnh_2 {d : Nat} {σ : SG} {Q : Option AV → SG → Prop} {k l2 : Int} {q : Nat} (hq : q = 5 ∨ q = 16) (hy : (σ 4 1).toNat = q) (h : (r3 l2) ∧ (6 ≤ l2 → Q (some (.inl 1)) σ) ∧ (l2 < 6 → (0 < d) ∧ (0 ≤ ((k * 6) + l2) ∧ ((k * 6) + l2) < 72) ∧ (0 < d) ∧ (r3 ((σ 2 5) + l2) ∧ r3 (σ 2 6)) ∧ ((σ 2 6) ≤ ((σ 2 5) + l2) → (r3 (σ (q + 1) ((k * 6) + l2))) ∧ ((σ (q + 1) ((k * 6) + l2)) = 0 → AW d mX5_isNameHere 2 [some (.inr (.inr 4)), some (.inl k), some (.inl (l2 + 1))] [] σ Q) ∧ ((σ (q + 1) ((k * 6) + l2)) ≠ 0 → Q (some (.inl 0)) σ)) ∧ (((σ 2 5) + l2) < (σ 2 6) → (0 ≤ ((σ 2 5) + l2) ∧ ((σ 2 5) + l2) < 1600) ∧ (r3 (σ (q + 1) ((k * 6) + l2)) ∧ r3 (((σ 3 ((σ 2 5) + l2)) - 97) + 1)) ∧ ((σ (q + 1) ((k * 6) + l2)) = (((σ 3 ((σ 2 5) + l2)) - 97) + 1) → AW d mX5_isNameHere 2 [some (.inr (.inr 4)), some (.inl k), some (.inl (l2 + 1))] [] σ Q) ∧ ((σ (q + 1) ((k * 6) + l2)) ≠ (((σ 3 ((σ 2 5) + l2)) - 97) + 1) → Q (some (.inl 0)) σ)))) : AW d mX5_isNameHere 2 [some (.inr (.inr 4)), some (.inl k), some (.inl l2)] [] σ Q := by
  rcases hq with rfl | rfl <;> exact AW.blk kX5_isNameHere_2 cX5_isNameHere_2 (⟨⟨(h).1, (by decide)⟩, ⟨fun c41 => AW.blk kX5_isNameHere_36 cX5_isNameHere_36 (⟨(by decide), ((h).2).1 c41⟩), fun c41 => aw_rl hy (AW.blk kX5_isNameHere_12 cX5_isNameHere_12 (⟨(((h).2).2 c41).1, AW.blk kX4_letterOf_0 cX4_letterOf_0 (⟨⟨(((((h).2).2 c41).2).1).1, (((((h).2).2 c41).2).1).2⟩, ⟨(((((h).2).2 c41).2).2).1, AW.blk kX7_letterHere_0 cX7_letterHere_0 (⟨⟨(((((((h).2).2 c41).2).2).2).1).1, (((((((h).2).2 c41).2).2).2).1).2⟩, ⟨fun c40 => AW.blk kX7_letterHere_29 cX7_letterHere_29 (⟨⟨((((((((h).2).2 c41).2).2).2).2).1 c40).1, (by decide)⟩, ⟨fun c38 => AW.blk kX5_isNameHere_30 cX5_isNameHere_30 ((((((((((h).2).2 c41).2).2).2).2).1 c40).2).1 c38), fun c38 => ⟨(by decide), (((((((((h).2).2 c41).2).2).2).2).1 c40).2).2 c38⟩⟩⟩), fun c40 => ⟨⟨(((((((((h).2).2 c41).2).2).2).2).2 c40).1).1, (((((((((h).2).2 c41).2).2).2).2).2 c40).1).2⟩, AW.blk kX7_letterHere_30 cX7_letterHere_30 (⟨⟨((((((((((h).2).2 c41).2).2).2).2).2 c40).2).1).1, ((((((((((h).2).2 c41).2).2).2).2).2 c40).2).1).2⟩, ⟨fun c39 => AW.blk kX5_isNameHere_30 cX5_isNameHere_30 (((((((((((h).2).2 c41).2).2).2).2).2 c40).2).2).1 c39), fun c39 => ⟨(by decide), ((((((((((h).2).2 c41).2).2).2).2).2 c40).2).2).2 c39⟩⟩⟩)⟩⟩⟩)⟩⟩)⟩))⟩⟩)
def kX5_towerNamedHere_0 : List BI := [bi (.iconst 0) 1 [] 0, bi (.istore_n 1) 1 [] 0]
theorem cX5_towerNamedHere_0 : chk mX5_towerNamedHere 0 kX5_towerNamedHere_0 = true := by decide +kernel
theorem rth_0 {d : Nat} {σ : SG} {Q : Option AV → SG → Prop} (h : AW d mX5_towerNamedHere 2 [some (.inr (.inr 4)), some (.inl 0)] [] σ Q) : AW d mX5_towerNamedHere 0 [some (.inr (.inr 4)), none] [] σ Q := AW.blk kX5_towerNamedHere_0 cX5_towerNamedHere_0 (h)
def kX5_towerNamedHere_29 : List BI := [bi (.iconst (-1)) 1 [] 0, bi (.ireturn) 1 [] 0]
theorem cX5_towerNamedHere_29 : chk mX5_towerNamedHere 29 kX5_towerNamedHere_29 = true := by decide +kernel
def kX5_towerNamedHere_7 : List BI := [bi (.getfield 83) 3 [4, 0] 0, bi (.if_icmp .ge (19)) 3 [29] 0, bi (.aload_n 0) 1 [] 0, bi (.iload_n 1) 1 [] 0, bi (.invokevirtual 171) 3 [mX5_isNameHere, 2, 3, 5] 0]
theorem cX5_towerNamedHere_7 : chk mX5_towerNamedHere 7 kX5_towerNamedHere_7 = true := by decide +kernel
def kX5_towerNamedHere_2 : List BI := [bi (.iload_n 1) 1 [] 0, bi (.aload_n 0) 1 [] 0, bi (.getfield 12) 3 [5, 1] 0]
theorem cX5_towerNamedHere_2 : chk mX5_towerNamedHere 2 kX5_towerNamedHere_2 = true := by decide +kernel
theorem rth_2 {d : Nat} {σ : SG} {Q : Option AV → SG → Prop} {l1 : Int} {q : Nat} (hq : q = 5 ∨ q = 16) (hy : (σ 4 1).toNat = q) (h : (r3 l1 ∧ r3 (σ q 0)) ∧ ((σ q 0) ≤ l1 → Q (some (.inl ((-1)))) σ) ∧ (l1 < (σ q 0) → (0 < d) ∧ AW (d - 1) mX5_isNameHere 0 [some (.inr (.inr 4)), some (.inl l1), none] [] σ (fun rr σ' => AW d mX5_towerNamedHere 18 [some (.inr (.inr 4)), some (.inl l1)] (rtS rr []) σ' Q))) : AW d mX5_towerNamedHere 2 [some (.inr (.inr 4)), some (.inl l1)] [] σ Q := by
  rcases hq with rfl | rfl <;> exact AW.blk kX5_towerNamedHere_2 cX5_towerNamedHere_2 (aw_rl hy (AW.blk kX5_towerNamedHere_7 cX5_towerNamedHere_7 (⟨⟨((h).1).1, ((h).1).2⟩, ⟨fun c42 => AW.blk kX5_towerNamedHere_29 cX5_towerNamedHere_29 (((h).2).1 c42), fun c42 => ⟨(((h).2).2 c42).1, (((h).2).2 c42).2⟩⟩⟩)))
def kX5_towerNamedHere_23 : List BI := [bi (.iinc 1 (1)) 3 [] 0, bi (.goto (-24)) 3 [2] 0]
theorem cX5_towerNamedHere_23 : chk mX5_towerNamedHere 23 kX5_towerNamedHere_23 = true := by decide +kernel
def kX5_towerNamedHere_18 : List BI := [bi (.ifCond .eq (5)) 3 [23] 0, bi (.iload_n 1) 1 [] 0, bi (.ireturn) 1 [] 0]
theorem cX5_towerNamedHere_18 : chk mX5_towerNamedHere 18 kX5_towerNamedHere_18 = true := by decide +kernel
theorem rth_18 {d : Nat} {σ : SG} {Q : Option AV → SG → Prop} {l1 s0 : Int} (h : (r3 s0) ∧ (s0 = 0 → AW d mX5_towerNamedHere 2 [some (.inr (.inr 4)), some (.inl (l1 + 1))] [] σ Q) ∧ (s0 ≠ 0 → Q (some (.inl l1)) σ)) : AW d mX5_towerNamedHere 18 [some (.inr (.inr 4)), some (.inl l1)] [.inl s0] σ Q := AW.blk kX5_towerNamedHere_18 cX5_towerNamedHere_18 (⟨(h).1, ⟨fun c43 => AW.blk kX5_towerNamedHere_23 cX5_towerNamedHere_23 (((h).2).1 c43), fun c43 => ((h).2).2 c43⟩⟩)
def kX5_guardNamedHere_0 : List BI := [bi (.iconst 0) 1 [] 0, bi (.istore_n 1) 1 [] 0]
theorem cX5_guardNamedHere_0 : chk mX5_guardNamedHere 0 kX5_guardNamedHere_0 = true := by decide +kernel
theorem rgh_0 {d : Nat} {σ : SG} {Q : Option AV → SG → Prop} (h : AW d mX5_guardNamedHere 2 [some (.inr (.inr 4)), some (.inl 0)] [] σ Q) : AW d mX5_guardNamedHere 0 [some (.inr (.inr 4)), none] [] σ Q := AW.blk kX5_guardNamedHere_0 cX5_guardNamedHere_0 (h)
def kX5_guardNamedHere_31 : List BI := [bi (.iconst 0) 1 [] 0, bi (.ireturn) 1 [1] 0]
theorem cX5_guardNamedHere_31 : chk mX5_guardNamedHere 31 kX5_guardNamedHere_31 = true := by decide +kernel
def kX5_guardNamedHere_7 : List BI := [bi (.getfield 89) 3 [4, 1] 0, bi (.if_icmp .ge (21)) 3 [31] 0, bi (.aload_n 0) 1 [] 0, bi (.iconst 4) 1 [] 0, bi (.iload_n 1) 1 [] 0, bi (.iadd) 1 [] 0, bi (.invokevirtual 171) 3 [mX5_isNameHere, 2, 3, 5] 0]
theorem cX5_guardNamedHere_7 : chk mX5_guardNamedHere 7 kX5_guardNamedHere_7 = true := by decide +kernel
def kX5_guardNamedHere_2 : List BI := [bi (.iload_n 1) 1 [] 0, bi (.aload_n 0) 1 [] 0, bi (.getfield 12) 3 [5, 1] 0]
theorem cX5_guardNamedHere_2 : chk mX5_guardNamedHere 2 kX5_guardNamedHere_2 = true := by decide +kernel
theorem rgh_2 {d : Nat} {σ : SG} {Q : Option AV → SG → Prop} {l1 : Int} {q : Nat} (hq : q = 5 ∨ q = 16) (hy : (σ 4 1).toNat = q) (h : (r3 l1 ∧ r3 (σ q 1)) ∧ ((σ q 1) ≤ l1 → Q (some (.inl 0)) σ) ∧ (l1 < (σ q 1) → (0 < d) ∧ AW (d - 1) mX5_isNameHere 0 [some (.inr (.inr 4)), some (.inl (4 + l1)), none] [] σ (fun rr σ' => AW d mX5_guardNamedHere 20 [some (.inr (.inr 4)), some (.inl l1)] (rtS rr []) σ' Q))) : AW d mX5_guardNamedHere 2 [some (.inr (.inr 4)), some (.inl l1)] [] σ Q := by
  rcases hq with rfl | rfl <;> exact AW.blk kX5_guardNamedHere_2 cX5_guardNamedHere_2 (aw_rl hy (AW.blk kX5_guardNamedHere_7 cX5_guardNamedHere_7 (⟨⟨((h).1).1, ((h).1).2⟩, ⟨fun c44 => AW.blk kX5_guardNamedHere_31 cX5_guardNamedHere_31 (⟨(by decide), ((h).2).1 c44⟩), fun c44 => ⟨(((h).2).2 c44).1, (((h).2).2 c44).2⟩⟩⟩)))
def kX5_guardNamedHere_25 : List BI := [bi (.iinc 1 (1)) 3 [] 0, bi (.goto (-26)) 3 [2] 0]
theorem cX5_guardNamedHere_25 : chk mX5_guardNamedHere 25 kX5_guardNamedHere_25 = true := by decide +kernel
def kX5_guardNamedHere_20 : List BI := [bi (.ifCond .eq (5)) 3 [25] 0, bi (.iconst 1) 1 [] 0, bi (.ireturn) 1 [1] 0]
theorem cX5_guardNamedHere_20 : chk mX5_guardNamedHere 20 kX5_guardNamedHere_20 = true := by decide +kernel
theorem rgh_20 {d : Nat} {σ : SG} {Q : Option AV → SG → Prop} {l1 s0 : Int} (h : (r3 s0) ∧ (s0 = 0 → AW d mX5_guardNamedHere 2 [some (.inr (.inr 4)), some (.inl (l1 + 1))] [] σ Q) ∧ (s0 ≠ 0 → Q (some (.inl 1)) σ)) : AW d mX5_guardNamedHere 20 [some (.inr (.inr 4)), some (.inl l1)] [.inl s0] σ Q := AW.blk kX5_guardNamedHere_20 cX5_guardNamedHere_20 (⟨(h).1, ⟨fun c45 => AW.blk kX5_guardNamedHere_25 cX5_guardNamedHere_25 (((h).2).1 c45), fun c45 => ⟨(by decide), ((h).2).2 c45⟩⟩⟩)
def kX5_takeNewName_0 : List BI := [bi (.aload_n 0) 1 [] 0, bi (.invokevirtual 156) 3 [mX5_canBeName, 1, 1, 5] 0]
theorem cX5_takeNewName_0 : chk mX5_takeNewName 0 kX5_takeNewName_0 = true := by decide +kernel
theorem rnn_0 {d : Nat} {σ : SG} {Q : Option AV → SG → Prop} {k : Int} (h : (0 < d) ∧ AW (d - 1) mX5_canBeName 0 [some (.inr (.inr 4))] [] σ (fun rr σ' => AW d mX5_takeNewName 4 [some (.inr (.inr 4)), some (.inl k), none] (rtS rr []) σ' Q)) : AW d mX5_takeNewName 0 [some (.inr (.inr 4)), some (.inl k), none] [] σ Q := AW.blk kX5_takeNewName_0 cX5_takeNewName_0 (⟨(h).1, (h).2⟩)
def kX5_takeNewName_9 : List BI := [bi (.aload_n 0) 1 [] 0, bi (.invokevirtual 159) 3 [mX5_towerNamedHere, 1, 2, 5] 0]
theorem cX5_takeNewName_9 : chk mX5_takeNewName 9 kX5_takeNewName_9 = true := by decide +kernel
def kX5_takeNewName_4 : List BI := [bi (.ifCond .ne (5)) 3 [9] 0, bi (.iconst 0) 1 [] 0, bi (.ireturn) 1 [1] 0]
theorem cX5_takeNewName_4 : chk mX5_takeNewName 4 kX5_takeNewName_4 = true := by decide +kernel
theorem rnn_4 {d : Nat} {σ : SG} {Q : Option AV → SG → Prop} {k s0 : Int} (h : (r3 s0) ∧ (s0 ≠ 0 → (0 < d) ∧ AW (d - 1) mX5_towerNamedHere 0 [some (.inr (.inr 4)), none] [] σ (fun rr σ' => AW d mX5_takeNewName 13 [some (.inr (.inr 4)), some (.inl k), none] (rtS rr []) σ' Q)) ∧ (s0 = 0 → Q (some (.inl 0)) σ)) : AW d mX5_takeNewName 4 [some (.inr (.inr 4)), some (.inl k), none] [.inl s0] σ Q := AW.blk kX5_takeNewName_4 cX5_takeNewName_4 (⟨(h).1, ⟨fun c46 => AW.blk kX5_takeNewName_9 cX5_takeNewName_9 (⟨(((h).2).1 c46).1, (((h).2).1 c46).2⟩), fun c46 => ⟨(by decide), ((h).2).2 c46⟩⟩⟩)
def kX5_takeNewName_24 : List BI := [bi (.aload_n 0) 1 [] 0, bi (.getfield 18) 3 [5, 0] 0, bi (.iconst 3) 1 [] 0, bi (.aload_n 0) 1 [] 0, bi (.getfield 18) 3 [5, 0] 0, bi (.getfield 34) 3 [7, 5] 0, bi (.invokevirtual 37) 3 [mX7_fail, 3, 3, 7] 0, bi (.ireturn) 1 [1] 0]
theorem cX5_takeNewName_24 : chk mX5_takeNewName 24 kX5_takeNewName_24 = true := by decide +kernel
def kX5_takeNewName_13 : List BI := [bi (.iconst (-1)) 1 [] 0, bi (.if_icmp .ne (10)) 3 [24] 0, bi (.aload_n 0) 1 [] 0, bi (.invokevirtual 162) 3 [mX5_guardNamedHere, 1, 2, 5] 0]
theorem cX5_takeNewName_13 : chk mX5_takeNewName 13 kX5_takeNewName_13 = true := by decide +kernel
theorem rnn_13 {d : Nat} {σ : SG} {Q : Option AV → SG → Prop} {k s0 : Int} (h : (r3 s0) ∧ (s0 ≠ (-1) → (0 < d) ∧ (r3 (σ 2 2)) ∧ ((σ 2 2) ≠ 0 → Q (some (.inl 0)) σ) ∧ ((σ 2 2) = 0 → (∀ S47 : SG, S47 = up σ 2 2 3 → (∀ S48 : SG, S48 = up S47 2 3 (σ 2 5) → Q (some (.inl 0)) S48)))) ∧ (s0 = (-1) → (0 < d) ∧ AW (d - 1) mX5_guardNamedHere 0 [some (.inr (.inr 4)), none] [] σ (fun rr σ' => AW d mX5_takeNewName 21 [some (.inr (.inr 4)), some (.inl k), none] (rtS rr []) σ' Q))) : AW d mX5_takeNewName 13 [some (.inr (.inr 4)), some (.inl k), none] [.inl s0] σ Q := AW.blk kX5_takeNewName_13 cX5_takeNewName_13 (⟨⟨(h).1, (by decide)⟩, ⟨fun c50 => AW.blk kX5_takeNewName_24 cX5_takeNewName_24 (⟨(((h).2).1 c50).1, AW.blk kX7_fail_0 cX7_fail_0 (⟨((((h).2).1 c50).2).1, ⟨fun c49 => AW.blk kX7_fail_17 cX7_fail_17 (⟨(by decide), ⟨(by decide), (((((h).2).1 c50).2).2).1 c49⟩⟩), fun c49 => ⟨(by decide), ⟨(by decide), (((((((h).2).1 c50).2).2).2 c49) _ rfl) _ rfl⟩⟩⟩⟩)⟩), fun c50 => ⟨(((h).2).2 c50).1, (((h).2).2 c50).2⟩⟩⟩)
def kX5_takeNewName_40 : List BI := [bi (.iconst 0) 1 [] 0, bi (.istore_n 2) 1 [] 0]
theorem cX5_takeNewName_40 : chk mX5_takeNewName 40 kX5_takeNewName_40 = true := by decide +kernel
def kX5_takeNewName_21 : List BI := [bi (.ifCond .eq (19)) 3 [40] 0, bi (.aload_n 0) 1 [] 0, bi (.getfield 18) 3 [5, 0] 0, bi (.iconst 3) 1 [] 0, bi (.aload_n 0) 1 [] 0, bi (.getfield 18) 3 [5, 0] 0, bi (.getfield 34) 3 [7, 5] 0, bi (.invokevirtual 37) 3 [mX7_fail, 3, 3, 7] 0, bi (.ireturn) 1 [1] 0]
theorem cX5_takeNewName_21 : chk mX5_takeNewName 21 kX5_takeNewName_21 = true := by decide +kernel
theorem rnn_21 {d : Nat} {σ : SG} {Q : Option AV → SG → Prop} {k s0 : Int} (h : (r3 s0) ∧ (s0 = 0 → AW d mX5_takeNewName 42 [some (.inr (.inr 4)), some (.inl k), some (.inl 0)] [] σ Q) ∧ (s0 ≠ 0 → (0 < d) ∧ (r3 (σ 2 2)) ∧ ((σ 2 2) ≠ 0 → Q (some (.inl 0)) σ) ∧ ((σ 2 2) = 0 → (∀ S51 : SG, S51 = up σ 2 2 3 → (∀ S52 : SG, S52 = up S51 2 3 (σ 2 5) → Q (some (.inl 0)) S52))))) : AW d mX5_takeNewName 21 [some (.inr (.inr 4)), some (.inl k), none] [.inl s0] σ Q := AW.blk kX5_takeNewName_21 cX5_takeNewName_21 (⟨(h).1, ⟨fun c54 => AW.blk kX5_takeNewName_40 cX5_takeNewName_40 (((h).2).1 c54), fun c54 => ⟨(((h).2).2 c54).1, AW.blk kX7_fail_0 cX7_fail_0 (⟨((((h).2).2 c54).2).1, ⟨fun c53 => AW.blk kX7_fail_17 cX7_fail_17 (⟨(by decide), ⟨(by decide), (((((h).2).2 c54).2).2).1 c53⟩⟩), fun c53 => ⟨(by decide), ⟨(by decide), (((((((h).2).2 c54).2).2).2 c53) _ rfl) _ rfl⟩⟩⟩⟩)⟩⟩⟩)
def kX5_takeNewName_76 : List BI := [bi (.aload_n 0) 1 [] 0, bi (.getfield 18) 3 [5, 0] 0, bi (.invokevirtual 95) 3 [mX7_advance, 1, 3, 7] 0]
theorem cX5_takeNewName_76 : chk mX5_takeNewName 76 kX5_takeNewName_76 = true := by decide +kernel
def kX5_takeNewName_52 : List BI := [bi (.getfield 165) 3 [4, 5] 0, bi (.iload_n 1) 1 [] 0, bi (.bipush (6)) 2 [] 0, bi (.imul) 1 [] 0, bi (.iload_n 2) 1 [] 0, bi (.iadd) 1 [] 0, bi (.aload_n 0) 1 [] 0, bi (.getfield 18) 3 [5, 0] 0, bi (.iload_n 2) 1 [] 0, bi (.invokevirtual 168) 3 [mX7_letterHere, 2, 3, 7] 0, bi (.iastore) 1 [] 0, bi (.iinc 2 (1)) 3 [] 0, bi (.goto (-31)) 3 [42] 0]
theorem cX5_takeNewName_52 : chk mX5_takeNewName 52 kX5_takeNewName_52 = true := by decide +kernel
def kX5_takeNewName_42 : List BI := [bi (.iload_n 2) 1 [] 0, bi (.bipush (6)) 2 [] 0, bi (.if_icmp .ge (31)) 3 [76] 0, bi (.aload_n 0) 1 [] 0, bi (.getfield 12) 3 [5, 1] 0]
theorem cX5_takeNewName_42 : chk mX5_takeNewName 42 kX5_takeNewName_42 = true := by decide +kernel
theorem rnn_42 {d : Nat} {σ : SG} {Q : Option AV → SG → Prop} {k l2 : Int} {q : Nat} (hq : q = 5 ∨ q = 16) (hy : (σ 4 1).toNat = q) (h : (r3 l2) ∧ (6 ≤ l2 → (0 < d) ∧ AW (d - 1) mX7_advance 0 [some (.inr (.inr 2)), none, none] [] σ (fun rr σ' => AW d mX5_takeNewName 83 [some (.inr (.inr 4)), some (.inl k), some (.inl l2)] (rtS rr []) σ' Q)) ∧ (l2 < 6 → (0 < d) ∧ (r3 ((σ 2 5) + l2) ∧ r3 (σ 2 6)) ∧ ((σ 2 6) ≤ ((σ 2 5) + l2) → (0 ≤ ((k * 6) + l2) ∧ ((k * 6) + l2) < 72) ∧ (∀ S55 : SG, S55 = up σ (q + 1) ((k * 6) + l2) 0 → AW d mX5_takeNewName 42 [some (.inr (.inr 4)), some (.inl k), some (.inl (l2 + 1))] [] S55 Q)) ∧ (((σ 2 5) + l2) < (σ 2 6) → (0 ≤ ((σ 2 5) + l2) ∧ ((σ 2 5) + l2) < 1600) ∧ (0 ≤ ((k * 6) + l2) ∧ ((k * 6) + l2) < 72) ∧ (∀ S56 : SG, S56 = up σ (q + 1) ((k * 6) + l2) (((σ 3 ((σ 2 5) + l2)) - 97) + 1) → AW d mX5_takeNewName 42 [some (.inr (.inr 4)), some (.inl k), some (.inl (l2 + 1))] [] S56 Q)))) : AW d mX5_takeNewName 42 [some (.inr (.inr 4)), some (.inl k), some (.inl l2)] [] σ Q := by
  rcases hq with rfl | rfl <;> exact AW.blk kX5_takeNewName_42 cX5_takeNewName_42 (⟨⟨(h).1, (by decide)⟩, ⟨fun c58 => AW.blk kX5_takeNewName_76 cX5_takeNewName_76 (⟨(((h).2).1 c58).1, (((h).2).1 c58).2⟩), fun c58 => aw_rl hy (AW.blk kX5_takeNewName_52 cX5_takeNewName_52 (⟨(((h).2).2 c58).1, AW.blk kX7_letterHere_0 cX7_letterHere_0 (⟨⟨(((((h).2).2 c58).2).1).1, (((((h).2).2 c58).2).1).2⟩, ⟨fun c57 => AW.blk kX7_letterHere_29 cX7_letterHere_29 (⟨⟨(((((((h).2).2 c58).2).2).1 c57).1).1, (((((((h).2).2 c58).2).2).1 c57).1).2⟩, (((((((h).2).2 c58).2).2).1 c57).2) _ rfl⟩), fun c57 => ⟨⟨(((((((h).2).2 c58).2).2).2 c57).1).1, (((((((h).2).2 c58).2).2).2 c57).1).2⟩, AW.blk kX7_letterHere_30 cX7_letterHere_30 (⟨⟨((((((((h).2).2 c58).2).2).2 c57).2).1).1, ((((((((h).2).2 c58).2).2).2 c57).2).1).2⟩, ((((((((h).2).2 c58).2).2).2 c57).2).2) _ rfl⟩)⟩⟩⟩)⟩))⟩⟩)
def kX5_takeNewName_83 : List BI := [bi (.iconst 1) 1 [] 0, bi (.ireturn) 1 [1] 0]
theorem cX5_takeNewName_83 : chk mX5_takeNewName 83 kX5_takeNewName_83 = true := by decide +kernel
theorem rnn_83 {d : Nat} {σ : SG} {Q : Option AV → SG → Prop} {k l2 : Int} (h : Q (some (.inl 1)) σ) : AW d mX5_takeNewName 83 [some (.inr (.inr 4)), some (.inl k), some (.inl l2)] [] σ Q := AW.blk kX5_takeNewName_83 cX5_takeNewName_83 (⟨(by decide), h⟩)
def kX5_takeTower_0 : List BI := [bi (.aload_n 0) 1 [] 0, bi (.invokevirtual 156) 3 [mX5_canBeName, 1, 1, 5] 0]
theorem cX5_takeTower_0 : chk mX5_takeTower 0 kX5_takeTower_0 = true := by decide +kernel
theorem rtt_0 {d : Nat} {σ : SG} {Q : Option AV → SG → Prop} {k : Int} (h : (0 < d) ∧ AW (d - 1) mX5_canBeName 0 [some (.inr (.inr 4))] [] σ (fun rr σ' => AW d mX5_takeTower 4 [some (.inr (.inr 4)), some (.inl k), none] (rtS rr []) σ' Q)) : AW d mX5_takeTower 0 [some (.inr (.inr 4)), some (.inl k), none] [] σ Q := AW.blk kX5_takeTower_0 cX5_takeTower_0 (⟨(h).1, (h).2⟩)
def kX5_takeTower_9 : List BI := [bi (.aload_n 0) 1 [] 0, bi (.invokevirtual 159) 3 [mX5_towerNamedHere, 1, 2, 5] 0]
theorem cX5_takeTower_9 : chk mX5_takeTower 9 kX5_takeTower_9 = true := by decide +kernel
def kX5_takeTower_4 : List BI := [bi (.ifCond .ne (5)) 3 [9] 0, bi (.iconst (-1)) 1 [] 0, bi (.ireturn) 1 [] 0]
theorem cX5_takeTower_4 : chk mX5_takeTower 4 kX5_takeTower_4 = true := by decide +kernel
theorem rtt_4 {d : Nat} {σ : SG} {Q : Option AV → SG → Prop} {k s0 : Int} (h : (r3 s0) ∧ (s0 ≠ 0 → (0 < d) ∧ AW (d - 1) mX5_towerNamedHere 0 [some (.inr (.inr 4)), none] [] σ (fun rr σ' => AW d mX5_takeTower 13 [some (.inr (.inr 4)), some (.inl k), none] (rtS rr []) σ' Q)) ∧ (s0 = 0 → Q (some (.inl ((-1)))) σ)) : AW d mX5_takeTower 4 [some (.inr (.inr 4)), some (.inl k), none] [.inl s0] σ Q := AW.blk kX5_takeTower_4 cX5_takeTower_4 (⟨(h).1, ⟨fun c59 => AW.blk kX5_takeTower_9 cX5_takeTower_9 (⟨(((h).2).1 c59).1, (((h).2).1 c59).2⟩), fun c59 => ((h).2).2 c59⟩⟩)
def kX5_takeTower_24 : List BI := [bi (.aload_n 0) 1 [] 0, bi (.getfield 18) 3 [5, 0] 0, bi (.iconst 3) 1 [] 0, bi (.aload_n 0) 1 [] 0, bi (.getfield 18) 3 [5, 0] 0, bi (.getfield 34) 3 [7, 5] 0, bi (.invokevirtual 37) 3 [mX7_fail, 3, 3, 7] 0, bi (.pop) 1 [] 0, bi (.iconst (-1)) 1 [] 0, bi (.ireturn) 1 [] 0]
theorem cX5_takeTower_24 : chk mX5_takeTower 24 kX5_takeTower_24 = true := by decide +kernel
def kX5_takeTower_42 : List BI := [bi (.aload_n 0) 1 [] 0, bi (.getfield 18) 3 [5, 0] 0, bi (.invokevirtual 95) 3 [mX7_advance, 1, 3, 7] 0]
theorem cX5_takeTower_42 : chk mX5_takeTower 42 kX5_takeTower_42 = true := by decide +kernel
def kX5_takeTower_13 : List BI := [bi (.istore_n 2) 1 [] 0, bi (.iload_n 2) 1 [] 0, bi (.iconst (-1)) 1 [] 0, bi (.if_icmp .eq (8)) 3 [24] 0, bi (.iload_n 2) 1 [] 0, bi (.iload_n 1) 1 [] 0, bi (.if_icmp .ne (21)) 3 [42] 0, bi (.aload_n 0) 1 [] 0, bi (.getfield 18) 3 [5, 0] 0, bi (.iconst 3) 1 [] 0, bi (.aload_n 0) 1 [] 0, bi (.getfield 18) 3 [5, 0] 0, bi (.getfield 34) 3 [7, 5] 0, bi (.invokevirtual 37) 3 [mX7_fail, 3, 3, 7] 0, bi (.pop) 1 [] 0, bi (.iconst (-1)) 1 [] 0, bi (.ireturn) 1 [] 0]
theorem cX5_takeTower_13 : chk mX5_takeTower 13 kX5_takeTower_13 = true := by decide +kernel
theorem rtt_13 {d : Nat} {σ : SG} {Q : Option AV → SG → Prop} {k s0 : Int} (h : (r3 s0) ∧ (s0 = (-1) → (0 < d) ∧ (r3 (σ 2 2)) ∧ ((σ 2 2) ≠ 0 → Q (some (.inl ((-1)))) σ) ∧ ((σ 2 2) = 0 → (∀ S60 : SG, S60 = up σ 2 2 3 → (∀ S61 : SG, S61 = up S60 2 3 (σ 2 5) → Q (some (.inl ((-1)))) S61)))) ∧ (s0 ≠ (-1) → (r3 s0 ∧ r3 k) ∧ (s0 ≠ k → (0 < d) ∧ AW (d - 1) mX7_advance 0 [some (.inr (.inr 2)), none, none] [] σ (fun rr σ' => AW d mX5_takeTower 49 [some (.inr (.inr 4)), some (.inl k), some (.inl s0)] (rtS rr []) σ' Q)) ∧ (s0 = k → (0 < d) ∧ (r3 (σ 2 2)) ∧ ((σ 2 2) ≠ 0 → Q (some (.inl ((-1)))) σ) ∧ ((σ 2 2) = 0 → (∀ S63 : SG, S63 = up σ 2 2 3 → (∀ S64 : SG, S64 = up S63 2 3 (σ 2 5) → Q (some (.inl ((-1)))) S64)))))) : AW d mX5_takeTower 13 [some (.inr (.inr 4)), some (.inl k), none] [.inl s0] σ Q := AW.blk kX5_takeTower_13 cX5_takeTower_13 (⟨⟨(h).1, (by decide)⟩, ⟨fun c67 => AW.blk kX5_takeTower_24 cX5_takeTower_24 (⟨(((h).2).1 c67).1, AW.blk kX7_fail_0 cX7_fail_0 (⟨((((h).2).1 c67).2).1, ⟨fun c62 => AW.blk kX7_fail_17 cX7_fail_17 (⟨(by decide), (((((h).2).1 c67).2).2).1 c62⟩), fun c62 => ⟨(by decide), (((((((h).2).1 c67).2).2).2 c62) _ rfl) _ rfl⟩⟩⟩)⟩), fun c67 => ⟨⟨((((h).2).2 c67).1).1, ((((h).2).2 c67).1).2⟩, ⟨fun c66 => AW.blk kX5_takeTower_42 cX5_takeTower_42 (⟨(((((h).2).2 c67).2).1 c66).1, (((((h).2).2 c67).2).1 c66).2⟩), fun c66 => ⟨(((((h).2).2 c67).2).2 c66).1, AW.blk kX7_fail_0 cX7_fail_0 (⟨((((((h).2).2 c67).2).2 c66).2).1, ⟨fun c65 => AW.blk kX7_fail_17 cX7_fail_17 (⟨(by decide), (((((((h).2).2 c67).2).2 c66).2).2).1 c65⟩), fun c65 => ⟨(by decide), (((((((((h).2).2 c67).2).2 c66).2).2).2 c65) _ rfl) _ rfl⟩⟩⟩)⟩⟩⟩⟩⟩)
def kX5_takeTower_49 : List BI := [bi (.iload_n 2) 1 [] 0, bi (.ireturn) 1 [] 0]
theorem cX5_takeTower_49 : chk mX5_takeTower 49 kX5_takeTower_49 = true := by decide +kernel
theorem rtt_49 {d : Nat} {σ : SG} {Q : Option AV → SG → Prop} {k l2 : Int} (h : Q (some (.inl l2)) σ) : AW d mX5_takeTower 49 [some (.inr (.inr 4)), some (.inl k), some (.inl l2)] [] σ Q := AW.blk kX5_takeTower_49 cX5_takeTower_49 (h)
/-! what is read off the tape, as values: .inl (fault, place) or .inr (value, behind it, glue) -/
abbrev PXv : Type := Sum (Int × Int) (Int × Int × Int)
def pxb (X : PXv) (f : Int → Int → PXv) : PXv := match X with
  | .inl z => .inl z
  | .inr z => f z.2.1 z.2.2
def pxv (X : PXv) : Int := match X with
  | .inl _ => -1
  | .inr z => z.1
def px1 (X : PXv) : Int := match X with
  | .inl _ => 0
  | .inr _ => 1
def pxW (o : Int → Int) (L : Int) (w : List Int) (p e : Int) : PXv := if kd o L e (sk o L p) = 1 ∧ weq o w (sk o L p) (te o L (sk o L p)) = true then .inr (0, te o L (sk o L p), te o L (sk o L p)) else .inl (1, sk o L p)
def pxS (o : Int → Int) (L c p e : Int) : PXv := if kd o L e (sk o L p) = 3 ∧ o (sk o L p) = c then .inr (0, sk o L p + 1, -1) else .inl (1, sk o L p)
def pxN (o : Int → Int) (L lo hi p e : Int) : PXv := if kd o L e (sk o L p) = 2 then (if te o L (sk o L p) - sk o L p ≤ 4 then (if lo ≤ nbV o (sk o L p) (te o L (sk o L p) - sk o L p) ∧ nbV o (sk o L p) (te o L (sk o L p) - sk o L p) ≤ hi then .inr (nbV o (sk o L p) (te o L (sk o L p) - sk o L p), te o L (sk o L p), te o L (sk o L p)) else .inl (2, sk o L p)) else .inl (1, sk o L p + 4)) else .inl (1, sk o L p)
def pxM (o : Int → Int) (L p e : Int) : PXv := if kd o L e (sk o L p) = 1 ∧ fstW o (sk o L p) (te o L (sk o L p)) (WL 0) 0 = -1 then (if te o L (sk o L p) - sk o L p ≤ 6 then .inr (sk o L p, te o L (sk o L p), te o L (sk o L p)) else .inl (1, sk o L p + 6)) else .inl (1, sk o L p)
/-- letter k of the word from s to t -/
def ltH (o : Int → Int) (s t k : Int) : Int := if s + k < t then o (s + k) - 97 + 1 else 0
def nmH (nm : Int → Int) (o : Int → Int) (s t k : Int) : Bool := decide (∀ j : Nat, j < 6 → nm (k * 6 + (j : Int)) = ltH o s t (j : Int))
def twN (nm : Int → Int) (tw : Int) (o : Int → Int) (s t : Int) : Int := fstI (fun i => nmH nm o s t i) tw
def gdN (nm : Int → Int) (gd : Int) (o : Int → Int) (s t : Int) : Int := fstI (fun i => nmH nm o s t (4 + i)) gd
def pxA (o : Int → Int) (L : Int) (nm : Int → Int) (tw gd p e : Int) : PXv := match pxM o L p e with
  | .inl z => .inl z
  | .inr z => if twN nm tw o z.1 z.2.1 = -1 ∧ gdN nm gd o z.1 z.2.1 = -1 then .inr z else .inl (3, z.1)
def pxT (o : Int → Int) (L : Int) (nm : Int → Int) (tw other p e : Int) : PXv := match pxM o L p e with
  | .inl z => .inl z
  | .inr z => if twN nm tw o z.1 z.2.1 = -1 ∨ twN nm tw o z.1 z.2.1 = other then .inl (3, z.1) else .inr (twN nm tw o z.1 z.2.1, z.2.1, z.2.2)
theorem tok {o : Int → Int} {L p : Int} (e : Int) (h0 : 0 ≤ p) (h1 : p ≤ L) : (p ≤ sk o L p ∧ sk o L p ≤ L) ∧ (sk o L p ≤ te o L (sk o L p) ∧ te o L (sk o L p) ≤ L) ∧ (kd o L e (sk o L p) = 0 ↔ L ≤ sk o L p) ∧ (kd o L e (sk o L p) = 3 → sk o L p < L ∧ te o L (sk o L p) = sk o L p + 1) ∧ (kd o L e (sk o L p) = 1 → sk o L p < L ∧ ltB o (sk o L p) = true ∧ te o L (sk o L p) = rn (ltB o) L (sk o L p)) ∧ (kd o L e (sk o L p) = 2 → sk o L p < L ∧ dgB o (sk o L p) = true ∧ te o L (sk o L p) = rn (dgB o) L (sk o L p)) ∧ (0 ≤ kd o L e (sk o L p) ∧ kd o L e (sk o L p) ≤ 4) := by
  have hk := rn_all (P := bkB o) (L := L) (p := p)
  have h2 : p ≤ sk o L p ∧ sk o L p ≤ L := ⟨hk.1, hk.2.1 h1⟩
  generalize sk o L p = s at h2 ⊢
  have hkr := kd_r o L e s
  have hl := rn_all (P := ltB o) (L := L) (p := s)
  have hg := rn_all (P := dgB o) (L := L) (p := s)
  have hl2 := hl.2.1 h2.2
  have hg2 := hg.2.1 h2.2
  have hl1 := hl.1
  have hg1 := hg.1
  clear hk hl hg
  refine ⟨h2, ?_⟩
  by_cases c : L ≤ s
  · have k1 : kdP o L s = 0 := by unfold kdP; rw [if_pos c]
    have k2 : te o L s = s := by unfold te; rw [if_pos c]
    have k3 : kd o L e s = 0 := by unfold kd; rw [k1, if_neg (by omega)]
    rw [k2, k3]
    exact ⟨⟨by omega, by omega⟩, ⟨fun _ => c, fun _ => rfl⟩, fun z => by omega, fun z => by omega, fun z => by omega, by omega, by omega⟩
  · cases b1 : ltB o s
    · cases b2 : dgB o s
      · have k1 : kdP o L s = 3 := by unfold kdP; rw [if_neg c, b1, b2, if_neg (by decide), if_neg (by decide)]
        have k2 : te o L s = s + 1 := by unfold te; rw [if_neg c, b1, b2, if_neg (by decide), if_neg (by decide)]
        have k3 : kd o L e s = 3 := by unfold kd; rw [k1, if_neg (by omega)]
        rw [k2, k3]
        exact ⟨⟨by omega, by omega⟩, ⟨fun z => by omega, fun z => absurd z c⟩, fun _ => ⟨by omega, rfl⟩, fun z => by omega, fun z => by omega, by omega, by omega⟩
      · have k1 : kdP o L s = 2 := by unfold kdP; rw [if_neg c, b1, b2, if_neg (by decide), if_pos rfl]
        have k2 : te o L s = rn (dgB o) L s := by unfold te; rw [if_neg c, b1, b2, if_neg (by decide), if_pos rfl]
        have k3 : kd o L e s = 2 ∨ kd o L e s = 4 := by
          unfold kd
          rw [k1]
          split
          · exact Or.inr rfl
          · exact Or.inl rfl
        rw [k2]
        exact ⟨⟨by omega, by omega⟩, ⟨fun z => by omega, fun z => absurd z c⟩, fun z => by omega, fun z => by omega, fun _ => ⟨by omega, rfl, rfl⟩, hkr⟩
    · have k1 : kdP o L s = 1 := by unfold kdP; rw [if_neg c, b1, if_pos rfl]
      have k2 : te o L s = rn (ltB o) L s := by unfold te; rw [if_neg c, b1, if_pos rfl]
      have k3 : kd o L e s = 1 ∨ kd o L e s = 4 := by
        unfold kd
        rw [k1]
        split
        · exact Or.inr rfl
        · exact Or.inl rfl
      rw [k2]
      exact ⟨⟨by omega, by omega⟩, ⟨fun z => by omega, fun z => absurd z c⟩, fun z => by omega, fun _ => ⟨by omega, rfl, rfl⟩, fun z => by omega, hkr⟩
/-! the class's tape -/
def CTp (o : Int → Int) (L : Int) (X : PXv) (σ : SG) : Prop := (σ 3 = o ∧ σ 2 1 = L ∧ (0 ≤ L ∧ L ≤ 1600) ∧ OCT o) ∧ (match X with
  | .inl z => σ 2 2 = z.1 ∧ σ 2 3 = z.2
  | .inr z => (σ 2 2 = 0 ∧ σ 2 3 = -1) ∧ TS o L z.2.1 z.2.2 (σ 2) ∧ (0 ≤ z.2.1 ∧ z.2.1 ≤ L))
def AFr (σ σ' : SG) : Prop := ∀ p, p ≠ 2 → σ' p = σ p
theorem AFr.rf (σ : SG) : AFr σ σ := fun _ _ => rfl
theorem AFr.tr {σ σ' σ'' : SG} (h : AFr σ σ') (k : AFr σ' σ'') : AFr σ σ'' := fun p hp => (k p hp).trans (h p hp)
theorem CTp.mk {o : Int → Int} {L v p e : Int} {σ : SG} (h1 : σ 3 = o ∧ σ 2 1 = L ∧ (0 ≤ L ∧ L ≤ 1600) ∧ OCT o) (h2 : σ 2 2 = 0 ∧ σ 2 3 = -1) (h3 : TS o L p e (σ 2)) (h4 : 0 ≤ p ∧ p ≤ L) : CTp o L (.inr (v, p, e)) σ := ⟨h1, h2, h3, h4⟩
theorem CTp.f {o : Int → Int} {L v p e : Int} {σ : SG} (h : CTp o L (.inr (v, p, e)) σ) : (σ 3 = o ∧ σ 2 1 = L ∧ (0 ≤ L ∧ L ≤ 1600) ∧ OCT o) ∧ (σ 2 2 = 0 ∧ σ 2 3 = -1) ∧ (σ 2 5 = sk o L p ∧ σ 2 4 = kd o L e (sk o L p) ∧ σ 2 6 = te o L (sk o L p)) ∧ (0 ≤ p ∧ p ≤ L) := ⟨h.1, h.2.1, h.2.2.1, h.2.2.2⟩
theorem CTp.v {o : Int → Int} {L v v' p e : Int} {σ : SG} (h : CTp o L (.inr (v, p, e)) σ) : CTp o L (.inr (v', p, e)) σ := CTp.mk h.1 h.2.1 h.2.2.1 h.2.2.2
theorem cadv {d : Nat} {o : Int → Int} {L v p e : Int} {σ : SG} {Q : Option AV → SG → Prop} (v' : Int) (hd : 1 ≤ d) (h : CTp o L (.inr (v, p, e)) σ) (hq : ∀ σ', AFr σ σ' → CTp o L (.inr (v', te o L (sk o L p), if kd o L e (sk o L p) = 1 ∨ kd o L e (sk o L p) = 2 then te o L (sk o L p) else -1)) σ' → Q none σ') : AW d mX7_advance 0 [some (.inr (.inr 2)), none, none] [] σ Q := by
  obtain ⟨⟨h3, h1, hL, ho⟩, ⟨h2, h2'⟩, ⟨t5, t4, t6⟩, hp⟩ := h.f
  have ht := tok (o := o) e hp.1 hp.2
  refine advance_ok hd (by rw [h1]; exact hL) (by rw [h3]; exact ho) ⟨by omega, by omega⟩ (by omega) (fun f hf hT => hq _ (fun p' hp' => putF_ne hp') ?_)
  rw [h3, h1, t6, t4] at hT
  refine CTp.mk ⟨?_, ?_, hL, ho⟩ ⟨?_, ?_⟩ ?_ ?_
  · rw [putF_ne (by decide)]
    exact h3
  · rw [putF_at, hf 1 (by decide) (by decide) (by decide)]
    exact h1
  · rw [putF_at, hf 2 (by decide) (by decide) (by decide)]
    exact h2
  · rw [putF_at, hf 3 (by decide) (by decide) (by decide)]
    exact h2'
  · rw [putF_at]
    exact hT
  · omega
theorem cfail {o : Int → Int} {L v p e k pl : Int} {σ : SG} (h : CTp o L (.inr (v, p, e)) σ) : CTp o L (.inl (k, pl)) (up (up σ 2 2 k) 2 3 pl) ∧ AFr σ (up (up σ 2 2 k) 2 3 pl) := by
  obtain ⟨⟨h3, h1, hL, ho⟩, _⟩ := h
  have z : AFr σ (up (up σ 2 2 k) 2 3 pl) := fun p hp => by rw [up_pf hp, up_pf hp]
  refine ⟨⟨⟨?_, ?_, hL, ho⟩, ?_, ?_⟩, z⟩
  · rw [z 3 (by decide)]
    exact h3
  · rw [up_i (by decide), up_i (by decide)]
    exact h1
  · rw [up_i (by decide), up_at]
  · rw [up_at]
theorem crewind {d : Nat} {o : Int → Int} {L : Int} {σ : SG} {Q : Option AV → SG → Prop} (hd : 2 ≤ d) (h3 : σ 3 = o) (h1 : σ 2 1 = L) (hL : 0 ≤ L ∧ L ≤ 1600) (ho : OCT o) (hq : ∀ σ', AFr σ σ' → CTp o L (.inr (0, 0, -1)) σ' → Q none σ') : AW d mX7_rewind 0 [some (.inr (.inr 2))] [] σ Q := by
  refine trw_0 (fun S1 e1 S2 e2 S3 e3 S4 e4 => ⟨by omega, ?_⟩)
  have z : AFr σ S4 := fun p hp => by rw [e4, up_pf hp, e3, up_pf hp, e2, up_pf hp, e1, up_pf hp]
  have y1 : S4 2 1 = L := by rw [e4, up_i (by decide), e3, up_i (by decide), e2, up_i (by decide), e1, up_i (by decide)]; exact h1
  have y2 : S4 2 2 = 0 := by rw [e4, up_i (by decide), e3, up_i (by decide), e2, up_i (by decide), e1, up_at]
  have y3 : S4 2 3 = -1 := by rw [e4, up_i (by decide), e3, up_i (by decide), e2, up_at]
  have y4 : S4 2 4 = 0 := by rw [e4, up_i (by decide), e3, up_at]
  have y6 : S4 2 6 = 0 := by rw [e4, up_at]
  have y0 : S4 3 = o := by rw [z 3 (by decide)]; exact h3
  refine advance_ok (by omega) (by rw [y1]; exact hL) (by rw [y0]; exact ho) ⟨by omega, by omega⟩ (by omega) (fun f hf hT => trw_24 (hq _ (fun p' hp' => (putF_ne hp').trans (z p' hp')) ?_))
  rw [y0, y1, y6, y4, if_neg (by omega)] at hT
  refine CTp.mk ⟨?_, ?_, hL, ho⟩ ⟨?_, ?_⟩ ?_ ?_
  · rw [putF_ne (by decide)]
    exact y0
  · rw [putF_at, hf 1 (by decide) (by decide) (by decide)]
    exact y1
  · rw [putF_at, hf 2 (by decide) (by decide) (by decide)]
    exact y2
  · rw [putF_at, hf 3 (by decide) (by decide) (by decide)]
    exact y3
  · rw [putF_at]
    exact hT
  · omega
theorem csign {d : Nat} {o : Int → Int} {L v p e c : Int} {σ : SG} {Q : Option AV → SG → Prop} (hd : 3 ≤ d) (hc : r3 c) (h : CTp o L (.inr (v, p, e)) σ) (hq : ∀ σ', AFr σ σ' → CTp o L (pxS o L c p e) σ' → Q (some (.inl (px1 (pxS o L c p e)))) σ') : AW d mX7_takeSign 0 [some (.inr (.inr 2)), some (.inl c)] [] σ Q := by
  obtain ⟨⟨h3, h1, hL, ho⟩, ⟨h2, h2'⟩, ⟨t5, t4, t6⟩, hp⟩ := h.f
  have ht := tok (o := o) e hp.1 hp.2
  have bad : ¬ (kd o L e (sk o L p) = 3 ∧ o (sk o L p) = c) → Q (some (.inl 0)) (up (up σ 2 2 1) 2 3 (sk o L p)) := by
    intro z
    have hX : pxS o L c p e = .inl (1, sk o L p) := if_neg z
    rw [hX] at hq
    exact hq _ (cfail h).2 (cfail h).1
  refine tts_0 ?_
  rw [h3, t5, t4]
  refine ⟨by omega, by omega, fun c1 => ⟨by omega, by omega, by omega, fun z => absurd h2 z, fun _ S1 e1 S2 e2 => ?_⟩, fun c1 => ⟨by omega, ?_, fun c2 => ⟨by omega, by omega, by omega, fun z => absurd h2 z, fun _ S1 e1 S2 e2 => ?_⟩, fun c2 => ⟨by omega, ?_⟩⟩⟩
  · rw [e2, e1]
    exact bad (fun z => c1 z.1)
  · have := ho (sk o L p) (by omega) (by omega)
    omega
  · rw [e2, e1]
    exact bad (fun z => c2 z.2)
  · have hX : pxS o L c p e = .inr (0, sk o L p + 1, -1) := if_pos ⟨c1, c2⟩
    rw [hX] at hq
    refine cadv 0 (by omega) h (fun σ' hA hC => ?_)
    rw [if_neg (by omega), (ht.2.2.2.1 c1).2] at hC
    exact tts_17 (hq σ' hA hC)
theorem fstW_at {o : Int → Int} {s t : Int} {ws : List (List Int)} (hn : ∀ i, i < ws.length → ∀ j, j < ws.length → ws.getD i [] = ws.getD j [] → i = j) {i : Nat} (hi : i < ws.length) : fstW o s t ws 0 = (i : Int) ↔ weq o (ws.getD i []) s t = true := by
  constructor
  · intro h
    rcases fstW_r (o := o) (s := s) (t := t) ws 0 (by omega) with z | ⟨_, _, z⟩
    · omega
    · rw [h] at z
      rwa [show ((i : Int) - 0).toNat = i by omega] at z
  · intro h
    rcases fstW_r (o := o) (s := s) (t := t) ws 0 (by omega) with z | ⟨z1, z2, z⟩
    · have hm : ws.getD i [] ∈ ws := by
        rw [List.getD_eq_getElem?_getD, List.getElem?_eq_getElem hi]
        exact List.getElem_mem hi
      have := fstW_n ws 0 (by omega) z _ hm
      rw [this] at h
      exact absurd h (by decide)
    · have e := weq_one _ _ _ _ z h
      have := hn _ (by omega) i hi e
      omega
theorem WL_nd : ∀ k, k < 7 → ∀ i, i < (WL k).length → ∀ j, j < (WL k).length → (WL k).getD i [] = (WL k).getD j [] → i = j := by decide +kernel
theorem WL_0 : ∀ i, i < 16 → (WL 0).getD i [] = WC (45 + i) := by decide +kernel
/-- the word of a text that stands here -/
theorem cwa {d i : Nat} {o : Int → Int} {L v p e : Int} {σ : SG} {Q : Option AV → SG → Prop} (hi : i < 7) (hd : 5 ≤ d) (h : CTp o L (.inr (v, p, e)) σ) (hq : Q (some (.inl (if kd o L e (sk o L p) = 1 then fstW o (sk o L p) (te o L (sk o L p)) (WL i) 0 else -1))) σ) : AW d mX7_wordAmong 0 [some (.inr (.inr 2)), some (.inr (.inr (1000 + i))), none, none, none, none] [] σ Q := by
  obtain ⟨⟨h3, h1, hL, ho⟩, ⟨h2, h2'⟩, ⟨t5, t4, t6⟩, hp⟩ := h.f
  have ht := tok (o := o) e hp.1 hp.2
  refine wordAmong_ok hi hd (by omega) (by omega) (by omega) (by rw [h3]; exact ho) ?_
  rw [h3, t4, t5, t6]
  exact hq
theorem waV_r (o : Int → Int) (k s t : Int) (i : Nat) (hi : i < 7) : -1 ≤ (if k = 1 then fstW o s t (WL i) 0 else -1) ∧ (if k = 1 then fstW o s t (WL i) 0 else -1) < 16 := by
  have hl : ∀ i, i < 7 → (WL i).length ≤ 16 := by decide
  have := hl i hi
  split
  · rcases fstW_r (o := o) (s := s) (t := t) (WL i) 0 (by omega) with z | ⟨z1, z2, _⟩ <;> omega
  · omega
theorem ctword {d : Nat} {o : Int → Int} {L v p e w : Int} {σ : SG} {Q : Option AV → SG → Prop} (i : Nat) (hi : i < 16) (hw : w = (i : Int)) (hd : 7 ≤ d) (h : CTp o L (.inr (v, p, e)) σ) (hq : ∀ σ', AFr σ σ' → CTp o L (pxW o L (WC (45 + i)) p e) σ' → Q (some (.inl (px1 (pxW o L (WC (45 + i)) p e)))) σ') : AW d mX5_takeWord 0 [some (.inr (.inr 4)), some (.inl w)] [] σ Q := by
  obtain ⟨⟨h3, h1, hL, ho⟩, ⟨h2, h2'⟩, ⟨t5, t4, t6⟩, hp⟩ := h.f
  have ht := tok (o := o) e hp.1 hp.2
  have hv := waV_r o (kd o L e (sk o L p)) (sk o L p) (te o L (sk o L p)) 0 (by decide)
  have hiff : (if kd o L e (sk o L p) = 1 then fstW o (sk o L p) (te o L (sk o L p)) (WL 0) 0 else -1) = w ↔ (kd o L e (sk o L p) = 1 ∧ weq o (WC (45 + i)) (sk o L p) (te o L (sk o L p)) = true) := by
    rw [← WL_0 i hi, ← fstW_at (WL_nd 0 (by decide)) (show i < (WL 0).length from hi), hw]
    split
    · rename_i c
      exact ⟨fun z => ⟨c, z⟩, fun z => z.2⟩
    · rename_i c
      exact ⟨fun z => by omega, fun z => absurd z.1 c⟩
  refine rtw_0 ⟨by omega, cwa (i := 0) (by decide) (by omega) h ?_⟩
  refine rtw_9 ⟨by omega, fun c => ⟨by omega, ?_⟩, fun c => ⟨by omega, by omega, by omega, fun z => absurd h2 z, fun _ S1 e1 S2 e2 => ?_⟩⟩
  · have hc := hiff.mp c
    have hX : pxW o L (WC (45 + i)) p e = .inr (0, te o L (sk o L p), te o L (sk o L p)) := if_pos hc
    rw [hX] at hq
    refine cadv 0 (by omega) h (fun σ' hA hC => ?_)
    rw [if_pos (Or.inl hc.1)] at hC
    exact rtw_28 (hq σ' hA hC)
  · have hX : pxW o L (WC (45 + i)) p e = .inl (1, sk o L p) := if_neg (fun z => c (hiff.mpr z))
    rw [hX] at hq
    rw [e2, e1, t5]
    exact hq _ (cfail h).2 (cfail h).1
theorem nb_r {o : Int → Int} {L p e : Int} (h0 : 0 ≤ p) (h1 : p ≤ L) (hk : kd o L e (sk o L p) = 2) (h4 : te o L (sk o L p) - sk o L p ≤ 4) : 0 ≤ nbV o (sk o L p) (te o L (sk o L p) - sk o L p) ∧ nbV o (sk o L p) (te o L (sk o L p) - sk o L p) ≤ 9999 := by
  have ht := tok (o := o) e h0 h1
  obtain ⟨_, _, et⟩ := ht.2.2.2.2.2.1 hk
  have hr := rn_all (P := dgB o) (L := L) (p := sk o L p)
  have h := nbV_r (o := o) (s := sk o L p) (te o L (sk o L p) - sk o L p).toNat (by omega) (fun i i0 i1 => by
    have := hr.2.2.2.1 (sk o L p + i) (by omega) (by rw [← et]; omega)
    have hd := of_decide_eq_true this
    unfold chD at hd
    by_cases c : 48 ≤ o (sk o L p + i) ∧ o (sk o L p + i) ≤ 57
    · exact c
    · rw [if_neg c] at hd
      exact absurd rfl hd)
  rw [show (((te o L (sk o L p) - sk o L p).toNat : Nat) : Int) = te o L (sk o L p) - sk o L p by omega] at h
  have hp : (10 : Int) ^ (te o L (sk o L p) - sk o L p).toNat ≤ 10000 := by
    have : ∀ n : Nat, n ≤ 4 → (10 : Int) ^ n ≤ 10000 := by decide
    exact this _ (by omega)
  omega
theorem ctnum {d : Nat} {o : Int → Int} {L v p e lo hi : Int} {σ : SG} {Q : Option AV → SG → Prop} (hd : 3 ≤ d) (hlo : r3 lo) (hhi : r3 hi) (h : CTp o L (.inr (v, p, e)) σ) (hq : ∀ σ', AFr σ σ' → CTp o L (pxN o L lo hi p e) σ' → Q (some (.inl (pxv (pxN o L lo hi p e)))) σ') : AW d mX5_takeNumber 0 [some (.inr (.inr 4)), some (.inl lo), some (.inl hi), none] [] σ Q := by
  obtain ⟨⟨h3, h1, hL, ho⟩, ⟨h2, h2'⟩, ⟨t5, t4, t6⟩, hp⟩ := h.f
  have ht := tok (o := o) e hp.1 hp.2
  refine rtn_0 ⟨by omega, numberHere_ok (by omega) (by omega) (by omega) (by omega) h2 (fun c => ?_) (fun c => ?_)⟩
  · rw [t4, t5, t6] at c
    rw [h3, t5, t6]
    have hb := nb_r hp.1 hp.2 c.1 c.2
    have e1 : pxN o L lo hi p e = if lo ≤ nbV o (sk o L p) (te o L (sk o L p) - sk o L p) ∧ nbV o (sk o L p) (te o L (sk o L p) - sk o L p) ≤ hi then .inr (nbV o (sk o L p) (te o L (sk o L p) - sk o L p), te o L (sk o L p), te o L (sk o L p)) else .inl (2, sk o L p) := by
      unfold pxN
      rw [if_pos c.1, if_pos c.2]
    rw [e1] at hq
    generalize nbV o (sk o L p) (te o L (sk o L p) - sk o L p) = b at *
    have bad : ¬ (lo ≤ b ∧ b ≤ hi) → Q (some (.inl (-1))) (up (up σ 2 2 2) 2 3 (sk o L p)) := by
      intro z
      rw [if_neg z] at hq
      exact hq _ (cfail h).2 (cfail h).1
    refine rtn_7 ⟨by omega, fun _ => ⟨by omega, fun c2 => ⟨by omega, by omega, fun z => absurd h2 z, fun _ S1 e1 S2 e2 => ?_⟩, fun c2 => ⟨by omega, fun c3 => ⟨by omega, ?_⟩, fun c3 => ⟨by omega, by omega, fun z => absurd h2 z, fun _ S1 e1 S2 e2 => ?_⟩⟩⟩, fun z => by omega⟩
    · rw [e2, e1, t5]
      exact bad (by omega)
    · rw [if_pos ⟨c2, c3⟩] at hq
      refine cadv b (by omega) h (fun σ' hA hC => ?_)
      rw [if_pos (Or.inr c.1)] at hC
      exact rtn_50 (hq σ' hA hC)
    · rw [e2, e1, t5]
      exact bad (by omega)
  · rw [t4, t5, t6] at c
    rw [t4, t5]
    have hX : pxN o L lo hi p e = .inl (1, nhP (kd o L e (sk o L p)) (sk o L p)) := by
      unfold pxN nhP
      by_cases c1 : kd o L e (sk o L p) = 2
      · rw [if_pos c1, if_neg (fun z => c ⟨c1, z⟩), if_pos c1]
      · rw [if_neg c1, if_neg c1]
    rw [hX] at hq
    exact rtn_7 ⟨by omega, fun z => absurd rfl z, fun _ => hq _ (cfail h).2 (cfail h).1⟩
/-! names -/
theorem ccan {d : Nat} {o : Int → Int} {L v p e : Int} {σ : SG} {Q : Option AV → SG → Prop} (hd : 7 ≤ d) (h : CTp o L (.inr (v, p, e)) σ) (hq0 : ∀ σ' z, pxM o L p e = .inl z → AFr σ σ' → CTp o L (.inl z) σ' → Q (some (.inl 0)) σ') (hq1 : ∀ z, pxM o L p e = .inr z → Q (some (.inl 1)) σ) : AW d mX5_canBeName 0 [some (.inr (.inr 4))] [] σ Q := by
  obtain ⟨⟨h3, h1, hL, ho⟩, ⟨h2, h2'⟩, ⟨t5, t4, t6⟩, hp⟩ := h.f
  have ht := tok (o := o) e hp.1 hp.2
  have hv := waV_r o (kd o L e (sk o L p)) (sk o L p) (te o L (sk o L p)) 0 (by decide)
  have bad : ¬ (kd o L e (sk o L p) = 1 ∧ fstW o (sk o L p) (te o L (sk o L p)) (WL 0) 0 = -1) → Q (some (.inl 0)) (up (up σ 2 2 1) 2 3 (sk o L p)) := by
    intro z
    exact hq0 _ _ (if_neg z) (cfail h).2 (cfail h).1
  refine rcb_0 ?_
  rw [t4, t5]
  refine ⟨by omega, fun c => ⟨by omega, by omega, by omega, fun z => absurd h2 z, fun _ S1 e1 S2 e2 => ?_⟩, fun c => ⟨by omega, cwa (i := 0) (by decide) (by omega) h ?_⟩⟩
  · rw [e2, e1]
    exact bad (fun z => c z.1)
  · rw [if_pos c] at hv ⊢
    refine rcb_20 ?_
    rw [t5, t6]
    refine ⟨by omega, fun c2 => ⟨by omega, fun c3 => ?_, fun c3 => ⟨by omega, by omega, fun z => absurd h2 z, fun _ S1 e1 S2 e2 => ?_⟩⟩, fun c2 => ⟨by omega, by omega, by omega, fun z => absurd h2 z, fun _ S1 e1 S2 e2 => ?_⟩⟩
    · refine hq1 (sk o L p, te o L (sk o L p), te o L (sk o L p)) ?_
      unfold pxM
      rw [if_pos ⟨c, c2⟩, if_pos c3]
    · rw [e2, e1]
      refine hq0 _ (1, sk o L p + 6) ?_ (cfail h).2 (cfail h).1
      unfold pxM
      rw [if_pos ⟨c, c2⟩, if_neg (by omega)]
    · rw [e2, e1]
      exact bad (fun z => c2 z.2)
theorem pxM_r {o : Int → Int} {L p e : Int} {z : Int × Int × Int} (h : pxM o L p e = .inr z) : z = (sk o L p, te o L (sk o L p), te o L (sk o L p)) ∧ kd o L e (sk o L p) = 1 ∧ te o L (sk o L p) - sk o L p ≤ 6 ∧ fstW o (sk o L p) (te o L (sk o L p)) (WL 0) 0 = -1 := by
  unfold pxM at h
  by_cases c : kd o L e (sk o L p) = 1 ∧ fstW o (sk o L p) (te o L (sk o L p)) (WL 0) 0 = -1
  · rw [if_pos c] at h
    by_cases c2 : te o L (sk o L p) - sk o L p ≤ 6
    · rw [if_pos c2] at h
      cases h
      exact ⟨rfl, c.1, c2, c.2⟩
    · rw [if_neg c2] at h
      cases h
  · rw [if_neg c] at h
    cases h
theorem cnmH {d q : Nat} {o : Int → Int} {L v p e k : Int} {σ : SG} {Q : Option AV → SG → Prop} (hq5 : q = 5 ∨ q = 16) (hy : (σ 4 1).toNat = q) (hd : 3 ≤ d) (h : CTp o L (.inr (v, p, e)) σ) (hk : 0 ≤ k ∧ k < 12) (hr : ∀ j : Nat, j < 6 → r3 (σ (q + 1) (k * 6 + (j : Int)))) (hq : Q (some (.inl (if nmH (σ (q + 1)) o (sk o L p) (te o L (sk o L p)) k = true then 1 else 0))) σ) : AW d mX5_isNameHere 0 [some (.inr (.inr 4)), some (.inl k), none] [] σ Q := by
  obtain ⟨⟨h3, h1, hL, ho⟩, ⟨h2, h2'⟩, ⟨t5, t4, t6⟩, hp⟩ := h.f
  have ht := tok (o := o) e hp.1 hp.2
  generalize hs : sk o L p = s at *
  generalize htt : te o L s = t at *
  refine rnh_0 ?_
  have key : ∀ n j : Nat, j + n = 6 → (∀ i : Nat, i < j → σ (q + 1) (k * 6 + (i : Int)) = ltH o s t (i : Int)) → AW d mX5_isNameHere 2 [some (.inr (.inr 4)), some (.inl k), some (.inl (j : Int))] [] σ Q := by
    intro n
    induction n with
    | zero =>
      intro j hj hm
      refine rnh_2 hq5 hy ⟨by omega, fun _ => ?_, fun z => by omega⟩
      rw [if_pos (show nmH (σ (q + 1)) o s t k = true from decide_eq_true (fun i hi => hm i (by omega)))] at hq
      exact hq
    | succ n ih =>
      intro j hj hm
      have hrj := hr j (by omega)
      have no : σ (q + 1) (k * 6 + (j : Int)) ≠ ltH o s t (j : Int) → Q (some (.inl 0)) σ := by
        intro z
        rw [if_neg (fun (y : nmH (σ (q + 1)) o s t k = true) => z ((of_decide_eq_true y : ∀ j : Nat, j < 6 → σ (q + 1) (k * 6 + (j : Int)) = ltH o s t (j : Int)) j (by omega)))] at hq
        exact hq
      have yes : σ (q + 1) (k * 6 + (j : Int)) = ltH o s t (j : Int) → AW d mX5_isNameHere 2 [some (.inr (.inr 4)), some (.inl k), some (.inl ((j : Int) + 1))] [] σ Q := by
        intro z
        rw [show (j : Int) + 1 = ((j + 1 : Nat) : Int) by omega]
        refine ih (j + 1) (by omega) (fun i hi => ?_)
        by_cases c : i = j
        · rw [c]
          exact z
        · exact hm i (by omega)
      refine rnh_2 hq5 hy ?_
      rw [h3, t5, t6]
      have el : ltH o s t (j : Int) = if s + (j : Int) < t then o (s + j) - 97 + 1 else 0 := rfl
      refine ⟨by omega, fun z => by omega, fun _ => ⟨by omega, by omega, by omega, by omega, fun c => ⟨by omega, fun c2 => yes ?_, fun c2 => no ?_⟩, fun c => ⟨by omega, ?_, fun c2 => yes ?_, fun c2 => no ?_⟩⟩⟩
      · rw [el, if_neg (by omega)]
        exact c2
      · rw [el, if_neg (by omega)]
        exact c2
      · have := ho (s + j) (by omega) (by omega)
        omega
      · rw [el, if_pos (by omega)]
        exact c2
      · rw [el, if_pos (by omega)]
        exact c2
  exact key 6 0 rfl (fun i hi => absurd hi (Nat.not_lt_zero i))
theorem ctwn {d q : Nat} {o : Int → Int} {L v p e : Int} {σ : SG} {Q : Option AV → SG → Prop} (hq5 : q = 5 ∨ q = 16) (hy : (σ 4 1).toNat = q) (hd : 4 ≤ d) (h : CTp o L (.inr (v, p, e)) σ) (hk : 0 ≤ σ q 0 ∧ σ q 0 ≤ 4) (hr : ∀ t, 0 ≤ t → t < σ q 0 → ∀ j : Nat, j < 6 → r3 (σ (q + 1) (t * 6 + (j : Int)))) (hq : Q (some (.inl (twN (σ (q + 1)) (σ q 0) o (sk o L p) (te o L (sk o L p))))) σ) : AW d mX5_towerNamedHere 0 [some (.inr (.inr 4)), none] [] σ Q := by
  refine rth_0 ?_
  have key := downInd (P := fun i => fstI (fun i => nmH (σ (q + 1)) o (sk o L p) (te o L (sk o L p)) i) i = -1 → AW d mX5_towerNamedHere 2 [some (.inr (.inr 4)), some (.inl i)] [] σ Q) (lo := 0) (hi := σ q 0) hk.1 ?_ ?_ rfl
  · exact key
  · intro hf
    refine rth_2 hq5 hy ⟨by omega, fun _ => ?_, fun z => by omega⟩
    unfold twN at hq
    rw [hf] at hq
    exact hq
  · intro i i0 i1 ih hf
    refine rth_2 hq5 hy ⟨by omega, fun z => by omega, fun _ => ⟨by omega, ?_⟩⟩
    refine cnmH hq5 hy (by omega) h (by omega) (hr i i0 i1) ?_
    have hs := fstI_s (fun i => nmH (σ (q + 1)) o (sk o L p) (te o L (sk o L p)) i) i0
    rw [if_pos hf] at hs
    by_cases c : nmH (σ (q + 1)) o (sk o L p) (te o L (sk o L p)) i = true
    · rw [if_pos c]
      refine rth_18 ⟨by decide, fun z => absurd z (by decide), fun _ => ?_⟩
      have := fstI_hit (fun i => nmH (σ (q + 1)) o (sk o L p) (te o L (sk o L p)) i) i0 i1 hf c
      unfold twN at hq
      rw [this] at hq
      exact hq
    · rw [if_neg c]
      rw [if_neg c] at hs
      exact rth_18 ⟨by decide, fun _ => ih hs, fun z => absurd rfl z⟩
theorem cgdn {d q : Nat} {o : Int → Int} {L v p e : Int} {σ : SG} {Q : Option AV → SG → Prop} (hq5 : q = 5 ∨ q = 16) (hy : (σ 4 1).toNat = q) (hd : 4 ≤ d) (h : CTp o L (.inr (v, p, e)) σ) (hk : 0 ≤ σ q 1 ∧ σ q 1 ≤ 8) (hr : ∀ t, 0 ≤ t → t < σ q 1 → ∀ j : Nat, j < 6 → r3 (σ (q + 1) ((4 + t) * 6 + (j : Int)))) (hq : Q (some (.inl (if gdN (σ (q + 1)) (σ q 1) o (sk o L p) (te o L (sk o L p)) = -1 then 0 else 1))) σ) : AW d mX5_guardNamedHere 0 [some (.inr (.inr 4)), none] [] σ Q := by
  refine rgh_0 ?_
  have key := downInd (P := fun i => fstI (fun i => nmH (σ (q + 1)) o (sk o L p) (te o L (sk o L p)) (4 + i)) i = -1 → AW d mX5_guardNamedHere 2 [some (.inr (.inr 4)), some (.inl i)] [] σ Q) (lo := 0) (hi := σ q 1) hk.1 ?_ ?_ rfl
  · exact key
  · intro hf
    refine rgh_2 hq5 hy ⟨by omega, fun _ => ?_, fun z => by omega⟩
    unfold gdN at hq
    rw [hf] at hq
    exact hq
  · intro i i0 i1 ih hf
    refine rgh_2 hq5 hy ⟨by omega, fun z => by omega, fun _ => ⟨by omega, ?_⟩⟩
    refine cnmH hq5 hy (by omega) h (by omega) (hr i i0 i1) ?_
    have hs := fstI_s (fun i => nmH (σ (q + 1)) o (sk o L p) (te o L (sk o L p)) (4 + i)) i0
    rw [if_pos hf] at hs
    by_cases c : nmH (σ (q + 1)) o (sk o L p) (te o L (sk o L p)) (4 + i) = true
    · rw [if_pos c]
      refine rgh_20 ⟨by decide, fun z => absurd z (by decide), fun _ => ?_⟩
      have := fstI_hit (fun i => nmH (σ (q + 1)) o (sk o L p) (te o L (sk o L p)) (4 + i)) i0 i1 hf c
      unfold gdN at hq
      rw [this, if_neg (by omega)] at hq
      exact hq
    · rw [if_neg c]
      rw [if_neg c] at hs
      exact rgh_20 ⟨by decide, fun _ => ih hs, fun z => absurd rfl z⟩
theorem cttw {d q : Nat} {o : Int → Int} {L v p e k : Int} {σ : SG} {Q : Option AV → SG → Prop} (hq5 : q = 5 ∨ q = 16) (hy : (σ 4 1).toNat = q) (hd : 9 ≤ d) (h : CTp o L (.inr (v, p, e)) σ) (hk : 0 ≤ σ q 0 ∧ σ q 0 ≤ 4) (hr : ∀ t, 0 ≤ t → t < σ q 0 → ∀ j : Nat, j < 6 → r3 (σ (q + 1) (t * 6 + (j : Int)))) (h3k : r3 k) (hq : ∀ σ', AFr σ σ' → CTp o L (pxT o L (σ (q + 1)) (σ q 0) k p e) σ' → Q (some (.inl (pxv (pxT o L (σ (q + 1)) (σ q 0) k p e)))) σ') : AW d mX5_takeTower 0 [some (.inr (.inr 4)), some (.inl k), none] [] σ Q := by
  obtain ⟨⟨h3, h1, hL, ho⟩, ⟨h2, h2'⟩, ⟨t5, t4, t6⟩, hp⟩ := h.f
  have ht := tok (o := o) e hp.1 hp.2
  refine rtt_0 ⟨by omega, ccan (by omega) h (fun σ' z hz hA hC => ?_) (fun z hz => ?_)⟩
  · have hX : pxT o L (σ (q + 1)) (σ q 0) k p e = .inl z := by unfold pxT; rw [hz]
    rw [hX] at hq
    exact rtt_4 ⟨by decide, fun z => absurd rfl z, fun _ => hq σ' hA hC⟩
  · obtain ⟨hz1, hz2, hz3, _⟩ := pxM_r hz
    have hX : pxT o L (σ (q + 1)) (σ q 0) k p e = if twN (σ (q + 1)) (σ q 0) o (sk o L p) (te o L (sk o L p)) = -1 ∨ twN (σ (q + 1)) (σ q 0) o (sk o L p) (te o L (sk o L p)) = k then .inl (3, sk o L p) else .inr (twN (σ (q + 1)) (σ q 0) o (sk o L p) (te o L (sk o L p)), te o L (sk o L p), te o L (sk o L p)) := by
      unfold pxT
      rw [hz, hz1]
    rw [hX] at hq
    refine rtt_4 ⟨by decide, fun _ => ⟨by omega, ctwn hq5 hy (by omega) h hk hr ?_⟩, fun z => absurd z (by decide)⟩
    have hb := fstI_r (fun i => nmH (σ (q + 1)) o (sk o L p) (te o L (sk o L p)) i) (σ q 0)
    have hb' : twN (σ (q + 1)) (σ q 0) o (sk o L p) (te o L (sk o L p)) = -1 ∨ (0 ≤ twN (σ (q + 1)) (σ q 0) o (sk o L p) (te o L (sk o L p)) ∧ twN (σ (q + 1)) (σ q 0) o (sk o L p) (te o L (sk o L p)) < σ q 0) := hb.elim Or.inl (fun z => Or.inr ⟨z.1, z.2.1⟩)
    clear hb
    generalize twN (σ (q + 1)) (σ q 0) o (sk o L p) (te o L (sk o L p)) = w at *
    have bad : (w = -1 ∨ w = k) → Q (some (.inl (-1))) (up (up σ 2 2 3) 2 3 (sk o L p)) := by
      intro z
      rw [if_pos z] at hq
      exact hq _ (cfail h).2 (cfail h).1
    refine rtt_13 ⟨by omega, fun c => ⟨by omega, by omega, fun z => absurd h2 z, fun _ S1 e1 S2 e2 => ?_⟩, fun c => ⟨by omega, fun c2 => ⟨by omega, ?_⟩, fun c2 => ⟨by omega, by omega, fun z => absurd h2 z, fun _ S1 e1 S2 e2 => ?_⟩⟩⟩
    · rw [e2, e1, t5]
      exact bad (Or.inl c)
    · rw [if_neg (fun z => z.elim c c2)] at hq
      refine cadv w (by omega) h (fun σ' hA hC => ?_)
      rw [if_pos (Or.inl hz2)] at hC
      exact rtt_49 (hq σ' hA hC)
    · rw [e2, e1, t5]
      exact bad (Or.inr c2)
/-- the names with one more -/
def nmW (nm : Int → Int) (o : Int → Int) (s t k : Int) : Int → Int := fun i => if k * 6 ≤ i ∧ i < k * 6 + 6 then ltH o s t (i - k * 6) else nm i
theorem ctnn {d q : Nat} {o : Int → Int} {L v p e k : Int} {σ : SG} {Q : Option AV → SG → Prop} (hq5 : q = 5 ∨ q = 16) (hy : (σ 4 1).toNat = q) (hd : 9 ≤ d) (h : CTp o L (.inr (v, p, e)) σ) (hk0 : 0 ≤ σ q 0 ∧ σ q 0 ≤ 4) (hr0 : ∀ t, 0 ≤ t → t < σ q 0 → ∀ j : Nat, j < 6 → r3 (σ (q + 1) (t * 6 + (j : Int)))) (hk1 : 0 ≤ σ q 1 ∧ σ q 1 ≤ 8) (hr1 : ∀ t, 0 ≤ t → t < σ q 1 → ∀ j : Nat, j < 6 → r3 (σ (q + 1) ((4 + t) * 6 + (j : Int)))) (hk : 0 ≤ k ∧ k < 12)
    (hq : ∀ σ', (∀ p, p ≠ 2 → p ≠ q + 1 → σ' p = σ p) → (∀ z, pxA o L (σ (q + 1)) (σ q 0) (σ q 1) p e = .inr z → σ' (q + 1) = nmW (σ (q + 1)) o z.1 z.2.1 k) → CTp o L (pxA o L (σ (q + 1)) (σ q 0) (σ q 1) p e) σ' → Q (some (.inl (px1 (pxA o L (σ (q + 1)) (σ q 0) (σ q 1) p e)))) σ') : AW d mX5_takeNewName 0 [some (.inr (.inr 4)), some (.inl k), none] [] σ Q := by
  obtain ⟨⟨h3, h1, hL, ho⟩, ⟨h2, h2'⟩, ⟨t5, t4, t6⟩, hp⟩ := h.f
  have ht := tok (o := o) e hp.1 hp.2
  refine rnn_0 ⟨by omega, ccan (by omega) h (fun σ' z hz hA hC => ?_) (fun z hz => ?_)⟩
  · have hX : pxA o L (σ (q + 1)) (σ q 0) (σ q 1) p e = .inl z := by unfold pxA; rw [hz]
    rw [hX] at hq
    exact rnn_4 ⟨by decide, fun z => absurd rfl z, fun _ => hq σ' (fun p a _ => hA p a) (fun z hz => by cases hz) hC⟩
  · obtain ⟨hz1, hz2, hz3, _⟩ := pxM_r hz
    have hX : pxA o L (σ (q + 1)) (σ q 0) (σ q 1) p e = if twN (σ (q + 1)) (σ q 0) o (sk o L p) (te o L (sk o L p)) = -1 ∧ gdN (σ (q + 1)) (σ q 1) o (sk o L p) (te o L (sk o L p)) = -1 then .inr (sk o L p, te o L (sk o L p), te o L (sk o L p)) else .inl (3, sk o L p) := by
      unfold pxA
      rw [hz, hz1]
    rw [hX] at hq
    refine rnn_4 ⟨by decide, fun _ => ⟨by omega, ctwn hq5 hy (by omega) h hk0 hr0 ?_⟩, fun z => absurd z (by decide)⟩
    have hb : -1 ≤ twN (σ (q + 1)) (σ q 0) o (sk o L p) (te o L (sk o L p)) ∧ twN (σ (q + 1)) (σ q 0) o (sk o L p) (te o L (sk o L p)) ≤ 4 := by
      rcases fstI_r (fun i => nmH (σ (q + 1)) o (sk o L p) (te o L (sk o L p)) i) (σ q 0) with z | z
      · unfold twN
        omega
      · unfold twN
        omega
    have bad : ¬ (twN (σ (q + 1)) (σ q 0) o (sk o L p) (te o L (sk o L p)) = -1 ∧ gdN (σ (q + 1)) (σ q 1) o (sk o L p) (te o L (sk o L p)) = -1) → Q (some (.inl 0)) (up (up σ 2 2 3) 2 3 (sk o L p)) := by
      intro z
      rw [if_neg z] at hq
      exact hq _ (fun p a _ => (cfail h).2 p a) (fun z hz => by cases hz) (cfail h).1
    refine rnn_13 ⟨by omega, fun c => ⟨by omega, by omega, fun z => absurd h2 z, fun _ S1 e1 S2 e2 => ?_⟩, fun c => ⟨by omega, cgdn hq5 hy (by omega) h hk1 hr1 ?_⟩⟩
    · rw [e2, e1, t5]
      exact bad (fun z => c z.1)
    · by_cases cg : gdN (σ (q + 1)) (σ q 1) o (sk o L p) (te o L (sk o L p)) = -1
      · rw [if_pos cg]
        rw [if_pos ⟨c, cg⟩] at hq
        refine rnn_21 ⟨by decide, fun _ => ?_, fun z => absurd rfl z⟩
        have hq2 : q + 1 ≠ 2 := by omega
        have hq3 : q + 1 ≠ 3 := by omega
        have hq4 : q + 1 ≠ 4 := by omega
        -- the loop over the letters
        have key := downInd (P := fun i => ∀ g, (∀ j, g j = if k * 6 ≤ j ∧ j < k * 6 + i then ltH o (sk o L p) (te o L (sk o L p)) (j - k * 6) else σ (q + 1) j) → AW d mX5_takeNewName 42 [some (.inr (.inr 4)), some (.inl k), some (.inl i)] [] (putF σ (q + 1) g) Q) (lo := 0) (hi := 6) (by decide) ?_ ?_ (σ (q + 1)) (fun j => by rw [if_neg (by omega)])
        · rw [putF_self] at key
          exact key
        · intro g hg
          have hC : CTp o L (.inr (v, p, e)) (putF σ (q + 1) g) := by
            refine CTp.mk ?_ ?_ ?_ hp
            · rw [putF_ne (Ne.symm hq3), putF_ne (Ne.symm hq2)]
              exact h.1
            · rw [putF_ne (Ne.symm hq2)]
              exact ⟨h2, h2'⟩
            · rw [putF_ne (Ne.symm hq2)]
              exact h.2.2.1
          have hy' : (putF σ (q + 1) g 4 1).toNat = q := by rw [putF_ne (Ne.symm hq4)]; exact hy
          refine rnn_42 hq5 hy' ⟨by decide, fun _ => ⟨by omega, ?_⟩, fun z => by omega⟩
          refine cadv (sk o L p) (by omega) hC (fun σ' hA hC' => ?_)
          rw [if_pos (Or.inl hz2)] at hC'
          refine rnn_83 (hq σ' (fun p a b => by rw [hA p a, putF_ne b]) (fun z hz => ?_) hC')
          rw [hA _ hq2, putF_at]
          cases hz
          funext j
          exact hg j
        · intro i i0 i1 ih g hg
          have hy' : (putF σ (q + 1) g 4 1).toNat = q := by rw [putF_ne (Ne.symm hq4)]; exact hy
          have nxt : AW d mX5_takeNewName 42 [some (.inr (.inr 4)), some (.inl k), some (.inl (i + 1))] [] (putF σ (q + 1) (fun j => if j = k * 6 + i then ltH o (sk o L p) (te o L (sk o L p)) i else g j)) Q := by
            refine ih _ (fun j => ?_)
            by_cases c1 : j = k * 6 + i
            · rw [if_pos c1, if_pos (by omega), c1, show k * 6 + i - k * 6 = i by omega]
            · rw [if_neg c1, hg j]
              by_cases c2 : k * 6 ≤ j ∧ j < k * 6 + i
              · rw [if_pos c2, if_pos (by omega)]
              · rw [if_neg c2, if_neg (by omega)]
          have el : ltH o (sk o L p) (te o L (sk o L p)) i = if sk o L p + i < te o L (sk o L p) then o (sk o L p + i) - 97 + 1 else 0 := rfl
          refine rnn_42 hq5 hy' ?_
          rw [putF_ne (Ne.symm hq2), putF_ne (Ne.symm hq3), h3, t5, t6]
          refine ⟨by omega, fun z => by omega, fun _ => ⟨by omega, by omega, fun c2 => ⟨by omega, fun S eS => ?_⟩, fun c2 => ⟨by omega, by omega, fun S eS => ?_⟩⟩⟩
          · rw [eS, putF_up]
            rw [el, if_neg (by omega)] at nxt
            exact nxt
          · rw [eS, putF_up]
            rw [el, if_pos (by omega)] at nxt
            exact nxt
      · rw [if_neg cg]
        refine rnn_21 ⟨by decide, fun z => absurd z (by decide), fun _ => ⟨by omega, by omega, fun z => absurd h2 z, fun _ S1 e1 S2 e2 => ?_⟩⟩
        rw [e2, e1, t5]
        exact bad (fun z => cg z.2)
