/-! ===== questions read by the class (wip/whole/gen9d.py) ===== -/
def sgW (σ : SG) (c : Int) : Int := if σ 2 4 = 3 ∧ σ 3 (σ 2 5) = c then 1 else 0
def sgO (σ : SG) (c : Int) : Prop := r3 (σ 2 4) ∧ r3 c ∧ (σ 2 4 = 3 → (0 ≤ σ 2 5 ∧ σ 2 5 < 1600) ∧ r3 (σ 3 (σ 2 5)))

theorem tis_0 {d : Nat} {σ : SG} {Q : Option AV → SG → Prop} {c : Int} (h : (r3 (σ 2 4)) ∧ ((σ 2 4) ≠ 3 → Q (some (.inl 0)) σ) ∧ ((σ 2 4) = 3 → (0 ≤ (σ 2 5) ∧ (σ 2 5) < 1600) ∧ (r3 (σ 3 (σ 2 5)) ∧ r3 c) ∧ ((σ 3 (σ 2 5)) ≠ c → Q (some (.inl 0)) σ) ∧ ((σ 3 (σ 2 5)) = c → Q (some (.inl 1)) σ))) : AW d mX7_isSign 0 [some (.inr (.inr 2)), some (.inl c)] [] σ Q := AW.blk kX7_isSign_0 cX7_isSign_0 (⟨⟨(h).1, (by decide)⟩, ⟨fun c2 => AW.blk kX7_isSign_25 cX7_isSign_25 (⟨(by decide), ((h).2).1 c2⟩), fun c2 => ⟨⟨((((h).2).2 c2).1).1, ((((h).2).2 c2).1).2⟩, ⟨⟨(((((h).2).2 c2).2).1).1, (((((h).2).2 c2).2).1).2⟩, ⟨fun c1 => AW.blk kX7_isSign_25 cX7_isSign_25 (⟨(by decide), (((((h).2).2 c2).2).2).1 c1⟩), fun c1 => AW.blk kX7_isSign_26 cX7_isSign_26 (⟨(by decide), (((((h).2).2 c2).2).2).2 c1⟩)⟩⟩⟩⟩⟩)
theorem tis_ok {d : Nat} {σ : SG} {Q : Option AV → SG → Prop} {c : Int} (h : (sgO σ c) ∧ Q (some (.inl (sgW σ c))) σ) : AW d mX7_isSign 0 [some (.inr (.inr 2)), some (.inl c)] [] σ Q := by
  obtain ⟨⟨h1, h2, h3⟩, hq⟩ := h
  unfold sgW at hq
  refine tis_0 ⟨h1, fun c1 => ?_, fun c1 => ⟨(h3 c1).1, ⟨(h3 c1).2, h2⟩, fun c2 => ?_, fun c2 => ?_⟩⟩
  · rwa [if_neg (fun z => c1 z.1)] at hq
  · rwa [if_neg (fun z => c2 z.2)] at hq
  · rwa [if_pos ⟨c1, c2⟩] at hq

def kX3_openOne_25 : List BI := [bi (.aload_n 0) 1 [] 0, bi (.dup) 1 [] 0, bi (.getfield 25) 3 [3, 5] 0, bi (.iconst 1) 1 [] 0, bi (.iadd) 1 [] 0, bi (.putfield 25) 3 [3, 5] 0, bi (.aload_n 0) 1 [] 0, bi (.getfield 40) 3 [3, 0] 0, bi (.invokevirtual 59) 3 [mX7_advance, 1, 3, 7] 0]
theorem cX3_openOne_25 : chk mX3_openOne 25 kX3_openOne_25 = true := by decide +kernel
def kX3_openOne_0 : List BI := [bi (.aload_n 0) 1 [] 0, bi (.getfield 25) 3 [3, 5] 0, bi (.bipush (6)) 2 [] 0, bi (.if_icmp .lt (19)) 3 [25] 0, bi (.aload_n 0) 1 [] 0, bi (.getfield 40) 3 [3, 0] 0, bi (.iconst 4) 1 [] 0, bi (.aload_n 0) 1 [] 0, bi (.getfield 40) 3 [3, 0] 0, bi (.getfield 75) 3 [7, 5] 0, bi (.invokevirtual 78) 3 [mX7_fail, 3, 3, 7] 0, bi (.ireturn) 1 [1] 0]
theorem cX3_openOne_0 : chk mX3_openOne 0 kX3_openOne_0 = true := by decide +kernel
theorem qO_0 {d : Nat} {σ : SG} {Q : Option AV → SG → Prop} (h : (r3 (σ 27 5)) ∧ ((σ 27 5) < 6 → (∀ S3 : SG, S3 = up σ 27 5 ((σ 27 5) + 1) → (0 < d) ∧ AW (d - 1) mX7_advance 0 [some (.inr (.inr 2)), none, none] [] S3 (fun rr σ' => AW d mX3_openOne 42 [some (.inr (.inr 27))] (rtS rr []) σ' Q))) ∧ (6 ≤ (σ 27 5) → (0 < d) ∧ (r3 (σ 2 2)) ∧ ((σ 2 2) ≠ 0 → Q (some (.inl 0)) σ) ∧ ((σ 2 2) = 0 → (∀ S4 : SG, S4 = up σ 2 2 4 → (∀ S5 : SG, S5 = up S4 2 3 (σ 2 5) → Q (some (.inl 0)) S5))))) : AW d mX3_openOne 0 [some (.inr (.inr 27))] [] σ Q := AW.blk kX3_openOne_0 cX3_openOne_0 (⟨⟨(h).1, (by decide)⟩, ⟨fun c7 => AW.blk kX3_openOne_25 cX3_openOne_25 (⟨((((h).2).1 c7) _ rfl).1, ((((h).2).1 c7) _ rfl).2⟩), fun c7 => ⟨(((h).2).2 c7).1, AW.blk kX7_fail_0 cX7_fail_0 (⟨((((h).2).2 c7).2).1, ⟨fun c6 => AW.blk kX7_fail_17 cX7_fail_17 (⟨(by decide), ⟨(by decide), (((((h).2).2 c7).2).2).1 c6⟩⟩), fun c6 => ⟨(by decide), ⟨(by decide), (((((((h).2).2 c7).2).2).2 c6) _ rfl) _ rfl⟩⟩⟩⟩)⟩⟩⟩)
def kX3_openOne_42 : List BI := [bi (.iconst 1) 1 [] 0, bi (.ireturn) 1 [1] 0]
theorem cX3_openOne_42 : chk mX3_openOne 42 kX3_openOne_42 = true := by decide +kernel
theorem qO_42 {d : Nat} {σ : SG} {Q : Option AV → SG → Prop} (h : Q (some (.inl 1)) σ) : AW d mX3_openOne 42 [some (.inr (.inr 27))] [] σ Q := AW.blk kX3_openOne_42 cX3_openOne_42 (⟨(by decide), h⟩)
def kX3_closeWith_0 : List BI := [bi (.aload_n 0) 1 [] 0, bi (.dup) 1 [] 0, bi (.getfield 25) 3 [3, 5] 0, bi (.iconst 1) 1 [] 0, bi (.isub) 1 [] 0, bi (.putfield 25) 3 [3, 5] 0, bi (.aload_n 0) 1 [] 0, bi (.getfield 40) 3 [3, 0] 0, bi (.iload_n 1) 1 [] 0, bi (.invokevirtual 82) 3 [mX7_takeSign, 2, 2, 7] 0]
theorem cX3_closeWith_0 : chk mX3_closeWith 0 kX3_closeWith_0 = true := by decide +kernel
theorem qC_0 {d : Nat} {σ : SG} {Q : Option AV → SG → Prop} {c : Int} (h : (∀ S8 : SG, S8 = up σ 27 5 ((σ 27 5) - 1) → (0 < d) ∧ AW (d - 1) mX7_takeSign 0 [some (.inr (.inr 2)), some (.inl c)] [] S8 (fun rr σ' => AW d mX3_closeWith 18 [some (.inr (.inr 27)), some (.inl c)] (rtS rr []) σ' Q))) : AW d mX3_closeWith 0 [some (.inr (.inr 27)), some (.inl c)] [] σ Q := AW.blk kX3_closeWith_0 cX3_closeWith_0 (⟨((h) _ rfl).1, ((h) _ rfl).2⟩)
def kX3_closeWith_18 : List BI := [bi (.ireturn) 1 [1] 0]
theorem cX3_closeWith_18 : chk mX3_closeWith 18 kX3_closeWith_18 = true := by decide +kernel
theorem qC_18 {d : Nat} {σ : SG} {Q : Option AV → SG → Prop} {c s0 : Int} (h : ((s0 = 0 ∨ s0 = 1)) ∧ Q (some (.inl s0)) σ) : AW d mX3_closeWith 18 [some (.inr (.inr 27)), some (.inl c)] [.inl s0] σ Q := AW.blk kX3_closeWith_18 cX3_closeWith_18 (⟨(h).1, (h).2⟩)
def kX3_readNumber_0 : List BI := [bi (.aload_n 0) 1 [] 0, bi (.getfield 40) 3 [3, 0] 0, bi (.invokevirtual 129) 3 [mX7_numberHere, 1, 3, 7] 0]
theorem cX3_readNumber_0 : chk mX3_readNumber 0 kX3_readNumber_0 = true := by decide +kernel
theorem qN_0 {d : Nat} {σ : SG} {Q : Option AV → SG → Prop} (h : (0 < d) ∧ AW (d - 1) mX7_numberHere 0 [some (.inr (.inr 2)), none, none] [] σ (fun rr σ' => AW d mX3_readNumber 7 [some (.inr (.inr 27)), none] (rtS rr []) σ' Q)) : AW d mX3_readNumber 0 [some (.inr (.inr 27)), none] [] σ Q := AW.blk kX3_readNumber_0 cX3_readNumber_0 (⟨(h).1, (h).2⟩)
def kX3_readNumber_15 : List BI := [bi (.aload_n 0) 1 [] 0, bi (.getfield 40) 3 [3, 0] 0, bi (.invokevirtual 59) 3 [mX7_advance, 1, 3, 7] 0]
theorem cX3_readNumber_15 : chk mX3_readNumber 15 kX3_readNumber_15 = true := by decide +kernel
def kX3_readNumber_7 : List BI := [bi (.istore_n 1) 1 [] 0, bi (.iload_n 1) 1 [] 0, bi (.iconst (-1)) 1 [] 0, bi (.if_icmp .ne (5)) 3 [15] 0, bi (.iconst 0) 1 [] 0, bi (.ireturn) 1 [1] 0]
theorem cX3_readNumber_7 : chk mX3_readNumber 7 kX3_readNumber_7 = true := by decide +kernel
theorem qN_7 {d : Nat} {σ : SG} {Q : Option AV → SG → Prop} {s0 : Int} (h : (r3 s0) ∧ (s0 ≠ (-1) → (0 < d) ∧ AW (d - 1) mX7_advance 0 [some (.inr (.inr 2)), none, none] [] σ (fun rr σ' => AW d mX3_readNumber 22 [some (.inr (.inr 27)), some (.inl s0)] (rtS rr []) σ' Q)) ∧ (s0 = (-1) → Q (some (.inl 0)) σ)) : AW d mX3_readNumber 7 [some (.inr (.inr 27)), none] [.inl s0] σ Q := AW.blk kX3_readNumber_7 cX3_readNumber_7 (⟨⟨(h).1, (by decide)⟩, ⟨fun c9 => AW.blk kX3_readNumber_15 cX3_readNumber_15 (⟨(((h).2).1 c9).1, (((h).2).1 c9).2⟩), fun c9 => ⟨(by decide), ((h).2).2 c9⟩⟩⟩)
def kX3_write_32 : List BI := [bi (.iconst 1) 1 [] 0, bi (.ireturn) 1 [1] 0]
theorem cX3_write_32 : chk mX3_write 32 kX3_write_32 = true := by decide +kernel
def kX3_write_0 : List BI := [bi (.aload_n 0) 1 [] 0, bi (.getfield 18) 3 [3, 3] 0, bi (.aload_n 0) 1 [] 0, bi (.getfield 9) 3 [3, 1] 0, bi (.arraylength) 1 [] 0, bi (.if_icmp .ge (23)) 3 [32] 0, bi (.aload_n 0) 1 [] 0, bi (.getfield 9) 3 [3, 1] 0, bi (.aload_n 0) 1 [] 0, bi (.getfield 18) 3 [3, 3] 0, bi (.iload_n 1) 1 [] 0, bi (.iastore) 1 [] 0, bi (.aload_n 0) 1 [] 0, bi (.dup) 1 [] 0, bi (.getfield 18) 3 [3, 3] 0, bi (.iconst 1) 1 [] 0, bi (.iadd) 1 [] 0, bi (.putfield 18) 3 [3, 3] 0, bi (.iconst 1) 1 [] 0, bi (.ireturn) 1 [1] 0]
theorem cX3_write_0 : chk mX3_write 0 kX3_write_0 = true := by decide +kernel
def kX3_readNumber_22 : List BI := [bi (.aload_n 0) 1 [] 0, bi (.iload_n 1) 1 [] 0, bi (.invokevirtual 71) 3 [mX3_write, 2, 2, 3] 0, bi (.ireturn) 1 [1] 0]
theorem cX3_readNumber_22 : chk mX3_readNumber 22 kX3_readNumber_22 = true := by decide +kernel
theorem qN_22 {d : Nat} {σ : SG} {Q : Option AV → SG → Prop} {l1 : Int} (h : (0 < d) ∧ (r3 (σ 27 3)) ∧ (1600 ≤ (σ 27 3) → Q (some (.inl 1)) σ) ∧ ((σ 27 3) < 1600 → (0 ≤ (σ 27 3) ∧ (σ 27 3) < 1600) ∧ (∀ S10 : SG, S10 = up σ 28 (σ 27 3) l1 → (∀ S11 : SG, S11 = up S10 27 3 ((S10 27 3) + 1) → Q (some (.inl 1)) S11)))) : AW d mX3_readNumber 22 [some (.inr (.inr 27)), some (.inl l1)] [] σ Q := AW.blk kX3_readNumber_22 cX3_readNumber_22 (⟨(h).1, AW.blk kX3_write_0 cX3_write_0 (⟨⟨((h).2).1, (by decide)⟩, ⟨fun c12 => AW.blk kX3_write_32 cX3_write_32 (⟨(by decide), ⟨(by decide), (((h).2).2).1 c12⟩⟩), fun c12 => ⟨⟨(((((h).2).2).2 c12).1).1, (((((h).2).2).2 c12).1).2⟩, ⟨(by decide), ⟨(by decide), ((((((h).2).2).2 c12).2) _ rfl) _ rfl⟩⟩⟩⟩⟩)⟩)
def kX3_readPart_57 : List BI := [bi (.aload_n 0) 1 [] 0, bi (.getfield 40) 3 [3, 0] 0, bi (.ldc 124) 2 [4] 0, bi (.invokevirtual 51) 3 [mX7_wordAmong, 2, 6, 7] 0]
theorem cX3_readPart_57 : chk mX3_readPart 57 kX3_readPart_57 = true := by decide +kernel
def kX3_readPart_16 : List BI := [bi (.aload_n 0) 1 [] 0, bi (.getfield 40) 3 [3, 0] 0, bi (.bipush (40)) 2 [] 0, bi (.invokevirtual 106) 3 [mX7_isSign, 2, 2, 7] 0, bi (.ifCond .eq (32)) 3 [57] 0, bi (.aload_n 0) 1 [] 0, bi (.invokevirtual 103) 3 [mX3_openOne, 1, 1, 3] 0]
theorem cX3_readPart_16 : chk mX3_readPart 16 kX3_readPart_16 = true := by decide +kernel
def kX3_readPart_0 : List BI := [bi (.aload_n 0) 1 [] 0, bi (.getfield 40) 3 [3, 0] 0, bi (.getfield 68) 3 [7, 4] 0, bi (.iconst 2) 1 [] 0, bi (.if_icmp .ne (8)) 3 [16] 0, bi (.aload_n 0) 1 [] 0, bi (.invokevirtual 121) 3 [mX3_readNumber, 1, 2, 3] 0]
theorem cX3_readPart_0 : chk mX3_readPart 0 kX3_readPart_0 = true := by decide +kernel
theorem qP_0 {d : Nat} {σ : SG} {Q : Option AV → SG → Prop} (h : (r3 (σ 2 4)) ∧ ((σ 2 4) ≠ 2 → (0 < d) ∧ (sgO σ 40) ∧ (r3 (sgW σ 40)) ∧ ((sgW σ 40) = 0 → (0 < d) ∧ AW (d - 1) mX7_wordAmong 0 [some (.inr (.inr 2)), some (.inr (.inr 1004)), none, none, none, none] [] σ (fun rr σ' => AW d mX3_readPart 66 [some (.inr (.inr 27)), none] (rtS rr []) σ' Q)) ∧ ((sgW σ 40) ≠ 0 → (0 < d) ∧ AW (d - 1) mX3_openOne 0 [some (.inr (.inr 27))] [] σ (fun rr σ' => AW d mX3_readPart 32 [some (.inr (.inr 27)), none] (rtS rr []) σ' Q))) ∧ ((σ 2 4) = 2 → (0 < d) ∧ AW (d - 1) mX3_readNumber 0 [some (.inr (.inr 27)), none] [] σ (fun rr σ' => AW d mX3_readPart 15 [some (.inr (.inr 27)), none] (rtS rr []) σ' Q))) : AW d mX3_readPart 0 [some (.inr (.inr 27)), none] [] σ Q := AW.blk kX3_readPart_0 cX3_readPart_0 (⟨⟨(h).1, (by decide)⟩, ⟨fun c14 => AW.blk kX3_readPart_16 cX3_readPart_16 (⟨(((h).2).1 c14).1, tis_ok ⟨((((h).2).1 c14).2).1, ⟨(((((h).2).1 c14).2).2).1, ⟨fun c13 => AW.blk kX3_readPart_57 cX3_readPart_57 (⟨(((((((h).2).1 c14).2).2).2).1 c13).1, (((((((h).2).1 c14).2).2).2).1 c13).2⟩), fun c13 => ⟨(((((((h).2).1 c14).2).2).2).2 c13).1, (((((((h).2).1 c14).2).2).2).2 c13).2⟩⟩⟩⟩⟩), fun c14 => ⟨(((h).2).2 c14).1, (((h).2).2 c14).2⟩⟩⟩)
def kX3_readPart_136 : List BI := [bi (.aload_n 0) 1 [] 0, bi (.getfield 40) 3 [3, 0] 0, bi (.invokevirtual 59) 3 [mX7_advance, 1, 3, 7] 0]
theorem cX3_readPart_136 : chk mX3_readPart 136 kX3_readPart_136 = true := by decide +kernel
def kX3_readPart_98 : List BI := [bi (.iload_n 1) 1 [] 0, bi (.bipush (7)) 2 [] 0, bi (.if_icmp .gt (35)) 3 [136] 0, bi (.aload_n 0) 1 [] 0, bi (.invokevirtual 103) 3 [mX3_openOne, 1, 1, 3] 0]
theorem cX3_readPart_98 : chk mX3_readPart 98 kX3_readPart_98 = true := by decide +kernel
def kX3_readPart_80 : List BI := [bi (.iload_n 1) 1 [] 0, bi (.iconst 4) 1 [] 0, bi (.if_icmp .gt (16)) 3 [98] 0, bi (.aload_n 0) 1 [] 0, bi (.getfield 40) 3 [3, 0] 0, bi (.invokevirtual 59) 3 [mX7_advance, 1, 3, 7] 0]
theorem cX3_readPart_80 : chk mX3_readPart 80 kX3_readPart_80 = true := by decide +kernel
def kX3_readPart_66 : List BI := [bi (.istore_n 1) 1 [] 0, bi (.iload_n 1) 1 [] 0, bi (.iconst (-1)) 1 [] 0, bi (.if_icmp .ne (11)) 3 [80] 0, bi (.aload_n 0) 1 [] 0, bi (.getfield 40) 3 [3, 0] 0, bi (.invokevirtual 55) 3 [mX7_failHere, 1, 1, 7] 0, bi (.ireturn) 1 [1] 0]
theorem cX3_readPart_66 : chk mX3_readPart 66 kX3_readPart_66 = true := by decide +kernel
theorem qP_66 {d : Nat} {σ : SG} {Q : Option AV → SG → Prop} {s0 : Int} (h : (r3 s0) ∧ (s0 ≠ (-1) → (r3 s0) ∧ (4 < s0 → (r3 s0) ∧ (7 < s0 → (0 < d) ∧ AW (d - 1) mX7_advance 0 [some (.inr (.inr 2)), none, none] [] σ (fun rr σ' => AW d mX3_readPart 143 [some (.inr (.inr 27)), some (.inl s0)] (rtS rr []) σ' Q)) ∧ (s0 ≤ 7 → (0 < d) ∧ AW (d - 1) mX3_openOne 0 [some (.inr (.inr 27))] [] σ (fun rr σ' => AW d mX3_readPart 108 [some (.inr (.inr 27)), some (.inl s0)] (rtS rr []) σ' Q))) ∧ (s0 ≤ 4 → (0 < d) ∧ AW (d - 1) mX7_advance 0 [some (.inr (.inr 2)), none, none] [] σ (fun rr σ' => AW d mX3_readPart 92 [some (.inr (.inr 27)), some (.inl s0)] (rtS rr []) σ' Q))) ∧ (s0 = (-1) → (0 < d) ∧ (0 < d - 1) ∧ (r3 (σ 2 2)) ∧ ((σ 2 2) ≠ 0 → Q (some (.inl 0)) σ) ∧ ((σ 2 2) = 0 → (∀ S17 : SG, S17 = up σ 2 2 1 → (∀ S18 : SG, S18 = up S17 2 3 (σ 2 5) → Q (some (.inl 0)) S18))))) : AW d mX3_readPart 66 [some (.inr (.inr 27)), none] [.inl s0] σ Q := AW.blk kX3_readPart_66 cX3_readPart_66 (⟨⟨(h).1, (by decide)⟩, ⟨fun c20 => AW.blk kX3_readPart_80 cX3_readPart_80 (⟨⟨(((h).2).1 c20).1, (by decide)⟩, ⟨fun c16 => AW.blk kX3_readPart_98 cX3_readPart_98 (⟨⟨(((((h).2).1 c20).2).1 c16).1, (by decide)⟩, ⟨fun c15 => AW.blk kX3_readPart_136 cX3_readPart_136 (⟨(((((((h).2).1 c20).2).1 c16).2).1 c15).1, (((((((h).2).1 c20).2).1 c16).2).1 c15).2⟩), fun c15 => ⟨(((((((h).2).1 c20).2).1 c16).2).2 c15).1, (((((((h).2).1 c20).2).1 c16).2).2 c15).2⟩⟩⟩), fun c16 => ⟨(((((h).2).1 c20).2).2 c16).1, (((((h).2).1 c20).2).2 c16).2⟩⟩⟩), fun c20 => ⟨(((h).2).2 c20).1, AW.blk kX7_failHere_0 cX7_failHere_0 (⟨((((h).2).2 c20).2).1, AW.blk kX7_fail_0 cX7_fail_0 (⟨(((((h).2).2 c20).2).2).1, ⟨fun c19 => AW.blk kX7_fail_17 cX7_fail_17 (⟨(by decide), ⟨(by decide), ⟨(by decide), ((((((h).2).2 c20).2).2).2).1 c19⟩⟩⟩), fun c19 => ⟨(by decide), ⟨(by decide), ⟨(by decide), ((((((((h).2).2 c20).2).2).2).2 c19) _ rfl) _ rfl⟩⟩⟩⟩⟩)⟩)⟩⟩⟩)
def kX3_readPart_55 : List BI := [bi (.iconst 0) 1 [] 0, bi (.ireturn) 1 [1] 0]
theorem cX3_readPart_55 : chk mX3_readPart 55 kX3_readPart_55 = true := by decide +kernel
def kX3_readPart_32 : List BI := [bi (.ifCond .eq (23)) 3 [55] 0, bi (.aload_n 0) 1 [] 0, bi (.invokevirtual 65) 3 [mX3_readSum, 1, 3, 3] 0]
theorem cX3_readPart_32 : chk mX3_readPart 32 kX3_readPart_32 = true := by decide +kernel
theorem qP_32 {d : Nat} {σ : SG} {Q : Option AV → SG → Prop} {s0 : Int} (h : (r3 s0) ∧ (s0 = 0 → Q (some (.inl 0)) σ) ∧ (s0 ≠ 0 → (0 < d) ∧ AW (d - 1) mX3_readSum 0 [some (.inr (.inr 27)), none, none] [] σ (fun rr σ' => AW d mX3_readPart 39 [some (.inr (.inr 27)), none] (rtS rr []) σ' Q))) : AW d mX3_readPart 32 [some (.inr (.inr 27)), none] [.inl s0] σ Q := AW.blk kX3_readPart_32 cX3_readPart_32 (⟨(h).1, ⟨fun c21 => AW.blk kX3_readPart_55 cX3_readPart_55 (⟨(by decide), ((h).2).1 c21⟩), fun c21 => ⟨(((h).2).2 c21).1, (((h).2).2 c21).2⟩⟩⟩)
def kX3_readPart_15 : List BI := [bi (.ireturn) 1 [1] 0]
theorem cX3_readPart_15 : chk mX3_readPart 15 kX3_readPart_15 = true := by decide +kernel
theorem qP_15 {d : Nat} {σ : SG} {Q : Option AV → SG → Prop} {s0 : Int} (h : ((s0 = 0 ∨ s0 = 1)) ∧ Q (some (.inl s0)) σ) : AW d mX3_readPart 15 [some (.inr (.inr 27)), none] [.inl s0] σ Q := AW.blk kX3_readPart_15 cX3_readPart_15 (⟨(h).1, (h).2⟩)
def kX3_readPart_143 : List BI := [bi (.aload_n 0) 1 [] 0, bi (.invokevirtual 126) 3 [mX3_readPair, 1, 1, 3] 0]
theorem cX3_readPart_143 : chk mX3_readPart 143 kX3_readPart_143 = true := by decide +kernel
theorem qP_143 {d : Nat} {σ : SG} {Q : Option AV → SG → Prop} {l1 : Int} (h : (0 < d) ∧ AW (d - 1) mX3_readPair 0 [some (.inr (.inr 27))] [] σ (fun rr σ' => AW d mX3_readPart 147 [some (.inr (.inr 27)), some (.inl l1)] (rtS rr []) σ' Q)) : AW d mX3_readPart 143 [some (.inr (.inr 27)), some (.inl l1)] [] σ Q := AW.blk kX3_readPart_143 cX3_readPart_143 (⟨(h).1, (h).2⟩)
def kX3_readPart_118 : List BI := [bi (.iconst 0) 1 [] 0, bi (.ireturn) 1 [1] 0]
theorem cX3_readPart_118 : chk mX3_readPart 118 kX3_readPart_118 = true := by decide +kernel
def kX3_readPart_108 : List BI := [bi (.ifCond .eq (10)) 3 [118] 0, bi (.aload_n 0) 1 [] 0, bi (.invokevirtual 118) 3 [mX3_readPart, 1, 2, 3] 0]
theorem cX3_readPart_108 : chk mX3_readPart 108 kX3_readPart_108 = true := by decide +kernel
theorem qP_108 {d : Nat} {σ : SG} {Q : Option AV → SG → Prop} {l1 s0 : Int} (h : (r3 s0) ∧ (s0 = 0 → Q (some (.inl 0)) σ) ∧ (s0 ≠ 0 → (0 < d) ∧ AW (d - 1) mX3_readPart 0 [some (.inr (.inr 27)), none] [] σ (fun rr σ' => AW d mX3_readPart 115 [some (.inr (.inr 27)), some (.inl l1)] (rtS rr []) σ' Q))) : AW d mX3_readPart 108 [some (.inr (.inr 27)), some (.inl l1)] [.inl s0] σ Q := AW.blk kX3_readPart_108 cX3_readPart_108 (⟨(h).1, ⟨fun c22 => AW.blk kX3_readPart_118 cX3_readPart_118 (⟨(by decide), ((h).2).1 c22⟩), fun c22 => ⟨(((h).2).2 c22).1, (((h).2).2 c22).2⟩⟩⟩)
def kX3_writeSign_0 : List BI := [bi (.aload_n 0) 1 [] 0, bi (.iconst (-1)) 1 [] 0, bi (.iload_n 1) 1 [] 0, bi (.isub) 1 [] 0, bi (.invokevirtual 71) 3 [mX3_write, 2, 2, 3] 0, bi (.ireturn) 1 [1] 0]
theorem cX3_writeSign_0 : chk mX3_writeSign 0 kX3_writeSign_0 = true := by decide +kernel
def kX3_readPart_92 : List BI := [bi (.aload_n 0) 1 [] 0, bi (.iload_n 1) 1 [] 0, bi (.invokevirtual 91) 3 [mX3_writeSign, 2, 2, 3] 0, bi (.ireturn) 1 [1] 0]
theorem cX3_readPart_92 : chk mX3_readPart 92 kX3_readPart_92 = true := by decide +kernel
theorem qP_92 {d : Nat} {σ : SG} {Q : Option AV → SG → Prop} {l1 : Int} (h : (0 < d) ∧ (0 < d - 1) ∧ (r3 (σ 27 3)) ∧ (1600 ≤ (σ 27 3) → Q (some (.inl 1)) σ) ∧ ((σ 27 3) < 1600 → (0 ≤ (σ 27 3) ∧ (σ 27 3) < 1600) ∧ (∀ S23 : SG, S23 = up σ 28 (σ 27 3) ((-1) - l1) → (∀ S24 : SG, S24 = up S23 27 3 ((S23 27 3) + 1) → Q (some (.inl 1)) S24)))) : AW d mX3_readPart 92 [some (.inr (.inr 27)), some (.inl l1)] [] σ Q := AW.blk kX3_readPart_92 cX3_readPart_92 (⟨(h).1, AW.blk kX3_writeSign_0 cX3_writeSign_0 (⟨((h).2).1, AW.blk kX3_write_0 cX3_write_0 (⟨⟨(((h).2).2).1, (by decide)⟩, ⟨fun c25 => AW.blk kX3_write_32 cX3_write_32 (⟨(by decide), ⟨(by decide), ⟨(by decide), ((((h).2).2).2).1 c25⟩⟩⟩), fun c25 => ⟨⟨((((((h).2).2).2).2 c25).1).1, ((((((h).2).2).2).2 c25).1).2⟩, ⟨(by decide), ⟨(by decide), ⟨(by decide), (((((((h).2).2).2).2 c25).2) _ rfl) _ rfl⟩⟩⟩⟩⟩⟩)⟩)⟩)
def kX3_readPart_39 : List BI := [bi (.ifCond .eq (16)) 3 [55] 0, bi (.aload_n 0) 1 [] 0, bi (.bipush (41)) 2 [] 0, bi (.invokevirtual 109) 3 [mX3_closeWith, 2, 2, 3] 0]
theorem cX3_readPart_39 : chk mX3_readPart 39 kX3_readPart_39 = true := by decide +kernel
theorem qP_39 {d : Nat} {σ : SG} {Q : Option AV → SG → Prop} {s0 : Int} (h : (r3 s0) ∧ (s0 = 0 → Q (some (.inl 0)) σ) ∧ (s0 ≠ 0 → (0 < d) ∧ AW (d - 1) mX3_closeWith 0 [some (.inr (.inr 27)), some (.inl 41)] [] σ (fun rr σ' => AW d mX3_readPart 48 [some (.inr (.inr 27)), none] (rtS rr []) σ' Q))) : AW d mX3_readPart 39 [some (.inr (.inr 27)), none] [.inl s0] σ Q := AW.blk kX3_readPart_39 cX3_readPart_39 (⟨(h).1, ⟨fun c26 => AW.blk kX3_readPart_55 cX3_readPart_55 (⟨(by decide), ((h).2).1 c26⟩), fun c26 => ⟨(((h).2).2 c26).1, (((h).2).2 c26).2⟩⟩⟩)
def kX3_readPart_162 : List BI := [bi (.iconst 0) 1 [] 0, bi (.ireturn) 1 [1] 0]
theorem cX3_readPart_162 : chk mX3_readPart 162 kX3_readPart_162 = true := by decide +kernel
def kX3_readPart_163 : List BI := [bi (.ireturn) 1 [1] 0]
theorem cX3_readPart_163 : chk mX3_readPart 163 kX3_readPart_163 = true := by decide +kernel
def kX3_readPart_147 : List BI := [bi (.ifCond .eq (15)) 3 [162] 0, bi (.aload_n 0) 1 [] 0, bi (.iload_n 1) 1 [] 0, bi (.invokevirtual 91) 3 [mX3_writeSign, 2, 2, 3] 0, bi (.ifCond .eq (7)) 3 [162] 0, bi (.iconst 1) 1 [] 0, bi (.goto (4)) 3 [163] 0]
theorem cX3_readPart_147 : chk mX3_readPart 147 kX3_readPart_147 = true := by decide +kernel
theorem qP_147 {d : Nat} {σ : SG} {Q : Option AV → SG → Prop} {l1 s0 : Int} (h : (r3 s0) ∧ (s0 = 0 → Q (some (.inl 0)) σ) ∧ (s0 ≠ 0 → (0 < d) ∧ (0 < d - 1) ∧ (r3 (σ 27 3)) ∧ (1600 ≤ (σ 27 3) → Q (some (.inl 1)) σ) ∧ ((σ 27 3) < 1600 → (0 ≤ (σ 27 3) ∧ (σ 27 3) < 1600) ∧ (∀ S27 : SG, S27 = up σ 28 (σ 27 3) ((-1) - l1) → (∀ S28 : SG, S28 = up S27 27 3 ((S27 27 3) + 1) → Q (some (.inl 1)) S28))))) : AW d mX3_readPart 147 [some (.inr (.inr 27)), some (.inl l1)] [.inl s0] σ Q := AW.blk kX3_readPart_147 cX3_readPart_147 (⟨(h).1, ⟨fun c30 => AW.blk kX3_readPart_162 cX3_readPart_162 (⟨(by decide), ((h).2).1 c30⟩), fun c30 => ⟨(((h).2).2 c30).1, AW.blk kX3_writeSign_0 cX3_writeSign_0 (⟨((((h).2).2 c30).2).1, AW.blk kX3_write_0 cX3_write_0 (⟨⟨(((((h).2).2 c30).2).2).1, (by decide)⟩, ⟨fun c29 => AW.blk kX3_write_32 cX3_write_32 (⟨(by decide), ⟨(by decide), ⟨(by decide), ⟨fun c => absurd c (by decide), fun _ => AW.blk kX3_readPart_163 cX3_readPart_163 (⟨(by decide), ((((((h).2).2 c30).2).2).2).1 c29⟩)⟩⟩⟩⟩), fun c29 => ⟨⟨((((((((h).2).2 c30).2).2).2).2 c29).1).1, ((((((((h).2).2 c30).2).2).2).2 c29).1).2⟩, ⟨(by decide), ⟨(by decide), ⟨(by decide), ⟨fun c => absurd c (by decide), fun _ => AW.blk kX3_readPart_163 cX3_readPart_163 (⟨(by decide), (((((((((h).2).2 c30).2).2).2).2 c29).2) _ rfl) _ rfl⟩)⟩⟩⟩⟩⟩⟩⟩)⟩)⟩⟩⟩)
def kX3_readPart_120 : List BI := [bi (.aload_n 0) 1 [] 0, bi (.dup) 1 [] 0, bi (.getfield 25) 3 [3, 5] 0, bi (.iconst 1) 1 [] 0, bi (.isub) 1 [] 0, bi (.putfield 25) 3 [3, 5] 0, bi (.aload_n 0) 1 [] 0, bi (.iload_n 1) 1 [] 0, bi (.invokevirtual 91) 3 [mX3_writeSign, 2, 2, 3] 0, bi (.ireturn) 1 [1] 0]
theorem cX3_readPart_120 : chk mX3_readPart 120 kX3_readPart_120 = true := by decide +kernel
def kX3_readPart_115 : List BI := [bi (.ifCond .ne (5)) 3 [120] 0, bi (.iconst 0) 1 [] 0, bi (.ireturn) 1 [1] 0]
theorem cX3_readPart_115 : chk mX3_readPart 115 kX3_readPart_115 = true := by decide +kernel
theorem qP_115 {d : Nat} {σ : SG} {Q : Option AV → SG → Prop} {l1 s0 : Int} (h : (r3 s0) ∧ (s0 ≠ 0 → (∀ S31 : SG, S31 = up σ 27 5 ((σ 27 5) - 1) → (0 < d) ∧ (0 < d - 1) ∧ (r3 (S31 27 3)) ∧ (1600 ≤ (S31 27 3) → Q (some (.inl 1)) S31) ∧ ((S31 27 3) < 1600 → (0 ≤ (S31 27 3) ∧ (S31 27 3) < 1600) ∧ (∀ S32 : SG, S32 = up S31 28 (S31 27 3) ((-1) - l1) → (∀ S33 : SG, S33 = up S32 27 3 ((S32 27 3) + 1) → Q (some (.inl 1)) S33))))) ∧ (s0 = 0 → Q (some (.inl 0)) σ)) : AW d mX3_readPart 115 [some (.inr (.inr 27)), some (.inl l1)] [.inl s0] σ Q := AW.blk kX3_readPart_115 cX3_readPart_115 (⟨(h).1, ⟨fun c35 => AW.blk kX3_readPart_120 cX3_readPart_120 (⟨((((h).2).1 c35) _ rfl).1, AW.blk kX3_writeSign_0 cX3_writeSign_0 (⟨(((((h).2).1 c35) _ rfl).2).1, AW.blk kX3_write_0 cX3_write_0 (⟨⟨((((((h).2).1 c35) _ rfl).2).2).1, (by decide)⟩, ⟨fun c34 => AW.blk kX3_write_32 cX3_write_32 (⟨(by decide), ⟨(by decide), ⟨(by decide), (((((((h).2).1 c35) _ rfl).2).2).2).1 c34⟩⟩⟩), fun c34 => ⟨⟨(((((((((h).2).1 c35) _ rfl).2).2).2).2 c34).1).1, (((((((((h).2).1 c35) _ rfl).2).2).2).2 c34).1).2⟩, ⟨(by decide), ⟨(by decide), ⟨(by decide), ((((((((((h).2).1 c35) _ rfl).2).2).2).2 c34).2) _ rfl) _ rfl⟩⟩⟩⟩⟩⟩)⟩)⟩), fun c35 => ⟨(by decide), ((h).2).2 c35⟩⟩⟩)
def kX3_readPart_56 : List BI := [bi (.ireturn) 1 [1] 0]
theorem cX3_readPart_56 : chk mX3_readPart 56 kX3_readPart_56 = true := by decide +kernel
def kX3_readPart_48 : List BI := [bi (.ifCond .eq (7)) 3 [55] 0, bi (.iconst 1) 1 [] 0, bi (.goto (4)) 3 [56] 0]
theorem cX3_readPart_48 : chk mX3_readPart 48 kX3_readPart_48 = true := by decide +kernel
theorem qP_48 {d : Nat} {σ : SG} {Q : Option AV → SG → Prop} {s0 : Int} (h : (r3 s0) ∧ (s0 = 0 → Q (some (.inl 0)) σ) ∧ (s0 ≠ 0 → Q (some (.inl 1)) σ)) : AW d mX3_readPart 48 [some (.inr (.inr 27)), none] [.inl s0] σ Q := AW.blk kX3_readPart_48 cX3_readPart_48 (⟨(h).1, ⟨fun c36 => AW.blk kX3_readPart_55 cX3_readPart_55 (⟨(by decide), ((h).2).1 c36⟩), fun c36 => AW.blk kX3_readPart_56 cX3_readPart_56 (⟨(by decide), ((h).2).2 c36⟩)⟩⟩)
def kX3_readPair_20 : List BI := [bi (.aload_n 0) 1 [] 0, bi (.invokevirtual 103) 3 [mX3_openOne, 1, 1, 3] 0]
theorem cX3_readPair_20 : chk mX3_readPair 20 kX3_readPair_20 = true := by decide +kernel
def kX3_readPair_0 : List BI := [bi (.aload_n 0) 1 [] 0, bi (.getfield 40) 3 [3, 0] 0, bi (.bipush (40)) 2 [] 0, bi (.invokevirtual 106) 3 [mX7_isSign, 2, 2, 7] 0, bi (.ifCond .ne (11)) 3 [20] 0, bi (.aload_n 0) 1 [] 0, bi (.getfield 40) 3 [3, 0] 0, bi (.invokevirtual 55) 3 [mX7_failHere, 1, 1, 7] 0, bi (.ireturn) 1 [1] 0]
theorem cX3_readPair_0 : chk mX3_readPair 0 kX3_readPair_0 = true := by decide +kernel
theorem qA_0 {d : Nat} {σ : SG} {Q : Option AV → SG → Prop} (h : (0 < d) ∧ (sgO σ 40) ∧ (r3 (sgW σ 40)) ∧ ((sgW σ 40) ≠ 0 → (0 < d) ∧ AW (d - 1) mX3_openOne 0 [some (.inr (.inr 27))] [] σ (fun rr σ' => AW d mX3_readPair 24 [some (.inr (.inr 27))] (rtS rr []) σ' Q)) ∧ ((sgW σ 40) = 0 → (0 < d) ∧ (0 < d - 1) ∧ (r3 (σ 2 2)) ∧ ((σ 2 2) ≠ 0 → Q (some (.inl 0)) σ) ∧ ((σ 2 2) = 0 → (∀ S37 : SG, S37 = up σ 2 2 1 → (∀ S38 : SG, S38 = up S37 2 3 (σ 2 5) → Q (some (.inl 0)) S38))))) : AW d mX3_readPair 0 [some (.inr (.inr 27))] [] σ Q := AW.blk kX3_readPair_0 cX3_readPair_0 (⟨(h).1, tis_ok ⟨((h).2).1, ⟨(((h).2).2).1, ⟨fun c40 => AW.blk kX3_readPair_20 cX3_readPair_20 (⟨(((((h).2).2).2).1 c40).1, (((((h).2).2).2).1 c40).2⟩), fun c40 => ⟨(((((h).2).2).2).2 c40).1, AW.blk kX7_failHere_0 cX7_failHere_0 (⟨((((((h).2).2).2).2 c40).2).1, AW.blk kX7_fail_0 cX7_fail_0 (⟨(((((((h).2).2).2).2 c40).2).2).1, ⟨fun c39 => AW.blk kX7_fail_17 cX7_fail_17 (⟨(by decide), ⟨(by decide), ⟨(by decide), ((((((((h).2).2).2).2 c40).2).2).2).1 c39⟩⟩⟩), fun c39 => ⟨(by decide), ⟨(by decide), ⟨(by decide), ((((((((((h).2).2).2).2 c40).2).2).2).2 c39) _ rfl) _ rfl⟩⟩⟩⟩⟩)⟩)⟩⟩⟩⟩⟩)
def kX3_readPair_66 : List BI := [bi (.iconst 0) 1 [] 0, bi (.ireturn) 1 [1] 0]
theorem cX3_readPair_66 : chk mX3_readPair 66 kX3_readPair_66 = true := by decide +kernel
def kX3_readPair_24 : List BI := [bi (.ifCond .eq (42)) 3 [66] 0, bi (.aload_n 0) 1 [] 0, bi (.invokevirtual 65) 3 [mX3_readSum, 1, 3, 3] 0]
theorem cX3_readPair_24 : chk mX3_readPair 24 kX3_readPair_24 = true := by decide +kernel
theorem qA_24 {d : Nat} {σ : SG} {Q : Option AV → SG → Prop} {s0 : Int} (h : (r3 s0) ∧ (s0 = 0 → Q (some (.inl 0)) σ) ∧ (s0 ≠ 0 → (0 < d) ∧ AW (d - 1) mX3_readSum 0 [some (.inr (.inr 27)), none, none] [] σ (fun rr σ' => AW d mX3_readPair 31 [some (.inr (.inr 27))] (rtS rr []) σ' Q))) : AW d mX3_readPair 24 [some (.inr (.inr 27))] [.inl s0] σ Q := AW.blk kX3_readPair_24 cX3_readPair_24 (⟨(h).1, ⟨fun c41 => AW.blk kX3_readPair_66 cX3_readPair_66 (⟨(by decide), ((h).2).1 c41⟩), fun c41 => ⟨(((h).2).2 c41).1, (((h).2).2 c41).2⟩⟩⟩)
def kX3_readPair_31 : List BI := [bi (.ifCond .eq (35)) 3 [66] 0, bi (.aload_n 0) 1 [] 0, bi (.getfield 40) 3 [3, 0] 0, bi (.bipush (44)) 2 [] 0, bi (.invokevirtual 82) 3 [mX7_takeSign, 2, 2, 7] 0]
theorem cX3_readPair_31 : chk mX3_readPair 31 kX3_readPair_31 = true := by decide +kernel
theorem qA_31 {d : Nat} {σ : SG} {Q : Option AV → SG → Prop} {s0 : Int} (h : (r3 s0) ∧ (s0 = 0 → Q (some (.inl 0)) σ) ∧ (s0 ≠ 0 → (0 < d) ∧ AW (d - 1) mX7_takeSign 0 [some (.inr (.inr 2)), some (.inl 44)] [] σ (fun rr σ' => AW d mX3_readPair 43 [some (.inr (.inr 27))] (rtS rr []) σ' Q))) : AW d mX3_readPair 31 [some (.inr (.inr 27))] [.inl s0] σ Q := AW.blk kX3_readPair_31 cX3_readPair_31 (⟨(h).1, ⟨fun c42 => AW.blk kX3_readPair_66 cX3_readPair_66 (⟨(by decide), ((h).2).1 c42⟩), fun c42 => ⟨(((h).2).2 c42).1, (((h).2).2 c42).2⟩⟩⟩)
def kX3_readPair_43 : List BI := [bi (.ifCond .eq (23)) 3 [66] 0, bi (.aload_n 0) 1 [] 0, bi (.invokevirtual 65) 3 [mX3_readSum, 1, 3, 3] 0]
theorem cX3_readPair_43 : chk mX3_readPair 43 kX3_readPair_43 = true := by decide +kernel
theorem qA_43 {d : Nat} {σ : SG} {Q : Option AV → SG → Prop} {s0 : Int} (h : (r3 s0) ∧ (s0 = 0 → Q (some (.inl 0)) σ) ∧ (s0 ≠ 0 → (0 < d) ∧ AW (d - 1) mX3_readSum 0 [some (.inr (.inr 27)), none, none] [] σ (fun rr σ' => AW d mX3_readPair 50 [some (.inr (.inr 27))] (rtS rr []) σ' Q))) : AW d mX3_readPair 43 [some (.inr (.inr 27))] [.inl s0] σ Q := AW.blk kX3_readPair_43 cX3_readPair_43 (⟨(h).1, ⟨fun c43 => AW.blk kX3_readPair_66 cX3_readPair_66 (⟨(by decide), ((h).2).1 c43⟩), fun c43 => ⟨(((h).2).2 c43).1, (((h).2).2 c43).2⟩⟩⟩)
def kX3_readPair_50 : List BI := [bi (.ifCond .eq (16)) 3 [66] 0, bi (.aload_n 0) 1 [] 0, bi (.bipush (41)) 2 [] 0, bi (.invokevirtual 109) 3 [mX3_closeWith, 2, 2, 3] 0]
theorem cX3_readPair_50 : chk mX3_readPair 50 kX3_readPair_50 = true := by decide +kernel
theorem qA_50 {d : Nat} {σ : SG} {Q : Option AV → SG → Prop} {s0 : Int} (h : (r3 s0) ∧ (s0 = 0 → Q (some (.inl 0)) σ) ∧ (s0 ≠ 0 → (0 < d) ∧ AW (d - 1) mX3_closeWith 0 [some (.inr (.inr 27)), some (.inl 41)] [] σ (fun rr σ' => AW d mX3_readPair 59 [some (.inr (.inr 27))] (rtS rr []) σ' Q))) : AW d mX3_readPair 50 [some (.inr (.inr 27))] [.inl s0] σ Q := AW.blk kX3_readPair_50 cX3_readPair_50 (⟨(h).1, ⟨fun c44 => AW.blk kX3_readPair_66 cX3_readPair_66 (⟨(by decide), ((h).2).1 c44⟩), fun c44 => ⟨(((h).2).2 c44).1, (((h).2).2 c44).2⟩⟩⟩)
def kX3_readPair_67 : List BI := [bi (.ireturn) 1 [1] 0]
theorem cX3_readPair_67 : chk mX3_readPair 67 kX3_readPair_67 = true := by decide +kernel
def kX3_readPair_59 : List BI := [bi (.ifCond .eq (7)) 3 [66] 0, bi (.iconst 1) 1 [] 0, bi (.goto (4)) 3 [67] 0]
theorem cX3_readPair_59 : chk mX3_readPair 59 kX3_readPair_59 = true := by decide +kernel
theorem qA_59 {d : Nat} {σ : SG} {Q : Option AV → SG → Prop} {s0 : Int} (h : (r3 s0) ∧ (s0 = 0 → Q (some (.inl 0)) σ) ∧ (s0 ≠ 0 → Q (some (.inl 1)) σ)) : AW d mX3_readPair 59 [some (.inr (.inr 27))] [.inl s0] σ Q := AW.blk kX3_readPair_59 cX3_readPair_59 (⟨(h).1, ⟨fun c45 => AW.blk kX3_readPair_66 cX3_readPair_66 (⟨(by decide), ((h).2).1 c45⟩), fun c45 => AW.blk kX3_readPair_67 cX3_readPair_67 (⟨(by decide), ((h).2).2 c45⟩)⟩⟩)
def kX3_readProduct_0 : List BI := [bi (.aload_n 0) 1 [] 0, bi (.invokevirtual 118) 3 [mX3_readPart, 1, 2, 3] 0]
theorem cX3_readProduct_0 : chk mX3_readProduct 0 kX3_readProduct_0 = true := by decide +kernel
theorem qM_0 {d : Nat} {σ : SG} {Q : Option AV → SG → Prop} (h : (0 < d) ∧ AW (d - 1) mX3_readPart 0 [some (.inr (.inr 27)), none] [] σ (fun rr σ' => AW d mX3_readProduct 4 [some (.inr (.inr 27)), none, none] (rtS rr []) σ' Q)) : AW d mX3_readProduct 0 [some (.inr (.inr 27)), none, none] [] σ Q := AW.blk kX3_readProduct_0 cX3_readProduct_0 (⟨(h).1, (h).2⟩)
def kX3_readProduct_9 : List BI := [bi (.iconst 0) 1 [] 0, bi (.istore_n 1) 1 [] 0]
theorem cX3_readProduct_9 : chk mX3_readProduct 9 kX3_readProduct_9 = true := by decide +kernel
def kX3_readProduct_4 : List BI := [bi (.ifCond .ne (5)) 3 [9] 0, bi (.iconst 0) 1 [] 0, bi (.ireturn) 1 [1] 0]
theorem cX3_readProduct_4 : chk mX3_readProduct 4 kX3_readProduct_4 = true := by decide +kernel
theorem qM_4 {d : Nat} {σ : SG} {Q : Option AV → SG → Prop} {s0 : Int} (h : (r3 s0) ∧ (s0 ≠ 0 → AW d mX3_readProduct 11 [some (.inr (.inr 27)), some (.inl 0), none] [] σ Q) ∧ (s0 = 0 → Q (some (.inl 0)) σ)) : AW d mX3_readProduct 4 [some (.inr (.inr 27)), none, none] [.inl s0] σ Q := AW.blk kX3_readProduct_4 cX3_readProduct_4 (⟨(h).1, ⟨fun c46 => AW.blk kX3_readProduct_9 cX3_readProduct_9 (((h).2).1 c46), fun c46 => ⟨(by decide), ((h).2).2 c46⟩⟩⟩)
def kX3_readProduct_90 : List BI := [bi (.iconst 1) 1 [] 0, bi (.ireturn) 1 [1] 0]
theorem cX3_readProduct_90 : chk mX3_readProduct 90 kX3_readProduct_90 = true := by decide +kernel
def kX3_readProduct_59 : List BI := [bi (.bipush (13)) 2 [] 0, bi (.istore_n 2) 1 [] 0, bi (.aload_n 0) 1 [] 0, bi (.getfield 40) 3 [3, 0] 0, bi (.invokevirtual 59) 3 [mX7_advance, 1, 3, 7] 0]
theorem cX3_readProduct_59 : chk mX3_readProduct 59 kX3_readProduct_59 = true := by decide +kernel
def kX3_readProduct_61 : List BI := [bi (.istore_n 2) 1 [] 0, bi (.aload_n 0) 1 [] 0, bi (.getfield 40) 3 [3, 0] 0, bi (.invokevirtual 59) 3 [mX7_advance, 1, 3, 7] 0]
theorem cX3_readProduct_61 : chk mX3_readProduct 61 kX3_readProduct_61 = true := by decide +kernel
def kX3_readProduct_42 : List BI := [bi (.aload_n 0) 1 [] 0, bi (.getfield 40) 3 [3, 0] 0, bi (.bipush (42)) 2 [] 0, bi (.invokevirtual 106) 3 [mX7_isSign, 2, 2, 7] 0, bi (.ifCond .eq (8)) 3 [59] 0, bi (.bipush (12)) 2 [] 0, bi (.goto (5)) 3 [61] 0]
theorem cX3_readProduct_42 : chk mX3_readProduct 42 kX3_readProduct_42 = true := by decide +kernel
def kX3_readProduct_11 : List BI := [bi (.iload_n 1) 1 [] 0, bi (.sipush (1600)) 3 [] 0, bi (.if_icmp .ge (75)) 3 [90] 0, bi (.aload_n 0) 1 [] 0, bi (.getfield 40) 3 [3, 0] 0, bi (.bipush (42)) 2 [] 0, bi (.invokevirtual 106) 3 [mX7_isSign, 2, 2, 7] 0, bi (.ifCond .ne (15)) 3 [42] 0, bi (.aload_n 0) 1 [] 0, bi (.getfield 40) 3 [3, 0] 0, bi (.bipush (47)) 2 [] 0, bi (.invokevirtual 106) 3 [mX7_isSign, 2, 2, 7] 0, bi (.ifCond .eq (51)) 3 [90] 0, bi (.aload_n 0) 1 [] 0, bi (.getfield 40) 3 [3, 0] 0, bi (.bipush (42)) 2 [] 0, bi (.invokevirtual 106) 3 [mX7_isSign, 2, 2, 7] 0, bi (.ifCond .eq (8)) 3 [59] 0, bi (.bipush (12)) 2 [] 0, bi (.goto (5)) 3 [61] 0]
theorem cX3_readProduct_11 : chk mX3_readProduct 11 kX3_readProduct_11 = true := by decide +kernel
theorem qM_11 {d : Nat} {σ : SG} {Q : Option AV → SG → Prop} {l1 : Int} (h : (r3 l1) ∧ (1600 ≤ l1 → Q (some (.inl 1)) σ) ∧ (l1 < 1600 → (0 < d) ∧ (sgO σ 42) ∧ (r3 (sgW σ 42)) ∧ ((sgW σ 42) ≠ 0 → (0 < d) ∧ (sgO σ 42) ∧ (r3 (sgW σ 42)) ∧ ((sgW σ 42) = 0 → (0 < d) ∧ AW (d - 1) mX7_advance 0 [some (.inr (.inr 2)), none, none] [] σ (fun rr σ' => AW d mX3_readProduct 69 [some (.inr (.inr 27)), some (.inl l1), some (.inl 13)] (rtS rr []) σ' Q)) ∧ ((sgW σ 42) ≠ 0 → (0 < d) ∧ AW (d - 1) mX7_advance 0 [some (.inr (.inr 2)), none, none] [] σ (fun rr σ' => AW d mX3_readProduct 69 [some (.inr (.inr 27)), some (.inl l1), some (.inl 12)] (rtS rr []) σ' Q))) ∧ ((sgW σ 42) = 0 → (0 < d) ∧ (sgO σ 47) ∧ (r3 (sgW σ 47)) ∧ ((sgW σ 47) = 0 → Q (some (.inl 1)) σ) ∧ ((sgW σ 47) ≠ 0 → (0 < d) ∧ (sgO σ 42) ∧ (r3 (sgW σ 42)) ∧ ((sgW σ 42) = 0 → (0 < d) ∧ AW (d - 1) mX7_advance 0 [some (.inr (.inr 2)), none, none] [] σ (fun rr σ' => AW d mX3_readProduct 69 [some (.inr (.inr 27)), some (.inl l1), some (.inl 13)] (rtS rr []) σ' Q)) ∧ ((sgW σ 42) ≠ 0 → (0 < d) ∧ AW (d - 1) mX7_advance 0 [some (.inr (.inr 2)), none, none] [] σ (fun rr σ' => AW d mX3_readProduct 69 [some (.inr (.inr 27)), some (.inl l1), some (.inl 12)] (rtS rr []) σ' Q)))))) : AW d mX3_readProduct 11 [some (.inr (.inr 27)), some (.inl l1), none] [] σ Q := AW.blk kX3_readProduct_11 cX3_readProduct_11 (⟨⟨(h).1, (by decide)⟩, ⟨fun c51 => AW.blk kX3_readProduct_90 cX3_readProduct_90 (⟨(by decide), ((h).2).1 c51⟩), fun c51 => ⟨(((h).2).2 c51).1, tis_ok ⟨((((h).2).2 c51).2).1, ⟨(((((h).2).2 c51).2).2).1, ⟨fun c50 => AW.blk kX3_readProduct_42 cX3_readProduct_42 (⟨(((((((h).2).2 c51).2).2).2).1 c50).1, tis_ok ⟨((((((((h).2).2 c51).2).2).2).1 c50).2).1, ⟨(((((((((h).2).2 c51).2).2).2).1 c50).2).2).1, ⟨fun c47 => AW.blk kX3_readProduct_59 cX3_readProduct_59 (⟨(((((((((((h).2).2 c51).2).2).2).1 c50).2).2).2).1 c47).1, (((((((((((h).2).2 c51).2).2).2).1 c50).2).2).2).1 c47).2⟩), fun c47 => AW.blk kX3_readProduct_61 cX3_readProduct_61 (⟨(((((((((((h).2).2 c51).2).2).2).1 c50).2).2).2).2 c47).1, (((((((((((h).2).2 c51).2).2).2).1 c50).2).2).2).2 c47).2⟩)⟩⟩⟩⟩), fun c50 => ⟨(((((((h).2).2 c51).2).2).2).2 c50).1, tis_ok ⟨((((((((h).2).2 c51).2).2).2).2 c50).2).1, ⟨(((((((((h).2).2 c51).2).2).2).2 c50).2).2).1, ⟨fun c49 => AW.blk kX3_readProduct_90 cX3_readProduct_90 (⟨(by decide), ((((((((((h).2).2 c51).2).2).2).2 c50).2).2).2).1 c49⟩), fun c49 => ⟨(((((((((((h).2).2 c51).2).2).2).2 c50).2).2).2).2 c49).1, tis_ok ⟨((((((((((((h).2).2 c51).2).2).2).2 c50).2).2).2).2 c49).2).1, ⟨(((((((((((((h).2).2 c51).2).2).2).2 c50).2).2).2).2 c49).2).2).1, ⟨fun c48 => AW.blk kX3_readProduct_59 cX3_readProduct_59 (⟨(((((((((((((((h).2).2 c51).2).2).2).2 c50).2).2).2).2 c49).2).2).2).1 c48).1, (((((((((((((((h).2).2 c51).2).2).2).2 c50).2).2).2).2 c49).2).2).2).1 c48).2⟩), fun c48 => AW.blk kX3_readProduct_61 cX3_readProduct_61 (⟨(((((((((((((((h).2).2 c51).2).2).2).2 c50).2).2).2).2 c49).2).2).2).2 c48).1, (((((((((((((((h).2).2 c51).2).2).2).2 c50).2).2).2).2 c49).2).2).2).2 c48).2⟩)⟩⟩⟩⟩⟩⟩⟩⟩⟩⟩⟩⟩⟩⟩)
def kX3_readProduct_69 : List BI := [bi (.aload_n 0) 1 [] 0, bi (.invokevirtual 118) 3 [mX3_readPart, 1, 2, 3] 0]
theorem cX3_readProduct_69 : chk mX3_readProduct 69 kX3_readProduct_69 = true := by decide +kernel
theorem qM_69 {d : Nat} {σ : SG} {Q : Option AV → SG → Prop} {l1 l2 : Int} (h : (0 < d) ∧ AW (d - 1) mX3_readPart 0 [some (.inr (.inr 27)), none] [] σ (fun rr σ' => AW d mX3_readProduct 73 [some (.inr (.inr 27)), some (.inl l1), some (.inl l2)] (rtS rr []) σ' Q)) : AW d mX3_readProduct 69 [some (.inr (.inr 27)), some (.inl l1), some (.inl l2)] [] σ Q := AW.blk kX3_readProduct_69 cX3_readProduct_69 (⟨(h).1, (h).2⟩)
def kX3_readProduct_78 : List BI := [bi (.aload_n 0) 1 [] 0, bi (.iload_n 2) 1 [] 0, bi (.invokevirtual 91) 3 [mX3_writeSign, 2, 2, 3] 0, bi (.pop) 1 [] 0, bi (.iinc 1 (1)) 3 [] 0, bi (.goto (-76)) 3 [11] 0]
theorem cX3_readProduct_78 : chk mX3_readProduct 78 kX3_readProduct_78 = true := by decide +kernel
def kX3_readProduct_73 : List BI := [bi (.ifCond .ne (5)) 3 [78] 0, bi (.iconst 0) 1 [] 0, bi (.ireturn) 1 [1] 0]
theorem cX3_readProduct_73 : chk mX3_readProduct 73 kX3_readProduct_73 = true := by decide +kernel
theorem qM_73 {d : Nat} {σ : SG} {Q : Option AV → SG → Prop} {l1 l2 s0 : Int} (h : (r3 s0) ∧ (s0 ≠ 0 → (0 < d) ∧ (0 < d - 1) ∧ (r3 (σ 27 3)) ∧ (1600 ≤ (σ 27 3) → AW d mX3_readProduct 11 [some (.inr (.inr 27)), some (.inl (l1 + 1)), none] [] σ Q) ∧ ((σ 27 3) < 1600 → (0 ≤ (σ 27 3) ∧ (σ 27 3) < 1600) ∧ (∀ S52 : SG, S52 = up σ 28 (σ 27 3) ((-1) - l2) → (∀ S53 : SG, S53 = up S52 27 3 ((S52 27 3) + 1) → AW d mX3_readProduct 11 [some (.inr (.inr 27)), some (.inl (l1 + 1)), none] [] S53 Q)))) ∧ (s0 = 0 → Q (some (.inl 0)) σ)) : AW d mX3_readProduct 73 [some (.inr (.inr 27)), some (.inl l1), some (.inl l2)] [.inl s0] σ Q := AW.blk kX3_readProduct_73 cX3_readProduct_73 (⟨(h).1, ⟨fun c55 => AW.blk kX3_readProduct_78 cX3_readProduct_78 (⟨(((h).2).1 c55).1, AW.blk kX3_writeSign_0 cX3_writeSign_0 (⟨((((h).2).1 c55).2).1, AW.blk kX3_write_0 cX3_write_0 (⟨⟨(((((h).2).1 c55).2).2).1, (by decide)⟩, ⟨fun c54 => AW.blk kX3_write_32 cX3_write_32 (⟨(by decide), ⟨(by decide), AW.drop 2 (((((((h).2).1 c55).2).2).2).1 c54)⟩⟩), fun c54 => ⟨⟨((((((((h).2).1 c55).2).2).2).2 c54).1).1, ((((((((h).2).1 c55).2).2).2).2 c54).1).2⟩, ⟨(by decide), ⟨(by decide), AW.drop 2 ((((((((((h).2).1 c55).2).2).2).2 c54).2) _ rfl) _ rfl)⟩⟩⟩⟩⟩)⟩)⟩), fun c55 => ⟨(by decide), ((h).2).2 c55⟩⟩⟩)
def kX3_readSum_0 : List BI := [bi (.aload_n 0) 1 [] 0, bi (.invokevirtual 115) 3 [mX3_readProduct, 1, 3, 3] 0]
theorem cX3_readSum_0 : chk mX3_readSum 0 kX3_readSum_0 = true := by decide +kernel
theorem qS_0 {d : Nat} {σ : SG} {Q : Option AV → SG → Prop} (h : (0 < d) ∧ AW (d - 1) mX3_readProduct 0 [some (.inr (.inr 27)), none, none] [] σ (fun rr σ' => AW d mX3_readSum 4 [some (.inr (.inr 27)), none, none] (rtS rr []) σ' Q)) : AW d mX3_readSum 0 [some (.inr (.inr 27)), none, none] [] σ Q := AW.blk kX3_readSum_0 cX3_readSum_0 (⟨(h).1, (h).2⟩)
def kX3_readSum_9 : List BI := [bi (.iconst 0) 1 [] 0, bi (.istore_n 1) 1 [] 0]
theorem cX3_readSum_9 : chk mX3_readSum 9 kX3_readSum_9 = true := by decide +kernel
def kX3_readSum_4 : List BI := [bi (.ifCond .ne (5)) 3 [9] 0, bi (.iconst 0) 1 [] 0, bi (.ireturn) 1 [1] 0]
theorem cX3_readSum_4 : chk mX3_readSum 4 kX3_readSum_4 = true := by decide +kernel
theorem qS_4 {d : Nat} {σ : SG} {Q : Option AV → SG → Prop} {s0 : Int} (h : (r3 s0) ∧ (s0 ≠ 0 → AW d mX3_readSum 11 [some (.inr (.inr 27)), some (.inl 0), none] [] σ Q) ∧ (s0 = 0 → Q (some (.inl 0)) σ)) : AW d mX3_readSum 4 [some (.inr (.inr 27)), none, none] [.inl s0] σ Q := AW.blk kX3_readSum_4 cX3_readSum_4 (⟨(h).1, ⟨fun c56 => AW.blk kX3_readSum_9 cX3_readSum_9 (((h).2).1 c56), fun c56 => ⟨(by decide), ((h).2).2 c56⟩⟩⟩)
def kX3_readSum_90 : List BI := [bi (.iconst 1) 1 [] 0, bi (.ireturn) 1 [1] 0]
theorem cX3_readSum_90 : chk mX3_readSum 90 kX3_readSum_90 = true := by decide +kernel
def kX3_readSum_59 : List BI := [bi (.bipush (11)) 2 [] 0, bi (.istore_n 2) 1 [] 0, bi (.aload_n 0) 1 [] 0, bi (.getfield 40) 3 [3, 0] 0, bi (.invokevirtual 59) 3 [mX7_advance, 1, 3, 7] 0]
theorem cX3_readSum_59 : chk mX3_readSum 59 kX3_readSum_59 = true := by decide +kernel
def kX3_readSum_61 : List BI := [bi (.istore_n 2) 1 [] 0, bi (.aload_n 0) 1 [] 0, bi (.getfield 40) 3 [3, 0] 0, bi (.invokevirtual 59) 3 [mX7_advance, 1, 3, 7] 0]
theorem cX3_readSum_61 : chk mX3_readSum 61 kX3_readSum_61 = true := by decide +kernel
def kX3_readSum_42 : List BI := [bi (.aload_n 0) 1 [] 0, bi (.getfield 40) 3 [3, 0] 0, bi (.bipush (43)) 2 [] 0, bi (.invokevirtual 106) 3 [mX7_isSign, 2, 2, 7] 0, bi (.ifCond .eq (8)) 3 [59] 0, bi (.bipush (10)) 2 [] 0, bi (.goto (5)) 3 [61] 0]
theorem cX3_readSum_42 : chk mX3_readSum 42 kX3_readSum_42 = true := by decide +kernel
def kX3_readSum_11 : List BI := [bi (.iload_n 1) 1 [] 0, bi (.sipush (1600)) 3 [] 0, bi (.if_icmp .ge (75)) 3 [90] 0, bi (.aload_n 0) 1 [] 0, bi (.getfield 40) 3 [3, 0] 0, bi (.bipush (43)) 2 [] 0, bi (.invokevirtual 106) 3 [mX7_isSign, 2, 2, 7] 0, bi (.ifCond .ne (15)) 3 [42] 0, bi (.aload_n 0) 1 [] 0, bi (.getfield 40) 3 [3, 0] 0, bi (.bipush (45)) 2 [] 0, bi (.invokevirtual 106) 3 [mX7_isSign, 2, 2, 7] 0, bi (.ifCond .eq (51)) 3 [90] 0, bi (.aload_n 0) 1 [] 0, bi (.getfield 40) 3 [3, 0] 0, bi (.bipush (43)) 2 [] 0, bi (.invokevirtual 106) 3 [mX7_isSign, 2, 2, 7] 0, bi (.ifCond .eq (8)) 3 [59] 0, bi (.bipush (10)) 2 [] 0, bi (.goto (5)) 3 [61] 0]
theorem cX3_readSum_11 : chk mX3_readSum 11 kX3_readSum_11 = true := by decide +kernel
theorem qS_11 {d : Nat} {σ : SG} {Q : Option AV → SG → Prop} {l1 : Int} (h : (r3 l1) ∧ (1600 ≤ l1 → Q (some (.inl 1)) σ) ∧ (l1 < 1600 → (0 < d) ∧ (sgO σ 43) ∧ (r3 (sgW σ 43)) ∧ ((sgW σ 43) ≠ 0 → (0 < d) ∧ (sgO σ 43) ∧ (r3 (sgW σ 43)) ∧ ((sgW σ 43) = 0 → (0 < d) ∧ AW (d - 1) mX7_advance 0 [some (.inr (.inr 2)), none, none] [] σ (fun rr σ' => AW d mX3_readSum 69 [some (.inr (.inr 27)), some (.inl l1), some (.inl 11)] (rtS rr []) σ' Q)) ∧ ((sgW σ 43) ≠ 0 → (0 < d) ∧ AW (d - 1) mX7_advance 0 [some (.inr (.inr 2)), none, none] [] σ (fun rr σ' => AW d mX3_readSum 69 [some (.inr (.inr 27)), some (.inl l1), some (.inl 10)] (rtS rr []) σ' Q))) ∧ ((sgW σ 43) = 0 → (0 < d) ∧ (sgO σ 45) ∧ (r3 (sgW σ 45)) ∧ ((sgW σ 45) = 0 → Q (some (.inl 1)) σ) ∧ ((sgW σ 45) ≠ 0 → (0 < d) ∧ (sgO σ 43) ∧ (r3 (sgW σ 43)) ∧ ((sgW σ 43) = 0 → (0 < d) ∧ AW (d - 1) mX7_advance 0 [some (.inr (.inr 2)), none, none] [] σ (fun rr σ' => AW d mX3_readSum 69 [some (.inr (.inr 27)), some (.inl l1), some (.inl 11)] (rtS rr []) σ' Q)) ∧ ((sgW σ 43) ≠ 0 → (0 < d) ∧ AW (d - 1) mX7_advance 0 [some (.inr (.inr 2)), none, none] [] σ (fun rr σ' => AW d mX3_readSum 69 [some (.inr (.inr 27)), some (.inl l1), some (.inl 10)] (rtS rr []) σ' Q)))))) : AW d mX3_readSum 11 [some (.inr (.inr 27)), some (.inl l1), none] [] σ Q := AW.blk kX3_readSum_11 cX3_readSum_11 (⟨⟨(h).1, (by decide)⟩, ⟨fun c61 => AW.blk kX3_readSum_90 cX3_readSum_90 (⟨(by decide), ((h).2).1 c61⟩), fun c61 => ⟨(((h).2).2 c61).1, tis_ok ⟨((((h).2).2 c61).2).1, ⟨(((((h).2).2 c61).2).2).1, ⟨fun c60 => AW.blk kX3_readSum_42 cX3_readSum_42 (⟨(((((((h).2).2 c61).2).2).2).1 c60).1, tis_ok ⟨((((((((h).2).2 c61).2).2).2).1 c60).2).1, ⟨(((((((((h).2).2 c61).2).2).2).1 c60).2).2).1, ⟨fun c57 => AW.blk kX3_readSum_59 cX3_readSum_59 (⟨(((((((((((h).2).2 c61).2).2).2).1 c60).2).2).2).1 c57).1, (((((((((((h).2).2 c61).2).2).2).1 c60).2).2).2).1 c57).2⟩), fun c57 => AW.blk kX3_readSum_61 cX3_readSum_61 (⟨(((((((((((h).2).2 c61).2).2).2).1 c60).2).2).2).2 c57).1, (((((((((((h).2).2 c61).2).2).2).1 c60).2).2).2).2 c57).2⟩)⟩⟩⟩⟩), fun c60 => ⟨(((((((h).2).2 c61).2).2).2).2 c60).1, tis_ok ⟨((((((((h).2).2 c61).2).2).2).2 c60).2).1, ⟨(((((((((h).2).2 c61).2).2).2).2 c60).2).2).1, ⟨fun c59 => AW.blk kX3_readSum_90 cX3_readSum_90 (⟨(by decide), ((((((((((h).2).2 c61).2).2).2).2 c60).2).2).2).1 c59⟩), fun c59 => ⟨(((((((((((h).2).2 c61).2).2).2).2 c60).2).2).2).2 c59).1, tis_ok ⟨((((((((((((h).2).2 c61).2).2).2).2 c60).2).2).2).2 c59).2).1, ⟨(((((((((((((h).2).2 c61).2).2).2).2 c60).2).2).2).2 c59).2).2).1, ⟨fun c58 => AW.blk kX3_readSum_59 cX3_readSum_59 (⟨(((((((((((((((h).2).2 c61).2).2).2).2 c60).2).2).2).2 c59).2).2).2).1 c58).1, (((((((((((((((h).2).2 c61).2).2).2).2 c60).2).2).2).2 c59).2).2).2).1 c58).2⟩), fun c58 => AW.blk kX3_readSum_61 cX3_readSum_61 (⟨(((((((((((((((h).2).2 c61).2).2).2).2 c60).2).2).2).2 c59).2).2).2).2 c58).1, (((((((((((((((h).2).2 c61).2).2).2).2 c60).2).2).2).2 c59).2).2).2).2 c58).2⟩)⟩⟩⟩⟩⟩⟩⟩⟩⟩⟩⟩⟩⟩⟩)
def kX3_readSum_69 : List BI := [bi (.aload_n 0) 1 [] 0, bi (.invokevirtual 115) 3 [mX3_readProduct, 1, 3, 3] 0]
theorem cX3_readSum_69 : chk mX3_readSum 69 kX3_readSum_69 = true := by decide +kernel
theorem qS_69 {d : Nat} {σ : SG} {Q : Option AV → SG → Prop} {l1 l2 : Int} (h : (0 < d) ∧ AW (d - 1) mX3_readProduct 0 [some (.inr (.inr 27)), none, none] [] σ (fun rr σ' => AW d mX3_readSum 73 [some (.inr (.inr 27)), some (.inl l1), some (.inl l2)] (rtS rr []) σ' Q)) : AW d mX3_readSum 69 [some (.inr (.inr 27)), some (.inl l1), some (.inl l2)] [] σ Q := AW.blk kX3_readSum_69 cX3_readSum_69 (⟨(h).1, (h).2⟩)
def kX3_readSum_78 : List BI := [bi (.aload_n 0) 1 [] 0, bi (.iload_n 2) 1 [] 0, bi (.invokevirtual 91) 3 [mX3_writeSign, 2, 2, 3] 0, bi (.pop) 1 [] 0, bi (.iinc 1 (1)) 3 [] 0, bi (.goto (-76)) 3 [11] 0]
theorem cX3_readSum_78 : chk mX3_readSum 78 kX3_readSum_78 = true := by decide +kernel
def kX3_readSum_73 : List BI := [bi (.ifCond .ne (5)) 3 [78] 0, bi (.iconst 0) 1 [] 0, bi (.ireturn) 1 [1] 0]
theorem cX3_readSum_73 : chk mX3_readSum 73 kX3_readSum_73 = true := by decide +kernel
theorem qS_73 {d : Nat} {σ : SG} {Q : Option AV → SG → Prop} {l1 l2 s0 : Int} (h : (r3 s0) ∧ (s0 ≠ 0 → (0 < d) ∧ (0 < d - 1) ∧ (r3 (σ 27 3)) ∧ (1600 ≤ (σ 27 3) → AW d mX3_readSum 11 [some (.inr (.inr 27)), some (.inl (l1 + 1)), none] [] σ Q) ∧ ((σ 27 3) < 1600 → (0 ≤ (σ 27 3) ∧ (σ 27 3) < 1600) ∧ (∀ S62 : SG, S62 = up σ 28 (σ 27 3) ((-1) - l2) → (∀ S63 : SG, S63 = up S62 27 3 ((S62 27 3) + 1) → AW d mX3_readSum 11 [some (.inr (.inr 27)), some (.inl (l1 + 1)), none] [] S63 Q)))) ∧ (s0 = 0 → Q (some (.inl 0)) σ)) : AW d mX3_readSum 73 [some (.inr (.inr 27)), some (.inl l1), some (.inl l2)] [.inl s0] σ Q := AW.blk kX3_readSum_73 cX3_readSum_73 (⟨(h).1, ⟨fun c65 => AW.blk kX3_readSum_78 cX3_readSum_78 (⟨(((h).2).1 c65).1, AW.blk kX3_writeSign_0 cX3_writeSign_0 (⟨((((h).2).1 c65).2).1, AW.blk kX3_write_0 cX3_write_0 (⟨⟨(((((h).2).1 c65).2).2).1, (by decide)⟩, ⟨fun c64 => AW.blk kX3_write_32 cX3_write_32 (⟨(by decide), ⟨(by decide), AW.drop 2 (((((((h).2).1 c65).2).2).2).1 c64)⟩⟩), fun c64 => ⟨⟨((((((((h).2).1 c65).2).2).2).2 c64).1).1, ((((((((h).2).1 c65).2).2).2).2 c64).1).2⟩, ⟨(by decide), ⟨(by decide), AW.drop 2 ((((((((((h).2).1 c65).2).2).2).2 c64).2) _ rfl) _ rfl)⟩⟩⟩⟩⟩)⟩)⟩), fun c65 => ⟨(by decide), ((h).2).2 c65⟩⟩⟩)
def kX3_readComparison_0 : List BI := [bi (.aload_n 0) 1 [] 0, bi (.invokevirtual 65) 3 [mX3_readSum, 1, 3, 3] 0]
theorem cX3_readComparison_0 : chk mX3_readComparison 0 kX3_readComparison_0 = true := by decide +kernel
theorem qK_0 {d : Nat} {σ : SG} {Q : Option AV → SG → Prop} (h : (0 < d) ∧ AW (d - 1) mX3_readSum 0 [some (.inr (.inr 27)), none, none] [] σ (fun rr σ' => AW d mX3_readComparison 4 [some (.inr (.inr 27)), none] (rtS rr []) σ' Q)) : AW d mX3_readComparison 0 [some (.inr (.inr 27)), none] [] σ Q := AW.blk kX3_readComparison_0 cX3_readComparison_0 (⟨(h).1, (h).2⟩)
def kX3_readComparison_62 : List BI := [bi (.iload_n 1) 1 [] 0, bi (.iconst (-1)) 1 [] 0, bi (.if_icmp .ne (11)) 3 [75] 0, bi (.aload_n 0) 1 [] 0, bi (.getfield 40) 3 [3, 0] 0, bi (.invokevirtual 55) 3 [mX7_failHere, 1, 1, 7] 0, bi (.ireturn) 1 [1] 0]
theorem cX3_readComparison_62 : chk mX3_readComparison 62 kX3_readComparison_62 = true := by decide +kernel
def kX3_readComparison_75 : List BI := [bi (.aload_n 0) 1 [] 0, bi (.getfield 40) 3 [3, 0] 0, bi (.invokevirtual 59) 3 [mX7_advance, 1, 3, 7] 0]
theorem cX3_readComparison_75 : chk mX3_readComparison 75 kX3_readComparison_75 = true := by decide +kernel
def kX3_readComparison_47 : List BI := [bi (.aload_n 0) 1 [] 0, bi (.getfield 40) 3 [3, 0] 0, bi (.bipush (61)) 2 [] 0, bi (.invokevirtual 106) 3 [mX7_isSign, 2, 2, 7] 0, bi (.ifCond .eq (6)) 3 [62] 0, bi (.bipush (16)) 2 [] 0, bi (.istore_n 1) 1 [] 0, bi (.iload_n 1) 1 [] 0, bi (.iconst (-1)) 1 [] 0, bi (.if_icmp .ne (11)) 3 [75] 0, bi (.aload_n 0) 1 [] 0, bi (.getfield 40) 3 [3, 0] 0, bi (.invokevirtual 55) 3 [mX7_failHere, 1, 1, 7] 0, bi (.ireturn) 1 [1] 0]
theorem cX3_readComparison_47 : chk mX3_readComparison 47 kX3_readComparison_47 = true := by decide +kernel
def kX3_readComparison_29 : List BI := [bi (.aload_n 0) 1 [] 0, bi (.getfield 40) 3 [3, 0] 0, bi (.bipush (62)) 2 [] 0, bi (.invokevirtual 106) 3 [mX7_isSign, 2, 2, 7] 0, bi (.ifCond .eq (9)) 3 [47] 0, bi (.bipush (15)) 2 [] 0, bi (.istore_n 1) 1 [] 0, bi (.goto (18)) 3 [62] 0]
theorem cX3_readComparison_29 : chk mX3_readComparison 29 kX3_readComparison_29 = true := by decide +kernel
def kX3_readComparison_9 : List BI := [bi (.iconst (-1)) 1 [] 0, bi (.istore_n 1) 1 [] 0, bi (.aload_n 0) 1 [] 0, bi (.getfield 40) 3 [3, 0] 0, bi (.bipush (60)) 2 [] 0, bi (.invokevirtual 106) 3 [mX7_isSign, 2, 2, 7] 0, bi (.ifCond .eq (9)) 3 [29] 0, bi (.bipush (14)) 2 [] 0, bi (.istore_n 1) 1 [] 0, bi (.goto (36)) 3 [62] 0]
theorem cX3_readComparison_9 : chk mX3_readComparison 9 kX3_readComparison_9 = true := by decide +kernel
def kX3_readComparison_4 : List BI := [bi (.ifCond .ne (5)) 3 [9] 0, bi (.iconst 0) 1 [] 0, bi (.ireturn) 1 [1] 0]
theorem cX3_readComparison_4 : chk mX3_readComparison 4 kX3_readComparison_4 = true := by decide +kernel
theorem qK_4 {d : Nat} {σ : SG} {Q : Option AV → SG → Prop} {s0 : Int} (h : (r3 s0) ∧ (s0 ≠ 0 → (0 < d) ∧ (sgO σ 60) ∧ (r3 (sgW σ 60)) ∧ ((sgW σ 60) = 0 → (0 < d) ∧ (sgO σ 62) ∧ (r3 (sgW σ 62)) ∧ ((sgW σ 62) = 0 → (0 < d) ∧ (sgO σ 61) ∧ (r3 (sgW σ 61)) ∧ ((sgW σ 61) = 0 → (0 < d) ∧ (0 < d - 1) ∧ (r3 (σ 2 2)) ∧ ((σ 2 2) ≠ 0 → Q (some (.inl 0)) σ) ∧ ((σ 2 2) = 0 → (∀ S66 : SG, S66 = up σ 2 2 1 → (∀ S67 : SG, S67 = up S66 2 3 (σ 2 5) → Q (some (.inl 0)) S67)))) ∧ ((sgW σ 61) ≠ 0 → (0 < d) ∧ AW (d - 1) mX7_advance 0 [some (.inr (.inr 2)), none, none] [] σ (fun rr σ' => AW d mX3_readComparison 82 [some (.inr (.inr 27)), some (.inl 16)] (rtS rr []) σ' Q))) ∧ ((sgW σ 62) ≠ 0 → (0 < d) ∧ AW (d - 1) mX7_advance 0 [some (.inr (.inr 2)), none, none] [] σ (fun rr σ' => AW d mX3_readComparison 82 [some (.inr (.inr 27)), some (.inl 15)] (rtS rr []) σ' Q))) ∧ ((sgW σ 60) ≠ 0 → (0 < d) ∧ AW (d - 1) mX7_advance 0 [some (.inr (.inr 2)), none, none] [] σ (fun rr σ' => AW d mX3_readComparison 82 [some (.inr (.inr 27)), some (.inl 14)] (rtS rr []) σ' Q))) ∧ (s0 = 0 → Q (some (.inl 0)) σ)) : AW d mX3_readComparison 4 [some (.inr (.inr 27)), none] [.inl s0] σ Q := AW.blk kX3_readComparison_4 cX3_readComparison_4 (⟨(h).1, ⟨fun c72 => AW.blk kX3_readComparison_9 cX3_readComparison_9 (⟨(((h).2).1 c72).1, tis_ok ⟨((((h).2).1 c72).2).1, ⟨(((((h).2).1 c72).2).2).1, ⟨fun c71 => AW.blk kX3_readComparison_29 cX3_readComparison_29 (⟨(((((((h).2).1 c72).2).2).2).1 c71).1, tis_ok ⟨((((((((h).2).1 c72).2).2).2).1 c71).2).1, ⟨(((((((((h).2).1 c72).2).2).2).1 c71).2).2).1, ⟨fun c70 => AW.blk kX3_readComparison_47 cX3_readComparison_47 (⟨(((((((((((h).2).1 c72).2).2).2).1 c71).2).2).2).1 c70).1, tis_ok ⟨((((((((((((h).2).1 c72).2).2).2).1 c71).2).2).2).1 c70).2).1, ⟨(((((((((((((h).2).1 c72).2).2).2).1 c71).2).2).2).1 c70).2).2).1, ⟨fun c69 => AW.blk kX3_readComparison_62 cX3_readComparison_62 (⟨⟨(by decide), (by decide)⟩, ⟨fun c => absurd c (by decide), fun _ => ⟨(((((((((((((((h).2).1 c72).2).2).2).1 c71).2).2).2).1 c70).2).2).2).1 c69).1, AW.blk kX7_failHere_0 cX7_failHere_0 (⟨((((((((((((((((h).2).1 c72).2).2).2).1 c71).2).2).2).1 c70).2).2).2).1 c69).2).1, AW.blk kX7_fail_0 cX7_fail_0 (⟨(((((((((((((((((h).2).1 c72).2).2).2).1 c71).2).2).2).1 c70).2).2).2).1 c69).2).2).1, ⟨fun c68 => AW.blk kX7_fail_17 cX7_fail_17 (⟨(by decide), ⟨(by decide), ⟨(by decide), ((((((((((((((((((h).2).1 c72).2).2).2).1 c71).2).2).2).1 c70).2).2).2).1 c69).2).2).2).1 c68⟩⟩⟩), fun c68 => ⟨(by decide), ⟨(by decide), ⟨(by decide), ((((((((((((((((((((h).2).1 c72).2).2).2).1 c71).2).2).2).1 c70).2).2).2).1 c69).2).2).2).2 c68) _ rfl) _ rfl⟩⟩⟩⟩⟩)⟩)⟩⟩⟩), fun c69 => ⟨⟨(by decide), (by decide)⟩, ⟨fun _ => AW.blk kX3_readComparison_75 cX3_readComparison_75 (⟨(((((((((((((((h).2).1 c72).2).2).2).1 c71).2).2).2).1 c70).2).2).2).2 c69).1, (((((((((((((((h).2).1 c72).2).2).2).1 c71).2).2).2).1 c70).2).2).2).2 c69).2⟩), fun c => absurd c (by decide)⟩⟩⟩⟩⟩⟩), fun c70 => AW.blk kX3_readComparison_62 cX3_readComparison_62 (⟨⟨(by decide), (by decide)⟩, ⟨fun _ => AW.blk kX3_readComparison_75 cX3_readComparison_75 (⟨(((((((((((h).2).1 c72).2).2).2).1 c71).2).2).2).2 c70).1, (((((((((((h).2).1 c72).2).2).2).1 c71).2).2).2).2 c70).2⟩), fun c => absurd c (by decide)⟩⟩)⟩⟩⟩⟩), fun c71 => AW.blk kX3_readComparison_62 cX3_readComparison_62 (⟨⟨(by decide), (by decide)⟩, ⟨fun _ => AW.blk kX3_readComparison_75 cX3_readComparison_75 (⟨(((((((h).2).1 c72).2).2).2).2 c71).1, (((((((h).2).1 c72).2).2).2).2 c71).2⟩), fun c => absurd c (by decide)⟩⟩)⟩⟩⟩⟩), fun c72 => ⟨(by decide), ((h).2).2 c72⟩⟩⟩)
def kX3_readComparison_82 : List BI := [bi (.aload_n 0) 1 [] 0, bi (.invokevirtual 65) 3 [mX3_readSum, 1, 3, 3] 0]
theorem cX3_readComparison_82 : chk mX3_readComparison 82 kX3_readComparison_82 = true := by decide +kernel
theorem qK_82 {d : Nat} {σ : SG} {Q : Option AV → SG → Prop} {l1 : Int} (h : (0 < d) ∧ AW (d - 1) mX3_readSum 0 [some (.inr (.inr 27)), none, none] [] σ (fun rr σ' => AW d mX3_readComparison 86 [some (.inr (.inr 27)), some (.inl l1)] (rtS rr []) σ' Q)) : AW d mX3_readComparison 82 [some (.inr (.inr 27)), some (.inl l1)] [] σ Q := AW.blk kX3_readComparison_82 cX3_readComparison_82 (⟨(h).1, (h).2⟩)
def kX3_readComparison_101 : List BI := [bi (.iconst 0) 1 [] 0, bi (.ireturn) 1 [1] 0]
theorem cX3_readComparison_101 : chk mX3_readComparison 101 kX3_readComparison_101 = true := by decide +kernel
def kX3_readComparison_102 : List BI := [bi (.ireturn) 1 [1] 0]
theorem cX3_readComparison_102 : chk mX3_readComparison 102 kX3_readComparison_102 = true := by decide +kernel
def kX3_readComparison_86 : List BI := [bi (.ifCond .eq (15)) 3 [101] 0, bi (.aload_n 0) 1 [] 0, bi (.iload_n 1) 1 [] 0, bi (.invokevirtual 91) 3 [mX3_writeSign, 2, 2, 3] 0, bi (.ifCond .eq (7)) 3 [101] 0, bi (.iconst 1) 1 [] 0, bi (.goto (4)) 3 [102] 0]
theorem cX3_readComparison_86 : chk mX3_readComparison 86 kX3_readComparison_86 = true := by decide +kernel
theorem qK_86 {d : Nat} {σ : SG} {Q : Option AV → SG → Prop} {l1 s0 : Int} (h : (r3 s0) ∧ (s0 = 0 → Q (some (.inl 0)) σ) ∧ (s0 ≠ 0 → (0 < d) ∧ (0 < d - 1) ∧ (r3 (σ 27 3)) ∧ (1600 ≤ (σ 27 3) → Q (some (.inl 1)) σ) ∧ ((σ 27 3) < 1600 → (0 ≤ (σ 27 3) ∧ (σ 27 3) < 1600) ∧ (∀ S73 : SG, S73 = up σ 28 (σ 27 3) ((-1) - l1) → (∀ S74 : SG, S74 = up S73 27 3 ((S73 27 3) + 1) → Q (some (.inl 1)) S74))))) : AW d mX3_readComparison 86 [some (.inr (.inr 27)), some (.inl l1)] [.inl s0] σ Q := AW.blk kX3_readComparison_86 cX3_readComparison_86 (⟨(h).1, ⟨fun c76 => AW.blk kX3_readComparison_101 cX3_readComparison_101 (⟨(by decide), ((h).2).1 c76⟩), fun c76 => ⟨(((h).2).2 c76).1, AW.blk kX3_writeSign_0 cX3_writeSign_0 (⟨((((h).2).2 c76).2).1, AW.blk kX3_write_0 cX3_write_0 (⟨⟨(((((h).2).2 c76).2).2).1, (by decide)⟩, ⟨fun c75 => AW.blk kX3_write_32 cX3_write_32 (⟨(by decide), ⟨(by decide), ⟨(by decide), ⟨fun c => absurd c (by decide), fun _ => AW.blk kX3_readComparison_102 cX3_readComparison_102 (⟨(by decide), ((((((h).2).2 c76).2).2).2).1 c75⟩)⟩⟩⟩⟩), fun c75 => ⟨⟨((((((((h).2).2 c76).2).2).2).2 c75).1).1, ((((((((h).2).2 c76).2).2).2).2 c75).1).2⟩, ⟨(by decide), ⟨(by decide), ⟨(by decide), ⟨fun c => absurd c (by decide), fun _ => AW.blk kX3_readComparison_102 cX3_readComparison_102 (⟨(by decide), (((((((((h).2).2 c76).2).2).2).2 c75).2) _ rfl) _ rfl⟩)⟩⟩⟩⟩⟩⟩⟩)⟩)⟩⟩⟩)
def kX3_readFact_0 : List BI := [bi (.aload_n 0) 1 [] 0, bi (.getfield 40) 3 [3, 0] 0, bi (.ldc 99) 2 [2] 0, bi (.invokevirtual 51) 3 [mX7_wordAmong, 2, 6, 7] 0]
theorem cX3_readFact_0 : chk mX3_readFact 0 kX3_readFact_0 = true := by decide +kernel
theorem qF_0 {d : Nat} {σ : SG} {Q : Option AV → SG → Prop} (h : (0 < d) ∧ AW (d - 1) mX7_wordAmong 0 [some (.inr (.inr 2)), some (.inr (.inr 1002)), none, none, none, none] [] σ (fun rr σ' => AW d mX3_readFact 9 [some (.inr (.inr 27))] (rtS rr []) σ' Q)) : AW d mX3_readFact 0 [some (.inr (.inr 27))] [] σ Q := AW.blk kX3_readFact_0 cX3_readFact_0 (⟨(h).1, (h).2⟩)
def kX3_readFact_26 : List BI := [bi (.aload_n 0) 1 [] 0, bi (.getfield 40) 3 [3, 0] 0, bi (.ldc 101) 2 [3] 0, bi (.invokevirtual 51) 3 [mX7_wordAmong, 2, 6, 7] 0]
theorem cX3_readFact_26 : chk mX3_readFact 26 kX3_readFact_26 = true := by decide +kernel
def kX3_readFact_9 : List BI := [bi (.iconst (-1)) 1 [] 0, bi (.if_icmp .eq (16)) 3 [26] 0, bi (.aload_n 0) 1 [] 0, bi (.getfield 40) 3 [3, 0] 0, bi (.invokevirtual 59) 3 [mX7_advance, 1, 3, 7] 0]
theorem cX3_readFact_9 : chk mX3_readFact 9 kX3_readFact_9 = true := by decide +kernel
theorem qF_9 {d : Nat} {σ : SG} {Q : Option AV → SG → Prop} {s0 : Int} (h : (r3 s0) ∧ (s0 = (-1) → (0 < d) ∧ AW (d - 1) mX7_wordAmong 0 [some (.inr (.inr 2)), some (.inr (.inr 1003)), none, none, none, none] [] σ (fun rr σ' => AW d mX3_readFact 35 [some (.inr (.inr 27))] (rtS rr []) σ' Q)) ∧ (s0 ≠ (-1) → (0 < d) ∧ AW (d - 1) mX7_advance 0 [some (.inr (.inr 2)), none, none] [] σ (fun rr σ' => AW d mX3_readFact 20 [some (.inr (.inr 27))] (rtS rr []) σ' Q))) : AW d mX3_readFact 9 [some (.inr (.inr 27))] [.inl s0] σ Q := AW.blk kX3_readFact_9 cX3_readFact_9 (⟨⟨(h).1, (by decide)⟩, ⟨fun c77 => AW.blk kX3_readFact_26 cX3_readFact_26 (⟨(((h).2).1 c77).1, (((h).2).1 c77).2⟩), fun c77 => ⟨(((h).2).2 c77).1, (((h).2).2 c77).2⟩⟩⟩)
def kX3_readFact_113 : List BI := [bi (.aload_n 0) 1 [] 0, bi (.invokevirtual 112) 3 [mX3_readComparison, 1, 2, 3] 0]
theorem cX3_readFact_113 : chk mX3_readFact 113 kX3_readFact_113 = true := by decide +kernel
def kX3_readFact_72 : List BI := [bi (.aload_n 0) 1 [] 0, bi (.getfield 40) 3 [3, 0] 0, bi (.bipush (91)) 2 [] 0, bi (.invokevirtual 106) 3 [mX7_isSign, 2, 2, 7] 0, bi (.ifCond .eq (32)) 3 [113] 0, bi (.aload_n 0) 1 [] 0, bi (.invokevirtual 103) 3 [mX3_openOne, 1, 1, 3] 0]
theorem cX3_readFact_72 : chk mX3_readFact 72 kX3_readFact_72 = true := by decide +kernel
def kX3_readFact_35 : List BI := [bi (.iconst (-1)) 1 [] 0, bi (.if_icmp .eq (36)) 3 [72] 0, bi (.aload_n 0) 1 [] 0, bi (.invokevirtual 103) 3 [mX3_openOne, 1, 1, 3] 0]
theorem cX3_readFact_35 : chk mX3_readFact 35 kX3_readFact_35 = true := by decide +kernel
theorem qF_35 {d : Nat} {σ : SG} {Q : Option AV → SG → Prop} {s0 : Int} (h : (r3 s0) ∧ (s0 = (-1) → (0 < d) ∧ (sgO σ 91) ∧ (r3 (sgW σ 91)) ∧ ((sgW σ 91) = 0 → (0 < d) ∧ AW (d - 1) mX3_readComparison 0 [some (.inr (.inr 27)), none] [] σ (fun rr σ' => AW d mX3_readFact 117 [some (.inr (.inr 27))] (rtS rr []) σ' Q)) ∧ ((sgW σ 91) ≠ 0 → (0 < d) ∧ AW (d - 1) mX3_openOne 0 [some (.inr (.inr 27))] [] σ (fun rr σ' => AW d mX3_readFact 88 [some (.inr (.inr 27))] (rtS rr []) σ' Q))) ∧ (s0 ≠ (-1) → (0 < d) ∧ AW (d - 1) mX3_openOne 0 [some (.inr (.inr 27))] [] σ (fun rr σ' => AW d mX3_readFact 43 [some (.inr (.inr 27))] (rtS rr []) σ' Q))) : AW d mX3_readFact 35 [some (.inr (.inr 27))] [.inl s0] σ Q := AW.blk kX3_readFact_35 cX3_readFact_35 (⟨⟨(h).1, (by decide)⟩, ⟨fun c79 => AW.blk kX3_readFact_72 cX3_readFact_72 (⟨(((h).2).1 c79).1, tis_ok ⟨((((h).2).1 c79).2).1, ⟨(((((h).2).1 c79).2).2).1, ⟨fun c78 => AW.blk kX3_readFact_113 cX3_readFact_113 (⟨(((((((h).2).1 c79).2).2).2).1 c78).1, (((((((h).2).1 c79).2).2).2).1 c78).2⟩), fun c78 => ⟨(((((((h).2).1 c79).2).2).2).2 c78).1, (((((((h).2).1 c79).2).2).2).2 c78).2⟩⟩⟩⟩⟩), fun c79 => ⟨(((h).2).2 c79).1, (((h).2).2 c79).2⟩⟩⟩)
def kX3_readFact_20 : List BI := [bi (.aload_n 0) 1 [] 0, bi (.iconst 1) 1 [] 0, bi (.invokevirtual 71) 3 [mX3_write, 2, 2, 3] 0, bi (.ireturn) 1 [1] 0]
theorem cX3_readFact_20 : chk mX3_readFact 20 kX3_readFact_20 = true := by decide +kernel
theorem qF_20 {d : Nat} {σ : SG} {Q : Option AV → SG → Prop} (h : (0 < d) ∧ (r3 (σ 27 3)) ∧ (1600 ≤ (σ 27 3) → Q (some (.inl 1)) σ) ∧ ((σ 27 3) < 1600 → (0 ≤ (σ 27 3) ∧ (σ 27 3) < 1600) ∧ (∀ S80 : SG, S80 = up σ 28 (σ 27 3) 1 → (∀ S81 : SG, S81 = up S80 27 3 ((S80 27 3) + 1) → Q (some (.inl 1)) S81)))) : AW d mX3_readFact 20 [some (.inr (.inr 27))] [] σ Q := AW.blk kX3_readFact_20 cX3_readFact_20 (⟨(h).1, AW.blk kX3_write_0 cX3_write_0 (⟨⟨((h).2).1, (by decide)⟩, ⟨fun c82 => AW.blk kX3_write_32 cX3_write_32 (⟨(by decide), ⟨(by decide), (((h).2).2).1 c82⟩⟩), fun c82 => ⟨⟨(((((h).2).2).2 c82).1).1, (((((h).2).2).2 c82).1).2⟩, ⟨(by decide), ⟨(by decide), ((((((h).2).2).2 c82).2) _ rfl) _ rfl⟩⟩⟩⟩⟩)⟩)
def kX3_readFact_117 : List BI := [bi (.ireturn) 1 [1] 0]
theorem cX3_readFact_117 : chk mX3_readFact 117 kX3_readFact_117 = true := by decide +kernel
theorem qF_117 {d : Nat} {σ : SG} {Q : Option AV → SG → Prop} {s0 : Int} (h : ((s0 = 0 ∨ s0 = 1)) ∧ Q (some (.inl s0)) σ) : AW d mX3_readFact 117 [some (.inr (.inr 27))] [.inl s0] σ Q := AW.blk kX3_readFact_117 cX3_readFact_117 (⟨(h).1, (h).2⟩)
def kX3_readFact_111 : List BI := [bi (.iconst 0) 1 [] 0, bi (.ireturn) 1 [1] 0]
theorem cX3_readFact_111 : chk mX3_readFact 111 kX3_readFact_111 = true := by decide +kernel
def kX3_readFact_88 : List BI := [bi (.ifCond .eq (23)) 3 [111] 0, bi (.aload_n 0) 1 [] 0, bi (.invokevirtual 62) 3 [mX3_readTest, 1, 2, 3] 0]
theorem cX3_readFact_88 : chk mX3_readFact 88 kX3_readFact_88 = true := by decide +kernel
theorem qF_88 {d : Nat} {σ : SG} {Q : Option AV → SG → Prop} {s0 : Int} (h : (r3 s0) ∧ (s0 = 0 → Q (some (.inl 0)) σ) ∧ (s0 ≠ 0 → (0 < d) ∧ AW (d - 1) mX3_readTest 0 [some (.inr (.inr 27)), none] [] σ (fun rr σ' => AW d mX3_readFact 95 [some (.inr (.inr 27))] (rtS rr []) σ' Q))) : AW d mX3_readFact 88 [some (.inr (.inr 27))] [.inl s0] σ Q := AW.blk kX3_readFact_88 cX3_readFact_88 (⟨(h).1, ⟨fun c83 => AW.blk kX3_readFact_111 cX3_readFact_111 (⟨(by decide), ((h).2).1 c83⟩), fun c83 => ⟨(((h).2).2 c83).1, (((h).2).2 c83).2⟩⟩⟩)
def kX3_readFact_53 : List BI := [bi (.iconst 0) 1 [] 0, bi (.ireturn) 1 [1] 0]
theorem cX3_readFact_53 : chk mX3_readFact 53 kX3_readFact_53 = true := by decide +kernel
def kX3_readFact_43 : List BI := [bi (.ifCond .eq (10)) 3 [53] 0, bi (.aload_n 0) 1 [] 0, bi (.invokevirtual 94) 3 [mX3_readFact, 1, 1, 3] 0]
theorem cX3_readFact_43 : chk mX3_readFact 43 kX3_readFact_43 = true := by decide +kernel
theorem qF_43 {d : Nat} {σ : SG} {Q : Option AV → SG → Prop} {s0 : Int} (h : (r3 s0) ∧ (s0 = 0 → Q (some (.inl 0)) σ) ∧ (s0 ≠ 0 → (0 < d) ∧ AW (d - 1) mX3_readFact 0 [some (.inr (.inr 27))] [] σ (fun rr σ' => AW d mX3_readFact 50 [some (.inr (.inr 27))] (rtS rr []) σ' Q))) : AW d mX3_readFact 43 [some (.inr (.inr 27))] [.inl s0] σ Q := AW.blk kX3_readFact_43 cX3_readFact_43 (⟨(h).1, ⟨fun c84 => AW.blk kX3_readFact_53 cX3_readFact_53 (⟨(by decide), ((h).2).1 c84⟩), fun c84 => ⟨(((h).2).2 c84).1, (((h).2).2 c84).2⟩⟩⟩)
def kX3_readFact_95 : List BI := [bi (.ifCond .eq (16)) 3 [111] 0, bi (.aload_n 0) 1 [] 0, bi (.bipush (93)) 2 [] 0, bi (.invokevirtual 109) 3 [mX3_closeWith, 2, 2, 3] 0]
theorem cX3_readFact_95 : chk mX3_readFact 95 kX3_readFact_95 = true := by decide +kernel
theorem qF_95 {d : Nat} {σ : SG} {Q : Option AV → SG → Prop} {s0 : Int} (h : (r3 s0) ∧ (s0 = 0 → Q (some (.inl 0)) σ) ∧ (s0 ≠ 0 → (0 < d) ∧ AW (d - 1) mX3_closeWith 0 [some (.inr (.inr 27)), some (.inl 93)] [] σ (fun rr σ' => AW d mX3_readFact 104 [some (.inr (.inr 27))] (rtS rr []) σ' Q))) : AW d mX3_readFact 95 [some (.inr (.inr 27))] [.inl s0] σ Q := AW.blk kX3_readFact_95 cX3_readFact_95 (⟨(h).1, ⟨fun c85 => AW.blk kX3_readFact_111 cX3_readFact_111 (⟨(by decide), ((h).2).1 c85⟩), fun c85 => ⟨(((h).2).2 c85).1, (((h).2).2 c85).2⟩⟩⟩)
def kX3_readFact_55 : List BI := [bi (.aload_n 0) 1 [] 0, bi (.dup) 1 [] 0, bi (.getfield 25) 3 [3, 5] 0, bi (.iconst 1) 1 [] 0, bi (.isub) 1 [] 0, bi (.putfield 25) 3 [3, 5] 0, bi (.aload_n 0) 1 [] 0, bi (.bipush (19)) 2 [] 0, bi (.invokevirtual 91) 3 [mX3_writeSign, 2, 2, 3] 0, bi (.ireturn) 1 [1] 0]
theorem cX3_readFact_55 : chk mX3_readFact 55 kX3_readFact_55 = true := by decide +kernel
def kX3_readFact_50 : List BI := [bi (.ifCond .ne (5)) 3 [55] 0, bi (.iconst 0) 1 [] 0, bi (.ireturn) 1 [1] 0]
theorem cX3_readFact_50 : chk mX3_readFact 50 kX3_readFact_50 = true := by decide +kernel
theorem qF_50 {d : Nat} {σ : SG} {Q : Option AV → SG → Prop} {s0 : Int} (h : (r3 s0) ∧ (s0 ≠ 0 → (∀ S86 : SG, S86 = up σ 27 5 ((σ 27 5) - 1) → (0 < d) ∧ (0 < d - 1) ∧ (r3 (S86 27 3)) ∧ (1600 ≤ (S86 27 3) → Q (some (.inl 1)) S86) ∧ ((S86 27 3) < 1600 → (0 ≤ (S86 27 3) ∧ (S86 27 3) < 1600) ∧ (∀ S87 : SG, S87 = up S86 28 (S86 27 3) (-20) → (∀ S88 : SG, S88 = up S87 27 3 ((S87 27 3) + 1) → Q (some (.inl 1)) S88))))) ∧ (s0 = 0 → Q (some (.inl 0)) σ)) : AW d mX3_readFact 50 [some (.inr (.inr 27))] [.inl s0] σ Q := AW.blk kX3_readFact_50 cX3_readFact_50 (⟨(h).1, ⟨fun c90 => AW.blk kX3_readFact_55 cX3_readFact_55 (⟨((((h).2).1 c90) _ rfl).1, AW.blk kX3_writeSign_0 cX3_writeSign_0 (⟨(((((h).2).1 c90) _ rfl).2).1, AW.blk kX3_write_0 cX3_write_0 (⟨⟨((((((h).2).1 c90) _ rfl).2).2).1, (by decide)⟩, ⟨fun c89 => AW.blk kX3_write_32 cX3_write_32 (⟨(by decide), ⟨(by decide), ⟨(by decide), (((((((h).2).1 c90) _ rfl).2).2).2).1 c89⟩⟩⟩), fun c89 => ⟨⟨(((((((((h).2).1 c90) _ rfl).2).2).2).2 c89).1).1, (((((((((h).2).1 c90) _ rfl).2).2).2).2 c89).1).2⟩, ⟨(by decide), ⟨(by decide), ⟨(by decide), ((((((((((h).2).1 c90) _ rfl).2).2).2).2 c89).2) _ rfl) _ rfl⟩⟩⟩⟩⟩⟩)⟩)⟩), fun c90 => ⟨(by decide), ((h).2).2 c90⟩⟩⟩)
def kX3_readFact_112 : List BI := [bi (.ireturn) 1 [1] 0]
theorem cX3_readFact_112 : chk mX3_readFact 112 kX3_readFact_112 = true := by decide +kernel
def kX3_readFact_104 : List BI := [bi (.ifCond .eq (7)) 3 [111] 0, bi (.iconst 1) 1 [] 0, bi (.goto (4)) 3 [112] 0]
theorem cX3_readFact_104 : chk mX3_readFact 104 kX3_readFact_104 = true := by decide +kernel
theorem qF_104 {d : Nat} {σ : SG} {Q : Option AV → SG → Prop} {s0 : Int} (h : (r3 s0) ∧ (s0 = 0 → Q (some (.inl 0)) σ) ∧ (s0 ≠ 0 → Q (some (.inl 1)) σ)) : AW d mX3_readFact 104 [some (.inr (.inr 27))] [.inl s0] σ Q := AW.blk kX3_readFact_104 cX3_readFact_104 (⟨(h).1, ⟨fun c91 => AW.blk kX3_readFact_111 cX3_readFact_111 (⟨(by decide), ((h).2).1 c91⟩), fun c91 => AW.blk kX3_readFact_112 cX3_readFact_112 (⟨(by decide), ((h).2).2 c91⟩)⟩⟩)
def kX3_readBoth_0 : List BI := [bi (.aload_n 0) 1 [] 0, bi (.invokevirtual 94) 3 [mX3_readFact, 1, 1, 3] 0]
theorem cX3_readBoth_0 : chk mX3_readBoth 0 kX3_readBoth_0 = true := by decide +kernel
theorem qB_0 {d : Nat} {σ : SG} {Q : Option AV → SG → Prop} (h : (0 < d) ∧ AW (d - 1) mX3_readFact 0 [some (.inr (.inr 27))] [] σ (fun rr σ' => AW d mX3_readBoth 4 [some (.inr (.inr 27)), none] (rtS rr []) σ' Q)) : AW d mX3_readBoth 0 [some (.inr (.inr 27)), none] [] σ Q := AW.blk kX3_readBoth_0 cX3_readBoth_0 (⟨(h).1, (h).2⟩)
def kX3_readBoth_9 : List BI := [bi (.iconst 0) 1 [] 0, bi (.istore_n 1) 1 [] 0]
theorem cX3_readBoth_9 : chk mX3_readBoth 9 kX3_readBoth_9 = true := by decide +kernel
def kX3_readBoth_4 : List BI := [bi (.ifCond .ne (5)) 3 [9] 0, bi (.iconst 0) 1 [] 0, bi (.ireturn) 1 [1] 0]
theorem cX3_readBoth_4 : chk mX3_readBoth 4 kX3_readBoth_4 = true := by decide +kernel
theorem qB_4 {d : Nat} {σ : SG} {Q : Option AV → SG → Prop} {s0 : Int} (h : (r3 s0) ∧ (s0 ≠ 0 → AW d mX3_readBoth 11 [some (.inr (.inr 27)), some (.inl 0)] [] σ Q) ∧ (s0 = 0 → Q (some (.inl 0)) σ)) : AW d mX3_readBoth 4 [some (.inr (.inr 27)), none] [.inl s0] σ Q := AW.blk kX3_readBoth_4 cX3_readBoth_4 (⟨(h).1, ⟨fun c92 => AW.blk kX3_readBoth_9 cX3_readBoth_9 (((h).2).1 c92), fun c92 => ⟨(by decide), ((h).2).2 c92⟩⟩⟩)
def kX3_readBoth_60 : List BI := [bi (.iconst 1) 1 [] 0, bi (.ireturn) 1 [1] 0]
theorem cX3_readBoth_60 : chk mX3_readBoth 60 kX3_readBoth_60 = true := by decide +kernel
def kX3_readBoth_11 : List BI := [bi (.iload_n 1) 1 [] 0, bi (.sipush (1600)) 3 [] 0, bi (.if_icmp .ge (45)) 3 [60] 0, bi (.aload_n 0) 1 [] 0, bi (.getfield 40) 3 [3, 0] 0, bi (.ldc 97) 2 [5] 0, bi (.invokevirtual 51) 3 [mX7_wordAmong, 2, 6, 7] 0]
theorem cX3_readBoth_11 : chk mX3_readBoth 11 kX3_readBoth_11 = true := by decide +kernel
theorem qB_11 {d : Nat} {σ : SG} {Q : Option AV → SG → Prop} {l1 : Int} (h : (r3 l1) ∧ (1600 ≤ l1 → Q (some (.inl 1)) σ) ∧ (l1 < 1600 → (0 < d) ∧ AW (d - 1) mX7_wordAmong 0 [some (.inr (.inr 2)), some (.inr (.inr 1005)), none, none, none, none] [] σ (fun rr σ' => AW d mX3_readBoth 27 [some (.inr (.inr 27)), some (.inl l1)] (rtS rr []) σ' Q))) : AW d mX3_readBoth 11 [some (.inr (.inr 27)), some (.inl l1)] [] σ Q := AW.blk kX3_readBoth_11 cX3_readBoth_11 (⟨⟨(h).1, (by decide)⟩, ⟨fun c93 => AW.blk kX3_readBoth_60 cX3_readBoth_60 (⟨(by decide), ((h).2).1 c93⟩), fun c93 => ⟨(((h).2).2 c93).1, (((h).2).2 c93).2⟩⟩⟩)
def kX3_readBoth_27 : List BI := [bi (.iconst (-1)) 1 [] 0, bi (.if_icmp .eq (32)) 3 [60] 0, bi (.aload_n 0) 1 [] 0, bi (.getfield 40) 3 [3, 0] 0, bi (.invokevirtual 59) 3 [mX7_advance, 1, 3, 7] 0]
theorem cX3_readBoth_27 : chk mX3_readBoth 27 kX3_readBoth_27 = true := by decide +kernel
theorem qB_27 {d : Nat} {σ : SG} {Q : Option AV → SG → Prop} {l1 s0 : Int} (h : (r3 s0) ∧ (s0 = (-1) → Q (some (.inl 1)) σ) ∧ (s0 ≠ (-1) → (0 < d) ∧ AW (d - 1) mX7_advance 0 [some (.inr (.inr 2)), none, none] [] σ (fun rr σ' => AW d mX3_readBoth 38 [some (.inr (.inr 27)), some (.inl l1)] (rtS rr []) σ' Q))) : AW d mX3_readBoth 27 [some (.inr (.inr 27)), some (.inl l1)] [.inl s0] σ Q := AW.blk kX3_readBoth_27 cX3_readBoth_27 (⟨⟨(h).1, (by decide)⟩, ⟨fun c94 => AW.blk kX3_readBoth_60 cX3_readBoth_60 (⟨(by decide), ((h).2).1 c94⟩), fun c94 => ⟨(((h).2).2 c94).1, (((h).2).2 c94).2⟩⟩⟩)
def kX3_readBoth_38 : List BI := [bi (.aload_n 0) 1 [] 0, bi (.invokevirtual 94) 3 [mX3_readFact, 1, 1, 3] 0]
theorem cX3_readBoth_38 : chk mX3_readBoth 38 kX3_readBoth_38 = true := by decide +kernel
theorem qB_38 {d : Nat} {σ : SG} {Q : Option AV → SG → Prop} {l1 : Int} (h : (0 < d) ∧ AW (d - 1) mX3_readFact 0 [some (.inr (.inr 27))] [] σ (fun rr σ' => AW d mX3_readBoth 42 [some (.inr (.inr 27)), some (.inl l1)] (rtS rr []) σ' Q)) : AW d mX3_readBoth 38 [some (.inr (.inr 27)), some (.inl l1)] [] σ Q := AW.blk kX3_readBoth_38 cX3_readBoth_38 (⟨(h).1, (h).2⟩)
def kX3_readBoth_47 : List BI := [bi (.aload_n 0) 1 [] 0, bi (.bipush (17)) 2 [] 0, bi (.invokevirtual 91) 3 [mX3_writeSign, 2, 2, 3] 0, bi (.pop) 1 [] 0, bi (.iinc 1 (1)) 3 [] 0, bi (.goto (-46)) 3 [11] 0]
theorem cX3_readBoth_47 : chk mX3_readBoth 47 kX3_readBoth_47 = true := by decide +kernel
def kX3_readBoth_42 : List BI := [bi (.ifCond .ne (5)) 3 [47] 0, bi (.iconst 0) 1 [] 0, bi (.ireturn) 1 [1] 0]
theorem cX3_readBoth_42 : chk mX3_readBoth 42 kX3_readBoth_42 = true := by decide +kernel
theorem qB_42 {d : Nat} {σ : SG} {Q : Option AV → SG → Prop} {l1 s0 : Int} (h : (r3 s0) ∧ (s0 ≠ 0 → (0 < d) ∧ (0 < d - 1) ∧ (r3 (σ 27 3)) ∧ (1600 ≤ (σ 27 3) → AW d mX3_readBoth 11 [some (.inr (.inr 27)), some (.inl (l1 + 1))] [] σ Q) ∧ ((σ 27 3) < 1600 → (0 ≤ (σ 27 3) ∧ (σ 27 3) < 1600) ∧ (∀ S95 : SG, S95 = up σ 28 (σ 27 3) (-18) → (∀ S96 : SG, S96 = up S95 27 3 ((S95 27 3) + 1) → AW d mX3_readBoth 11 [some (.inr (.inr 27)), some (.inl (l1 + 1))] [] S96 Q)))) ∧ (s0 = 0 → Q (some (.inl 0)) σ)) : AW d mX3_readBoth 42 [some (.inr (.inr 27)), some (.inl l1)] [.inl s0] σ Q := AW.blk kX3_readBoth_42 cX3_readBoth_42 (⟨(h).1, ⟨fun c98 => AW.blk kX3_readBoth_47 cX3_readBoth_47 (⟨(((h).2).1 c98).1, AW.blk kX3_writeSign_0 cX3_writeSign_0 (⟨((((h).2).1 c98).2).1, AW.blk kX3_write_0 cX3_write_0 (⟨⟨(((((h).2).1 c98).2).2).1, (by decide)⟩, ⟨fun c97 => AW.blk kX3_write_32 cX3_write_32 (⟨(by decide), ⟨(by decide), ((((((h).2).1 c98).2).2).2).1 c97⟩⟩), fun c97 => ⟨⟨((((((((h).2).1 c98).2).2).2).2 c97).1).1, ((((((((h).2).1 c98).2).2).2).2 c97).1).2⟩, ⟨(by decide), ⟨(by decide), (((((((((h).2).1 c98).2).2).2).2 c97).2) _ rfl) _ rfl⟩⟩⟩⟩⟩)⟩)⟩), fun c98 => ⟨(by decide), ((h).2).2 c98⟩⟩⟩)
def kX3_readTest_0 : List BI := [bi (.aload_n 0) 1 [] 0, bi (.invokevirtual 86) 3 [mX3_readBoth, 1, 2, 3] 0]
theorem cX3_readTest_0 : chk mX3_readTest 0 kX3_readTest_0 = true := by decide +kernel
theorem qT_0 {d : Nat} {σ : SG} {Q : Option AV → SG → Prop} (h : (0 < d) ∧ AW (d - 1) mX3_readBoth 0 [some (.inr (.inr 27)), none] [] σ (fun rr σ' => AW d mX3_readTest 4 [some (.inr (.inr 27)), none] (rtS rr []) σ' Q)) : AW d mX3_readTest 0 [some (.inr (.inr 27)), none] [] σ Q := AW.blk kX3_readTest_0 cX3_readTest_0 (⟨(h).1, (h).2⟩)
def kX3_readTest_9 : List BI := [bi (.iconst 0) 1 [] 0, bi (.istore_n 1) 1 [] 0]
theorem cX3_readTest_9 : chk mX3_readTest 9 kX3_readTest_9 = true := by decide +kernel
def kX3_readTest_4 : List BI := [bi (.ifCond .ne (5)) 3 [9] 0, bi (.iconst 0) 1 [] 0, bi (.ireturn) 1 [1] 0]
theorem cX3_readTest_4 : chk mX3_readTest 4 kX3_readTest_4 = true := by decide +kernel
theorem qT_4 {d : Nat} {σ : SG} {Q : Option AV → SG → Prop} {s0 : Int} (h : (r3 s0) ∧ (s0 ≠ 0 → AW d mX3_readTest 11 [some (.inr (.inr 27)), some (.inl 0)] [] σ Q) ∧ (s0 = 0 → Q (some (.inl 0)) σ)) : AW d mX3_readTest 4 [some (.inr (.inr 27)), none] [.inl s0] σ Q := AW.blk kX3_readTest_4 cX3_readTest_4 (⟨(h).1, ⟨fun c99 => AW.blk kX3_readTest_9 cX3_readTest_9 (((h).2).1 c99), fun c99 => ⟨(by decide), ((h).2).2 c99⟩⟩⟩)
def kX3_readTest_60 : List BI := [bi (.iconst 1) 1 [] 0, bi (.ireturn) 1 [1] 0]
theorem cX3_readTest_60 : chk mX3_readTest 60 kX3_readTest_60 = true := by decide +kernel
def kX3_readTest_11 : List BI := [bi (.iload_n 1) 1 [] 0, bi (.sipush (1600)) 3 [] 0, bi (.if_icmp .ge (45)) 3 [60] 0, bi (.aload_n 0) 1 [] 0, bi (.getfield 40) 3 [3, 0] 0, bi (.ldc 89) 2 [6] 0, bi (.invokevirtual 51) 3 [mX7_wordAmong, 2, 6, 7] 0]
theorem cX3_readTest_11 : chk mX3_readTest 11 kX3_readTest_11 = true := by decide +kernel
theorem qT_11 {d : Nat} {σ : SG} {Q : Option AV → SG → Prop} {l1 : Int} (h : (r3 l1) ∧ (1600 ≤ l1 → Q (some (.inl 1)) σ) ∧ (l1 < 1600 → (0 < d) ∧ AW (d - 1) mX7_wordAmong 0 [some (.inr (.inr 2)), some (.inr (.inr 1006)), none, none, none, none] [] σ (fun rr σ' => AW d mX3_readTest 27 [some (.inr (.inr 27)), some (.inl l1)] (rtS rr []) σ' Q))) : AW d mX3_readTest 11 [some (.inr (.inr 27)), some (.inl l1)] [] σ Q := AW.blk kX3_readTest_11 cX3_readTest_11 (⟨⟨(h).1, (by decide)⟩, ⟨fun c100 => AW.blk kX3_readTest_60 cX3_readTest_60 (⟨(by decide), ((h).2).1 c100⟩), fun c100 => ⟨(((h).2).2 c100).1, (((h).2).2 c100).2⟩⟩⟩)
def kX3_readTest_27 : List BI := [bi (.iconst (-1)) 1 [] 0, bi (.if_icmp .eq (32)) 3 [60] 0, bi (.aload_n 0) 1 [] 0, bi (.getfield 40) 3 [3, 0] 0, bi (.invokevirtual 59) 3 [mX7_advance, 1, 3, 7] 0]
theorem cX3_readTest_27 : chk mX3_readTest 27 kX3_readTest_27 = true := by decide +kernel
theorem qT_27 {d : Nat} {σ : SG} {Q : Option AV → SG → Prop} {l1 s0 : Int} (h : (r3 s0) ∧ (s0 = (-1) → Q (some (.inl 1)) σ) ∧ (s0 ≠ (-1) → (0 < d) ∧ AW (d - 1) mX7_advance 0 [some (.inr (.inr 2)), none, none] [] σ (fun rr σ' => AW d mX3_readTest 38 [some (.inr (.inr 27)), some (.inl l1)] (rtS rr []) σ' Q))) : AW d mX3_readTest 27 [some (.inr (.inr 27)), some (.inl l1)] [.inl s0] σ Q := AW.blk kX3_readTest_27 cX3_readTest_27 (⟨⟨(h).1, (by decide)⟩, ⟨fun c101 => AW.blk kX3_readTest_60 cX3_readTest_60 (⟨(by decide), ((h).2).1 c101⟩), fun c101 => ⟨(((h).2).2 c101).1, (((h).2).2 c101).2⟩⟩⟩)
def kX3_readTest_38 : List BI := [bi (.aload_n 0) 1 [] 0, bi (.invokevirtual 86) 3 [mX3_readBoth, 1, 2, 3] 0]
theorem cX3_readTest_38 : chk mX3_readTest 38 kX3_readTest_38 = true := by decide +kernel
theorem qT_38 {d : Nat} {σ : SG} {Q : Option AV → SG → Prop} {l1 : Int} (h : (0 < d) ∧ AW (d - 1) mX3_readBoth 0 [some (.inr (.inr 27)), none] [] σ (fun rr σ' => AW d mX3_readTest 42 [some (.inr (.inr 27)), some (.inl l1)] (rtS rr []) σ' Q)) : AW d mX3_readTest 38 [some (.inr (.inr 27)), some (.inl l1)] [] σ Q := AW.blk kX3_readTest_38 cX3_readTest_38 (⟨(h).1, (h).2⟩)
def kX3_readTest_47 : List BI := [bi (.aload_n 0) 1 [] 0, bi (.bipush (18)) 2 [] 0, bi (.invokevirtual 91) 3 [mX3_writeSign, 2, 2, 3] 0, bi (.pop) 1 [] 0, bi (.iinc 1 (1)) 3 [] 0, bi (.goto (-46)) 3 [11] 0]
theorem cX3_readTest_47 : chk mX3_readTest 47 kX3_readTest_47 = true := by decide +kernel
def kX3_readTest_42 : List BI := [bi (.ifCond .ne (5)) 3 [47] 0, bi (.iconst 0) 1 [] 0, bi (.ireturn) 1 [1] 0]
theorem cX3_readTest_42 : chk mX3_readTest 42 kX3_readTest_42 = true := by decide +kernel
theorem qT_42 {d : Nat} {σ : SG} {Q : Option AV → SG → Prop} {l1 s0 : Int} (h : (r3 s0) ∧ (s0 ≠ 0 → (0 < d) ∧ (0 < d - 1) ∧ (r3 (σ 27 3)) ∧ (1600 ≤ (σ 27 3) → AW d mX3_readTest 11 [some (.inr (.inr 27)), some (.inl (l1 + 1))] [] σ Q) ∧ ((σ 27 3) < 1600 → (0 ≤ (σ 27 3) ∧ (σ 27 3) < 1600) ∧ (∀ S102 : SG, S102 = up σ 28 (σ 27 3) (-19) → (∀ S103 : SG, S103 = up S102 27 3 ((S102 27 3) + 1) → AW d mX3_readTest 11 [some (.inr (.inr 27)), some (.inl (l1 + 1))] [] S103 Q)))) ∧ (s0 = 0 → Q (some (.inl 0)) σ)) : AW d mX3_readTest 42 [some (.inr (.inr 27)), some (.inl l1)] [.inl s0] σ Q := AW.blk kX3_readTest_42 cX3_readTest_42 (⟨(h).1, ⟨fun c105 => AW.blk kX3_readTest_47 cX3_readTest_47 (⟨(((h).2).1 c105).1, AW.blk kX3_writeSign_0 cX3_writeSign_0 (⟨((((h).2).1 c105).2).1, AW.blk kX3_write_0 cX3_write_0 (⟨⟨(((((h).2).1 c105).2).2).1, (by decide)⟩, ⟨fun c104 => AW.blk kX3_write_32 cX3_write_32 (⟨(by decide), ⟨(by decide), ((((((h).2).1 c105).2).2).2).1 c104⟩⟩), fun c104 => ⟨⟨((((((((h).2).1 c105).2).2).2).2 c104).1).1, ((((((((h).2).1 c105).2).2).2).2 c104).1).2⟩, ⟨(by decide), ⟨(by decide), (((((((((h).2).1 c105).2).2).2).2 c104).2) _ rfl) _ rfl⟩⟩⟩⟩⟩)⟩)⟩), fun c105 => ⟨(by decide), ((h).2).2 c105⟩⟩⟩)
def kX3_read_0 : List BI := [bi (.aload_n 0) 1 [] 0, bi (.getfield 40) 3 [3, 0] 0, bi (.invokevirtual 44) 3 [mX7_rewind, 1, 1, 7] 0]
theorem cX3_read_0 : chk mX3_read 0 kX3_read_0 = true := by decide +kernel
theorem qR_0 {d : Nat} {σ : SG} {Q : Option AV → SG → Prop} (h : (0 < d) ∧ AW (d - 1) mX7_rewind 0 [some (.inr (.inr 2))] [] σ (fun rr σ' => AW d mX3_read 7 [some (.inr (.inr 27)), none] (rtS rr []) σ' Q)) : AW d mX3_read 0 [some (.inr (.inr 27)), none] [] σ Q := AW.blk kX3_read_0 cX3_read_0 (⟨(h).1, (h).2⟩)
def kX3_read_7 : List BI := [bi (.aload_n 0) 1 [] 0, bi (.iconst 0) 1 [] 0, bi (.putfield 18) 3 [3, 3] 0, bi (.aload_n 0) 1 [] 0, bi (.iconst 0) 1 [] 0, bi (.putfield 25) 3 [3, 5] 0, bi (.aload_n 0) 1 [] 0, bi (.aload_n 0) 1 [] 0, bi (.getfield 40) 3 [3, 0] 0, bi (.ldc 49) 2 [1] 0, bi (.invokevirtual 51) 3 [mX7_wordAmong, 2, 6, 7] 0]
theorem cX3_read_7 : chk mX3_read 7 kX3_read_7 = true := by decide +kernel
theorem qR_7 {d : Nat} {σ : SG} {Q : Option AV → SG → Prop} (h : (∀ S106 : SG, S106 = up σ 27 3 0 → (∀ S107 : SG, S107 = up S106 27 5 0 → (0 < d) ∧ AW (d - 1) mX7_wordAmong 0 [some (.inr (.inr 2)), some (.inr (.inr 1001)), none, none, none, none] [] S107 (fun rr σ' => AW d mX3_read 27 [some (.inr (.inr 27)), none] (rtS rr [.inr (.inr 27)]) σ' Q)))) : AW d mX3_read 7 [some (.inr (.inr 27)), none] [] σ Q := AW.blk kX3_read_7 cX3_read_7 (⟨(((h) _ rfl) _ rfl).1, (((h) _ rfl) _ rfl).2⟩)
def kX3_read_46 : List BI := [bi (.aload_n 0) 1 [] 0, bi (.getfield 40) 3 [3, 0] 0, bi (.invokevirtual 59) 3 [mX7_advance, 1, 3, 7] 0]
theorem cX3_read_46 : chk mX3_read 46 kX3_read_46 = true := by decide +kernel
def kX3_read_27 : List BI := [bi (.putfield 22) 3 [3, 4] 0, bi (.aload_n 0) 1 [] 0, bi (.getfield 22) 3 [3, 4] 0, bi (.iconst (-1)) 1 [] 0, bi (.if_icmp .ne (11)) 3 [46] 0, bi (.aload_n 0) 1 [] 0, bi (.getfield 40) 3 [3, 0] 0, bi (.invokevirtual 55) 3 [mX7_failHere, 1, 1, 7] 0, bi (.ireturn) 1 [1] 0]
theorem cX3_read_27 : chk mX3_read 27 kX3_read_27 = true := by decide +kernel
theorem qR_27 {d : Nat} {σ : SG} {Q : Option AV → SG → Prop} {s0 : Int} (h : (∀ S108 : SG, S108 = up σ 27 4 s0 → (r3 (S108 27 4)) ∧ ((S108 27 4) ≠ (-1) → (0 < d) ∧ AW (d - 1) mX7_advance 0 [some (.inr (.inr 2)), none, none] [] S108 (fun rr σ' => AW d mX3_read 53 [some (.inr (.inr 27)), none] (rtS rr []) σ' Q)) ∧ ((S108 27 4) = (-1) → (0 < d) ∧ (0 < d - 1) ∧ (r3 (S108 2 2)) ∧ ((S108 2 2) ≠ 0 → Q (some (.inl 0)) S108) ∧ ((S108 2 2) = 0 → (∀ S109 : SG, S109 = up S108 2 2 1 → (∀ S110 : SG, S110 = up S109 2 3 (S108 2 5) → Q (some (.inl 0)) S110)))))) : AW d mX3_read 27 [some (.inr (.inr 27)), none] [.inl s0, .inr (.inr 27)] σ Q := AW.blk kX3_read_27 cX3_read_27 (⟨⟨((h) _ rfl).1, (by decide)⟩, ⟨fun c112 => AW.blk kX3_read_46 cX3_read_46 (⟨((((h) _ rfl).2).1 c112).1, ((((h) _ rfl).2).1 c112).2⟩), fun c112 => ⟨((((h) _ rfl).2).2 c112).1, AW.blk kX7_failHere_0 cX7_failHere_0 (⟨(((((h) _ rfl).2).2 c112).2).1, AW.blk kX7_fail_0 cX7_fail_0 (⟨((((((h) _ rfl).2).2 c112).2).2).1, ⟨fun c111 => AW.blk kX7_fail_17 cX7_fail_17 (⟨(by decide), ⟨(by decide), ⟨(by decide), (((((((h) _ rfl).2).2 c112).2).2).2).1 c111⟩⟩⟩), fun c111 => ⟨(by decide), ⟨(by decide), ⟨(by decide), (((((((((h) _ rfl).2).2 c112).2).2).2).2 c111) _ rfl) _ rfl⟩⟩⟩⟩⟩)⟩)⟩⟩⟩)
def kX3_read_68 : List BI := [bi (.aload_n 0) 1 [] 0, bi (.invokevirtual 65) 3 [mX3_readSum, 1, 3, 3] 0]
theorem cX3_read_68 : chk mX3_read 68 kX3_read_68 = true := by decide +kernel
def kX3_read_53 : List BI := [bi (.aload_n 0) 1 [] 0, bi (.getfield 22) 3 [3, 4] 0, bi (.iconst 2) 1 [] 0, bi (.if_icmp .gt (10)) 3 [68] 0, bi (.aload_n 0) 1 [] 0, bi (.invokevirtual 62) 3 [mX3_readTest, 1, 2, 3] 0]
theorem cX3_read_53 : chk mX3_read 53 kX3_read_53 = true := by decide +kernel
theorem qR_53 {d : Nat} {σ : SG} {Q : Option AV → SG → Prop} (h : (r3 (σ 27 4)) ∧ (2 < (σ 27 4) → (0 < d) ∧ AW (d - 1) mX3_readSum 0 [some (.inr (.inr 27)), none, none] [] σ (fun rr σ' => AW d mX3_read 72 [some (.inr (.inr 27)), none] (rtS rr []) σ' Q)) ∧ ((σ 27 4) ≤ 2 → (0 < d) ∧ AW (d - 1) mX3_readTest 0 [some (.inr (.inr 27)), none] [] σ (fun rr σ' => AW d mX3_read 65 [some (.inr (.inr 27)), none] (rtS rr []) σ' Q))) : AW d mX3_read 53 [some (.inr (.inr 27)), none] [] σ Q := AW.blk kX3_read_53 cX3_read_53 (⟨⟨(h).1, (by decide)⟩, ⟨fun c113 => AW.blk kX3_read_68 cX3_read_68 (⟨(((h).2).1 c113).1, (((h).2).1 c113).2⟩), fun c113 => ⟨(((h).2).2 c113).1, (((h).2).2 c113).2⟩⟩⟩)
def kX3_read_101 : List BI := [bi (.iconst 0) 1 [] 0, bi (.ireturn) 1 [1] 0]
theorem cX3_read_101 : chk mX3_read 101 kX3_read_101 = true := by decide +kernel
def kX3_read_102 : List BI := [bi (.ireturn) 1 [1] 0]
theorem cX3_read_102 : chk mX3_read 102 kX3_read_102 = true := by decide +kernel
def kX3_read_97 : List BI := [bi (.iconst 1) 1 [] 0, bi (.goto (4)) 3 [102] 0]
theorem cX3_read_97 : chk mX3_read 97 kX3_read_97 = true := by decide +kernel
def kX3_read_72 : List BI := [bi (.istore_n 1) 1 [] 0, bi (.iload_n 1) 1 [] 0, bi (.ifCond .eq (27)) 3 [101] 0, bi (.aload_n 0) 1 [] 0, bi (.getfield 40) 3 [3, 0] 0, bi (.getfield 68) 3 [7, 4] 0, bi (.ifCond .eq (13)) 3 [97] 0, bi (.aload_n 0) 1 [] 0, bi (.getfield 40) 3 [3, 0] 0, bi (.invokevirtual 55) 3 [mX7_failHere, 1, 1, 7] 0, bi (.ifCond .eq (7)) 3 [101] 0, bi (.iconst 1) 1 [] 0, bi (.goto (4)) 3 [102] 0]
theorem cX3_read_72 : chk mX3_read 72 kX3_read_72 = true := by decide +kernel
theorem qR_72 {d : Nat} {σ : SG} {Q : Option AV → SG → Prop} {s0 : Int} (h : (r3 s0) ∧ (s0 = 0 → Q (some (.inl 0)) σ) ∧ (s0 ≠ 0 → (r3 (σ 2 4)) ∧ ((σ 2 4) = 0 → Q (some (.inl 1)) σ) ∧ ((σ 2 4) ≠ 0 → (0 < d) ∧ (0 < d - 1) ∧ (r3 (σ 2 2)) ∧ ((σ 2 2) ≠ 0 → Q (some (.inl 0)) σ) ∧ ((σ 2 2) = 0 → (∀ S114 : SG, S114 = up σ 2 2 1 → (∀ S115 : SG, S115 = up S114 2 3 (σ 2 5) → Q (some (.inl 0)) S115)))))) : AW d mX3_read 72 [some (.inr (.inr 27)), none] [.inl s0] σ Q := AW.blk kX3_read_72 cX3_read_72 (⟨(h).1, ⟨fun c118 => AW.blk kX3_read_101 cX3_read_101 (⟨(by decide), ((h).2).1 c118⟩), fun c118 => ⟨(((h).2).2 c118).1, ⟨fun c117 => AW.blk kX3_read_97 cX3_read_97 (AW.blk kX3_read_102 cX3_read_102 (⟨(by decide), ((((h).2).2 c118).2).1 c117⟩)), fun c117 => ⟨(((((h).2).2 c118).2).2 c117).1, AW.blk kX7_failHere_0 cX7_failHere_0 (⟨((((((h).2).2 c118).2).2 c117).2).1, AW.blk kX7_fail_0 cX7_fail_0 (⟨(((((((h).2).2 c118).2).2 c117).2).2).1, ⟨fun c116 => AW.blk kX7_fail_17 cX7_fail_17 (⟨(by decide), ⟨(by decide), ⟨(by decide), ⟨fun _ => AW.blk kX3_read_101 cX3_read_101 (⟨(by decide), ((((((((h).2).2 c118).2).2 c117).2).2).2).1 c116⟩), fun c => absurd c (by decide)⟩⟩⟩⟩), fun c116 => ⟨(by decide), ⟨(by decide), ⟨(by decide), ⟨fun _ => AW.blk kX3_read_101 cX3_read_101 (⟨(by decide), ((((((((((h).2).2 c118).2).2 c117).2).2).2).2 c116) _ rfl) _ rfl⟩), fun c => absurd c (by decide)⟩⟩⟩⟩⟩⟩)⟩)⟩⟩⟩⟩⟩)
def kX3_read_65 : List BI := [bi (.goto (7)) 3 [72] 0]
theorem cX3_read_65 : chk mX3_read 65 kX3_read_65 = true := by decide +kernel
theorem qR_65 {d : Nat} {σ : SG} {Q : Option AV → SG → Prop} {s0 : Int} (h : (r3 s0) ∧ (s0 = 0 → Q (some (.inl 0)) σ) ∧ (s0 ≠ 0 → (r3 (σ 2 4)) ∧ ((σ 2 4) = 0 → Q (some (.inl 1)) σ) ∧ ((σ 2 4) ≠ 0 → (0 < d) ∧ (0 < d - 1) ∧ (r3 (σ 2 2)) ∧ ((σ 2 2) ≠ 0 → Q (some (.inl 0)) σ) ∧ ((σ 2 2) = 0 → (∀ S119 : SG, S119 = up σ 2 2 1 → (∀ S120 : SG, S120 = up S119 2 3 (σ 2 5) → Q (some (.inl 0)) S120)))))) : AW d mX3_read 65 [some (.inr (.inr 27)), none] [.inl s0] σ Q := AW.blk kX3_read_65 cX3_read_65 (AW.blk kX3_read_72 cX3_read_72 (⟨(h).1, ⟨fun c123 => AW.blk kX3_read_101 cX3_read_101 (⟨(by decide), ((h).2).1 c123⟩), fun c123 => ⟨(((h).2).2 c123).1, ⟨fun c122 => AW.blk kX3_read_97 cX3_read_97 (AW.blk kX3_read_102 cX3_read_102 (⟨(by decide), ((((h).2).2 c123).2).1 c122⟩)), fun c122 => ⟨(((((h).2).2 c123).2).2 c122).1, AW.blk kX7_failHere_0 cX7_failHere_0 (⟨((((((h).2).2 c123).2).2 c122).2).1, AW.blk kX7_fail_0 cX7_fail_0 (⟨(((((((h).2).2 c123).2).2 c122).2).2).1, ⟨fun c121 => AW.blk kX7_fail_17 cX7_fail_17 (⟨(by decide), ⟨(by decide), ⟨(by decide), ⟨fun _ => AW.blk kX3_read_101 cX3_read_101 (⟨(by decide), ((((((((h).2).2 c123).2).2 c122).2).2).2).1 c121⟩), fun c => absurd c (by decide)⟩⟩⟩⟩), fun c121 => ⟨(by decide), ⟨(by decide), ⟨(by decide), ⟨fun _ => AW.blk kX3_read_101 cX3_read_101 (⟨(by decide), ((((((((((h).2).2 c123).2).2 c122).2).2).2).2 c121) _ rfl) _ rfl⟩), fun c => absurd c (by decide)⟩⟩⟩⟩⟩⟩)⟩)⟩⟩⟩⟩⟩))
/-! the class's code of a code; the question's cells -/
def ccq (c : Int) : Int := if 1000 ≤ c then c - 1000 else if c = 13 then 1 else if 60 ≤ c then -1 - (c - 55) else if 40 ≤ c then -1 - (c - 40) else if c = 5 ∨ c = 6 then -1 - (c + 3) else if c ≤ 4 then -1 - (c + 9) else -1 - (c + 7)
def QSc (C : List Int) (op : Int) (σ : SG) : Prop := σ 27 3 = (C.length : Int) ∧ σ 27 5 = op ∧ ∀ i : Nat, i < C.length → σ 28 (i : Int) = ccq (C.getD i 0)
def QFr (σ σ' : SG) : Prop := (∀ p, p ≠ 2 → p ≠ 27 → p ≠ 28 → σ' p = σ p) ∧ ∀ i, i ≠ 3 → i ≠ 5 → σ' 27 i = σ 27 i
theorem QFr.rf (σ : SG) : QFr σ σ := ⟨fun _ _ _ _ => rfl, fun _ _ _ => rfl⟩
theorem QFr.tr {σ σ' σ'' : SG} (h : QFr σ σ') (k : QFr σ' σ'') : QFr σ σ'' := ⟨fun p a b c => (k.1 p a b c).trans (h.1 p a b c), fun i a b => (k.2 i a b).trans (h.2 i a b)⟩
theorem QFr.af {σ σ' : SG} (h : AFr σ σ') : QFr σ σ' := ⟨fun p a _ _ => h p a, fun i _ _ => by rw [h 27 (by decide)]⟩
theorem QSc.af {C : List Int} {op : Int} {σ σ' : SG} (hS : QSc C op σ) (h : AFr σ σ') : QSc C op σ' := by
  unfold QSc
  rw [h 27 (by decide), h 28 (by decide)]
  exact hS
theorem QSc.w {C : List Int} {op v x : Int} {σ : SG} (h : QSc C op σ) (hv : v = ccq x) : QSc (C ++ [x]) op (up (up σ 28 (σ 27 3) v) 27 3 (up σ 28 (σ 27 3) v 27 3 + 1)) ∧ QFr σ (up (up σ 28 (σ 27 3) v) 27 3 (up σ 28 (σ 27 3) v 27 3 + 1)) := by
  obtain ⟨h1, h2, h3⟩ := h
  refine ⟨⟨?_, ?_, fun i hi => ?_⟩, fun p a b c => ?_, fun i a b => ?_⟩
  · rw [up_at, up_p (by decide), h1, List.length_append, List.length_cons, List.length_nil]
    omega
  · rw [up_i (by decide), up_p (by decide)]
    exact h2
  · rw [List.length_append, List.length_cons, List.length_nil] at hi
    rw [up_p (by decide), h1]
    by_cases c : i = C.length
    · rw [c, up_at, hv, List.getD_eq_getElem?_getD, List.getElem?_append_right (Nat.le_refl _), Nat.sub_self]
      rfl
    · rw [up_i (by omega), h3 i (by omega), List.getD_eq_getElem?_getD, List.getD_eq_getElem?_getD, List.getElem?_append_left (by omega)]
  · rw [up_pf b, up_pf c]
  · rw [up_i a, up_p (by decide)]
theorem ctp_w {o : Int → Int} {L : Int} {X : PXv} {σ : SG} {i v j w : Int} (h : CTp o L X σ) : CTp o L X (up (up σ 28 i v) 27 j w) := h.cong (by rw [up_pf (by decide), up_pf (by decide)]) (by rw [up_pf (by decide), up_pf (by decide)])
theorem csgO {o : Int → Int} {L v p e c : Int} {σ : SG} (h : CTp o L (.inr (v, p, e)) σ) (hc : r3 c) : sgO σ c := by
  obtain ⟨⟨h3, h1, hL, ho⟩, ⟨h2, h2'⟩, ⟨t5, t4, t6⟩, hp⟩ := h.f
  have ht := tok (o := o) (L := L) e hp.1 hp.2
  refine ⟨by omega, hc, fun z => ?_⟩
  rw [t4] at z
  have h3' := ht.2.2.2.1 z
  have := ho (sk o L p) (by omega) (by omega)
  rw [h3, t5]
  omega
theorem csgW {o : Int → Int} {L v p e c : Int} {σ : SG} (h : CTp o L (.inr (v, p, e)) σ) (hc : c ≠ -1) : sgW σ c = if qsg o L p e = c then 1 else 0 := by
  obtain ⟨⟨h3, _⟩, _, ⟨t5, t4, _⟩, _⟩ := h.f
  unfold sgW qsg
  rw [h3, t4, t5]
  by_cases k : kd o L e (sk o L p) = 3
  · rw [if_pos k]
    by_cases z : o (sk o L p) = c
    · rw [if_pos ⟨k, z⟩, if_pos z]
    · rw [if_neg (fun y => z y.2), if_neg z]
  · rw [if_neg (fun y => k y.1), if_neg k, if_neg (fun z => hc z.symm)]
theorem csg1 {o : Int → Int} {L v p e c : Int} {σ : SG} (h : CTp o L (.inr (v, p, e)) σ) (hc : c ≠ -1) : r3 (sgW σ c) ∧ (sgW σ c = 0 ↔ qsg o L p e ≠ c) := by
  rw [csgW h hc]
  by_cases z : qsg o L p e = c
  · rw [if_pos z]
    exact ⟨by decide, ⟨fun y => absurd y (by decide), fun y => absurd z y⟩⟩
  · rw [if_neg z]
    exact ⟨by decide, ⟨fun _ => z, fun _ => rfl⟩⟩
theorem copen {d : Nat} {o : Int → Int} {L v p e op : Int} {C : List Int} {σ : SG} {Q : Option AV → SG → Prop} (hd : 3 ≤ d) (h : CTp o L (.inr (v, p, e)) σ) (hS : QSc C op σ) (hop : 0 ≤ op ∧ op ≤ 6) (hq0 : 6 ≤ op → ∀ σ', QFr σ σ' → CTp o L (.inl (4, sk o L p)) σ' → Q (some (.inl 0)) σ') (hq1 : ¬ 6 ≤ op → ∀ σ', QFr σ σ' → CTp o L (.inr (0, te o L (sk o L p), if kd o L e (sk o L p) = 1 ∨ kd o L e (sk o L p) = 2 then te o L (sk o L p) else -1)) σ' → QSc C (op + 1) σ' → Q (some (.inl 1)) σ') : AW d mX3_openOne 0 [some (.inr (.inr 27))] [] σ Q := by
  obtain ⟨_, ⟨h2, h2'⟩, ⟨t5, t4, t6⟩, hp⟩ := h.f
  obtain ⟨s1, s2, s3⟩ := hS
  refine qO_0 ?_
  rw [s2, t5]
  refine ⟨by omega, fun c S1 e1 => ⟨by omega, ?_⟩, fun c => ⟨by omega, by omega, fun z => absurd h2 z, fun _ S2 e2 S3 e3 => ?_⟩⟩
  · have hC1 : CTp o L (.inr (v, p, e)) S1 := h.cong (by rw [e1, up_pf (by decide)]) (by rw [e1, up_pf (by decide)])
    refine cadv 0 (by omega) hC1 (fun T hA hC => qO_42 (hq1 (by omega) T ⟨fun q a b c => ?_, fun i a b => ?_⟩ hC ?_))
    · rw [hA q a, e1, up_pf b]
    · rw [hA 27 (by decide), e1, up_i b]
    · refine ⟨?_, ?_, fun i hi => ?_⟩
      · rw [hA 27 (by decide), e1, up_i (by decide)]
        exact s1
      · rw [hA 27 (by decide), e1, up_at]
      · rw [hA 28 (by decide), e1, up_p (by decide)]
        exact s3 i hi
  · have hf := cfail (k := 4) (pl := sk o L p) h
    rw [e3, e2]
    exact hq0 c _ (QFr.af hf.2) hf.1
theorem cclose {d : Nat} {o : Int → Int} {L v p e c op : Int} {C : List Int} {σ : SG} {Q : Option AV → SG → Prop} (hd : 4 ≤ d) (hc : r3 c) (h : CTp o L (.inr (v, p, e)) σ) (hS : QSc C op σ) (hq : ∀ σ', QFr σ σ' → CTp o L (pxS o L c p e) σ' → QSc C (op - 1) σ' → Q (some (.inl (px1 (pxS o L c p e)))) σ') : AW d mX3_closeWith 0 [some (.inr (.inr 27)), some (.inl c)] [] σ Q := by
  obtain ⟨s1, s2, s3⟩ := hS
  refine qC_0 (fun S1 e1 => ⟨by omega, ?_⟩)
  have hC1 : CTp o L (.inr (v, p, e)) S1 := h.cong (by rw [e1, up_pf (by decide)]) (by rw [e1, up_pf (by decide)])
  refine csign (by omega) hc hC1 (fun T hA hC => qC_18 ⟨?_, hq T ⟨fun q a b c => ?_, fun i a b => ?_⟩ hC ?_⟩)
  · rcases pxS o L c p e with z | z
    · exact Or.inl rfl
    · exact Or.inr rfl
  · rw [hA q a, e1, up_pf b]
  · rw [hA 27 (by decide), e1, up_i b]
  · refine ⟨?_, ?_, fun i hi => ?_⟩
    · rw [hA 27 (by decide), e1, up_i (by decide)]
      exact s1
    · rw [hA 27 (by decide), e1, up_at, s2]
    · rw [hA 28 (by decide), e1, up_p (by decide)]
      exact s3 i hi
/-- what the class reads: tag k, from pc of method M -/
def CStm (o : Int → Int) (L : Int) (n k : Nat) (rk dm : Int) (M pc : Nat) (ls : Int → LV) : Prop := ∀ (d : Nat) (op p e v i : Int) (σ : SG) (C : List Int) (Q : Option AV → SG → Prop), 10 * (L - p) + rk ≤ n → (0 ≤ op ∧ op ≤ 6) → 10 * (6 - op) + dm ≤ d → (0 ≤ i ∧ i ≤ p) → CTp o L (.inr (v, p, e)) σ → QSc C op σ → (C.length : Int) ≤ p → (∀ z σ', qx o L n k op p e = .inl z → QFr σ σ' → CTp o L (.inl z) σ' → Q (some (.inl 0)) σ') → (∀ c p' e' σ', qx o L n k op p e = .inr (c, p', e') → QFr σ σ' → CTp o L (.inr (0, p', e')) σ' → QSc (C ++ c) op σ' → Q (some (.inl 1)) σ') → AW d M pc (ls i) [] σ Q
abbrev CS0 (o : Int → Int) (L : Int) (n : Nat) : Prop := CStm o L n 0 1 14 mX3_readPart 0 (fun _ => [some (.inr (.inr 27)), none])
abbrev CS1 (o : Int → Int) (L : Int) (n : Nat) : Prop := CStm o L n 1 2 15 mX3_readProduct 0 (fun _ => [some (.inr (.inr 27)), none, none])
abbrev CS2 (o : Int → Int) (L : Int) (n : Nat) : Prop := CStm o L n 2 3 16 mX3_readSum 0 (fun _ => [some (.inr (.inr 27)), none, none])
abbrev CS3 (o : Int → Int) (L : Int) (n : Nat) : Prop := CStm o L n 3 8 15 mX3_readProduct 11 (fun i => [some (.inr (.inr 27)), some (.inl i), none])
abbrev CS4 (o : Int → Int) (L : Int) (n : Nat) : Prop := CStm o L n 4 8 16 mX3_readSum 11 (fun i => [some (.inr (.inr 27)), some (.inl i), none])
abbrev CS5 (o : Int → Int) (L : Int) (n : Nat) : Prop := CStm o L n 5 4 17 mX3_readComparison 0 (fun _ => [some (.inr (.inr 27)), none])
abbrev CS6 (o : Int → Int) (L : Int) (n : Nat) : Prop := CStm o L n 6 5 18 mX3_readFact 0 (fun _ => [some (.inr (.inr 27))])
abbrev CS7 (o : Int → Int) (L : Int) (n : Nat) : Prop := CStm o L n 7 6 19 mX3_readBoth 0 (fun _ => [some (.inr (.inr 27)), none])
abbrev CS8 (o : Int → Int) (L : Int) (n : Nat) : Prop := CStm o L n 8 7 20 mX3_readTest 0 (fun _ => [some (.inr (.inr 27)), none])
abbrev CS9 (o : Int → Int) (L : Int) (n : Nat) : Prop := CStm o L n 9 8 19 mX3_readBoth 11 (fun i => [some (.inr (.inr 27)), some (.inl i)])
abbrev CS10 (o : Int → Int) (L : Int) (n : Nat) : Prop := CStm o L n 10 8 20 mX3_readTest 11 (fun i => [some (.inr (.inr 27)), some (.inl i)])
theorem cq1 {o : Int → Int} {L : Int} {n : Nat} (i0 : CS0 o L n) (i3 : CS3 o L n) : CS1 o L (n + 1) := by
  intro d op p e v i σ C Q hn ho hd hi hC hS hl hq0 hq1
  obtain ⟨⟨h3, h1, hL, hoc⟩, ⟨h2, h2'⟩, ⟨t5, t4, t6⟩, hp⟩ := hC.f
  have ht := tok (o := o) (L := L) e hp.1 hp.2
  have hsz := hS.1
  have hE : qx o L (n + 1) 1 op p e = qxC (qx o L n) 0 3 op p e := rfl
  rw [hE] at hq0 hq1
  refine qM_0 ⟨by omega, i0 (d - 1) op p e v 0 σ C _ (by omega) ho (by omega) (by omega) hC hS hl (fun z S hz hF hCS => ?_) (fun c p1 e1 S hz hF hCS hSS => ?_)⟩
  · exact qM_4 ⟨by decide, fun z => absurd rfl z, fun _ => hq0 z S (by unfold qxC; rw [hz]; rfl) hF hCS⟩
  · have hr := qx_r n _ _ _ _ _ hp.1 hp.2 hz
    unfold QOk at hr
    dsimp only at hr
    refine qM_4 ⟨by decide, fun _ => ?_, fun z => absurd z (by decide)⟩
    exact i3 d op p1 e1 0 0 S (C ++ c) Q (by omega) ho (by omega) (by omega) hCS hSS (by rw [List.length_append]; omega) (fun z T hz2 hF2 hCT => hq0 z T (by unfold qxC; rw [hz]; dsimp only [qbd]; rw [hz2]) (hF.tr hF2) hCT) (fun c2 p2 e2 T hz2 hF2 hCT hST => hq1 (c ++ c2) p2 e2 T (by unfold qxC; rw [hz]; dsimp only [qbd]; rw [hz2]) (hF.tr hF2) hCT (by rw [← List.append_assoc]; exact hST))
theorem cq2 {o : Int → Int} {L : Int} {n : Nat} (i1 : CS1 o L n) (i4 : CS4 o L n) : CS2 o L (n + 1) := by
  intro d op p e v i σ C Q hn ho hd hi hC hS hl hq0 hq1
  obtain ⟨⟨h3, h1, hL, hoc⟩, ⟨h2, h2'⟩, ⟨t5, t4, t6⟩, hp⟩ := hC.f
  have ht := tok (o := o) (L := L) e hp.1 hp.2
  have hsz := hS.1
  have hE : qx o L (n + 1) 2 op p e = qxC (qx o L n) 1 4 op p e := rfl
  rw [hE] at hq0 hq1
  refine qS_0 ⟨by omega, i1 (d - 1) op p e v 0 σ C _ (by omega) ho (by omega) (by omega) hC hS hl (fun z S hz hF hCS => ?_) (fun c p1 e1 S hz hF hCS hSS => ?_)⟩
  · exact qS_4 ⟨by decide, fun z => absurd rfl z, fun _ => hq0 z S (by unfold qxC; rw [hz]; rfl) hF hCS⟩
  · have hr := qx_r n _ _ _ _ _ hp.1 hp.2 hz
    unfold QOk at hr
    dsimp only at hr
    refine qS_4 ⟨by decide, fun _ => ?_, fun z => absurd z (by decide)⟩
    exact i4 d op p1 e1 0 0 S (C ++ c) Q (by omega) ho (by omega) (by omega) hCS hSS (by rw [List.length_append]; omega) (fun z T hz2 hF2 hCT => hq0 z T (by unfold qxC; rw [hz]; dsimp only [qbd]; rw [hz2]) (hF.tr hF2) hCT) (fun c2 p2 e2 T hz2 hF2 hCT hST => hq1 (c ++ c2) p2 e2 T (by unfold qxC; rw [hz]; dsimp only [qbd]; rw [hz2]) (hF.tr hF2) hCT (by rw [← List.append_assoc]; exact hST))
theorem cq7 {o : Int → Int} {L : Int} {n : Nat} (i6 : CS6 o L n) (i9 : CS9 o L n) : CS7 o L (n + 1) := by
  intro d op p e v i σ C Q hn ho hd hi hC hS hl hq0 hq1
  obtain ⟨⟨h3, h1, hL, hoc⟩, ⟨h2, h2'⟩, ⟨t5, t4, t6⟩, hp⟩ := hC.f
  have ht := tok (o := o) (L := L) e hp.1 hp.2
  have hsz := hS.1
  have hE : qx o L (n + 1) 7 op p e = qxC (qx o L n) 6 9 op p e := rfl
  rw [hE] at hq0 hq1
  refine qB_0 ⟨by omega, i6 (d - 1) op p e v 0 σ C _ (by omega) ho (by omega) (by omega) hC hS hl (fun z S hz hF hCS => ?_) (fun c p1 e1 S hz hF hCS hSS => ?_)⟩
  · exact qB_4 ⟨by decide, fun z => absurd rfl z, fun _ => hq0 z S (by unfold qxC; rw [hz]; rfl) hF hCS⟩
  · have hr := qx_r n _ _ _ _ _ hp.1 hp.2 hz
    unfold QOk at hr
    dsimp only at hr
    refine qB_4 ⟨by decide, fun _ => ?_, fun z => absurd z (by decide)⟩
    exact i9 d op p1 e1 0 0 S (C ++ c) Q (by omega) ho (by omega) (by omega) hCS hSS (by rw [List.length_append]; omega) (fun z T hz2 hF2 hCT => hq0 z T (by unfold qxC; rw [hz]; dsimp only [qbd]; rw [hz2]) (hF.tr hF2) hCT) (fun c2 p2 e2 T hz2 hF2 hCT hST => hq1 (c ++ c2) p2 e2 T (by unfold qxC; rw [hz]; dsimp only [qbd]; rw [hz2]) (hF.tr hF2) hCT (by rw [← List.append_assoc]; exact hST))
theorem cq8 {o : Int → Int} {L : Int} {n : Nat} (i7 : CS7 o L n) (i10 : CS10 o L n) : CS8 o L (n + 1) := by
  intro d op p e v i σ C Q hn ho hd hi hC hS hl hq0 hq1
  obtain ⟨⟨h3, h1, hL, hoc⟩, ⟨h2, h2'⟩, ⟨t5, t4, t6⟩, hp⟩ := hC.f
  have ht := tok (o := o) (L := L) e hp.1 hp.2
  have hsz := hS.1
  have hE : qx o L (n + 1) 8 op p e = qxC (qx o L n) 7 10 op p e := rfl
  rw [hE] at hq0 hq1
  refine qT_0 ⟨by omega, i7 (d - 1) op p e v 0 σ C _ (by omega) ho (by omega) (by omega) hC hS hl (fun z S hz hF hCS => ?_) (fun c p1 e1 S hz hF hCS hSS => ?_)⟩
  · exact qT_4 ⟨by decide, fun z => absurd rfl z, fun _ => hq0 z S (by unfold qxC; rw [hz]; rfl) hF hCS⟩
  · have hr := qx_r n _ _ _ _ _ hp.1 hp.2 hz
    unfold QOk at hr
    dsimp only at hr
    refine qT_4 ⟨by decide, fun _ => ?_, fun z => absurd z (by decide)⟩
    exact i10 d op p1 e1 0 0 S (C ++ c) Q (by omega) ho (by omega) (by omega) hCS hSS (by rw [List.length_append]; omega) (fun z T hz2 hF2 hCT => hq0 z T (by unfold qxC; rw [hz]; dsimp only [qbd]; rw [hz2]) (hF.tr hF2) hCT) (fun c2 p2 e2 T hz2 hF2 hCT hST => hq1 (c ++ c2) p2 e2 T (by unfold qxC; rw [hz]; dsimp only [qbd]; rw [hz2]) (hF.tr hF2) hCT (by rw [← List.append_assoc]; exact hST))
theorem cq3 {o : Int → Int} {L : Int} {n : Nat} (i0 : CS0 o L n) (i3 : CS3 o L n) : CS3 o L (n + 1) := by
  intro d op p e v i σ C Q hn ho hd hi hC hS hl hq0 hq1
  obtain ⟨⟨h3, h1, hL, hoc⟩, ⟨h2, h2'⟩, ⟨t5, t4, t6⟩, hp⟩ := hC.f
  have ht := tok (o := o) (L := L) e hp.1 hp.2
  have hsz := hS.1
  have hE : qx o L (n + 1) 3 op p e = qxR o L (qx o L n) 42 47 3 4 0 3 op p e := rfl
  rw [hE] at hq0 hq1
  have o1 := csgO (c := 42) hC (by decide)
  have o2 := csgO (c := 47) hC (by decide)
  have w1 := csg1 (c := 42) hC (by decide)
  have w2 := csg1 (c := 47) hC (by decide)
  have go : ∀ l2 cz, -1 - l2 = ccq cz → (qsg o L p e = 42 ∨ qsg o L p e = 47) → (if qsg o L p e = 42 then 3 else 4) = cz → AW (d - 1) mX7_advance 0 [some (.inr (.inr 2)), none, none] [] σ (fun rr σ' => AW d mX3_readProduct 69 [some (.inr (.inr 27)), some (.inl i), some (.inl l2)] (rtS rr []) σ' Q) := by
    intro l2 cz hcz hs hif
    have k3 : kd o L e (sk o L p) = 3 := hs.elim (fun z => (qsg_t z (by decide)).1) (fun z => (qsg_t z (by decide)).1)
    have hsl := ht.2.2.2.1 k3
    unfold qxR at hq0 hq1
    rw [if_pos hs, hif] at hq0 hq1
    refine cadv 0 (by omega) hC (fun S1 hA hC1 => ?_)
    rw [if_neg (by omega), hsl.2] at hC1
    have hS1 := hS.af hA
    refine qM_69 ⟨by omega, i0 (d - 1) op (sk o L p + 1) (-1) 0 0 S1 C _ (by omega) ho (by omega) (by omega) hC1 hS1 (by omega) (fun z S hz hF hCS => ?_) (fun c p1 e1 S hz hF hCS hSS => ?_)⟩
    · exact qM_73 ⟨by decide, fun z => absurd rfl z, fun _ => hq0 z S (by rw [hz]; rfl) ((QFr.af hA).tr hF) hCS⟩
    · have hr := qx_r n _ _ _ _ _ (by omega) (by omega) hz
      unfold QOk at hr
      dsimp only at hr
      have hs3 := hSS.1
      rw [List.length_append] at hs3
      refine qM_73 ⟨by decide, fun _ => ⟨by omega, by omega, by omega, fun z => by omega, fun _ => ⟨by omega, fun T1 f1 T2 f2 => ?_⟩⟩, fun z => absurd z (by decide)⟩
      rw [f1] at f2
      have hw := hSS.w hcz
      rw [← f2] at hw
      have hCT : CTp o L (.inr (0, p1, e1)) T2 := by rw [f2]; exact ctp_w hCS
      exact i3 d op p1 e1 0 (i + 1) T2 (C ++ c ++ [cz]) Q (by omega) ho (by omega) (by omega) hCT hw.1 (by rw [List.length_append, List.length_append, List.length_cons, List.length_nil]; omega) (fun z T hz2 hF2 hCT => hq0 z T (by rw [hz]; dsimp only [qbd]; rw [hz2]) ((((QFr.af hA).tr hF).tr hw.2).tr hF2) hCT) (fun c2 p2 e2 T hz2 hF2 hCT hST => hq1 (c ++ cz :: c2) p2 e2 T (by rw [hz]; dsimp only [qbd]; rw [hz2]) ((((QFr.af hA).tr hF).tr hw.2).tr hF2) hCT (by rw [List.append_assoc, List.append_assoc] at hST; exact hST))
  have non : ¬ (qsg o L p e = 42 ∨ qsg o L p e = 47) → Q (some (.inl 1)) σ := by
    intro hs
    unfold qxR at hq1
    rw [if_neg hs] at hq1
    exact hq1 [] p e σ rfl (QFr.rf σ) hC.v (by rw [List.append_nil]; exact hS)
  have big : 1600 ≤ i → ¬ (qsg o L p e = 42 ∨ qsg o L p e = 47) := by
    intro z hs
    have k3 : kd o L e (sk o L p) = 3 := hs.elim (fun z => (qsg_t z (by decide)).1) (fun z => (qsg_t z (by decide)).1)
    have hsl := ht.2.2.2.1 k3
    omega
  refine qM_11 ⟨by omega, fun c => non (big c), fun _ => ⟨by omega, o1, w1.1, fun c => ⟨by omega, o1, w1.1, fun z => absurd z c, fun _ => ⟨by omega, ?_⟩⟩, fun c => ⟨by omega, o2, w2.1, fun c2 => non (fun z => z.elim (w1.2.mp c) (w2.2.mp c2)), fun c2 => ⟨by omega, o1, w1.1, fun _ => ⟨by omega, ?_⟩, fun z => absurd c z⟩⟩⟩⟩
  · have hx : qsg o L p e = 42 := Classical.byContradiction (fun z => c (w1.2.mpr z))
    exact go 12 3 (by decide) (Or.inl hx) (if_pos hx)
  · have hy : qsg o L p e = 47 := Classical.byContradiction (fun z => c2 (w2.2.mpr z))
    exact go 13 4 (by decide) (Or.inr hy) (if_neg (w1.2.mp c))
theorem cq4 {o : Int → Int} {L : Int} {n : Nat} (i1 : CS1 o L n) (i4 : CS4 o L n) : CS4 o L (n + 1) := by
  intro d op p e v i σ C Q hn ho hd hi hC hS hl hq0 hq1
  obtain ⟨⟨h3, h1, hL, hoc⟩, ⟨h2, h2'⟩, ⟨t5, t4, t6⟩, hp⟩ := hC.f
  have ht := tok (o := o) (L := L) e hp.1 hp.2
  have hsz := hS.1
  have hE : qx o L (n + 1) 4 op p e = qxR o L (qx o L n) 43 45 1 2 1 4 op p e := rfl
  rw [hE] at hq0 hq1
  have o1 := csgO (c := 43) hC (by decide)
  have o2 := csgO (c := 45) hC (by decide)
  have w1 := csg1 (c := 43) hC (by decide)
  have w2 := csg1 (c := 45) hC (by decide)
  have go : ∀ l2 cz, -1 - l2 = ccq cz → (qsg o L p e = 43 ∨ qsg o L p e = 45) → (if qsg o L p e = 43 then 1 else 2) = cz → AW (d - 1) mX7_advance 0 [some (.inr (.inr 2)), none, none] [] σ (fun rr σ' => AW d mX3_readSum 69 [some (.inr (.inr 27)), some (.inl i), some (.inl l2)] (rtS rr []) σ' Q) := by
    intro l2 cz hcz hs hif
    have k3 : kd o L e (sk o L p) = 3 := hs.elim (fun z => (qsg_t z (by decide)).1) (fun z => (qsg_t z (by decide)).1)
    have hsl := ht.2.2.2.1 k3
    unfold qxR at hq0 hq1
    rw [if_pos hs, hif] at hq0 hq1
    refine cadv 0 (by omega) hC (fun S1 hA hC1 => ?_)
    rw [if_neg (by omega), hsl.2] at hC1
    have hS1 := hS.af hA
    refine qS_69 ⟨by omega, i1 (d - 1) op (sk o L p + 1) (-1) 0 0 S1 C _ (by omega) ho (by omega) (by omega) hC1 hS1 (by omega) (fun z S hz hF hCS => ?_) (fun c p1 e1 S hz hF hCS hSS => ?_)⟩
    · exact qS_73 ⟨by decide, fun z => absurd rfl z, fun _ => hq0 z S (by rw [hz]; rfl) ((QFr.af hA).tr hF) hCS⟩
    · have hr := qx_r n _ _ _ _ _ (by omega) (by omega) hz
      unfold QOk at hr
      dsimp only at hr
      have hs3 := hSS.1
      rw [List.length_append] at hs3
      refine qS_73 ⟨by decide, fun _ => ⟨by omega, by omega, by omega, fun z => by omega, fun _ => ⟨by omega, fun T1 f1 T2 f2 => ?_⟩⟩, fun z => absurd z (by decide)⟩
      rw [f1] at f2
      have hw := hSS.w hcz
      rw [← f2] at hw
      have hCT : CTp o L (.inr (0, p1, e1)) T2 := by rw [f2]; exact ctp_w hCS
      exact i4 d op p1 e1 0 (i + 1) T2 (C ++ c ++ [cz]) Q (by omega) ho (by omega) (by omega) hCT hw.1 (by rw [List.length_append, List.length_append, List.length_cons, List.length_nil]; omega) (fun z T hz2 hF2 hCT => hq0 z T (by rw [hz]; dsimp only [qbd]; rw [hz2]) ((((QFr.af hA).tr hF).tr hw.2).tr hF2) hCT) (fun c2 p2 e2 T hz2 hF2 hCT hST => hq1 (c ++ cz :: c2) p2 e2 T (by rw [hz]; dsimp only [qbd]; rw [hz2]) ((((QFr.af hA).tr hF).tr hw.2).tr hF2) hCT (by rw [List.append_assoc, List.append_assoc] at hST; exact hST))
  have non : ¬ (qsg o L p e = 43 ∨ qsg o L p e = 45) → Q (some (.inl 1)) σ := by
    intro hs
    unfold qxR at hq1
    rw [if_neg hs] at hq1
    exact hq1 [] p e σ rfl (QFr.rf σ) hC.v (by rw [List.append_nil]; exact hS)
  have big : 1600 ≤ i → ¬ (qsg o L p e = 43 ∨ qsg o L p e = 45) := by
    intro z hs
    have k3 : kd o L e (sk o L p) = 3 := hs.elim (fun z => (qsg_t z (by decide)).1) (fun z => (qsg_t z (by decide)).1)
    have hsl := ht.2.2.2.1 k3
    omega
  refine qS_11 ⟨by omega, fun c => non (big c), fun _ => ⟨by omega, o1, w1.1, fun c => ⟨by omega, o1, w1.1, fun z => absurd z c, fun _ => ⟨by omega, ?_⟩⟩, fun c => ⟨by omega, o2, w2.1, fun c2 => non (fun z => z.elim (w1.2.mp c) (w2.2.mp c2)), fun c2 => ⟨by omega, o1, w1.1, fun _ => ⟨by omega, ?_⟩, fun z => absurd c z⟩⟩⟩⟩
  · have hx : qsg o L p e = 43 := Classical.byContradiction (fun z => c (w1.2.mpr z))
    exact go 10 1 (by decide) (Or.inl hx) (if_pos hx)
  · have hy : qsg o L p e = 45 := Classical.byContradiction (fun z => c2 (w2.2.mpr z))
    exact go 11 2 (by decide) (Or.inr hy) (if_neg (w1.2.mp c))
theorem cq9 {o : Int → Int} {L : Int} {n : Nat} (i6 : CS6 o L n) (i9 : CS9 o L n) : CS9 o L (n + 1) := by
  intro d op p e v i σ C Q hn ho hd hi hC hS hl hq0 hq1
  obtain ⟨⟨h3, h1, hL, hoc⟩, ⟨h2, h2'⟩, ⟨t5, t4, t6⟩, hp⟩ := hC.f
  have ht := tok (o := o) (L := L) e hp.1 hp.2
  have hsz := hS.1
  have hE : qx o L (n + 1) 9 op p e = qxV o L (qx o L n) 5 10 6 9 op p e := rfl
  rw [hE] at hq0 hq1
  unfold qxV at hq0 hq1
  have hwr := qwd_r o L 5 (by decide) p e
  by_cases hw0 : qwd o L 5 p e = -1
  · rw [if_neg (fun z => z hw0)] at hq0 hq1
    have fin : Q (some (.inl 1)) σ := hq1 [] p e σ rfl (QFr.rf σ) hC.v (by rw [List.append_nil]; exact hS)
    refine qB_11 ⟨by omega, fun _ => fin, fun _ => ⟨by omega, cwa (i := 5) (by decide) (by omega) hC ?_⟩⟩
    change AW d mX3_readBoth 27 _ [.inl (qwd o L 5 p e)] σ Q
    exact qB_27 ⟨by omega, fun _ => fin, fun z => absurd hw0 z⟩
  · rw [if_pos hw0] at hq0 hq1
    have k1 := qwd_t hw0
    have hnl := (name_lt hp.1 hp.2 k1).1
    refine qB_11 ⟨by omega, fun z => by omega, fun _ => ⟨by omega, cwa (i := 5) (by decide) (by omega) hC ?_⟩⟩
    change AW d mX3_readBoth 27 _ [.inl (qwd o L 5 p e)] σ Q
    refine qB_27 ⟨by omega, fun z => absurd z hw0, fun _ => ⟨by omega, cadv 0 (by omega) hC (fun S1 hA hC1 => ?_)⟩⟩
    rw [if_pos (Or.inl k1)] at hC1
    have hS1 := hS.af hA
    refine qB_38 ⟨by omega, i6 (d - 1) op (te o L (sk o L p)) (te o L (sk o L p)) 0 0 S1 C _ (by omega) ho (by omega) (by omega) hC1 hS1 (by omega) (fun z S hz hF hCS => ?_) (fun c p1 e1 S hz hF hCS hSS => ?_)⟩
    · exact qB_42 ⟨by decide, fun z => absurd rfl z, fun _ => hq0 z S (by rw [hz]; rfl) ((QFr.af hA).tr hF) hCS⟩
    · have hr := qx_r n _ _ _ _ _ (by omega) (by omega) hz
      unfold QOk at hr
      dsimp only at hr
      have hs3 := hSS.1
      rw [List.length_append] at hs3
      refine qB_42 ⟨by decide, fun _ => ⟨by omega, by omega, by omega, fun z => by omega, fun _ => ⟨by omega, fun T1 f1 T2 f2 => ?_⟩⟩, fun z => absurd z (by decide)⟩
      rw [f1] at f2
      have hw := hSS.w (v := -18) (x := 10) (by decide)
      rw [← f2] at hw
      have hCT : CTp o L (.inr (0, p1, e1)) T2 := by rw [f2]; exact ctp_w hCS
      exact i9 d op p1 e1 0 (i + 1) T2 (C ++ c ++ [10]) Q (by omega) ho (by omega) (by omega) hCT hw.1 (by rw [List.length_append, List.length_append, List.length_cons, List.length_nil]; omega) (fun z T hz2 hF2 hCT => hq0 z T (by rw [hz]; dsimp only [qbd]; rw [hz2]) ((((QFr.af hA).tr hF).tr hw.2).tr hF2) hCT) (fun c2 p2 e2 T hz2 hF2 hCT hST => hq1 (c ++ 10 :: c2) p2 e2 T (by rw [hz]; dsimp only [qbd]; rw [hz2]) ((((QFr.af hA).tr hF).tr hw.2).tr hF2) hCT (by rw [List.append_assoc, List.append_assoc] at hST; exact hST))
theorem cq10 {o : Int → Int} {L : Int} {n : Nat} (i7 : CS7 o L n) (i10 : CS10 o L n) : CS10 o L (n + 1) := by
  intro d op p e v i σ C Q hn ho hd hi hC hS hl hq0 hq1
  obtain ⟨⟨h3, h1, hL, hoc⟩, ⟨h2, h2'⟩, ⟨t5, t4, t6⟩, hp⟩ := hC.f
  have ht := tok (o := o) (L := L) e hp.1 hp.2
  have hsz := hS.1
  have hE : qx o L (n + 1) 10 op p e = qxV o L (qx o L n) 6 11 7 10 op p e := rfl
  rw [hE] at hq0 hq1
  unfold qxV at hq0 hq1
  have hwr := qwd_r o L 6 (by decide) p e
  by_cases hw0 : qwd o L 6 p e = -1
  · rw [if_neg (fun z => z hw0)] at hq0 hq1
    have fin : Q (some (.inl 1)) σ := hq1 [] p e σ rfl (QFr.rf σ) hC.v (by rw [List.append_nil]; exact hS)
    refine qT_11 ⟨by omega, fun _ => fin, fun _ => ⟨by omega, cwa (i := 6) (by decide) (by omega) hC ?_⟩⟩
    change AW d mX3_readTest 27 _ [.inl (qwd o L 6 p e)] σ Q
    exact qT_27 ⟨by omega, fun _ => fin, fun z => absurd hw0 z⟩
  · rw [if_pos hw0] at hq0 hq1
    have k1 := qwd_t hw0
    have hnl := (name_lt hp.1 hp.2 k1).1
    refine qT_11 ⟨by omega, fun z => by omega, fun _ => ⟨by omega, cwa (i := 6) (by decide) (by omega) hC ?_⟩⟩
    change AW d mX3_readTest 27 _ [.inl (qwd o L 6 p e)] σ Q
    refine qT_27 ⟨by omega, fun z => absurd z hw0, fun _ => ⟨by omega, cadv 0 (by omega) hC (fun S1 hA hC1 => ?_)⟩⟩
    rw [if_pos (Or.inl k1)] at hC1
    have hS1 := hS.af hA
    refine qT_38 ⟨by omega, i7 (d - 1) op (te o L (sk o L p)) (te o L (sk o L p)) 0 0 S1 C _ (by omega) ho (by omega) (by omega) hC1 hS1 (by omega) (fun z S hz hF hCS => ?_) (fun c p1 e1 S hz hF hCS hSS => ?_)⟩
    · exact qT_42 ⟨by decide, fun z => absurd rfl z, fun _ => hq0 z S (by rw [hz]; rfl) ((QFr.af hA).tr hF) hCS⟩
    · have hr := qx_r n _ _ _ _ _ (by omega) (by omega) hz
      unfold QOk at hr
      dsimp only at hr
      have hs3 := hSS.1
      rw [List.length_append] at hs3
      refine qT_42 ⟨by decide, fun _ => ⟨by omega, by omega, by omega, fun z => by omega, fun _ => ⟨by omega, fun T1 f1 T2 f2 => ?_⟩⟩, fun z => absurd z (by decide)⟩
      rw [f1] at f2
      have hw := hSS.w (v := -19) (x := 11) (by decide)
      rw [← f2] at hw
      have hCT : CTp o L (.inr (0, p1, e1)) T2 := by rw [f2]; exact ctp_w hCS
      exact i10 d op p1 e1 0 (i + 1) T2 (C ++ c ++ [11]) Q (by omega) ho (by omega) (by omega) hCT hw.1 (by rw [List.length_append, List.length_append, List.length_cons, List.length_nil]; omega) (fun z T hz2 hF2 hCT => hq0 z T (by rw [hz]; dsimp only [qbd]; rw [hz2]) ((((QFr.af hA).tr hF).tr hw.2).tr hF2) hCT) (fun c2 p2 e2 T hz2 hF2 hCT hST => hq1 (c ++ 11 :: c2) p2 e2 T (by rw [hz]; dsimp only [qbd]; rw [hz2]) ((((QFr.af hA).tr hF).tr hw.2).tr hF2) hCT (by rw [List.append_assoc, List.append_assoc] at hST; exact hST))
theorem cq5 {o : Int → Int} {L : Int} {n : Nat} (i2 : CS2 o L n) : CS5 o L (n + 1) := by
  intro d op p e v i σ C Q hn ho hd hi hC hS hl hq0 hq1
  obtain ⟨⟨h3, h1, hL, hoc⟩, ⟨h2, h2'⟩, ⟨t5, t4, t6⟩, hp⟩ := hC.f
  have ht := tok (o := o) (L := L) e hp.1 hp.2
  have hsz := hS.1
  have hE : qx o L (n + 1) 5 op p e = qxK o L (qx o L n) op p e := rfl
  rw [hE] at hq0 hq1
  unfold qxK at hq0 hq1
  refine qK_0 ⟨by omega, i2 (d - 1) op p e v 0 σ C _ (by omega) ho (by omega) (by omega) hC hS hl (fun z S hz hF hCS => ?_) (fun c p1 e1 S hz hF hCS hSS => ?_)⟩
  · exact qK_4 ⟨by decide, fun z => absurd rfl z, fun _ => hq0 z S (by rw [hz]; rfl) hF hCS⟩
  · have hr := qx_r n _ _ _ _ _ hp.1 hp.2 hz
    unfold QOk at hr
    dsimp only at hr
    rw [hz] at hq0 hq1
    dsimp only [qbd] at hq0 hq1
    obtain ⟨⟨k3, k1, kL, koc⟩, ⟨k2, k2'⟩, ⟨u5, u4, u6⟩, kp⟩ := hCS.f
    have ht1 := tok (o := o) (L := L) e1 kp.1 kp.2
    have o1 := csgO (c := 60) hCS (by decide)
    have o2 := csgO (c := 62) hCS (by decide)
    have o3 := csgO (c := 61) hCS (by decide)
    have w1 := csg1 (c := 60) hCS (by decide)
    have w2 := csg1 (c := 62) hCS (by decide)
    have w3 := csg1 (c := 61) hCS (by decide)
    have go : ∀ l1 cz, -1 - l1 = ccq cz → (qsg o L p1 e1 = 60 ∨ qsg o L p1 e1 = 62 ∨ qsg o L p1 e1 = 61) → qcm (qsg o L p1 e1) = cz → AW (d - 1) mX7_advance 0 [some (.inr (.inr 2)), none, none] [] S (fun rr σ' => AW d mX3_readComparison 82 [some (.inr (.inr 27)), some (.inl l1)] (rtS rr []) σ' Q) := by
      intro l1 cz hcz hs hif
      have k3' : kd o L e1 (sk o L p1) = 3 := by
        rcases hs with z | z | z <;> exact (qsg_t z (by decide)).1
      have hsl := ht1.2.2.2.1 k3'
      rw [if_pos hs, hif] at hq0 hq1
      refine cadv 0 (by omega) hCS (fun S1 hA hC1 => ?_)
      rw [if_neg (by omega), hsl.2] at hC1
      refine qK_82 ⟨by omega, i2 (d - 1) op (sk o L p1 + 1) (-1) 0 0 S1 (C ++ c) _ (by omega) ho (by omega) (by omega) hC1 (hSS.af hA) (by rw [List.length_append]; omega) (fun z T hz2 hF2 hCT => ?_) (fun c2 p2 e2 T hz2 hF2 hCT hST => ?_)⟩
      · exact qK_86 ⟨by decide, fun _ => hq0 z T (by rw [hz2]) ((hF.tr (QFr.af hA)).tr hF2) hCT, fun z => absurd rfl z⟩
      · have hr2 := qx_r n _ _ _ _ _ (by omega) (by omega) hz2
        unfold QOk at hr2
        dsimp only at hr2
        have hs3 := hST.1
        rw [List.length_append, List.length_append] at hs3
        refine qK_86 ⟨by decide, fun z => absurd z (by decide), fun _ => ⟨by omega, by omega, by omega, fun z => by omega, fun _ => ⟨by omega, fun T1 f1 T2 f2 => ?_⟩⟩⟩
        rw [f1] at f2
        have hw := hST.w hcz
        rw [← f2] at hw
        exact hq1 (c ++ c2 ++ [cz]) p2 e2 T2 (by rw [hz2]) (((hF.tr (QFr.af hA)).tr hF2).tr hw.2) (by rw [f2]; exact ctp_w hCT) (by rw [← List.append_assoc, ← List.append_assoc]; exact hw.1)
    refine qK_4 ⟨by decide, fun _ => ⟨by omega, o1, w1.1, fun c1 => ⟨by omega, o2, w2.1, fun c2 => ⟨by omega, o3, w3.1, fun c3 => ⟨by omega, by omega, by omega, fun z => absurd k2 z, fun _ T1 f1 T2 f2 => ?_⟩, fun c3 => ⟨by omega, ?_⟩⟩, fun c2 => ⟨by omega, ?_⟩⟩, fun c1 => ⟨by omega, ?_⟩⟩, fun z => absurd z (by decide)⟩
    · rw [if_neg (fun z => z.elim (w1.2.mp c1) (fun y => y.elim (w2.2.mp c2) (w3.2.mp c3)))] at hq0
      have hf := cfail (k := 1) (pl := sk o L p1) hCS
      rw [f2, f1, u5]
      exact hq0 _ _ rfl (hF.tr (QFr.af hf.2)) hf.1
    · have h3' : qsg o L p1 e1 = 61 := Classical.byContradiction (fun z => c3 (w3.2.mpr z))
      refine go 16 9 (by decide) (Or.inr (Or.inr h3')) ?_
      rw [h3']
      rfl
    · have h3' : qsg o L p1 e1 = 62 := Classical.byContradiction (fun z => c2 (w2.2.mpr z))
      refine go 15 8 (by decide) (Or.inr (Or.inl h3')) ?_
      rw [h3']
      rfl
    · have h3' : qsg o L p1 e1 = 60 := Classical.byContradiction (fun z => c1 (w1.2.mpr z))
      refine go 14 7 (by decide) (Or.inl h3') ?_
      rw [h3']
      rfl
theorem cq6 {o : Int → Int} {L : Int} {n : Nat} (i5 : CS5 o L n) (i6 : CS6 o L n) (i8 : CS8 o L n) : CS6 o L (n + 1) := by
  intro d op p e v i σ C Q hn ho hd hi hC hS hl hq0 hq1
  obtain ⟨⟨h3, h1, hL, hoc⟩, ⟨h2, h2'⟩, ⟨t5, t4, t6⟩, hp⟩ := hC.f
  have ht := tok (o := o) (L := L) e hp.1 hp.2
  have hsz := hS.1
  have hE : qx o L (n + 1) 6 op p e = qxF o L (qx o L n) op p e := rfl
  rw [hE] at hq0 hq1
  unfold qxF at hq0 hq1
  have r2 := qwd_r o L 2 (by decide) p e
  have r3' := qwd_r o L 3 (by decide) p e
  have o1 := csgO (c := 91) hC (by decide)
  have w1 := csg1 (c := 91) hC (by decide)
  refine qF_0 ⟨by omega, cwa (i := 2) (by decide) (by omega) hC ?_⟩
  change AW d mX3_readFact 9 _ [.inl (qwd o L 2 p e)] σ Q
  by_cases h2w : qwd o L 2 p e = -1
  · rw [if_neg (fun z => z h2w)] at hq0 hq1
    refine qF_9 ⟨by omega, fun _ => ⟨by omega, cwa (i := 3) (by decide) (by omega) hC ?_⟩, fun z => absurd h2w z⟩
    change AW d mX3_readFact 35 _ [.inl (qwd o L 3 p e)] σ Q
    by_cases h3w : qwd o L 3 p e = -1
    · rw [if_neg (fun z => z h3w)] at hq0 hq1
      by_cases hs : qsg o L p e = 91
      · rw [if_pos hs] at hq0 hq1
        have k3 := (qsg_t hs (by decide)).1
        have hsl := ht.2.2.2.1 k3
        refine qF_35 ⟨by omega, fun _ => ⟨by omega, o1, w1.1, fun z => absurd hs (w1.2.mp z), fun _ => ⟨by omega, copen (by omega) hC hS ho (fun h6 S hF hCS => ?_) (fun h6 S hF hCS hSS => ?_)⟩⟩, fun z => absurd h3w z⟩
        · rw [if_pos h6] at hq0
          exact qF_88 ⟨by decide, fun _ => hq0 _ S rfl hF hCS, fun z => absurd rfl z⟩
        · rw [if_neg h6] at hq0 hq1
          rw [if_neg (by omega), hsl.2] at hCS
          refine qF_88 ⟨by decide, fun z => absurd z (by decide), fun _ => ⟨by omega, i8 (d - 1) (op + 1) (sk o L p + 1) (-1) 0 0 S C _ (by omega) (by omega) (by omega) (by omega) hCS hSS (by omega) (fun z T hz hF2 hCT => ?_) (fun c p1 e1 T hz hF2 hCT hST => ?_)⟩⟩
          · exact qF_95 ⟨by decide, fun _ => hq0 z T (by rw [hz]; rfl) (hF.tr hF2) hCT, fun z => absurd rfl z⟩
          · refine qF_95 ⟨by decide, fun z => absurd z (by decide), fun _ => ⟨by omega, cclose (by omega) (by decide) hCT hST (fun U hFU hCU hSU => ?_)⟩⟩
            rw [hz] at hq0 hq1
            unfold qcl at hq0 hq1
            dsimp only [qbd] at hq0 hq1
            rcases hX : pxS o L 93 p1 e1 with z | ⟨v3, p3, e3⟩
            · rw [hX] at hCU hq0
              exact qF_104 ⟨(by decide : r3 0), fun _ => hq0 z U rfl ((hF.tr hF2).tr hFU) hCU, fun z => absurd rfl z⟩
            · rw [hX] at hCU hq1
              rw [show op + 1 - 1 = op by omega] at hSU
              exact qF_104 ⟨(by decide : r3 1), fun z => absurd (show (1 : Int) = 0 from z) (by decide), fun _ => hq1 c p3 e3 U rfl ((hF.tr hF2).tr hFU) hCU.v hSU⟩
      · rw [if_neg hs] at hq0 hq1
        have go : AW (d - 1) mX3_readComparison 0 [some (.inr (.inr 27)), none] [] σ (fun rr σ' => AW d mX3_readFact 117 [some (.inr (.inr 27))] (rtS rr []) σ' Q) := i5 (d - 1) op p e v 0 σ C _ (by omega) ho (by omega) (by omega) hC hS hl (fun z S hz hF hCS => qF_117 ⟨Or.inl rfl, hq0 z S hz hF hCS⟩) (fun c p1 e1 S hz hF hCS hSS => qF_117 ⟨Or.inr rfl, hq1 c p1 e1 S hz hF hCS hSS⟩)
        exact qF_35 ⟨by omega, fun _ => ⟨by omega, o1, w1.1, fun _ => ⟨by omega, go⟩, fun z => absurd (w1.2.mpr hs) z⟩, fun z => absurd h3w z⟩
    · rw [if_pos h3w] at hq0 hq1
      have k1 := qwd_t h3w
      have hnl := (name_lt hp.1 hp.2 k1).1
      refine qF_35 ⟨by omega, fun z => absurd z h3w, fun _ => ⟨by omega, copen (by omega) hC hS ho (fun h6 S hF hCS => ?_) (fun h6 S hF hCS hSS => ?_)⟩⟩
      · rw [if_pos h6] at hq0
        exact qF_43 ⟨by decide, fun _ => hq0 _ S rfl hF hCS, fun z => absurd rfl z⟩
      · rw [if_neg h6] at hq0 hq1
        rw [if_pos (Or.inl k1)] at hCS
        refine qF_43 ⟨by decide, fun z => absurd z (by decide), fun _ => ⟨by omega, i6 (d - 1) (op + 1) (te o L (sk o L p)) (te o L (sk o L p)) 0 0 S C _ (by omega) (by omega) (by omega) (by omega) hCS hSS (by omega) (fun z T hz hF2 hCT => ?_) (fun c p1 e1 T hz hF2 hCT hST => ?_)⟩⟩
        · exact qF_50 ⟨by decide, fun z => absurd rfl z, fun _ => hq0 z T (by rw [hz]; rfl) (hF.tr hF2) hCT⟩
        · have hr := qx_r n _ _ _ _ _ (by omega) (by omega) hz
          unfold QOk at hr
          dsimp only at hr
          obtain ⟨s1, s2, s3⟩ := hST
          rw [List.length_append] at s1
          refine qF_50 ⟨by decide, fun _ T1 f1 => ?_, fun z => absurd z (by decide)⟩
          have hST1 : QSc (C ++ c) op T1 := by
            refine ⟨?_, ?_, fun i hi => ?_⟩
            · rw [f1, up_i (by decide), List.length_append]
              exact s1
            · rw [f1, up_at, s2]
              omega
            · rw [f1, up_p (by decide)]
              exact s3 i hi
          have hFT1 : QFr T T1 := ⟨fun q a b c => by rw [f1, up_pf b], fun i a b => by rw [f1, up_i b]⟩
          have hCT1 : CTp o L (.inr (0, p1, e1)) T1 := hCT.cong (by rw [f1, up_pf (by decide)]) (by rw [f1, up_pf (by decide)])
          have q1 := hST1.1
          rw [List.length_append] at q1
          refine ⟨by omega, by omega, by omega, fun z => by omega, fun _ => ⟨by omega, fun T2 f2 T3 f3 => ?_⟩⟩
          rw [f2] at f3
          have hw := hST1.w (v := -20) (x := 12) (by decide)
          rw [← f3] at hw
          exact hq1 (c ++ [12]) p1 e1 T3 (by rw [hz]; rfl) (((hF.tr hF2).tr hFT1).tr hw.2) (by rw [f3]; exact ctp_w hCT1) (by rw [← List.append_assoc]; exact hw.1)
  · rw [if_pos h2w] at hq0 hq1
    have k1 := qwd_t h2w
    have hnl := (name_lt hp.1 hp.2 k1).1
    refine qF_9 ⟨by omega, fun z => absurd z h2w, fun _ => ⟨by omega, cadv 0 (by omega) hC (fun S1 hA hC1 => ?_)⟩⟩
    rw [if_pos (Or.inl k1)] at hC1
    have hS1 := hS.af hA
    have q1 := hS1.1
    refine qF_20 ⟨by omega, by omega, fun z => by omega, fun _ => ⟨by omega, fun T2 f2 T3 f3 => ?_⟩⟩
    rw [f2] at f3
    have hw := hS1.w (v := 1) (x := 13) (by decide)
    rw [← f3] at hw
    exact hq1 [13] _ _ T3 rfl ((QFr.af hA).tr hw.2) (by rw [f3]; exact ctp_w hC1) hw.1
theorem cqA {d : Nat} {o : Int → Int} {L : Int} {n : Nat} (i2 : CS2 o L n) {op p e v : Int} {σ : SG} {C : List Int} {Q : Option AV → SG → Prop} (hn : 10 * (L - p) ≤ n) (ho : 0 ≤ op ∧ op ≤ 6) (hd : 10 * (6 - op) + 13 ≤ d) (hC : CTp o L (.inr (v, p, e)) σ) (hS : QSc C op σ) (hl : (C.length : Int) ≤ p) (hq0 : ∀ z σ', qxA o L (qx o L n) op p e = .inl z → QFr σ σ' → CTp o L (.inl z) σ' → Q (some (.inl 0)) σ') (hq1 : ∀ c p' e' σ', qxA o L (qx o L n) op p e = .inr (c, p', e') → QFr σ σ' → CTp o L (.inr (0, p', e')) σ' → QSc (C ++ c) op σ' → Q (some (.inl 1)) σ') : AW d mX3_readPair 0 [some (.inr (.inr 27))] [] σ Q := by
  obtain ⟨⟨h3, h1, hL, hoc⟩, ⟨h2, h2'⟩, ⟨t5, t4, t6⟩, hp⟩ := hC.f
  have ht := tok (o := o) (L := L) e hp.1 hp.2
  unfold qxA at hq0 hq1
  have o1 := csgO (c := 40) hC (by decide)
  have w1 := csg1 (c := 40) hC (by decide)
  by_cases hs : qsg o L p e = 40
  · rw [if_pos hs] at hq0 hq1
    have hsl := ht.2.2.2.1 (qsg_t hs (by decide)).1
    have k3 := (qsg_t hs (by decide)).1
    refine qA_0 ⟨by omega, o1, w1.1, fun _ => ⟨by omega, copen (by omega) hC hS ho (fun h6 S hF hCS => ?_) (fun h6 S hF hCS hSS => ?_)⟩, fun z => absurd hs (w1.2.mp z)⟩
    · rw [if_pos h6] at hq0
      exact qA_24 ⟨by decide, fun _ => hq0 _ S rfl hF hCS, fun z => absurd rfl z⟩
    · rw [if_neg h6] at hq0 hq1
      rw [if_neg (by omega), hsl.2] at hCS
      refine qA_24 ⟨by decide, fun z => absurd z (by decide), fun _ => ⟨by omega, i2 (d - 1) (op + 1) (sk o L p + 1) (-1) 0 0 S C _ (by omega) (by omega) (by omega) (by omega) hCS hSS (by omega) (fun z T hz hF2 hCT => ?_) (fun c p1 e1 T hz hF2 hCT hST => ?_)⟩⟩
      · exact qA_31 ⟨by decide, fun _ => hq0 z T (by rw [hz]; rfl) (hF.tr hF2) hCT, fun z => absurd rfl z⟩
      · have hr := qx_r n _ _ _ _ _ (by omega) (by omega) hz
        unfold QOk at hr
        dsimp only at hr
        rw [hz] at hq0 hq1
        dsimp only [qbd] at hq0 hq1
        have hF12 := hF.tr hF2
        refine qA_31 ⟨by decide, fun z => absurd z (by decide), fun _ => ⟨by omega, csign (by omega) (by decide) hCT (fun U hAU hCU => ?_)⟩⟩
        rcases hX : pxS o L 44 p1 e1 with z | ⟨v3, p3, e3⟩
        · rw [hX] at hCU hq0
          exact qA_43 ⟨(by decide : r3 0), fun _ => hq0 z U rfl (hF12.tr (QFr.af hAU)) hCU, fun z => absurd rfl z⟩
        · obtain ⟨x1, x2, x3⟩ := pxS_r hX
          have ht1 := tok (o := o) (L := L) e1 (show 0 ≤ p1 by omega) hr.2.1
          have ht4 := ht1.2.2.2.1 x2
          have y1 : p3 = sk o L p1 + 1 := by cases x1; rfl
          rw [hX] at hCU hq0 hq1
          dsimp only at hq0 hq1
          have hSU := hST.af hAU
          refine qA_43 ⟨(by decide : r3 1), fun z => absurd (show (1 : Int) = 0 from z) (by decide), fun _ => ⟨by omega, i2 (d - 1) (op + 1) p3 e3 v3 0 U (C ++ c) _ (by omega) (by omega) (by omega) (by omega) hCU hSU (by rw [List.length_append]; omega) (fun z V hz2 hF3 hCV => ?_) (fun c2 p4 e4 V hz2 hF3 hCV hSV => ?_)⟩⟩
          · exact qA_50 ⟨by decide, fun _ => hq0 z V (by rw [hz2]; rfl) ((hF12.tr (QFr.af hAU)).tr hF3) hCV, fun z => absurd rfl z⟩
          · rw [hz2] at hq0 hq1
            unfold qcl at hq0 hq1
            dsimp only [qbd] at hq0 hq1
            refine qA_50 ⟨by decide, fun z => absurd z (by decide), fun _ => ⟨by omega, cclose (by omega) (by decide) hCV hSV (fun W hFW hCW hSW => ?_)⟩⟩
            have hFF := ((hF12.tr (QFr.af hAU)).tr hF3).tr hFW
            rcases hX2 : pxS o L 41 p4 e4 with z | ⟨v5, p5, e5⟩
            · rw [hX2] at hCW hq0
              exact qA_59 ⟨(by decide : r3 0), fun _ => hq0 z W rfl hFF hCW, fun z => absurd rfl z⟩
            · rw [hX2] at hCW hq1
              rw [show op + 1 - 1 = op by omega] at hSW
              exact qA_59 ⟨(by decide : r3 1), fun z => absurd (show (1 : Int) = 0 from z) (by decide), fun _ => hq1 (c ++ c2) p5 e5 W rfl hFF hCW.v (by rw [← List.append_assoc]; exact hSW)⟩
  · rw [if_neg hs] at hq0
    have hf := cfail (k := 1) (pl := sk o L p) hC
    refine qA_0 ?_
    rw [t5]
    refine ⟨by omega, o1, w1.1, fun z => absurd (w1.2.mpr hs) z, fun _ => ⟨by omega, by omega, by omega, fun z => absurd h2 z, fun _ S1 e1 S2 e2 => ?_⟩⟩
    rw [e2, e1]
    exact hq0 _ _ rfl (QFr.af hf.2) hf.1
theorem cq0 {o : Int → Int} {L : Int} {n : Nat} (i0 : CS0 o L n) (i2 : CS2 o L n) : CS0 o L (n + 1) := by
  intro d op p e v i σ C Q hn ho hd hi hC hS hl hq0 hq1
  obtain ⟨⟨h3, h1, hL, hoc⟩, ⟨h2, h2'⟩, ⟨t5, t4, t6⟩, hp⟩ := hC.f
  have ht := tok (o := o) (L := L) e hp.1 hp.2
  have hsz := hS.1
  have hE : qx o L (n + 1) 0 op p e = qxP o L (qx o L n) op p e := rfl
  rw [hE] at hq0 hq1
  unfold qxP at hq0 hq1
  have r4 := qwd_r o L 4 (by decide) p e
  have o1 := csgO (c := 40) hC (by decide)
  have w1 := csg1 (c := 40) hC (by decide)
  by_cases hk2 : kd o L e (sk o L p) = 2
  · rw [if_pos hk2] at hq0 hq1
    refine qP_0 ⟨by omega, fun z => absurd (t4.trans hk2) z, fun _ => ⟨by omega, ?_⟩⟩
    refine qN_0 ⟨by omega, numberHere_ok (by omega) (by omega) (by omega) (by omega) h2 (fun c => ?_) (fun c => ?_)⟩
    · rw [t5, t6] at c
      have hb := nb_r hp.1 hp.2 hk2 c.2
      have hX : pxN o L 0 9999 p e = .inr (nbV o (sk o L p) (te o L (sk o L p) - sk o L p), te o L (sk o L p), te o L (sk o L p)) := by
        unfold pxN
        rw [if_pos hk2, if_pos c.2, if_pos hb]
      rw [hX] at hq0 hq1
      rw [h3, t5, t6]
      generalize nbV o (sk o L p) (te o L (sk o L p) - sk o L p) = w at *
      have hd1 : sk o L p < te o L (sk o L p) := by
        obtain ⟨a, b, c⟩ := ht.2.2.2.2.2.1 hk2
        have := (rn_all (P := dgB o) (L := L) (p := sk o L p + 1)).1
        rw [c, rn_y a b]
        omega
      refine qN_7 ⟨by omega, fun _ => ⟨by omega, cadv 0 (by omega) hC (fun S1 hA hC1 => ?_)⟩, fun z => by omega⟩
      rw [if_pos (Or.inr hk2)] at hC1
      have hS1 := hS.af hA
      have q1 := hS1.1
      refine qN_22 ⟨by omega, by omega, fun z => by omega, fun _ => ⟨by omega, fun T2 f2 T3 f3 => qP_15 ⟨Or.inr rfl, ?_⟩⟩⟩
      rw [f2] at f3
      have hw := hS1.w (v := w) (x := 1000 + w) (by unfold ccq; rw [if_pos (by omega)]; omega)
      rw [← f3] at hw
      exact hq1 [1000 + w] _ _ T3 rfl ((QFr.af hA).tr hw.2) (by rw [f3]; exact ctp_w hC1) hw.1
    · rw [t4, t5, t6] at c
      rw [t4, t5]
      have hX : pxN o L 0 9999 p e = .inl (1, nhP (kd o L e (sk o L p)) (sk o L p)) := by
        unfold pxN nhP
        rw [if_pos hk2, if_neg (fun z => c ⟨hk2, z⟩), if_pos hk2]
      rw [hX] at hq0
      have hf := cfail (k := 1) (pl := nhP (kd o L e (sk o L p)) (sk o L p)) hC
      exact qN_7 ⟨by decide, fun z => absurd rfl z, fun _ => qP_15 ⟨Or.inl rfl, hq0 _ _ rfl (QFr.af hf.2) hf.1⟩⟩
  · rw [if_neg hk2] at hq0 hq1
    by_cases hs : qsg o L p e = 40
    · rw [if_pos hs] at hq0 hq1
      have k3 := (qsg_t hs (by decide)).1
      have hsl := ht.2.2.2.1 k3
      refine qP_0 ⟨by omega, fun _ => ⟨by omega, o1, w1.1, fun z => absurd hs (w1.2.mp z), fun _ => ⟨by omega, copen (by omega) hC hS ho (fun h6 S hF hCS => ?_) (fun h6 S hF hCS hSS => ?_)⟩⟩, fun z => absurd (t4.symm.trans z) hk2⟩
      · rw [if_pos h6] at hq0
        exact qP_32 ⟨by decide, fun _ => hq0 _ S rfl hF hCS, fun z => absurd rfl z⟩
      · rw [if_neg h6] at hq0 hq1
        rw [if_neg (by omega), hsl.2] at hCS
        refine qP_32 ⟨by decide, fun z => absurd z (by decide), fun _ => ⟨by omega, i2 (d - 1) (op + 1) (sk o L p + 1) (-1) 0 0 S C _ (by omega) (by omega) (by omega) (by omega) hCS hSS (by omega) (fun z T hz hF2 hCT => ?_) (fun c p1 e1 T hz hF2 hCT hST => ?_)⟩⟩
        · exact qP_39 ⟨by decide, fun _ => hq0 z T (by rw [hz]; rfl) (hF.tr hF2) hCT, fun z => absurd rfl z⟩
        · refine qP_39 ⟨by decide, fun z => absurd z (by decide), fun _ => ⟨by omega, cclose (by omega) (by decide) hCT hST (fun U hFU hCU hSU => ?_)⟩⟩
          rw [hz] at hq0 hq1
          unfold qcl at hq0 hq1
          dsimp only [qbd] at hq0 hq1
          rcases hX : pxS o L 41 p1 e1 with z | ⟨v3, p3, e3⟩
          · rw [hX] at hCU hq0
            exact qP_48 ⟨(by decide : r3 0), fun _ => hq0 z U rfl ((hF.tr hF2).tr hFU) hCU, fun z => absurd rfl z⟩
          · rw [hX] at hCU hq1
            rw [show op + 1 - 1 = op by omega] at hSU
            exact qP_48 ⟨(by decide : r3 1), fun z => absurd (show (1 : Int) = 0 from z) (by decide), fun _ => hq1 c p3 e3 U rfl ((hF.tr hF2).tr hFU) hCU.v hSU⟩
    · rw [if_neg hs] at hq0 hq1
      refine qP_0 ⟨by omega, fun _ => ⟨by omega, o1, w1.1, fun _ => ⟨by omega, cwa (i := 4) (by decide) (by omega) hC ?_⟩, fun z => absurd (w1.2.mpr hs) z⟩, fun z => absurd (t4.symm.trans z) hk2⟩
      change AW d mX3_readPart 66 _ [.inl (qwd o L 4 p e)] σ Q
      by_cases hw0 : qwd o L 4 p e = -1
      · rw [if_pos hw0] at hq0
        have hf := cfail (k := 1) (pl := sk o L p) hC
        refine qP_66 ?_
        rw [t5]
        refine ⟨by omega, fun z => absurd hw0 z, fun _ => ⟨by omega, by omega, by omega, fun z => absurd h2 z, fun _ S1 e1 S2 e2 => ?_⟩⟩
        rw [e2, e1]
        exact hq0 _ _ rfl (QFr.af hf.2) hf.1
      · rw [if_neg hw0] at hq0 hq1
        have k1 := qwd_t hw0
        have hnl := (name_lt hp.1 hp.2 k1).1
        have hw9 : qwd o L 4 p e ≤ 9 := by
          unfold qwd
          rw [if_pos k1]
          rcases fstW_r (o := o) (s := sk o L p) (t := te o L (sk o L p)) (WL 4) 0 (by omega) with z | ⟨z1, z2, _⟩
          · omega
          · have : ((WL 4).length : Int) = 10 := by decide
            omega
        generalize qwd o L 4 p e = w at *
        by_cases h4 : w ≤ 4
        · rw [if_pos h4] at hq0 hq1
          refine qP_66 ⟨by omega, fun _ => ⟨by omega, fun z => by omega, fun _ => ⟨by omega, cadv 0 (by omega) hC (fun S1 hA hC1 => ?_)⟩⟩, fun z => absurd z hw0⟩
          rw [if_pos (Or.inl k1)] at hC1
          have hS1 := hS.af hA
          have q1 := hS1.1
          refine qP_92 ⟨by omega, by omega, by omega, fun z => by omega, fun _ => ⟨by omega, fun T2 f2 T3 f3 => ?_⟩⟩
          rw [f2] at f3
          have hw := hS1.w (v := -1 - w) (x := 40 + w) (by unfold ccq; rw [if_neg (by omega), if_neg (by omega), if_neg (by omega), if_pos (by omega)]; omega)
          rw [← f3] at hw
          exact hq1 [40 + w] _ _ T3 rfl ((QFr.af hA).tr hw.2) (by rw [f3]; exact ctp_w hC1) hw.1
        · rw [if_neg h4] at hq0 hq1
          by_cases h7 : w ≤ 7
          · rw [if_pos h7] at hq0 hq1
            refine qP_66 ⟨by omega, fun _ => ⟨by omega, fun _ => ⟨by omega, fun z => by omega, fun _ => ⟨by omega, copen (by omega) hC hS ho (fun h6 S hF hCS => ?_) (fun h6 S hF hCS hSS => ?_)⟩⟩, fun z => by omega⟩, fun z => absurd z hw0⟩
            · rw [if_pos h6] at hq0
              exact qP_108 ⟨by decide, fun _ => hq0 _ S rfl hF hCS, fun z => absurd rfl z⟩
            · rw [if_neg h6] at hq0 hq1
              rw [if_pos (Or.inl k1)] at hCS
              refine qP_108 ⟨by decide, fun z => absurd z (by decide), fun _ => ⟨by omega, i0 (d - 1) (op + 1) (te o L (sk o L p)) (te o L (sk o L p)) 0 0 S C _ (by omega) (by omega) (by omega) (by omega) hCS hSS (by omega) (fun z T hz hF2 hCT => ?_) (fun c p1 e1 T hz hF2 hCT hST => ?_)⟩⟩
              · exact qP_115 ⟨by decide, fun z => absurd rfl z, fun _ => hq0 z T (by rw [hz]; rfl) (hF.tr hF2) hCT⟩
              · have hr := qx_r n _ _ _ _ _ (by omega) (by omega) hz
                unfold QOk at hr
                dsimp only at hr
                obtain ⟨s1, s2, s3⟩ := hST
                rw [List.length_append] at s1
                refine qP_115 ⟨by decide, fun _ T1 f1 => ?_, fun z => absurd z (by decide)⟩
                have hST1 : QSc (C ++ c) op T1 := by
                  refine ⟨?_, ?_, fun i hi => ?_⟩
                  · rw [f1, up_i (by decide), List.length_append]
                    exact s1
                  · rw [f1, up_at, s2]
                    omega
                  · rw [f1, up_p (by decide)]
                    exact s3 i hi
                have hFT1 : QFr T T1 := ⟨fun q a b c => by rw [f1, up_pf b], fun i a b => by rw [f1, up_i b]⟩
                have hCT1 : CTp o L (.inr (0, p1, e1)) T1 := hCT.cong (by rw [f1, up_pf (by decide)]) (by rw [f1, up_pf (by decide)])
                have q1 := hST1.1
                rw [List.length_append] at q1
                refine ⟨by omega, by omega, by omega, fun z => by omega, fun _ => ⟨by omega, fun T2 f2 T3 f3 => ?_⟩⟩
                rw [f2] at f3
                have hw := hST1.w (v := -1 - w) (x := 55 + w) (by unfold ccq; rw [if_neg (by omega), if_neg (by omega), if_pos (by omega)]; omega)
                rw [← f3] at hw
                exact hq1 (c ++ [55 + w]) p1 e1 T3 (by rw [hz]; rfl) (((hF.tr hF2).tr hFT1).tr hw.2) (by rw [f3]; exact ctp_w hCT1) (by rw [← List.append_assoc]; exact hw.1)
          · rw [if_neg h7] at hq0 hq1
            refine qP_66 ⟨by omega, fun _ => ⟨by omega, fun _ => ⟨by omega, fun _ => ⟨by omega, cadv 0 (by omega) hC (fun S1 hA hC1 => ?_)⟩, fun z => by omega⟩, fun z => by omega⟩, fun z => absurd z hw0⟩
            rw [if_pos (Or.inl k1)] at hC1
            have hS1 := hS.af hA
            refine qP_143 ⟨by omega, cqA i2 (by omega) ho (by omega) hC1 hS1 (by omega) (fun z T hz hF2 hCT => ?_) (fun c p1 e1 T hz hF2 hCT hST => ?_)⟩
            · exact qP_147 ⟨by decide, fun _ => hq0 z T (by rw [hz]; rfl) ((QFr.af hA).tr hF2) hCT, fun z => absurd rfl z⟩
            · have hr := qxA_r (qx_r n) (by omega) (by omega) hz
              unfold QOk at hr
              dsimp only at hr
              have q1 := hST.1
              rw [List.length_append] at q1
              refine qP_147 ⟨by decide, fun z => absurd z (by decide), fun _ => ⟨by omega, by omega, by omega, fun z => by omega, fun _ => ⟨by omega, fun T2 f2 T3 f3 => ?_⟩⟩⟩
              rw [f2] at f3
              have hw := hST.w (v := -1 - w) (x := w - 3) (by unfold ccq; rw [if_neg (by omega), if_neg (by omega), if_neg (by omega), if_neg (by omega), if_pos (by omega)]; omega)
              rw [← f3] at hw
              exact hq1 (c ++ [w - 3]) p1 e1 T3 (by rw [hz]; rfl) (((QFr.af hA).tr hF2).tr hw.2) (by rw [f3]; exact ctp_w hCT) (by rw [← List.append_assoc]; exact hw.1)
theorem cqAll {o : Int → Int} {L : Int} : ∀ n, CS0 o L n ∧ CS1 o L n ∧ CS2 o L n ∧ CS3 o L n ∧ CS4 o L n ∧ CS5 o L n ∧ CS6 o L n ∧ CS7 o L n ∧ CS8 o L n ∧ CS9 o L n ∧ CS10 o L n := by
  intro n
  induction n with
  | zero =>
    refine ⟨?_, ?_, ?_, ?_, ?_, ?_, ?_, ?_, ?_, ?_, ?_⟩ <;> (intro d op p e v i σ C Q hn ho hd hi hC; have := hC.f.2.2.2; omega)
  | succ n ih =>
    obtain ⟨i0, i1, i2, i3, i4, i5, i6, i7, i8, i9, i10⟩ := ih
    exact ⟨cq0 i0 i2, cq1 i0 i3, cq2 i1 i4, cq3 i0 i3, cq4 i1 i4, cq5 i2, cq6 i5 i6 i8, cq7 i6 i9, cq8 i7 i10, cq9 i6 i9, cq10 i7 i10⟩
