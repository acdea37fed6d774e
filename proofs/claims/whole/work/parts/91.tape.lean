/-! ===== the tape: kinds of signs, the next token (wip/whole/gen91.py) ===== -/
def chB (c : Int) : Int := if c = 10 ∨ c = 32 then 1 else 0
def chL (c : Int) : Int := if 97 ≤ c ∧ c ≤ 122 then 1 else 0
def chD (c : Int) : Int := if 48 ≤ c ∧ c ≤ 57 then 1 else 0
def kX7_isBlank_17 : List BI := [bi (.ireturn) 1 [1] 0]
theorem cX7_isBlank_17 : chk mX7_isBlank 17 kX7_isBlank_17 = true := by decide +kernel
def kX7_isBlank_12 : List BI := [bi (.iconst 1) 1 [] 0, bi (.goto (4)) 3 [17] 0]
theorem cX7_isBlank_12 : chk mX7_isBlank 12 kX7_isBlank_12 = true := by decide +kernel
def kX7_isBlank_16 : List BI := [bi (.iconst 0) 1 [] 0, bi (.ireturn) 1 [1] 0]
theorem cX7_isBlank_16 : chk mX7_isBlank 16 kX7_isBlank_16 = true := by decide +kernel
def kX7_isBlank_0 : List BI := [bi (.iload_n 0) 1 [] 0, bi (.bipush (10)) 2 [] 0, bi (.if_icmp .eq (9)) 3 [12] 0, bi (.iload_n 0) 1 [] 0, bi (.bipush (32)) 2 [] 0, bi (.if_icmp .ne (7)) 3 [16] 0, bi (.iconst 1) 1 [] 0, bi (.goto (4)) 3 [17] 0]
theorem cX7_isBlank_0 : chk mX7_isBlank 0 kX7_isBlank_0 = true := by decide +kernel
theorem tisBlank_0 {d : Nat} {σ : SG} {Q : Option AV → SG → Prop} {c : Int} (h : (r3 c) ∧ (c = 10 → Q (some (.inl 1)) σ) ∧ (c ≠ 10 → (r3 c) ∧ (c ≠ 32 → Q (some (.inl 0)) σ) ∧ (c = 32 → Q (some (.inl 1)) σ))) : AW d mX7_isBlank 0 [some (.inl c)] [] σ Q := AW.blk kX7_isBlank_0 cX7_isBlank_0 (⟨⟨(h).1, (by decide)⟩, ⟨fun c2 => AW.blk kX7_isBlank_12 cX7_isBlank_12 (AW.blk kX7_isBlank_17 cX7_isBlank_17 (⟨(by decide), ((h).2).1 c2⟩)), fun c2 => ⟨⟨(((h).2).2 c2).1, (by decide)⟩, ⟨fun c1 => AW.blk kX7_isBlank_16 cX7_isBlank_16 (⟨(by decide), ((((h).2).2 c2).2).1 c1⟩), fun c1 => AW.blk kX7_isBlank_17 cX7_isBlank_17 (⟨(by decide), ((((h).2).2 c2).2).2 c1⟩)⟩⟩⟩⟩)
theorem tisBlank_ok {d : Nat} {σ : SG} {Q : Option AV → SG → Prop} {c : Int} (h : (r3 c) ∧ Q (some (.inl (chB c))) σ) : AW d mX7_isBlank 0 [some (.inl c)] [] σ Q := by
  obtain ⟨h0, hq⟩ := h
  unfold chB at hq
  refine tisBlank_0 ⟨h0, fun c1 => ?_, fun c1 => ⟨h0, fun c2 => ?_, fun c2 => ?_⟩⟩
  · rwa [if_pos (by omega)] at hq
  · rwa [if_neg (by omega)] at hq
  · rwa [if_pos (by omega)] at hq

def kX7_isLetter_16 : List BI := [bi (.iconst 0) 1 [] 0, bi (.ireturn) 1 [1] 0]
theorem cX7_isLetter_16 : chk mX7_isLetter 16 kX7_isLetter_16 = true := by decide +kernel
def kX7_isLetter_17 : List BI := [bi (.ireturn) 1 [1] 0]
theorem cX7_isLetter_17 : chk mX7_isLetter 17 kX7_isLetter_17 = true := by decide +kernel
def kX7_isLetter_0 : List BI := [bi (.iload_n 0) 1 [] 0, bi (.bipush (97)) 2 [] 0, bi (.if_icmp .lt (13)) 3 [16] 0, bi (.iload_n 0) 1 [] 0, bi (.bipush (122)) 2 [] 0, bi (.if_icmp .gt (7)) 3 [16] 0, bi (.iconst 1) 1 [] 0, bi (.goto (4)) 3 [17] 0]
theorem cX7_isLetter_0 : chk mX7_isLetter 0 kX7_isLetter_0 = true := by decide +kernel
theorem tisLetter_0 {d : Nat} {σ : SG} {Q : Option AV → SG → Prop} {c : Int} (h : (r3 c) ∧ (c < 97 → Q (some (.inl 0)) σ) ∧ (97 ≤ c → (r3 c) ∧ (122 < c → Q (some (.inl 0)) σ) ∧ (c ≤ 122 → Q (some (.inl 1)) σ))) : AW d mX7_isLetter 0 [some (.inl c)] [] σ Q := AW.blk kX7_isLetter_0 cX7_isLetter_0 (⟨⟨(h).1, (by decide)⟩, ⟨fun c4 => AW.blk kX7_isLetter_16 cX7_isLetter_16 (⟨(by decide), ((h).2).1 c4⟩), fun c4 => ⟨⟨(((h).2).2 c4).1, (by decide)⟩, ⟨fun c3 => AW.blk kX7_isLetter_16 cX7_isLetter_16 (⟨(by decide), ((((h).2).2 c4).2).1 c3⟩), fun c3 => AW.blk kX7_isLetter_17 cX7_isLetter_17 (⟨(by decide), ((((h).2).2 c4).2).2 c3⟩)⟩⟩⟩⟩)
theorem tisLetter_ok {d : Nat} {σ : SG} {Q : Option AV → SG → Prop} {c : Int} (h : (r3 c) ∧ Q (some (.inl (chL c))) σ) : AW d mX7_isLetter 0 [some (.inl c)] [] σ Q := by
  obtain ⟨h0, hq⟩ := h
  unfold chL at hq
  refine tisLetter_0 ⟨h0, fun c1 => ?_, fun c1 => ⟨h0, fun c2 => ?_, fun c2 => ?_⟩⟩
  · rwa [if_neg (by omega)] at hq
  · rwa [if_neg (by omega)] at hq
  · rwa [if_pos (by omega)] at hq

def kX7_isDigit_16 : List BI := [bi (.iconst 0) 1 [] 0, bi (.ireturn) 1 [1] 0]
theorem cX7_isDigit_16 : chk mX7_isDigit 16 kX7_isDigit_16 = true := by decide +kernel
def kX7_isDigit_17 : List BI := [bi (.ireturn) 1 [1] 0]
theorem cX7_isDigit_17 : chk mX7_isDigit 17 kX7_isDigit_17 = true := by decide +kernel
def kX7_isDigit_0 : List BI := [bi (.iload_n 0) 1 [] 0, bi (.bipush (48)) 2 [] 0, bi (.if_icmp .lt (13)) 3 [16] 0, bi (.iload_n 0) 1 [] 0, bi (.bipush (57)) 2 [] 0, bi (.if_icmp .gt (7)) 3 [16] 0, bi (.iconst 1) 1 [] 0, bi (.goto (4)) 3 [17] 0]
theorem cX7_isDigit_0 : chk mX7_isDigit 0 kX7_isDigit_0 = true := by decide +kernel
theorem tisDigit_0 {d : Nat} {σ : SG} {Q : Option AV → SG → Prop} {c : Int} (h : (r3 c) ∧ (c < 48 → Q (some (.inl 0)) σ) ∧ (48 ≤ c → (r3 c) ∧ (57 < c → Q (some (.inl 0)) σ) ∧ (c ≤ 57 → Q (some (.inl 1)) σ))) : AW d mX7_isDigit 0 [some (.inl c)] [] σ Q := AW.blk kX7_isDigit_0 cX7_isDigit_0 (⟨⟨(h).1, (by decide)⟩, ⟨fun c6 => AW.blk kX7_isDigit_16 cX7_isDigit_16 (⟨(by decide), ((h).2).1 c6⟩), fun c6 => ⟨⟨(((h).2).2 c6).1, (by decide)⟩, ⟨fun c5 => AW.blk kX7_isDigit_16 cX7_isDigit_16 (⟨(by decide), ((((h).2).2 c6).2).1 c5⟩), fun c5 => AW.blk kX7_isDigit_17 cX7_isDigit_17 (⟨(by decide), ((((h).2).2 c6).2).2 c5⟩)⟩⟩⟩⟩)
theorem tisDigit_ok {d : Nat} {σ : SG} {Q : Option AV → SG → Prop} {c : Int} (h : (r3 c) ∧ Q (some (.inl (chD c))) σ) : AW d mX7_isDigit 0 [some (.inl c)] [] σ Q := by
  obtain ⟨h0, hq⟩ := h
  unfold chD at hq
  refine tisDigit_0 ⟨h0, fun c1 => ?_, fun c1 => ⟨h0, fun c2 => ?_, fun c2 => ?_⟩⟩
  · rwa [if_neg (by omega)] at hq
  · rwa [if_neg (by omega)] at hq
  · rwa [if_pos (by omega)] at hq

def kX9_isLetter_16 : List BI := [bi (.iconst 0) 1 [] 0, bi (.ireturn) 1 [1] 0]
theorem cX9_isLetter_16 : chk mX9_isLetter 16 kX9_isLetter_16 = true := by decide +kernel
def kX9_isLetter_17 : List BI := [bi (.ireturn) 1 [1] 0]
theorem cX9_isLetter_17 : chk mX9_isLetter 17 kX9_isLetter_17 = true := by decide +kernel
def kX9_isLetter_0 : List BI := [bi (.iload_n 0) 1 [] 0, bi (.bipush (97)) 2 [] 0, bi (.if_icmp .lt (13)) 3 [16] 0, bi (.iload_n 0) 1 [] 0, bi (.bipush (122)) 2 [] 0, bi (.if_icmp .gt (7)) 3 [16] 0, bi (.iconst 1) 1 [] 0, bi (.goto (4)) 3 [17] 0]
theorem cX9_isLetter_0 : chk mX9_isLetter 0 kX9_isLetter_0 = true := by decide +kernel
theorem misLetter_0 {d : Nat} {σ : SG} {Q : Option AV → SG → Prop} {c : Int} (h : (r3 c) ∧ (c < 97 → Q (some (.inl 0)) σ) ∧ (97 ≤ c → (r3 c) ∧ (122 < c → Q (some (.inl 0)) σ) ∧ (c ≤ 122 → Q (some (.inl 1)) σ))) : AW d mX9_isLetter 0 [some (.inl c)] [] σ Q := AW.blk kX9_isLetter_0 cX9_isLetter_0 (⟨⟨(h).1, (by decide)⟩, ⟨fun c8 => AW.blk kX9_isLetter_16 cX9_isLetter_16 (⟨(by decide), ((h).2).1 c8⟩), fun c8 => ⟨⟨(((h).2).2 c8).1, (by decide)⟩, ⟨fun c7 => AW.blk kX9_isLetter_16 cX9_isLetter_16 (⟨(by decide), ((((h).2).2 c8).2).1 c7⟩), fun c7 => AW.blk kX9_isLetter_17 cX9_isLetter_17 (⟨(by decide), ((((h).2).2 c8).2).2 c7⟩)⟩⟩⟩⟩)
theorem misLetter_ok {d : Nat} {σ : SG} {Q : Option AV → SG → Prop} {c : Int} (h : (r3 c) ∧ Q (some (.inl (chL c))) σ) : AW d mX9_isLetter 0 [some (.inl c)] [] σ Q := by
  obtain ⟨h0, hq⟩ := h
  unfold chL at hq
  refine misLetter_0 ⟨h0, fun c1 => ?_, fun c1 => ⟨h0, fun c2 => ?_, fun c2 => ?_⟩⟩
  · rwa [if_neg (by omega)] at hq
  · rwa [if_neg (by omega)] at hq
  · rwa [if_pos (by omega)] at hq

def kX9_isDigit_16 : List BI := [bi (.iconst 0) 1 [] 0, bi (.ireturn) 1 [1] 0]
theorem cX9_isDigit_16 : chk mX9_isDigit 16 kX9_isDigit_16 = true := by decide +kernel
def kX9_isDigit_17 : List BI := [bi (.ireturn) 1 [1] 0]
theorem cX9_isDigit_17 : chk mX9_isDigit 17 kX9_isDigit_17 = true := by decide +kernel
def kX9_isDigit_0 : List BI := [bi (.iload_n 0) 1 [] 0, bi (.bipush (48)) 2 [] 0, bi (.if_icmp .lt (13)) 3 [16] 0, bi (.iload_n 0) 1 [] 0, bi (.bipush (57)) 2 [] 0, bi (.if_icmp .gt (7)) 3 [16] 0, bi (.iconst 1) 1 [] 0, bi (.goto (4)) 3 [17] 0]
theorem cX9_isDigit_0 : chk mX9_isDigit 0 kX9_isDigit_0 = true := by decide +kernel
theorem misDigit_0 {d : Nat} {σ : SG} {Q : Option AV → SG → Prop} {c : Int} (h : (r3 c) ∧ (c < 48 → Q (some (.inl 0)) σ) ∧ (48 ≤ c → (r3 c) ∧ (57 < c → Q (some (.inl 0)) σ) ∧ (c ≤ 57 → Q (some (.inl 1)) σ))) : AW d mX9_isDigit 0 [some (.inl c)] [] σ Q := AW.blk kX9_isDigit_0 cX9_isDigit_0 (⟨⟨(h).1, (by decide)⟩, ⟨fun c10 => AW.blk kX9_isDigit_16 cX9_isDigit_16 (⟨(by decide), ((h).2).1 c10⟩), fun c10 => ⟨⟨(((h).2).2 c10).1, (by decide)⟩, ⟨fun c9 => AW.blk kX9_isDigit_16 cX9_isDigit_16 (⟨(by decide), ((((h).2).2 c10).2).1 c9⟩), fun c9 => AW.blk kX9_isDigit_17 cX9_isDigit_17 (⟨(by decide), ((((h).2).2 c10).2).2 c9⟩)⟩⟩⟩⟩)
theorem misDigit_ok {d : Nat} {σ : SG} {Q : Option AV → SG → Prop} {c : Int} (h : (r3 c) ∧ Q (some (.inl (chD c))) σ) : AW d mX9_isDigit 0 [some (.inl c)] [] σ Q := by
  obtain ⟨h0, hq⟩ := h
  unfold chD at hq
  refine misDigit_0 ⟨h0, fun c1 => ?_, fun c1 => ⟨h0, fun c2 => ?_, fun c2 => ?_⟩⟩
  · rwa [if_neg (by omega)] at hq
  · rwa [if_neg (by omega)] at hq
  · rwa [if_pos (by omega)] at hq

def kX7_advance_21 : List BI := [bi (.istore_n 1) 1 [] 0, bi (.aload_n 0) 1 [] 0, bi (.getfield 31) 3 [7, 6] 0, bi (.istore_n 2) 1 [] 0, bi (.aload_n 0) 1 [] 0, bi (.iload_n 2) 1 [] 0, bi (.putfield 28) 3 [7, 5] 0]
theorem cX7_advance_21 : chk mX7_advance 21 kX7_advance_21 = true := by decide +kernel
def kX7_advance_16 : List BI := [bi (.iconst 1) 1 [] 0, bi (.goto (4)) 3 [21] 0]
theorem cX7_advance_16 : chk mX7_advance 16 kX7_advance_16 = true := by decide +kernel
def kX7_advance_20 : List BI := [bi (.iconst 0) 1 [] 0, bi (.istore_n 1) 1 [] 0, bi (.aload_n 0) 1 [] 0, bi (.getfield 31) 3 [7, 6] 0, bi (.istore_n 2) 1 [] 0, bi (.aload_n 0) 1 [] 0, bi (.iload_n 2) 1 [] 0, bi (.putfield 28) 3 [7, 5] 0]
theorem cX7_advance_20 : chk mX7_advance 20 kX7_advance_20 = true := by decide +kernel
def kX7_advance_0 : List BI := [bi (.aload_n 0) 1 [] 0, bi (.getfield 25) 3 [7, 4] 0, bi (.iconst 1) 1 [] 0, bi (.if_icmp .eq (11)) 3 [16] 0, bi (.aload_n 0) 1 [] 0, bi (.getfield 25) 3 [7, 4] 0, bi (.iconst 2) 1 [] 0, bi (.if_icmp .ne (7)) 3 [20] 0, bi (.iconst 1) 1 [] 0, bi (.goto (4)) 3 [21] 0]
theorem cX7_advance_0 : chk mX7_advance 0 kX7_advance_0 = true := by decide +kernel
theorem tad_0 {d : Nat} {σ : SG} {Q : Option AV → SG → Prop} (h : (r3 (σ 2 4)) ∧ ((σ 2 4) = 1 → (∀ S11 : SG, S11 = up σ 2 5 (σ 2 6) → AW d mX7_advance 32 [some (.inr (.inr 2)), some (.inl 1), some (.inl (σ 2 6))] [] S11 Q)) ∧ ((σ 2 4) ≠ 1 → (r3 (σ 2 4)) ∧ ((σ 2 4) ≠ 2 → (∀ S12 : SG, S12 = up σ 2 5 (σ 2 6) → AW d mX7_advance 32 [some (.inr (.inr 2)), some (.inl 0), some (.inl (σ 2 6))] [] S12 Q)) ∧ ((σ 2 4) = 2 → (∀ S13 : SG, S13 = up σ 2 5 (σ 2 6) → AW d mX7_advance 32 [some (.inr (.inr 2)), some (.inl 1), some (.inl (σ 2 6))] [] S13 Q)))) : AW d mX7_advance 0 [some (.inr (.inr 2)), none, none] [] σ Q := AW.blk kX7_advance_0 cX7_advance_0 (⟨⟨(h).1, (by decide)⟩, ⟨fun c15 => AW.blk kX7_advance_16 cX7_advance_16 (AW.blk kX7_advance_21 cX7_advance_21 ((((h).2).1 c15) _ rfl)), fun c15 => ⟨⟨(((h).2).2 c15).1, (by decide)⟩, ⟨fun c14 => AW.blk kX7_advance_20 cX7_advance_20 ((((((h).2).2 c15).2).1 c14) _ rfl), fun c14 => AW.blk kX7_advance_21 cX7_advance_21 ((((((h).2).2 c15).2).2 c14) _ rfl)⟩⟩⟩⟩)
def kX7_advance_32 : List BI := [bi (.aload_n 0) 1 [] 0, bi (.getfield 28) 3 [7, 5] 0, bi (.aload_n 0) 1 [] 0, bi (.getfield 15) 3 [7, 1] 0, bi (.if_icmp .ge (31)) 3 [71] 0, bi (.aload_n 0) 1 [] 0, bi (.getfield 9) 3 [7, 0] 0, bi (.aload_n 0) 1 [] 0, bi (.getfield 28) 3 [7, 5] 0, bi (.iaload) 1 [] 0, bi (.invokestatic 37) 3 [mX7_isBlank, 1, 1] 0, bi (.ifCond .eq (16)) 3 [71] 0, bi (.aload_n 0) 1 [] 0, bi (.dup) 1 [] 0, bi (.getfield 28) 3 [7, 5] 0, bi (.iconst 1) 1 [] 0, bi (.iadd) 1 [] 0, bi (.putfield 28) 3 [7, 5] 0, bi (.goto (-36)) 3 [32] 0]
theorem cX7_advance_32 : chk mX7_advance 32 kX7_advance_32 = true := by decide +kernel
theorem tad_32 {d : Nat} {σ : SG} {Q : Option AV → SG → Prop} {l1 l2 : Int} (h : (r3 (σ 2 5) ∧ r3 (σ 2 1)) ∧ ((σ 2 1) ≤ (σ 2 5) → AW d mX7_advance 71 [some (.inr (.inr 2)), some (.inl l1), some (.inl l2)] [] σ Q) ∧ ((σ 2 5) < (σ 2 1) → (0 ≤ (σ 2 5) ∧ (σ 2 5) < 1600) ∧ (0 < d) ∧ (r3 (σ 3 (σ 2 5))) ∧ (r3 (chB (σ 3 (σ 2 5)))) ∧ ((chB (σ 3 (σ 2 5))) = 0 → AW d mX7_advance 71 [some (.inr (.inr 2)), some (.inl l1), some (.inl l2)] [] σ Q) ∧ ((chB (σ 3 (σ 2 5))) ≠ 0 → (∀ S16 : SG, S16 = up σ 2 5 ((σ 2 5) + 1) → AW d mX7_advance 32 [some (.inr (.inr 2)), some (.inl l1), some (.inl l2)] [] S16 Q)))) : AW d mX7_advance 32 [some (.inr (.inr 2)), some (.inl l1), some (.inl l2)] [] σ Q := AW.blk kX7_advance_32 cX7_advance_32 (⟨⟨((h).1).1, ((h).1).2⟩, ⟨fun c18 => ((h).2).1 c18, fun c18 => ⟨⟨((((h).2).2 c18).1).1, ((((h).2).2 c18).1).2⟩, ⟨((((h).2).2 c18).2).1, tisBlank_ok ⟨(((((h).2).2 c18).2).2).1, ⟨((((((h).2).2 c18).2).2).2).1, ⟨fun c17 => (((((((h).2).2 c18).2).2).2).2).1 c17, fun c17 => ((((((((h).2).2 c18).2).2).2).2).2 c17) _ rfl⟩⟩⟩⟩⟩⟩⟩)
def kX7_advance_216 : List BI := [bi (.aload_n 0) 1 [] 0, bi (.iconst 3) 1 [] 0, bi (.putfield 25) 3 [7, 4] 0, bi (.aload_n 0) 1 [] 0, bi (.aload_n 0) 1 [] 0, bi (.getfield 28) 3 [7, 5] 0, bi (.iconst 1) 1 [] 0, bi (.iadd) 1 [] 0, bi (.putfield 31) 3 [7, 6] 0]
theorem cX7_advance_216 : chk mX7_advance 216 kX7_advance_216 = true := by decide +kernel
def kX7_advance_157 : List BI := [bi (.aload_n 0) 1 [] 0, bi (.getfield 9) 3 [7, 0] 0, bi (.aload_n 0) 1 [] 0, bi (.getfield 28) 3 [7, 5] 0, bi (.iaload) 1 [] 0, bi (.invokestatic 44) 3 [mX7_isDigit, 1, 1] 0, bi (.ifCond .eq (47)) 3 [216] 0, bi (.aload_n 0) 1 [] 0, bi (.iconst 2) 1 [] 0, bi (.putfield 25) 3 [7, 4] 0]
theorem cX7_advance_157 : chk mX7_advance 157 kX7_advance_157 = true := by decide +kernel
def kX7_advance_98 : List BI := [bi (.aload_n 0) 1 [] 0, bi (.getfield 9) 3 [7, 0] 0, bi (.aload_n 0) 1 [] 0, bi (.getfield 28) 3 [7, 5] 0, bi (.iaload) 1 [] 0, bi (.invokestatic 41) 3 [mX7_isLetter, 1, 1] 0, bi (.ifCond .eq (47)) 3 [157] 0, bi (.aload_n 0) 1 [] 0, bi (.iconst 1) 1 [] 0, bi (.putfield 25) 3 [7, 4] 0]
theorem cX7_advance_98 : chk mX7_advance 98 kX7_advance_98 = true := by decide +kernel
def kX7_advance_71 : List BI := [bi (.aload_n 0) 1 [] 0, bi (.aload_n 0) 1 [] 0, bi (.getfield 28) 3 [7, 5] 0, bi (.putfield 31) 3 [7, 6] 0, bi (.aload_n 0) 1 [] 0, bi (.getfield 28) 3 [7, 5] 0, bi (.aload_n 0) 1 [] 0, bi (.getfield 15) 3 [7, 1] 0, bi (.if_icmp .lt (11)) 3 [98] 0, bi (.aload_n 0) 1 [] 0, bi (.iconst 0) 1 [] 0, bi (.putfield 25) 3 [7, 4] 0, bi (.goto (136)) 3 [231] 0]
theorem cX7_advance_71 : chk mX7_advance 71 kX7_advance_71 = true := by decide +kernel
theorem tad_71 {d : Nat} {σ : SG} {Q : Option AV → SG → Prop} {l1 l2 : Int} (h : (∀ S19 : SG, S19 = up σ 2 6 (σ 2 5) → (r3 (S19 2 5) ∧ r3 (S19 2 1)) ∧ ((S19 2 5) < (S19 2 1) → (0 ≤ (S19 2 5) ∧ (S19 2 5) < 1600) ∧ (0 < d) ∧ (r3 (S19 3 (S19 2 5))) ∧ (r3 (chL (S19 3 (S19 2 5)))) ∧ ((chL (S19 3 (S19 2 5))) = 0 → (0 ≤ (S19 2 5) ∧ (S19 2 5) < 1600) ∧ (0 < d) ∧ (r3 (S19 3 (S19 2 5))) ∧ (r3 (chD (S19 3 (S19 2 5)))) ∧ ((chD (S19 3 (S19 2 5))) = 0 → (∀ S20 : SG, S20 = up S19 2 4 3 → (∀ S21 : SG, S21 = up S20 2 6 ((S20 2 5) + 1) → AW d mX7_advance 231 [some (.inr (.inr 2)), some (.inl l1), some (.inl l2)] [] S21 Q))) ∧ ((chD (S19 3 (S19 2 5))) ≠ 0 → (∀ S22 : SG, S22 = up S19 2 4 2 → AW d mX7_advance 177 [some (.inr (.inr 2)), some (.inl l1), some (.inl l2)] [] S22 Q))) ∧ ((chL (S19 3 (S19 2 5))) ≠ 0 → (∀ S24 : SG, S24 = up S19 2 4 1 → AW d mX7_advance 118 [some (.inr (.inr 2)), some (.inl l1), some (.inl l2)] [] S24 Q))) ∧ ((S19 2 1) ≤ (S19 2 5) → (∀ S26 : SG, S26 = up S19 2 4 0 → AW d mX7_advance 231 [some (.inr (.inr 2)), some (.inl l1), some (.inl l2)] [] S26 Q)))) : AW d mX7_advance 71 [some (.inr (.inr 2)), some (.inl l1), some (.inl l2)] [] σ Q := AW.blk kX7_advance_71 cX7_advance_71 (⟨⟨(((h) _ rfl).1).1, (((h) _ rfl).1).2⟩, ⟨fun c27 => AW.blk kX7_advance_98 cX7_advance_98 (⟨⟨(((((h) _ rfl).2).1 c27).1).1, (((((h) _ rfl).2).1 c27).1).2⟩, ⟨(((((h) _ rfl).2).1 c27).2).1, tisLetter_ok ⟨((((((h) _ rfl).2).1 c27).2).2).1, ⟨(((((((h) _ rfl).2).1 c27).2).2).2).1, ⟨fun c25 => AW.blk kX7_advance_157 cX7_advance_157 (⟨⟨((((((((((h) _ rfl).2).1 c27).2).2).2).2).1 c25).1).1, ((((((((((h) _ rfl).2).1 c27).2).2).2).2).1 c25).1).2⟩, ⟨((((((((((h) _ rfl).2).1 c27).2).2).2).2).1 c25).2).1, tisDigit_ok ⟨(((((((((((h) _ rfl).2).1 c27).2).2).2).2).1 c25).2).2).1, ⟨((((((((((((h) _ rfl).2).1 c27).2).2).2).2).1 c25).2).2).2).1, ⟨fun c23 => AW.blk kX7_advance_216 cX7_advance_216 ((((((((((((((((h) _ rfl).2).1 c27).2).2).2).2).1 c25).2).2).2).2).1 c23) _ rfl) _ rfl), fun c23 => ((((((((((((((h) _ rfl).2).1 c27).2).2).2).2).1 c25).2).2).2).2).2 c23) _ rfl⟩⟩⟩⟩⟩), fun c25 => (((((((((h) _ rfl).2).1 c27).2).2).2).2).2 c25) _ rfl⟩⟩⟩⟩⟩), fun c27 => ((((h) _ rfl).2).2 c27) _ rfl⟩⟩)
def kX7_advance_264 : List BI := [bi (.return_) 1 [] 0]
theorem cX7_advance_264 : chk mX7_advance 264 kX7_advance_264 = true := by decide +kernel
def kX7_advance_259 : List BI := [bi (.aload_n 0) 1 [] 0, bi (.iconst 4) 1 [] 0, bi (.putfield 25) 3 [7, 4] 0, bi (.return_) 1 [] 0]
theorem cX7_advance_259 : chk mX7_advance 259 kX7_advance_259 = true := by decide +kernel
def kX7_advance_231 : List BI := [bi (.iload_n 1) 1 [] 0, bi (.ifCond .eq (32)) 3 [264] 0, bi (.aload_n 0) 1 [] 0, bi (.getfield 28) 3 [7, 5] 0, bi (.iload_n 2) 1 [] 0, bi (.if_icmp .ne (24)) 3 [264] 0, bi (.aload_n 0) 1 [] 0, bi (.getfield 25) 3 [7, 4] 0, bi (.iconst 1) 1 [] 0, bi (.if_icmp .eq (11)) 3 [259] 0, bi (.aload_n 0) 1 [] 0, bi (.getfield 25) 3 [7, 4] 0, bi (.iconst 2) 1 [] 0, bi (.if_icmp .ne (8)) 3 [264] 0, bi (.aload_n 0) 1 [] 0, bi (.iconst 4) 1 [] 0, bi (.putfield 25) 3 [7, 4] 0, bi (.return_) 1 [] 0]
theorem cX7_advance_231 : chk mX7_advance 231 kX7_advance_231 = true := by decide +kernel
theorem tad_231 {d : Nat} {σ : SG} {Q : Option AV → SG → Prop} {l1 l2 : Int} (h : (r3 l1) ∧ (l1 = 0 → Q none σ) ∧ (l1 ≠ 0 → (r3 (σ 2 5) ∧ r3 l2) ∧ ((σ 2 5) ≠ l2 → Q none σ) ∧ ((σ 2 5) = l2 → (r3 (σ 2 4)) ∧ ((σ 2 4) = 1 → (∀ S28 : SG, S28 = up σ 2 4 4 → Q none S28)) ∧ ((σ 2 4) ≠ 1 → (r3 (σ 2 4)) ∧ ((σ 2 4) ≠ 2 → Q none σ) ∧ ((σ 2 4) = 2 → (∀ S29 : SG, S29 = up σ 2 4 4 → Q none S29)))))) : AW d mX7_advance 231 [some (.inr (.inr 2)), some (.inl l1), some (.inl l2)] [] σ Q := AW.blk kX7_advance_231 cX7_advance_231 (⟨(h).1, ⟨fun c33 => AW.blk kX7_advance_264 cX7_advance_264 (((h).2).1 c33), fun c33 => ⟨⟨((((h).2).2 c33).1).1, ((((h).2).2 c33).1).2⟩, ⟨fun c32 => AW.blk kX7_advance_264 cX7_advance_264 (((((h).2).2 c33).2).1 c32), fun c32 => ⟨⟨(((((h).2).2 c33).2).2 c32).1, (by decide)⟩, ⟨fun c31 => AW.blk kX7_advance_259 cX7_advance_259 ((((((((h).2).2 c33).2).2 c32).2).1 c31) _ rfl), fun c31 => ⟨⟨(((((((h).2).2 c33).2).2 c32).2).2 c31).1, (by decide)⟩, ⟨fun c30 => AW.blk kX7_advance_264 cX7_advance_264 (((((((((h).2).2 c33).2).2 c32).2).2 c31).2).1 c30), fun c30 => (((((((((h).2).2 c33).2).2 c32).2).2 c31).2).2 c30) _ rfl⟩⟩⟩⟩⟩⟩⟩⟩)
def kX7_advance_177 : List BI := [bi (.aload_n 0) 1 [] 0, bi (.getfield 31) 3 [7, 6] 0, bi (.aload_n 0) 1 [] 0, bi (.getfield 15) 3 [7, 1] 0, bi (.if_icmp .ge (46)) 3 [231] 0, bi (.aload_n 0) 1 [] 0, bi (.getfield 9) 3 [7, 0] 0, bi (.aload_n 0) 1 [] 0, bi (.getfield 31) 3 [7, 6] 0, bi (.iaload) 1 [] 0, bi (.invokestatic 44) 3 [mX7_isDigit, 1, 1] 0, bi (.ifCond .eq (31)) 3 [231] 0, bi (.aload_n 0) 1 [] 0, bi (.dup) 1 [] 0, bi (.getfield 31) 3 [7, 6] 0, bi (.iconst 1) 1 [] 0, bi (.iadd) 1 [] 0, bi (.putfield 31) 3 [7, 6] 0, bi (.goto (-36)) 3 [177] 0]
theorem cX7_advance_177 : chk mX7_advance 177 kX7_advance_177 = true := by decide +kernel
theorem tad_177 {d : Nat} {σ : SG} {Q : Option AV → SG → Prop} {l1 l2 : Int} (h : (r3 (σ 2 6) ∧ r3 (σ 2 1)) ∧ ((σ 2 1) ≤ (σ 2 6) → AW d mX7_advance 231 [some (.inr (.inr 2)), some (.inl l1), some (.inl l2)] [] σ Q) ∧ ((σ 2 6) < (σ 2 1) → (0 ≤ (σ 2 6) ∧ (σ 2 6) < 1600) ∧ (0 < d) ∧ (r3 (σ 3 (σ 2 6))) ∧ (r3 (chD (σ 3 (σ 2 6)))) ∧ ((chD (σ 3 (σ 2 6))) = 0 → AW d mX7_advance 231 [some (.inr (.inr 2)), some (.inl l1), some (.inl l2)] [] σ Q) ∧ ((chD (σ 3 (σ 2 6))) ≠ 0 → (∀ S34 : SG, S34 = up σ 2 6 ((σ 2 6) + 1) → AW d mX7_advance 177 [some (.inr (.inr 2)), some (.inl l1), some (.inl l2)] [] S34 Q)))) : AW d mX7_advance 177 [some (.inr (.inr 2)), some (.inl l1), some (.inl l2)] [] σ Q := AW.blk kX7_advance_177 cX7_advance_177 (⟨⟨((h).1).1, ((h).1).2⟩, ⟨fun c36 => ((h).2).1 c36, fun c36 => ⟨⟨((((h).2).2 c36).1).1, ((((h).2).2 c36).1).2⟩, ⟨((((h).2).2 c36).2).1, tisDigit_ok ⟨(((((h).2).2 c36).2).2).1, ⟨((((((h).2).2 c36).2).2).2).1, ⟨fun c35 => (((((((h).2).2 c36).2).2).2).2).1 c35, fun c35 => ((((((((h).2).2 c36).2).2).2).2).2 c35) _ rfl⟩⟩⟩⟩⟩⟩⟩)
def kX7_advance_118 : List BI := [bi (.aload_n 0) 1 [] 0, bi (.getfield 31) 3 [7, 6] 0, bi (.aload_n 0) 1 [] 0, bi (.getfield 15) 3 [7, 1] 0, bi (.if_icmp .ge (105)) 3 [231] 0, bi (.aload_n 0) 1 [] 0, bi (.getfield 9) 3 [7, 0] 0, bi (.aload_n 0) 1 [] 0, bi (.getfield 31) 3 [7, 6] 0, bi (.iaload) 1 [] 0, bi (.invokestatic 41) 3 [mX7_isLetter, 1, 1] 0, bi (.ifCond .eq (90)) 3 [231] 0, bi (.aload_n 0) 1 [] 0, bi (.dup) 1 [] 0, bi (.getfield 31) 3 [7, 6] 0, bi (.iconst 1) 1 [] 0, bi (.iadd) 1 [] 0, bi (.putfield 31) 3 [7, 6] 0, bi (.goto (-36)) 3 [118] 0]
theorem cX7_advance_118 : chk mX7_advance 118 kX7_advance_118 = true := by decide +kernel
theorem tad_118 {d : Nat} {σ : SG} {Q : Option AV → SG → Prop} {l1 l2 : Int} (h : (r3 (σ 2 6) ∧ r3 (σ 2 1)) ∧ ((σ 2 1) ≤ (σ 2 6) → AW d mX7_advance 231 [some (.inr (.inr 2)), some (.inl l1), some (.inl l2)] [] σ Q) ∧ ((σ 2 6) < (σ 2 1) → (0 ≤ (σ 2 6) ∧ (σ 2 6) < 1600) ∧ (0 < d) ∧ (r3 (σ 3 (σ 2 6))) ∧ (r3 (chL (σ 3 (σ 2 6)))) ∧ ((chL (σ 3 (σ 2 6))) = 0 → AW d mX7_advance 231 [some (.inr (.inr 2)), some (.inl l1), some (.inl l2)] [] σ Q) ∧ ((chL (σ 3 (σ 2 6))) ≠ 0 → (∀ S37 : SG, S37 = up σ 2 6 ((σ 2 6) + 1) → AW d mX7_advance 118 [some (.inr (.inr 2)), some (.inl l1), some (.inl l2)] [] S37 Q)))) : AW d mX7_advance 118 [some (.inr (.inr 2)), some (.inl l1), some (.inl l2)] [] σ Q := AW.blk kX7_advance_118 cX7_advance_118 (⟨⟨((h).1).1, ((h).1).2⟩, ⟨fun c39 => ((h).2).1 c39, fun c39 => ⟨⟨((((h).2).2 c39).1).1, ((((h).2).2 c39).1).2⟩, ⟨((((h).2).2 c39).2).1, tisLetter_ok ⟨(((((h).2).2 c39).2).2).1, ⟨((((((h).2).2 c39).2).2).2).1, ⟨fun c38 => (((((((h).2).2 c39).2).2).2).2).1 c38, fun c38 => ((((((((h).2).2 c39).2).2).2).2).2 c38) _ rfl⟩⟩⟩⟩⟩⟩⟩)
/-! runs of signs -/
def rnN (P : Int → Bool) : Nat → Int → Int
  | 0, p => p
  | n + 1, p => if P p = true then rnN P n (p + 1) else p
def rn (P : Int → Bool) (L p : Int) : Int := rnN P (L - p).toNat p
theorem rn_e {P : Int → Bool} {L p : Int} (h : L ≤ p) : rn P L p = p := by
  unfold rn
  rw [show (L - p).toNat = 0 by omega]
  rfl
theorem rn_y {P : Int → Bool} {L p : Int} (h : p < L) (hp : P p = true) : rn P L p = rn P L (p + 1) := by
  unfold rn
  rw [show (L - p).toNat = (L - (p + 1)).toNat + 1 by omega]
  show (if P p = true then rnN P (L - (p + 1)).toNat (p + 1) else p) = _
  rw [if_pos hp]
theorem rn_n {P : Int → Bool} {L p : Int} (hp : P p = false) : rn P L p = p := by
  by_cases h : p < L
  · unfold rn
    rw [show (L - p).toNat = (L - (p + 1)).toNat + 1 by omega]
    show (if P p = true then rnN P (L - (p + 1)).toNat (p + 1) else p) = _
    rw [if_neg (by rw [hp]; decide)]
  · exact rn_e (by omega)
theorem rn_all {P : Int → Bool} {L p : Int} : p ≤ rn P L p ∧ (p ≤ L → rn P L p ≤ L) ∧ (rn P L p < L → P (rn P L p) = false) ∧ (∀ i, p ≤ i → i < rn P L p → P i = true) ∧ (∀ m, p ≤ m → m ≤ rn P L p → rn P L m = rn P L p) := by
  have key : ∀ (n : Nat) (p : Int), (L - p).toNat = n → p ≤ rn P L p ∧ (p ≤ L → rn P L p ≤ L) ∧ (rn P L p < L → P (rn P L p) = false) ∧ (∀ i, p ≤ i → i < rn P L p → P i = true) ∧ (∀ m, p ≤ m → m ≤ rn P L p → rn P L m = rn P L p) := by
    intro n
    induction n with
    | zero =>
      intro p hp
      rw [rn_e (show L ≤ p by omega)]
      refine ⟨by omega, fun h => h, fun h => by omega, fun i a b => by omega, fun m a b => ?_⟩
      obtain rfl : m = p := by omega
      exact rn_e (by omega)
    | succ n ih =>
      intro p hp
      cases hb : P p
      · rw [rn_n hb]
        refine ⟨by omega, fun h => h, fun h => hb, fun i a b => by omega, fun m a b => ?_⟩
        obtain rfl : m = p := by omega
        exact rn_n hb
      · have h := ih (p + 1) (by omega)
        rw [rn_y (show p < L by omega) hb]
        obtain ⟨a, b, c, e, f⟩ := h
        refine ⟨by omega, fun h => b (by omega), c, fun i i0 i1 => ?_, fun m m0 m1 => ?_⟩
        · by_cases q : i = p
          · rw [q]
            exact hb
          · exact e i (by omega) i1
        · by_cases q : m = p
          · rw [q]
            exact rn_y (by omega) hb
          · exact f m (by omega) m1
  exact key _ p rfl
def bkB (o : Int → Int) : Int → Bool := fun i => decide (chB (o i) ≠ 0)
def ltB (o : Int → Int) : Int → Bool := fun i => decide (chL (o i) ≠ 0)
def dgB (o : Int → Int) : Int → Bool := fun i => decide (chD (o i) ≠ 0)
/-- behind the blanks -/
def sk (o : Int → Int) (L p : Int) : Int := rn (bkB o) L p
/-- the token at s: its kind, its end -/
def kdP (o : Int → Int) (L s : Int) : Int := if L ≤ s then 0 else if ltB o s = true then 1 else if dgB o s = true then 2 else 3
def kd (o : Int → Int) (L e s : Int) : Int := if (kdP o L s = 1 ∨ kdP o L s = 2) ∧ s = e then 4 else kdP o L s
def te (o : Int → Int) (L s : Int) : Int := if L ≤ s then s else if ltB o s = true then rn (ltB o) L s else if dgB o s = true then rn (dgB o) L s else s + 1
/-- the class's cells at a token -/
def TS (o : Int → Int) (L p e : Int) (f : Int → Int) : Prop := f 5 = sk o L p ∧ f 4 = kd o L e (sk o L p) ∧ f 6 = te o L (sk o L p)
def FR2 (f0 f : Int → Int) : Prop := ∀ i, i ≠ 4 → i ≠ 5 → i ≠ 6 → f i = f0 i
theorem chL_r (c : Int) : r3 (chL c) := by unfold chL; split <;> decide
theorem chB_r (c : Int) : r3 (chB c) := by unfold chB; split <;> decide
theorem chD_r (c : Int) : r3 (chD c) := by unfold chD; split <;> decide
theorem kdP_r (o : Int → Int) (L s : Int) : 0 ≤ kdP o L s ∧ kdP o L s ≤ 3 := by
  unfold kdP
  split
  · omega
  · split
    · omega
    · split <;> omega
theorem kd_r (o : Int → Int) (L e s : Int) : 0 ≤ kd o L e s ∧ kd o L e s ≤ 4 := by
  have := kdP_r o L s
  unfold kd
  split <;> omega
def OCT (o : Int → Int) : Prop := ∀ i, 0 ≤ i → i < 1600 → 0 ≤ o i ∧ o i ≤ 255
theorem advance_ok {d : Nat} {σ : SG} {Q : Option AV → SG → Prop} (hd : 1 ≤ d) (h1 : 0 ≤ σ 2 1 ∧ σ 2 1 ≤ 1600) (ho : OCT (σ 3)) (h6 : 0 ≤ σ 2 6 ∧ σ 2 6 ≤ σ 2 1) (h4 : r3 (σ 2 4)) (hq : ∀ f, FR2 (σ 2) f → TS (σ 3) (σ 2 1) (σ 2 6) (if σ 2 4 = 1 ∨ σ 2 4 = 2 then σ 2 6 else -1) f → Q none (putF σ 2 f)) : AW d mX7_advance 0 [some (.inr (.inr 2)), none, none] [] σ Q := by
  generalize hL : σ 2 1 = L at *
  generalize hp : σ 2 6 = p at *
  have hk := rn_all (P := bkB (σ 3)) (L := L) (p := p)
  have es : sk (σ 3) L p = rn (bkB (σ 3)) L p := rfl
  rw [← es] at hk
  have z3 : ∀ f, putF σ 2 f 3 = σ 3 := fun f => putF_ne (by decide)
  have y2 : ∀ f, putF σ 2 f 2 = f := fun f => putF_at σ 2 f
  have u2 : ∀ (f : Int → Int) (i v : Int), up (putF σ 2 f) 2 i v = putF σ 2 (fun j => if j = i then v else f j) := fun f i v => putF_up σ 2 f i v
  generalize hs : sk (σ 3) L p = s at *
  -- the end
  have fin : ∀ (l1 : Int), r3 l1 → (l1 ≠ 0 ↔ (σ 2 4 = 1 ∨ σ 2 4 = 2)) → ∀ f, FR2 (σ 2) f → f 5 = s → f 4 = kdP (σ 3) L s → f 6 = te (σ 3) L s → AW d mX7_advance 231 [some (.inr (.inr 2)), some (.inl l1), some (.inl p)] [] (putF σ 2 f) Q := by
    intro l1 hl hi f hf f5 f4 f6
    have hkr := kdP_r (σ 3) L s
    have go : ∀ f', FR2 (σ 2) f' → f' 5 = s → f' 4 = kd (σ 3) L (if σ 2 4 = 1 ∨ σ 2 4 = 2 then p else -1) s → f' 6 = te (σ 3) L s → Q none (putF σ 2 f') := fun f' a b c e => by
      refine hq f' a ?_
      unfold TS
      rw [hs]
      exact ⟨b, c, e⟩
    unfold kd at go
    refine tad_231 ?_
    rw [y2, f5, f4]
    refine ⟨hl, fun c => ?_, fun c => ⟨by omega, fun c2 => ?_, fun c2 => ⟨by omega, fun c3 S e => ?_, fun c3 => ⟨by omega, fun c4 => ?_, fun c4 S e => ?_⟩⟩⟩⟩
    · refine go f hf f5 ?_ f6
      rw [if_neg (show ¬ (σ 2 4 = 1 ∨ σ 2 4 = 2) from fun z => (hi.mpr z) c), if_neg (by omega)]
      exact f4
    · refine go f hf f5 ?_ f6
      rw [if_pos (hi.mp c), if_neg (fun z => c2 z.2)]
      exact f4
    · rw [e, u2]
      refine go _ (fun i a b c => by rw [if_neg a]; exact hf i a b c) f5 ?_ f6
      show (4 : Int) = _
      rw [if_pos (hi.mp c)]
      exact (if_pos ⟨Or.inl c3, c2⟩).symm
    · refine go f hf f5 ?_ f6
      rw [if_pos (hi.mp c), if_neg (fun z => z.1.elim c3 c4)]
      exact f4
    · rw [e, u2]
      refine go _ (fun i a b c => by rw [if_neg a]; exact hf i a b c) f5 ?_ f6
      show (4 : Int) = _
      rw [if_pos (hi.mp c)]
      exact (if_pos ⟨Or.inr c4, c2⟩).symm
  -- behind the blanks
  have mid : ∀ (l1 : Int), r3 l1 → (l1 ≠ 0 ↔ (σ 2 4 = 1 ∨ σ 2 4 = 2)) → ∀ f, FR2 (σ 2) f → f 5 = s → AW d mX7_advance 71 [some (.inr (.inr 2)), some (.inl l1), some (.inl p)] [] (putF σ 2 f) Q := by
    intro l1 hl hi f hf f5
    have f1 : f 1 = L := by rw [hf 1 (by decide) (by decide) (by decide)]; exact hL
    refine tad_71 (fun S e => ?_)
    rw [u2, y2, f5] at e
    have S5 : S 2 5 = s := by rw [e, y2]; exact f5
    have S1 : S 2 1 = L := by rw [e, y2]; exact f1
    have S3 : S 3 = σ 3 := by rw [e]; exact z3 _
    rw [S5, S1, S3]
    have hlt := chL_r (σ 3 s)
    have hdg := chD_r (σ 3 s)
    refine ⟨by omega, fun c => ?_, fun c S' e' => ?_⟩
    · have hos := ho s (by omega) (by omega)
      refine ⟨by omega, by omega, by omega, hlt, fun c2 => ⟨by omega, by omega, by omega, hdg, fun c3 S' e' S'' e'' => ?_, fun c3 S' e' => ?_⟩, fun c2 S' e' => ?_⟩
      · -- a sign
        have n1 : ltB (σ 3) s = false := decide_eq_false (fun z => z c2)
        have n2 : dgB (σ 3) s = false := decide_eq_false (fun z => z c3)
        rw [e, u2] at e'
        rw [e', u2, y2] at e''
        rw [e'']
        refine fin l1 hl hi _ (fun i a b c => ?_) ?_ ?_ ?_
        · show (if i = 6 then _ else if i = 4 then _ else if i = 6 then _ else f i) = _
          rw [if_neg c, if_neg a, if_neg c]
          exact hf i a b c
        · exact f5
        · show (3 : Int) = kdP (σ 3) L s
          unfold kdP
          rw [if_neg (show ¬ L ≤ s by omega), n1, n2, if_neg (show ¬ false = true by decide), if_neg (show ¬ false = true by decide)]
        · show f 5 + 1 = te (σ 3) L s
          unfold te
          rw [if_neg (show ¬ L ≤ s by omega), n1, n2, if_neg (show ¬ false = true by decide), if_neg (show ¬ false = true by decide), f5]
      · -- a number
        have n1 : ltB (σ 3) s = false := decide_eq_false (fun z => z c2)
        have n2 : dgB (σ 3) s = true := decide_eq_true c3
        have hd' := rn_all (P := dgB (σ 3)) (L := L) (p := s)
        have hte : te (σ 3) L s = rn (dgB (σ 3)) L s := by
          unfold te
          rw [if_neg (by omega), n1, n2, if_neg (by decide), if_pos rfl]
        have hkd : kdP (σ 3) L s = 2 := by
          unfold kdP
          rw [if_neg (by omega), n1, n2, if_neg (by decide), if_pos rfl]
        rw [e, u2] at e'
        rw [e']
        have loop := downInd (P := fun t => ∀ f', FR2 (σ 2) f' → f' 5 = s → f' 4 = 2 → f' 6 = t → rn (dgB (σ 3)) L t = rn (dgB (σ 3)) L s → AW d mX7_advance 177 [some (.inr (.inr 2)), some (.inl l1), some (.inl p)] [] (putF σ 2 f') Q) (lo := s) (hi := L) (by omega) ?_ ?_
        · exact loop _ (fun i a b c => by show (if i = 4 then _ else if i = 6 then _ else f i) = _; rw [if_neg a, if_neg c]; exact hf i a b c) f5 rfl rfl rfl
        · intro f' hf' f5' f4' f6' hr
          have f1' : f' 1 = L := by rw [hf' 1 (by decide) (by decide) (by decide)]; exact hL
          refine tad_177 ?_
          rw [y2, f6', f1']
          refine ⟨by omega, fun _ => fin l1 hl hi f' hf' f5' (by rw [hkd]; exact f4') (by rw [hte, ← hr, f6', rn_e (Int.le_refl _)]), fun c => by omega⟩
        · intro t t0 t1 ih f' hf' f5' f4' f6' hr
          have f1' : f' 1 = L := by rw [hf' 1 (by decide) (by decide) (by decide)]; exact hL
          have hot := ho t (by omega) (by omega)
          refine tad_177 ?_
          rw [y2, f6', f1', z3]
          refine ⟨by omega, fun c => by omega, fun _ => ⟨by omega, by omega, by omega, chD_r _, fun c4 => ?_, fun c4 S'' e'' => ?_⟩⟩
          · exact fin l1 hl hi f' hf' f5' (by rw [hkd]; exact f4') (by rw [hte, ← hr, f6', rn_n (decide_eq_false (fun z => z c4))])
          · rw [e'', u2]
            refine ih _ (fun i a b c => by rw [if_neg c]; exact hf' i a b c) f5' f4' (if_pos rfl) ?_
            rw [← hr, rn_y t1 (decide_eq_true c4)]
      · -- a word
        have n1 : ltB (σ 3) s = true := decide_eq_true c2
        have hd' := rn_all (P := ltB (σ 3)) (L := L) (p := s)
        have hte : te (σ 3) L s = rn (ltB (σ 3)) L s := by
          unfold te
          rw [if_neg (by omega), n1, if_pos rfl]
        have hkd : kdP (σ 3) L s = 1 := by
          unfold kdP
          rw [if_neg (by omega), n1, if_pos rfl]
        rw [e, u2] at e'
        rw [e']
        have loop := downInd (P := fun t => ∀ f', FR2 (σ 2) f' → f' 5 = s → f' 4 = 1 → f' 6 = t → rn (ltB (σ 3)) L t = rn (ltB (σ 3)) L s → AW d mX7_advance 118 [some (.inr (.inr 2)), some (.inl l1), some (.inl p)] [] (putF σ 2 f') Q) (lo := s) (hi := L) (by omega) ?_ ?_
        · exact loop _ (fun i a b c => by show (if i = 4 then _ else if i = 6 then _ else f i) = _; rw [if_neg a, if_neg c]; exact hf i a b c) f5 rfl rfl rfl
        · intro f' hf' f5' f4' f6' hr
          have f1' : f' 1 = L := by rw [hf' 1 (by decide) (by decide) (by decide)]; exact hL
          refine tad_118 ?_
          rw [y2, f6', f1']
          refine ⟨by omega, fun _ => fin l1 hl hi f' hf' f5' (by rw [hkd]; exact f4') (by rw [hte, ← hr, f6', rn_e (Int.le_refl _)]), fun c => by omega⟩
        · intro t t0 t1 ih f' hf' f5' f4' f6' hr
          have f1' : f' 1 = L := by rw [hf' 1 (by decide) (by decide) (by decide)]; exact hL
          have hot := ho t (by omega) (by omega)
          refine tad_118 ?_
          rw [y2, f6', f1', z3]
          refine ⟨by omega, fun c => by omega, fun _ => ⟨by omega, by omega, by omega, chL_r _, fun c4 => ?_, fun c4 S'' e'' => ?_⟩⟩
          · exact fin l1 hl hi f' hf' f5' (by rw [hkd]; exact f4') (by rw [hte, ← hr, f6', rn_n (decide_eq_false (fun z => z c4))])
          · rw [e'', u2]
            refine ih _ (fun i a b c => by rw [if_neg c]; exact hf' i a b c) f5' f4' (if_pos rfl) ?_
            rw [← hr, rn_y t1 (decide_eq_true c4)]
    · rw [e, u2] at e'
      rw [e']
      refine fin l1 hl hi _ (fun i a b c => ?_) ?_ ?_ ?_
      · show (if i = 4 then _ else if i = 6 then _ else f i) = _
        rw [if_neg a, if_neg c]
        exact hf i a b c
      · exact f5
      · show (0 : Int) = kdP (σ 3) L s
        unfold kdP
        rw [if_pos (show L ≤ s by omega)]
      · show s = te (σ 3) L s
        unfold te
        rw [if_pos (show L ≤ s by omega)]
  -- the blanks
  have beg : ∀ (l1 : Int), r3 l1 → (l1 ≠ 0 ↔ (σ 2 4 = 1 ∨ σ 2 4 = 2)) → AW d mX7_advance 32 [some (.inr (.inr 2)), some (.inl l1), some (.inl p)] [] (up σ 2 5 p) Q := by
    intro l1 hl hi
    have loop := downInd (P := fun t => ∀ f, FR2 (σ 2) f → f 5 = t → rn (bkB (σ 3)) L t = s → AW d mX7_advance 32 [some (.inr (.inr 2)), some (.inl l1), some (.inl p)] [] (putF σ 2 f) Q) (lo := p) (hi := L) (by omega) ?_ ?_ (fun j => if j = 5 then p else σ 2 j) (fun i a b c => if_neg b) (if_pos rfl) es.symm
    · rw [up_putF]
      exact loop
    · intro f hf f5 hr
      have f1 : f 1 = L := by rw [hf 1 (by decide) (by decide) (by decide)]; exact hL
      refine tad_32 ?_
      rw [y2, f5, f1]
      refine ⟨by omega, fun _ => mid l1 hl hi f hf ?_, fun c => by omega⟩
      rw [f5, ← hr, rn_e (Int.le_refl _)]
    · intro t t0 t1 ih f hf f5 hr
      have f1 : f 1 = L := by rw [hf 1 (by decide) (by decide) (by decide)]; exact hL
      have hot := ho t (by omega) (by omega)
      refine tad_32 ?_
      rw [y2, f5, f1, z3]
      refine ⟨by omega, fun c => by omega, fun _ => ⟨by omega, by omega, by omega, chB_r _, fun c => mid l1 hl hi f hf ?_, fun c S e => ?_⟩⟩
      · rw [f5, ← hr, rn_n (decide_eq_false (fun z => z c))]
      · rw [e, u2]
        refine ih _ (fun i a b c => by rw [if_neg b]; exact hf i a b c) (if_pos rfl) ?_
        rw [← hr, rn_y t1 (decide_eq_true c)]
  refine tad_0 ⟨h4, fun c S e => ?_, fun c => ⟨h4, fun c2 S e => ?_, fun c2 S e => ?_⟩⟩
  · rw [e, hp]
    exact beg 1 (by decide) ⟨fun _ => Or.inl c, fun _ => by decide⟩
  · rw [e, hp]
    exact beg 0 (by decide) ⟨fun z => absurd rfl z, fun z => z.elim (fun y => absurd y c) (fun y => absurd y c2)⟩
  · rw [e, hp]
    exact beg 1 (by decide) ⟨fun _ => Or.inr c2, fun _ => by decide⟩
