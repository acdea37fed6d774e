/-! ===== sums read by the reference (wip/whole/gen9e.py) ===== -/
def kX9_qCode_0 : List BI := [bi (.aload_n 0) 1 [] 0, bi (.getfield 175) 3 [9, 70] 0, bi (.aload_n 0) 1 [] 0, bi (.getfield 476) 3 [9, 71] 0, bi (.iload_n 1) 1 [] 0, bi (.iastore) 1 [] 0, bi (.aload_n 0) 1 [] 0, bi (.dup) 1 [] 0, bi (.getfield 476) 3 [9, 71] 0, bi (.iconst 1) 1 [] 0, bi (.iadd) 1 [] 0, bi (.putfield 476) 3 [9, 71] 0, bi (.return_) 1 [] 0]
theorem cX9_qCode_0 : chk mX9_qCode 0 kX9_qCode_0 = true := by decide +kernel
def kX9_qDrops_0 : List BI := [bi (.aload_n 0) 1 [] 0, bi (.dup) 1 [] 0, bi (.getfield 482) 3 [9, 73] 0, bi (.iconst 1) 1 [] 0, bi (.isub) 1 [] 0, bi (.putfield 482) 3 [9, 73] 0, bi (.aload_n 0) 1 [] 0, bi (.aload_n 0) 1 [] 0, bi (.getfield 178) 3 [9, 72] 0, bi (.aload_n 0) 1 [] 0, bi (.getfield 482) 3 [9, 73] 0, bi (.iaload) 1 [] 0, bi (.invokevirtual 485) 3 [mX9_qCode, 2, 2, 9] 0, bi (.return_) 1 [] 0]
theorem cX9_qDrops_0 : chk mX9_qDrops 0 kX9_qDrops_0 = true := by decide +kernel
theorem vdr_0 {d : Nat} {σ : SG} {Q : Option AV → SG → Prop} (h : (∀ S1 : SG, S1 = up σ 42 73 ((σ 42 73) - 1) → (0 ≤ (S1 42 73) ∧ (S1 42 73) < 1700) ∧ (0 < d) ∧ (0 ≤ (S1 42 71) ∧ (S1 42 71) < 1700) ∧ (∀ S2 : SG, S2 = up S1 96 (S1 42 71) (S1 97 (S1 42 73)) → (∀ S3 : SG, S3 = up S2 42 71 ((S2 42 71) + 1) → Q none S3)))) : AW d mX9_qDrops 0 [some (.inr (.inr 42))] [] σ Q := AW.blk kX9_qDrops_0 cX9_qDrops_0 (⟨⟨(((h) _ rfl).1).1, (((h) _ rfl).1).2⟩, ⟨(((h) _ rfl).2).1, AW.blk kX9_qCode_0 cX9_qCode_0 (⟨⟨(((((h) _ rfl).2).2).1).1, (((((h) _ rfl).2).2).1).2⟩, ((((((h) _ rfl).2).2).2) _ rfl) _ rfl⟩)⟩⟩)
theorem vcd_0 {d : Nat} {σ : SG} {Q : Option AV → SG → Prop} {v : Int} (h : (0 ≤ (σ 42 71) ∧ (σ 42 71) < 1700) ∧ (∀ S4 : SG, S4 = up σ 96 (σ 42 71) v → (∀ S5 : SG, S5 = up S4 42 71 ((S4 42 71) + 1) → Q none S5))) : AW d mX9_qCode 0 [some (.inr (.inr 42)), some (.inl v)] [] σ Q := AW.blk kX9_qCode_0 cX9_qCode_0 (⟨⟨((h).1).1, ((h).1).2⟩, (((h).2) _ rfl) _ rfl⟩)
def kX9_qIsOn_26 : List BI := [bi (.iconst 0) 1 [] 0, bi (.ireturn) 1 [1] 0]
theorem cX9_qIsOn_26 : chk mX9_qIsOn 26 kX9_qIsOn_26 = true := by decide +kernel
def kX9_qIsOn_27 : List BI := [bi (.ireturn) 1 [1] 0]
theorem cX9_qIsOn_27 : chk mX9_qIsOn 27 kX9_qIsOn_27 = true := by decide +kernel
def kX9_qIsOn_0 : List BI := [bi (.aload_n 0) 1 [] 0, bi (.getfield 482) 3 [9, 73] 0, bi (.ifCond .le (22)) 3 [26] 0, bi (.aload_n 0) 1 [] 0, bi (.getfield 178) 3 [9, 72] 0, bi (.aload_n 0) 1 [] 0, bi (.getfield 482) 3 [9, 73] 0, bi (.iconst 1) 1 [] 0, bi (.isub) 1 [] 0, bi (.iaload) 1 [] 0, bi (.iload_n 1) 1 [] 0, bi (.if_icmp .ne (7)) 3 [26] 0, bi (.iconst 1) 1 [] 0, bi (.goto (4)) 3 [27] 0]
theorem cX9_qIsOn_0 : chk mX9_qIsOn 0 kX9_qIsOn_0 = true := by decide +kernel
theorem vio_0 {d : Nat} {σ : SG} {Q : Option AV → SG → Prop} {w0 : Int} (h : (r3 (σ 42 73)) ∧ ((σ 42 73) ≤ 0 → Q (some (.inl 0)) σ) ∧ (0 < (σ 42 73) → (0 ≤ ((σ 42 73) - 1) ∧ ((σ 42 73) - 1) < 1700) ∧ (r3 (σ 97 ((σ 42 73) - 1)) ∧ r3 w0) ∧ ((σ 97 ((σ 42 73) - 1)) ≠ w0 → Q (some (.inl 0)) σ) ∧ ((σ 97 ((σ 42 73) - 1)) = w0 → Q (some (.inl 1)) σ))) : AW d mX9_qIsOn 0 [some (.inr (.inr 42)), some (.inl w0)] [] σ Q := AW.blk kX9_qIsOn_0 cX9_qIsOn_0 (⟨(h).1, ⟨fun c7 => AW.blk kX9_qIsOn_26 cX9_qIsOn_26 (⟨(by decide), ((h).2).1 c7⟩), fun c7 => ⟨⟨((((h).2).2 c7).1).1, ((((h).2).2 c7).1).2⟩, ⟨⟨(((((h).2).2 c7).2).1).1, (((((h).2).2 c7).2).1).2⟩, ⟨fun c6 => AW.blk kX9_qIsOn_26 cX9_qIsOn_26 (⟨(by decide), (((((h).2).2 c7).2).2).1 c6⟩), fun c6 => AW.blk kX9_qIsOn_27 cX9_qIsOn_27 (⟨(by decide), (((((h).2).2 c7).2).2).2 c6⟩)⟩⟩⟩⟩⟩)
def cdS (σ : SG) (v : Int) : SG := up (up σ 96 (σ 42 71) v) 42 71 (σ 42 71 + 1)
def cdO (σ : SG) : Prop := 0 ≤ σ 42 71 ∧ σ 42 71 < 1700
def drS (σ : SG) : SG := cdS (up σ 42 73 (σ 42 73 - 1)) (σ 97 (σ 42 73 - 1))
def drO (d : Nat) (σ : SG) : Prop := 0 < d ∧ (1 ≤ σ 42 73 ∧ σ 42 73 ≤ 1700) ∧ (0 ≤ σ 42 71 ∧ σ 42 71 < 1700)
def ionV (σ : SG) (w : Int) : Int := if 0 < σ 42 73 ∧ σ 97 (σ 42 73 - 1) = w then 1 else 0
def ionO (σ : SG) (w : Int) : Prop := r3 (σ 42 73) ∧ r3 w ∧ (0 < σ 42 73 → σ 42 73 ≤ 1700 ∧ r3 (σ 97 (σ 42 73 - 1)))
theorem vcd_ok {d : Nat} {σ : SG} {Q : Option AV → SG → Prop} {v : Int} (h : (cdO σ) ∧ Q none (cdS σ v)) : AW d mX9_qCode 0 [some (.inr (.inr 42)), some (.inl v)] [] σ Q := by
  obtain ⟨h1, hq⟩ := h
  refine vcd_0 ⟨h1, fun S1 e1 S2 e2 => ?_⟩
  have e : S2 = cdS σ v := by
    rw [e2, e1, up_p (by decide)]
    rfl
  rw [e]
  exact hq
theorem vdr_ok {d : Nat} {σ : SG} {Q : Option AV → SG → Prop} (h : (drO d σ) ∧ Q none (drS σ)) : AW d mX9_qDrops 0 [some (.inr (.inr 42))] [] σ Q := by
  obtain ⟨⟨h1, h2, h3⟩, hq⟩ := h
  refine vdr_0 (fun S1 e1 => ?_)
  have a1 : S1 42 73 = σ 42 73 - 1 := by rw [e1, up_at]
  have a2 : S1 42 71 = σ 42 71 := by rw [e1, up_i (by decide)]
  have a3 : S1 97 = σ 97 := by rw [e1, up_pf (by decide)]
  rw [a1, a2, a3]
  refine ⟨by omega, by omega, by omega, fun S2 e2 S3 e3 => ?_⟩
  have e : S3 = drS σ := by
    have b2 : S2 42 71 = σ 42 71 := by rw [e2, up_p (by decide)]; exact a2
    unfold drS cdS
    rw [e3, b2, e2, ← a2, e1]
  rw [e]
  exact hq
theorem vio_ok {d : Nat} {σ : SG} {Q : Option AV → SG → Prop} {w0 : Int} (h : (ionO σ w0) ∧ Q (some (.inl (ionV σ w0))) σ) : AW d mX9_qIsOn 0 [some (.inr (.inr 42)), some (.inl w0)] [] σ Q := by
  obtain ⟨⟨h1, h2, h3⟩, hq⟩ := h
  unfold ionV at hq
  refine vio_0 ⟨h1, fun c => ?_, fun c => ⟨by have := h3 c; omega, ⟨(h3 c).2, h2⟩, fun c2 => ?_, fun c2 => ?_⟩⟩
  · rwa [if_neg (by omega)] at hq
  · rwa [if_neg (fun z => c2 z.2)] at hq
  · rwa [if_pos ⟨c, c2⟩] at hq

def kX9_qOpens_24 : List BI := [bi (.aload_n 0) 1 [] 0, bi (.dup) 1 [] 0, bi (.getfield 479) 3 [9, 74] 0, bi (.iconst 1) 1 [] 0, bi (.iadd) 1 [] 0, bi (.putfield 479) 3 [9, 74] 0, bi (.aload_n 0) 1 [] 0, bi (.getfield 178) 3 [9, 72] 0, bi (.aload_n 0) 1 [] 0, bi (.getfield 482) 3 [9, 73] 0, bi (.iload_n 1) 1 [] 0, bi (.iastore) 1 [] 0, bi (.aload_n 0) 1 [] 0, bi (.dup) 1 [] 0, bi (.getfield 482) 3 [9, 73] 0, bi (.iconst 1) 1 [] 0, bi (.iadd) 1 [] 0, bi (.putfield 482) 3 [9, 73] 0, bi (.return_) 1 [] 0]
theorem cX9_qOpens_24 : chk mX9_qOpens 24 kX9_qOpens_24 = true := by decide +kernel
def kX9_qOpens_8 : List BI := [bi (.aload_n 0) 1 [] 0, bi (.getfield 479) 3 [9, 74] 0, bi (.bipush (6)) 2 [] 0, bi (.if_icmp .ne (10)) 3 [24] 0, bi (.aload_n 0) 1 [] 0, bi (.iconst 4) 1 [] 0, bi (.iload_n 2) 1 [] 0, bi (.invokevirtual 220) 3 [mX9_fail, 3, 3, 9] 0, bi (.return_) 1 [] 0]
theorem cX9_qOpens_8 : chk mX9_qOpens 8 kX9_qOpens_8 = true := by decide +kernel
def kX9_qOpens_0 : List BI := [bi (.aload_n 0) 1 [] 0, bi (.getfield 190) 3 [9, 5] 0, bi (.ifCond .eq (4)) 3 [8] 0, bi (.return_) 1 [] 0]
theorem cX9_qOpens_0 : chk mX9_qOpens 0 kX9_qOpens_0 = true := by decide +kernel
theorem vO_0 {d : Nat} {σ : SG} {Q : Option AV → SG → Prop} {w0 pl : Int} (h : (r3 (σ 42 5)) ∧ ((σ 42 5) = 0 → (r3 (σ 42 74)) ∧ ((σ 42 74) ≠ 6 → (∀ S8 : SG, S8 = up σ 42 74 ((σ 42 74) + 1) → (0 ≤ (S8 42 73) ∧ (S8 42 73) < 1700) ∧ (∀ S9 : SG, S9 = up S8 97 (S8 42 73) w0 → (∀ S10 : SG, S10 = up S9 42 73 ((S9 42 73) + 1) → Q none S10)))) ∧ ((σ 42 74) = 6 → (0 < d) ∧ (r3 (σ 42 5)) ∧ ((σ 42 5) = 0 → (∀ S11 : SG, S11 = up σ 42 5 4 → (∀ S12 : SG, S12 = up S11 42 6 pl → Q none S12))) ∧ ((σ 42 5) ≠ 0 → Q none σ))) ∧ ((σ 42 5) ≠ 0 → Q none σ)) : AW d mX9_qOpens 0 [some (.inr (.inr 42)), some (.inl w0), some (.inl pl)] [] σ Q := AW.blk kX9_qOpens_0 cX9_qOpens_0 (⟨(h).1, ⟨fun c15 => AW.blk kX9_qOpens_8 cX9_qOpens_8 (⟨⟨(((h).2).1 c15).1, (by decide)⟩, ⟨fun c14 => AW.blk kX9_qOpens_24 cX9_qOpens_24 (⟨⟨(((((((h).2).1 c15).2).1 c14) _ rfl).1).1, (((((((h).2).1 c15).2).1 c14) _ rfl).1).2⟩, ((((((((h).2).1 c15).2).1 c14) _ rfl).2) _ rfl) _ rfl⟩), fun c14 => ⟨(((((h).2).1 c15).2).2 c14).1, AW.blk kX9_fail_0 cX9_fail_0 (⟨((((((h).2).1 c15).2).2 c14).2).1, ⟨fun c13 => AW.blk kX9_fail_8 cX9_fail_8 ((((((((((h).2).1 c15).2).2 c14).2).2).1 c13) _ rfl) _ rfl), fun c13 => (((((((h).2).1 c15).2).2 c14).2).2).2 c13⟩⟩)⟩⟩⟩), fun c15 => ((h).2).2 c15⟩⟩)
def kX9_qBracket_0 : List BI := [bi (.aload_n 0) 1 [] 0, bi (.getfield 482) 3 [9, 73] 0, bi (.iconst 1) 1 [] 0, bi (.isub) 1 [] 0, bi (.istore_n 1) 1 [] 0]
theorem cX9_qBracket_0 : chk mX9_qBracket 0 kX9_qBracket_0 = true := by decide +kernel
theorem vB_0 {d : Nat} {σ : SG} {Q : Option AV → SG → Prop} (h : AW d mX9_qBracket 7 [some (.inr (.inr 42)), some (.inl ((σ 42 73) - 1))] [] σ Q) : AW d mX9_qBracket 0 [some (.inr (.inr 42)), none] [] σ Q := AW.blk kX9_qBracket_0 cX9_qBracket_0 (h)
def kX9_qBracket_50 : List BI := [bi (.iconst (-1)) 1 [] 0, bi (.ireturn) 1 [] 0]
theorem cX9_qBracket_50 : chk mX9_qBracket 50 kX9_qBracket_50 = true := by decide +kernel
def kX9_qBracket_51 : List BI := [bi (.ireturn) 1 [] 0]
theorem cX9_qBracket_51 : chk mX9_qBracket 51 kX9_qBracket_51 = true := by decide +kernel
def kX9_qBracket_33 : List BI := [bi (.iload_n 1) 1 [] 0, bi (.aload_n 0) 1 [] 0, bi (.getfield 488) 3 [9, 75] 0, bi (.if_icmp .lt (12)) 3 [50] 0, bi (.aload_n 0) 1 [] 0, bi (.getfield 178) 3 [9, 72] 0, bi (.iload_n 1) 1 [] 0, bi (.iaload) 1 [] 0, bi (.goto (4)) 3 [51] 0]
theorem cX9_qBracket_33 : chk mX9_qBracket 33 kX9_qBracket_33 = true := by decide +kernel
def kX9_qIsBracket_16 : List BI := [bi (.iconst 0) 1 [] 0, bi (.ireturn) 1 [1] 0]
theorem cX9_qIsBracket_16 : chk mX9_qIsBracket 16 kX9_qIsBracket_16 = true := by decide +kernel
def kX9_qIsBracket_17 : List BI := [bi (.ireturn) 1 [1] 0]
theorem cX9_qIsBracket_17 : chk mX9_qIsBracket 17 kX9_qIsBracket_17 = true := by decide +kernel
def kX9_qIsBracket_0 : List BI := [bi (.iload_n 0) 1 [] 0, bi (.bipush (20)) 2 [] 0, bi (.if_icmp .lt (13)) 3 [16] 0, bi (.iload_n 0) 1 [] 0, bi (.bipush (24)) 2 [] 0, bi (.if_icmp .gt (7)) 3 [16] 0, bi (.iconst 1) 1 [] 0, bi (.goto (4)) 3 [17] 0]
theorem cX9_qIsBracket_0 : chk mX9_qIsBracket 0 kX9_qIsBracket_0 = true := by decide +kernel
def kX9_qBracket_7 : List BI := [bi (.iload_n 1) 1 [] 0, bi (.aload_n 0) 1 [] 0, bi (.getfield 488) 3 [9, 75] 0, bi (.if_icmp .lt (21)) 3 [33] 0, bi (.aload_n 0) 1 [] 0, bi (.getfield 178) 3 [9, 72] 0, bi (.iload_n 1) 1 [] 0, bi (.iaload) 1 [] 0, bi (.invokestatic 491) 3 [mX9_qIsBracket, 1, 1] 0, bi (.ifCond .ne (9)) 3 [33] 0, bi (.iinc 1 (-1)) 3 [] 0, bi (.goto (-23)) 3 [7] 0]
theorem cX9_qBracket_7 : chk mX9_qBracket 7 kX9_qBracket_7 = true := by decide +kernel
theorem vB_7 {d : Nat} {σ : SG} {Q : Option AV → SG → Prop} {l1 : Int} (h : (r3 l1 ∧ r3 (σ 42 75)) ∧ (l1 < (σ 42 75) → (r3 l1 ∧ r3 (σ 42 75)) ∧ (l1 < (σ 42 75) → Q (some (.inl ((-1)))) σ) ∧ ((σ 42 75) ≤ l1 → (0 ≤ l1 ∧ l1 < 1700) ∧ Q (some (.inl (σ 97 l1))) σ)) ∧ ((σ 42 75) ≤ l1 → (0 ≤ l1 ∧ l1 < 1700) ∧ (0 < d) ∧ (r3 (σ 97 l1)) ∧ ((σ 97 l1) < 20 → AW d mX9_qBracket 7 [some (.inr (.inr 42)), some (.inl (l1 + (-1)))] [] σ Q) ∧ (20 ≤ (σ 97 l1) → (r3 (σ 97 l1)) ∧ (24 < (σ 97 l1) → AW d mX9_qBracket 7 [some (.inr (.inr 42)), some (.inl (l1 + (-1)))] [] σ Q) ∧ ((σ 97 l1) ≤ 24 → (r3 l1 ∧ r3 (σ 42 75)) ∧ (l1 < (σ 42 75) → Q (some (.inl ((-1)))) σ) ∧ ((σ 42 75) ≤ l1 → (0 ≤ l1 ∧ l1 < 1700) ∧ Q (some (.inl (σ 97 l1))) σ))))) : AW d mX9_qBracket 7 [some (.inr (.inr 42)), some (.inl l1)] [] σ Q := AW.blk kX9_qBracket_7 cX9_qBracket_7 (⟨⟨((h).1).1, ((h).1).2⟩, ⟨fun c20 => AW.blk kX9_qBracket_33 cX9_qBracket_33 (⟨⟨((((h).2).1 c20).1).1, ((((h).2).1 c20).1).2⟩, ⟨fun c16 => AW.blk kX9_qBracket_50 cX9_qBracket_50 (((((h).2).1 c20).2).1 c16), fun c16 => ⟨⟨((((((h).2).1 c20).2).2 c16).1).1, ((((((h).2).1 c20).2).2 c16).1).2⟩, AW.blk kX9_qBracket_51 cX9_qBracket_51 ((((((h).2).1 c20).2).2 c16).2)⟩⟩⟩), fun c20 => ⟨⟨((((h).2).2 c20).1).1, ((((h).2).2 c20).1).2⟩, ⟨((((h).2).2 c20).2).1, AW.blk kX9_qIsBracket_0 cX9_qIsBracket_0 (⟨⟨(((((h).2).2 c20).2).2).1, (by decide)⟩, ⟨fun c19 => AW.blk kX9_qIsBracket_16 cX9_qIsBracket_16 (⟨(by decide), ⟨(by decide), ⟨fun c => absurd c (by decide), fun _ => ((((((h).2).2 c20).2).2).2).1 c19⟩⟩⟩), fun c19 => ⟨⟨(((((((h).2).2 c20).2).2).2).2 c19).1, (by decide)⟩, ⟨fun c18 => AW.blk kX9_qIsBracket_16 cX9_qIsBracket_16 (⟨(by decide), ⟨(by decide), ⟨fun c => absurd c (by decide), fun _ => ((((((((h).2).2 c20).2).2).2).2 c19).2).1 c18⟩⟩⟩), fun c18 => AW.blk kX9_qIsBracket_17 cX9_qIsBracket_17 (⟨(by decide), ⟨(by decide), ⟨fun _ => AW.blk kX9_qBracket_33 cX9_qBracket_33 (⟨⟨((((((((((h).2).2 c20).2).2).2).2 c19).2).2 c18).1).1, ((((((((((h).2).2 c20).2).2).2).2 c19).2).2 c18).1).2⟩, ⟨fun c17 => AW.blk kX9_qBracket_50 cX9_qBracket_50 (((((((((((h).2).2 c20).2).2).2).2 c19).2).2 c18).2).1 c17), fun c17 => ⟨⟨((((((((((((h).2).2 c20).2).2).2).2 c19).2).2 c18).2).2 c17).1).1, ((((((((((((h).2).2 c20).2).2).2).2 c19).2).2 c18).2).2 c17).1).2⟩, AW.blk kX9_qBracket_51 cX9_qBracket_51 ((((((((((((h).2).2 c20).2).2).2).2 c19).2).2 c18).2).2 c17).2)⟩⟩⟩), fun c => absurd c (by decide)⟩⟩⟩)⟩⟩⟩⟩)⟩⟩⟩⟩)
def kX9_qDropsToBracket_35 : List BI := [bi (.return_) 1 [] 0]
theorem cX9_qDropsToBracket_35 : chk mX9_qDropsToBracket 35 kX9_qDropsToBracket_35 = true := by decide +kernel
def kX9_qDropsToBracket_0 : List BI := [bi (.aload_n 0) 1 [] 0, bi (.getfield 482) 3 [9, 73] 0, bi (.aload_n 0) 1 [] 0, bi (.getfield 488) 3 [9, 75] 0, bi (.if_icmp .le (27)) 3 [35] 0, bi (.aload_n 0) 1 [] 0, bi (.getfield 178) 3 [9, 72] 0, bi (.aload_n 0) 1 [] 0, bi (.getfield 482) 3 [9, 73] 0, bi (.iconst 1) 1 [] 0, bi (.isub) 1 [] 0, bi (.iaload) 1 [] 0, bi (.invokestatic 491) 3 [mX9_qIsBracket, 1, 1] 0, bi (.ifCond .ne (10)) 3 [35] 0, bi (.aload_n 0) 1 [] 0, bi (.invokevirtual 494) 3 [mX9_qDrops, 1, 1, 9] 0, bi (.goto (-32)) 3 [0] 0]
theorem cX9_qDropsToBracket_0 : chk mX9_qDropsToBracket 0 kX9_qDropsToBracket_0 = true := by decide +kernel
theorem vD_0 {d : Nat} {σ : SG} {Q : Option AV → SG → Prop} (h : (r3 (σ 42 73) ∧ r3 (σ 42 75)) ∧ ((σ 42 73) ≤ (σ 42 75) → Q none σ) ∧ ((σ 42 75) < (σ 42 73) → (0 ≤ ((σ 42 73) - 1) ∧ ((σ 42 73) - 1) < 1700) ∧ (0 < d) ∧ (r3 (σ 97 ((σ 42 73) - 1))) ∧ ((σ 97 ((σ 42 73) - 1)) < 20 → (0 < d) ∧ (drO (d - 1) σ) ∧ (∀ S21 : SG, S21 = drS σ → AW d mX9_qDropsToBracket 0 [some (.inr (.inr 42))] [] S21 Q)) ∧ (20 ≤ (σ 97 ((σ 42 73) - 1)) → (r3 (σ 97 ((σ 42 73) - 1))) ∧ (24 < (σ 97 ((σ 42 73) - 1)) → (0 < d) ∧ (drO (d - 1) σ) ∧ (∀ S22 : SG, S22 = drS σ → AW d mX9_qDropsToBracket 0 [some (.inr (.inr 42))] [] S22 Q)) ∧ ((σ 97 ((σ 42 73) - 1)) ≤ 24 → Q none σ)))) : AW d mX9_qDropsToBracket 0 [some (.inr (.inr 42))] [] σ Q := AW.blk kX9_qDropsToBracket_0 cX9_qDropsToBracket_0 (⟨⟨((h).1).1, ((h).1).2⟩, ⟨fun c25 => AW.blk kX9_qDropsToBracket_35 cX9_qDropsToBracket_35 (((h).2).1 c25), fun c25 => ⟨⟨((((h).2).2 c25).1).1, ((((h).2).2 c25).1).2⟩, ⟨((((h).2).2 c25).2).1, AW.blk kX9_qIsBracket_0 cX9_qIsBracket_0 (⟨⟨(((((h).2).2 c25).2).2).1, (by decide)⟩, ⟨fun c24 => AW.blk kX9_qIsBracket_16 cX9_qIsBracket_16 (⟨(by decide), ⟨(by decide), ⟨fun c => absurd c (by decide), fun _ => ⟨(((((((h).2).2 c25).2).2).2).1 c24).1, vdr_ok ⟨((((((((h).2).2 c25).2).2).2).1 c24).2).1, (((((((((h).2).2 c25).2).2).2).1 c24).2).2) _ rfl⟩⟩⟩⟩⟩), fun c24 => ⟨⟨(((((((h).2).2 c25).2).2).2).2 c24).1, (by decide)⟩, ⟨fun c23 => AW.blk kX9_qIsBracket_16 cX9_qIsBracket_16 (⟨(by decide), ⟨(by decide), ⟨fun c => absurd c (by decide), fun _ => ⟨(((((((((h).2).2 c25).2).2).2).2 c24).2).1 c23).1, vdr_ok ⟨((((((((((h).2).2 c25).2).2).2).2 c24).2).1 c23).2).1, (((((((((((h).2).2 c25).2).2).2).2 c24).2).1 c23).2).2) _ rfl⟩⟩⟩⟩⟩), fun c23 => AW.blk kX9_qIsBracket_17 cX9_qIsBracket_17 (⟨(by decide), ⟨(by decide), ⟨fun _ => AW.blk kX9_qDropsToBracket_35 cX9_qDropsToBracket_35 (((((((((h).2).2 c25).2).2).2).2 c24).2).2 c23), fun c => absurd c (by decide)⟩⟩⟩)⟩⟩⟩⟩)⟩⟩⟩⟩)
def kX9_qEndsPart_51 : List BI := [bi (.return_) 1 [] 0]
theorem cX9_qEndsPart_51 : chk mX9_qEndsPart 51 kX9_qEndsPart_51 = true := by decide +kernel
def kX9_qEndsPart_0 : List BI := [bi (.aload_n 0) 1 [] 0, bi (.getfield 190) 3 [9, 5] 0, bi (.ifCond .ne (47)) 3 [51] 0, bi (.aload_n 0) 1 [] 0, bi (.getfield 482) 3 [9, 73] 0, bi (.aload_n 0) 1 [] 0, bi (.getfield 488) 3 [9, 75] 0, bi (.if_icmp .le (36)) 3 [51] 0, bi (.aload_n 0) 1 [] 0, bi (.getfield 178) 3 [9, 72] 0, bi (.aload_n 0) 1 [] 0, bi (.getfield 482) 3 [9, 73] 0, bi (.iconst 1) 1 [] 0, bi (.isub) 1 [] 0, bi (.iaload) 1 [] 0, bi (.bipush (60)) 2 [] 0, bi (.if_icmp .lt (20)) 3 [51] 0, bi (.aload_n 0) 1 [] 0, bi (.dup) 1 [] 0, bi (.getfield 479) 3 [9, 74] 0, bi (.iconst 1) 1 [] 0, bi (.isub) 1 [] 0, bi (.putfield 479) 3 [9, 74] 0, bi (.aload_n 0) 1 [] 0, bi (.invokevirtual 494) 3 [mX9_qDrops, 1, 1, 9] 0, bi (.goto (-48)) 3 [0] 0]
theorem cX9_qEndsPart_0 : chk mX9_qEndsPart 0 kX9_qEndsPart_0 = true := by decide +kernel
theorem vE_0 {d : Nat} {σ : SG} {Q : Option AV → SG → Prop} (h : (r3 (σ 42 5)) ∧ ((σ 42 5) ≠ 0 → Q none σ) ∧ ((σ 42 5) = 0 → (r3 (σ 42 73) ∧ r3 (σ 42 75)) ∧ ((σ 42 73) ≤ (σ 42 75) → Q none σ) ∧ ((σ 42 75) < (σ 42 73) → (0 ≤ ((σ 42 73) - 1) ∧ ((σ 42 73) - 1) < 1700) ∧ (r3 (σ 97 ((σ 42 73) - 1))) ∧ ((σ 97 ((σ 42 73) - 1)) < 60 → Q none σ) ∧ (60 ≤ (σ 97 ((σ 42 73) - 1)) → (∀ S26 : SG, S26 = up σ 42 74 ((σ 42 74) - 1) → (0 < d) ∧ (drO (d - 1) S26) ∧ (∀ S27 : SG, S27 = drS S26 → AW d mX9_qEndsPart 0 [some (.inr (.inr 42))] [] S27 Q)))))) : AW d mX9_qEndsPart 0 [some (.inr (.inr 42))] [] σ Q := AW.blk kX9_qEndsPart_0 cX9_qEndsPart_0 (⟨(h).1, ⟨fun c30 => AW.blk kX9_qEndsPart_51 cX9_qEndsPart_51 (((h).2).1 c30), fun c30 => ⟨⟨((((h).2).2 c30).1).1, ((((h).2).2 c30).1).2⟩, ⟨fun c29 => AW.blk kX9_qEndsPart_51 cX9_qEndsPart_51 (((((h).2).2 c30).2).1 c29), fun c29 => ⟨⟨((((((h).2).2 c30).2).2 c29).1).1, ((((((h).2).2 c30).2).2 c29).1).2⟩, ⟨⟨((((((h).2).2 c30).2).2 c29).2).1, (by decide)⟩, ⟨fun c28 => AW.blk kX9_qEndsPart_51 cX9_qEndsPart_51 ((((((((h).2).2 c30).2).2 c29).2).2).1 c28), fun c28 => ⟨(((((((((h).2).2 c30).2).2 c29).2).2).2 c28) _ rfl).1, vdr_ok ⟨((((((((((h).2).2 c30).2).2 c29).2).2).2 c28) _ rfl).2).1, (((((((((((h).2).2 c30).2).2 c29).2).2).2 c28) _ rfl).2).2) _ rfl⟩⟩⟩⟩⟩⟩⟩⟩⟩)
def kX9_qWordHere_0 : List BI := [bi (.aload_n 0) 1 [] 0, bi (.aload_n 0) 1 [] 0, bi (.getfield 151) 3 [9, 62] 0, bi (.invokevirtual 213) 3 [mX9_isHere, 2, 4, 9] 0]
theorem cX9_qWordHere_0 : chk mX9_qWordHere 0 kX9_qWordHere_0 = true := by decide +kernel
theorem vH_0 {d : Nat} {σ : SG} {Q : Option AV → SG → Prop} (h : (0 < d) ∧ AW (d - 1) mX9_isHere 0 [some (.inr (.inr 42)), some (.inr (.inr 88)), none, none] [] σ (fun rr σ' => AW d mX9_qWordHere 8 [some (.inr (.inr 42))] (rtS rr []) σ' Q)) : AW d mX9_qWordHere 0 [some (.inr (.inr 42))] [] σ Q := AW.blk kX9_qWordHere_0 cX9_qWordHere_0 (⟨(h).1, (h).2⟩)
def kX9_qWordHere_13 : List BI := [bi (.aload_n 0) 1 [] 0, bi (.aload_n 0) 1 [] 0, bi (.getfield 154) 3 [9, 63] 0, bi (.invokevirtual 213) 3 [mX9_isHere, 2, 4, 9] 0]
theorem cX9_qWordHere_13 : chk mX9_qWordHere 13 kX9_qWordHere_13 = true := by decide +kernel
def kX9_qWordHere_8 : List BI := [bi (.ifCond .eq (5)) 3 [13] 0, bi (.iconst 0) 1 [] 0, bi (.ireturn) 1 [] 0]
theorem cX9_qWordHere_8 : chk mX9_qWordHere 8 kX9_qWordHere_8 = true := by decide +kernel
theorem vH_8 {d : Nat} {σ : SG} {Q : Option AV → SG → Prop} {s0 : Int} (h : (r3 s0) ∧ (s0 = 0 → (0 < d) ∧ AW (d - 1) mX9_isHere 0 [some (.inr (.inr 42)), some (.inr (.inr 89)), none, none] [] σ (fun rr σ' => AW d mX9_qWordHere 21 [some (.inr (.inr 42))] (rtS rr []) σ' Q)) ∧ (s0 ≠ 0 → Q (some (.inl 0)) σ)) : AW d mX9_qWordHere 8 [some (.inr (.inr 42))] [.inl s0] σ Q := AW.blk kX9_qWordHere_8 cX9_qWordHere_8 (⟨(h).1, ⟨fun c31 => AW.blk kX9_qWordHere_13 cX9_qWordHere_13 (⟨(((h).2).1 c31).1, (((h).2).1 c31).2⟩), fun c31 => ((h).2).2 c31⟩⟩)
def kX9_qWordHere_26 : List BI := [bi (.aload_n 0) 1 [] 0, bi (.aload_n 0) 1 [] 0, bi (.getfield 157) 3 [9, 64] 0, bi (.invokevirtual 213) 3 [mX9_isHere, 2, 4, 9] 0]
theorem cX9_qWordHere_26 : chk mX9_qWordHere 26 kX9_qWordHere_26 = true := by decide +kernel
def kX9_qWordHere_21 : List BI := [bi (.ifCond .eq (5)) 3 [26] 0, bi (.iconst 1) 1 [] 0, bi (.ireturn) 1 [] 0]
theorem cX9_qWordHere_21 : chk mX9_qWordHere 21 kX9_qWordHere_21 = true := by decide +kernel
theorem vH_21 {d : Nat} {σ : SG} {Q : Option AV → SG → Prop} {s0 : Int} (h : (r3 s0) ∧ (s0 = 0 → (0 < d) ∧ AW (d - 1) mX9_isHere 0 [some (.inr (.inr 42)), some (.inr (.inr 90)), none, none] [] σ (fun rr σ' => AW d mX9_qWordHere 34 [some (.inr (.inr 42))] (rtS rr []) σ' Q)) ∧ (s0 ≠ 0 → Q (some (.inl 1)) σ)) : AW d mX9_qWordHere 21 [some (.inr (.inr 42))] [.inl s0] σ Q := AW.blk kX9_qWordHere_21 cX9_qWordHere_21 (⟨(h).1, ⟨fun c32 => AW.blk kX9_qWordHere_26 cX9_qWordHere_26 (⟨(((h).2).1 c32).1, (((h).2).1 c32).2⟩), fun c32 => ((h).2).2 c32⟩⟩)
def kX9_qWordHere_39 : List BI := [bi (.aload_n 0) 1 [] 0, bi (.aload_n 0) 1 [] 0, bi (.getfield 160) 3 [9, 65] 0, bi (.invokevirtual 213) 3 [mX9_isHere, 2, 4, 9] 0]
theorem cX9_qWordHere_39 : chk mX9_qWordHere 39 kX9_qWordHere_39 = true := by decide +kernel
def kX9_qWordHere_34 : List BI := [bi (.ifCond .eq (5)) 3 [39] 0, bi (.iconst 2) 1 [] 0, bi (.ireturn) 1 [] 0]
theorem cX9_qWordHere_34 : chk mX9_qWordHere 34 kX9_qWordHere_34 = true := by decide +kernel
theorem vH_34 {d : Nat} {σ : SG} {Q : Option AV → SG → Prop} {s0 : Int} (h : (r3 s0) ∧ (s0 = 0 → (0 < d) ∧ AW (d - 1) mX9_isHere 0 [some (.inr (.inr 42)), some (.inr (.inr 91)), none, none] [] σ (fun rr σ' => AW d mX9_qWordHere 47 [some (.inr (.inr 42))] (rtS rr []) σ' Q)) ∧ (s0 ≠ 0 → Q (some (.inl 2)) σ)) : AW d mX9_qWordHere 34 [some (.inr (.inr 42))] [.inl s0] σ Q := AW.blk kX9_qWordHere_34 cX9_qWordHere_34 (⟨(h).1, ⟨fun c33 => AW.blk kX9_qWordHere_39 cX9_qWordHere_39 (⟨(((h).2).1 c33).1, (((h).2).1 c33).2⟩), fun c33 => ((h).2).2 c33⟩⟩)
def kX9_qWordHere_52 : List BI := [bi (.aload_n 0) 1 [] 0, bi (.aload_n 0) 1 [] 0, bi (.getfield 163) 3 [9, 66] 0, bi (.invokevirtual 213) 3 [mX9_isHere, 2, 4, 9] 0]
theorem cX9_qWordHere_52 : chk mX9_qWordHere 52 kX9_qWordHere_52 = true := by decide +kernel
def kX9_qWordHere_47 : List BI := [bi (.ifCond .eq (5)) 3 [52] 0, bi (.iconst 3) 1 [] 0, bi (.ireturn) 1 [] 0]
theorem cX9_qWordHere_47 : chk mX9_qWordHere 47 kX9_qWordHere_47 = true := by decide +kernel
theorem vH_47 {d : Nat} {σ : SG} {Q : Option AV → SG → Prop} {s0 : Int} (h : (r3 s0) ∧ (s0 = 0 → (0 < d) ∧ AW (d - 1) mX9_isHere 0 [some (.inr (.inr 42)), some (.inr (.inr 92)), none, none] [] σ (fun rr σ' => AW d mX9_qWordHere 60 [some (.inr (.inr 42))] (rtS rr []) σ' Q)) ∧ (s0 ≠ 0 → Q (some (.inl 3)) σ)) : AW d mX9_qWordHere 47 [some (.inr (.inr 42))] [.inl s0] σ Q := AW.blk kX9_qWordHere_47 cX9_qWordHere_47 (⟨(h).1, ⟨fun c34 => AW.blk kX9_qWordHere_52 cX9_qWordHere_52 (⟨(((h).2).1 c34).1, (((h).2).1 c34).2⟩), fun c34 => ((h).2).2 c34⟩⟩)
def kX9_qWordHere_65 : List BI := [bi (.aload_n 0) 1 [] 0, bi (.aload_n 0) 1 [] 0, bi (.getfield 166) 3 [9, 67] 0, bi (.invokevirtual 213) 3 [mX9_isHere, 2, 4, 9] 0]
theorem cX9_qWordHere_65 : chk mX9_qWordHere 65 kX9_qWordHere_65 = true := by decide +kernel
def kX9_qWordHere_60 : List BI := [bi (.ifCond .eq (5)) 3 [65] 0, bi (.iconst 4) 1 [] 0, bi (.ireturn) 1 [] 0]
theorem cX9_qWordHere_60 : chk mX9_qWordHere 60 kX9_qWordHere_60 = true := by decide +kernel
theorem vH_60 {d : Nat} {σ : SG} {Q : Option AV → SG → Prop} {s0 : Int} (h : (r3 s0) ∧ (s0 = 0 → (0 < d) ∧ AW (d - 1) mX9_isHere 0 [some (.inr (.inr 42)), some (.inr (.inr 93)), none, none] [] σ (fun rr σ' => AW d mX9_qWordHere 73 [some (.inr (.inr 42))] (rtS rr []) σ' Q)) ∧ (s0 ≠ 0 → Q (some (.inl 4)) σ)) : AW d mX9_qWordHere 60 [some (.inr (.inr 42))] [.inl s0] σ Q := AW.blk kX9_qWordHere_60 cX9_qWordHere_60 (⟨(h).1, ⟨fun c35 => AW.blk kX9_qWordHere_65 cX9_qWordHere_65 (⟨(((h).2).1 c35).1, (((h).2).1 c35).2⟩), fun c35 => ((h).2).2 c35⟩⟩)
def kX9_qWordHere_78 : List BI := [bi (.aload_n 0) 1 [] 0, bi (.aload_n 0) 1 [] 0, bi (.getfield 169) 3 [9, 68] 0, bi (.invokevirtual 213) 3 [mX9_isHere, 2, 4, 9] 0]
theorem cX9_qWordHere_78 : chk mX9_qWordHere 78 kX9_qWordHere_78 = true := by decide +kernel
def kX9_qWordHere_73 : List BI := [bi (.ifCond .eq (5)) 3 [78] 0, bi (.iconst 5) 1 [] 0, bi (.ireturn) 1 [] 0]
theorem cX9_qWordHere_73 : chk mX9_qWordHere 73 kX9_qWordHere_73 = true := by decide +kernel
theorem vH_73 {d : Nat} {σ : SG} {Q : Option AV → SG → Prop} {s0 : Int} (h : (r3 s0) ∧ (s0 = 0 → (0 < d) ∧ AW (d - 1) mX9_isHere 0 [some (.inr (.inr 42)), some (.inr (.inr 94)), none, none] [] σ (fun rr σ' => AW d mX9_qWordHere 86 [some (.inr (.inr 42))] (rtS rr []) σ' Q)) ∧ (s0 ≠ 0 → Q (some (.inl 5)) σ)) : AW d mX9_qWordHere 73 [some (.inr (.inr 42))] [.inl s0] σ Q := AW.blk kX9_qWordHere_73 cX9_qWordHere_73 (⟨(h).1, ⟨fun c36 => AW.blk kX9_qWordHere_78 cX9_qWordHere_78 (⟨(((h).2).1 c36).1, (((h).2).1 c36).2⟩), fun c36 => ((h).2).2 c36⟩⟩)
def kX9_qWordHere_92 : List BI := [bi (.aload_n 0) 1 [] 0, bi (.aload_n 0) 1 [] 0, bi (.getfield 172) 3 [9, 69] 0, bi (.invokevirtual 213) 3 [mX9_isHere, 2, 4, 9] 0]
theorem cX9_qWordHere_92 : chk mX9_qWordHere 92 kX9_qWordHere_92 = true := by decide +kernel
def kX9_qWordHere_86 : List BI := [bi (.ifCond .eq (6)) 3 [92] 0, bi (.bipush (6)) 2 [] 0, bi (.ireturn) 1 [] 0]
theorem cX9_qWordHere_86 : chk mX9_qWordHere 86 kX9_qWordHere_86 = true := by decide +kernel
theorem vH_86 {d : Nat} {σ : SG} {Q : Option AV → SG → Prop} {s0 : Int} (h : (r3 s0) ∧ (s0 = 0 → (0 < d) ∧ AW (d - 1) mX9_isHere 0 [some (.inr (.inr 42)), some (.inr (.inr 95)), none, none] [] σ (fun rr σ' => AW d mX9_qWordHere 100 [some (.inr (.inr 42))] (rtS rr []) σ' Q)) ∧ (s0 ≠ 0 → Q (some (.inl 6)) σ)) : AW d mX9_qWordHere 86 [some (.inr (.inr 42))] [.inl s0] σ Q := AW.blk kX9_qWordHere_86 cX9_qWordHere_86 (⟨(h).1, ⟨fun c37 => AW.blk kX9_qWordHere_92 cX9_qWordHere_92 (⟨(((h).2).1 c37).1, (((h).2).1 c37).2⟩), fun c37 => ((h).2).2 c37⟩⟩)
def kX9_qWordHere_106 : List BI := [bi (.iconst (-1)) 1 [] 0, bi (.ireturn) 1 [] 0]
theorem cX9_qWordHere_106 : chk mX9_qWordHere 106 kX9_qWordHere_106 = true := by decide +kernel
def kX9_qWordHere_100 : List BI := [bi (.ifCond .eq (6)) 3 [106] 0, bi (.bipush (7)) 2 [] 0, bi (.ireturn) 1 [] 0]
theorem cX9_qWordHere_100 : chk mX9_qWordHere 100 kX9_qWordHere_100 = true := by decide +kernel
theorem vH_100 {d : Nat} {σ : SG} {Q : Option AV → SG → Prop} {s0 : Int} (h : (r3 s0) ∧ (s0 = 0 → Q (some (.inl ((-1)))) σ) ∧ (s0 ≠ 0 → Q (some (.inl 7)) σ)) : AW d mX9_qWordHere 100 [some (.inr (.inr 42))] [.inl s0] σ Q := AW.blk kX9_qWordHere_100 cX9_qWordHere_100 (⟨(h).1, ⟨fun c38 => AW.blk kX9_qWordHere_106 cX9_qWordHere_106 (((h).2).1 c38), fun c38 => ((h).2).2 c38⟩⟩)
def kX9_qWordOf_0 : List BI := [bi (.aload_n 0) 1 [] 0, bi (.invokevirtual 497) 3 [mX9_qWordHere, 1, 1, 9] 0]
theorem cX9_qWordOf_0 : chk mX9_qWordOf 0 kX9_qWordOf_0 = true := by decide +kernel
theorem vF_0 {d : Nat} {σ : SG} {Q : Option AV → SG → Prop} {f t : Int} (h : (0 < d) ∧ AW (d - 1) mX9_qWordHere 0 [some (.inr (.inr 42))] [] σ (fun rr σ' => AW d mX9_qWordOf 4 [some (.inr (.inr 42)), some (.inl f), some (.inl t), none] (rtS rr []) σ' Q)) : AW d mX9_qWordOf 0 [some (.inr (.inr 42)), some (.inl f), some (.inl t), none] [] σ Q := AW.blk kX9_qWordOf_0 cX9_qWordOf_0 (⟨(h).1, (h).2⟩)
def kX9_qWordOf_19 : List BI := [bi (.iconst (-1)) 1 [] 0, bi (.ireturn) 1 [] 0]
theorem cX9_qWordOf_19 : chk mX9_qWordOf 19 kX9_qWordOf_19 = true := by decide +kernel
def kX9_qWordOf_20 : List BI := [bi (.ireturn) 1 [] 0]
theorem cX9_qWordOf_20 : chk mX9_qWordOf 20 kX9_qWordOf_20 = true := by decide +kernel
def kX9_qWordOf_4 : List BI := [bi (.istore_n 3) 1 [] 0, bi (.iload_n 3) 1 [] 0, bi (.iload_n 1) 1 [] 0, bi (.if_icmp .lt (12)) 3 [19] 0, bi (.iload_n 3) 1 [] 0, bi (.iload_n 2) 1 [] 0, bi (.if_icmp .ge (7)) 3 [19] 0, bi (.iload_n 3) 1 [] 0, bi (.goto (4)) 3 [20] 0]
theorem cX9_qWordOf_4 : chk mX9_qWordOf 4 kX9_qWordOf_4 = true := by decide +kernel
theorem vF_4 {d : Nat} {σ : SG} {Q : Option AV → SG → Prop} {f t s0 : Int} (h : (r3 s0 ∧ r3 f) ∧ (s0 < f → Q (some (.inl ((-1)))) σ) ∧ (f ≤ s0 → (r3 s0 ∧ r3 t) ∧ (t ≤ s0 → Q (some (.inl ((-1)))) σ) ∧ (s0 < t → Q (some (.inl s0)) σ))) : AW d mX9_qWordOf 4 [some (.inr (.inr 42)), some (.inl f), some (.inl t), none] [.inl s0] σ Q := AW.blk kX9_qWordOf_4 cX9_qWordOf_4 (⟨⟨((h).1).1, ((h).1).2⟩, ⟨fun c40 => AW.blk kX9_qWordOf_19 cX9_qWordOf_19 (((h).2).1 c40), fun c40 => ⟨⟨((((h).2).2 c40).1).1, ((((h).2).2 c40).1).2⟩, ⟨fun c39 => AW.blk kX9_qWordOf_19 cX9_qWordOf_19 (((((h).2).2 c40).2).1 c39), fun c39 => AW.blk kX9_qWordOf_20 cX9_qWordOf_20 (((((h).2).2 c40).2).2 c39)⟩⟩⟩⟩)
def kX9_qAsksWord_44 : List BI := [bi (.aload_n 0) 1 [] 0, bi (.aload_n 0) 1 [] 0, bi (.getfield 151) 3 [9, 62] 0, bi (.invokevirtual 263) 3 [mX9_asks, 2, 2, 9] 0]
theorem cX9_qAsksWord_44 : chk mX9_qAsksWord 44 kX9_qAsksWord_44 = true := by decide +kernel
def kX9_qAsksWord_55 : List BI := [bi (.aload_n 0) 1 [] 0, bi (.aload_n 0) 1 [] 0, bi (.getfield 154) 3 [9, 63] 0, bi (.invokevirtual 263) 3 [mX9_asks, 2, 2, 9] 0]
theorem cX9_qAsksWord_55 : chk mX9_qAsksWord 55 kX9_qAsksWord_55 = true := by decide +kernel
def kX9_qAsksWord_66 : List BI := [bi (.aload_n 0) 1 [] 0, bi (.aload_n 0) 1 [] 0, bi (.getfield 157) 3 [9, 64] 0, bi (.invokevirtual 263) 3 [mX9_asks, 2, 2, 9] 0]
theorem cX9_qAsksWord_66 : chk mX9_qAsksWord 66 kX9_qAsksWord_66 = true := by decide +kernel
def kX9_qAsksWord_77 : List BI := [bi (.aload_n 0) 1 [] 0, bi (.aload_n 0) 1 [] 0, bi (.getfield 160) 3 [9, 65] 0, bi (.invokevirtual 263) 3 [mX9_asks, 2, 2, 9] 0]
theorem cX9_qAsksWord_77 : chk mX9_qAsksWord 77 kX9_qAsksWord_77 = true := by decide +kernel
def kX9_qAsksWord_88 : List BI := [bi (.aload_n 0) 1 [] 0, bi (.aload_n 0) 1 [] 0, bi (.getfield 163) 3 [9, 66] 0, bi (.invokevirtual 263) 3 [mX9_asks, 2, 2, 9] 0]
theorem cX9_qAsksWord_88 : chk mX9_qAsksWord 88 kX9_qAsksWord_88 = true := by decide +kernel
def kX9_qAsksWord_99 : List BI := [bi (.aload_n 0) 1 [] 0, bi (.aload_n 0) 1 [] 0, bi (.getfield 166) 3 [9, 67] 0, bi (.invokevirtual 263) 3 [mX9_asks, 2, 2, 9] 0]
theorem cX9_qAsksWord_99 : chk mX9_qAsksWord 99 kX9_qAsksWord_99 = true := by decide +kernel
def kX9_qAsksWord_110 : List BI := [bi (.aload_n 0) 1 [] 0, bi (.aload_n 0) 1 [] 0, bi (.getfield 169) 3 [9, 68] 0, bi (.invokevirtual 263) 3 [mX9_asks, 2, 2, 9] 0]
theorem cX9_qAsksWord_110 : chk mX9_qAsksWord 110 kX9_qAsksWord_110 = true := by decide +kernel
def kX9_qAsksWord_121 : List BI := [bi (.aload_n 0) 1 [] 0, bi (.aload_n 0) 1 [] 0, bi (.getfield 172) 3 [9, 69] 0, bi (.invokevirtual 263) 3 [mX9_asks, 2, 2, 9] 0]
theorem cX9_qAsksWord_121 : chk mX9_qAsksWord 121 kX9_qAsksWord_121 = true := by decide +kernel
def kX9_qAsksWord_0 : List BI := [bi (.iload_n 1) 1 [] 0, bi (.tableswitch (120) (0) (6) #[(43), (54), (65), (76), (87), (98), (109)]) 43 [121, 44, 55, 66, 77, 88, 99, 110] 0]
theorem cX9_qAsksWord_0 : chk mX9_qAsksWord 0 kX9_qAsksWord_0 = true := by decide +kernel
theorem vA_0 {d : Nat} {σ : SG} {Q : Option AV → SG → Prop} {k : Int} (h : (r3 k) ∧ ((k = 0 → (0 < d) ∧ AW (d - 1) mX9_asks 0 [some (.inr (.inr 42)), some (.inr (.inr 88))] [] σ (fun rr σ' => AW d mX9_qAsksWord 52 [some (.inr (.inr 42)), some (.inl k)] (rtS rr []) σ' Q)) ∧ (k = 1 → (0 < d) ∧ AW (d - 1) mX9_asks 0 [some (.inr (.inr 42)), some (.inr (.inr 89))] [] σ (fun rr σ' => AW d mX9_qAsksWord 63 [some (.inr (.inr 42)), some (.inl k)] (rtS rr []) σ' Q)) ∧ (k = 2 → (0 < d) ∧ AW (d - 1) mX9_asks 0 [some (.inr (.inr 42)), some (.inr (.inr 90))] [] σ (fun rr σ' => AW d mX9_qAsksWord 74 [some (.inr (.inr 42)), some (.inl k)] (rtS rr []) σ' Q)) ∧ (k = 3 → (0 < d) ∧ AW (d - 1) mX9_asks 0 [some (.inr (.inr 42)), some (.inr (.inr 91))] [] σ (fun rr σ' => AW d mX9_qAsksWord 85 [some (.inr (.inr 42)), some (.inl k)] (rtS rr []) σ' Q)) ∧ (k = 4 → (0 < d) ∧ AW (d - 1) mX9_asks 0 [some (.inr (.inr 42)), some (.inr (.inr 92))] [] σ (fun rr σ' => AW d mX9_qAsksWord 96 [some (.inr (.inr 42)), some (.inl k)] (rtS rr []) σ' Q)) ∧ (k = 5 → (0 < d) ∧ AW (d - 1) mX9_asks 0 [some (.inr (.inr 42)), some (.inr (.inr 93))] [] σ (fun rr σ' => AW d mX9_qAsksWord 107 [some (.inr (.inr 42)), some (.inl k)] (rtS rr []) σ' Q)) ∧ (k = 6 → (0 < d) ∧ AW (d - 1) mX9_asks 0 [some (.inr (.inr 42)), some (.inr (.inr 94))] [] σ (fun rr σ' => AW d mX9_qAsksWord 118 [some (.inr (.inr 42)), some (.inl k)] (rtS rr []) σ' Q)) ∧ True) ∧ (k < 0 ∨ 6 < k → (0 < d) ∧ AW (d - 1) mX9_asks 0 [some (.inr (.inr 42)), some (.inr (.inr 95))] [] σ (fun rr σ' => AW d mX9_qAsksWord 129 [some (.inr (.inr 42)), some (.inl k)] (rtS rr []) σ' Q))) : AW d mX9_qAsksWord 0 [some (.inr (.inr 42)), some (.inl k)] [] σ Q := AW.blk kX9_qAsksWord_0 cX9_qAsksWord_0 (⟨(h).1, ⟨⟨fun c42 => AW.blk kX9_qAsksWord_44 cX9_qAsksWord_44 (⟨((((h).2).1).1 c42).1, ((((h).2).1).1 c42).2⟩), ⟨fun c43 => AW.blk kX9_qAsksWord_55 cX9_qAsksWord_55 (⟨(((((h).2).1).2).1 c43).1, (((((h).2).1).2).1 c43).2⟩), ⟨fun c44 => AW.blk kX9_qAsksWord_66 cX9_qAsksWord_66 (⟨((((((h).2).1).2).2).1 c44).1, ((((((h).2).1).2).2).1 c44).2⟩), ⟨fun c45 => AW.blk kX9_qAsksWord_77 cX9_qAsksWord_77 (⟨(((((((h).2).1).2).2).2).1 c45).1, (((((((h).2).1).2).2).2).1 c45).2⟩), ⟨fun c46 => AW.blk kX9_qAsksWord_88 cX9_qAsksWord_88 (⟨((((((((h).2).1).2).2).2).2).1 c46).1, ((((((((h).2).1).2).2).2).2).1 c46).2⟩), ⟨fun c47 => AW.blk kX9_qAsksWord_99 cX9_qAsksWord_99 (⟨(((((((((h).2).1).2).2).2).2).2).1 c47).1, (((((((((h).2).1).2).2).2).2).2).1 c47).2⟩), ⟨fun c48 => AW.blk kX9_qAsksWord_110 cX9_qAsksWord_110 (⟨((((((((((h).2).1).2).2).2).2).2).2).1 c48).1, ((((((((((h).2).1).2).2).2).2).2).2).1 c48).2⟩), True.intro⟩⟩⟩⟩⟩⟩⟩, fun c41 => AW.blk kX9_qAsksWord_121 cX9_qAsksWord_121 (⟨(((h).2).2 c41).1, (((h).2).2 c41).2⟩)⟩⟩)
def kX9_qAsksWord_129 : List BI := [bi (.return_) 1 [] 0]
theorem cX9_qAsksWord_129 : chk mX9_qAsksWord 129 kX9_qAsksWord_129 = true := by decide +kernel
def kX9_qAsksWord_52 : List BI := [bi (.goto (77)) 3 [129] 0]
theorem cX9_qAsksWord_52 : chk mX9_qAsksWord 52 kX9_qAsksWord_52 = true := by decide +kernel
theorem vA_52 {d : Nat} {σ : SG} {Q : Option AV → SG → Prop} {k : Int} (h : Q none σ) : AW d mX9_qAsksWord 52 [some (.inr (.inr 42)), some (.inl k)] [] σ Q := AW.blk kX9_qAsksWord_52 cX9_qAsksWord_52 (AW.blk kX9_qAsksWord_129 cX9_qAsksWord_129 (h))
def kX9_qAsksWord_63 : List BI := [bi (.goto (66)) 3 [129] 0]
theorem cX9_qAsksWord_63 : chk mX9_qAsksWord 63 kX9_qAsksWord_63 = true := by decide +kernel
theorem vA_63 {d : Nat} {σ : SG} {Q : Option AV → SG → Prop} {k : Int} (h : Q none σ) : AW d mX9_qAsksWord 63 [some (.inr (.inr 42)), some (.inl k)] [] σ Q := AW.blk kX9_qAsksWord_63 cX9_qAsksWord_63 (AW.blk kX9_qAsksWord_129 cX9_qAsksWord_129 (h))
def kX9_qAsksWord_74 : List BI := [bi (.goto (55)) 3 [129] 0]
theorem cX9_qAsksWord_74 : chk mX9_qAsksWord 74 kX9_qAsksWord_74 = true := by decide +kernel
theorem vA_74 {d : Nat} {σ : SG} {Q : Option AV → SG → Prop} {k : Int} (h : Q none σ) : AW d mX9_qAsksWord 74 [some (.inr (.inr 42)), some (.inl k)] [] σ Q := AW.blk kX9_qAsksWord_74 cX9_qAsksWord_74 (AW.blk kX9_qAsksWord_129 cX9_qAsksWord_129 (h))
def kX9_qAsksWord_85 : List BI := [bi (.goto (44)) 3 [129] 0]
theorem cX9_qAsksWord_85 : chk mX9_qAsksWord 85 kX9_qAsksWord_85 = true := by decide +kernel
theorem vA_85 {d : Nat} {σ : SG} {Q : Option AV → SG → Prop} {k : Int} (h : Q none σ) : AW d mX9_qAsksWord 85 [some (.inr (.inr 42)), some (.inl k)] [] σ Q := AW.blk kX9_qAsksWord_85 cX9_qAsksWord_85 (AW.blk kX9_qAsksWord_129 cX9_qAsksWord_129 (h))
def kX9_qAsksWord_96 : List BI := [bi (.goto (33)) 3 [129] 0]
theorem cX9_qAsksWord_96 : chk mX9_qAsksWord 96 kX9_qAsksWord_96 = true := by decide +kernel
theorem vA_96 {d : Nat} {σ : SG} {Q : Option AV → SG → Prop} {k : Int} (h : Q none σ) : AW d mX9_qAsksWord 96 [some (.inr (.inr 42)), some (.inl k)] [] σ Q := AW.blk kX9_qAsksWord_96 cX9_qAsksWord_96 (AW.blk kX9_qAsksWord_129 cX9_qAsksWord_129 (h))
def kX9_qAsksWord_107 : List BI := [bi (.goto (22)) 3 [129] 0]
theorem cX9_qAsksWord_107 : chk mX9_qAsksWord 107 kX9_qAsksWord_107 = true := by decide +kernel
theorem vA_107 {d : Nat} {σ : SG} {Q : Option AV → SG → Prop} {k : Int} (h : Q none σ) : AW d mX9_qAsksWord 107 [some (.inr (.inr 42)), some (.inl k)] [] σ Q := AW.blk kX9_qAsksWord_107 cX9_qAsksWord_107 (AW.blk kX9_qAsksWord_129 cX9_qAsksWord_129 (h))
def kX9_qAsksWord_118 : List BI := [bi (.goto (11)) 3 [129] 0]
theorem cX9_qAsksWord_118 : chk mX9_qAsksWord 118 kX9_qAsksWord_118 = true := by decide +kernel
theorem vA_118 {d : Nat} {σ : SG} {Q : Option AV → SG → Prop} {k : Int} (h : Q none σ) : AW d mX9_qAsksWord 118 [some (.inr (.inr 42)), some (.inl k)] [] σ Q := AW.blk kX9_qAsksWord_118 cX9_qAsksWord_118 (AW.blk kX9_qAsksWord_129 cX9_qAsksWord_129 (h))
theorem vA_129 {d : Nat} {σ : SG} {Q : Option AV → SG → Prop} {k : Int} (h : Q none σ) : AW d mX9_qAsksWord 129 [some (.inr (.inr 42)), some (.inl k)] [] σ Q := AW.blk kX9_qAsksWord_129 cX9_qAsksWord_129 (h)
def kX9_qPartTold_0 : List BI := [bi (.iconst 1) 1 [] 0, bi (.istore_n 1) 1 [] 0]
theorem cX9_qPartTold_0 : chk mX9_qPartTold 0 kX9_qPartTold_0 = true := by decide +kernel
theorem vP_0 {d : Nat} {σ : SG} {Q : Option AV → SG → Prop} (h : AW d mX9_qPartTold 2 [some (.inr (.inr 42)), some (.inl 1), none, none, none, none] [] σ Q) : AW d mX9_qPartTold 0 [some (.inr (.inr 42)), none, none, none, none, none] [] σ Q := AW.blk kX9_qPartTold_0 cX9_qPartTold_0 (h)
def kX9_qPartTold_192 : List BI := [bi (.aload_n 0) 1 [] 0, bi (.iconst 0) 1 [] 0, bi (.iconst 5) 1 [] 0, bi (.invokevirtual 500) 3 [mX9_qWordOf, 3, 4, 9] 0]
theorem cX9_qPartTold_192 : chk mX9_qPartTold 192 kX9_qPartTold_192 = true := by decide +kernel
def kX9_qPartTold_184 : List BI := [bi (.aload_n 0) 1 [] 0, bi (.getfield 190) 3 [9, 5] 0, bi (.ifCond .eq (4)) 3 [192] 0, bi (.return_) 1 [] 0]
theorem cX9_qPartTold_184 : chk mX9_qPartTold 184 kX9_qPartTold_184 = true := by decide +kernel
def kX9_qPartTold_2 : List BI := [bi (.iload_n 1) 1 [] 0, bi (.ifCond .eq (181)) 3 [184] 0, bi (.aload_n 0) 1 [] 0, bi (.getfield 190) 3 [9, 5] 0, bi (.ifCond .ne (174)) 3 [184] 0, bi (.aload_n 0) 1 [] 0, bi (.invokevirtual 202) 3 [mX9_look, 1, 1, 9] 0]
theorem cX9_qPartTold_2 : chk mX9_qPartTold 2 kX9_qPartTold_2 = true := by decide +kernel
theorem vP_2 {d : Nat} {σ : SG} {Q : Option AV → SG → Prop} {l1 : Int} (h : (r3 l1) ∧ (l1 = 0 → (r3 (σ 42 5)) ∧ ((σ 42 5) = 0 → (0 < d) ∧ AW (d - 1) mX9_qWordOf 0 [some (.inr (.inr 42)), some (.inl 0), some (.inl 5), none] [] σ (fun rr σ' => AW d mX9_qPartTold 198 [some (.inr (.inr 42)), some (.inl l1), none, none, none, none] (rtS rr []) σ' Q)) ∧ ((σ 42 5) ≠ 0 → Q none σ)) ∧ (l1 ≠ 0 → (r3 (σ 42 5)) ∧ ((σ 42 5) ≠ 0 → (r3 (σ 42 5)) ∧ ((σ 42 5) = 0 → (0 < d) ∧ AW (d - 1) mX9_qWordOf 0 [some (.inr (.inr 42)), some (.inl 0), some (.inl 5), none] [] σ (fun rr σ' => AW d mX9_qPartTold 198 [some (.inr (.inr 42)), some (.inl l1), none, none, none, none] (rtS rr []) σ' Q)) ∧ ((σ 42 5) ≠ 0 → Q none σ)) ∧ ((σ 42 5) = 0 → (0 < d) ∧ AW (d - 1) mX9_look 0 [some (.inr (.inr 42))] [] σ (fun rr σ' => AW d mX9_qPartTold 17 [some (.inr (.inr 42)), some (.inl l1), none, none, none, none] (rtS rr []) σ' Q)))) : AW d mX9_qPartTold 2 [some (.inr (.inr 42)), some (.inl l1), none, none, none, none] [] σ Q := AW.blk kX9_qPartTold_2 cX9_qPartTold_2 (⟨(h).1, ⟨fun c52 => AW.blk kX9_qPartTold_184 cX9_qPartTold_184 (⟨(((h).2).1 c52).1, ⟨fun c49 => AW.blk kX9_qPartTold_192 cX9_qPartTold_192 (⟨(((((h).2).1 c52).2).1 c49).1, (((((h).2).1 c52).2).1 c49).2⟩), fun c49 => ((((h).2).1 c52).2).2 c49⟩⟩), fun c52 => ⟨(((h).2).2 c52).1, ⟨fun c51 => AW.blk kX9_qPartTold_184 cX9_qPartTold_184 (⟨(((((h).2).2 c52).2).1 c51).1, ⟨fun c50 => AW.blk kX9_qPartTold_192 cX9_qPartTold_192 (⟨(((((((h).2).2 c52).2).1 c51).2).1 c50).1, (((((((h).2).2 c52).2).1 c51).2).1 c50).2⟩), fun c50 => ((((((h).2).2 c52).2).1 c51).2).2 c50⟩⟩), fun c51 => ⟨(((((h).2).2 c52).2).2 c51).1, (((((h).2).2 c52).2).2 c51).2⟩⟩⟩⟩⟩)
def kX9_qPartTold_222 : List BI := [bi (.sipush (1000)) 3 [] 0, bi (.aload_n 0) 1 [] 0, bi (.iconst 0) 1 [] 0, bi (.sipush (9999)) 3 [] 0, bi (.invokevirtual 267) 3 [mX9_number, 3, 5, 9] 0]
theorem cX9_qPartTold_222 : chk mX9_qPartTold 222 kX9_qPartTold_222 = true := by decide +kernel
def kX9_qPartTold_234 : List BI := [bi (.invokevirtual 485) 3 [mX9_qCode, 2, 2, 9] 0, bi (.aload_n 0) 1 [] 0, bi (.invokevirtual 509) 3 [mX9_qEndsPart, 1, 1, 9] 0]
theorem cX9_qPartTold_234 : chk mX9_qPartTold 234 kX9_qPartTold_234 = true := by decide +kernel
def kX9_qPartTold_209 : List BI := [bi (.aload_n 0) 1 [] 0, bi (.iload_n 2) 1 [] 0, bi (.iconst (-1)) 1 [] 0, bi (.if_icmp .eq (10)) 3 [222] 0, bi (.bipush (40)) 2 [] 0, bi (.iload_n 2) 1 [] 0, bi (.iadd) 1 [] 0, bi (.goto (15)) 3 [234] 0]
theorem cX9_qPartTold_209 : chk mX9_qPartTold 209 kX9_qPartTold_209 = true := by decide +kernel
def kX9_qPartTold_198 : List BI := [bi (.istore_n 2) 1 [] 0, bi (.iload_n 2) 1 [] 0, bi (.iconst (-1)) 1 [] 0, bi (.if_icmp .eq (8)) 3 [209] 0, bi (.aload_n 0) 1 [] 0, bi (.iload_n 2) 1 [] 0, bi (.invokevirtual 506) 3 [mX9_qAsksWord, 2, 2, 9] 0]
theorem cX9_qPartTold_198 : chk mX9_qPartTold 198 kX9_qPartTold_198 = true := by decide +kernel
theorem vP_198 {d : Nat} {σ : SG} {Q : Option AV → SG → Prop} {l1 s0 : Int} (h : (r3 s0) ∧ (s0 = (-1) → (r3 s0) ∧ (s0 = (-1) → (0 < d) ∧ AW (d - 1) mX9_number 0 [some (.inr (.inr 42)), some (.inl 0), some (.inl 9999), none, none] [] σ (fun rr σ' => AW d mX9_qPartTold 233 [some (.inr (.inr 42)), some (.inl l1), some (.inl s0), none, none, none] (rtS rr [.inl 1000, .inr (.inr 42)]) σ' Q)) ∧ (s0 ≠ (-1) → (0 < d) ∧ (cdO σ) ∧ (∀ S53 : SG, S53 = cdS σ (40 + s0) → (0 < d) ∧ AW (d - 1) mX9_qEndsPart 0 [some (.inr (.inr 42))] [] S53 (fun rr σ' => AW d mX9_qPartTold 241 [some (.inr (.inr 42)), some (.inl l1), some (.inl s0), none, none, none] (rtS rr []) σ' Q)))) ∧ (s0 ≠ (-1) → (0 < d) ∧ AW (d - 1) mX9_qAsksWord 0 [some (.inr (.inr 42)), some (.inl s0)] [] σ (fun rr σ' => AW d mX9_qPartTold 209 [some (.inr (.inr 42)), some (.inl l1), some (.inl s0), none, none, none] (rtS rr []) σ' Q))) : AW d mX9_qPartTold 198 [some (.inr (.inr 42)), some (.inl l1), none, none, none, none] [.inl s0] σ Q := AW.blk kX9_qPartTold_198 cX9_qPartTold_198 (⟨⟨(h).1, (by decide)⟩, ⟨fun c55 => AW.blk kX9_qPartTold_209 cX9_qPartTold_209 (⟨⟨(((h).2).1 c55).1, (by decide)⟩, ⟨fun c54 => AW.blk kX9_qPartTold_222 cX9_qPartTold_222 (⟨(((((h).2).1 c55).2).1 c54).1, (((((h).2).1 c55).2).1 c54).2⟩), fun c54 => AW.blk kX9_qPartTold_234 cX9_qPartTold_234 (⟨(((((h).2).1 c55).2).2 c54).1, vcd_ok ⟨((((((h).2).1 c55).2).2 c54).2).1, ⟨((((((((h).2).1 c55).2).2 c54).2).2) _ rfl).1, ((((((((h).2).1 c55).2).2 c54).2).2) _ rfl).2⟩⟩⟩)⟩⟩), fun c55 => ⟨(((h).2).2 c55).1, (((h).2).2 c55).2⟩⟩⟩)
def kX9_qPartTold_17 : List BI := [bi (.istore_n 2) 1 [] 0, bi (.aload_n 0) 1 [] 0, bi (.iconst 5) 1 [] 0, bi (.bipush (8)) 2 [] 0, bi (.invokevirtual 500) 3 [mX9_qWordOf, 3, 4, 9] 0]
theorem cX9_qPartTold_17 : chk mX9_qPartTold 17 kX9_qPartTold_17 = true := by decide +kernel
theorem vP_17 {d : Nat} {σ : SG} {Q : Option AV → SG → Prop} {l1 s0 : Int} (h : (0 < d) ∧ AW (d - 1) mX9_qWordOf 0 [some (.inr (.inr 42)), some (.inl 5), some (.inl 8), none] [] σ (fun rr σ' => AW d mX9_qPartTold 25 [some (.inr (.inr 42)), some (.inl l1), some (.inl s0), none, none, none] (rtS rr []) σ' Q)) : AW d mX9_qPartTold 17 [some (.inr (.inr 42)), some (.inl l1), none, none, none, none] [.inl s0] σ Q := AW.blk kX9_qPartTold_17 cX9_qPartTold_17 (⟨(h).1, (h).2⟩)
def kX9_qPartTold_233 : List BI := [bi (.iadd) 1 [] 0, bi (.invokevirtual 485) 3 [mX9_qCode, 2, 2, 9] 0, bi (.aload_n 0) 1 [] 0, bi (.invokevirtual 509) 3 [mX9_qEndsPart, 1, 1, 9] 0]
theorem cX9_qPartTold_233 : chk mX9_qPartTold 233 kX9_qPartTold_233 = true := by decide +kernel
theorem vP_233 {d : Nat} {σ : SG} {Q : Option AV → SG → Prop} {l1 l2 s0 s1 : Int} (h : (0 < d) ∧ (cdO σ) ∧ (∀ S56 : SG, S56 = cdS σ (s1 + s0) → (0 < d) ∧ AW (d - 1) mX9_qEndsPart 0 [some (.inr (.inr 42))] [] S56 (fun rr σ' => AW d mX9_qPartTold 241 [some (.inr (.inr 42)), some (.inl l1), some (.inl l2), none, none, none] (rtS rr []) σ' Q))) : AW d mX9_qPartTold 233 [some (.inr (.inr 42)), some (.inl l1), some (.inl l2), none, none, none] [.inl s0, .inl s1, .inr (.inr 42)] σ Q := AW.blk kX9_qPartTold_233 cX9_qPartTold_233 (⟨(h).1, vcd_ok ⟨((h).2).1, ⟨((((h).2).2) _ rfl).1, ((((h).2).2) _ rfl).2⟩⟩⟩)
def kX9_qPartTold_241 : List BI := [bi (.return_) 1 [] 0]
theorem cX9_qPartTold_241 : chk mX9_qPartTold 241 kX9_qPartTold_241 = true := by decide +kernel
theorem vP_241 {d : Nat} {σ : SG} {Q : Option AV → SG → Prop} {l1 l2 : Int} (h : Q none σ) : AW d mX9_qPartTold 241 [some (.inr (.inr 42)), some (.inl l1), some (.inl l2), none, none, none] [] σ Q := AW.blk kX9_qPartTold_241 cX9_qPartTold_241 (h)
theorem vP_209 {d : Nat} {σ : SG} {Q : Option AV → SG → Prop} {l1 l2 : Int} (h : (r3 l2) ∧ (l2 = (-1) → (0 < d) ∧ AW (d - 1) mX9_number 0 [some (.inr (.inr 42)), some (.inl 0), some (.inl 9999), none, none] [] σ (fun rr σ' => AW d mX9_qPartTold 233 [some (.inr (.inr 42)), some (.inl l1), some (.inl l2), none, none, none] (rtS rr [.inl 1000, .inr (.inr 42)]) σ' Q)) ∧ (l2 ≠ (-1) → (0 < d) ∧ (cdO σ) ∧ (∀ S57 : SG, S57 = cdS σ (40 + l2) → (0 < d) ∧ AW (d - 1) mX9_qEndsPart 0 [some (.inr (.inr 42))] [] S57 (fun rr σ' => AW d mX9_qPartTold 241 [some (.inr (.inr 42)), some (.inl l1), some (.inl l2), none, none, none] (rtS rr []) σ' Q)))) : AW d mX9_qPartTold 209 [some (.inr (.inr 42)), some (.inl l1), some (.inl l2), none, none, none] [] σ Q := AW.blk kX9_qPartTold_209 cX9_qPartTold_209 (⟨⟨(h).1, (by decide)⟩, ⟨fun c58 => AW.blk kX9_qPartTold_222 cX9_qPartTold_222 (⟨(((h).2).1 c58).1, (((h).2).1 c58).2⟩), fun c58 => AW.blk kX9_qPartTold_234 cX9_qPartTold_234 (⟨(((h).2).2 c58).1, vcd_ok ⟨((((h).2).2 c58).2).1, ⟨((((((h).2).2 c58).2).2) _ rfl).1, ((((((h).2).2 c58).2).2) _ rfl).2⟩⟩⟩)⟩⟩)
def kX9_qPartTold_55 : List BI := [bi (.aload_n 0) 1 [] 0, bi (.aload_n 0) 1 [] 0, bi (.getfield 145) 3 [9, 60] 0, bi (.invokevirtual 213) 3 [mX9_isHere, 2, 4, 9] 0]
theorem cX9_qPartTold_55 : chk mX9_qPartTold 55 kX9_qPartTold_55 = true := by decide +kernel
def kX9_qPartTold_25 : List BI := [bi (.istore_n 3) 1 [] 0, bi (.iload_n 2) 1 [] 0, bi (.bipush (40)) 2 [] 0, bi (.if_icmp .ne (26)) 3 [55] 0, bi (.aload_n 0) 1 [] 0, bi (.bipush (20)) 2 [] 0, bi (.aload_n 0) 1 [] 0, bi (.getfield 196) 3 [9, 2] 0, bi (.invokevirtual 503) 3 [mX9_qOpens, 3, 3, 9] 0]
theorem cX9_qPartTold_25 : chk mX9_qPartTold 25 kX9_qPartTold_25 = true := by decide +kernel
theorem vP_25 {d : Nat} {σ : SG} {Q : Option AV → SG → Prop} {l1 l2 s0 : Int} (h : (r3 l2) ∧ (l2 ≠ 40 → (0 < d) ∧ AW (d - 1) mX9_isHere 0 [some (.inr (.inr 42)), some (.inr (.inr 86)), none, none] [] σ (fun rr σ' => AW d mX9_qPartTold 63 [some (.inr (.inr 42)), some (.inl l1), some (.inl l2), some (.inl s0), none, none] (rtS rr []) σ' Q)) ∧ (l2 = 40 → (0 < d) ∧ AW (d - 1) mX9_qOpens 0 [some (.inr (.inr 42)), some (.inl 20), some (.inl (σ 42 2))] [] σ (fun rr σ' => AW d mX9_qPartTold 42 [some (.inr (.inr 42)), some (.inl l1), some (.inl l2), some (.inl s0), none, none] (rtS rr []) σ' Q))) : AW d mX9_qPartTold 25 [some (.inr (.inr 42)), some (.inl l1), some (.inl l2), none, none, none] [.inl s0] σ Q := AW.blk kX9_qPartTold_25 cX9_qPartTold_25 (⟨⟨(h).1, (by decide)⟩, ⟨fun c59 => AW.blk kX9_qPartTold_55 cX9_qPartTold_55 (⟨(((h).2).1 c59).1, (((h).2).1 c59).2⟩), fun c59 => ⟨(((h).2).2 c59).1, (((h).2).2 c59).2⟩⟩⟩)
def kX9_qPartTold_77 : List BI := [bi (.aload_n 0) 1 [] 0, bi (.aload_n 0) 1 [] 0, bi (.getfield 145) 3 [9, 60] 0, bi (.invokevirtual 217) 3 [mX9_takes, 2, 2, 9] 0]
theorem cX9_qPartTold_77 : chk mX9_qPartTold 77 kX9_qPartTold_77 = true := by decide +kernel
def kX9_qPartTold_63 : List BI := [bi (.ifCond .ne (14)) 3 [77] 0, bi (.aload_n 0) 1 [] 0, bi (.aload_n 0) 1 [] 0, bi (.getfield 148) 3 [9, 61] 0, bi (.invokevirtual 213) 3 [mX9_isHere, 2, 4, 9] 0]
theorem cX9_qPartTold_63 : chk mX9_qPartTold 63 kX9_qPartTold_63 = true := by decide +kernel
theorem vP_63 {d : Nat} {σ : SG} {Q : Option AV → SG → Prop} {l1 l2 l3 s0 : Int} (h : (r3 s0) ∧ (s0 ≠ 0 → (0 < d) ∧ AW (d - 1) mX9_takes 0 [some (.inr (.inr 42)), some (.inr (.inr 86))] [] σ (fun rr σ' => AW d mX9_qPartTold 85 [some (.inr (.inr 42)), some (.inl l1), some (.inl l2), some (.inl l3), none, none] (rtS rr []) σ' Q)) ∧ (s0 = 0 → (0 < d) ∧ AW (d - 1) mX9_isHere 0 [some (.inr (.inr 42)), some (.inr (.inr 87)), none, none] [] σ (fun rr σ' => AW d mX9_qPartTold 74 [some (.inr (.inr 42)), some (.inl l1), some (.inl l2), some (.inl l3), none, none] (rtS rr []) σ' Q))) : AW d mX9_qPartTold 63 [some (.inr (.inr 42)), some (.inl l1), some (.inl l2), some (.inl l3), none, none] [.inl s0] σ Q := AW.blk kX9_qPartTold_63 cX9_qPartTold_63 (⟨(h).1, ⟨fun c60 => AW.blk kX9_qPartTold_77 cX9_qPartTold_77 (⟨(((h).2).1 c60).1, (((h).2).1 c60).2⟩), fun c60 => ⟨(((h).2).2 c60).1, (((h).2).2 c60).2⟩⟩⟩)
def kX9_qPartTold_181 : List BI := [bi (.goto (-179)) 3 [2] 0]
theorem cX9_qPartTold_181 : chk mX9_qPartTold 181 kX9_qPartTold_181 = true := by decide +kernel
def kX9_qPartTold_42 : List BI := [bi (.aload_n 0) 1 [] 0, bi (.dup) 1 [] 0, bi (.getfield 196) 3 [9, 2] 0, bi (.iconst 1) 1 [] 0, bi (.iadd) 1 [] 0, bi (.putfield 196) 3 [9, 2] 0, bi (.goto (129)) 3 [181] 0]
theorem cX9_qPartTold_42 : chk mX9_qPartTold 42 kX9_qPartTold_42 = true := by decide +kernel
theorem vP_42 {d : Nat} {σ : SG} {Q : Option AV → SG → Prop} {l1 l2 l3 : Int} (h : (∀ S61 : SG, S61 = up σ 42 2 ((σ 42 2) + 1) → AW d mX9_qPartTold 2 [some (.inr (.inr 42)), some (.inl l1), none, none, none, none] [] S61 Q)) : AW d mX9_qPartTold 42 [some (.inr (.inr 42)), some (.inl l1), some (.inl l2), some (.inl l3), none, none] [] σ Q := AW.blk kX9_qPartTold_42 cX9_qPartTold_42 (AW.blk kX9_qPartTold_181 cX9_qPartTold_181 (AW.drop 2 (AW.drop 3 ((h) _ rfl))))
def kX9_qPartTold_100 : List BI := [bi (.aload_n 0) 1 [] 0, bi (.invokevirtual 202) 3 [mX9_look, 1, 1, 9] 0]
theorem cX9_qPartTold_100 : chk mX9_qPartTold 100 kX9_qPartTold_100 = true := by decide +kernel
def kX9_qPartTold_85 : List BI := [bi (.istore 4) 2 [] 0, bi (.iload 4) 2 [] 0, bi (.ifCond .ne (11)) 3 [100] 0, bi (.aload_n 0) 1 [] 0, bi (.aload_n 0) 1 [] 0, bi (.getfield 148) 3 [9, 61] 0, bi (.invokevirtual 263) 3 [mX9_asks, 2, 2, 9] 0]
theorem cX9_qPartTold_85 : chk mX9_qPartTold 85 kX9_qPartTold_85 = true := by decide +kernel
theorem vP_85 {d : Nat} {σ : SG} {Q : Option AV → SG → Prop} {l1 l2 l3 s0 : Int} (h : (r3 s0) ∧ (s0 ≠ 0 → (0 < d) ∧ AW (d - 1) mX9_look 0 [some (.inr (.inr 42))] [] σ (fun rr σ' => AW d mX9_qPartTold 104 [some (.inr (.inr 42)), some (.inl l1), some (.inl l2), some (.inl l3), some (.inl s0), none] (rtS rr []) σ' Q)) ∧ (s0 = 0 → (0 < d) ∧ AW (d - 1) mX9_asks 0 [some (.inr (.inr 42)), some (.inr (.inr 87))] [] σ (fun rr σ' => AW d mX9_qPartTold 100 [some (.inr (.inr 42)), some (.inl l1), some (.inl l2), some (.inl l3), some (.inl s0), none] (rtS rr []) σ' Q))) : AW d mX9_qPartTold 85 [some (.inr (.inr 42)), some (.inl l1), some (.inl l2), some (.inl l3), none, none] [.inl s0] σ Q := AW.blk kX9_qPartTold_85 cX9_qPartTold_85 (⟨(h).1, ⟨fun c62 => AW.blk kX9_qPartTold_100 cX9_qPartTold_100 (⟨(((h).2).1 c62).1, (((h).2).1 c62).2⟩), fun c62 => ⟨(((h).2).2 c62).1, (((h).2).2 c62).2⟩⟩⟩)
def kX9_qPartTold_179 : List BI := [bi (.iconst 0) 1 [] 0, bi (.istore_n 1) 1 [] 0, bi (.goto (-179)) 3 [2] 0]
theorem cX9_qPartTold_179 : chk mX9_qPartTold 179 kX9_qPartTold_179 = true := by decide +kernel
def kX9_qPartTold_152 : List BI := [bi (.iload_n 3) 1 [] 0, bi (.iconst (-1)) 1 [] 0, bi (.if_icmp .eq (25)) 3 [179] 0, bi (.aload_n 0) 1 [] 0, bi (.bipush (60)) 2 [] 0, bi (.iload_n 3) 1 [] 0, bi (.iadd) 1 [] 0, bi (.iconst 5) 1 [] 0, bi (.isub) 1 [] 0, bi (.aload_n 0) 1 [] 0, bi (.getfield 196) 3 [9, 2] 0, bi (.invokevirtual 503) 3 [mX9_qOpens, 3, 3, 9] 0]
theorem cX9_qPartTold_152 : chk mX9_qPartTold 152 kX9_qPartTold_152 = true := by decide +kernel
def kX9_qPartTold_74 : List BI := [bi (.ifCond .eq (78)) 3 [152] 0, bi (.aload_n 0) 1 [] 0, bi (.aload_n 0) 1 [] 0, bi (.getfield 145) 3 [9, 60] 0, bi (.invokevirtual 217) 3 [mX9_takes, 2, 2, 9] 0]
theorem cX9_qPartTold_74 : chk mX9_qPartTold 74 kX9_qPartTold_74 = true := by decide +kernel
theorem vP_74 {d : Nat} {σ : SG} {Q : Option AV → SG → Prop} {l1 l2 l3 s0 : Int} (h : (r3 s0) ∧ (s0 = 0 → (r3 l3) ∧ (l3 = (-1) → AW d mX9_qPartTold 2 [some (.inr (.inr 42)), some (.inl 0), none, none, none, none] [] σ Q) ∧ (l3 ≠ (-1) → (0 < d) ∧ AW (d - 1) mX9_qOpens 0 [some (.inr (.inr 42)), some (.inl ((60 + l3) - 5)), some (.inl (σ 42 2))] [] σ (fun rr σ' => AW d mX9_qPartTold 171 [some (.inr (.inr 42)), some (.inl l1), some (.inl l2), some (.inl l3), none, none] (rtS rr []) σ' Q))) ∧ (s0 ≠ 0 → (0 < d) ∧ AW (d - 1) mX9_takes 0 [some (.inr (.inr 42)), some (.inr (.inr 86))] [] σ (fun rr σ' => AW d mX9_qPartTold 85 [some (.inr (.inr 42)), some (.inl l1), some (.inl l2), some (.inl l3), none, none] (rtS rr []) σ' Q))) : AW d mX9_qPartTold 74 [some (.inr (.inr 42)), some (.inl l1), some (.inl l2), some (.inl l3), none, none] [.inl s0] σ Q := AW.blk kX9_qPartTold_74 cX9_qPartTold_74 (⟨(h).1, ⟨fun c64 => AW.blk kX9_qPartTold_152 cX9_qPartTold_152 (⟨⟨(((h).2).1 c64).1, (by decide)⟩, ⟨fun c63 => AW.blk kX9_qPartTold_179 cX9_qPartTold_179 (AW.drop 2 (AW.drop 3 (((((h).2).1 c64).2).1 c63))), fun c63 => ⟨(((((h).2).1 c64).2).2 c63).1, (((((h).2).1 c64).2).2 c63).2⟩⟩⟩), fun c64 => ⟨(((h).2).2 c64).1, (((h).2).2 c64).2⟩⟩⟩)
def kX9_qPartTold_143 : List BI := [bi (.aload_n 0) 1 [] 0, bi (.bipush (40)) 2 [] 0, bi (.invokevirtual 300) 3 [mX9_asksSign, 2, 2, 9] 0]
theorem cX9_qPartTold_143 : chk mX9_qPartTold 143 kX9_qPartTold_143 = true := by decide +kernel
def kX9_qPartTold_116 : List BI := [bi (.iconst (-1)) 1 [] 0, bi (.istore 5) 2 [] 0, bi (.iload 5) 2 [] 0, bi (.iconst (-1)) 1 [] 0, bi (.if_icmp .eq (21)) 3 [143] 0, bi (.aload_n 0) 1 [] 0, bi (.iload 4) 2 [] 0, bi (.ifCond .eq (8)) 3 [136] 0, bi (.bipush (21)) 2 [] 0, bi (.goto (5)) 3 [138] 0]
theorem cX9_qPartTold_116 : chk mX9_qPartTold 116 kX9_qPartTold_116 = true := by decide +kernel
def kX9_qPartTold_136 : List BI := [bi (.bipush (22)) 2 [] 0, bi (.iload 5) 2 [] 0, bi (.invokevirtual 503) 3 [mX9_qOpens, 3, 3, 9] 0]
theorem cX9_qPartTold_136 : chk mX9_qPartTold 136 kX9_qPartTold_136 = true := by decide +kernel
def kX9_qPartTold_138 : List BI := [bi (.iload 5) 2 [] 0, bi (.invokevirtual 503) 3 [mX9_qOpens, 3, 3, 9] 0]
theorem cX9_qPartTold_138 : chk mX9_qPartTold 138 kX9_qPartTold_138 = true := by decide +kernel
def kX9_qPartTold_117 : List BI := [bi (.istore 5) 2 [] 0, bi (.iload 5) 2 [] 0, bi (.iconst (-1)) 1 [] 0, bi (.if_icmp .eq (21)) 3 [143] 0, bi (.aload_n 0) 1 [] 0, bi (.iload 4) 2 [] 0, bi (.ifCond .eq (8)) 3 [136] 0, bi (.bipush (21)) 2 [] 0, bi (.goto (5)) 3 [138] 0]
theorem cX9_qPartTold_117 : chk mX9_qPartTold 117 kX9_qPartTold_117 = true := by decide +kernel
def kX9_qPartTold_104 : List BI := [bi (.bipush (40)) 2 [] 0, bi (.if_icmp .ne (10)) 3 [116] 0, bi (.aload_n 0) 1 [] 0, bi (.getfield 196) 3 [9, 2] 0, bi (.goto (4)) 3 [117] 0]
theorem cX9_qPartTold_104 : chk mX9_qPartTold 104 kX9_qPartTold_104 = true := by decide +kernel
theorem vP_104 {d : Nat} {σ : SG} {Q : Option AV → SG → Prop} {l1 l2 l3 l4 s0 : Int} (h : (r3 s0) ∧ (s0 ≠ 40 → (0 < d) ∧ AW (d - 1) mX9_asksSign 0 [some (.inr (.inr 42)), some (.inl 40)] [] σ (fun rr σ' => AW d mX9_qPartTold 149 [some (.inr (.inr 42)), some (.inl l1), some (.inl l2), some (.inl l3), some (.inl l4), some (.inl ((-1)))] (rtS rr []) σ' Q)) ∧ (s0 = 40 → (r3 (σ 42 2)) ∧ ((σ 42 2) = (-1) → (0 < d) ∧ AW (d - 1) mX9_asksSign 0 [some (.inr (.inr 42)), some (.inl 40)] [] σ (fun rr σ' => AW d mX9_qPartTold 149 [some (.inr (.inr 42)), some (.inl l1), some (.inl l2), some (.inl l3), some (.inl l4), some (.inl (σ 42 2))] (rtS rr []) σ' Q)) ∧ ((σ 42 2) ≠ (-1) → (r3 l4) ∧ (l4 = 0 → (0 < d) ∧ AW (d - 1) mX9_qOpens 0 [some (.inr (.inr 42)), some (.inl 22), some (.inl (σ 42 2))] [] σ (fun rr σ' => AW d mX9_qPartTold 143 [some (.inr (.inr 42)), some (.inl l1), some (.inl l2), some (.inl l3), some (.inl l4), some (.inl (σ 42 2))] (rtS rr []) σ' Q)) ∧ (l4 ≠ 0 → (0 < d) ∧ AW (d - 1) mX9_qOpens 0 [some (.inr (.inr 42)), some (.inl 21), some (.inl (σ 42 2))] [] σ (fun rr σ' => AW d mX9_qPartTold 143 [some (.inr (.inr 42)), some (.inl l1), some (.inl l2), some (.inl l3), some (.inl l4), some (.inl (σ 42 2))] (rtS rr []) σ' Q))))) : AW d mX9_qPartTold 104 [some (.inr (.inr 42)), some (.inl l1), some (.inl l2), some (.inl l3), some (.inl l4), none] [.inl s0] σ Q := AW.blk kX9_qPartTold_104 cX9_qPartTold_104 (⟨⟨(h).1, (by decide)⟩, ⟨fun c67 => AW.blk kX9_qPartTold_116 cX9_qPartTold_116 (⟨⟨(by decide), (by decide)⟩, ⟨fun _ => AW.blk kX9_qPartTold_143 cX9_qPartTold_143 (⟨(((h).2).1 c67).1, (((h).2).1 c67).2⟩), fun c => absurd c (by decide)⟩⟩), fun c67 => AW.blk kX9_qPartTold_117 cX9_qPartTold_117 (⟨⟨(((h).2).2 c67).1, (by decide)⟩, ⟨fun c66 => AW.blk kX9_qPartTold_143 cX9_qPartTold_143 (⟨(((((h).2).2 c67).2).1 c66).1, (((((h).2).2 c67).2).1 c66).2⟩), fun c66 => ⟨(((((h).2).2 c67).2).2 c66).1, ⟨fun c65 => AW.blk kX9_qPartTold_136 cX9_qPartTold_136 (⟨(((((((h).2).2 c67).2).2 c66).2).1 c65).1, (((((((h).2).2 c67).2).2 c66).2).1 c65).2⟩), fun c65 => AW.blk kX9_qPartTold_138 cX9_qPartTold_138 (⟨(((((((h).2).2 c67).2).2 c66).2).2 c65).1, (((((((h).2).2 c67).2).2 c66).2).2 c65).2⟩)⟩⟩⟩⟩)⟩⟩)
theorem vP_100 {d : Nat} {σ : SG} {Q : Option AV → SG → Prop} {l1 l2 l3 l4 : Int} (h : (0 < d) ∧ AW (d - 1) mX9_look 0 [some (.inr (.inr 42))] [] σ (fun rr σ' => AW d mX9_qPartTold 104 [some (.inr (.inr 42)), some (.inl l1), some (.inl l2), some (.inl l3), some (.inl l4), none] (rtS rr []) σ' Q)) : AW d mX9_qPartTold 100 [some (.inr (.inr 42)), some (.inl l1), some (.inl l2), some (.inl l3), some (.inl l4), none] [] σ Q := AW.blk kX9_qPartTold_100 cX9_qPartTold_100 (⟨(h).1, (h).2⟩)
def kX9_qPartTold_171 : List BI := [bi (.aload_n 0) 1 [] 0, bi (.iload_n 3) 1 [] 0, bi (.invokevirtual 506) 3 [mX9_qAsksWord, 2, 2, 9] 0]
theorem cX9_qPartTold_171 : chk mX9_qPartTold 171 kX9_qPartTold_171 = true := by decide +kernel
theorem vP_171 {d : Nat} {σ : SG} {Q : Option AV → SG → Prop} {l1 l2 l3 : Int} (h : (0 < d) ∧ AW (d - 1) mX9_qAsksWord 0 [some (.inr (.inr 42)), some (.inl l3)] [] σ (fun rr σ' => AW d mX9_qPartTold 176 [some (.inr (.inr 42)), some (.inl l1), some (.inl l2), some (.inl l3), none, none] (rtS rr []) σ' Q)) : AW d mX9_qPartTold 171 [some (.inr (.inr 42)), some (.inl l1), some (.inl l2), some (.inl l3), none, none] [] σ Q := AW.blk kX9_qPartTold_171 cX9_qPartTold_171 (⟨(h).1, (h).2⟩)
def kX9_qPartTold_149 : List BI := [bi (.goto (32)) 3 [181] 0]
theorem cX9_qPartTold_149 : chk mX9_qPartTold 149 kX9_qPartTold_149 = true := by decide +kernel
theorem vP_149 {d : Nat} {σ : SG} {Q : Option AV → SG → Prop} {l1 l2 l3 l4 l5 : Int} (h : AW d mX9_qPartTold 2 [some (.inr (.inr 42)), some (.inl l1), none, none, none, none] [] σ Q) : AW d mX9_qPartTold 149 [some (.inr (.inr 42)), some (.inl l1), some (.inl l2), some (.inl l3), some (.inl l4), some (.inl l5)] [] σ Q := AW.blk kX9_qPartTold_149 cX9_qPartTold_149 (AW.blk kX9_qPartTold_181 cX9_qPartTold_181 (AW.drop 2 (AW.drop 3 (AW.drop 4 (AW.drop 5 (h))))))
theorem vP_143 {d : Nat} {σ : SG} {Q : Option AV → SG → Prop} {l1 l2 l3 l4 l5 : Int} (h : (0 < d) ∧ AW (d - 1) mX9_asksSign 0 [some (.inr (.inr 42)), some (.inl 40)] [] σ (fun rr σ' => AW d mX9_qPartTold 149 [some (.inr (.inr 42)), some (.inl l1), some (.inl l2), some (.inl l3), some (.inl l4), some (.inl l5)] (rtS rr []) σ' Q)) : AW d mX9_qPartTold 143 [some (.inr (.inr 42)), some (.inl l1), some (.inl l2), some (.inl l3), some (.inl l4), some (.inl l5)] [] σ Q := AW.blk kX9_qPartTold_143 cX9_qPartTold_143 (⟨(h).1, (h).2⟩)
def kX9_qPartTold_176 : List BI := [bi (.goto (5)) 3 [181] 0]
theorem cX9_qPartTold_176 : chk mX9_qPartTold 176 kX9_qPartTold_176 = true := by decide +kernel
theorem vP_176 {d : Nat} {σ : SG} {Q : Option AV → SG → Prop} {l1 l2 l3 : Int} (h : AW d mX9_qPartTold 2 [some (.inr (.inr 42)), some (.inl l1), none, none, none, none] [] σ Q) : AW d mX9_qPartTold 176 [some (.inr (.inr 42)), some (.inl l1), some (.inl l2), some (.inl l3), none, none] [] σ Q := AW.blk kX9_qPartTold_176 cX9_qPartTold_176 (AW.blk kX9_qPartTold_181 cX9_qPartTold_181 (AW.drop 2 (AW.drop 3 (h))))
def kX9_qGoesOn_122 : List BI := [bi (.aload_n 0) 1 [] 0, bi (.bipush (42)) 2 [] 0, bi (.invokevirtual 224) 3 [mX9_takesSign, 2, 2, 9] 0]
theorem cX9_qGoesOn_122 : chk mX9_qGoesOn 122 kX9_qGoesOn_122 = true := by decide +kernel
def kX9_qGoesOn_0 : List BI := [bi (.aload_n 0) 1 [] 0, bi (.getfield 190) 3 [9, 5] 0, bi (.ifCond .ne (118)) 3 [122] 0, bi (.aload_n 0) 1 [] 0, bi (.invokevirtual 202) 3 [mX9_look, 1, 1, 9] 0]
theorem cX9_qGoesOn_0 : chk mX9_qGoesOn 0 kX9_qGoesOn_0 = true := by decide +kernel
theorem vG_0 {d : Nat} {σ : SG} {Q : Option AV → SG → Prop} (h : (r3 (σ 42 5)) ∧ ((σ 42 5) ≠ 0 → (0 < d) ∧ AW (d - 1) mX9_takesSign 0 [some (.inr (.inr 42)), some (.inl 42)] [] σ (fun rr σ' => AW d mX9_qGoesOn 128 [some (.inr (.inr 42)), none] (rtS rr []) σ' Q)) ∧ ((σ 42 5) = 0 → (0 < d) ∧ AW (d - 1) mX9_look 0 [some (.inr (.inr 42))] [] σ (fun rr σ' => AW d mX9_qGoesOn 11 [some (.inr (.inr 42)), none] (rtS rr []) σ' Q))) : AW d mX9_qGoesOn 0 [some (.inr (.inr 42)), none] [] σ Q := AW.blk kX9_qGoesOn_0 cX9_qGoesOn_0 (⟨(h).1, ⟨fun c68 => AW.blk kX9_qGoesOn_122 cX9_qGoesOn_122 (⟨(((h).2).1 c68).1, (((h).2).1 c68).2⟩), fun c68 => ⟨(((h).2).2 c68).1, (((h).2).2 c68).2⟩⟩⟩)
def kX9_qGoesOn_160 : List BI := [bi (.iconst 4) 1 [] 0, bi (.istore_n 1) 1 [] 0]
theorem cX9_qGoesOn_160 : chk mX9_qGoesOn 160 kX9_qGoesOn_160 = true := by decide +kernel
def kX9_qGoesOn_161 : List BI := [bi (.istore_n 1) 1 [] 0]
theorem cX9_qGoesOn_161 : chk mX9_qGoesOn 161 kX9_qGoesOn_161 = true := by decide +kernel
def kX9_qGoesOn_140 : List BI := [bi (.aload_n 0) 1 [] 0, bi (.getfield 7) 3 [9, 0] 0, bi (.aload_n 0) 1 [] 0, bi (.getfield 196) 3 [9, 2] 0, bi (.iconst 1) 1 [] 0, bi (.isub) 1 [] 0, bi (.iaload) 1 [] 0, bi (.bipush (42)) 2 [] 0, bi (.if_icmp .ne (7)) 3 [160] 0, bi (.iconst 3) 1 [] 0, bi (.goto (4)) 3 [161] 0]
theorem cX9_qGoesOn_140 : chk mX9_qGoesOn 140 kX9_qGoesOn_140 = true := by decide +kernel
def kX9_qGoesOn_128 : List BI := [bi (.ifCond .ne (12)) 3 [140] 0, bi (.aload_n 0) 1 [] 0, bi (.bipush (47)) 2 [] 0, bi (.invokevirtual 224) 3 [mX9_takesSign, 2, 2, 9] 0]
theorem cX9_qGoesOn_128 : chk mX9_qGoesOn 128 kX9_qGoesOn_128 = true := by decide +kernel
theorem vG_128 {d : Nat} {σ : SG} {Q : Option AV → SG → Prop} {s0 : Int} (h : (r3 s0) ∧ (s0 ≠ 0 → (0 ≤ ((σ 42 2) - 1) ∧ ((σ 42 2) - 1) < 1600) ∧ (r3 (σ 43 ((σ 42 2) - 1))) ∧ ((σ 43 ((σ 42 2) - 1)) ≠ 42 → AW d mX9_qGoesOn 162 [some (.inr (.inr 42)), some (.inl 4)] [] σ Q) ∧ ((σ 43 ((σ 42 2) - 1)) = 42 → AW d mX9_qGoesOn 162 [some (.inr (.inr 42)), some (.inl 3)] [] σ Q)) ∧ (s0 = 0 → (0 < d) ∧ AW (d - 1) mX9_takesSign 0 [some (.inr (.inr 42)), some (.inl 47)] [] σ (fun rr σ' => AW d mX9_qGoesOn 137 [some (.inr (.inr 42)), none] (rtS rr []) σ' Q))) : AW d mX9_qGoesOn 128 [some (.inr (.inr 42)), none] [.inl s0] σ Q := AW.blk kX9_qGoesOn_128 cX9_qGoesOn_128 (⟨(h).1, ⟨fun c70 => AW.blk kX9_qGoesOn_140 cX9_qGoesOn_140 (⟨⟨((((h).2).1 c70).1).1, ((((h).2).1 c70).1).2⟩, ⟨⟨((((h).2).1 c70).2).1, (by decide)⟩, ⟨fun c69 => AW.blk kX9_qGoesOn_160 cX9_qGoesOn_160 ((((((h).2).1 c70).2).2).1 c69), fun c69 => AW.blk kX9_qGoesOn_161 cX9_qGoesOn_161 ((((((h).2).1 c70).2).2).2 c69)⟩⟩⟩), fun c70 => ⟨(((h).2).2 c70).1, (((h).2).2 c70).2⟩⟩⟩)
def kX9_qGoesOn_11 : List BI := [bi (.bipush (41)) 2 [] 0, bi (.if_icmp .ne (109)) 3 [122] 0, bi (.aload_n 0) 1 [] 0, bi (.invokevirtual 512) 3 [mX9_qBracket, 1, 2, 9] 0]
theorem cX9_qGoesOn_11 : chk mX9_qGoesOn 11 kX9_qGoesOn_11 = true := by decide +kernel
theorem vG_11 {d : Nat} {σ : SG} {Q : Option AV → SG → Prop} {s0 : Int} (h : (r3 s0) ∧ (s0 ≠ 41 → (0 < d) ∧ AW (d - 1) mX9_takesSign 0 [some (.inr (.inr 42)), some (.inl 42)] [] σ (fun rr σ' => AW d mX9_qGoesOn 128 [some (.inr (.inr 42)), none] (rtS rr []) σ' Q)) ∧ (s0 = 41 → (0 < d) ∧ AW (d - 1) mX9_qBracket 0 [some (.inr (.inr 42)), none] [] σ (fun rr σ' => AW d mX9_qGoesOn 20 [some (.inr (.inr 42)), none] (rtS rr []) σ' Q))) : AW d mX9_qGoesOn 11 [some (.inr (.inr 42)), none] [.inl s0] σ Q := AW.blk kX9_qGoesOn_11 cX9_qGoesOn_11 (⟨⟨(h).1, (by decide)⟩, ⟨fun c71 => AW.blk kX9_qGoesOn_122 cX9_qGoesOn_122 (⟨(((h).2).1 c71).1, (((h).2).1 c71).2⟩), fun c71 => ⟨(((h).2).2 c71).1, (((h).2).2 c71).2⟩⟩⟩)
def kX9_qGoesOn_178 : List BI := [bi (.aload_n 0) 1 [] 0, bi (.invokevirtual 494) 3 [mX9_qDrops, 1, 1, 9] 0, bi (.goto (-20)) 3 [162] 0]
theorem cX9_qGoesOn_178 : chk mX9_qGoesOn 178 kX9_qGoesOn_178 = true := by decide +kernel
def kX9_qGoesOn_185 : List BI := [bi (.aload_n 0) 1 [] 0, bi (.getfield 178) 3 [9, 72] 0, bi (.aload_n 0) 1 [] 0, bi (.getfield 482) 3 [9, 73] 0, bi (.iload_n 1) 1 [] 0, bi (.iastore) 1 [] 0, bi (.aload_n 0) 1 [] 0, bi (.dup) 1 [] 0, bi (.getfield 482) 3 [9, 73] 0, bi (.iconst 1) 1 [] 0, bi (.iadd) 1 [] 0, bi (.putfield 482) 3 [9, 73] 0, bi (.iconst 1) 1 [] 0, bi (.ireturn) 1 [1] 0]
theorem cX9_qGoesOn_185 : chk mX9_qGoesOn 185 kX9_qGoesOn_185 = true := by decide +kernel
def kX9_qGoesOn_162 : List BI := [bi (.aload_n 0) 1 [] 0, bi (.iconst 3) 1 [] 0, bi (.invokevirtual 518) 3 [mX9_qIsOn, 2, 2, 9] 0, bi (.ifCond .ne (11)) 3 [178] 0, bi (.aload_n 0) 1 [] 0, bi (.iconst 4) 1 [] 0, bi (.invokevirtual 518) 3 [mX9_qIsOn, 2, 2, 9] 0, bi (.ifCond .eq (10)) 3 [185] 0, bi (.aload_n 0) 1 [] 0, bi (.invokevirtual 494) 3 [mX9_qDrops, 1, 1, 9] 0, bi (.goto (-20)) 3 [162] 0]
theorem cX9_qGoesOn_162 : chk mX9_qGoesOn 162 kX9_qGoesOn_162 = true := by decide +kernel
theorem vG_162 {d : Nat} {σ : SG} {Q : Option AV → SG → Prop} {l1 : Int} (h : (0 < d) ∧ (ionO σ 3) ∧ (r3 (ionV σ 3)) ∧ ((ionV σ 3) ≠ 0 → (0 < d) ∧ (drO (d - 1) σ) ∧ (∀ S72 : SG, S72 = drS σ → AW d mX9_qGoesOn 162 [some (.inr (.inr 42)), some (.inl l1)] [] S72 Q)) ∧ ((ionV σ 3) = 0 → (0 < d) ∧ (ionO σ 4) ∧ (r3 (ionV σ 4)) ∧ ((ionV σ 4) = 0 → (0 ≤ (σ 42 73) ∧ (σ 42 73) < 1700) ∧ (∀ S73 : SG, S73 = up σ 97 (σ 42 73) l1 → (∀ S74 : SG, S74 = up S73 42 73 ((S73 42 73) + 1) → Q (some (.inl 1)) S74))) ∧ ((ionV σ 4) ≠ 0 → (0 < d) ∧ (drO (d - 1) σ) ∧ (∀ S75 : SG, S75 = drS σ → AW d mX9_qGoesOn 162 [some (.inr (.inr 42)), some (.inl l1)] [] S75 Q)))) : AW d mX9_qGoesOn 162 [some (.inr (.inr 42)), some (.inl l1)] [] σ Q := AW.blk kX9_qGoesOn_162 cX9_qGoesOn_162 (⟨(h).1, vio_ok ⟨((h).2).1, ⟨(((h).2).2).1, ⟨fun c77 => AW.blk kX9_qGoesOn_178 cX9_qGoesOn_178 (⟨(((((h).2).2).2).1 c77).1, vdr_ok ⟨((((((h).2).2).2).1 c77).2).1, (((((((h).2).2).2).1 c77).2).2) _ rfl⟩⟩), fun c77 => ⟨(((((h).2).2).2).2 c77).1, vio_ok ⟨((((((h).2).2).2).2 c77).2).1, ⟨(((((((h).2).2).2).2 c77).2).2).1, ⟨fun c76 => AW.blk kX9_qGoesOn_185 cX9_qGoesOn_185 (⟨⟨((((((((((h).2).2).2).2 c77).2).2).2).1 c76).1).1, ((((((((((h).2).2).2).2 c77).2).2).2).1 c76).1).2⟩, ⟨(by decide), (((((((((((h).2).2).2).2 c77).2).2).2).1 c76).2) _ rfl) _ rfl⟩⟩), fun c76 => ⟨(((((((((h).2).2).2).2 c77).2).2).2).2 c76).1, vdr_ok ⟨((((((((((h).2).2).2).2 c77).2).2).2).2 c76).2).1, (((((((((((h).2).2).2).2 c77).2).2).2).2 c76).2).2) _ rfl⟩⟩⟩⟩⟩⟩⟩⟩⟩⟩)
def kX9_qGoesOn_207 : List BI := [bi (.aload_n 0) 1 [] 0, bi (.bipush (43)) 2 [] 0, bi (.invokevirtual 224) 3 [mX9_takesSign, 2, 2, 9] 0]
theorem cX9_qGoesOn_207 : chk mX9_qGoesOn 207 kX9_qGoesOn_207 = true := by decide +kernel
def kX9_qGoesOn_137 : List BI := [bi (.ifCond .eq (70)) 3 [207] 0, bi (.aload_n 0) 1 [] 0, bi (.getfield 7) 3 [9, 0] 0, bi (.aload_n 0) 1 [] 0, bi (.getfield 196) 3 [9, 2] 0, bi (.iconst 1) 1 [] 0, bi (.isub) 1 [] 0, bi (.iaload) 1 [] 0, bi (.bipush (42)) 2 [] 0, bi (.if_icmp .ne (7)) 3 [160] 0, bi (.iconst 3) 1 [] 0, bi (.goto (4)) 3 [161] 0]
theorem cX9_qGoesOn_137 : chk mX9_qGoesOn 137 kX9_qGoesOn_137 = true := by decide +kernel
theorem vG_137 {d : Nat} {σ : SG} {Q : Option AV → SG → Prop} {s0 : Int} (h : (r3 s0) ∧ (s0 = 0 → (0 < d) ∧ AW (d - 1) mX9_takesSign 0 [some (.inr (.inr 42)), some (.inl 43)] [] σ (fun rr σ' => AW d mX9_qGoesOn 213 [some (.inr (.inr 42)), none] (rtS rr []) σ' Q)) ∧ (s0 ≠ 0 → (0 ≤ ((σ 42 2) - 1) ∧ ((σ 42 2) - 1) < 1600) ∧ (r3 (σ 43 ((σ 42 2) - 1))) ∧ ((σ 43 ((σ 42 2) - 1)) ≠ 42 → AW d mX9_qGoesOn 162 [some (.inr (.inr 42)), some (.inl 4)] [] σ Q) ∧ ((σ 43 ((σ 42 2) - 1)) = 42 → AW d mX9_qGoesOn 162 [some (.inr (.inr 42)), some (.inl 3)] [] σ Q))) : AW d mX9_qGoesOn 137 [some (.inr (.inr 42)), none] [.inl s0] σ Q := AW.blk kX9_qGoesOn_137 cX9_qGoesOn_137 (⟨(h).1, ⟨fun c79 => AW.blk kX9_qGoesOn_207 cX9_qGoesOn_207 (⟨(((h).2).1 c79).1, (((h).2).1 c79).2⟩), fun c79 => ⟨⟨((((h).2).2 c79).1).1, ((((h).2).2 c79).1).2⟩, ⟨⟨((((h).2).2 c79).2).1, (by decide)⟩, ⟨fun c78 => AW.blk kX9_qGoesOn_160 cX9_qGoesOn_160 ((((((h).2).2 c79).2).2).1 c78), fun c78 => AW.blk kX9_qGoesOn_161 cX9_qGoesOn_161 ((((((h).2).2 c79).2).2).2 c78)⟩⟩⟩⟩⟩)
def kX9_qGoesOn_43 : List BI := [bi (.aload_n 0) 1 [] 0, bi (.dup) 1 [] 0, bi (.getfield 196) 3 [9, 2] 0, bi (.iconst 1) 1 [] 0, bi (.iadd) 1 [] 0, bi (.putfield 196) 3 [9, 2] 0, bi (.aload_n 0) 1 [] 0, bi (.invokevirtual 515) 3 [mX9_qDropsToBracket, 1, 1, 9] 0]
theorem cX9_qGoesOn_43 : chk mX9_qGoesOn 43 kX9_qGoesOn_43 = true := by decide +kernel
def kX9_qGoesOn_20 : List BI := [bi (.bipush (20)) 2 [] 0, bi (.if_icmp .eq (21)) 3 [43] 0, bi (.aload_n 0) 1 [] 0, bi (.invokevirtual 512) 3 [mX9_qBracket, 1, 2, 9] 0]
theorem cX9_qGoesOn_20 : chk mX9_qGoesOn 20 kX9_qGoesOn_20 = true := by decide +kernel
theorem vG_20 {d : Nat} {σ : SG} {Q : Option AV → SG → Prop} {s0 : Int} (h : (r3 s0) ∧ (s0 = 20 → (∀ S80 : SG, S80 = up σ 42 2 ((σ 42 2) + 1) → (0 < d) ∧ AW (d - 1) mX9_qDropsToBracket 0 [some (.inr (.inr 42))] [] S80 (fun rr σ' => AW d mX9_qGoesOn 57 [some (.inr (.inr 42)), none] (rtS rr []) σ' Q))) ∧ (s0 ≠ 20 → (0 < d) ∧ AW (d - 1) mX9_qBracket 0 [some (.inr (.inr 42)), none] [] σ (fun rr σ' => AW d mX9_qGoesOn 29 [some (.inr (.inr 42)), none] (rtS rr []) σ' Q))) : AW d mX9_qGoesOn 20 [some (.inr (.inr 42)), none] [.inl s0] σ Q := AW.blk kX9_qGoesOn_20 cX9_qGoesOn_20 (⟨⟨(h).1, (by decide)⟩, ⟨fun c81 => AW.blk kX9_qGoesOn_43 cX9_qGoesOn_43 (⟨((((h).2).1 c81) _ rfl).1, ((((h).2).1 c81) _ rfl).2⟩), fun c81 => ⟨(((h).2).2 c81).1, (((h).2).2 c81).2⟩⟩⟩)
def kX9_qGoesOn_245 : List BI := [bi (.iconst 2) 1 [] 0, bi (.istore_n 1) 1 [] 0]
theorem cX9_qGoesOn_245 : chk mX9_qGoesOn 245 kX9_qGoesOn_245 = true := by decide +kernel
def kX9_qGoesOn_246 : List BI := [bi (.istore_n 1) 1 [] 0]
theorem cX9_qGoesOn_246 : chk mX9_qGoesOn 246 kX9_qGoesOn_246 = true := by decide +kernel
def kX9_qGoesOn_225 : List BI := [bi (.aload_n 0) 1 [] 0, bi (.getfield 7) 3 [9, 0] 0, bi (.aload_n 0) 1 [] 0, bi (.getfield 196) 3 [9, 2] 0, bi (.iconst 1) 1 [] 0, bi (.isub) 1 [] 0, bi (.iaload) 1 [] 0, bi (.bipush (43)) 2 [] 0, bi (.if_icmp .ne (7)) 3 [245] 0, bi (.iconst 1) 1 [] 0, bi (.goto (4)) 3 [246] 0]
theorem cX9_qGoesOn_225 : chk mX9_qGoesOn 225 kX9_qGoesOn_225 = true := by decide +kernel
def kX9_qGoesOn_213 : List BI := [bi (.ifCond .ne (12)) 3 [225] 0, bi (.aload_n 0) 1 [] 0, bi (.bipush (45)) 2 [] 0, bi (.invokevirtual 224) 3 [mX9_takesSign, 2, 2, 9] 0]
theorem cX9_qGoesOn_213 : chk mX9_qGoesOn 213 kX9_qGoesOn_213 = true := by decide +kernel
theorem vG_213 {d : Nat} {σ : SG} {Q : Option AV → SG → Prop} {s0 : Int} (h : (r3 s0) ∧ (s0 ≠ 0 → (0 ≤ ((σ 42 2) - 1) ∧ ((σ 42 2) - 1) < 1600) ∧ (r3 (σ 43 ((σ 42 2) - 1))) ∧ ((σ 43 ((σ 42 2) - 1)) ≠ 43 → AW d mX9_qGoesOn 247 [some (.inr (.inr 42)), some (.inl 2)] [] σ Q) ∧ ((σ 43 ((σ 42 2) - 1)) = 43 → AW d mX9_qGoesOn 247 [some (.inr (.inr 42)), some (.inl 1)] [] σ Q)) ∧ (s0 = 0 → (0 < d) ∧ AW (d - 1) mX9_takesSign 0 [some (.inr (.inr 42)), some (.inl 45)] [] σ (fun rr σ' => AW d mX9_qGoesOn 222 [some (.inr (.inr 42)), none] (rtS rr []) σ' Q))) : AW d mX9_qGoesOn 213 [some (.inr (.inr 42)), none] [.inl s0] σ Q := AW.blk kX9_qGoesOn_213 cX9_qGoesOn_213 (⟨(h).1, ⟨fun c83 => AW.blk kX9_qGoesOn_225 cX9_qGoesOn_225 (⟨⟨((((h).2).1 c83).1).1, ((((h).2).1 c83).1).2⟩, ⟨⟨((((h).2).1 c83).2).1, (by decide)⟩, ⟨fun c82 => AW.blk kX9_qGoesOn_245 cX9_qGoesOn_245 ((((((h).2).1 c83).2).2).1 c82), fun c82 => AW.blk kX9_qGoesOn_246 cX9_qGoesOn_246 ((((((h).2).1 c83).2).2).2 c82)⟩⟩⟩), fun c83 => ⟨(((h).2).2 c83).1, (((h).2).2 c83).2⟩⟩⟩)
def kX9_qGoesOn_115 : List BI := [bi (.aload_n 0) 1 [] 0, bi (.invokevirtual 509) 3 [mX9_qEndsPart, 1, 1, 9] 0]
theorem cX9_qGoesOn_115 : chk mX9_qGoesOn 115 kX9_qGoesOn_115 = true := by decide +kernel
def kX9_qGoesOn_110 : List BI := [bi (.bipush (6)) 2 [] 0, bi (.invokevirtual 485) 3 [mX9_qCode, 2, 2, 9] 0, bi (.aload_n 0) 1 [] 0, bi (.invokevirtual 509) 3 [mX9_qEndsPart, 1, 1, 9] 0]
theorem cX9_qGoesOn_110 : chk mX9_qGoesOn 110 kX9_qGoesOn_110 = true := by decide +kernel
def kX9_qGoesOn_112 : List BI := [bi (.invokevirtual 485) 3 [mX9_qCode, 2, 2, 9] 0, bi (.aload_n 0) 1 [] 0, bi (.invokevirtual 509) 3 [mX9_qEndsPart, 1, 1, 9] 0]
theorem cX9_qGoesOn_112 : chk mX9_qGoesOn 112 kX9_qGoesOn_112 = true := by decide +kernel
def kX9_qGoesOn_57 : List BI := [bi (.aload_n 0) 1 [] 0, bi (.dup) 1 [] 0, bi (.getfield 482) 3 [9, 73] 0, bi (.iconst 1) 1 [] 0, bi (.isub) 1 [] 0, bi (.putfield 482) 3 [9, 73] 0, bi (.aload_n 0) 1 [] 0, bi (.dup) 1 [] 0, bi (.getfield 479) 3 [9, 74] 0, bi (.iconst 1) 1 [] 0, bi (.isub) 1 [] 0, bi (.putfield 479) 3 [9, 74] 0, bi (.aload_n 0) 1 [] 0, bi (.getfield 178) 3 [9, 72] 0, bi (.aload_n 0) 1 [] 0, bi (.getfield 482) 3 [9, 73] 0, bi (.iaload) 1 [] 0, bi (.bipush (20)) 2 [] 0, bi (.if_icmp .eq (27)) 3 [115] 0, bi (.aload_n 0) 1 [] 0, bi (.aload_n 0) 1 [] 0, bi (.getfield 178) 3 [9, 72] 0, bi (.aload_n 0) 1 [] 0, bi (.getfield 482) 3 [9, 73] 0, bi (.iaload) 1 [] 0, bi (.bipush (23)) 2 [] 0, bi (.if_icmp .ne (7)) 3 [110] 0, bi (.iconst 5) 1 [] 0, bi (.goto (5)) 3 [112] 0]
theorem cX9_qGoesOn_57 : chk mX9_qGoesOn 57 kX9_qGoesOn_57 = true := by decide +kernel
theorem vG_57 {d : Nat} {σ : SG} {Q : Option AV → SG → Prop} (h : (∀ S84 : SG, S84 = up σ 42 73 ((σ 42 73) - 1) → (∀ S85 : SG, S85 = up S84 42 74 ((S84 42 74) - 1) → (0 ≤ (S85 42 73) ∧ (S85 42 73) < 1700) ∧ (r3 (S85 97 (S85 42 73))) ∧ ((S85 97 (S85 42 73)) = 20 → (0 < d) ∧ AW (d - 1) mX9_qEndsPart 0 [some (.inr (.inr 42))] [] S85 (fun rr σ' => AW d mX9_qGoesOn 119 [some (.inr (.inr 42)), none] (rtS rr []) σ' Q)) ∧ ((S85 97 (S85 42 73)) ≠ 20 → (0 ≤ (S85 42 73) ∧ (S85 42 73) < 1700) ∧ (r3 (S85 97 (S85 42 73))) ∧ ((S85 97 (S85 42 73)) ≠ 23 → (0 < d) ∧ (cdO S85) ∧ (∀ S86 : SG, S86 = cdS S85 6 → (0 < d) ∧ AW (d - 1) mX9_qEndsPart 0 [some (.inr (.inr 42))] [] S86 (fun rr σ' => AW d mX9_qGoesOn 119 [some (.inr (.inr 42)), none] (rtS rr []) σ' Q))) ∧ ((S85 97 (S85 42 73)) = 23 → (0 < d) ∧ (cdO S85) ∧ (∀ S87 : SG, S87 = cdS S85 5 → (0 < d) ∧ AW (d - 1) mX9_qEndsPart 0 [some (.inr (.inr 42))] [] S87 (fun rr σ' => AW d mX9_qGoesOn 119 [some (.inr (.inr 42)), none] (rtS rr []) σ' Q))))))) : AW d mX9_qGoesOn 57 [some (.inr (.inr 42)), none] [] σ Q := AW.blk kX9_qGoesOn_57 cX9_qGoesOn_57 (⟨⟨((((h) _ rfl) _ rfl).1).1, ((((h) _ rfl) _ rfl).1).2⟩, ⟨⟨((((h) _ rfl) _ rfl).2).1, (by decide)⟩, ⟨fun c89 => AW.blk kX9_qGoesOn_115 cX9_qGoesOn_115 (⟨((((((h) _ rfl) _ rfl).2).2).1 c89).1, ((((((h) _ rfl) _ rfl).2).2).1 c89).2⟩), fun c89 => ⟨⟨(((((((h) _ rfl) _ rfl).2).2).2 c89).1).1, (((((((h) _ rfl) _ rfl).2).2).2 c89).1).2⟩, ⟨⟨(((((((h) _ rfl) _ rfl).2).2).2 c89).2).1, (by decide)⟩, ⟨fun c88 => AW.blk kX9_qGoesOn_110 cX9_qGoesOn_110 (⟨(((((((((h) _ rfl) _ rfl).2).2).2 c89).2).2).1 c88).1, vcd_ok ⟨((((((((((h) _ rfl) _ rfl).2).2).2 c89).2).2).1 c88).2).1, ⟨((((((((((((h) _ rfl) _ rfl).2).2).2 c89).2).2).1 c88).2).2) _ rfl).1, ((((((((((((h) _ rfl) _ rfl).2).2).2 c89).2).2).1 c88).2).2) _ rfl).2⟩⟩⟩), fun c88 => AW.blk kX9_qGoesOn_112 cX9_qGoesOn_112 (⟨(((((((((h) _ rfl) _ rfl).2).2).2 c89).2).2).2 c88).1, vcd_ok ⟨((((((((((h) _ rfl) _ rfl).2).2).2 c89).2).2).2 c88).2).1, ⟨((((((((((((h) _ rfl) _ rfl).2).2).2 c89).2).2).2 c88).2).2) _ rfl).1, ((((((((((((h) _ rfl) _ rfl).2).2).2 c89).2).2).2 c88).2).2) _ rfl).2⟩⟩⟩)⟩⟩⟩⟩⟩⟩)
def kX9_qGoesOn_29 : List BI := [bi (.bipush (23)) 2 [] 0, bi (.if_icmp .eq (12)) 3 [43] 0, bi (.aload_n 0) 1 [] 0, bi (.invokevirtual 512) 3 [mX9_qBracket, 1, 2, 9] 0]
theorem cX9_qGoesOn_29 : chk mX9_qGoesOn 29 kX9_qGoesOn_29 = true := by decide +kernel
theorem vG_29 {d : Nat} {σ : SG} {Q : Option AV → SG → Prop} {s0 : Int} (h : (r3 s0) ∧ (s0 = 23 → (∀ S90 : SG, S90 = up σ 42 2 ((σ 42 2) + 1) → (0 < d) ∧ AW (d - 1) mX9_qDropsToBracket 0 [some (.inr (.inr 42))] [] S90 (fun rr σ' => AW d mX9_qGoesOn 57 [some (.inr (.inr 42)), none] (rtS rr []) σ' Q))) ∧ (s0 ≠ 23 → (0 < d) ∧ AW (d - 1) mX9_qBracket 0 [some (.inr (.inr 42)), none] [] σ (fun rr σ' => AW d mX9_qGoesOn 38 [some (.inr (.inr 42)), none] (rtS rr []) σ' Q))) : AW d mX9_qGoesOn 29 [some (.inr (.inr 42)), none] [.inl s0] σ Q := AW.blk kX9_qGoesOn_29 cX9_qGoesOn_29 (⟨⟨(h).1, (by decide)⟩, ⟨fun c91 => AW.blk kX9_qGoesOn_43 cX9_qGoesOn_43 (⟨((((h).2).1 c91) _ rfl).1, ((((h).2).1 c91) _ rfl).2⟩), fun c91 => ⟨(((h).2).2 c91).1, (((h).2).2 c91).2⟩⟩⟩)
def kX9_qGoesOn_279 : List BI := [bi (.aload_n 0) 1 [] 0, bi (.invokevirtual 494) 3 [mX9_qDrops, 1, 1, 9] 0, bi (.goto (-36)) 3 [247] 0]
theorem cX9_qGoesOn_279 : chk mX9_qGoesOn 279 kX9_qGoesOn_279 = true := by decide +kernel
def kX9_qGoesOn_286 : List BI := [bi (.aload_n 0) 1 [] 0, bi (.getfield 178) 3 [9, 72] 0, bi (.aload_n 0) 1 [] 0, bi (.getfield 482) 3 [9, 73] 0, bi (.iload_n 1) 1 [] 0, bi (.iastore) 1 [] 0, bi (.aload_n 0) 1 [] 0, bi (.dup) 1 [] 0, bi (.getfield 482) 3 [9, 73] 0, bi (.iconst 1) 1 [] 0, bi (.iadd) 1 [] 0, bi (.putfield 482) 3 [9, 73] 0, bi (.iconst 1) 1 [] 0, bi (.ireturn) 1 [1] 0]
theorem cX9_qGoesOn_286 : chk mX9_qGoesOn 286 kX9_qGoesOn_286 = true := by decide +kernel
def kX9_qGoesOn_247 : List BI := [bi (.aload_n 0) 1 [] 0, bi (.iconst 3) 1 [] 0, bi (.invokevirtual 518) 3 [mX9_qIsOn, 2, 2, 9] 0, bi (.ifCond .ne (27)) 3 [279] 0, bi (.aload_n 0) 1 [] 0, bi (.iconst 4) 1 [] 0, bi (.invokevirtual 518) 3 [mX9_qIsOn, 2, 2, 9] 0, bi (.ifCond .ne (19)) 3 [279] 0, bi (.aload_n 0) 1 [] 0, bi (.iconst 1) 1 [] 0, bi (.invokevirtual 518) 3 [mX9_qIsOn, 2, 2, 9] 0, bi (.ifCond .ne (11)) 3 [279] 0, bi (.aload_n 0) 1 [] 0, bi (.iconst 2) 1 [] 0, bi (.invokevirtual 518) 3 [mX9_qIsOn, 2, 2, 9] 0, bi (.ifCond .eq (10)) 3 [286] 0, bi (.aload_n 0) 1 [] 0, bi (.invokevirtual 494) 3 [mX9_qDrops, 1, 1, 9] 0, bi (.goto (-36)) 3 [247] 0]
theorem cX9_qGoesOn_247 : chk mX9_qGoesOn 247 kX9_qGoesOn_247 = true := by decide +kernel
theorem vG_247 {d : Nat} {σ : SG} {Q : Option AV → SG → Prop} {l1 : Int} (h : (0 < d) ∧ (ionO σ 3) ∧ (r3 (ionV σ 3)) ∧ ((ionV σ 3) ≠ 0 → (0 < d) ∧ (drO (d - 1) σ) ∧ (∀ S92 : SG, S92 = drS σ → AW d mX9_qGoesOn 247 [some (.inr (.inr 42)), some (.inl l1)] [] S92 Q)) ∧ ((ionV σ 3) = 0 → (0 < d) ∧ (ionO σ 4) ∧ (r3 (ionV σ 4)) ∧ ((ionV σ 4) ≠ 0 → (0 < d) ∧ (drO (d - 1) σ) ∧ (∀ S93 : SG, S93 = drS σ → AW d mX9_qGoesOn 247 [some (.inr (.inr 42)), some (.inl l1)] [] S93 Q)) ∧ ((ionV σ 4) = 0 → (0 < d) ∧ (ionO σ 1) ∧ (r3 (ionV σ 1)) ∧ ((ionV σ 1) ≠ 0 → (0 < d) ∧ (drO (d - 1) σ) ∧ (∀ S94 : SG, S94 = drS σ → AW d mX9_qGoesOn 247 [some (.inr (.inr 42)), some (.inl l1)] [] S94 Q)) ∧ ((ionV σ 1) = 0 → (0 < d) ∧ (ionO σ 2) ∧ (r3 (ionV σ 2)) ∧ ((ionV σ 2) = 0 → (0 ≤ (σ 42 73) ∧ (σ 42 73) < 1700) ∧ (∀ S95 : SG, S95 = up σ 97 (σ 42 73) l1 → (∀ S96 : SG, S96 = up S95 42 73 ((S95 42 73) + 1) → Q (some (.inl 1)) S96))) ∧ ((ionV σ 2) ≠ 0 → (0 < d) ∧ (drO (d - 1) σ) ∧ (∀ S97 : SG, S97 = drS σ → AW d mX9_qGoesOn 247 [some (.inr (.inr 42)), some (.inl l1)] [] S97 Q)))))) : AW d mX9_qGoesOn 247 [some (.inr (.inr 42)), some (.inl l1)] [] σ Q := AW.blk kX9_qGoesOn_247 cX9_qGoesOn_247 (⟨(h).1, vio_ok ⟨((h).2).1, ⟨(((h).2).2).1, ⟨fun c101 => AW.blk kX9_qGoesOn_279 cX9_qGoesOn_279 (⟨(((((h).2).2).2).1 c101).1, vdr_ok ⟨((((((h).2).2).2).1 c101).2).1, (((((((h).2).2).2).1 c101).2).2) _ rfl⟩⟩), fun c101 => ⟨(((((h).2).2).2).2 c101).1, vio_ok ⟨((((((h).2).2).2).2 c101).2).1, ⟨(((((((h).2).2).2).2 c101).2).2).1, ⟨fun c100 => AW.blk kX9_qGoesOn_279 cX9_qGoesOn_279 (⟨(((((((((h).2).2).2).2 c101).2).2).2).1 c100).1, vdr_ok ⟨((((((((((h).2).2).2).2 c101).2).2).2).1 c100).2).1, (((((((((((h).2).2).2).2 c101).2).2).2).1 c100).2).2) _ rfl⟩⟩), fun c100 => ⟨(((((((((h).2).2).2).2 c101).2).2).2).2 c100).1, vio_ok ⟨((((((((((h).2).2).2).2 c101).2).2).2).2 c100).2).1, ⟨(((((((((((h).2).2).2).2 c101).2).2).2).2 c100).2).2).1, ⟨fun c99 => AW.blk kX9_qGoesOn_279 cX9_qGoesOn_279 (⟨(((((((((((((h).2).2).2).2 c101).2).2).2).2 c100).2).2).2).1 c99).1, vdr_ok ⟨((((((((((((((h).2).2).2).2 c101).2).2).2).2 c100).2).2).2).1 c99).2).1, (((((((((((((((h).2).2).2).2 c101).2).2).2).2 c100).2).2).2).1 c99).2).2) _ rfl⟩⟩), fun c99 => ⟨(((((((((((((h).2).2).2).2 c101).2).2).2).2 c100).2).2).2).2 c99).1, vio_ok ⟨((((((((((((((h).2).2).2).2 c101).2).2).2).2 c100).2).2).2).2 c99).2).1, ⟨(((((((((((((((h).2).2).2).2 c101).2).2).2).2 c100).2).2).2).2 c99).2).2).1, ⟨fun c98 => AW.blk kX9_qGoesOn_286 cX9_qGoesOn_286 (⟨⟨((((((((((((((((((h).2).2).2).2 c101).2).2).2).2 c100).2).2).2).2 c99).2).2).2).1 c98).1).1, ((((((((((((((((((h).2).2).2).2 c101).2).2).2).2 c100).2).2).2).2 c99).2).2).2).1 c98).1).2⟩, ⟨(by decide), (((((((((((((((((((h).2).2).2).2 c101).2).2).2).2 c100).2).2).2).2 c99).2).2).2).1 c98).2) _ rfl) _ rfl⟩⟩), fun c98 => ⟨(((((((((((((((((h).2).2).2).2 c101).2).2).2).2 c100).2).2).2).2 c99).2).2).2).2 c98).1, vdr_ok ⟨((((((((((((((((((h).2).2).2).2 c101).2).2).2).2 c100).2).2).2).2 c99).2).2).2).2 c98).2).1, (((((((((((((((((((h).2).2).2).2 c101).2).2).2).2 c100).2).2).2).2 c99).2).2).2).2 c98).2).2) _ rfl⟩⟩⟩⟩⟩⟩⟩⟩⟩⟩⟩⟩⟩⟩⟩⟩⟩⟩)
def kX9_qGoesOn_308 : List BI := [bi (.aload_n 0) 1 [] 0, bi (.invokevirtual 512) 3 [mX9_qBracket, 1, 2, 9] 0]
theorem cX9_qGoesOn_308 : chk mX9_qGoesOn 308 kX9_qGoesOn_308 = true := by decide +kernel
def kX9_qGoesOn_222 : List BI := [bi (.ifCond .eq (86)) 3 [308] 0, bi (.aload_n 0) 1 [] 0, bi (.getfield 7) 3 [9, 0] 0, bi (.aload_n 0) 1 [] 0, bi (.getfield 196) 3 [9, 2] 0, bi (.iconst 1) 1 [] 0, bi (.isub) 1 [] 0, bi (.iaload) 1 [] 0, bi (.bipush (43)) 2 [] 0, bi (.if_icmp .ne (7)) 3 [245] 0, bi (.iconst 1) 1 [] 0, bi (.goto (4)) 3 [246] 0]
theorem cX9_qGoesOn_222 : chk mX9_qGoesOn 222 kX9_qGoesOn_222 = true := by decide +kernel
theorem vG_222 {d : Nat} {σ : SG} {Q : Option AV → SG → Prop} {s0 : Int} (h : (r3 s0) ∧ (s0 = 0 → (0 < d) ∧ AW (d - 1) mX9_qBracket 0 [some (.inr (.inr 42)), none] [] σ (fun rr σ' => AW d mX9_qGoesOn 312 [some (.inr (.inr 42)), none] (rtS rr []) σ' Q)) ∧ (s0 ≠ 0 → (0 ≤ ((σ 42 2) - 1) ∧ ((σ 42 2) - 1) < 1600) ∧ (r3 (σ 43 ((σ 42 2) - 1))) ∧ ((σ 43 ((σ 42 2) - 1)) ≠ 43 → AW d mX9_qGoesOn 247 [some (.inr (.inr 42)), some (.inl 2)] [] σ Q) ∧ ((σ 43 ((σ 42 2) - 1)) = 43 → AW d mX9_qGoesOn 247 [some (.inr (.inr 42)), some (.inl 1)] [] σ Q))) : AW d mX9_qGoesOn 222 [some (.inr (.inr 42)), none] [.inl s0] σ Q := AW.blk kX9_qGoesOn_222 cX9_qGoesOn_222 (⟨(h).1, ⟨fun c103 => AW.blk kX9_qGoesOn_308 cX9_qGoesOn_308 (⟨(((h).2).1 c103).1, (((h).2).1 c103).2⟩), fun c103 => ⟨⟨((((h).2).2 c103).1).1, ((((h).2).2 c103).1).2⟩, ⟨⟨((((h).2).2 c103).2).1, (by decide)⟩, ⟨fun c102 => AW.blk kX9_qGoesOn_245 cX9_qGoesOn_245 ((((((h).2).2 c103).2).2).1 c102), fun c102 => AW.blk kX9_qGoesOn_246 cX9_qGoesOn_246 ((((((h).2).2 c103).2).2).2 c102)⟩⟩⟩⟩⟩)
def kX9_qGoesOn_119 : List BI := [bi (.goto (-119)) 3 [0] 0]
theorem cX9_qGoesOn_119 : chk mX9_qGoesOn 119 kX9_qGoesOn_119 = true := by decide +kernel
theorem vG_119 {d : Nat} {σ : SG} {Q : Option AV → SG → Prop} (h : AW d mX9_qGoesOn 0 [some (.inr (.inr 42)), none] [] σ Q) : AW d mX9_qGoesOn 119 [some (.inr (.inr 42)), none] [] σ Q := AW.blk kX9_qGoesOn_119 cX9_qGoesOn_119 (h)
def kX9_qGoesOn_38 : List BI := [bi (.bipush (24)) 2 [] 0, bi (.if_icmp .ne (82)) 3 [122] 0, bi (.aload_n 0) 1 [] 0, bi (.dup) 1 [] 0, bi (.getfield 196) 3 [9, 2] 0, bi (.iconst 1) 1 [] 0, bi (.iadd) 1 [] 0, bi (.putfield 196) 3 [9, 2] 0, bi (.aload_n 0) 1 [] 0, bi (.invokevirtual 515) 3 [mX9_qDropsToBracket, 1, 1, 9] 0]
theorem cX9_qGoesOn_38 : chk mX9_qGoesOn 38 kX9_qGoesOn_38 = true := by decide +kernel
theorem vG_38 {d : Nat} {σ : SG} {Q : Option AV → SG → Prop} {s0 : Int} (h : (r3 s0) ∧ (s0 ≠ 24 → (0 < d) ∧ AW (d - 1) mX9_takesSign 0 [some (.inr (.inr 42)), some (.inl 42)] [] σ (fun rr σ' => AW d mX9_qGoesOn 128 [some (.inr (.inr 42)), none] (rtS rr []) σ' Q)) ∧ (s0 = 24 → (∀ S104 : SG, S104 = up σ 42 2 ((σ 42 2) + 1) → (0 < d) ∧ AW (d - 1) mX9_qDropsToBracket 0 [some (.inr (.inr 42))] [] S104 (fun rr σ' => AW d mX9_qGoesOn 57 [some (.inr (.inr 42)), none] (rtS rr []) σ' Q)))) : AW d mX9_qGoesOn 38 [some (.inr (.inr 42)), none] [.inl s0] σ Q := AW.blk kX9_qGoesOn_38 cX9_qGoesOn_38 (⟨⟨(h).1, (by decide)⟩, ⟨fun c105 => AW.blk kX9_qGoesOn_122 cX9_qGoesOn_122 (⟨(((h).2).1 c105).1, (((h).2).1 c105).2⟩), fun c105 => ⟨((((h).2).2 c105) _ rfl).1, ((((h).2).2 c105) _ rfl).2⟩⟩⟩)
def kX9_qGoesOn_326 : List BI := [bi (.aload_n 0) 1 [] 0, bi (.bipush (44)) 2 [] 0, bi (.invokevirtual 300) 3 [mX9_asksSign, 2, 2, 9] 0]
theorem cX9_qGoesOn_326 : chk mX9_qGoesOn 326 kX9_qGoesOn_326 = true := by decide +kernel
def kX9_qGoesOn_312 : List BI := [bi (.bipush (21)) 2 [] 0, bi (.if_icmp .eq (12)) 3 [326] 0, bi (.aload_n 0) 1 [] 0, bi (.invokevirtual 512) 3 [mX9_qBracket, 1, 2, 9] 0]
theorem cX9_qGoesOn_312 : chk mX9_qGoesOn 312 kX9_qGoesOn_312 = true := by decide +kernel
theorem vG_312 {d : Nat} {σ : SG} {Q : Option AV → SG → Prop} {s0 : Int} (h : (r3 s0) ∧ (s0 = 21 → (0 < d) ∧ AW (d - 1) mX9_asksSign 0 [some (.inr (.inr 42)), some (.inl 44)] [] σ (fun rr σ' => AW d mX9_qGoesOn 332 [some (.inr (.inr 42)), none] (rtS rr []) σ' Q)) ∧ (s0 ≠ 21 → (0 < d) ∧ AW (d - 1) mX9_qBracket 0 [some (.inr (.inr 42)), none] [] σ (fun rr σ' => AW d mX9_qGoesOn 321 [some (.inr (.inr 42)), none] (rtS rr []) σ' Q))) : AW d mX9_qGoesOn 312 [some (.inr (.inr 42)), none] [.inl s0] σ Q := AW.blk kX9_qGoesOn_312 cX9_qGoesOn_312 (⟨⟨(h).1, (by decide)⟩, ⟨fun c106 => AW.blk kX9_qGoesOn_326 cX9_qGoesOn_326 (⟨(((h).2).1 c106).1, (((h).2).1 c106).2⟩), fun c106 => ⟨(((h).2).2 c106).1, (((h).2).2 c106).2⟩⟩⟩)
def kX9_qGoesOn_341 : List BI := [bi (.aload_n 0) 1 [] 0, bi (.invokevirtual 515) 3 [mX9_qDropsToBracket, 1, 1, 9] 0]
theorem cX9_qGoesOn_341 : chk mX9_qGoesOn 341 kX9_qGoesOn_341 = true := by decide +kernel
def kX9_qGoesOn_332 : List BI := [bi (.aload_n 0) 1 [] 0, bi (.getfield 190) 3 [9, 5] 0, bi (.ifCond .eq (5)) 3 [341] 0, bi (.iconst 0) 1 [] 0, bi (.ireturn) 1 [1] 0]
theorem cX9_qGoesOn_332 : chk mX9_qGoesOn 332 kX9_qGoesOn_332 = true := by decide +kernel
theorem vG_332 {d : Nat} {σ : SG} {Q : Option AV → SG → Prop} (h : (r3 (σ 42 5)) ∧ ((σ 42 5) = 0 → (0 < d) ∧ AW (d - 1) mX9_qDropsToBracket 0 [some (.inr (.inr 42))] [] σ (fun rr σ' => AW d mX9_qGoesOn 345 [some (.inr (.inr 42)), none] (rtS rr []) σ' Q)) ∧ ((σ 42 5) ≠ 0 → Q (some (.inl 0)) σ)) : AW d mX9_qGoesOn 332 [some (.inr (.inr 42)), none] [] σ Q := AW.blk kX9_qGoesOn_332 cX9_qGoesOn_332 (⟨(h).1, ⟨fun c107 => AW.blk kX9_qGoesOn_341 cX9_qGoesOn_341 (⟨(((h).2).1 c107).1, (((h).2).1 c107).2⟩), fun c107 => ⟨(by decide), ((h).2).2 c107⟩⟩⟩)
def kX9_qGoesOn_362 : List BI := [bi (.aload_n 0) 1 [] 0, bi (.invokevirtual 512) 3 [mX9_qBracket, 1, 2, 9] 0]
theorem cX9_qGoesOn_362 : chk mX9_qGoesOn 362 kX9_qGoesOn_362 = true := by decide +kernel
def kX9_qGoesOn_321 : List BI := [bi (.bipush (22)) 2 [] 0, bi (.if_icmp .ne (39)) 3 [362] 0, bi (.aload_n 0) 1 [] 0, bi (.bipush (44)) 2 [] 0, bi (.invokevirtual 300) 3 [mX9_asksSign, 2, 2, 9] 0]
theorem cX9_qGoesOn_321 : chk mX9_qGoesOn 321 kX9_qGoesOn_321 = true := by decide +kernel
theorem vG_321 {d : Nat} {σ : SG} {Q : Option AV → SG → Prop} {s0 : Int} (h : (r3 s0) ∧ (s0 ≠ 22 → (0 < d) ∧ AW (d - 1) mX9_qBracket 0 [some (.inr (.inr 42)), none] [] σ (fun rr σ' => AW d mX9_qGoesOn 366 [some (.inr (.inr 42)), none] (rtS rr []) σ' Q)) ∧ (s0 = 22 → (0 < d) ∧ AW (d - 1) mX9_asksSign 0 [some (.inr (.inr 42)), some (.inl 44)] [] σ (fun rr σ' => AW d mX9_qGoesOn 332 [some (.inr (.inr 42)), none] (rtS rr []) σ' Q))) : AW d mX9_qGoesOn 321 [some (.inr (.inr 42)), none] [.inl s0] σ Q := AW.blk kX9_qGoesOn_321 cX9_qGoesOn_321 (⟨⟨(h).1, (by decide)⟩, ⟨fun c108 => AW.blk kX9_qGoesOn_362 cX9_qGoesOn_362 (⟨(((h).2).1 c108).1, (((h).2).1 c108).2⟩), fun c108 => ⟨(((h).2).2 c108).1, (((h).2).2 c108).2⟩⟩⟩)
def kX9_qGoesOn_345 : List BI := [bi (.aload_n 0) 1 [] 0, bi (.getfield 178) 3 [9, 72] 0, bi (.aload_n 0) 1 [] 0, bi (.getfield 482) 3 [9, 73] 0, bi (.iconst 1) 1 [] 0, bi (.isub) 1 [] 0, bi (.dup2) 1 [] 0, bi (.iaload) 1 [] 0, bi (.iconst 2) 1 [] 0, bi (.iadd) 1 [] 0, bi (.iastore) 1 [] 0, bi (.iconst 1) 1 [] 0, bi (.ireturn) 1 [1] 0]
theorem cX9_qGoesOn_345 : chk mX9_qGoesOn 345 kX9_qGoesOn_345 = true := by decide +kernel
theorem vG_345 {d : Nat} {σ : SG} {Q : Option AV → SG → Prop} (h : (0 ≤ ((σ 42 73) - 1) ∧ ((σ 42 73) - 1) < 1700) ∧ (0 ≤ ((σ 42 73) - 1) ∧ ((σ 42 73) - 1) < 1700) ∧ (∀ S109 : SG, S109 = up σ 97 ((σ 42 73) - 1) ((σ 97 ((σ 42 73) - 1)) + 2) → Q (some (.inl 1)) S109)) : AW d mX9_qGoesOn 345 [some (.inr (.inr 42)), none] [] σ Q := AW.blk kX9_qGoesOn_345 cX9_qGoesOn_345 (⟨⟨((h).1).1, ((h).1).2⟩, ⟨⟨(((h).2).1).1, (((h).2).1).2⟩, ⟨(by decide), (((h).2).2) _ rfl⟩⟩⟩)
def kX9_qGoesOn_386 : List BI := [bi (.iconst 0) 1 [] 0, bi (.ireturn) 1 [1] 0]
theorem cX9_qGoesOn_386 : chk mX9_qGoesOn 386 kX9_qGoesOn_386 = true := by decide +kernel
def kX9_qGoesOn_366 : List BI := [bi (.iconst (-1)) 1 [] 0, bi (.if_icmp .eq (19)) 3 [386] 0, bi (.aload_n 0) 1 [] 0, bi (.getfield 190) 3 [9, 5] 0, bi (.ifCond .ne (12)) 3 [386] 0, bi (.aload_n 0) 1 [] 0, bi (.iconst 1) 1 [] 0, bi (.aload_n 0) 1 [] 0, bi (.getfield 196) 3 [9, 2] 0, bi (.invokevirtual 220) 3 [mX9_fail, 3, 3, 9] 0, bi (.iconst 0) 1 [] 0, bi (.ireturn) 1 [1] 0]
theorem cX9_qGoesOn_366 : chk mX9_qGoesOn 366 kX9_qGoesOn_366 = true := by decide +kernel
theorem vG_366 {d : Nat} {σ : SG} {Q : Option AV → SG → Prop} {s0 : Int} (h : (r3 s0) ∧ (s0 = (-1) → Q (some (.inl 0)) σ) ∧ (s0 ≠ (-1) → (r3 (σ 42 5)) ∧ ((σ 42 5) ≠ 0 → Q (some (.inl 0)) σ) ∧ ((σ 42 5) = 0 → (0 < d) ∧ (r3 (σ 42 5)) ∧ ((σ 42 5) = 0 → (∀ S110 : SG, S110 = up σ 42 5 1 → (∀ S111 : SG, S111 = up S110 42 6 (σ 42 2) → Q (some (.inl 0)) S111))) ∧ ((σ 42 5) ≠ 0 → Q (some (.inl 0)) σ)))) : AW d mX9_qGoesOn 366 [some (.inr (.inr 42)), none] [.inl s0] σ Q := AW.blk kX9_qGoesOn_366 cX9_qGoesOn_366 (⟨⟨(h).1, (by decide)⟩, ⟨fun c114 => AW.blk kX9_qGoesOn_386 cX9_qGoesOn_386 (⟨(by decide), ((h).2).1 c114⟩), fun c114 => ⟨(((h).2).2 c114).1, ⟨fun c113 => AW.blk kX9_qGoesOn_386 cX9_qGoesOn_386 (⟨(by decide), ((((h).2).2 c114).2).1 c113⟩), fun c113 => ⟨(((((h).2).2 c114).2).2 c113).1, AW.blk kX9_fail_0 cX9_fail_0 (⟨((((((h).2).2 c114).2).2 c113).2).1, ⟨fun c112 => AW.blk kX9_fail_8 cX9_fail_8 (⟨(by decide), (((((((((h).2).2 c114).2).2 c113).2).2).1 c112) _ rfl) _ rfl⟩), fun c112 => ⟨(by decide), (((((((h).2).2 c114).2).2 c113).2).2).2 c112⟩⟩⟩)⟩⟩⟩⟩⟩)
def kX9_qSums_0 : List BI := [bi (.aload_n 0) 1 [] 0, bi (.getfield 488) 3 [9, 75] 0, bi (.istore_n 1) 1 [] 0, bi (.aload_n 0) 1 [] 0, bi (.aload_n 0) 1 [] 0, bi (.getfield 482) 3 [9, 73] 0, bi (.putfield 488) 3 [9, 75] 0, bi (.iconst 1) 1 [] 0, bi (.istore_n 2) 1 [] 0]
theorem cX9_qSums_0 : chk mX9_qSums 0 kX9_qSums_0 = true := by decide +kernel
theorem vS_0 {d : Nat} {σ : SG} {Q : Option AV → SG → Prop} (h : (∀ S115 : SG, S115 = up σ 42 75 (σ 42 73) → AW d mX9_qSums 15 [some (.inr (.inr 42)), some (.inl (σ 42 75)), some (.inl 1)] [] S115 Q)) : AW d mX9_qSums 0 [some (.inr (.inr 42)), none, none] [] σ Q := AW.blk kX9_qSums_0 cX9_qSums_0 ((h) _ rfl)
def kX9_qSums_15 : List BI := [bi (.iload_n 2) 1 [] 0, bi (.ifCond .eq (37)) 3 [53] 0, bi (.aload_n 0) 1 [] 0, bi (.getfield 190) 3 [9, 5] 0, bi (.ifCond .ne (30)) 3 [53] 0, bi (.aload_n 0) 1 [] 0, bi (.invokevirtual 521) 3 [mX9_qPartTold, 1, 6, 9] 0]
theorem cX9_qSums_15 : chk mX9_qSums 15 kX9_qSums_15 = true := by decide +kernel
theorem vS_15 {d : Nat} {σ : SG} {Q : Option AV → SG → Prop} {l1 l2 : Int} (h : (r3 l2) ∧ (l2 = 0 → AW d mX9_qSums 53 [some (.inr (.inr 42)), some (.inl l1), none] [] σ Q) ∧ (l2 ≠ 0 → (r3 (σ 42 5)) ∧ ((σ 42 5) ≠ 0 → AW d mX9_qSums 53 [some (.inr (.inr 42)), some (.inl l1), none] [] σ Q) ∧ ((σ 42 5) = 0 → (0 < d) ∧ AW (d - 1) mX9_qPartTold 0 [some (.inr (.inr 42)), none, none, none, none, none] [] σ (fun rr σ' => AW d mX9_qSums 30 [some (.inr (.inr 42)), some (.inl l1), some (.inl l2)] (rtS rr []) σ' Q)))) : AW d mX9_qSums 15 [some (.inr (.inr 42)), some (.inl l1), some (.inl l2)] [] σ Q := AW.blk kX9_qSums_15 cX9_qSums_15 (⟨(h).1, ⟨fun c117 => AW.drop 2 (((h).2).1 c117), fun c117 => ⟨(((h).2).2 c117).1, ⟨fun c116 => AW.drop 2 (((((h).2).2 c117).2).1 c116), fun c116 => ⟨(((((h).2).2 c117).2).2 c116).1, (((((h).2).2 c117).2).2 c116).2⟩⟩⟩⟩⟩)
def kX9_qSums_78 : List BI := [bi (.aload_n 0) 1 [] 0, bi (.iload_n 1) 1 [] 0, bi (.putfield 488) 3 [9, 75] 0, bi (.return_) 1 [] 0]
theorem cX9_qSums_78 : chk mX9_qSums 78 kX9_qSums_78 = true := by decide +kernel
def kX9_qSums_53 : List BI := [bi (.aload_n 0) 1 [] 0, bi (.getfield 190) 3 [9, 5] 0, bi (.ifCond .ne (21)) 3 [78] 0, bi (.aload_n 0) 1 [] 0, bi (.getfield 482) 3 [9, 73] 0, bi (.aload_n 0) 1 [] 0, bi (.getfield 488) 3 [9, 75] 0, bi (.if_icmp .le (10)) 3 [78] 0, bi (.aload_n 0) 1 [] 0, bi (.invokevirtual 494) 3 [mX9_qDrops, 1, 1, 9] 0, bi (.goto (-22)) 3 [53] 0]
theorem cX9_qSums_53 : chk mX9_qSums 53 kX9_qSums_53 = true := by decide +kernel
theorem vS_53 {d : Nat} {σ : SG} {Q : Option AV → SG → Prop} {l1 : Int} (h : (r3 (σ 42 5)) ∧ ((σ 42 5) ≠ 0 → (∀ S118 : SG, S118 = up σ 42 75 l1 → Q none S118)) ∧ ((σ 42 5) = 0 → (r3 (σ 42 73) ∧ r3 (σ 42 75)) ∧ ((σ 42 73) ≤ (σ 42 75) → (∀ S119 : SG, S119 = up σ 42 75 l1 → Q none S119)) ∧ ((σ 42 75) < (σ 42 73) → (0 < d) ∧ (drO (d - 1) σ) ∧ (∀ S120 : SG, S120 = drS σ → AW d mX9_qSums 53 [some (.inr (.inr 42)), some (.inl l1), none] [] S120 Q)))) : AW d mX9_qSums 53 [some (.inr (.inr 42)), some (.inl l1), none] [] σ Q := AW.blk kX9_qSums_53 cX9_qSums_53 (⟨(h).1, ⟨fun c122 => AW.blk kX9_qSums_78 cX9_qSums_78 ((((h).2).1 c122) _ rfl), fun c122 => ⟨⟨((((h).2).2 c122).1).1, ((((h).2).2 c122).1).2⟩, ⟨fun c121 => AW.blk kX9_qSums_78 cX9_qSums_78 ((((((h).2).2 c122).2).1 c121) _ rfl), fun c121 => ⟨(((((h).2).2 c122).2).2 c121).1, vdr_ok ⟨((((((h).2).2 c122).2).2 c121).2).1, (((((((h).2).2 c122).2).2 c121).2).2) _ rfl⟩⟩⟩⟩⟩⟩)
def kX9_qSums_48 : List BI := [bi (.iconst 0) 1 [] 0, bi (.istore_n 2) 1 [] 0, bi (.goto (-35)) 3 [15] 0]
theorem cX9_qSums_48 : chk mX9_qSums 48 kX9_qSums_48 = true := by decide +kernel
def kX9_qSums_30 : List BI := [bi (.aload_n 0) 1 [] 0, bi (.getfield 190) 3 [9, 5] 0, bi (.ifCond .ne (14)) 3 [48] 0, bi (.aload_n 0) 1 [] 0, bi (.invokevirtual 524) 3 [mX9_qGoesOn, 1, 2, 9] 0]
theorem cX9_qSums_30 : chk mX9_qSums 30 kX9_qSums_30 = true := by decide +kernel
theorem vS_30 {d : Nat} {σ : SG} {Q : Option AV → SG → Prop} {l1 l2 : Int} (h : (r3 (σ 42 5)) ∧ ((σ 42 5) ≠ 0 → AW d mX9_qSums 15 [some (.inr (.inr 42)), some (.inl l1), some (.inl 0)] [] σ Q) ∧ ((σ 42 5) = 0 → (0 < d) ∧ AW (d - 1) mX9_qGoesOn 0 [some (.inr (.inr 42)), none] [] σ (fun rr σ' => AW d mX9_qSums 41 [some (.inr (.inr 42)), some (.inl l1), some (.inl l2)] (rtS rr []) σ' Q))) : AW d mX9_qSums 30 [some (.inr (.inr 42)), some (.inl l1), some (.inl l2)] [] σ Q := AW.blk kX9_qSums_30 cX9_qSums_30 (⟨(h).1, ⟨fun c123 => AW.blk kX9_qSums_48 cX9_qSums_48 (((h).2).1 c123), fun c123 => ⟨(((h).2).2 c123).1, (((h).2).2 c123).2⟩⟩⟩)
def kX9_qSums_49 : List BI := [bi (.istore_n 2) 1 [] 0, bi (.goto (-35)) 3 [15] 0]
theorem cX9_qSums_49 : chk mX9_qSums 49 kX9_qSums_49 = true := by decide +kernel
def kX9_qSums_41 : List BI := [bi (.ifCond .eq (7)) 3 [48] 0, bi (.iconst 1) 1 [] 0, bi (.goto (4)) 3 [49] 0]
theorem cX9_qSums_41 : chk mX9_qSums 41 kX9_qSums_41 = true := by decide +kernel
theorem vS_41 {d : Nat} {σ : SG} {Q : Option AV → SG → Prop} {l1 l2 s0 : Int} (h : (r3 s0) ∧ (s0 = 0 → AW d mX9_qSums 15 [some (.inr (.inr 42)), some (.inl l1), some (.inl 0)] [] σ Q) ∧ (s0 ≠ 0 → AW d mX9_qSums 15 [some (.inr (.inr 42)), some (.inl l1), some (.inl 1)] [] σ Q)) : AW d mX9_qSums 41 [some (.inr (.inr 42)), some (.inl l1), some (.inl l2)] [.inl s0] σ Q := AW.blk kX9_qSums_41 cX9_qSums_41 (⟨(h).1, ⟨fun c124 => AW.blk kX9_qSums_48 cX9_qSums_48 (((h).2).1 c124), fun c124 => AW.blk kX9_qSums_49 cX9_qSums_49 (((h).2).2 c124)⟩⟩)
/-! the reference's rows of codes and of what waits (what came last first) -/
def WSt (f : Int → Int) : List Int → Prop
  | [] => True
  | x :: s => f (s.length : Int) = x ∧ (0 ≤ x ∧ x ≤ 100) ∧ WSt f s
def RQs (C s : List Int) (op : Int) (bs : Nat) (σ : SG) : Prop := (σ 42 71 = (C.length : Int) ∧ ∀ i : Nat, i < C.length → σ 96 (i : Int) = C.getD i 0) ∧ (σ 42 73 = (s.length : Int) ∧ WSt (σ 97) s) ∧ σ 42 74 = op ∧ σ 42 75 = (bs : Int) ∧ C.length + s.length ≤ 1600
def MQf (σ σ' : SG) : Prop := (∀ p, p ≠ 42 → p ≠ 96 → p ≠ 97 → σ' p = σ p) ∧ (∀ i, (i < 2 ∨ i = 3 ∨ i = 7 ∨ i = 8 ∨ i = 9 ∨ (10 < i ∧ i < 27) ∨ (27 < i ∧ i < 71) ∨ i = 72 ∨ 75 < i) → σ' 42 i = σ 42 i) ∧ (σ' 42 71 = σ 42 71 ∨ (0 ≤ σ' 42 71 ∧ σ' 42 71 ≤ 1650))
theorem MQf.rf (σ : SG) : MQf σ σ := ⟨fun _ _ _ _ => rfl, fun _ _ => rfl, Or.inl rfl⟩
theorem MQf.tr {σ σ' σ'' : SG} (h : MQf σ σ') (k : MQf σ' σ'') : MQf σ σ'' := ⟨fun p a b c => (k.1 p a b c).trans (h.1 p a b c), fun i a => (k.2.1 i a).trans (h.2.1 i a), by have := k.2.2; have := h.2.2; omega⟩
theorem MQf.of {σ σ' : SG} (h : MFr σ σ') : MQf σ σ' := ⟨fun p a _ _ => h.1 p a, fun i a => h.2 i (by omega) (by omega) (by omega) (by omega) (by omega) (by omega), Or.inl (h.2 71 (by decide) (by decide) (by decide) (by decide) (by decide) (by decide))⟩
theorem mqf_up {σ : SG} {i v : Int} (hi : i = 2 ∨ i = 4 ∨ i = 5 ∨ i = 6 ∨ i = 73 ∨ i = 74 ∨ i = 75) : MQf σ (up σ 42 i v) := ⟨fun p a _ _ => up_pf a, fun j hj => up_i (by omega), Or.inl (up_i (by omega))⟩
theorem mqf_97 {σ : SG} {p : Nat} {i v : Int} (hp : p = 96 ∨ p = 97) : MQf σ (up σ p i v) := ⟨fun q a b c => up_pf (by omega), fun j _ => up_p (by omega), Or.inl (up_p (by omega))⟩
theorem RTp.p6 {o : Int → Int} {L : Int} {X : PXv} {σ σ' : SG} (h : RTp o L X σ) (e42 : ∀ i, 2 ≤ i → i ≤ 6 → σ' 42 i = σ 42 i) (e : ∀ p, p ≠ 42 → p ≠ 96 → p ≠ 97 → σ' p = σ p) : RTp o L X σ' := by
  obtain ⟨⟨a, b, c, f, g⟩, h2⟩ := h
  refine ⟨⟨fun i x y => by rw [e 43 (by decide) (by decide) (by decide)]; exact a i x y, by rw [e42 3 (by decide) (by decide)]; exact b, c, f, g.cong (fun p hp => e p (by unfold WP at hp; omega) (by unfold WP at hp; omega) (by unfold WP at hp; omega))⟩, ?_⟩
  rcases X with z | z
  · show σ' 42 5 = _ ∧ σ' 42 6 = _ ∧ _
    rw [e42 5 (by decide) (by decide), e42 6 (by decide) (by decide)]
    exact h2
  · show (σ' 42 5 = 0 ∧ σ' 42 6 = -1) ∧ (z.2.1 ≤ σ' 42 2 ∧ σ' 42 2 ≤ L ∧ sk o L (σ' 42 2) = sk o L z.2.1) ∧ 0 ≤ z.2.1 ∧ (-1 ≤ σ' 42 4 ∧ σ' 42 4 ≤ z.2.1) ∧ ∀ s, z.2.1 ≤ s → (s = σ' 42 4 ↔ s = z.2.2)
    rw [e42 5 (by decide) (by decide), e42 6 (by decide) (by decide), e42 2 (by decide) (by decide), e42 4 (by decide) (by decide)]
    exact h2
theorem WSt_cong {f g : Int → Int} : ∀ s : List Int, (∀ i, 0 ≤ i → i < (s.length : Int) → g i = f i) → WSt f s → WSt g s := by
  intro s
  induction s with
  | nil => intro _ _; trivial
  | cons x s ih =>
    intro h hf
    rw [List.length_cons] at h
    exact ⟨by rw [h _ (by omega) (by omega)]; exact hf.1, hf.2.1, ih (fun i a b => h i a (by omega)) hf.2.2⟩
theorem RQs.mf {C s : List Int} {op : Int} {bs : Nat} {σ σ' : SG} (h : RQs C s op bs σ) (k : MFr σ σ') : RQs C s op bs σ' := by
  unfold RQs
  rw [k.2 71 (by decide) (by decide) (by decide) (by decide) (by decide) (by decide), k.2 73 (by decide) (by decide) (by decide) (by decide) (by decide) (by decide), k.2 74 (by decide) (by decide) (by decide) (by decide) (by decide) (by decide), k.2 75 (by decide) (by decide) (by decide) (by decide) (by decide) (by decide), k.1 96 (by decide), k.1 97 (by decide)]
  exact h
theorem getD_app (C : List Int) (v : Int) {i : Nat} (hi : i < C.length) : (C ++ [v]).getD i 0 = C.getD i 0 := by
  rw [List.getD_eq_getElem?_getD, List.getD_eq_getElem?_getD, List.getElem?_append_left hi]
theorem getD_last (C : List Int) (v : Int) : (C ++ [v]).getD C.length 0 = v := by
  rw [List.getD_eq_getElem?_getD, List.getElem?_append_right (Nat.le_refl _), Nat.sub_self]
  rfl
theorem cdS_f (σ : SG) (v : Int) (hb : 0 ≤ σ 42 71 ∧ σ 42 71 ≤ 1600) : MQf σ (cdS σ v) ∧ (∀ i, 2 ≤ i → i ≤ 6 → cdS σ v 42 i = σ 42 i) ∧ (∀ p, p ≠ 42 → p ≠ 96 → p ≠ 97 → cdS σ v p = σ p) := by
  unfold cdS
  refine ⟨⟨fun p a b c => by rw [up_pf a, up_pf b], fun i a => by rw [up_i (by omega), up_p (by decide)], Or.inr ?_⟩, fun i a b => by rw [up_i (by omega), up_p (by decide)], fun p a b c => by rw [up_pf a, up_pf b]⟩
  rw [up_at]
  omega
theorem rq_cd {C s : List Int} {op v : Int} {bs : Nat} {σ : SG} (h : RQs C s op bs σ) (hb : C.length + 1 + s.length ≤ 1600) : RQs (C ++ [v]) s op bs (cdS σ v) ∧ MQf σ (cdS σ v) ∧ cdO σ ∧ ∀ {o : Int → Int} {L : Int} {X : PXv}, RTp o L X σ → RTp o L X (cdS σ v) := by
  obtain ⟨⟨a1, a2⟩, ⟨b1, b2⟩, c, e, f⟩ := h
  obtain ⟨f1, f2, f3⟩ := cdS_f σ v (by omega)
  refine ⟨⟨⟨?_, fun i hi => ?_⟩, ⟨?_, ?_⟩, ?_, ?_, ?_⟩, f1, by unfold cdO; omega, fun h => h.p6 f2 f3⟩
  · unfold cdS
    rw [up_at, a1, List.length_append, List.length_cons, List.length_nil]
    omega
  · rw [List.length_append, List.length_cons, List.length_nil] at hi
    unfold cdS
    rw [up_p (by decide), a1]
    by_cases z : i = C.length
    · rw [z, up_at, getD_last]
    · rw [up_i (by omega), getD_app C v (by omega)]
      exact a2 i (by omega)
  · unfold cdS
    rw [up_i (by decide), up_p (by decide)]
    exact b1
  · unfold cdS
    rw [up_pf (by decide), up_pf (by decide)]
    exact b2
  · unfold cdS
    rw [up_i (by decide), up_p (by decide)]
    exact c
  · unfold cdS
    rw [up_i (by decide), up_p (by decide)]
    exact e
  · rw [List.length_append, List.length_cons, List.length_nil]
    omega
theorem rq_pop {C s : List Int} {op x : Int} {bs : Nat} {σ : SG} (h : RQs C (x :: s) op bs σ) : RQs C s op bs (up σ 42 73 (σ 42 73 - 1)) ∧ σ 97 (σ 42 73 - 1) = x ∧ (0 ≤ x ∧ x ≤ 100) ∧ σ 42 73 - 1 = (s.length : Int) := by
  obtain ⟨⟨a1, a2⟩, ⟨b1, b2⟩, c, e, f⟩ := h
  rw [List.length_cons] at b1 f
  have hs : σ 42 73 - 1 = (s.length : Int) := by omega
  refine ⟨⟨⟨?_, fun i hi => ?_⟩, ⟨?_, ?_⟩, ?_, ?_, by omega⟩, by rw [hs]; exact b2.1, b2.2.1, hs⟩
  · rw [up_i (by decide)]
    exact a1
  · rw [up_p (by decide)]
    exact a2 i hi
  · rw [up_at]
    exact hs
  · rw [up_pf (by decide)]
    exact b2.2.2
  · rw [up_i (by decide)]
    exact c
  · rw [up_i (by decide)]
    exact e
theorem rq_dr {C s : List Int} {op x : Int} {bs : Nat} {σ : SG} (h : RQs C (x :: s) op bs σ) : RQs (C ++ [x]) s op bs (drS σ) ∧ MQf σ (drS σ) ∧ (∀ d, 0 < d → drO d σ) ∧ ∀ {o : Int → Int} {L : Int} {X : PXv}, RTp o L X σ → RTp o L X (drS σ) := by
  obtain ⟨p1, p2, p3, p4⟩ := rq_pop h
  have hb := h.2.2.2.2
  rw [List.length_cons] at hb
  have h71 := h.1.1
  have h73 := h.2.1.1
  rw [List.length_cons] at h73
  obtain ⟨q1, q2, q3, q4⟩ := rq_cd (v := x) p1 (by omega)
  unfold drS
  rw [p2]
  refine ⟨q1, (mqf_up (by omega)).tr q2, fun d hd => ⟨hd, by omega, by omega⟩, fun h => q4 (h.p6 (fun i a b => up_i (by omega)) (fun p a b c => up_pf a))⟩
theorem rq_push {C s : List Int} {op x : Int} {bs : Nat} {σ : SG} (h : RQs C s op bs σ) (hx : 0 ≤ x ∧ x ≤ 100) (hb : C.length + (s.length + 1) ≤ 1600) : RQs C (x :: s) op bs (up (up σ 97 (σ 42 73) x) 42 73 (up σ 97 (σ 42 73) x 42 73 + 1)) ∧ MQf σ (up (up σ 97 (σ 42 73) x) 42 73 (up σ 97 (σ 42 73) x 42 73 + 1)) ∧ ∀ {o : Int → Int} {L : Int} {X : PXv}, RTp o L X σ → RTp o L X (up (up σ 97 (σ 42 73) x) 42 73 (up σ 97 (σ 42 73) x 42 73 + 1)) := by
  obtain ⟨⟨a1, a2⟩, ⟨b1, b2⟩, c, e, f⟩ := h
  refine ⟨⟨⟨?_, fun i hi => ?_⟩, ⟨?_, ?_⟩, ?_, ?_, ?_⟩, (mqf_97 (Or.inr rfl)).tr (mqf_up (by omega)), fun h => h.p6 (fun i a b => by rw [up_i (by omega), up_p (by decide)]) (fun p a b c => by rw [up_pf a, up_pf c])⟩
  · rw [up_i (by decide), up_p (by decide)]
    exact a1
  · rw [up_p (by decide), up_p (by decide)]
    exact a2 i hi
  · rw [up_at, up_p (by decide), b1, List.length_cons]
    omega
  · rw [up_pf (by decide), b1]
    refine ⟨up_at .., hx, WSt_cong s (fun i i0 i1 => ?_) b2⟩
    rw [up_i (by omega)]
  · rw [up_i (by decide), up_p (by decide)]
    exact c
  · rw [up_i (by decide), up_p (by decide)]
    exact e
  · rw [List.length_cons]
    omega
theorem rq_ion {C s : List Int} {op w : Int} {bs : Nat} {σ : SG} (h : RQs C s op bs σ) (hw : r3 w) : ionO σ w ∧ r3 (ionV σ w) ∧ (ionV σ w ≠ 0 ↔ s.head? = some w) := by
  obtain ⟨_, ⟨b1, b2⟩, _, _, f⟩ := h
  have h01 : r3 (ionV σ w) := by
    unfold ionV
    split <;> decide
  cases s with
  | nil =>
    rw [List.length_nil] at b1
    refine ⟨⟨by omega, hw, fun z => by omega⟩, h01, ?_⟩
    unfold ionV
    rw [if_neg (by omega)]
    exact ⟨fun z => absurd rfl z, fun z => by cases z⟩
  | cons x s =>
    rw [List.length_cons] at b1 f
    have hs : σ 42 73 - 1 = (s.length : Int) := by omega
    have hx : σ 97 (σ 42 73 - 1) = x := by rw [hs]; exact b2.1
    have hr := b2.2.1
    refine ⟨⟨by omega, hw, fun z => ⟨by omega, by rw [hx]; omega⟩⟩, h01, ?_⟩
    unfold ionV
    rw [hx]
    by_cases c : x = w
    · rw [if_pos ⟨by omega, c⟩, c]
      exact ⟨fun _ => rfl, fun _ => by decide⟩
    · rw [if_neg (fun z => c z.2)]
      exact ⟨fun z => absurd rfl z, fun z => absurd (Option.some.inj z) c⟩
/-- the bracket in which the sum at hand stands -/
def brF (bs : Nat) : List Int → Int
  | [] => -1
  | x :: s => if s.length < bs then -1 else if 20 ≤ x ∧ x ≤ 24 then x else brF bs s
theorem mbr {d : Nat} {C s : List Int} {op : Int} {bs : Nat} {σ : SG} {Q : Option AV → SG → Prop} (hd : 1 ≤ d) (h : RQs C s op bs σ) (hbs : bs ≤ 1600) (hq : Q (some (.inl (brF bs s))) σ) : AW d mX9_qBracket 0 [some (.inr (.inr 42)), none] [] σ Q := by
  obtain ⟨_, ⟨b1, b2⟩, _, e, f⟩ := h
  refine vB_0 ?_
  have key : ∀ t : List Int, WSt (σ 97) t → t.length ≤ 1600 → brF bs t = brF bs s → AW d mX9_qBracket 7 [some (.inr (.inr 42)), some (.inl ((t.length : Int) - 1))] [] σ Q := by
    intro t
    induction t with
    | nil =>
      intro _ _ ht
      rw [← ht] at hq
      refine vB_7 ?_
      rw [e, List.length_nil]
      exact ⟨by omega, fun _ => ⟨by omega, fun _ => hq, fun z => by omega⟩, fun z => by omega⟩
    | cons x t ih =>
      intro hw hl ht
      rw [List.length_cons] at hl
      have hx : σ 97 (t.length : Int) = x := hw.1
      have hr := hw.2.1
      refine vB_7 ?_
      rw [e, List.length_cons, show ((t.length + 1 : Nat) : Int) - 1 = (t.length : Int) by omega, hx, show (t.length : Int) + -1 = (t.length : Int) - 1 by omega]
      have eb : brF bs (x :: t) = if t.length < bs then -1 else if 20 ≤ x ∧ x ≤ 24 then x else brF bs t := rfl
      rw [eb] at ht
      refine ⟨by omega, fun c => ⟨by omega, fun _ => ?_, fun z => by omega⟩, fun c => ⟨by omega, by omega, by omega, fun c2 => ?_, fun c2 => ⟨by omega, fun c3 => ?_, fun c3 => ⟨by omega, fun z => by omega, fun _ => ⟨by omega, ?_⟩⟩⟩⟩⟩
      · rw [if_pos (by omega)] at ht
        rw [← ht] at hq
        exact hq
      · rw [if_neg (by omega), if_neg (by omega)] at ht
        exact ih hw.2.2 (by omega) ht
      · rw [if_neg (by omega), if_neg (by omega)] at ht
        exact ih hw.2.2 (by omega) ht
      · rw [if_neg (by omega), if_pos ⟨c2, c3⟩] at ht
        rw [← ht] at hq
        exact hq
  rw [b1]
  exact key s b2 (by omega) rfl
/-- operators that wait -/
def Ops (P : List Int) : Prop := ∀ x ∈ P, 1 ≤ x ∧ x ≤ 19
theorem brF_ops {bs : Nat} : ∀ (P K : List Int), Ops P → bs ≤ K.length → brF bs (P ++ K) = brF bs K := by
  intro P
  induction P with
  | nil => intro K _ _; rfl
  | cons x P ih =>
    intro K hP hK
    have hx := hP x (List.mem_cons_self ..)
    show (if (P ++ K).length < bs then -1 else if 20 ≤ x ∧ x ≤ 24 then x else brF bs (P ++ K)) = _
    rw [List.length_append, if_neg (by omega), if_neg (by omega)]
    exact ih K (fun y hy => hP y (List.mem_cons_of_mem _ hy)) hK
theorem brF_br {bs : Nat} {b : Int} {r : List Int} (hb : 20 ≤ b ∧ b ≤ 24) (hr : bs ≤ r.length) : brF bs (b :: r) = b := by
  show (if r.length < bs then -1 else if 20 ≤ b ∧ b ≤ 24 then b else brF bs r) = b
  rw [if_neg (by omega), if_pos hb]
theorem brF_base {bs : Nat} {B : List Int} (hB : B.length = bs) : brF bs B = -1 := by
  cases B with
  | nil => rfl
  | cons x r =>
    rw [List.length_cons] at hB
    show (if r.length < bs then -1 else _) = _
    rw [if_pos (by omega)]
/-- operators dropped down to a bracket, or to the base -/
theorem mdtb {d : Nat} {op : Int} {bs : Nat} {K : List Int} {Q : Option AV → SG → Prop} (hd : 3 ≤ d) (hbs : bs ≤ 1600) (hK : K.length = bs ∨ ∃ b r, K = b :: r ∧ (20 ≤ b ∧ b ≤ 24) ∧ bs ≤ r.length) : ∀ (P C : List Int) (σ : SG), Ops P → RQs C (P ++ K) op bs σ → (∀ σ', MQf σ σ' → RQs (C ++ P) K op bs σ' → (∀ {o : Int → Int} {L : Int} {X : PXv}, RTp o L X σ → RTp o L X σ') → Q none σ') → AW d mX9_qDropsToBracket 0 [some (.inr (.inr 42))] [] σ Q := by
  intro P
  induction P with
  | nil =>
    intro C σ _ h hq
    have hQ := hq σ (MQf.rf σ) (by rw [List.append_nil]; exact h) (fun z => z)
    obtain ⟨_, ⟨b1, b2⟩, _, e, f⟩ := h
    rw [List.nil_append] at b1 b2
    refine vD_0 ?_
    rw [b1, e]
    rcases hK with hK | ⟨b, r, hK, hb, hr⟩
    · exact ⟨by omega, fun _ => hQ, fun z => by omega⟩
    · rw [hK] at b2
      have hl : K.length = r.length + 1 := by rw [hK]; rfl
      have hx : σ 97 ((K.length : Int) - 1) = b := by rw [hl, show ((r.length + 1 : Nat) : Int) - 1 = (r.length : Int) by omega]; exact b2.1
      rw [hx]
      rw [List.nil_append] at f
      exact ⟨by omega, fun z => by omega, fun _ => ⟨by omega, by omega, by omega, fun z => by omega, fun _ => ⟨by omega, fun z => by omega, fun _ => hQ⟩⟩⟩
  | cons x P ih =>
    intro C σ hP h hq
    have hx := hP x (List.mem_cons_self ..)
    have h : RQs C (x :: (P ++ K)) op bs σ := h
    obtain ⟨q1, q2, q3, q4⟩ := rq_dr h
    obtain ⟨p1, p2, p3, p4⟩ := rq_pop h
    have hKl : bs ≤ K.length := by
      rcases hK with hK | ⟨b, r, hK, hb, hr⟩
      · omega
      · rw [hK, List.length_cons]
        omega
    have hf := h.2.2.2.2
    rw [List.length_cons, List.length_append] at hf
    rw [List.length_append] at p4
    refine vD_0 ?_
    rw [p2, h.2.2.2.1]
    refine ⟨by omega, fun z => by omega, fun _ => ⟨by omega, by omega, by omega, fun _ => ⟨by omega, q3 _ (by omega), fun S eS => ?_⟩, fun z => by omega⟩⟩
    rw [eS]
    refine ih (C ++ [x]) (drS σ) (fun y hy => hP y (List.mem_cons_of_mem _ hy)) q1 (fun σ' hM hR hT => hq σ' (q2.tr hM) ?_ (fun z => hT (q4 z)))
    rw [List.append_assoc] at hR
    exact hR
/-- what waits for a part is told -/
def EAs (G : List Int → List Int → Int → Prop) (bs : Nat) : List Int → List Int → Int → Prop
  | C, [], op => G C [] op
  | C, x :: s, op => if 60 ≤ x ∧ bs ≤ s.length then EAs G bs (C ++ [x]) s (op - 1) else G C (x :: s) op
theorem mends2 {d : Nat} {o : Int → Int} {L v p e : Int} {bs : Nat} {G : List Int → List Int → Int → Prop} {σ0 : SG} {Q : Option AV → SG → Prop} (hd : 3 ≤ d) (hbs : bs ≤ 1600) (hG : ∀ C s op, G C s op → ∀ σ, MQf σ0 σ → RTp o L (.inr (v, p, e)) σ → RQs C s op bs σ → Q none σ) : ∀ (s C : List Int) (op : Int) (σ : SG), EAs G bs C s op → MQf σ0 σ → RTp o L (.inr (v, p, e)) σ → RQs C s op bs σ → AW d mX9_qEndsPart 0 [some (.inr (.inr 42))] [] σ Q := by
  intro s
  induction s with
  | nil =>
    intro C op σ hE hM hR hq
    have hQ := hG C [] op hE σ hM hR hq
    have h5 := rt0 hR
    obtain ⟨_, ⟨b1, _⟩, _, e75, _⟩ := hq
    refine vE_0 ?_
    rw [b1, e75, List.length_nil]
    exact ⟨by omega, fun z => absurd h5 z, fun _ => ⟨by omega, fun _ => hQ, fun z => by omega⟩⟩
  | cons x s ih =>
    intro C op σ hE hM hR hq
    have h5 := rt0 hR
    have e74 := hq.2.2.1
    have e75 := hq.2.2.2.1
    have hf := hq.2.2.2.2
    rw [List.length_cons] at hf
    obtain ⟨p1, p2, p3, p4⟩ := rq_pop hq
    have hE : if 60 ≤ x ∧ bs ≤ s.length then EAs G bs (C ++ [x]) s (op - 1) else G C (x :: s) op := hE
    have fin : ¬ (60 ≤ x ∧ bs ≤ s.length) → Q none σ := by
      intro z
      rw [if_neg z] at hE
      exact hG C (x :: s) op hE σ hM hR hq
    refine vE_0 ?_
    rw [p2, e75]
    refine ⟨by omega, fun z => absurd h5 z, fun _ => ⟨by omega, fun c => fin (by omega), fun c => ⟨by omega, by omega, fun c2 => fin (by omega), fun c2 S1 e1 => ?_⟩⟩⟩
    rw [if_pos ⟨c2, by omega⟩] at hE
    have hq1 : RQs C (x :: s) (op - 1) bs S1 := by
      obtain ⟨⟨a1, a2⟩, ⟨b1, b2⟩, c', e', f'⟩ := hq
      refine ⟨⟨?_, fun i hi => ?_⟩, ⟨?_, ?_⟩, ?_, ?_, f'⟩
      · rw [e1, up_i (by decide)]
        exact a1
      · rw [e1, up_p (by decide)]
        exact a2 i hi
      · rw [e1, up_i (by decide)]
        exact b1
      · rw [e1, up_pf (by decide)]
        exact b2
      · rw [e1, up_at, c']
      · rw [e1, up_i (by decide)]
        exact e'
    have hR1 : RTp o L (.inr (v, p, e)) S1 := by rw [e1]; exact hR.p6 (fun i a b => up_i (by omega)) (fun p a b c => up_pf a)
    obtain ⟨q1, q2, q3, q4⟩ := rq_dr hq1
    refine ⟨by omega, q3 _ (by omega), fun S2 e2 => ?_⟩
    rw [e2]
    exact ih (C ++ [x]) (op - 1) (drS S1) hE ((hM.tr (by rw [e1]; exact mqf_up (by omega))).tr q2) (q4 hR1) q1
