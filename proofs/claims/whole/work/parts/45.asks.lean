/-! ===== calls that only ask (wip/whole/gen45.py) ===== -/
def kX8_fault_27 : List BI := [bi (.iconst (-1)) 1 [] 0, bi (.ireturn) 1 [] 0]
theorem cX8_fault_27 : chk mX8_fault 27 kX8_fault_27 = true := by decide +kernel
def kX8_fault_28 : List BI := [bi (.ireturn) 1 [] 0]
theorem cX8_fault_28 : chk mX8_fault 28 kX8_fault_28 = true := by decide +kernel
def kX8_fault_12 : List BI := [bi (.iload_n 1) 1 [] 0, bi (.iconst 1) 1 [] 0, bi (.if_icmp .ne (13)) 3 [27] 0, bi (.aload_n 0) 1 [] 0, bi (.getfield 10) 3 [8, 0] 0, bi (.getfield 97) 3 [7, 3] 0, bi (.goto (4)) 3 [28] 0]
theorem cX8_fault_12 : chk mX8_fault 12 kX8_fault_12 = true := by decide +kernel
def kX8_fault_0 : List BI := [bi (.iload_n 1) 1 [] 0, bi (.ifCond .ne (11)) 3 [12] 0, bi (.aload_n 0) 1 [] 0, bi (.getfield 10) 3 [8, 0] 0, bi (.getfield 94) 3 [7, 2] 0, bi (.ireturn) 1 [] 0]
theorem cX8_fault_0 : chk mX8_fault 0 kX8_fault_0 = true := by decide +kernel
theorem xfault_0 {d : Nat} {σ : SG} {Q : Option AV → SG → Prop} {w : Int} (h : (r3 w) ∧ (w ≠ 0 → (r3 w) ∧ (w ≠ 1 → Q (some (.inl ((-1)))) σ) ∧ (w = 1 → Q (some (.inl (σ 2 3))) σ)) ∧ (w = 0 → Q (some (.inl (σ 2 2))) σ)) : AW d mX8_fault 0 [some (.inr (.inr 0)), some (.inl w)] [] σ Q := AW.blk kX8_fault_0 cX8_fault_0 (⟨(h).1, ⟨fun c2 => AW.blk kX8_fault_12 cX8_fault_12 (⟨⟨(((h).2).1 c2).1, (by decide)⟩, ⟨fun c1 => AW.blk kX8_fault_27 cX8_fault_27 (((((h).2).1 c2).2).1 c1), fun c1 => AW.blk kX8_fault_28 cX8_fault_28 (((((h).2).1 c2).2).2 c1)⟩⟩), fun c2 => ((h).2).2 c2⟩⟩)
def kX9_fault_23 : List BI := [bi (.iconst (-1)) 1 [] 0, bi (.ireturn) 1 [] 0]
theorem cX9_fault_23 : chk mX9_fault 23 kX9_fault_23 = true := by decide +kernel
def kX9_fault_24 : List BI := [bi (.ireturn) 1 [] 0]
theorem cX9_fault_24 : chk mX9_fault 24 kX9_fault_24 = true := by decide +kernel
def kX9_fault_11 : List BI := [bi (.iload_n 1) 1 [] 0, bi (.iconst 1) 1 [] 0, bi (.if_icmp .ne (10)) 3 [23] 0, bi (.aload_n 0) 1 [] 0, bi (.getfield 13) 3 [9, 8] 0, bi (.goto (4)) 3 [24] 0]
theorem cX9_fault_11 : chk mX9_fault 11 kX9_fault_11 = true := by decide +kernel
def kX9_fault_0 : List BI := [bi (.iload_n 1) 1 [] 0, bi (.ifCond .ne (10)) 3 [11] 0, bi (.aload_n 0) 1 [] 0, bi (.getfield 306) 3 [9, 7] 0, bi (.goto (16)) 3 [24] 0]
theorem cX9_fault_0 : chk mX9_fault 0 kX9_fault_0 = true := by decide +kernel
theorem mfault_0 {d : Nat} {σ : SG} {Q : Option AV → SG → Prop} {w : Int} (h : (r3 w) ∧ (w ≠ 0 → (r3 w) ∧ (w ≠ 1 → Q (some (.inl ((-1)))) σ) ∧ (w = 1 → Q (some (.inl (σ 42 8))) σ)) ∧ (w = 0 → Q (some (.inl (σ 42 7))) σ)) : AW d mX9_fault 0 [some (.inr (.inr 42)), some (.inl w)] [] σ Q := AW.blk kX9_fault_0 cX9_fault_0 (⟨(h).1, ⟨fun c4 => AW.blk kX9_fault_11 cX9_fault_11 (⟨⟨(((h).2).1 c4).1, (by decide)⟩, ⟨fun c3 => AW.blk kX9_fault_23 cX9_fault_23 (((((h).2).1 c4).2).1 c3), fun c3 => AW.blk kX9_fault_24 cX9_fault_24 (((((h).2).1 c4).2).2 c3)⟩⟩), fun c4 => AW.blk kX9_fault_24 cX9_fault_24 (((h).2).2 c4)⟩⟩)
theorem call_fault {d : Nat} {n : Int} {σ : SG} {r q : Nat} {w : Int} (hd : 100 ≤ d) (h : SIM n σ r q) (hw : r3 w) : AW d mX8_fault 0 [some (.inr (.inr 0)), some (.inl w)] [] σ (SAME d n r q mX9_fault [some (.inr (.inr 42)), some (.inl w)]) := by
  obtain ⟨hr, _, hx, _⟩ := h.rr
  obtain ⟨hLR, hSR, hML, hMG, hRL, hN, hW⟩ := h.lr
  have hT := h.2.2.1
  obtain ⟨k1, k2, k3⟩ := hT
  all_goals refine xfault_0 ⟨(by omega), fun c => ⟨(by omega), fun c => ?_, fun c => ?_⟩, fun c => ?_⟩
  all_goals (unfold SAME; refine mfault_0 ⟨(by omega), fun c => ⟨(by omega), fun c => ?_, fun c => ?_⟩, fun c => ?_⟩)
  all_goals first | exact ⟨by with_reducible rfl, h⟩ | exact ⟨by with_reducible rfl, h.p70 _⟩ | (exfalso; omega) | exact ⟨sinl (by omega), h⟩

def kX8_status_22 : List BI := [bi (.iconst (-1)) 1 [] 0, bi (.ireturn) 1 [] 0]
theorem cX8_status_22 : chk mX8_status 22 kX8_status_22 = true := by decide +kernel
def kX8_status_23 : List BI := [bi (.ireturn) 1 [] 0]
theorem cX8_status_23 : chk mX8_status 23 kX8_status_23 = true := by decide +kernel
def kX8_status_0 : List BI := [bi (.iload_n 1) 1 [] 0, bi (.ifCond .lt (21)) 3 [22] 0, bi (.iload_n 1) 1 [] 0, bi (.aload_n 0) 1 [] 0, bi (.getfield 63) 3 [8, 8] 0, bi (.arraylength) 1 [] 0, bi (.if_icmp .ge (12)) 3 [22] 0, bi (.aload_n 0) 1 [] 0, bi (.getfield 63) 3 [8, 8] 0, bi (.iload_n 1) 1 [] 0, bi (.iaload) 1 [] 0, bi (.goto (4)) 3 [23] 0]
theorem cX8_status_0 : chk mX8_status 0 kX8_status_0 = true := by decide +kernel
theorem xstatus_0 {d : Nat} {σ : SG} {Q : Option AV → SG → Prop} {w : Int} (h : (r3 w) ∧ (w < 0 → Q (some (.inl ((-1)))) σ) ∧ (0 ≤ w → (r3 w) ∧ (4 ≤ w → Q (some (.inl ((-1)))) σ) ∧ (w < 4 → (0 ≤ w ∧ w < 4) ∧ Q (some (.inl (σ 1 w))) σ))) : AW d mX8_status 0 [some (.inr (.inr 0)), some (.inl w)] [] σ Q := AW.blk kX8_status_0 cX8_status_0 (⟨(h).1, ⟨fun c6 => AW.blk kX8_status_22 cX8_status_22 (((h).2).1 c6), fun c6 => ⟨⟨(((h).2).2 c6).1, (by decide)⟩, ⟨fun c5 => AW.blk kX8_status_22 cX8_status_22 (((((h).2).2 c6).2).1 c5), fun c5 => ⟨⟨((((((h).2).2 c6).2).2 c5).1).1, ((((((h).2).2 c6).2).2 c5).1).2⟩, AW.blk kX8_status_23 cX8_status_23 ((((((h).2).2 c6).2).2 c5).2)⟩⟩⟩⟩⟩)
def kX9_status_21 : List BI := [bi (.iconst (-1)) 1 [] 0, bi (.ireturn) 1 [] 0]
theorem cX9_status_21 : chk mX9_status 21 kX9_status_21 = true := by decide +kernel
def kX9_status_22 : List BI := [bi (.ireturn) 1 [] 0]
theorem cX9_status_22 : chk mX9_status 22 kX9_status_22 = true := by decide +kernel
def kX9_status_0 : List BI := [bi (.iload_n 1) 1 [] 0, bi (.i2l) 1 [] 0, bi (.lconst 0) 1 [] 0, bi (.ldc2_w 421) 3 [] 3, bi (.invokestatic 233) 3 [mX9_isIn, 3, 6] 0, bi (.ifCond .eq (12)) 3 [21] 0, bi (.aload_n 0) 1 [] 0, bi (.getfield 17) 3 [9, 9] 0, bi (.iload_n 1) 1 [] 0, bi (.iaload) 1 [] 0, bi (.goto (4)) 3 [22] 0]
theorem cX9_status_0 : chk mX9_status 0 kX9_status_0 = true := by decide +kernel
theorem mstatus_0 {d : Nat} {σ : SG} {Q : Option AV → SG → Prop} {w : Int} (h : (r3 w) ∧ (0 < d) ∧ (r6 w) ∧ (w < 0 → Q (some (.inl ((-1)))) σ) ∧ (0 ≤ w → (r6 w) ∧ (3 < w → Q (some (.inl ((-1)))) σ) ∧ (w ≤ 3 → (0 ≤ w ∧ w < 4) ∧ Q (some (.inl (σ 44 w))) σ))) : AW d mX9_status 0 [some (.inr (.inr 42)), some (.inl w)] [] σ Q := AW.blk kX9_status_0 cX9_status_0 (⟨(h).1, ⟨((h).2).1, AW.blk kX9_isIn_0 cX9_isIn_0 (⟨⟨(((h).2).2).1, (by decide)⟩, ⟨fun c8 => AW.blk kX9_isIn_17 cX9_isIn_17 (⟨(by decide), ⟨(by decide), ⟨fun _ => AW.blk kX9_status_21 cX9_status_21 (((((h).2).2).2).1 c8), fun c => absurd c (by decide)⟩⟩⟩), fun c8 => ⟨⟨(((((h).2).2).2).2 c8).1, (by decide)⟩, ⟨fun c7 => AW.blk kX9_isIn_17 cX9_isIn_17 (⟨(by decide), ⟨(by decide), ⟨fun _ => AW.blk kX9_status_21 cX9_status_21 (((((((h).2).2).2).2 c8).2).1 c7), fun c => absurd c (by decide)⟩⟩⟩), fun c7 => AW.blk kX9_isIn_18 cX9_isIn_18 (⟨(by decide), ⟨(by decide), ⟨fun c => absurd c (by decide), fun _ => ⟨⟨((((((((h).2).2).2).2 c8).2).2 c7).1).1, ((((((((h).2).2).2).2 c8).2).2 c7).1).2⟩, AW.blk kX9_status_22 cX9_status_22 ((((((((h).2).2).2).2 c8).2).2 c7).2)⟩⟩⟩⟩)⟩⟩⟩⟩)⟩⟩)
theorem call_status {d : Nat} {n : Int} {σ : SG} {r q : Nat} {w : Int} (hd : 100 ≤ d) (h : SIM n σ r q) (hw : r3 w) : AW d mX8_status 0 [some (.inr (.inr 0)), some (.inl w)] [] σ (SAME d n r q mX9_status [some (.inr (.inr 42)), some (.inl w)]) := by
  obtain ⟨hr, _, hx, _⟩ := h.rr
  obtain ⟨hLR, hSR, hML, hMG, hRL, hN, hW⟩ := h.lr
  have hF := h.2.2.2.1
  all_goals refine xstatus_0 ⟨(by omega), fun c => ?_, fun c => ⟨(by omega), fun c => ?_, fun c => ⟨(by omega), ?_⟩⟩⟩
  all_goals (unfold SAME; refine mstatus_0 ⟨(by omega), (by omega), (by omega), fun c => ?_, fun c => ⟨(by omega), fun c => ?_, fun c => ⟨(by omega), ?_⟩⟩⟩)
  all_goals first | exact ⟨by with_reducible rfl, h⟩ | exact ⟨by with_reducible rfl, h.p70 _⟩ | (exfalso; omega) | exact ⟨sinl (by omega), h⟩ | exact ⟨sinl (by have := hF w (by omega) (by omega); omega), h⟩

def kX8_octet_27 : List BI := [bi (.iconst (-1)) 1 [] 0, bi (.ireturn) 1 [] 0]
theorem cX8_octet_27 : chk mX8_octet 27 kX8_octet_27 = true := by decide +kernel
def kX8_octet_28 : List BI := [bi (.ireturn) 1 [] 0]
theorem cX8_octet_28 : chk mX8_octet 28 kX8_octet_28 = true := by decide +kernel
def kX8_octet_0 : List BI := [bi (.iload_n 1) 1 [] 0, bi (.ifCond .lt (26)) 3 [27] 0, bi (.iload_n 1) 1 [] 0, bi (.aload_n 0) 1 [] 0, bi (.getfield 59) 3 [8, 7] 0, bi (.getfield 308) 3 [1, 1] 0, bi (.if_icmp .ge (15)) 3 [27] 0, bi (.aload_n 0) 1 [] 0, bi (.getfield 59) 3 [8, 7] 0, bi (.getfield 311) 3 [1, 0] 0, bi (.iload_n 1) 1 [] 0, bi (.iaload) 1 [] 0, bi (.goto (4)) 3 [28] 0]
theorem cX8_octet_0 : chk mX8_octet 0 kX8_octet_0 = true := by decide +kernel
theorem xoctet_0 {d : Nat} {σ : SG} {Q : Option AV → SG → Prop} {k : Int} (h : (r3 k) ∧ (k < 0 → Q (some (.inl ((-1)))) σ) ∧ (0 ≤ k → (r3 k ∧ r3 (σ 40 1)) ∧ ((σ 40 1) ≤ k → Q (some (.inl ((-1)))) σ) ∧ (k < (σ 40 1) → (0 ≤ k ∧ k < 268) ∧ Q (some (.inl (σ 41 k))) σ))) : AW d mX8_octet 0 [some (.inr (.inr 0)), some (.inl k)] [] σ Q := AW.blk kX8_octet_0 cX8_octet_0 (⟨(h).1, ⟨fun c10 => AW.blk kX8_octet_27 cX8_octet_27 (((h).2).1 c10), fun c10 => ⟨⟨((((h).2).2 c10).1).1, ((((h).2).2 c10).1).2⟩, ⟨fun c9 => AW.blk kX8_octet_27 cX8_octet_27 (((((h).2).2 c10).2).1 c9), fun c9 => ⟨⟨((((((h).2).2 c10).2).2 c9).1).1, ((((((h).2).2 c10).2).2 c9).1).2⟩, AW.blk kX8_octet_28 cX8_octet_28 ((((((h).2).2 c10).2).2 c9).2)⟩⟩⟩⟩⟩)
def kX9_octet_21 : List BI := [bi (.iconst (-1)) 1 [] 0, bi (.ireturn) 1 [] 0]
theorem cX9_octet_21 : chk mX9_octet 21 kX9_octet_21 = true := by decide +kernel
def kX9_octet_22 : List BI := [bi (.ireturn) 1 [] 0]
theorem cX9_octet_22 : chk mX9_octet 22 kX9_octet_22 = true := by decide +kernel
def kX9_octet_0 : List BI := [bi (.iload_n 1) 1 [] 0, bi (.ifCond .lt (20)) 3 [21] 0, bi (.iload_n 1) 1 [] 0, bi (.aload_n 0) 1 [] 0, bi (.getfield 601) 3 [9, 81] 0, bi (.if_icmp .ge (12)) 3 [21] 0, bi (.aload_n 0) 1 [] 0, bi (.getfield 184) 3 [9, 80] 0, bi (.iload_n 1) 1 [] 0, bi (.iaload) 1 [] 0, bi (.goto (4)) 3 [22] 0]
theorem cX9_octet_0 : chk mX9_octet 0 kX9_octet_0 = true := by decide +kernel
theorem moctet_0 {d : Nat} {σ : SG} {Q : Option AV → SG → Prop} {k : Int} (h : (r3 k) ∧ (k < 0 → Q (some (.inl ((-1)))) σ) ∧ (0 ≤ k → (r3 k ∧ r3 (σ 42 81)) ∧ ((σ 42 81) ≤ k → Q (some (.inl ((-1)))) σ) ∧ (k < (σ 42 81) → (0 ≤ k ∧ k < 268) ∧ Q (some (.inl (σ 99 k))) σ))) : AW d mX9_octet 0 [some (.inr (.inr 42)), some (.inl k)] [] σ Q := AW.blk kX9_octet_0 cX9_octet_0 (⟨(h).1, ⟨fun c12 => AW.blk kX9_octet_21 cX9_octet_21 (((h).2).1 c12), fun c12 => ⟨⟨((((h).2).2 c12).1).1, ((((h).2).2 c12).1).2⟩, ⟨fun c11 => AW.blk kX9_octet_21 cX9_octet_21 (((((h).2).2 c12).2).1 c11), fun c11 => ⟨⟨((((((h).2).2 c12).2).2 c11).1).1, ((((((h).2).2 c12).2).2 c11).1).2⟩, AW.blk kX9_octet_22 cX9_octet_22 ((((((h).2).2 c12).2).2 c11).2)⟩⟩⟩⟩⟩)
theorem call_octet {d : Nat} {n : Int} {σ : SG} {r q : Nat} {k : Int} (hd : 100 ≤ d) (h : SIM n σ r q) (hk : r3 k) : AW d mX8_octet 0 [some (.inr (.inr 0)), some (.inl k)] [] σ (SAME d n r q mX9_octet [some (.inr (.inr 42)), some (.inl k)]) := by
  obtain ⟨hr, _, hx, _⟩ := h.rr
  obtain ⟨hLR, hSR, hML, hMG, hRL, hN, hW⟩ := h.lr
  have hP := h.2.2.2.2.2.2.2.1
  have hP1 := hP.1
  all_goals refine xoctet_0 ⟨(by omega), fun c => ?_, fun c => ⟨(by omega), fun c => ?_, fun c => ⟨(by omega), ?_⟩⟩⟩
  all_goals (unfold SAME; refine moctet_0 ⟨(by omega), fun c => ?_, fun c => ⟨(by omega), fun c => ?_, fun c => ⟨(by omega), ?_⟩⟩⟩)
  all_goals first | exact ⟨by with_reducible rfl, h⟩ | exact ⟨by with_reducible rfl, h.p70 _⟩ | (exfalso; omega) | exact ⟨sinl (by omega), h⟩ | exact ⟨sinl (by have := hP.2 k (by omega) (by omega); omega), h⟩

def kX8_end_15 : List BI := [bi (.aload_n 0) 1 [] 0, bi (.getfield 63) 3 [8, 8] 0, bi (.iconst 0) 1 [] 0, bi (.dup2) 1 [] 0, bi (.iaload) 1 [] 0, bi (.iconst 1) 1 [] 0, bi (.iadd) 1 [] 0, bi (.iastore) 1 [] 0, bi (.iconst 0) 1 [] 0, bi (.ireturn) 1 [1] 0]
theorem cX8_end_15 : chk mX8_end 15 kX8_end_15 = true := by decide +kernel
def kX8_end_27 : List BI := [bi (.aload_n 0) 1 [] 0, bi (.getfield 10) 3 [8, 0] 0, bi (.iload_n 1) 1 [] 0, bi (.putfield 74) 3 [7, 1] 0, bi (.iconst 1) 1 [] 0, bi (.ireturn) 1 [1] 0]
theorem cX8_end_27 : chk mX8_end 27 kX8_end_27 = true := by decide +kernel
def kX8_end_0 : List BI := [bi (.iload_n 1) 1 [] 0, bi (.ifCond .lt (14)) 3 [15] 0, bi (.iload_n 1) 1 [] 0, bi (.aload_n 0) 1 [] 0, bi (.getfield 10) 3 [8, 0] 0, bi (.getfield 74) 3 [7, 1] 0, bi (.if_icmp .le (15)) 3 [27] 0, bi (.aload_n 0) 1 [] 0, bi (.getfield 63) 3 [8, 8] 0, bi (.iconst 0) 1 [] 0, bi (.dup2) 1 [] 0, bi (.iaload) 1 [] 0, bi (.iconst 1) 1 [] 0, bi (.iadd) 1 [] 0, bi (.iastore) 1 [] 0, bi (.iconst 0) 1 [] 0, bi (.ireturn) 1 [1] 0]
theorem cX8_end_0 : chk mX8_end 0 kX8_end_0 = true := by decide +kernel
theorem xend_0 {d : Nat} {σ : SG} {Q : Option AV → SG → Prop} {k : Int} (h : (r3 k) ∧ (k < 0 → Q (some (.inl 0)) (up σ 1 0 ((σ 1 0) + 1))) ∧ (0 ≤ k → (r3 k ∧ r3 (σ 2 1)) ∧ (k ≤ (σ 2 1) → Q (some (.inl 1)) (up σ 2 1 k)) ∧ ((σ 2 1) < k → Q (some (.inl 0)) (up σ 1 0 ((σ 1 0) + 1))))) : AW d mX8_end 0 [some (.inr (.inr 0)), some (.inl k)] [] σ Q := AW.blk kX8_end_0 cX8_end_0 (⟨(h).1, ⟨fun c14 => AW.blk kX8_end_15 cX8_end_15 (⟨⟨(by decide), (by decide)⟩, ⟨⟨(by decide), (by decide)⟩, ⟨(by decide), ((h).2).1 c14⟩⟩⟩), fun c14 => ⟨⟨((((h).2).2 c14).1).1, ((((h).2).2 c14).1).2⟩, ⟨fun c13 => AW.blk kX8_end_27 cX8_end_27 (⟨(by decide), ((((h).2).2 c14).2).1 c13⟩), fun c13 => ⟨⟨(by decide), (by decide)⟩, ⟨⟨(by decide), (by decide)⟩, ⟨(by decide), ((((h).2).2 c14).2).2 c13⟩⟩⟩⟩⟩⟩⟩)
def kX9_end_12 : List BI := [bi (.aload_n 0) 1 [] 0, bi (.getfield 17) 3 [9, 9] 0, bi (.iconst 0) 1 [] 0, bi (.dup2) 1 [] 0, bi (.iaload) 1 [] 0, bi (.iconst 1) 1 [] 0, bi (.iadd) 1 [] 0, bi (.iastore) 1 [] 0, bi (.iconst 0) 1 [] 0, bi (.ireturn) 1 [1] 0]
theorem cX9_end_12 : chk mX9_end 12 kX9_end_12 = true := by decide +kernel
def kX9_end_24 : List BI := [bi (.aload_n 0) 1 [] 0, bi (.iload_n 1) 1 [] 0, bi (.putfield 187) 3 [9, 1] 0, bi (.iconst 1) 1 [] 0, bi (.ireturn) 1 [1] 0]
theorem cX9_end_24 : chk mX9_end 24 kX9_end_24 = true := by decide +kernel
def kX9_end_0 : List BI := [bi (.iload_n 1) 1 [] 0, bi (.ifCond .lt (11)) 3 [12] 0, bi (.iload_n 1) 1 [] 0, bi (.aload_n 0) 1 [] 0, bi (.getfield 187) 3 [9, 1] 0, bi (.if_icmp .le (15)) 3 [24] 0, bi (.aload_n 0) 1 [] 0, bi (.getfield 17) 3 [9, 9] 0, bi (.iconst 0) 1 [] 0, bi (.dup2) 1 [] 0, bi (.iaload) 1 [] 0, bi (.iconst 1) 1 [] 0, bi (.iadd) 1 [] 0, bi (.iastore) 1 [] 0, bi (.iconst 0) 1 [] 0, bi (.ireturn) 1 [1] 0]
theorem cX9_end_0 : chk mX9_end 0 kX9_end_0 = true := by decide +kernel
theorem mend_0 {d : Nat} {σ : SG} {Q : Option AV → SG → Prop} {k : Int} (h : (r3 k) ∧ (k < 0 → Q (some (.inl 0)) (up σ 44 0 ((σ 44 0) + 1))) ∧ (0 ≤ k → (r3 k ∧ r3 (σ 42 1)) ∧ (k ≤ (σ 42 1) → Q (some (.inl 1)) (up σ 42 1 k)) ∧ ((σ 42 1) < k → Q (some (.inl 0)) (up σ 44 0 ((σ 44 0) + 1))))) : AW d mX9_end 0 [some (.inr (.inr 42)), some (.inl k)] [] σ Q := AW.blk kX9_end_0 cX9_end_0 (⟨(h).1, ⟨fun c16 => AW.blk kX9_end_12 cX9_end_12 (⟨⟨(by decide), (by decide)⟩, ⟨⟨(by decide), (by decide)⟩, ⟨(by decide), ((h).2).1 c16⟩⟩⟩), fun c16 => ⟨⟨((((h).2).2 c16).1).1, ((((h).2).2 c16).1).2⟩, ⟨fun c15 => AW.blk kX9_end_24 cX9_end_24 (⟨(by decide), ((((h).2).2 c16).2).1 c15⟩), fun c15 => ⟨⟨(by decide), (by decide)⟩, ⟨⟨(by decide), (by decide)⟩, ⟨(by decide), ((((h).2).2 c16).2).2 c15⟩⟩⟩⟩⟩⟩⟩)
def kX8_loan_18 : List BI := [bi (.iconst (-1)) 1 [] 0, bi (.ireturn) 1 [] 0]
theorem cX8_loan_18 : chk mX8_loan 18 kX8_loan_18 = true := by decide +kernel
def kX8_isLoan_19 : List BI := [bi (.iconst 0) 1 [] 0, bi (.ireturn) 1 [1] 0]
theorem cX8_isLoan_19 : chk mX8_isLoan 19 kX8_isLoan_19 = true := by decide +kernel
def kX8_loan_20 : List BI := [bi (.aload_n 0) 1 [] 0, bi (.getfield 42) 3 [8, 4] 0, bi (.iload_n 1) 1 [] 0, bi (.iload_n 2) 1 [] 0, bi (.invokevirtual 190) 3 [mX6_ofLoan, 3, 3, 6] 0, bi (.ireturn) 1 [] 0]
theorem cX8_loan_20 : chk mX8_loan 20 kX8_loan_20 = true := by decide +kernel
def kX8_isLoan_20 : List BI := [bi (.ireturn) 1 [1] 0]
theorem cX8_isLoan_20 : chk mX8_isLoan 20 kX8_isLoan_20 = true := by decide +kernel
def kX8_isLoan_0 : List BI := [bi (.iload_n 1) 1 [] 0, bi (.ifCond .lt (18)) 3 [19] 0, bi (.iload_n 1) 1 [] 0, bi (.aload_n 0) 1 [] 0, bi (.getfield 42) 3 [8, 4] 0, bi (.invokevirtual 106) 3 [mX6_loans, 1, 1, 6] 0, bi (.if_icmp .ge (7)) 3 [19] 0, bi (.iconst 1) 1 [] 0, bi (.goto (4)) 3 [20] 0]
theorem cX8_isLoan_0 : chk mX8_isLoan 0 kX8_isLoan_0 = true := by decide +kernel
def kX8_loan_0 : List BI := [bi (.aload_n 0) 1 [] 0, bi (.iload_n 1) 1 [] 0, bi (.invokevirtual 187) 3 [mX8_isLoan, 2, 2, 8] 0, bi (.ifCond .eq (13)) 3 [18] 0, bi (.iload_n 2) 1 [] 0, bi (.ifCond .lt (9)) 3 [18] 0, bi (.iload_n 2) 1 [] 0, bi (.bipush (8)) 2 [] 0, bi (.if_icmp .lt (5)) 3 [20] 0, bi (.iconst (-1)) 1 [] 0, bi (.ireturn) 1 [] 0]
theorem cX8_loan_0 : chk mX8_loan 0 kX8_loan_0 = true := by decide +kernel
theorem xloan_0 {d : Nat} {σ : SG} {Q : Option AV → SG → Prop} {k w : Int} (h : (0 < d) ∧ (r3 k) ∧ (k < 0 → Q (some (.inl ((-1)))) σ) ∧ (0 ≤ k → (0 < d - 1) ∧ (r3 k ∧ r3 (σ 35 1)) ∧ ((σ 35 1) ≤ k → Q (some (.inl ((-1)))) σ) ∧ (k < (σ 35 1) → (r3 w) ∧ (w < 0 → Q (some (.inl ((-1)))) σ) ∧ (0 ≤ w → (r3 w) ∧ (w < 8 → (0 < d) ∧ (0 ≤ ((22 + (k * 8)) + w) ∧ ((22 + (k * 8)) + w) < 214) ∧ Q (some (.inl (σ 35 ((22 + (k * 8)) + w)))) σ) ∧ (8 ≤ w → Q (some (.inl ((-1)))) σ))))) : AW d mX8_loan 0 [some (.inr (.inr 0)), some (.inl k), some (.inl w)] [] σ Q := AW.blk kX8_loan_0 cX8_loan_0 (⟨(h).1, AW.blk kX8_isLoan_0 cX8_isLoan_0 (⟨((h).2).1, ⟨fun c20 => AW.blk kX8_isLoan_19 cX8_isLoan_19 (⟨(by decide), ⟨(by decide), ⟨fun _ => AW.blk kX8_loan_18 cX8_loan_18 ((((h).2).2).1 c20), fun c => absurd c (by decide)⟩⟩⟩), fun c20 => ⟨((((h).2).2).2 c20).1, AW.blk kX6_loans_0 cX6_loans_0 (⟨⟨(by decide), (by decide)⟩, ⟨⟨((((((h).2).2).2 c20).2).1).1, ((((((h).2).2).2 c20).2).1).2⟩, ⟨fun c19 => AW.blk kX8_isLoan_19 cX8_isLoan_19 (⟨(by decide), ⟨(by decide), ⟨fun _ => AW.blk kX8_loan_18 cX8_loan_18 (((((((h).2).2).2 c20).2).2).1 c19), fun c => absurd c (by decide)⟩⟩⟩), fun c19 => AW.blk kX8_isLoan_20 cX8_isLoan_20 (⟨(by decide), ⟨(by decide), ⟨fun c => absurd c (by decide), fun _ => ⟨(((((((h).2).2).2 c20).2).2).2 c19).1, ⟨fun c18 => AW.blk kX8_loan_18 cX8_loan_18 (((((((((h).2).2).2 c20).2).2).2 c19).2).1 c18), fun c18 => ⟨⟨(((((((((h).2).2).2 c20).2).2).2 c19).2).2 c18).1, (by decide)⟩, ⟨fun c17 => AW.blk kX8_loan_20 cX8_loan_20 (⟨(((((((((((h).2).2).2 c20).2).2).2 c19).2).2 c18).2).1 c17).1, AW.blk kX6_ofLoan_0 cX6_ofLoan_0 (⟨⟨(((((((((((((h).2).2).2 c20).2).2).2 c19).2).2 c18).2).1 c17).2).1).1, (((((((((((((h).2).2).2 c20).2).2).2 c19).2).2 c18).2).1 c17).2).1).2⟩, ((((((((((((h).2).2).2 c20).2).2).2 c19).2).2 c18).2).1 c17).2).2⟩)⟩), fun c17 => ((((((((((h).2).2).2 c20).2).2).2 c19).2).2 c18).2).2 c17⟩⟩⟩⟩⟩⟩⟩)⟩⟩⟩)⟩⟩⟩)⟩)
def kX9_loan_29 : List BI := [bi (.iconst (-1)) 1 [] 0, bi (.ireturn) 1 [] 0]
theorem cX9_loan_29 : chk mX9_loan 29 kX9_loan_29 = true := by decide +kernel
def kX9_loan_30 : List BI := [bi (.ireturn) 1 [] 0]
theorem cX9_loan_30 : chk mX9_loan 30 kX9_loan_30 = true := by decide +kernel
def kX9_isLoan_0 : List BI := [bi (.iload_n 1) 1 [] 0, bi (.i2l) 1 [] 0, bi (.lconst 0) 1 [] 0, bi (.aload_n 0) 1 [] 0, bi (.invokevirtual 335) 3 [mX9_loanMany, 1, 1, 9] 0, bi (.iconst 1) 1 [] 0, bi (.isub) 1 [] 0, bi (.i2l) 1 [] 0, bi (.invokestatic 233) 3 [mX9_isIn, 3, 6] 0, bi (.ireturn) 1 [1] 0]
theorem cX9_isLoan_0 : chk mX9_isLoan 0 kX9_isLoan_0 = true := by decide +kernel
def kX9_loan_0 : List BI := [bi (.aload_n 0) 1 [] 0, bi (.iload_n 1) 1 [] 0, bi (.invokevirtual 398) 3 [mX9_isLoan, 2, 2, 9] 0, bi (.ifCond .eq (24)) 3 [29] 0, bi (.iload_n 2) 1 [] 0, bi (.i2l) 1 [] 0, bi (.lconst 0) 1 [] 0, bi (.ldc2_w 401) 3 [] 7, bi (.invokestatic 233) 3 [mX9_isIn, 3, 6] 0, bi (.ifCond .eq (12)) 3 [29] 0, bi (.aload_n 0) 1 [] 0, bi (.iload_n 1) 1 [] 0, bi (.iload_n 2) 1 [] 0, bi (.invokevirtual 332) 3 [mX9_loanOf, 3, 3, 9] 0, bi (.goto (4)) 3 [30] 0]
theorem cX9_loan_0 : chk mX9_loan 0 kX9_loan_0 = true := by decide +kernel
theorem mloan_0 {d : Nat} {σ : SG} {Q : Option AV → SG → Prop} {k w : Int} (h : (0 < d) ∧ (r3 k) ∧ (0 < d - 1) ∧ (r3 ((σ 69 1) - 1)) ∧ (0 < d - 1) ∧ (r6 k) ∧ (k < 0 → Q (some (.inl ((-1)))) σ) ∧ (0 ≤ k → (r6 k ∧ r6 ((σ 69 1) - 1)) ∧ (((σ 69 1) - 1) < k → Q (some (.inl ((-1)))) σ) ∧ (k ≤ ((σ 69 1) - 1) → (r3 w) ∧ (0 < d) ∧ (r6 w) ∧ (w < 0 → Q (some (.inl ((-1)))) σ) ∧ (0 ≤ w → (r6 w) ∧ (7 < w → Q (some (.inl ((-1)))) σ) ∧ (w ≤ 7 → (0 < d) ∧ (0 ≤ ((62 + (8 * k)) + w) ∧ ((62 + (8 * k)) + w) < 254) ∧ Q (some (.inl (σ 69 ((62 + (8 * k)) + w)))) σ))))) : AW d mX9_loan 0 [some (.inr (.inr 42)), some (.inl k), some (.inl w)] [] σ Q := AW.blk kX9_loan_0 cX9_loan_0 (⟨(h).1, AW.blk kX9_isLoan_0 cX9_isLoan_0 (⟨((h).2).1, ⟨(((h).2).2).1, AW.blk kX9_loanMany_0 cX9_loanMany_0 (⟨⟨(by decide), (by decide)⟩, ⟨((((h).2).2).2).1, ⟨(((((h).2).2).2).2).1, AW.blk kX9_isIn_0 cX9_isIn_0 (⟨⟨((((((h).2).2).2).2).2).1, (by decide)⟩, ⟨fun c24 => AW.blk kX9_isIn_17 cX9_isIn_17 (⟨(by decide), ⟨(by decide), ⟨(by decide), ⟨fun _ => AW.blk kX9_loan_29 cX9_loan_29 ((((((((h).2).2).2).2).2).2).1 c24), fun c => absurd c (by decide)⟩⟩⟩⟩), fun c24 => ⟨⟨(((((((((h).2).2).2).2).2).2).2 c24).1).1, (((((((((h).2).2).2).2).2).2).2 c24).1).2⟩, ⟨fun c23 => AW.blk kX9_isIn_17 cX9_isIn_17 (⟨(by decide), ⟨(by decide), ⟨(by decide), ⟨fun _ => AW.blk kX9_loan_29 cX9_loan_29 ((((((((((h).2).2).2).2).2).2).2 c24).2).1 c23), fun c => absurd c (by decide)⟩⟩⟩⟩), fun c23 => AW.blk kX9_isIn_18 cX9_isIn_18 (⟨(by decide), ⟨(by decide), ⟨(by decide), ⟨fun c => absurd c (by decide), fun _ => ⟨((((((((((h).2).2).2).2).2).2).2 c24).2).2 c23).1, ⟨(((((((((((h).2).2).2).2).2).2).2 c24).2).2 c23).2).1, AW.blk kX9_isIn_0 cX9_isIn_0 (⟨⟨((((((((((((h).2).2).2).2).2).2).2 c24).2).2 c23).2).2).1, (by decide)⟩, ⟨fun c22 => AW.blk kX9_isIn_17 cX9_isIn_17 (⟨(by decide), ⟨(by decide), ⟨fun _ => AW.blk kX9_loan_29 cX9_loan_29 ((((((((((((((h).2).2).2).2).2).2).2 c24).2).2 c23).2).2).2).1 c22), fun c => absurd c (by decide)⟩⟩⟩), fun c22 => ⟨⟨((((((((((((((h).2).2).2).2).2).2).2 c24).2).2 c23).2).2).2).2 c22).1, (by decide)⟩, ⟨fun c21 => AW.blk kX9_isIn_17 cX9_isIn_17 (⟨(by decide), ⟨(by decide), ⟨fun _ => AW.blk kX9_loan_29 cX9_loan_29 ((((((((((((((((h).2).2).2).2).2).2).2 c24).2).2 c23).2).2).2).2 c22).2).1 c21), fun c => absurd c (by decide)⟩⟩⟩), fun c21 => AW.blk kX9_isIn_18 cX9_isIn_18 (⟨(by decide), ⟨(by decide), ⟨fun c => absurd c (by decide), fun _ => ⟨((((((((((((((((h).2).2).2).2).2).2).2 c24).2).2 c23).2).2).2).2 c22).2).2 c21).1, AW.blk kX9_loanOf_0 cX9_loanOf_0 (⟨⟨((((((((((((((((((h).2).2).2).2).2).2).2 c24).2).2 c23).2).2).2).2 c22).2).2 c21).2).1).1, ((((((((((((((((((h).2).2).2).2).2).2).2 c24).2).2 c23).2).2).2).2 c22).2).2 c21).2).1).2⟩, AW.blk kX9_loan_30 cX9_loan_30 ((((((((((((((((((h).2).2).2).2).2).2).2 c24).2).2 c23).2).2).2).2 c22).2).2 c21).2).2)⟩)⟩⟩⟩⟩)⟩⟩⟩⟩)⟩⟩⟩⟩⟩⟩)⟩⟩⟩⟩)⟩⟩⟩)⟩⟩)⟩)
theorem call_loan {d : Nat} {n : Int} {σ : SG} {r q : Nat} {k w : Int} (hd : 100 ≤ d) (h : SIM n σ r q) (hk : r3 k) (hw : r3 w) : AW d mX8_loan 0 [some (.inr (.inr 0)), some (.inl k), some (.inl w)] [] σ (SAME d n r q mX9_loan [some (.inr (.inr 42)), some (.inl k), some (.inl w)]) := by
  obtain ⟨hr, _, hx, _⟩ := h.rr
  obtain ⟨hLR, hSR, hML, hMG, hRL, hN, hW⟩ := h.lr
  have hLo := h.2.2.2.2.2.1.2.2.2.2.2.1
  all_goals refine xloan_0 ⟨(by omega), (by omega), fun c => ?_, fun c => ⟨(by omega), (by omega), fun c => ?_, fun c => ⟨(by omega), fun c => ?_, fun c => ⟨(by omega), fun c => ⟨(by omega), (by omega), ?_⟩, fun c => ?_⟩⟩⟩⟩
  all_goals (unfold SAME; refine mloan_0 ⟨(by omega), (by omega), (by omega), (by omega), (by omega), (by omega), fun c => ?_, fun c => ⟨(by omega), fun c => ?_, fun c => ⟨(by omega), (by omega), (by omega), fun c => ?_, fun c => ⟨(by omega), fun c => ?_, fun c => ⟨(by omega), (by omega), ?_⟩⟩⟩⟩⟩)
  all_goals first | exact ⟨by with_reducible rfl, h⟩ | exact ⟨by with_reducible rfl, h.p70 _⟩ | (exfalso; omega) | exact ⟨sinl (by omega), h⟩ | exact ⟨sinl (by have := (hLo k (by omega) (by omega)).1 w (by omega) (by omega); omega), h⟩

theorem call_end {d : Nat} {n : Int} {σ : SG} {r q : Nat} {k : Int} (hd : 100 ≤ d) (h : SIM n σ r q) (hk : r3 k) : AW d mX8_end 0 [some (.inr (.inr 0)), some (.inl k)] [] σ (SAME d n r q mX9_end [some (.inr (.inr 42)), some (.inl k)]) := by
  obtain ⟨k1, k2, k3⟩ := h.2.2.1
  by_cases hc : 0 ≤ k ∧ k ≤ σ 2 1
  · refine xend_0 ⟨by omega, fun c => by omega, fun c => ⟨by omega, fun c => ?_, fun c => by omega⟩⟩
    have e : (up σ 2 1 k) 42 1 = σ 42 1 := rfl
    unfold SAME
    exact mend_0 ⟨by omega, fun c => by omega, fun c => ⟨by omega, fun c => ⟨rfl, h.len hc.1 hc.2⟩, fun c => by omega⟩⟩
  · have e : (up σ 1 0 (σ 1 0 + 1)) 42 1 = σ 42 1 := rfl
    have hm : SAME d n r q mX9_end [some (.inr (.inr 42)), some (.inl k)] (some (.inl 0)) (up σ 1 0 (σ 1 0 + 1)) := by
      unfold SAME
      exact mend_0 ⟨by omega, fun c => ⟨rfl, h.refuse (by decide) (by decide) rfl rfl⟩, fun c => ⟨by omega, fun c => by omega, fun c => ⟨rfl, h.refuse (by decide) (by decide) rfl rfl⟩⟩⟩
    exact xend_0 ⟨by omega, fun c => hm, fun c => ⟨by omega, fun c => by omega, fun c => hm⟩⟩
