/-! ===== words and numbers of the tape, the class (wip/whole/gen92.py) ===== -/
def kX7_wordAmong_10 : List BI := [bi (.iconst 0) 1 [] 0, bi (.istore_n 2) 1 [] 0, bi (.aload_n 0) 1 [] 0, bi (.getfield 28) 3 [7, 5] 0, bi (.istore_n 3) 1 [] 0, bi (.iconst 0) 1 [] 0, bi (.istore 4) 2 [] 0]
theorem cX7_wordAmong_10 : chk mX7_wordAmong 10 kX7_wordAmong_10 = true := by decide +kernel
def kX7_wordAmong_0 : List BI := [bi (.aload_n 0) 1 [] 0, bi (.getfield 25) 3 [7, 4] 0, bi (.iconst 1) 1 [] 0, bi (.if_icmp .eq (5)) 3 [10] 0, bi (.iconst (-1)) 1 [] 0, bi (.ireturn) 1 [] 0]
theorem cX7_wordAmong_0 : chk mX7_wordAmong 0 kX7_wordAmong_0 = true := by decide +kernel
theorem twa_0 {d : Nat} {σ : SG} {Q : Option AV → SG → Prop} {w : Nat} (h : (r3 (σ 2 4)) ∧ ((σ 2 4) = 1 → AW d mX7_wordAmong 20 [some (.inr (.inr 2)), some (.inr (.inr w)), some (.inl 0), some (.inl (σ 2 5)), some (.inl 0), none] [] σ Q) ∧ ((σ 2 4) ≠ 1 → Q (some (.inl ((-1)))) σ)) : AW d mX7_wordAmong 0 [some (.inr (.inr 2)), some (.inr (.inr w)), none, none, none, none] [] σ Q := AW.blk kX7_wordAmong_0 cX7_wordAmong_0 (⟨⟨(h).1, (by decide)⟩, ⟨fun c1 => AW.blk kX7_wordAmong_10 cX7_wordAmong_10 (((h).2).1 c1), fun c1 => ((h).2).2 c1⟩⟩)
def kX7_wordAmong_20 : List BI := [bi (.iload 4) 2 [] 0, bi (.aload_n 1) 1 [] 0]
theorem cX7_wordAmong_20 : chk mX7_wordAmong 20 kX7_wordAmong_20 = true := by decide +kernel
theorem twa_20 {d : Nat} {σ : SG} {Q : Option AV → SG → Prop} {w : Nat} {l2 l3 l4 : Int} (h : AW d mX7_wordAmong 23 [some (.inr (.inr 2)), some (.inr (.inr w)), some (.inl l2), some (.inl l3), some (.inl l4), none] [.inr (.inr w), .inl l4] σ Q) : AW d mX7_wordAmong 20 [some (.inr (.inr 2)), some (.inr (.inr w)), some (.inl l2), some (.inl l3), some (.inl l4), none] [] σ Q := AW.blk kX7_wordAmong_20 cX7_wordAmong_20 (h)
def kX7_wordAmong_103 : List BI := [bi (.iconst (-1)) 1 [] 0, bi (.ireturn) 1 [] 0]
theorem cX7_wordAmong_103 : chk mX7_wordAmong 103 kX7_wordAmong_103 = true := by decide +kernel
def kX7_wordAmong_26 : List BI := [bi (.if_icmp .ge (77)) 3 [103] 0, bi (.aload_n 1) 1 [] 0, bi (.iload 4) 2 [] 0]
theorem cX7_wordAmong_26 : chk mX7_wordAmong 26 kX7_wordAmong_26 = true := by decide +kernel
theorem twa_26 {d : Nat} {σ : SG} {Q : Option AV → SG → Prop} {w : Nat} {l2 l3 l4 s0 : Int} (h : (r3 l4 ∧ r3 s0) ∧ (s0 ≤ l4 → Q (some (.inl ((-1)))) σ) ∧ (l4 < s0 → AW d mX7_wordAmong 32 [some (.inr (.inr 2)), some (.inr (.inr w)), some (.inl l2), some (.inl l3), some (.inl l4), none] [.inl l4, .inr (.inr w)] σ Q)) : AW d mX7_wordAmong 26 [some (.inr (.inr 2)), some (.inr (.inr w)), some (.inl l2), some (.inl l3), some (.inl l4), none] [.inl s0, .inl l4] σ Q := AW.blk kX7_wordAmong_26 cX7_wordAmong_26 (⟨⟨((h).1).1, ((h).1).2⟩, ⟨fun c2 => AW.blk kX7_wordAmong_103 cX7_wordAmong_103 (((h).2).1 c2), fun c2 => ((h).2).2 c2⟩⟩)
def kX7_wordAmong_97 : List BI := [bi (.iinc 4 (1)) 3 [] 0, bi (.goto (-80)) 3 [20] 0]
theorem cX7_wordAmong_97 : chk mX7_wordAmong 97 kX7_wordAmong_97 = true := by decide +kernel
def kX7_wordAmong_95 : List BI := [bi (.iconst (-1)) 1 [] 0, bi (.istore_n 3) 1 [] 0, bi (.iinc 4 (1)) 3 [] 0, bi (.goto (-80)) 3 [20] 0]
theorem cX7_wordAmong_95 : chk mX7_wordAmong 95 kX7_wordAmong_95 = true := by decide +kernel
def kX7_wordAmong_96 : List BI := [bi (.istore_n 3) 1 [] 0, bi (.iinc 4 (1)) 3 [] 0, bi (.goto (-80)) 3 [20] 0]
theorem cX7_wordAmong_96 : chk mX7_wordAmong 96 kX7_wordAmong_96 = true := by decide +kernel
def kX7_wordAmong_65 : List BI := [bi (.iload_n 3) 1 [] 0, bi (.iconst (-1)) 1 [] 0, bi (.if_icmp .eq (30)) 3 [97] 0, bi (.iload_n 3) 1 [] 0, bi (.aload_n 0) 1 [] 0, bi (.getfield 31) 3 [7, 6] 0, bi (.if_icmp .ge (20)) 3 [95] 0, bi (.aload_n 0) 1 [] 0, bi (.getfield 9) 3 [7, 0] 0, bi (.iload_n 3) 1 [] 0, bi (.iaload) 1 [] 0, bi (.iload 5) 2 [] 0, bi (.if_icmp .ne (9)) 3 [95] 0, bi (.iload_n 3) 1 [] 0, bi (.iconst 1) 1 [] 0, bi (.iadd) 1 [] 0, bi (.goto (4)) 3 [96] 0]
theorem cX7_wordAmong_65 : chk mX7_wordAmong 65 kX7_wordAmong_65 = true := by decide +kernel
def kX7_wordAmong_54 : List BI := [bi (.iinc 2 (1)) 3 [] 0, bi (.aload_n 0) 1 [] 0, bi (.getfield 28) 3 [7, 5] 0, bi (.istore_n 3) 1 [] 0, bi (.goto (35)) 3 [97] 0]
theorem cX7_wordAmong_54 : chk mX7_wordAmong 54 kX7_wordAmong_54 = true := by decide +kernel
def kX7_wordAmong_35 : List BI := [bi (.istore 5) 2 [] 0, bi (.iload 5) 2 [] 0, bi (.bipush (32)) 2 [] 0, bi (.if_icmp .ne (24)) 3 [65] 0, bi (.iload_n 3) 1 [] 0, bi (.aload_n 0) 1 [] 0, bi (.getfield 31) 3 [7, 6] 0, bi (.if_icmp .ne (5)) 3 [54] 0, bi (.iload_n 2) 1 [] 0, bi (.ireturn) 1 [] 0]
theorem cX7_wordAmong_35 : chk mX7_wordAmong 35 kX7_wordAmong_35 = true := by decide +kernel
theorem twa_35 {d : Nat} {σ : SG} {Q : Option AV → SG → Prop} {w : Nat} {l2 l3 l4 s0 : Int} (h : (r3 s0) ∧ (s0 ≠ 32 → (r3 l3) ∧ (l3 = (-1) → AW d mX7_wordAmong 20 [some (.inr (.inr 2)), some (.inr (.inr w)), some (.inl l2), some (.inl l3), some (.inl (l4 + 1)), none] [] σ Q) ∧ (l3 ≠ (-1) → (r3 l3 ∧ r3 (σ 2 6)) ∧ ((σ 2 6) ≤ l3 → AW d mX7_wordAmong 20 [some (.inr (.inr 2)), some (.inr (.inr w)), some (.inl l2), some (.inl ((-1))), some (.inl (l4 + 1)), none] [] σ Q) ∧ (l3 < (σ 2 6) → (0 ≤ l3 ∧ l3 < 1600) ∧ (r3 (σ 3 l3) ∧ r3 s0) ∧ ((σ 3 l3) ≠ s0 → AW d mX7_wordAmong 20 [some (.inr (.inr 2)), some (.inr (.inr w)), some (.inl l2), some (.inl ((-1))), some (.inl (l4 + 1)), none] [] σ Q) ∧ ((σ 3 l3) = s0 → AW d mX7_wordAmong 20 [some (.inr (.inr 2)), some (.inr (.inr w)), some (.inl l2), some (.inl (l3 + 1)), some (.inl (l4 + 1)), none] [] σ Q)))) ∧ (s0 = 32 → (r3 l3 ∧ r3 (σ 2 6)) ∧ (l3 ≠ (σ 2 6) → AW d mX7_wordAmong 20 [some (.inr (.inr 2)), some (.inr (.inr w)), some (.inl (l2 + 1)), some (.inl (σ 2 5)), some (.inl (l4 + 1)), none] [] σ Q) ∧ (l3 = (σ 2 6) → Q (some (.inl l2)) σ))) : AW d mX7_wordAmong 35 [some (.inr (.inr 2)), some (.inr (.inr w)), some (.inl l2), some (.inl l3), some (.inl l4), none] [.inl s0] σ Q := AW.blk kX7_wordAmong_35 cX7_wordAmong_35 (⟨⟨(h).1, (by decide)⟩, ⟨fun c7 => AW.blk kX7_wordAmong_65 cX7_wordAmong_65 (⟨⟨(((h).2).1 c7).1, (by decide)⟩, ⟨fun c5 => AW.blk kX7_wordAmong_97 cX7_wordAmong_97 (AW.drop 5 (((((h).2).1 c7).2).1 c5)), fun c5 => ⟨⟨((((((h).2).1 c7).2).2 c5).1).1, ((((((h).2).1 c7).2).2 c5).1).2⟩, ⟨fun c4 => AW.blk kX7_wordAmong_95 cX7_wordAmong_95 (AW.drop 5 (((((((h).2).1 c7).2).2 c5).2).1 c4)), fun c4 => ⟨⟨((((((((h).2).1 c7).2).2 c5).2).2 c4).1).1, ((((((((h).2).1 c7).2).2 c5).2).2 c4).1).2⟩, ⟨⟨(((((((((h).2).1 c7).2).2 c5).2).2 c4).2).1).1, (((((((((h).2).1 c7).2).2 c5).2).2 c4).2).1).2⟩, ⟨fun c3 => AW.blk kX7_wordAmong_95 cX7_wordAmong_95 (AW.drop 5 ((((((((((h).2).1 c7).2).2 c5).2).2 c4).2).2).1 c3)), fun c3 => AW.blk kX7_wordAmong_96 cX7_wordAmong_96 (AW.drop 5 ((((((((((h).2).1 c7).2).2 c5).2).2 c4).2).2).2 c3))⟩⟩⟩⟩⟩⟩⟩), fun c7 => ⟨⟨((((h).2).2 c7).1).1, ((((h).2).2 c7).1).2⟩, ⟨fun c6 => AW.blk kX7_wordAmong_54 cX7_wordAmong_54 (AW.blk kX7_wordAmong_97 cX7_wordAmong_97 (AW.drop 5 (((((h).2).2 c7).2).1 c6))), fun c6 => ((((h).2).2 c7).2).2 c6⟩⟩⟩⟩)
def kX7_numberHere_47 : List BI := [bi (.iconst 0) 1 [] 0, bi (.istore_n 1) 1 [] 0, bi (.aload_n 0) 1 [] 0, bi (.getfield 28) 3 [7, 5] 0, bi (.istore_n 2) 1 [] 0]
theorem cX7_numberHere_47 : chk mX7_numberHere 47 kX7_numberHere_47 = true := by decide +kernel
def kX7_fail_17 : List BI := [bi (.iconst 0) 1 [] 0, bi (.ireturn) 1 [1] 0]
theorem cX7_fail_17 : chk mX7_fail 17 kX7_fail_17 = true := by decide +kernel
def kX7_fail_0 : List BI := [bi (.aload_n 0) 1 [] 0, bi (.getfield 19) 3 [7, 2] 0, bi (.ifCond .ne (13)) 3 [17] 0, bi (.aload_n 0) 1 [] 0, bi (.iload_n 1) 1 [] 0, bi (.putfield 19) 3 [7, 2] 0, bi (.aload_n 0) 1 [] 0, bi (.iload_n 2) 1 [] 0, bi (.putfield 22) 3 [7, 3] 0, bi (.iconst 0) 1 [] 0, bi (.ireturn) 1 [1] 0]
theorem cX7_fail_0 : chk mX7_fail 0 kX7_fail_0 = true := by decide +kernel
def kX7_numberHere_20 : List BI := [bi (.aload_n 0) 1 [] 0, bi (.getfield 31) 3 [7, 6] 0, bi (.aload_n 0) 1 [] 0, bi (.getfield 28) 3 [7, 5] 0, bi (.isub) 1 [] 0, bi (.iconst 4) 1 [] 0, bi (.if_icmp .le (17)) 3 [47] 0, bi (.aload_n 0) 1 [] 0, bi (.iconst 1) 1 [] 0, bi (.aload_n 0) 1 [] 0, bi (.getfield 28) 3 [7, 5] 0, bi (.iconst 4) 1 [] 0, bi (.iadd) 1 [] 0, bi (.invokevirtual 47) 3 [mX7_fail, 3, 3, 7] 0, bi (.pop) 1 [] 0, bi (.iconst (-1)) 1 [] 0, bi (.ireturn) 1 [] 0]
theorem cX7_numberHere_20 : chk mX7_numberHere 20 kX7_numberHere_20 = true := by decide +kernel
def kX7_numberHere_0 : List BI := [bi (.aload_n 0) 1 [] 0, bi (.getfield 25) 3 [7, 4] 0, bi (.iconst 2) 1 [] 0, bi (.if_icmp .eq (15)) 3 [20] 0, bi (.aload_n 0) 1 [] 0, bi (.iconst 1) 1 [] 0, bi (.aload_n 0) 1 [] 0, bi (.getfield 28) 3 [7, 5] 0, bi (.invokevirtual 47) 3 [mX7_fail, 3, 3, 7] 0, bi (.pop) 1 [] 0, bi (.iconst (-1)) 1 [] 0, bi (.ireturn) 1 [] 0]
theorem cX7_numberHere_0 : chk mX7_numberHere 0 kX7_numberHere_0 = true := by decide +kernel
theorem tnh_0 {d : Nat} {σ : SG} {Q : Option AV → SG → Prop} (h : (r3 (σ 2 4)) ∧ ((σ 2 4) = 2 → (r3 ((σ 2 6) - (σ 2 5))) ∧ (((σ 2 6) - (σ 2 5)) ≤ 4 → AW d mX7_numberHere 54 [some (.inr (.inr 2)), some (.inl 0), some (.inl (σ 2 5))] [] σ Q) ∧ (4 < ((σ 2 6) - (σ 2 5)) → (0 < d) ∧ (r3 (σ 2 2)) ∧ ((σ 2 2) ≠ 0 → Q (some (.inl ((-1)))) σ) ∧ ((σ 2 2) = 0 → (∀ S8 : SG, S8 = up σ 2 2 1 → (∀ S9 : SG, S9 = up S8 2 3 ((σ 2 5) + 4) → Q (some (.inl ((-1)))) S9))))) ∧ ((σ 2 4) ≠ 2 → (0 < d) ∧ (r3 (σ 2 2)) ∧ ((σ 2 2) ≠ 0 → Q (some (.inl ((-1)))) σ) ∧ ((σ 2 2) = 0 → (∀ S12 : SG, S12 = up σ 2 2 1 → (∀ S13 : SG, S13 = up S12 2 3 (σ 2 5) → Q (some (.inl ((-1)))) S13))))) : AW d mX7_numberHere 0 [some (.inr (.inr 2)), none, none] [] σ Q := AW.blk kX7_numberHere_0 cX7_numberHere_0 (⟨⟨(h).1, (by decide)⟩, ⟨fun c15 => AW.blk kX7_numberHere_20 cX7_numberHere_20 (⟨⟨(((h).2).1 c15).1, (by decide)⟩, ⟨fun c11 => AW.blk kX7_numberHere_47 cX7_numberHere_47 (((((h).2).1 c15).2).1 c11), fun c11 => ⟨(((((h).2).1 c15).2).2 c11).1, AW.blk kX7_fail_0 cX7_fail_0 (⟨((((((h).2).1 c15).2).2 c11).2).1, ⟨fun c10 => AW.blk kX7_fail_17 cX7_fail_17 (⟨(by decide), (((((((h).2).1 c15).2).2 c11).2).2).1 c10⟩), fun c10 => ⟨(by decide), (((((((((h).2).1 c15).2).2 c11).2).2).2 c10) _ rfl) _ rfl⟩⟩⟩)⟩⟩⟩), fun c15 => ⟨(((h).2).2 c15).1, AW.blk kX7_fail_0 cX7_fail_0 (⟨((((h).2).2 c15).2).1, ⟨fun c14 => AW.blk kX7_fail_17 cX7_fail_17 (⟨(by decide), (((((h).2).2 c15).2).2).1 c14⟩), fun c14 => ⟨(by decide), (((((((h).2).2 c15).2).2).2 c14) _ rfl) _ rfl⟩⟩⟩)⟩⟩⟩)
def kX7_numberHere_83 : List BI := [bi (.iload_n 1) 1 [] 0, bi (.ireturn) 1 [] 0]
theorem cX7_numberHere_83 : chk mX7_numberHere 83 kX7_numberHere_83 = true := by decide +kernel
def kX7_numberHere_54 : List BI := [bi (.iload_n 2) 1 [] 0, bi (.aload_n 0) 1 [] 0, bi (.getfield 31) 3 [7, 6] 0, bi (.if_icmp .ge (24)) 3 [83] 0, bi (.bipush (10)) 2 [] 0, bi (.iload_n 1) 1 [] 0, bi (.imul) 1 [] 0, bi (.aload_n 0) 1 [] 0, bi (.getfield 9) 3 [7, 0] 0, bi (.iload_n 2) 1 [] 0, bi (.iaload) 1 [] 0, bi (.iadd) 1 [] 0, bi (.bipush (48)) 2 [] 0, bi (.isub) 1 [] 0, bi (.istore_n 1) 1 [] 0, bi (.iinc 2 (1)) 3 [] 0, bi (.goto (-26)) 3 [54] 0]
theorem cX7_numberHere_54 : chk mX7_numberHere 54 kX7_numberHere_54 = true := by decide +kernel
theorem tnh_54 {d : Nat} {σ : SG} {Q : Option AV → SG → Prop} {l1 l2 : Int} (h : (r3 l2 ∧ r3 (σ 2 6)) ∧ ((σ 2 6) ≤ l2 → Q (some (.inl l1)) σ) ∧ (l2 < (σ 2 6) → (0 ≤ l2 ∧ l2 < 1600) ∧ AW d mX7_numberHere 54 [some (.inr (.inr 2)), some (.inl (((10 * l1) + (σ 3 l2)) - 48)), some (.inl (l2 + 1))] [] σ Q)) : AW d mX7_numberHere 54 [some (.inr (.inr 2)), some (.inl l1), some (.inl l2)] [] σ Q := AW.blk kX7_numberHere_54 cX7_numberHere_54 (⟨⟨((h).1).1, ((h).1).2⟩, ⟨fun c16 => AW.blk kX7_numberHere_83 cX7_numberHere_83 (((h).2).1 c16), fun c16 => ⟨⟨((((h).2).2 c16).1).1, ((((h).2).2 c16).1).2⟩, (((h).2).2 c16).2⟩⟩⟩)
def hkD (M pc ix : Nat) (cn : String) : Bool := match MT[M]? with
  | some t => decide (decode t.2.1 pc = .ok (.invokevirtual ix, 3)) && decide (cnm t.2.2.2.2 = cn)
  | none => false
theorem hkD_ok {M pc ix : Nat} {cn : String} (h : hkD M pc ix cn = true) (t : MTE) (ht : MT[M]? = some t) : decode t.2.1 pc = .ok (.invokevirtual ix, 3) ∧ cnm t.2.2.2.2 = cn := by
  unfold hkD at h
  rw [ht] at h
  rw [Bool.and_eq_true] at h
  exact ⟨of_decide_eq_true h.1, of_decide_eq_true h.2⟩
theorem hk_len : hkD mX7_wordAmong 23 59 "LentStairs$Tape" = true := by decide +kernel
theorem hk_char : hkD mX7_wordAmong 32 64 "LentStairs$Tape" = true := by decide +kernel
theorem drop_getD : ∀ (cs : List Int) (j : Nat), j < cs.length → cs.drop j = cs.getD j 0 :: cs.drop (j + 1) := by
  intro cs j h
  rw [List.drop_eq_getElem_cons h, List.getD_eq_getElem?_getD, List.getElem?_eq_getElem h]
  rfl
/-- the signs from s to t are the word -/
def weq (o : Int → Int) : List Int → Int → Int → Bool
  | [], s, t => decide (s = t)
  | c :: w, s, t => decide (s < t) && (decide (o s = c) && weq o w (s + 1) t)
def waS (o : Int → Int) (start stop : Int) : List Int → Int → Int → Int
  | [], _, _ => -1
  | c :: cs, k, a => if c = 32 then (if a = stop then k else waS o start stop cs (k + 1) start) else waS o start stop cs k (if a = -1 then -1 else if a < stop ∧ o a = c then a + 1 else -1)
def flW : List (List Int) → List Int
  | [] => []
  | w :: ws => w ++ 32 :: flW ws
def fstW (o : Int → Int) (s t : Int) : List (List Int) → Int → Int
  | [], _ => -1
  | w :: ws, k => if weq o w s t = true then k else fstW o s t ws (k + 1)
theorem waS_w {o : Int → Int} {start stop : Int} (hs : 0 ≤ stop) : ∀ (w rest : List Int) (k a : Int), (∀ c ∈ w, c ≠ 32) → -1 ≤ a → waS o start stop (w ++ 32 :: rest) k a = if a ≠ -1 ∧ weq o w a stop = true then k else waS o start stop rest (k + 1) start := by
  intro w
  induction w with
  | nil =>
    intro rest k a _ ha
    show (if (32 : Int) = 32 then (if a = stop then k else waS o start stop rest (k + 1) start) else _) = _
    rw [if_pos rfl]
    by_cases c : a = stop
    · rw [if_pos c, if_pos ⟨by omega, decide_eq_true c⟩]
    · rw [if_neg c, if_neg (fun z => c (of_decide_eq_true z.2))]
  | cons c w ih =>
    intro rest k a hw ha
    have hc : c ≠ 32 := hw c (List.mem_cons_self ..)
    have hw' : ∀ c' ∈ w, c' ≠ 32 := fun c' h => hw c' (List.mem_cons_of_mem _ h)
    show (if c = 32 then _ else waS o start stop (w ++ 32 :: rest) k (if a = -1 then -1 else if a < stop ∧ o a = c then a + 1 else -1)) = _
    rw [if_neg hc]
    have e : weq o (c :: w) a stop = (decide (a < stop) && (decide (o a = c) && weq o w (a + 1) stop)) := rfl
    by_cases c1 : a = -1
    · rw [if_pos c1, ih rest k (-1) hw' (by omega), if_neg (fun z => z.1 rfl), if_neg (fun z => z.1 c1)]
    · rw [if_neg c1]
      by_cases c2 : a < stop ∧ o a = c
      · rw [if_pos c2, ih rest k (a + 1) hw' (by omega), e, decide_eq_true c2.1, decide_eq_true c2.2, Bool.true_and, Bool.true_and]
        by_cases c3 : weq o w (a + 1) stop = true
        · rw [if_pos ⟨by omega, c3⟩, if_pos ⟨c1, c3⟩]
        · rw [if_neg (fun z => c3 z.2), if_neg (fun z => c3 z.2)]
      · rw [if_neg c2, ih rest k (-1) hw' (by omega), if_neg (fun z => z.1 rfl), if_neg]
        intro z
        rw [e, Bool.and_eq_true, Bool.and_eq_true] at z
        exact c2 ⟨of_decide_eq_true z.2.1, of_decide_eq_true z.2.2.1⟩
theorem waS_fl {o : Int → Int} {start stop : Int} (h0 : 0 ≤ start) (hs : 0 ≤ stop) : ∀ (ws : List (List Int)) (k : Int), (∀ w ∈ ws, ∀ c ∈ w, c ≠ 32) → waS o start stop (flW ws) k start = fstW o start stop ws k := by
  intro ws
  induction ws with
  | nil => intro k _; rfl
  | cons w ws ih =>
    intro k hw
    show waS o start stop (w ++ 32 :: flW ws) k start = if weq o w start stop = true then k else fstW o start stop ws (k + 1)
    rw [waS_w hs w (flW ws) k start (hw w (List.mem_cons_self ..)) (by omega), ih (k + 1) (fun w' h => hw w' (List.mem_cons_of_mem _ h))]
    by_cases c : weq o w start stop = true
    · rw [if_pos ⟨by omega, c⟩, if_pos c]
    · rw [if_neg (fun z => c z.2), if_neg c]
/-- the words of the class's texts -/
def WL : Nat → List (List Int)
  | 0 => [WC 45, WC 46, WC 47, WC 48, WC 49, WC 50, WC 51, WC 52, WC 53, WC 54, WC 55, WC 56, WC 57, WC 58, WC 59, WC 60]
  | 1 => [WC 76, WC 77, WC 78, WC 79, WC 80, WC 81]
  | 2 => [WC 85]
  | 3 => [WC 82]
  | 4 => [WC 88, WC 89, WC 90, WC 91, WC 92, WC 93, WC 94, WC 95, WC 86, WC 87]
  | 5 => [WC 83]
  | 6 => [WC 84]
  | _ => []
theorem WL_ok : ∀ i, i < 7 → (sInt.getD i [] = flW (WL i) ∧ (sInt.getD i []).length = sLen.getD i 0) ∧ ((WL i).all (fun w => w.all (fun c => decide (c ≠ 32)))) = true := by decide +kernel
theorem weq_one {o : Int → Int} : ∀ (w w' : List Int) (s t : Int), weq o w s t = true → weq o w' s t = true → w = w' := by
  intro w
  induction w with
  | nil =>
    intro w' s t h h'
    cases w' with
    | nil => rfl
    | cons c w' =>
      have h1 := of_decide_eq_true h
      have e : (decide (s < t) && (decide (o s = c) && weq o w' (s + 1) t)) = true := h'
      rw [Bool.and_eq_true] at e
      have := of_decide_eq_true e.1
      omega
  | cons c w ih =>
    intro w' s t h h'
    have e : (decide (s < t) && (decide (o s = c) && weq o w (s + 1) t)) = true := h
    rw [Bool.and_eq_true, Bool.and_eq_true] at e
    have e1 := of_decide_eq_true e.1
    cases w' with
    | nil =>
      have h1 := of_decide_eq_true h'
      omega
    | cons c' w' =>
      have e' : (decide (s < t) && (decide (o s = c') && weq o w' (s + 1) t)) = true := h'
      rw [Bool.and_eq_true, Bool.and_eq_true] at e'
      rw [ih w' _ _ e.2.2 e'.2.2, ← of_decide_eq_true e.2.1, ← of_decide_eq_true e'.2.1]
theorem fstW_r {o : Int → Int} {s t : Int} : ∀ (ws : List (List Int)) (k : Int), 0 ≤ k → fstW o s t ws k = -1 ∨ (k ≤ fstW o s t ws k ∧ fstW o s t ws k < k + ws.length ∧ weq o (ws.getD (fstW o s t ws k - k).toNat []) s t = true) := by
  intro ws
  induction ws with
  | nil => intro k _; exact Or.inl rfl
  | cons w ws ih =>
    intro k hk
    by_cases c : weq o w s t = true
    · have e : fstW o s t (w :: ws) k = k := if_pos c
      rw [e]
      refine Or.inr ⟨by omega, by rw [List.length_cons]; omega, ?_⟩
      rw [show (k - k).toNat = 0 by omega]
      exact c
    · have e : fstW o s t (w :: ws) k = fstW o s t ws (k + 1) := if_neg c
      rw [e]
      rcases ih (k + 1) (by omega) with h | ⟨h1, h2, h3⟩
      · exact Or.inl h
      · refine Or.inr ⟨by omega, by rw [List.length_cons]; omega, ?_⟩
        rw [show (fstW o s t ws (k + 1) - k).toNat = (fstW o s t ws (k + 1) - (k + 1)).toNat + 1 by omega]
        exact h3
theorem fstW_n {o : Int → Int} {s t : Int} : ∀ (ws : List (List Int)) (k : Int), 0 ≤ k → fstW o s t ws k = -1 → ∀ w ∈ ws, weq o w s t = false := by
  intro ws
  induction ws with
  | nil => intro k _ _ w hw; cases hw
  | cons w ws ih =>
    intro k hk h w' hw'
    by_cases c : weq o w s t = true
    · have e : fstW o s t (w :: ws) k = k := if_pos c
      omega
    · have e : fstW o s t (w :: ws) k = fstW o s t ws (k + 1) := if_neg c
      rw [e] at h
      rcases List.mem_cons.mp hw' with z | z
      · rw [z]
        cases hb : weq o w s t
        · rfl
        · exact absurd hb c
      · exact ih (k + 1) (by omega) h w' z
theorem wordAmong_ok {d i : Nat} {σ : SG} {Q : Option AV → SG → Prop} (hi : i < 7) (hd : 5 ≤ d) (h4 : r3 (σ 2 4)) (h5 : 0 ≤ σ 2 5 ∧ σ 2 5 ≤ 1600) (h6 : 0 ≤ σ 2 6 ∧ σ 2 6 ≤ 1600) (ho : OCT (σ 3)) (hq : Q (some (.inl (if σ 2 4 = 1 then fstW (σ 3) (σ 2 5) (σ 2 6) (WL i) 0 else -1))) σ) : AW d mX7_wordAmong 0 [some (.inr (.inr 2)), some (.inr (.inr (1000 + i))), none, none, none, none] [] σ Q := by
  obtain ⟨⟨hfl, hlen⟩, hno⟩ := WL_ok i hi
  have hno' : ∀ w ∈ WL i, ∀ c ∈ w, c ≠ 32 := fun w hw c hc => by
    have := List.all_eq_true.mp hno w hw
    exact of_decide_eq_true (List.all_eq_true.mp this c hc)
  have hl : sLen.getD i 0 ≤ 81 := by
    have : ∀ i, i < 7 → sLen.getD i 0 ≤ 81 := by decide
    exact this i hi
  have hch : ∀ j, 0 ≤ (sInt.getD i []).getD j 0 ∧ (sInt.getD i []).getD j 0 ≤ 255 := by
    have : ∀ i, i < 7 → (sInt.getD i []).all (fun c => decide (0 ≤ c ∧ c ≤ 255)) = true := by decide +kernel
    have h := List.all_eq_true.mp (this i hi)
    intro j
    by_cases c : j < (sInt.getD i []).length
    · rw [List.getD_eq_getElem?_getD, List.getElem?_eq_getElem c]
      exact of_decide_eq_true (h _ (List.getElem_mem c))
    · rw [List.getD_eq_getElem?_getD, List.getElem?_eq_none (by omega)]
      exact ⟨by decide, by decide⟩
  refine twa_0 ⟨h4, fun c => ?_, fun c => ?_⟩
  · rw [if_pos c, ← waS_fl h5.1 h6.1 (WL i) 0 hno', ← hfl] at hq
    have key : ∀ (m : Nat) (k j : Nat) (a : Int), (sInt.getD i []).length = j + m → (k : Int) ≤ j → -1 ≤ a → a ≤ 1600 → waS (σ 3) (σ 2 5) (σ 2 6) ((sInt.getD i []).drop j) k a = waS (σ 3) (σ 2 5) (σ 2 6) (sInt.getD i []) 0 (σ 2 5) → AW d mX7_wordAmong 20 [some (.inr (.inr 2)), some (.inr (.inr (1000 + i))), some (.inl (k : Int)), some (.inl a), some (.inl (j : Int)), none] [] σ Q := by
      intro m
      induction m with
      | zero =>
        intro k j a hj hk a0 a1 hw
        rw [List.drop_eq_nil_of_le (by omega)] at hw
        refine twa_20 (aw_slen (hkD_ok hk_len) hi (by omega) (Nat.le_of_ble_eq_true rfl) ?_)
        refine twa_26 ⟨by omega, fun _ => ?_, fun c => by omega⟩
        rw [← hw] at hq
        exact hq
      | succ m ih =>
        intro k j a hj hk a0 a1 hw
        have hd0 := drop_getD (sInt.getD i []) j (by omega)
        rw [hd0] at hw
        have hcj := hch j
        refine twa_20 (aw_slen (hkD_ok hk_len) hi (by omega) (Nat.le_of_ble_eq_true rfl) ?_)
        refine twa_26 ⟨by omega, fun c => by omega, fun _ => ?_⟩
        refine aw_schar (hkD_ok hk_char) hi (by omega) (by omega) (by omega) (Nat.le_of_ble_eq_true rfl) ?_
        rw [show ((j : Int)).toNat = j by omega]
        generalize (sInt.getD i []).getD j 0 = ch at hcj hw ⊢
        have e : waS (σ 3) (σ 2 5) (σ 2 6) (ch :: (sInt.getD i []).drop (j + 1)) k a = if ch = 32 then (if a = σ 2 6 then (k : Int) else waS (σ 3) (σ 2 5) (σ 2 6) ((sInt.getD i []).drop (j + 1)) (k + 1) (σ 2 5)) else waS (σ 3) (σ 2 5) (σ 2 6) ((sInt.getD i []).drop (j + 1)) k (if a = -1 then -1 else if a < σ 2 6 ∧ σ 3 a = ch then a + 1 else -1) := rfl
        rw [e] at hw
        have e1 : ((j : Int) + 1) = ((j + 1 : Nat) : Int) := by omega
        have e2 : ((k : Int) + 1) = ((k + 1 : Nat) : Int) := by omega
        refine twa_35 ⟨by omega, fun c1 => ?_, fun c1 => ⟨by omega, fun c2 => ?_, fun c2 => ?_⟩⟩
        · rw [if_neg c1] at hw
          refine ⟨by omega, fun c2 => ?_, fun c2 => ⟨by omega, fun c3 => ?_, fun c3 => ⟨by omega, by have := ho a (by omega) (by omega); omega, fun c4 => ?_, fun c4 => ?_⟩⟩⟩
          · rw [if_pos c2] at hw
            rw [e1, c2]
            exact ih k (j + 1) (-1) (by omega) (by omega) (by omega) (by omega) hw
          · rw [if_neg c2, if_neg (fun z => by omega)] at hw
            rw [e1]
            exact ih k (j + 1) (-1) (by omega) (by omega) (by omega) (by omega) hw
          · rw [if_neg c2, if_neg (fun z => c4 z.2)] at hw
            rw [e1]
            exact ih k (j + 1) (-1) (by omega) (by omega) (by omega) (by omega) hw
          · rw [if_neg c2, if_pos ⟨c3, c4⟩] at hw
            rw [e1]
            exact ih k (j + 1) (a + 1) (by omega) (by omega) (by omega) (by omega) hw
        · rw [if_pos c1, if_neg c2, e2] at hw
          rw [e1, e2]
          exact ih (k + 1) (j + 1) (σ 2 5) (by omega) (by omega) (by omega) (by omega) hw
        · rw [if_pos c1, if_pos c2] at hw
          rw [hw]
          exact hq
    exact key (sInt.getD i []).length 0 0 (σ 2 5) (by omega) (by omega) (by omega) (by omega) rfl
  · rw [if_neg c] at hq
    exact hq
/-! numbers -/
def nbV (o : Int → Int) (s n : Int) : Int := foI (fun i v => 10 * v + o (s + i) - 48) 0 n
theorem nbV_r {o : Int → Int} {s : Int} : ∀ n : Nat, n ≤ 4 → (∀ i, 0 ≤ i → i < (n : Int) → 48 ≤ o (s + i) ∧ o (s + i) ≤ 57) → 0 ≤ nbV o s n ∧ nbV o s n + 1 ≤ 10 ^ n := by
  intro n
  induction n with
  | zero => intro _ _; exact ⟨Int.le_refl _, Int.le_refl _⟩
  | succ n ih =>
    intro hn h
    have h1 := ih (by omega) (fun i a b => h i a (by omega))
    have h2 := h n (by omega) (by omega)
    have e : nbV o s ((n : Int) + 1) = 10 * nbV o s n + o (s + n) - 48 := foI_s _ _ (by omega)
    rw [show ((n + 1 : Nat) : Int) = (n : Int) + 1 by omega]
    rw [e]
    have e2 : (10 : Int) ^ (n + 1) = 10 ^ n * 10 := Int.pow_succ 10 n
    omega
/-- what a number at the token gives: the number, or -1 with a fault -/
def nhV (o : Int → Int) (k s t : Int) : Int := if k = 2 ∧ t - s ≤ 4 then nbV o s (t - s) else -1
def nhP (k s : Int) : Int := if k = 2 then s + 4 else s
theorem numberHere_ok {d : Nat} {σ : SG} {Q : Option AV → SG → Prop} (hd : 1 ≤ d) (h4 : r3 (σ 2 4)) (h5 : 0 ≤ σ 2 5 ∧ σ 2 5 ≤ σ 2 6) (h6 : σ 2 6 ≤ 1600) (h2 : σ 2 2 = 0) (hq1 : (σ 2 4 = 2 ∧ σ 2 6 - σ 2 5 ≤ 4) → Q (some (.inl (nbV (σ 3) (σ 2 5) (σ 2 6 - σ 2 5)))) σ) (hq0 : ¬ (σ 2 4 = 2 ∧ σ 2 6 - σ 2 5 ≤ 4) → Q (some (.inl (-1))) (up (up σ 2 2 1) 2 3 (nhP (σ 2 4) (σ 2 5)))) : AW d mX7_numberHere 0 [some (.inr (.inr 2)), none, none] [] σ Q := by
  unfold nhP at hq0
  refine tnh_0 ⟨h4, fun c => ⟨by omega, fun c2 => ?_, fun c2 => ⟨by omega, by omega, fun c3 => absurd h2 c3, fun c3 S1 e1 S2 e2 => ?_⟩⟩, fun c => ⟨by omega, by omega, fun c3 => absurd h2 c3, fun c3 S1 e1 S2 e2 => ?_⟩⟩
  · have hq := hq1 ⟨c, c2⟩
    have key := downInd (P := fun i => AW d mX7_numberHere 54 [some (.inr (.inr 2)), some (.inl (nbV (σ 3) (σ 2 5) i)), some (.inl (σ 2 5 + i))] [] σ Q) (lo := 0) (hi := σ 2 6 - σ 2 5) (by omega) ?_ ?_
    · have e : nbV (σ 3) (σ 2 5) 0 = 0 := rfl
      rw [e, show σ 2 5 + 0 = σ 2 5 by omega] at key
      exact key
    · exact tnh_54 ⟨by omega, fun _ => hq, fun z => by omega⟩
    · intro i i0 i1 ih
      have e : nbV (σ 3) (σ 2 5) (i + 1) = 10 * nbV (σ 3) (σ 2 5) i + σ 3 (σ 2 5 + i) - 48 := foI_s _ _ i0
      rw [e, show σ 2 5 + (i + 1) = σ 2 5 + i + 1 by omega] at ih
      exact tnh_54 ⟨by omega, fun z => by omega, fun _ => ⟨by omega, ih⟩⟩
  · have hq := hq0 (fun z => by omega)
    rw [if_pos c] at hq
    rw [e2, e1]
    exact hq
  · have hq := hq0 (fun z => c z.1)
    rw [if_neg c] at hq
    rw [e2, e1]
    exact hq
