/-! ===== the reference: the highest step by hops (wip/whole/gen25.py) ===== -/
def kX9_highest_0 : List BI := [bi (.iconst 0) 1 [] 0, bi (.istore 5) 2 [] 0, bi (.aload_n 0) 1 [] 0, bi (.getfield 97) 3 [9, 38] 0, bi (.iconst 0) 1 [] 0, bi (.iconst 1) 1 [] 0, bi (.iastore) 1 [] 0, bi (.iconst 1) 1 [] 0, bi (.istore 6) 2 [] 0]
theorem cX9_highest_0 : chk mX9_highest 0 kX9_highest_0 = true := by decide +kernel
theorem mhighest_0 {d : Nat} {σ : SG} {Q : Option AV → SG → Prop} {t sd lg rp : Int} (h : AW d mX9_highest 13 [some (.inr (.inr 42)), some (.inl t), some (.inl sd), some (.inl lg), some (.inl rp), some (.inl 0), some (.inl 1), none] [] (up σ 70 0 1) Q) : AW d mX9_highest 0 [some (.inr (.inr 42)), some (.inl t), some (.inl sd), some (.inl lg), some (.inl rp), none, none, none] [] σ Q := AW.blk kX9_highest_0 cX9_highest_0 (⟨⟨(by decide), (by decide)⟩, h⟩)
def kX9_highest_156 : List BI := [bi (.iload 5) 2 [] 0, bi (.ireturn) 1 [] 0]
theorem cX9_highest_156 : chk mX9_highest 156 kX9_highest_156 = true := by decide +kernel
def kX9_highest_45 : List BI := [bi (.iconst 0) 1 [] 0, bi (.istore 7) 2 [] 0]
theorem cX9_highest_45 : chk mX9_highest 45 kX9_highest_45 = true := by decide +kernel
def kX9_highest_150 : List BI := [bi (.iinc 6 (1)) 3 [] 0, bi (.goto (-140)) 3 [13] 0]
theorem cX9_highest_150 : chk mX9_highest 150 kX9_highest_150 = true := by decide +kernel
def kX9_stepsOf_0 : List BI := [bi (.aload_n 0) 1 [] 0, bi (.getfield 76) 3 [9, 30] 0, bi (.bipush (8)) 2 [] 0, bi (.iconst 2) 1 [] 0, bi (.iload_n 1) 1 [] 0, bi (.imul) 1 [] 0, bi (.iadd) 1 [] 0, bi (.iaload) 1 [] 0, bi (.ireturn) 1 [] 0]
theorem cX9_stepsOf_0 : chk mX9_stepsOf 0 kX9_stepsOf_0 = true := by decide +kernel
def kX9_highest_13 : List BI := [bi (.iload 6) 2 [] 0, bi (.aload_n 0) 1 [] 0, bi (.iload_n 1) 1 [] 0, bi (.invokevirtual 328) 3 [mX9_stepsOf, 2, 2, 9] 0, bi (.if_icmp .gt (136)) 3 [156] 0, bi (.aload_n 0) 1 [] 0, bi (.getfield 97) 3 [9, 38] 0, bi (.iload 6) 2 [] 0, bi (.iconst 0) 1 [] 0, bi (.iastore) 1 [] 0, bi (.iload_n 2) 1 [] 0, bi (.iload 6) 2 [] 0, bi (.iconst 1) 1 [] 0, bi (.isub) 1 [] 0, bi (.ishr) 1 [] 0, bi (.iconst 1) 1 [] 0, bi (.iand) 1 [] 0, bi (.ifCond .ne (6)) 3 [45] 0, bi (.goto (108)) 3 [150] 0]
theorem cX9_highest_13 : chk mX9_highest 13 kX9_highest_13 = true := by decide +kernel
theorem mhighest_13 {d : Nat} {σ : SG} {Q : Option AV → SG → Prop} {t sd lg rp l5 l6 : Int} (h : (0 < d) ∧ (0 ≤ (8 + (2 * t)) ∧ (8 + (2 * t)) < 16) ∧ (r3 l6 ∧ r3 (σ 63 (8 + (2 * t)))) ∧ ((σ 63 (8 + (2 * t))) < l6 → Q (some (.inl l5)) σ) ∧ (l6 ≤ (σ 63 (8 + (2 * t))) → (0 ≤ l6 ∧ l6 < 30) ∧ (0 ≤ (l6 - 1) ∧ (l6 - 1) < 32 ∧ r3 sd) ∧ (r3 (band (sd / 2 ^ Int.toNat (l6 - 1)) 1)) ∧ ((band (sd / 2 ^ Int.toNat (l6 - 1)) 1) ≠ 0 → AW d mX9_highest 48 [some (.inr (.inr 42)), some (.inl t), some (.inl sd), some (.inl lg), some (.inl rp), some (.inl l5), some (.inl l6), some (.inl 0)] [] (up σ 70 l6 0) Q) ∧ ((band (sd / 2 ^ Int.toNat (l6 - 1)) 1) = 0 → AW d mX9_highest 13 [some (.inr (.inr 42)), some (.inl t), some (.inl sd), some (.inl lg), some (.inl rp), some (.inl l5), some (.inl (l6 + 1)), none] [] (up σ 70 l6 0) Q))) : AW d mX9_highest 13 [some (.inr (.inr 42)), some (.inl t), some (.inl sd), some (.inl lg), some (.inl rp), some (.inl l5), some (.inl l6), none] [] σ Q := AW.blk kX9_highest_13 cX9_highest_13 (⟨(h).1, AW.blk kX9_stepsOf_0 cX9_stepsOf_0 (⟨⟨(((h).2).1).1, (((h).2).1).2⟩, ⟨⟨((((h).2).2).1).1, ((((h).2).2).1).2⟩, ⟨fun c2 => AW.blk kX9_highest_156 cX9_highest_156 (((((h).2).2).2).1 c2), fun c2 => ⟨⟨((((((h).2).2).2).2 c2).1).1, ((((((h).2).2).2).2 c2).1).2⟩, ⟨⟨(((((((h).2).2).2).2 c2).2).1).1, ((((((((h).2).2).2).2 c2).2).1).2).1, ((((((((h).2).2).2).2 c2).2).1).2).2⟩, ⟨(((((((h).2).2).2).2 c2).2).2).1, ⟨fun c1 => AW.blk kX9_highest_45 cX9_highest_45 (((((((((h).2).2).2).2 c2).2).2).2).1 c1), fun c1 => AW.blk kX9_highest_150 cX9_highest_150 (((((((((h).2).2).2).2 c2).2).2).2).2 c1)⟩⟩⟩⟩⟩⟩⟩)⟩)
def kX9_highest_136 : List BI := [bi (.aload_n 0) 1 [] 0, bi (.getfield 97) 3 [9, 38] 0, bi (.iload 6) 2 [] 0, bi (.iaload) 1 [] 0, bi (.ifCond .eq (7)) 3 [150] 0, bi (.iload 6) 2 [] 0, bi (.istore 5) 2 [] 0, bi (.iinc 6 (1)) 3 [] 0, bi (.goto (-140)) 3 [13] 0]
theorem cX9_highest_136 : chk mX9_highest 136 kX9_highest_136 = true := by decide +kernel
def kX9_highest_48 : List BI := [bi (.iload 7) 2 [] 0, bi (.iload 6) 2 [] 0, bi (.if_icmp .ge (84)) 3 [136] 0, bi (.iload 6) 2 [] 0, bi (.iload 7) 2 [] 0, bi (.isub) 1 [] 0, bi (.iload_n 3) 1 [] 0, bi (.if_icmp .gt (20)) 3 [81] 0, bi (.aload_n 0) 1 [] 0, bi (.getfield 97) 3 [9, 38] 0, bi (.iload 6) 2 [] 0, bi (.dup2) 1 [] 0, bi (.iaload) 1 [] 0, bi (.aload_n 0) 1 [] 0, bi (.getfield 97) 3 [9, 38] 0, bi (.iload 7) 2 [] 0, bi (.iaload) 1 [] 0, bi (.ior) 1 [] 0, bi (.iastore) 1 [] 0]
theorem cX9_highest_48 : chk mX9_highest 48 kX9_highest_48 = true := by decide +kernel
theorem mhighest_48 {d : Nat} {σ : SG} {Q : Option AV → SG → Prop} {t sd lg rp l5 l6 l7 : Int} (h : (r3 l7 ∧ r3 l6) ∧ (l6 ≤ l7 → (0 ≤ l6 ∧ l6 < 30) ∧ (r3 (σ 70 l6)) ∧ ((σ 70 l6) = 0 → AW d mX9_highest 13 [some (.inr (.inr 42)), some (.inl t), some (.inl sd), some (.inl lg), some (.inl rp), some (.inl l5), some (.inl (l6 + 1)), none] [] σ Q) ∧ ((σ 70 l6) ≠ 0 → AW d mX9_highest 13 [some (.inr (.inr 42)), some (.inl t), some (.inl sd), some (.inl lg), some (.inl rp), some (.inl l6), some (.inl (l6 + 1)), none] [] σ Q)) ∧ (l7 < l6 → (r3 (l6 - l7) ∧ r3 lg) ∧ (lg < (l6 - l7) → AW d mX9_highest 81 [some (.inr (.inr 42)), some (.inl t), some (.inl sd), some (.inl lg), some (.inl rp), some (.inl l5), some (.inl l6), some (.inl l7)] [] σ Q) ∧ ((l6 - l7) ≤ lg → (0 ≤ l6 ∧ l6 < 30) ∧ (0 ≤ l7 ∧ l7 < 30) ∧ (0 ≤ l6 ∧ l6 < 30) ∧ AW d mX9_highest 81 [some (.inr (.inr 42)), some (.inl t), some (.inl sd), some (.inl lg), some (.inl rp), some (.inl l5), some (.inl l6), some (.inl l7)] [] (up σ 70 l6 (bor (σ 70 l6) (σ 70 l7))) Q))) : AW d mX9_highest 48 [some (.inr (.inr 42)), some (.inl t), some (.inl sd), some (.inl lg), some (.inl rp), some (.inl l5), some (.inl l6), some (.inl l7)] [] σ Q := AW.blk kX9_highest_48 cX9_highest_48 (⟨⟨((h).1).1, ((h).1).2⟩, ⟨fun c5 => AW.blk kX9_highest_136 cX9_highest_136 (⟨⟨((((h).2).1 c5).1).1, ((((h).2).1 c5).1).2⟩, ⟨((((h).2).1 c5).2).1, ⟨fun c3 => AW.blk kX9_highest_150 cX9_highest_150 (AW.drop 7 ((((((h).2).1 c5).2).2).1 c3)), fun c3 => AW.drop 7 ((((((h).2).1 c5).2).2).2 c3)⟩⟩⟩), fun c5 => ⟨⟨((((h).2).2 c5).1).1, ((((h).2).2 c5).1).2⟩, ⟨fun c4 => ((((h).2).2 c5).2).1 c4, fun c4 => ⟨⟨((((((h).2).2 c5).2).2 c4).1).1, ((((((h).2).2 c5).2).2 c4).1).2⟩, ⟨⟨(((((((h).2).2 c5).2).2 c4).2).1).1, (((((((h).2).2 c5).2).2 c4).2).1).2⟩, ⟨⟨((((((((h).2).2 c5).2).2 c4).2).2).1).1, ((((((((h).2).2 c5).2).2 c4).2).2).1).2⟩, (((((((h).2).2 c5).2).2 c4).2).2).2⟩⟩⟩⟩⟩⟩⟩)
def kX9_highest_130 : List BI := [bi (.iinc 7 (1)) 3 [] 0, bi (.goto (-85)) 3 [48] 0]
theorem cX9_highest_130 : chk mX9_highest 130 kX9_highest_130 = true := by decide +kernel
def kX9_highest_127 : List BI := [bi (.iconst 2) 1 [] 0, bi (.ior) 1 [] 0, bi (.iastore) 1 [] 0, bi (.iinc 7 (1)) 3 [] 0, bi (.goto (-85)) 3 [48] 0]
theorem cX9_highest_127 : chk mX9_highest 127 kX9_highest_127 = true := by decide +kernel
def kX9_highest_128 : List BI := [bi (.ior) 1 [] 0, bi (.iastore) 1 [] 0, bi (.iinc 7 (1)) 3 [] 0, bi (.goto (-85)) 3 [48] 0]
theorem cX9_highest_128 : chk mX9_highest 128 kX9_highest_128 = true := by decide +kernel
def kX9_highest_81 : List BI := [bi (.iload 6) 2 [] 0, bi (.iload 7) 2 [] 0, bi (.isub) 1 [] 0, bi (.iload_n 3) 1 [] 0, bi (.iload 4) 2 [] 0, bi (.iadd) 1 [] 0, bi (.if_icmp .gt (40)) 3 [130] 0, bi (.aload_n 0) 1 [] 0, bi (.getfield 97) 3 [9, 38] 0, bi (.iload 7) 2 [] 0, bi (.iaload) 1 [] 0, bi (.iconst 1) 1 [] 0, bi (.iand) 1 [] 0, bi (.iconst 1) 1 [] 0, bi (.if_icmp .ne (27)) 3 [130] 0, bi (.aload_n 0) 1 [] 0, bi (.getfield 97) 3 [9, 38] 0, bi (.iload 6) 2 [] 0, bi (.dup2) 1 [] 0, bi (.iaload) 1 [] 0, bi (.iload 6) 2 [] 0, bi (.iload 7) 2 [] 0, bi (.isub) 1 [] 0, bi (.iload_n 3) 1 [] 0, bi (.if_icmp .gt (7)) 3 [127] 0, bi (.iconst 1) 1 [] 0, bi (.goto (4)) 3 [128] 0]
theorem cX9_highest_81 : chk mX9_highest 81 kX9_highest_81 = true := by decide +kernel
theorem mhighest_81 {d : Nat} {σ : SG} {Q : Option AV → SG → Prop} {t sd lg rp l5 l6 l7 : Int} (h : (r3 (l6 - l7) ∧ r3 (lg + rp)) ∧ ((lg + rp) < (l6 - l7) → AW d mX9_highest 48 [some (.inr (.inr 42)), some (.inl t), some (.inl sd), some (.inl lg), some (.inl rp), some (.inl l5), some (.inl l6), some (.inl (l7 + 1))] [] σ Q) ∧ ((l6 - l7) ≤ (lg + rp) → (0 ≤ l7 ∧ l7 < 30) ∧ (r3 (band (σ 70 l7) 1)) ∧ ((band (σ 70 l7) 1) ≠ 1 → AW d mX9_highest 48 [some (.inr (.inr 42)), some (.inl t), some (.inl sd), some (.inl lg), some (.inl rp), some (.inl l5), some (.inl l6), some (.inl (l7 + 1))] [] σ Q) ∧ ((band (σ 70 l7) 1) = 1 → (0 ≤ l6 ∧ l6 < 30) ∧ (r3 (l6 - l7) ∧ r3 lg) ∧ (lg < (l6 - l7) → (0 ≤ l6 ∧ l6 < 30) ∧ AW d mX9_highest 48 [some (.inr (.inr 42)), some (.inl t), some (.inl sd), some (.inl lg), some (.inl rp), some (.inl l5), some (.inl l6), some (.inl (l7 + 1))] [] (up σ 70 l6 (bor (σ 70 l6) 2)) Q) ∧ ((l6 - l7) ≤ lg → (0 ≤ l6 ∧ l6 < 30) ∧ AW d mX9_highest 48 [some (.inr (.inr 42)), some (.inl t), some (.inl sd), some (.inl lg), some (.inl rp), some (.inl l5), some (.inl l6), some (.inl (l7 + 1))] [] (up σ 70 l6 (bor (σ 70 l6) 1)) Q)))) : AW d mX9_highest 81 [some (.inr (.inr 42)), some (.inl t), some (.inl sd), some (.inl lg), some (.inl rp), some (.inl l5), some (.inl l6), some (.inl l7)] [] σ Q := AW.blk kX9_highest_81 cX9_highest_81 (⟨⟨((h).1).1, ((h).1).2⟩, ⟨fun c8 => AW.blk kX9_highest_130 cX9_highest_130 (((h).2).1 c8), fun c8 => ⟨⟨((((h).2).2 c8).1).1, ((((h).2).2 c8).1).2⟩, ⟨⟨((((h).2).2 c8).2).1, (by decide)⟩, ⟨fun c7 => AW.blk kX9_highest_130 cX9_highest_130 ((((((h).2).2 c8).2).2).1 c7), fun c7 => ⟨⟨(((((((h).2).2 c8).2).2).2 c7).1).1, (((((((h).2).2 c8).2).2).2 c7).1).2⟩, ⟨⟨((((((((h).2).2 c8).2).2).2 c7).2).1).1, ((((((((h).2).2 c8).2).2).2 c7).2).1).2⟩, ⟨fun c6 => AW.blk kX9_highest_127 cX9_highest_127 (⟨⟨((((((((((h).2).2 c8).2).2).2 c7).2).2).1 c6).1).1, ((((((((((h).2).2 c8).2).2).2 c7).2).2).1 c6).1).2⟩, (((((((((h).2).2 c8).2).2).2 c7).2).2).1 c6).2⟩), fun c6 => AW.blk kX9_highest_128 cX9_highest_128 (⟨⟨((((((((((h).2).2 c8).2).2).2 c7).2).2).2 c6).1).1, ((((((((((h).2).2 c8).2).2).2 c7).2).2).2 c6).1).2⟩, (((((((((h).2).2 c8).2).2).2 c7).2).2).2 c6).2⟩)⟩⟩⟩⟩⟩⟩⟩⟩)
def upf (f : Int → Int) (s v : Int) : Int → Int := fun j => if j = s then v else f j
theorem upf_at (f : Int → Int) (s v : Int) : upf f s v s = v := by simp [upf]
theorem upf_ne {f : Int → Int} {s v j : Int} (h : j ≠ s) : upf f s v j = f j := by simp [upf, h]
theorem upf_upf (f : Int → Int) (s v w : Int) : upf (upf f s v) s w = upf f s w := by
  funext j
  simp only [upf]
  split <;> rfl
theorem putF_upf (σ : SG) (p : Nat) (f : Int → Int) (i v : Int) : up (putF σ p f) p i v = putF σ p (upf f i v) := putF_up σ p f i v
theorem bor_3 {x y : Int} (h1 : 0 ≤ x ∧ x ≤ 3) (h2 : 0 ≤ y ∧ y ≤ 3) : 0 ≤ bor x y ∧ bor x y ≤ 3 := by
  unfold bor
  have := Nat.or_lt_two_pow (n := 2) (x := un x) (y := un y) (by rw [un_of h1.1 (by omega)]; omega) (by rw [un_of h2.1 (by omega)]; omega)
  omega
/-- what a step is reached by (1 by legs, 2 with the rope used), looked at from step j -/
def inS (f : Int → Int) (lg rp s : Int) : Int → Int → Int := fun j a => if s - j ≤ lg then (if s - j ≤ lg + rp ∧ band (f j) 1 = 1 then bor (bor a (f j)) 1 else bor a (f j)) else (if s - j ≤ lg + rp ∧ band (f j) 1 = 1 then bor a 2 else a)
theorem inS_r {f : Int → Int} {lg rp s : Int} (hf : ∀ j, 0 ≤ j → j < s → 0 ≤ f j ∧ f j ≤ 3) : ∀ k, 0 ≤ k → k ≤ s → 0 ≤ foI (inS f lg rp s) 0 k ∧ foI (inS f lg rp s) 0 k ≤ 3 := by
  have key : ∀ n : Nat, (n : Int) ≤ s → 0 ≤ foI (inS f lg rp s) 0 n ∧ foI (inS f lg rp s) 0 n ≤ 3 := by
    intro n
    induction n with
    | zero => intro _; exact ⟨Int.le_refl 0, by show (0 : Int) ≤ 3; decide⟩
    | succ n ih =>
      intro hn
      have ih := ih (by omega)
      have hj := hf n (by omega) (by omega)
      rw [show ((n + 1 : Nat) : Int) = (n : Int) + 1 by omega, foI_s _ _ (by omega)]
      have b1 := bor_3 ih hj
      unfold inS
      split
      · split
        · exact bor_3 b1 ⟨by decide, by decide⟩
        · exact b1
      · split
        · exact bor_3 ih ⟨by decide, by decide⟩
        · exact ih
  intro k h0 h1
  have := key k.toNat (by omega)
  rwa [show ((k.toNat : Nat) : Int) = k by omega] at this
theorem hi_inner {d : Nat} {σ : SG} {Q : Option AV → SG → Prop} {t sd lg rp b s : Int} {f : Int → Int} (hs : 1 ≤ s ∧ s ≤ 14) (hl : 0 ≤ lg ∧ lg ≤ 100) (hr : 0 ≤ rp ∧ rp ≤ 100) (hf : ∀ j, 0 ≤ j → j < s → 0 ≤ f j ∧ f j ≤ 3)
    (hq : AW d mX9_highest 48 [some (.inr (.inr 42)), some (.inl t), some (.inl sd), some (.inl lg), some (.inl rp), some (.inl b), some (.inl s), some (.inl s)] [] (putF σ 70 (upf f s (foI (inS f lg rp s) 0 s))) Q) :
    AW d mX9_highest 48 [some (.inr (.inr 42)), some (.inl t), some (.inl sd), some (.inl lg), some (.inl rp), some (.inl b), some (.inl s), some (.inl 0)] [] (putF σ 70 (upf f s 0)) Q := by
  refine downInd (P := fun k => AW d mX9_highest 48 [some (.inr (.inr 42)), some (.inl t), some (.inl sd), some (.inl lg), some (.inl rp), some (.inl b), some (.inl s), some (.inl k)] [] (putF σ 70 (upf f s (foI (inS f lg rp s) 0 k))) Q) (lo := 0) (hi := s) (by omega) hq ?_
  intro k h0 h1 ih
  have ha := inS_r (lg := lg) (rp := rp) hf k h0 (by omega)
  have hj := hf k h0 h1
  rw [foI_s _ _ h0] at ih
  generalize hav : foI (inS f lg rp s) 0 k = a at ha ih ⊢
  have e1 : ∀ v, upf f s v k = f k := fun v => upf_ne (by omega)
  have hb : ∀ x y : Int, 0 ≤ x ∧ x ≤ 3 → r3 (band x y) := fun x y h => band_r3 h.1 (by omega)
  -- the second half, from any value of the step at hand
  have snd : ∀ v, 0 ≤ v ∧ v ≤ 3 → (inS f lg rp s k a = if s - k ≤ lg + rp ∧ band (f k) 1 = 1 then bor v (if s - k ≤ lg then 1 else 2) else v) →
      AW d mX9_highest 81 [some (.inr (.inr 42)), some (.inl t), some (.inl sd), some (.inl lg), some (.inl rp), some (.inl b), some (.inl s), some (.inl k)] [] (putF σ 70 (upf f s v)) Q := by
    intro v hv e
    rw [e] at ih
    refine mhighest_81 ⟨by omega, fun c => ?_, fun c => ⟨by omega, ?_, fun c2 => ?_, fun c2 => ⟨by omega, by omega, fun c3 => ⟨by omega, ?_⟩, fun c3 => ⟨by omega, ?_⟩⟩⟩⟩
    · rwa [if_neg (fun z => by omega)] at ih
    · rw [putF_at, e1]
      exact hb _ _ hj
    · rw [putF_at, e1] at c2
      rwa [if_neg (fun z => c2 z.2)] at ih
    · rw [putF_at, e1] at c2
      rw [if_pos ⟨c, c2⟩, if_neg (by omega)] at ih
      rw [putF_upf, putF_at, upf_at, upf_upf]
      exact ih
    · rw [putF_at, e1] at c2
      rw [if_pos ⟨c, c2⟩, if_pos c3] at ih
      rw [putF_upf, putF_at, upf_at, upf_upf]
      exact ih
  refine mhighest_48 ⟨by omega, fun c => by omega, fun c => ⟨by omega, fun c2 => ?_, fun c2 => ⟨by omega, by omega, by omega, ?_⟩⟩⟩
  · refine snd a ha ?_
    unfold inS
    rw [if_neg (by omega), if_neg (show ¬ s - k ≤ lg by omega)]
  · rw [putF_upf, putF_at, upf_at, upf_upf, e1]
    refine snd _ (bor_3 ha hj) ?_
    unfold inS
    rw [if_pos c2, if_pos c2]
/-- one step more: the row and the highest step reached so far -/
def hiF (sd lg rp : Int) : Int → (Int → Int) × Int → (Int → Int) × Int := fun i q => if tb sd i.toNat = true then (upf q.1 (i + 1) (foI (inS q.1 lg rp (i + 1)) 0 (i + 1)), if foI (inS q.1 lg rp (i + 1)) 0 (i + 1) = 0 then q.2 else i + 1) else (upf q.1 (i + 1) 0, q.2)
def hiV (g : Int → Int) (sd lg rp h : Int) : (Int → Int) × Int := foI (hiF sd lg rp) (upf g 0 1, 0) h
theorem hiV_s (g : Int → Int) (sd lg rp : Int) {i : Int} (h : 0 ≤ i) : hiV g sd lg rp (i + 1) = hiF sd lg rp i (hiV g sd lg rp i) := foI_s _ _ h
theorem hiV_r (g : Int → Int) (sd lg rp : Int) : ∀ n : Nat, (∀ j, 0 ≤ j → j ≤ (n : Int) → 0 ≤ (hiV g sd lg rp n).1 j ∧ (hiV g sd lg rp n).1 j ≤ 3) ∧ 0 ≤ (hiV g sd lg rp n).2 ∧ (hiV g sd lg rp n).2 ≤ n := by
  intro n
  induction n with
  | zero =>
    refine ⟨fun j h0 h1 => ?_, Int.le_refl 0, Int.le_refl 0⟩
    obtain rfl : j = 0 := by omega
    show 0 ≤ upf g 0 1 0 ∧ upf g 0 1 0 ≤ 3
    rw [upf_at]
    omega
  | succ n ih =>
    have hv := inS_r (f := (hiV g sd lg rp n).1) (lg := lg) (rp := rp) (s := (n : Int) + 1) (fun j h0 h1 => ih.1 j h0 (by omega)) ((n : Int) + 1) (by omega) (Int.le_refl _)
    rw [show ((n + 1 : Nat) : Int) = (n : Int) + 1 by omega, hiV_s g sd lg rp (i := (n : Int)) (by omega)]
    unfold hiF
    split
    · refine ⟨fun j h0 h1 => ?_, ?_⟩
      · show 0 ≤ upf _ _ _ j ∧ upf _ _ _ j ≤ 3
        by_cases hj : j = (n : Int) + 1
        · rw [hj, upf_at]
          exact hv
        · rw [upf_ne hj]
          exact ih.1 j h0 (by omega)
      · show 0 ≤ ite _ _ _ ∧ ite _ _ _ ≤ _
        have := ih.2
        split <;> omega
    · refine ⟨fun j h0 h1 => ?_, ?_⟩
      · show 0 ≤ upf _ _ _ j ∧ upf _ _ _ j ≤ 3
        by_cases hj : j = (n : Int) + 1
        · rw [hj, upf_at]
          omega
        · rw [upf_ne hj]
          exact ih.1 j h0 (by omega)
      · have := ih.2
        show 0 ≤ (hiV g sd lg rp n).2 ∧ (hiV g sd lg rp n).2 ≤ _
        omega
abbrev higO (d : Nat) (σ : SG) (t sd lg rp : Int) : Prop := 1 ≤ d ∧ 0 ≤ t ∧ t < 4 ∧ 0 ≤ σ 63 (8 + 2 * t) ∧ σ 63 (8 + 2 * t) ≤ 14 ∧ 0 ≤ sd ∧ sd < 16384 ∧ 0 ≤ lg ∧ lg ≤ 100 ∧ 0 ≤ rp ∧ rp ≤ 100
theorem mhighest_ok {d : Nat} {σ : SG} {Q : Option AV → SG → Prop} {t sd lg rp : Int} (h : higO d σ t sd lg rp ∧ ∀ f : Int → Int, Q (some (.inl (hiV (σ 70) sd lg rp (σ 63 (8 + 2 * t))).2)) (putF σ 70 f)) : AW d mX9_highest 0 [some (.inr (.inr 42)), some (.inl t), some (.inl sd), some (.inl lg), some (.inl rp), none, none, none] [] σ Q := by
  obtain ⟨⟨hd, ht0, ht1, hh0, hh1, hs0, hs1, hl0, hl1, hr0, hr1⟩, hq⟩ := h
  have e63 : ∀ f, putF σ 70 f 63 = σ 63 := fun f => putF_ne (by decide)
  generalize hg : σ 70 = g at hq
  refine mhighest_0 ?_
  rw [up_putF, hg]
  show AW d mX9_highest 13 [some (.inr (.inr 42)), some (.inl t), some (.inl sd), some (.inl lg), some (.inl rp), some (.inl (hiV g sd lg rp 0).2), some (.inl (0 + 1)), none] [] (putF σ 70 (hiV g sd lg rp 0).1) Q
  refine downInd (P := fun i => AW d mX9_highest 13 [some (.inr (.inr 42)), some (.inl t), some (.inl sd), some (.inl lg), some (.inl rp), some (.inl (hiV g sd lg rp i).2), some (.inl (i + 1)), none] [] (putF σ 70 (hiV g sd lg rp i).1) Q) (lo := 0) (hi := σ 63 (8 + 2 * t)) hh0 ?_ ?_
  · refine mhighest_13 ?_
    rw [e63]
    exact ⟨by omega, by omega, by omega, fun _ => hq _, fun c => by omega⟩
  · intro i h0 h1 ih
    have hr := hiV_r g sd lg rp i.toNat
    rw [show ((i.toNat : Nat) : Int) = i by omega] at hr
    rw [hiV_s g sd lg rp h0] at ih
    generalize hiV g sd lg rp i = q at hr ih ⊢
    have ei : (i + 1 - 1).toNat = i.toNat := by omega
    have e := sh1 (x := sd) (k := i.toNat) hs0 (by omega)
    refine mhighest_13 ?_
    rw [e63, putF_upf, ei, e]
    refine ⟨by omega, by omega, by omega, fun c => by omega, fun c => ⟨by omega, by omega, by split <;> omega, fun c2 => ?_, fun c2 => ?_⟩⟩
    · have hb : tb sd i.toNat = true := by
        split at c2
        · assumption
        · exact absurd rfl c2
      unfold hiF at ih
      rw [if_pos hb] at ih
      refine hi_inner (by omega) (by omega) (by omega) (fun j g0 g1 => hr.1 j g0 (by omega)) ?_
      have hv := inS_r (f := q.1) (lg := lg) (rp := rp) (s := i + 1) (fun j g0 g1 => hr.1 j g0 (by omega)) (i + 1) (by omega) (Int.le_refl _)
      refine mhighest_48 ⟨by omega, fun _ => ⟨by omega, ?_, fun c3 => ?_, fun c3 => ?_⟩, fun c3 => by omega⟩
      · rw [putF_at, upf_at]
        omega
      · rw [putF_at, upf_at] at c3
        rw [if_pos c3] at ih
        exact ih
      · rw [putF_at, upf_at] at c3
        rw [if_neg c3] at ih
        exact ih
    · have hb : ¬ tb sd i.toNat = true := by
        split at c2
        · exact absurd c2 (by decide)
        · assumption
      unfold hiF at ih
      rw [if_neg hb] at ih
      exact ih
