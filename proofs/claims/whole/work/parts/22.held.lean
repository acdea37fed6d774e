/-! ===== State and Realm: more loops (wip/whole/gen22.py) ===== -/
def kX6_bentSteps_0 : List BI := [bi (.iconst 0) 1 [] 0, bi (.istore_n 1) 1 [] 0, bi (.iconst 0) 1 [] 0, bi (.istore_n 2) 1 [] 0]
theorem cX6_bentSteps_0 : chk mX6_bentSteps 0 kX6_bentSteps_0 = true := by decide +kernel
theorem bentSteps_0 {d : Nat} {σ : SG} {Q : Option AV → SG → Prop} {p : Nat} (hp : p = 34 ∨ p = 36) (h : AW d mX6_bentSteps 4 [some (.inr (.inr p)), some (.inl 0), some (.inl 0)] [] σ Q) : AW d mX6_bentSteps 0 [some (.inr (.inr p)), none, none] [] σ Q := by
  rcases hp with rfl | rfl <;> exact AW.blk kX6_bentSteps_0 cX6_bentSteps_0 (h)
def kX6_bentSteps_30 : List BI := [bi (.iload_n 1) 1 [] 0, bi (.ireturn) 1 [] 0]
theorem cX6_bentSteps_30 : chk mX6_bentSteps 30 kX6_bentSteps_30 = true := by decide +kernel
def kX6_bentSteps_4 : List BI := [bi (.iload_n 2) 1 [] 0, bi (.iconst 4) 1 [] 0, bi (.if_icmp .ge (24)) 3 [30] 0, bi (.iload_n 1) 1 [] 0, bi (.aload_n 0) 1 [] 0, bi (.getfield 11) 3 [6, 0] 0, bi (.bipush (14)) 2 [] 0, bi (.iload_n 2) 1 [] 0, bi (.iadd) 1 [] 0, bi (.iaload) 1 [] 0, bi (.invokestatic 65) 3 [mJ6_bitCount_0f7a4, 1, 1] 0, bi (.iadd) 1 [] 0, bi (.istore_n 1) 1 [] 0, bi (.iinc 2 (1)) 3 [] 0, bi (.goto (-23)) 3 [4] 0]
theorem cX6_bentSteps_4 : chk mX6_bentSteps 4 kX6_bentSteps_4 = true := by decide +kernel
theorem bentSteps_4 {d : Nat} {σ : SG} {Q : Option AV → SG → Prop} {l1 l2 : Int} {p : Nat} (hp : p = 34 ∨ p = 36) (h : (r3 l2) ∧ (4 ≤ l2 → Q (some (.inl l1)) σ) ∧ (l2 < 4 → (0 ≤ (14 + l2) ∧ (14 + l2) < 214) ∧ (0 < d) ∧ (0 ≤ (σ (p + 1) (14 + l2)) ∧ (σ (p + 1) (14 + l2)) < 16384) ∧ AW d mX6_bentSteps 4 [some (.inr (.inr p)), some (.inl (l1 + (popc (σ (p + 1) (14 + l2))))), some (.inl (l2 + 1))] [] σ Q)) : AW d mX6_bentSteps 4 [some (.inr (.inr p)), some (.inl l1), some (.inl l2)] [] σ Q := by
  rcases hp with rfl | rfl <;> exact AW.blk kX6_bentSteps_4 cX6_bentSteps_4 (⟨⟨(h).1, (by decide)⟩, ⟨fun c1 => AW.blk kX6_bentSteps_30 cX6_bentSteps_30 (((h).2).1 c1), fun c1 => ⟨⟨((((h).2).2 c1).1).1, ((((h).2).2 c1).1).2⟩, ⟨((((h).2).2 c1).2).1, bitCount_ok ⟨(((((h).2).2 c1).2).2).1, (((((h).2).2 c1).2).2).2⟩⟩⟩⟩⟩)
def kX4_leastLegs_0 : List BI := [bi (.iconst (-1)) 1 [] 0, bi (.istore_n 2) 1 [] 0, bi (.iconst 0) 1 [] 0, bi (.istore_n 3) 1 [] 0]
theorem cX4_leastLegs_0 : chk mX4_leastLegs 0 kX4_leastLegs_0 = true := by decide +kernel
theorem leastLegs_0 {d : Nat} {σ : SG} {Q : Option AV → SG → Prop} {t : Int} {r : Nat} (hr : r = 5 ∨ r = 16) (h : AW d mX4_leastLegs 4 [some (.inr (.inr r)), some (.inl t), some (.inl ((-1))), some (.inl 0)] [] σ Q) : AW d mX4_leastLegs 0 [some (.inr (.inr r)), some (.inl t), none, none] [] σ Q := by
  rcases hr with rfl | rfl <;> exact AW.blk kX4_leastLegs_0 cX4_leastLegs_0 (h)
def kX4_leastLegs_50 : List BI := [bi (.iload_n 2) 1 [] 0, bi (.ireturn) 1 [] 0]
theorem cX4_leastLegs_50 : chk mX4_leastLegs 50 kX4_leastLegs_50 = true := by decide +kernel
def kX4_leastLegs_44 : List BI := [bi (.iinc 3 (1)) 3 [] 0, bi (.goto (-43)) 3 [4] 0]
theorem cX4_leastLegs_44 : chk mX4_leastLegs 44 kX4_leastLegs_44 = true := by decide +kernel
def kX4_leastLegs_37 : List BI := [bi (.aload_n 0) 1 [] 0, bi (.getfield 46) 3 [4, 11] 0, bi (.iload_n 3) 1 [] 0, bi (.iaload) 1 [] 0, bi (.istore_n 2) 1 [] 0, bi (.iinc 3 (1)) 3 [] 0, bi (.goto (-43)) 3 [4] 0]
theorem cX4_leastLegs_37 : chk mX4_leastLegs 37 kX4_leastLegs_37 = true := by decide +kernel
def kX4_leastLegs_4 : List BI := [bi (.iload_n 3) 1 [] 0, bi (.aload_n 0) 1 [] 0, bi (.getfield 15) 3 [4, 1] 0, bi (.if_icmp .ge (41)) 3 [50] 0, bi (.aload_n 0) 1 [] 0, bi (.getfield 43) 3 [4, 10] 0, bi (.iload_n 3) 1 [] 0, bi (.iaload) 1 [] 0, bi (.iload_n 1) 1 [] 0, bi (.if_icmp .ne (25)) 3 [44] 0, bi (.iload_n 2) 1 [] 0, bi (.iconst (-1)) 1 [] 0, bi (.if_icmp .eq (13)) 3 [37] 0, bi (.aload_n 0) 1 [] 0, bi (.getfield 46) 3 [4, 11] 0, bi (.iload_n 3) 1 [] 0, bi (.iaload) 1 [] 0, bi (.iload_n 2) 1 [] 0, bi (.if_icmp .ge (10)) 3 [44] 0, bi (.aload_n 0) 1 [] 0, bi (.getfield 46) 3 [4, 11] 0, bi (.iload_n 3) 1 [] 0, bi (.iaload) 1 [] 0, bi (.istore_n 2) 1 [] 0, bi (.iinc 3 (1)) 3 [] 0, bi (.goto (-43)) 3 [4] 0]
theorem cX4_leastLegs_4 : chk mX4_leastLegs 4 kX4_leastLegs_4 = true := by decide +kernel
theorem leastLegs_4 {d : Nat} {σ : SG} {Q : Option AV → SG → Prop} {t l2 l3 : Int} {r : Nat} (hr : r = 5 ∨ r = 16) (h : (r3 l3 ∧ r3 (σ r 1)) ∧ ((σ r 1) ≤ l3 → Q (some (.inl l2)) σ) ∧ (l3 < (σ r 1) → (0 ≤ l3 ∧ l3 < 8) ∧ (r3 (σ (r + 6) l3) ∧ r3 t) ∧ ((σ (r + 6) l3) ≠ t → AW d mX4_leastLegs 4 [some (.inr (.inr r)), some (.inl t), some (.inl l2), some (.inl (l3 + 1))] [] σ Q) ∧ ((σ (r + 6) l3) = t → (r3 l2) ∧ (l2 = (-1) → (0 ≤ l3 ∧ l3 < 8) ∧ AW d mX4_leastLegs 4 [some (.inr (.inr r)), some (.inl t), some (.inl (σ (r + 7) l3)), some (.inl (l3 + 1))] [] σ Q) ∧ (l2 ≠ (-1) → (0 ≤ l3 ∧ l3 < 8) ∧ (r3 (σ (r + 7) l3) ∧ r3 l2) ∧ (l2 ≤ (σ (r + 7) l3) → AW d mX4_leastLegs 4 [some (.inr (.inr r)), some (.inl t), some (.inl l2), some (.inl (l3 + 1))] [] σ Q) ∧ ((σ (r + 7) l3) < l2 → (0 ≤ l3 ∧ l3 < 8) ∧ AW d mX4_leastLegs 4 [some (.inr (.inr r)), some (.inl t), some (.inl (σ (r + 7) l3)), some (.inl (l3 + 1))] [] σ Q))))) : AW d mX4_leastLegs 4 [some (.inr (.inr r)), some (.inl t), some (.inl l2), some (.inl l3)] [] σ Q := by
  rcases hr with rfl | rfl <;> exact AW.blk kX4_leastLegs_4 cX4_leastLegs_4 (⟨⟨((h).1).1, ((h).1).2⟩, ⟨fun c5 => AW.blk kX4_leastLegs_50 cX4_leastLegs_50 (((h).2).1 c5), fun c5 => ⟨⟨((((h).2).2 c5).1).1, ((((h).2).2 c5).1).2⟩, ⟨⟨(((((h).2).2 c5).2).1).1, (((((h).2).2 c5).2).1).2⟩, ⟨fun c4 => AW.blk kX4_leastLegs_44 cX4_leastLegs_44 ((((((h).2).2 c5).2).2).1 c4), fun c4 => ⟨⟨((((((h).2).2 c5).2).2).2 c4).1, (by decide)⟩, ⟨fun c3 => AW.blk kX4_leastLegs_37 cX4_leastLegs_37 (⟨⟨(((((((((h).2).2 c5).2).2).2 c4).2).1 c3).1).1, (((((((((h).2).2 c5).2).2).2 c4).2).1 c3).1).2⟩, ((((((((h).2).2 c5).2).2).2 c4).2).1 c3).2⟩), fun c3 => ⟨⟨(((((((((h).2).2 c5).2).2).2 c4).2).2 c3).1).1, (((((((((h).2).2 c5).2).2).2 c4).2).2 c3).1).2⟩, ⟨⟨((((((((((h).2).2 c5).2).2).2 c4).2).2 c3).2).1).1, ((((((((((h).2).2 c5).2).2).2 c4).2).2 c3).2).1).2⟩, ⟨fun c2 => AW.blk kX4_leastLegs_44 cX4_leastLegs_44 (((((((((((h).2).2 c5).2).2).2 c4).2).2 c3).2).2).1 c2), fun c2 => ⟨⟨((((((((((((h).2).2 c5).2).2).2 c4).2).2 c3).2).2).2 c2).1).1, ((((((((((((h).2).2 c5).2).2).2 c4).2).2 c3).2).2).2 c2).1).2⟩, (((((((((((h).2).2 c5).2).2).2 c4).2).2 c3).2).2).2 c2).2⟩⟩⟩⟩⟩⟩⟩⟩⟩⟩⟩)
def kX4_guardsOf_0 : List BI := [bi (.iconst 0) 1 [] 0, bi (.istore_n 2) 1 [] 0, bi (.iconst 0) 1 [] 0, bi (.istore_n 3) 1 [] 0]
theorem cX4_guardsOf_0 : chk mX4_guardsOf 0 kX4_guardsOf_0 = true := by decide +kernel
theorem guardsOf_0 {d : Nat} {σ : SG} {Q : Option AV → SG → Prop} {t : Int} {r : Nat} (hr : r = 5 ∨ r = 16) (h : AW d mX4_guardsOf 4 [some (.inr (.inr r)), some (.inl t), some (.inl 0), some (.inl 0)] [] σ Q) : AW d mX4_guardsOf 0 [some (.inr (.inr r)), some (.inl t), none, none] [] σ Q := by
  rcases hr with rfl | rfl <;> exact AW.blk kX4_guardsOf_0 cX4_guardsOf_0 (h)
def kX4_guardsOf_31 : List BI := [bi (.iload_n 2) 1 [] 0, bi (.ireturn) 1 [] 0]
theorem cX4_guardsOf_31 : chk mX4_guardsOf 31 kX4_guardsOf_31 = true := by decide +kernel
def kX4_guardsOf_25 : List BI := [bi (.iinc 3 (1)) 3 [] 0, bi (.goto (-24)) 3 [4] 0]
theorem cX4_guardsOf_25 : chk mX4_guardsOf 25 kX4_guardsOf_25 = true := by decide +kernel
def kX4_guardsOf_4 : List BI := [bi (.iload_n 3) 1 [] 0, bi (.aload_n 0) 1 [] 0, bi (.getfield 15) 3 [4, 1] 0, bi (.if_icmp .ge (22)) 3 [31] 0, bi (.aload_n 0) 1 [] 0, bi (.getfield 43) 3 [4, 10] 0, bi (.iload_n 3) 1 [] 0, bi (.iaload) 1 [] 0, bi (.iload_n 1) 1 [] 0, bi (.if_icmp .ne (6)) 3 [25] 0, bi (.iinc 2 (1)) 3 [] 0, bi (.iinc 3 (1)) 3 [] 0, bi (.goto (-24)) 3 [4] 0]
theorem cX4_guardsOf_4 : chk mX4_guardsOf 4 kX4_guardsOf_4 = true := by decide +kernel
theorem guardsOf_4 {d : Nat} {σ : SG} {Q : Option AV → SG → Prop} {t l2 l3 : Int} {r : Nat} (hr : r = 5 ∨ r = 16) (h : (r3 l3 ∧ r3 (σ r 1)) ∧ ((σ r 1) ≤ l3 → Q (some (.inl l2)) σ) ∧ (l3 < (σ r 1) → (0 ≤ l3 ∧ l3 < 8) ∧ (r3 (σ (r + 6) l3) ∧ r3 t) ∧ ((σ (r + 6) l3) ≠ t → AW d mX4_guardsOf 4 [some (.inr (.inr r)), some (.inl t), some (.inl l2), some (.inl (l3 + 1))] [] σ Q) ∧ ((σ (r + 6) l3) = t → AW d mX4_guardsOf 4 [some (.inr (.inr r)), some (.inl t), some (.inl (l2 + 1)), some (.inl (l3 + 1))] [] σ Q))) : AW d mX4_guardsOf 4 [some (.inr (.inr r)), some (.inl t), some (.inl l2), some (.inl l3)] [] σ Q := by
  rcases hr with rfl | rfl <;> exact AW.blk kX4_guardsOf_4 cX4_guardsOf_4 (⟨⟨((h).1).1, ((h).1).2⟩, ⟨fun c7 => AW.blk kX4_guardsOf_31 cX4_guardsOf_31 (((h).2).1 c7), fun c7 => ⟨⟨((((h).2).2 c7).1).1, ((((h).2).2 c7).1).2⟩, ⟨⟨(((((h).2).2 c7).2).1).1, (((((h).2).2 c7).2).1).2⟩, ⟨fun c6 => AW.blk kX4_guardsOf_25 cX4_guardsOf_25 ((((((h).2).2 c7).2).2).1 c6), fun c6 => (((((h).2).2 c7).2).2).2 c6⟩⟩⟩⟩⟩)
/-- what a realm keeps to -/
def RLM (σ : SG) (r : Nat) : Prop := (0 ≤ σ r 0 ∧ σ r 0 ≤ 4) ∧ (0 ≤ σ r 1 ∧ σ r 1 ≤ 8) ∧ (∀ t, 0 ≤ t → t < σ r 0 → 3 ≤ σ (r + 2) t ∧ σ (r + 2) t ≤ 14 ∧ 0 ≤ σ (r + 3) t ∧ σ (r + 3) t ≤ 99) ∧ (∀ g, 0 ≤ g → g < σ r 1 → 0 ≤ σ (r + 6) g ∧ σ (r + 6) g < σ r 0 ∧ 1 ≤ σ (r + 7) g ∧ σ (r + 7) g ≤ 6 ∧ 0 ≤ σ (r + 8) g ∧ σ (r + 8) g ≤ 6) ∧ (1 ≤ σ r 4 ∧ σ r 4 ≤ 99) ∧ ∀ k, 0 ≤ k → k ≤ 6 → 0 ≤ σ (r + 9) k ∧ σ (r + 9) k ≤ 99
/-- what the step bits of a state keep to -/
def SR (f : Int → Int) : Prop := ∀ t, 0 ≤ t → t < 4 → (0 ≤ f (6 + t) ∧ f (6 + t) < 16384) ∧ (0 ≤ f (10 + t) ∧ f (10 + t) < 16384) ∧ (0 ≤ f (14 + t) ∧ f (14 + t) < 16384) ∧ (0 ≤ f (18 + t) ∧ f (18 + t) < 16384)
theorem bor_r {x y : Int} (h1 : 0 ≤ x ∧ x < 16384) (h2 : 0 ≤ y ∧ y < 16384) : 0 ≤ bor x y ∧ bor x y < 16384 := by
  unfold bor
  have := Nat.or_lt_two_pow (n := 14) (x := un x) (y := un y) (by rw [un_of h1.1 (by omega)]; omega) (by rw [un_of h2.1 (by omega)]; omega)
  omega
def boB (f : Int → Int) (t : Int) : Int → Int → Int := fun i a => if f (22 + i * 8 + 7) ≠ 1 ∧ f (22 + i * 8 + 0) = t then bor a (1 * 2 ^ (f (22 + i * 8 + 2)).toNat) else a
theorem borrowersOf_ok {d : Nat} {σ : SG} {Q : Option AV → SG → Prop} {t : Int} {p : Nat} (hp : p = 34 ∨ p = 36) (h : (2 ≤ d ∧ LR (σ (p + 1)) ∧ r3 t) ∧ Q (some (.inl (foI (boB (σ (p + 1)) t) 0 (σ (p + 1) 1)))) σ) : AW d mX6_borrowersOf 0 [some (.inr (.inr p)), some (.inl t), none, none] [] σ Q := by
  obtain ⟨⟨hd, ⟨hc, hL⟩, ht⟩, hq⟩ := h
  refine borrowersOf_0 hp ?_
  refine downInd (P := fun i => AW d mX6_borrowersOf 4 [some (.inr (.inr p)), some (.inl t), some (.inl (foI (boB (σ (p + 1)) t) 0 i)), some (.inl i)] [] σ Q) (hi := σ (p + 1) 1) hc.1 ?_ ?_
  · exact borrowersOf_4 hp ⟨by omega, by omega, fun _ => hq, fun c => by omega⟩
  · intro i h0 h1 ih
    have hi := hL i h0 h1
    rw [foI_s _ _ h0] at ih
    refine borrowersOf_4 hp ⟨by omega, by omega, fun c => by omega, fun _ => ⟨by omega, by omega, by omega, by omega, fun c => ⟨by omega, by omega, by omega, fun c2 => ?_, fun c2 => ⟨by omega, by omega, by omega, ?_⟩⟩, fun c => ?_⟩⟩
    · rwa [boB, if_neg (fun z => c2 z.2)] at ih
    · rwa [boB, if_pos ⟨c, c2⟩] at ih
    · rwa [boB, if_neg (fun z => z.1 c)] at ih
/-- the lowest step below or at ht on which one can't stand; 0 if there is none -/
def lowO (sd : Int) (ht : Int) : Int := fstI (fun i => !tb sd i.toNat) ht + 1
theorem lowestOpen_ok {d : Nat} {σ : SG} {Q : Option AV → SG → Prop} {t ht : Int} {p : Nat} (hp : p = 34 ∨ p = 36) (h : (1 ≤ d ∧ SR (σ (p + 1)) ∧ 0 ≤ t ∧ t < 4 ∧ 0 ≤ ht ∧ ht ≤ 14) ∧ Q (some (.inl (lowO (bor (σ (p + 1) (6 + t)) (σ (p + 1) (18 + t))) ht))) σ) : AW d mX6_lowestOpen 0 [some (.inr (.inr p)), some (.inl t), some (.inl ht), none, none] [] σ Q := by
  obtain ⟨⟨hd, hR, h1, h2, h3, h4⟩, hq⟩ := h
  have hr := hR t h1 h2
  have hb := bor_r hr.1 hr.2.2.2
  generalize hsd : bor (σ (p + 1) (6 + t)) (σ (p + 1) (18 + t)) = sd at hq hb
  refine lowestOpen_0 hp ⟨by omega, by omega, by omega, ?_⟩
  rw [hsd]
  have key := downInd (P := fun i => fstI (fun i => !tb sd i.toNat) i = -1 → AW d mX6_lowestOpen 9 [none, none, some (.inl ht), some (.inl sd), some (.inl (i + 1))] [] σ Q) (lo := 0) (hi := ht) h3 ?_ ?_ rfl
  · rwa [show (0 : Int) + 1 = 1 from rfl] at key
  · intro hn
    have e : lowO sd ht = 0 := by unfold lowO; omega
    rw [e] at hq
    exact lowestOpen_9 ⟨by omega, fun _ => hq, fun c => by omega⟩
  · intro i g0 g1 ih hn
    have hs1 := fstI_s (fun i => !tb sd i.toNat) g0
    rw [if_pos hn] at hs1
    have hbp := band_pow0 (x := sd) (k := (i + 1 - 1).toNat) (by omega)
    have ei : (i + 1 - 1).toNat = i.toNat := by omega
    refine lowestOpen_9 ⟨by omega, fun c => by omega, fun _ => ⟨by omega, by omega, band_r3 (by omega) (by omega), fun c => ih ?_, fun c => ?_⟩⟩
    · rw [hs1, if_neg]
      intro z
      have z2 : tb sd i.toNat = false := by simpa using z
      rw [← ei] at z2
      exact c (hbp.mpr z2)
    · have hz := hbp.mp c
      rw [ei] at hz
      have e : lowO sd ht = i + 1 := by
        unfold lowO
        rw [fstI_hit _ g0 g1 hn (by rw [hz]; rfl)]
      rw [e] at hq
      exact hq
theorem bentSteps_ok {d : Nat} {σ : SG} {Q : Option AV → SG → Prop} {p : Nat} (hp : p = 34 ∨ p = 36) (h : (1 ≤ d ∧ SR (σ (p + 1))) ∧ Q (some (.inl (foI (fun i a => a + popc (σ (p + 1) (14 + i))) 0 4))) σ) : AW d mX6_bentSteps 0 [some (.inr (.inr p)), none, none] [] σ Q := by
  obtain ⟨⟨hd, hR⟩, hq⟩ := h
  refine bentSteps_0 hp ?_
  refine downInd (P := fun i => AW d mX6_bentSteps 4 [some (.inr (.inr p)), some (.inl (foI (fun i a => a + popc (σ (p + 1) (14 + i))) 0 i)), some (.inl i)] [] σ Q) (lo := 0) (hi := 4) (by decide) ?_ ?_
  · exact bentSteps_4 hp ⟨by omega, fun _ => hq, fun c => by omega⟩
  · intro i h0 h1 ih
    have hi := hR i h0 h1
    rw [foI_s _ _ h0] at ih
    exact bentSteps_4 hp ⟨by omega, fun c => by omega, fun _ => ⟨by omega, by omega, hi.2.2.1, ih⟩⟩
def lmB (f : Int → Int) (t : Int) : Int → Int → Int := fun i a => if f (22 + i * 8 + 7) ≠ 1 then (if f (22 + i * 8 + 2) = t then (if f (22 + i * 8 + 0) = t then a + 1 else a) + -1 else (if f (22 + i * 8 + 0) = t then a + 1 else a)) else a
theorem lentMore_ok {d : Nat} {σ : SG} {Q : Option AV → SG → Prop} {t : Int} {p : Nat} (hp : p = 34 ∨ p = 36) (h : (2 ≤ d ∧ LR (σ (p + 1)) ∧ r3 t) ∧ Q (some (.inl (foI (lmB (σ (p + 1)) t) 0 (σ (p + 1) 1)))) σ) : AW d mX6_lentMoreThanBorrowed 0 [some (.inr (.inr p)), some (.inl t), none, none] [] σ Q := by
  obtain ⟨⟨hd, ⟨hc, hL⟩, ht⟩, hq⟩ := h
  refine lentMoreThanBorrowed_0 hp ?_
  refine downInd (P := fun i => AW d mX6_lentMoreThanBorrowed 4 [some (.inr (.inr p)), some (.inl t), some (.inl (foI (lmB (σ (p + 1)) t) 0 i)), some (.inl i)] [] σ Q) (hi := σ (p + 1) 1) hc.1 ?_ ?_
  · exact lentMoreThanBorrowed_4 hp ⟨by omega, by omega, fun _ => hq, fun c => by omega⟩
  · intro i h0 h1 ih
    have hi := hL i h0 h1
    rw [foI_s _ _ h0, lmB] at ih
    refine lentMoreThanBorrowed_4 hp ⟨by omega, by omega, fun c => by omega, fun _ => ⟨by omega, by omega, by omega, by omega, fun c => ⟨by omega, by omega, by omega, fun c2 => ⟨by omega, by omega, by omega, by omega, fun c3 => ⟨by omega, by omega, by omega, fun c4 => ?_, fun c4 => ?_⟩, fun c3 => absurd c3 c⟩, fun c2 => ⟨by omega, by omega, by omega, by omega, fun c3 => ⟨by omega, by omega, by omega, fun c4 => ?_, fun c4 => ?_⟩, fun c3 => absurd c3 c⟩⟩, fun c => ⟨by omega, by omega, by omega, by omega, fun c3 => absurd c c3, fun c3 => ?_⟩⟩⟩
    · rwa [if_pos c, if_neg c4, if_neg c2] at ih
    · rwa [if_pos c, if_pos c4, if_neg c2] at ih
    · rwa [if_pos c, if_neg c4, if_pos c2] at ih
    · rwa [if_pos c, if_pos c4, if_pos c2] at ih
    · rwa [if_neg (fun z => z c)] at ih
def leB (σ : SG) (r : Nat) (t : Int) : Int → Int → Int := fun g a => if σ (r + 6) g = t ∧ (a = -1 ∨ σ (r + 7) g < a) then σ (r + 7) g else a
theorem leB_r {σ : SG} {r : Nat} {t : Int} (hR : RLM σ r) : ∀ i, 0 ≤ i → i ≤ σ r 1 → foI (leB σ r t) (-1) i = -1 ∨ (1 ≤ foI (leB σ r t) (-1) i ∧ foI (leB σ r t) (-1) i ≤ 6) := by
  have key : ∀ n : Nat, (n : Int) ≤ σ r 1 → foI (leB σ r t) (-1) n = -1 ∨ (1 ≤ foI (leB σ r t) (-1) n ∧ foI (leB σ r t) (-1) n ≤ 6) := by
    intro n
    induction n with
    | zero => intro _; exact Or.inl rfl
    | succ n ih =>
      intro hn
      have hg := hR.2.2.2.1 n (by omega) (by omega)
      have ih := ih (by omega)
      rw [show ((n + 1 : Nat) : Int) = (n : Int) + 1 by omega, foI_s _ _ (by omega)]
      unfold leB
      split
      · exact Or.inr ⟨hg.2.2.1, hg.2.2.2.1⟩
      · exact ih
  intro i h0 h1
  have := key i.toNat (by omega)
  rwa [show ((i.toNat : Nat) : Int) = i by omega] at this
theorem leastLegs_ok {d : Nat} {σ : SG} {Q : Option AV → SG → Prop} {t : Int} {r : Nat} (hr : r = 5 ∨ r = 16) (h : (RLM σ r ∧ r3 t) ∧ Q (some (.inl (foI (leB σ r t) (-1) (σ r 1)))) σ) : AW d mX4_leastLegs 0 [some (.inr (.inr r)), some (.inl t), none, none] [] σ Q := by
  obtain ⟨⟨hR, ht⟩, hq⟩ := h
  refine leastLegs_0 hr ?_
  refine downInd (P := fun i => AW d mX4_leastLegs 4 [some (.inr (.inr r)), some (.inl t), some (.inl (foI (leB σ r t) (-1) i)), some (.inl i)] [] σ Q) (lo := 0) (hi := σ r 1) hR.2.1.1 ?_ ?_
  · have := hR.2.1
    exact leastLegs_4 hr ⟨by omega, fun _ => hq, fun c => by omega⟩
  · intro i h0 h1 ih
    have hg := hR.2.2.2.1 i h0 h1
    have hR1 := hR.1
    have hR2 := hR.2.1
    have hl := leB_r (t := t) hR i h0 (by omega)
    rw [foI_s _ _ h0] at ih
    refine leastLegs_4 hr ⟨by omega, fun c => by omega, fun _ => ⟨by omega, by omega, fun c => ?_, fun c => ⟨by omega, fun c2 => ⟨by omega, ?_⟩, fun c2 => ⟨by omega, by omega, fun c3 => ?_, fun c3 => ⟨by omega, ?_⟩⟩⟩⟩⟩
    · rwa [leB, if_neg (fun z => c z.1)] at ih
    · rwa [leB, if_pos ⟨c, Or.inl c2⟩] at ih
    · rwa [leB, if_neg (fun z => by rcases z.2 with z | z <;> omega)] at ih
    · rwa [leB, if_pos ⟨c, Or.inr c3⟩] at ih
def goB (σ : SG) (r : Nat) (t : Int) : Int → Int → Int := fun g a => if σ (r + 6) g = t then a + 1 else a
theorem guardsOf_ok {d : Nat} {σ : SG} {Q : Option AV → SG → Prop} {t : Int} {r : Nat} (hr : r = 5 ∨ r = 16) (h : (RLM σ r ∧ r3 t) ∧ Q (some (.inl (foI (goB σ r t) 0 (σ r 1)))) σ) : AW d mX4_guardsOf 0 [some (.inr (.inr r)), some (.inl t), none, none] [] σ Q := by
  obtain ⟨⟨hR, ht⟩, hq⟩ := h
  refine guardsOf_0 hr ?_
  refine downInd (P := fun i => AW d mX4_guardsOf 4 [some (.inr (.inr r)), some (.inl t), some (.inl (foI (goB σ r t) 0 i)), some (.inl i)] [] σ Q) (lo := 0) (hi := σ r 1) hR.2.1.1 ?_ ?_
  · have := hR.2.1
    exact guardsOf_4 hr ⟨by omega, fun _ => hq, fun c => by omega⟩
  · intro i h0 h1 ih
    have hg := hR.2.2.2.1 i h0 h1
    have hR1 := hR.1
    have hR2 := hR.2.1
    rw [foI_s _ _ h0] at ih
    refine guardsOf_4 hr ⟨by omega, fun c => by omega, fun _ => ⟨by omega, by omega, fun c => ?_, fun c => ?_⟩⟩
    · rwa [goB, if_neg c] at ih
    · rwa [goB, if_pos c] at ih
