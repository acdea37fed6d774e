/-! ===== days (wip/whole/gen57.py) ===== -/
def kX8_go_26 : List BI := [bi (.aload_n 0) 1 [] 0, bi (.getfield 63) 3 [8, 8] 0, bi (.iconst 2) 1 [] 0, bi (.dup2) 1 [] 0, bi (.iaload) 1 [] 0, bi (.iconst 1) 1 [] 0, bi (.iadd) 1 [] 0, bi (.iastore) 1 [] 0, bi (.iconst (-1)) 1 [] 0, bi (.ireturn) 1 [] 0]
theorem cX8_go_26 : chk mX8_go 26 kX8_go_26 = true := by decide +kernel
def kX8_go_38 : List BI := [bi (.aload_n 0) 1 [] 0, bi (.getfield 52) 3 [8, 6] 0, bi (.aload_n 0) 1 [] 0, bi (.getfield 42) 3 [8, 4] 0, bi (.invokevirtual 202) 3 [mX0_keep, 2, 2, 0] 0, bi (.iconst 0) 1 [] 0, bi (.istore_n 2) 1 [] 0, bi (.iconst 0) 1 [] 0, bi (.istore_n 3) 1 [] 0]
theorem cX8_go_38 : chk mX8_go 38 kX8_go_38 = true := by decide +kernel
def kX8_go_0 : List BI := [bi (.iload_n 1) 1 [] 0, bi (.iconst 1) 1 [] 0, bi (.if_icmp .lt (24)) 3 [26] 0, bi (.iload_n 1) 1 [] 0, bi (.bipush (100)) 2 [] 0, bi (.if_icmp .gt (18)) 3 [26] 0, bi (.aload_n 0) 1 [] 0, bi (.getfield 42) 3 [8, 4] 0, bi (.invokevirtual 115) 3 [mX6_today, 1, 1, 6] 0, bi (.iload_n 1) 1 [] 0, bi (.iadd) 1 [] 0, bi (.sipush (999)) 3 [] 0, bi (.if_icmp .le (15)) 3 [38] 0, bi (.aload_n 0) 1 [] 0, bi (.getfield 63) 3 [8, 8] 0, bi (.iconst 2) 1 [] 0, bi (.dup2) 1 [] 0, bi (.iaload) 1 [] 0, bi (.iconst 1) 1 [] 0, bi (.iadd) 1 [] 0, bi (.iastore) 1 [] 0, bi (.iconst (-1)) 1 [] 0, bi (.ireturn) 1 [] 0]
theorem cX8_go_0 : chk mX8_go 0 kX8_go_0 = true := by decide +kernel
theorem xgo_0 {d : Nat} {σ : SG} {Q : Option AV → SG → Prop} {k : Int} (h : (r3 k) ∧ (k < 1 → (∀ S1 : SG, S1 = up σ 1 2 ((σ 1 2) + 1) → Q (some (.inl ((-1)))) S1)) ∧ (1 ≤ k → (r3 k) ∧ (100 < k → (∀ S2 : SG, S2 = up σ 1 2 ((σ 1 2) + 1) → Q (some (.inl ((-1)))) S2)) ∧ (k ≤ 100 → (0 < d) ∧ (r3 ((σ 35 0) + k)) ∧ (((σ 35 0) + k) ≤ 999 → (0 < d) ∧ (1 ≤ d - 1 ∧ 0 ≤ σ 38 1 ∧ σ 38 1 < 20 ∧ 0 ≤ σ 38 2 ∧ σ 38 2 ≤ 20) ∧ (∀ S3 : SG, S3 = kpX σ → AW d mX8_go 53 [some (.inr (.inr 0)), some (.inl k), some (.inl 0), some (.inl 0)] [] S3 Q)) ∧ (999 < ((σ 35 0) + k) → (∀ S4 : SG, S4 = up σ 1 2 ((σ 1 2) + 1) → Q (some (.inl ((-1)))) S4))))) : AW d mX8_go 0 [some (.inr (.inr 0)), some (.inl k), none, none] [] σ Q := AW.blk kX8_go_0 cX8_go_0 (⟨⟨(h).1, (by decide)⟩, ⟨fun c7 => AW.blk kX8_go_26 cX8_go_26 (⟨⟨(by decide), (by decide)⟩, ⟨⟨(by decide), (by decide)⟩, (((h).2).1 c7) _ rfl⟩⟩), fun c7 => ⟨⟨(((h).2).2 c7).1, (by decide)⟩, ⟨fun c6 => AW.blk kX8_go_26 cX8_go_26 (⟨⟨(by decide), (by decide)⟩, ⟨⟨(by decide), (by decide)⟩, (((((h).2).2 c7).2).1 c6) _ rfl⟩⟩), fun c6 => ⟨(((((h).2).2 c7).2).2 c6).1, AW.blk kX6_today_0 cX6_today_0 (⟨⟨(by decide), (by decide)⟩, ⟨⟨((((((h).2).2 c7).2).2 c6).2).1, (by decide)⟩, ⟨fun c5 => AW.blk kX8_go_38 cX8_go_38 (⟨((((((((h).2).2 c7).2).2 c6).2).2).1 c5).1, hkeep_ok ⟨(((((((((h).2).2 c7).2).2 c6).2).2).1 c5).2).1, ((((((((((h).2).2 c7).2).2 c6).2).2).1 c5).2).2) _ rfl⟩⟩), fun c5 => ⟨⟨(by decide), (by decide)⟩, ⟨⟨(by decide), (by decide)⟩, ((((((((h).2).2 c7).2).2 c6).2).2).2 c5) _ rfl⟩⟩⟩⟩⟩)⟩⟩⟩⟩⟩)
def kX8_go_73 : List BI := [bi (.iadd) 1 [] 0, bi (.istore_n 2) 1 [] 0, bi (.iinc 3 (1)) 3 [] 0, bi (.goto (-25)) 3 [53] 0]
theorem cX8_go_73 : chk mX8_go 73 kX8_go_73 = true := by decide +kernel
theorem xgo_73 {d : Nat} {σ : SG} {Q : Option AV → SG → Prop} {k l2 l3 s0 s1 : Int} (h : AW d mX8_go 53 [some (.inr (.inr 0)), some (.inl k), some (.inl (s1 + s0)), some (.inl (l3 + 1))] [] σ Q) : AW d mX8_go 73 [some (.inr (.inr 0)), some (.inl k), some (.inl l2), some (.inl l3)] [.inl s0, .inl s1] σ Q := AW.blk kX8_go_73 cX8_go_73 (h)
def kX8_go_81 : List BI := [bi (.iload_n 2) 1 [] 0, bi (.ireturn) 1 [] 0]
theorem cX8_go_81 : chk mX8_go 81 kX8_go_81 = true := by decide +kernel
def kX8_go_67 : List BI := [bi (.getfield 112) 3 [4, 4] 0, bi (.invokevirtual 221) 3 [mX6_passDay, 2, 5, 6] 0]
theorem cX8_go_67 : chk mX8_go 67 kX8_go_67 = true := by decide +kernel
def kX8_go_53 : List BI := [bi (.iload_n 3) 1 [] 0, bi (.iload_n 1) 1 [] 0, bi (.if_icmp .ge (26)) 3 [81] 0, bi (.iload_n 2) 1 [] 0, bi (.aload_n 0) 1 [] 0, bi (.getfield 42) 3 [8, 4] 0, bi (.aload_n 0) 1 [] 0, bi (.getfield 70) 3 [8, 9] 0]
theorem cX8_go_53 : chk mX8_go 53 kX8_go_53 = true := by decide +kernel
theorem xgo_53 {d : Nat} {σ : SG} {Q : Option AV → SG → Prop} {k l2 l3 : Int} {r : Nat} (hr : r = 5 ∨ r = 16) (hx : (σ 0 9).toNat = r) (h : (r3 l3 ∧ r3 k) ∧ (k ≤ l3 → Q (some (.inl l2)) σ) ∧ (l3 < k → (0 < d) ∧ AW (d - 1) mX6_passDay 0 [some (.inr (.inr 34)), some (.inl (σ r 4)), none, none, none] [] σ (fun rr σ' => AW d mX8_go 73 [some (.inr (.inr 0)), some (.inl k), some (.inl l2), some (.inl l3)] (rtS rr [.inl l2]) σ' Q))) : AW d mX8_go 53 [some (.inr (.inr 0)), some (.inl k), some (.inl l2), some (.inl l3)] [] σ Q := by
  rcases hr with rfl | rfl <;> exact AW.blk kX8_go_53 cX8_go_53 (⟨⟨((h).1).1, ((h).1).2⟩, ⟨fun c8 => AW.blk kX8_go_81 cX8_go_81 (((h).2).1 c8), fun c8 => aw_rl hx (AW.blk kX8_go_67 cX8_go_67 (⟨(((h).2).2 c8).1, (((h).2).2 c8).2⟩))⟩⟩)
def kX9_go_26 : List BI := [bi (.aload_n 0) 1 [] 0, bi (.getfield 17) 3 [9, 9] 0, bi (.iconst 2) 1 [] 0, bi (.dup2) 1 [] 0, bi (.iaload) 1 [] 0, bi (.iconst 1) 1 [] 0, bi (.iadd) 1 [] 0, bi (.iastore) 1 [] 0, bi (.iconst (-1)) 1 [] 0, bi (.ireturn) 1 [] 0]
theorem cX9_go_26 : chk mX9_go 26 kX9_go_26 = true := by decide +kernel
def kX9_go_38 : List BI := [bi (.aload_n 0) 1 [] 0, bi (.invokevirtual 413) 3 [mX9_keeps, 1, 2, 9] 0, bi (.iconst 0) 1 [] 0, bi (.istore_n 2) 1 [] 0, bi (.iconst 0) 1 [] 0, bi (.istore_n 3) 1 [] 0]
theorem cX9_go_38 : chk mX9_go 38 kX9_go_38 = true := by decide +kernel
def kX9_go_0 : List BI := [bi (.iload_n 1) 1 [] 0, bi (.i2l) 1 [] 0, bi (.lconst 1) 1 [] 0, bi (.ldc2_w 416) 3 [] 100, bi (.invokestatic 233) 3 [mX9_isIn, 3, 6] 0, bi (.ifCond .eq (17)) 3 [26] 0, bi (.aload_n 0) 1 [] 0, bi (.getfield 94) 3 [9, 37] 0, bi (.iconst 0) 1 [] 0, bi (.iaload) 1 [] 0, bi (.iload_n 1) 1 [] 0, bi (.iadd) 1 [] 0, bi (.sipush (999)) 3 [] 0, bi (.if_icmp .le (15)) 3 [38] 0, bi (.aload_n 0) 1 [] 0, bi (.getfield 17) 3 [9, 9] 0, bi (.iconst 2) 1 [] 0, bi (.dup2) 1 [] 0, bi (.iaload) 1 [] 0, bi (.iconst 1) 1 [] 0, bi (.iadd) 1 [] 0, bi (.iastore) 1 [] 0, bi (.iconst (-1)) 1 [] 0, bi (.ireturn) 1 [] 0]
theorem cX9_go_0 : chk mX9_go 0 kX9_go_0 = true := by decide +kernel
theorem mgo_0 {d : Nat} {σ : SG} {Q : Option AV → SG → Prop} {k : Int} (h : (r3 k) ∧ (0 < d) ∧ (r6 k) ∧ (k < 1 → (∀ S9 : SG, S9 = up σ 44 2 ((σ 44 2) + 1) → Q (some (.inl ((-1)))) S9)) ∧ (1 ≤ k → (r6 k) ∧ (100 < k → (∀ S10 : SG, S10 = up σ 44 2 ((σ 44 2) + 1) → Q (some (.inl ((-1)))) S10)) ∧ (k ≤ 100 → (r3 ((σ 69 0) + k)) ∧ (((σ 69 0) + k) ≤ 999 → (0 < d) ∧ (0 ≤ σ 42 41 ∧ σ 42 41 < 20 ∧ 0 ≤ σ 42 40 ∧ σ 42 40 ≤ 20) ∧ (∀ S11 : SG, S11 = kpM σ → AW d mX9_go 46 [some (.inr (.inr 42)), some (.inl k), some (.inl 0), some (.inl 0)] [] S11 Q)) ∧ (999 < ((σ 69 0) + k) → (∀ S12 : SG, S12 = up σ 44 2 ((σ 44 2) + 1) → Q (some (.inl ((-1)))) S12))))) : AW d mX9_go 0 [some (.inr (.inr 42)), some (.inl k), none, none] [] σ Q := AW.blk kX9_go_0 cX9_go_0 (⟨(h).1, ⟨((h).2).1, AW.blk kX9_isIn_0 cX9_isIn_0 (⟨⟨(((h).2).2).1, (by decide)⟩, ⟨fun c15 => AW.blk kX9_isIn_17 cX9_isIn_17 (⟨(by decide), ⟨(by decide), ⟨fun _ => AW.blk kX9_go_26 cX9_go_26 (⟨⟨(by decide), (by decide)⟩, ⟨⟨(by decide), (by decide)⟩, (((((h).2).2).2).1 c15) _ rfl⟩⟩), fun c => absurd c (by decide)⟩⟩⟩), fun c15 => ⟨⟨(((((h).2).2).2).2 c15).1, (by decide)⟩, ⟨fun c14 => AW.blk kX9_isIn_17 cX9_isIn_17 (⟨(by decide), ⟨(by decide), ⟨fun _ => AW.blk kX9_go_26 cX9_go_26 (⟨⟨(by decide), (by decide)⟩, ⟨⟨(by decide), (by decide)⟩, (((((((h).2).2).2).2 c15).2).1 c14) _ rfl⟩⟩), fun c => absurd c (by decide)⟩⟩⟩), fun c14 => AW.blk kX9_isIn_18 cX9_isIn_18 (⟨(by decide), ⟨(by decide), ⟨fun c => absurd c (by decide), fun _ => ⟨⟨(by decide), (by decide)⟩, ⟨⟨(((((((h).2).2).2).2 c15).2).2 c14).1, (by decide)⟩, ⟨fun c13 => AW.blk kX9_go_38 cX9_go_38 (⟨(((((((((h).2).2).2).2 c15).2).2 c14).2).1 c13).1, mkeeps_ok ⟨((((((((((h).2).2).2).2 c15).2).2 c14).2).1 c13).2).1, (((((((((((h).2).2).2).2 c15).2).2 c14).2).1 c13).2).2) _ rfl⟩⟩), fun c13 => ⟨⟨(by decide), (by decide)⟩, ⟨⟨(by decide), (by decide)⟩, (((((((((h).2).2).2).2 c15).2).2 c14).2).2 c13) _ rfl⟩⟩⟩⟩⟩⟩⟩⟩)⟩⟩⟩⟩)⟩⟩)
def kX9_go_56 : List BI := [bi (.iadd) 1 [] 0, bi (.istore_n 2) 1 [] 0, bi (.iinc 3 (1)) 3 [] 0, bi (.goto (-15)) 3 [46] 0]
theorem cX9_go_56 : chk mX9_go 56 kX9_go_56 = true := by decide +kernel
theorem mgo_56 {d : Nat} {σ : SG} {Q : Option AV → SG → Prop} {k l2 l3 s0 s1 : Int} (h : AW d mX9_go 46 [some (.inr (.inr 42)), some (.inl k), some (.inl (s1 + s0)), some (.inl (l3 + 1))] [] σ Q) : AW d mX9_go 56 [some (.inr (.inr 42)), some (.inl k), some (.inl l2), some (.inl l3)] [.inl s0, .inl s1] σ Q := AW.blk kX9_go_56 cX9_go_56 (h)
def kX9_go_64 : List BI := [bi (.iload_n 2) 1 [] 0, bi (.ireturn) 1 [] 0]
theorem cX9_go_64 : chk mX9_go 64 kX9_go_64 = true := by decide +kernel
def kX9_go_46 : List BI := [bi (.iload_n 3) 1 [] 0, bi (.iload_n 1) 1 [] 0, bi (.if_icmp .ge (16)) 3 [64] 0, bi (.iload_n 2) 1 [] 0, bi (.aload_n 0) 1 [] 0, bi (.invokevirtual 418) 3 [mX9_dayGoes, 1, 3, 9] 0]
theorem cX9_go_46 : chk mX9_go 46 kX9_go_46 = true := by decide +kernel
theorem mgo_46 {d : Nat} {σ : SG} {Q : Option AV → SG → Prop} {k l2 l3 : Int} (h : (r3 l3 ∧ r3 k) ∧ (k ≤ l3 → Q (some (.inl l2)) σ) ∧ (l3 < k → (0 < d) ∧ AW (d - 1) mX9_dayGoes 0 [some (.inr (.inr 42)), none, none] [] σ (fun rr σ' => AW d mX9_go 56 [some (.inr (.inr 42)), some (.inl k), some (.inl l2), some (.inl l3)] (rtS rr [.inl l2]) σ' Q))) : AW d mX9_go 46 [some (.inr (.inr 42)), some (.inl k), some (.inl l2), some (.inl l3)] [] σ Q := AW.blk kX9_go_46 cX9_go_46 (⟨⟨((h).1).1, ((h).1).2⟩, ⟨fun c16 => AW.blk kX9_go_64 cX9_go_64 (((h).2).1 c16), fun c16 => ⟨(((h).2).2 c16).1, (((h).2).2 c16).2⟩⟩⟩)
/-- many days -/
def dsF (bn : Int) : Int → (Int → Int) × Int → (Int → Int) × Int := fun _ q => (dyR q.1 bn, q.2 + (dayV q.1 bn).2)
def mdsF (b : Int) : Int → (Int → Int) × Int → (Int → Int) × Int := fun _ q => (mdyR q.1 b, q.2 + (mdayV q.1 b).2)
theorem RS.days {tw : Int} {H : Int → Int} {B D : Int} {f g : Int → Int} (h : RS tw H B D f g) (ht : tw ≤ 4) (hH : ∀ t, 0 ≤ t → t < tw → 3 ≤ H t ∧ H t ≤ 14) (hD : D < 4000) (bn : Int) : ∀ n : Nat, n ≤ 500 → RS tw H (B + 2376 * n) (D + n) (foI (dsF bn) (f, 0) (n : Int)).1 (foI (mdsF bn) (g, 0) (n : Int)).1 ∧ (foI (dsF bn) (f, 0) (n : Int)).2 = (foI (mdsF bn) (g, 0) (n : Int)).2 ∧ (foI (dsF bn) (f, 0) (n : Int)).1 0 = f 0 + n ∧ (foI (dsF bn) (f, 0) (n : Int)).1 1 = f 1 ∧ (0 ≤ (foI (dsF bn) (f, 0) (n : Int)).2 ∧ (foI (dsF bn) (f, 0) (n : Int)).2 ≤ 24 * n) := by
  intro n
  induction n with
  | zero => intro _; exact ⟨h.mono (by omega) (by omega), rfl, by show f 0 = f 0 + ((0 : Nat) : Int); omega, rfl, by show (0 : Int) ≤ 0 ∧ (0 : Int) ≤ _; omega⟩
  | succ n ih =>
    intro hn
    obtain ⟨i1, i2, i3, i4, i5⟩ := ih (by omega)
    rw [show ((n + 1 : Nat) : Int) = (n : Int) + 1 by omega, foI_s _ _ (by omega), foI_s _ _ (by omega)]
    generalize foI (dsF bn) (f, 0) (n : Int) = q at *
    generalize foI (mdsF bn) (g, 0) (n : Int) = mq at *
    obtain ⟨s1, s2, s3, s4, s5⟩ := i1.day ht hH (by omega) bn
    unfold dsF mdsF
    dsimp only
    exact ⟨s1.mono (by omega) (by omega), by omega, by omega, by omega, by omega⟩
theorem RS.lef {tw : Int} {H : Int → Int} {B D : Int} {f g : Int → Int} (h : RS tw H B D f g) (hD : D < 5000) : ∀ i, 0 ≤ i → i < f 1 → f (22 + i * 8 + 7) = 0 → 1 ≤ f (22 + i * 8 + 3) := by
  intro i a b c
  have := (h.2.2.2.2.2.1 i a b).2.2.2.2.2.2.2
  omega
theorem xgo_loop {d : Nat} {σ : SG} {Q : Option AV → SG → Prop} {k : Int} {r : Nat} (hr : r = 5 ∨ r = 16) (hx : (σ 0 9).toNat = r) (hd : 100 ≤ d) {tw : Int} {H : Int → Int} {B D : Int} {f g : Int → Int} (hR : RS tw H B D f g) (ht : tw ≤ 4) (hH : ∀ t, 0 ≤ t → t < tw → 3 ≤ H t ∧ H t ≤ 14) (hD : D < 4000) (k0 : 0 ≤ k) (k1 : k ≤ 100) (hb : r3 (σ r 4)) (hq : Q (some (.inl (foI (dsF (σ r 4)) (f, 0) k).2)) (putF σ 35 (foI (dsF (σ r 4)) (f, 0) k).1)) : AW d mX8_go 53 [some (.inr (.inr 0)), some (.inl k), some (.inl 0), some (.inl 0)] [] (putF σ 35 f) Q := by
  have z0 : ∀ F, (putF σ 35 F 0 9).toNat = r := fun F => by rw [putF_ne (by decide)]; exact hx
  have zr : ∀ F, putF σ 35 F r = σ r := fun F => putF_ne (by omega)
  have key := downInd (P := fun i => AW d mX8_go 53 [some (.inr (.inr 0)), some (.inl k), some (.inl (foI (dsF (σ r 4)) (f, 0) i).2), some (.inl i)] [] (putF σ 35 (foI (dsF (σ r 4)) (f, 0) i).1) Q) (lo := 0) (hi := k) k0 ?_ ?_
  · exact key
  · exact xgo_53 hr (z0 _) ⟨by omega, fun _ => hq, fun c => by omega⟩
  · intro i i0 i1 ih
    have s := hR.days ht hH hD (σ r 4) i.toNat (by omega)
    rw [show ((i.toNat : Nat) : Int) = i by omega] at s
    rw [foI_s _ _ i0] at ih
    generalize foI (dsF (σ r 4)) (f, 0) i = fq at *
    refine xgo_53 hr (z0 _) ⟨by omega, fun c => by omega, fun _ => ⟨by omega, ?_⟩⟩
    rw [zr]
    refine passDay_ok (p := 34) (Or.inl rfl) (σ := putF σ 35 fq.1) (g := (foI (mdsF (σ r 4)) (g, 0) i).1) (tw := tw) (H := H) (B := B + 2376 * i) (D := D + i) (by rw [putF_at]; exact s.1) ht hH (by omega) (by omega) hb ?_
    rw [putF_at, putF_putF]
    exact xgo_73 ih
theorem mgo_loop {d : Nat} {σ : SG} {Q : Option AV → SG → Prop} {k b : Int} (hd : 100 ≤ d) {tw : Int} {H : Int → Int} {B D : Int} {f g : Int → Int} (hR : RS tw H B D f g) (ht : tw ≤ 4) (hH : ∀ t, 0 ≤ t → t < tw → 3 ≤ H t ∧ H t ≤ 14) (hD : D < 4000) (k0 : 0 ≤ k) (k1 : k ≤ 100) (hb : r3 b) (hb2 : 0 < g 1 → σ 68 1 = b) (hq : Q (some (.inl (foI (mdsF b) (g, 0) k).2)) (putF σ 69 (foI (mdsF b) (g, 0) k).1)) : AW d mX9_go 46 [some (.inr (.inr 42)), some (.inl k), some (.inl 0), some (.inl 0)] [] (putF σ 69 g) Q := by
  have h1 := hR.2.1
  have key := downInd (P := fun i => AW d mX9_go 46 [some (.inr (.inr 42)), some (.inl k), some (.inl (foI (mdsF b) (g, 0) i).2), some (.inl i)] [] (putF σ 69 (foI (mdsF b) (g, 0) i).1) Q) (lo := 0) (hi := k) k0 ?_ ?_
  · exact key
  · exact mgo_46 ⟨by omega, fun _ => hq, fun c => by omega⟩
  · intro i i0 i1 ih
    have s := hR.days ht hH hD b i.toNat (by omega)
    rw [show ((i.toNat : Nat) : Int) = i by omega] at s
    rw [foI_s _ _ i0] at ih
    generalize foI (mdsF b) (g, 0) i = mq at *
    have s1 := s.1.2.1
    refine mgo_46 ⟨by omega, fun c => by omega, fun _ => ⟨by omega, ?_⟩⟩
    refine mdayGoes_ok (σ := putF σ 69 mq.1) (b := b) (f := (foI (dsF b) (f, 0) i).1) (tw := tw) (H := H) (B := B + 2376 * i) (D := D + i) (by rw [putF_at]; exact s.1) ht hH (by omega) (by omega) hb ?_ ?_
    · rw [putF_at, putF_ne (by decide)]
      intro z
      exact hb2 (by omega)
    · rw [putF_at, putF_putF]
      exact mgo_56 ih
theorem call_go {d : Nat} {n : Int} {σ : SG} {r q : Nat} {k : Int} (hd : 100 ≤ d) (h : SIM n σ r q) (hk : r3 k) : AW d mX8_go 0 [some (.inr (.inr 0)), some (.inl k), none, none] [] σ (SAME d (n + 1) r q mX9_go [some (.inr (.inr 42)), some (.inl k), none, none]) := by
  obtain ⟨hr, _, hx, _⟩ := h.rr
  obtain ⟨x1, x2, x3, x4, m1, m2, m3, e4, e1, b1, b2, b3⟩ := h.fx
  have hL := h.2.2.2.2.1
  have hRS := h.2.2.2.2.2.1
  have h0 := hRS.1
  have no : ¬ (1 ≤ k ∧ k ≤ 100 ∧ σ 35 0 + k ≤ 999) → SAME d (n + 1) r q mX9_go [some (.inr (.inr 42)), some (.inl k), none, none] (some (.inl (-1))) (up σ 1 2 (σ 1 2 + 1)) := by
    intro hC
    unfold SAME
    have q69 := SIM.r12 (σ := σ) (v := σ 1 2 + 1) (show 69 ≠ 1 by decide)
    have q42 := SIM.r12 (σ := σ) (v := σ 1 2 + 1) (show 42 ≠ 1 by decide)
    have hS := (h.refuse (k := 2) (by decide) (by decide) rfl rfl).mono (show n ≤ n + 1 by omega)
    refine mgo_0 ?_
    rw [q69, q42]
    refine ⟨by omega, by omega, by omega, fun c S e => ?_, fun c => ⟨by omega, fun c S e => ?_, fun c => ⟨by omega, fun c => by omega, fun c S e => ?_⟩⟩⟩
    · subst e; exact ⟨rfl, hS⟩
    · subst e; exact ⟨rfl, hS⟩
    · subst e; exact ⟨rfl, hS⟩
  refine xgo_0 ⟨by omega, fun c S e => ?_, fun c1 => ⟨by omega, fun c S e => ?_, fun c2 => ⟨by omega, by omega, fun c3 => ⟨by omega, by omega, fun S e => ?_⟩, fun c S e => ?_⟩⟩⟩
  · subst e; exact no (by omega)
  · subst e; exact no (by omega)
  · subst e
    have z35 : kpX σ 35 = σ 35 := kpX_ne (by decide) (by decide)
    have zr : kpX σ r = σ r := kpX_ne (by omega) (by omega)
    have z0 : (kpX σ 0 9).toNat = r := by rw [kpX_ne (by decide) (by decide)]; exact hx
    have key := xgo_loop (σ := kpX σ) (Q := SAME d (n + 1) r q mX9_go [some (.inr (.inr 42)), some (.inl k), none, none]) (k := k) hr z0 hd hRS hL.1.1.2 hL.hH (by decide) (by omega) (by omega) (by rw [zr]; omega) ?_
    · rwa [← z35, putF_self] at key
    · rw [zr]
      have s := hRS.days hL.1.1.2 hL.hH (by decide) (σ r 4) k.toNat (by omega)
      rw [show ((k.toNat : Nat) : Int) = k by omega] at s
      obtain ⟨s1, s2, s3, s4, s5⟩ := s
      unfold SAME
      rw [s2]
      have hR := (s1.mono (B' := (n + 1) * 300000) (D' := 4000) (by omega) (by omega)).low (D' := 999) (by omega) (s1.lef (by omega))
      generalize (foI (dsF (σ r 4)) (σ 35, 0) k).1 = f' at *
      have q69 : putF (kpX σ) 35 f' 69 = σ 69 := by rw [putF_ne (by decide), kpX_ne (by decide) (by decide)]
      have q68 : putF (kpX σ) 35 f' 68 = σ 68 := by rw [putF_ne (by decide), kpX_ne (by decide) (by decide)]
      have q42 : putF (kpX σ) 35 f' 42 = σ 42 := by rw [putF_ne (by decide), kpX_ne (by decide) (by decide)]
      have y69 : kpM (putF (kpX σ) 35 f') 69 = σ 69 := by rw [kpM_ne (by decide) (by decide), q69]
      have y68 : kpM (putF (kpX σ) 35 f') 68 = σ 68 := by rw [kpM_ne (by decide) (by decide), q68]
      refine mgo_0 ?_
      rw [q69, q42]
      refine ⟨by omega, by omega, by omega, fun c S e => by omega, fun c => ⟨by omega, fun c S e => by omega, fun c => ⟨by omega, fun c => ⟨by omega, by omega, fun S e => ?_⟩, fun c S e => by omega⟩⟩⟩
      subst e
      have key := mgo_loop (σ := kpM (putF (kpX σ) 35 f')) (Q := fun v' σ' => v' = some (.inl (foI (mdsF (σ r 4)) (σ 69, 0) k).2) ∧ SIM (n + 1) σ' r q) (k := k) (b := σ r 4) hd hRS hL.1.1.2 hL.hH (by decide) (by omega) (by omega) (by omega) (by rw [y68]; exact b3) ⟨rfl, h.act hR⟩
      rwa [← y69, putF_self] at key
  · subst e; exact no (by omega)
