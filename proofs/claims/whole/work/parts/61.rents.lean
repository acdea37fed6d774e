/-! ===== rents to come (wip/whole/gen61.py) ===== -/
def kX8_rents_33 : List BI := [bi (.ldc 170) 2 [] (-1000000000), bi (.ireturn) 1 [] 0]
theorem cX8_rents_33 : chk mX8_rents 33 kX8_rents_33 = true := by decide +kernel
def kX8_rents_36 : List BI := [bi (.aload_n 0) 1 [] 0, bi (.getfield 42) 3 [8, 4] 0, bi (.iload_n 1) 1 [] 0, bi (.iload_n 2) 1 [] 0, bi (.invokevirtual 286) 3 [mX6_rentsWithin, 3, 6, 6] 0, bi (.ireturn) 1 [] 0]
theorem cX8_rents_36 : chk mX8_rents 36 kX8_rents_36 = true := by decide +kernel
def kX8_rents_0 : List BI := [bi (.aload_n 0) 1 [] 0, bi (.iload_n 1) 1 [] 0, bi (.invokevirtual 131) 3 [mX8_isTower, 2, 2, 8] 0, bi (.ifCond .eq (28)) 3 [33] 0, bi (.iload_n 2) 1 [] 0, bi (.ifCond .lt (24)) 3 [33] 0, bi (.iload_n 2) 1 [] 0, bi (.bipush (100)) 2 [] 0, bi (.if_icmp .gt (18)) 3 [33] 0, bi (.aload_n 0) 1 [] 0, bi (.getfield 42) 3 [8, 4] 0, bi (.invokevirtual 115) 3 [mX6_today, 1, 1, 6] 0, bi (.iload_n 2) 1 [] 0, bi (.iadd) 1 [] 0, bi (.sipush (999)) 3 [] 0, bi (.if_icmp .le (6)) 3 [36] 0, bi (.ldc 170) 2 [] (-1000000000), bi (.ireturn) 1 [] 0]
theorem cX8_rents_0 : chk mX8_rents 0 kX8_rents_0 = true := by decide +kernel
theorem xrents_0 {d : Nat} {σ : SG} {Q : Option AV → SG → Prop} {t k : Int} {r : Nat} (hr : r = 5 ∨ r = 16) (hx : (σ 0 9).toNat = r) (h : (0 < d) ∧ (r3 t) ∧ (t < 0 → Q (some (.inl ((-1000000000)))) σ) ∧ (0 ≤ t → (r3 t ∧ r3 (σ r 0)) ∧ ((σ r 0) ≤ t → Q (some (.inl ((-1000000000)))) σ) ∧ (t < (σ r 0) → (r3 k) ∧ (k < 0 → Q (some (.inl ((-1000000000)))) σ) ∧ (0 ≤ k → (r3 k) ∧ (100 < k → Q (some (.inl ((-1000000000)))) σ) ∧ (k ≤ 100 → (0 < d) ∧ (r3 ((σ 35 0) + k)) ∧ (((σ 35 0) + k) ≤ 999 → (0 < d) ∧ (2 ≤ d - 1 ∧ LR (σ 35) ∧ r3 t ∧ r3 k) ∧ Q (some (.inl (foI (reB (σ 35) t k) 0 ((σ 35) 1)))) σ) ∧ (999 < ((σ 35 0) + k) → Q (some (.inl ((-1000000000)))) σ)))))) : AW d mX8_rents 0 [some (.inr (.inr 0)), some (.inl t), some (.inl k)] [] σ Q := by
  rcases hr with rfl | rfl <;> exact AW.blk kX8_rents_0 cX8_rents_0 (⟨(h).1, AW.blk kX8_isTower_0 cX8_isTower_0 (⟨((h).2).1, ⟨fun c5 => AW.blk kX8_isTower_19 cX8_isTower_19 (⟨(by decide), ⟨(by decide), ⟨fun _ => AW.blk kX8_rents_33 cX8_rents_33 ((((h).2).2).1 c5), fun c => absurd c (by decide)⟩⟩⟩), fun c5 => aw_rl hx (AW.blk kX8_isTower_9 cX8_isTower_9 (⟨⟨(((((h).2).2).2 c5).1).1, (((((h).2).2).2 c5).1).2⟩, ⟨fun c4 => AW.blk kX8_isTower_19 cX8_isTower_19 (⟨(by decide), ⟨(by decide), ⟨fun _ => AW.blk kX8_rents_33 cX8_rents_33 ((((((h).2).2).2 c5).2).1 c4), fun c => absurd c (by decide)⟩⟩⟩), fun c4 => AW.blk kX8_isTower_20 cX8_isTower_20 (⟨(by decide), ⟨(by decide), ⟨fun c => absurd c (by decide), fun _ => ⟨((((((h).2).2).2 c5).2).2 c4).1, ⟨fun c3 => AW.blk kX8_rents_33 cX8_rents_33 ((((((((h).2).2).2 c5).2).2 c4).2).1 c3), fun c3 => ⟨⟨((((((((h).2).2).2 c5).2).2 c4).2).2 c3).1, (by decide)⟩, ⟨fun c2 => AW.blk kX8_rents_33 cX8_rents_33 ((((((((((h).2).2).2 c5).2).2 c4).2).2 c3).2).1 c2), fun c2 => ⟨((((((((((h).2).2).2 c5).2).2 c4).2).2 c3).2).2 c2).1, AW.blk kX6_today_0 cX6_today_0 (⟨⟨(by decide), (by decide)⟩, ⟨⟨(((((((((((h).2).2).2 c5).2).2 c4).2).2 c3).2).2 c2).2).1, (by decide)⟩, ⟨fun c1 => AW.blk kX8_rents_36 cX8_rents_36 (⟨(((((((((((((h).2).2).2 c5).2).2 c4).2).2 c3).2).2 c2).2).2).1 c1).1, rentsWithin_ok (by decide) ⟨((((((((((((((h).2).2).2 c5).2).2 c4).2).2 c3).2).2 c2).2).2).1 c1).2).1, ((((((((((((((h).2).2).2 c5).2).2 c4).2).2 c3).2).2 c2).2).2).1 c1).2).2⟩⟩), fun c1 => ((((((((((((h).2).2).2 c5).2).2 c4).2).2 c3).2).2 c2).2).2).2 c1⟩⟩⟩)⟩⟩⟩⟩⟩⟩⟩⟩)⟩⟩))⟩⟩)⟩)
def kX9_rents_34 : List BI := [bi (.ldc_w 388) 3 [] (-1000000000), bi (.ireturn) 1 [] 0]
theorem cX9_rents_34 : chk mX9_rents 34 kX9_rents_34 = true := by decide +kernel
def kX9_rents_38 : List BI := [bi (.aload_n 0) 1 [] 0, bi (.invokevirtual 470) 3 [mX9_putsAside, 1, 2, 9] 0, bi (.aload_n 0) 1 [] 0, bi (.getfield 94) 3 [9, 37] 0, bi (.iconst 2) 1 [] 0, bi (.iload_n 1) 1 [] 0, bi (.iadd) 1 [] 0, bi (.iaload) 1 [] 0, bi (.istore_n 3) 1 [] 0, bi (.iconst 0) 1 [] 0, bi (.istore 4) 2 [] 0]
theorem cX9_rents_38 : chk mX9_rents 38 kX9_rents_38 = true := by decide +kernel
def kX9_rents_0 : List BI := [bi (.aload_n 0) 1 [] 0, bi (.iload_n 1) 1 [] 0, bi (.invokevirtual 325) 3 [mX9_isTower, 2, 2, 9] 0, bi (.ifCond .eq (29)) 3 [34] 0, bi (.iload_n 2) 1 [] 0, bi (.i2l) 1 [] 0, bi (.lconst 0) 1 [] 0, bi (.ldc2_w 416) 3 [] 100, bi (.invokestatic 233) 3 [mX9_isIn, 3, 6] 0, bi (.ifCond .eq (17)) 3 [34] 0, bi (.aload_n 0) 1 [] 0, bi (.getfield 94) 3 [9, 37] 0, bi (.iconst 0) 1 [] 0, bi (.iaload) 1 [] 0, bi (.iload_n 2) 1 [] 0, bi (.iadd) 1 [] 0, bi (.sipush (999)) 3 [] 0, bi (.if_icmp .le (7)) 3 [38] 0, bi (.ldc_w 388) 3 [] (-1000000000), bi (.ireturn) 1 [] 0]
theorem cX9_rents_0 : chk mX9_rents 0 kX9_rents_0 = true := by decide +kernel
theorem mrents_0 {d : Nat} {σ : SG} {Q : Option AV → SG → Prop} {t k : Int} (h : (0 < d) ∧ (r3 t) ∧ (0 < d - 1) ∧ (r3 ((σ 61 4) - 1)) ∧ (0 < d - 1) ∧ (r6 t) ∧ (t < 0 → Q (some (.inl ((-1000000000)))) σ) ∧ (0 ≤ t → (r6 t ∧ r6 ((σ 61 4) - 1)) ∧ (((σ 61 4) - 1) < t → Q (some (.inl ((-1000000000)))) σ) ∧ (t ≤ ((σ 61 4) - 1) → (r3 k) ∧ (0 < d) ∧ (r6 k) ∧ (k < 0 → Q (some (.inl ((-1000000000)))) σ) ∧ (0 ≤ k → (r6 k) ∧ (100 < k → Q (some (.inl ((-1000000000)))) σ) ∧ (k ≤ 100 → (r3 ((σ 69 0) + k)) ∧ (((σ 69 0) + k) ≤ 999 → (0 < d) ∧ (0 ≤ (2 + t) ∧ (2 + t) < 254) ∧ AW d mX9_rents 54 [some (.inr (.inr 42)), some (.inl t), some (.inl k), some (.inl (σ 69 (2 + t))), some (.inl 0)] [] (putF σ 72 (cpR (σ 72) (σ 69) 0 0 254)) Q) ∧ (999 < ((σ 69 0) + k) → Q (some (.inl ((-1000000000)))) σ)))))) : AW d mX9_rents 0 [some (.inr (.inr 42)), some (.inl t), some (.inl k), none, none] [] σ Q := AW.blk kX9_rents_0 cX9_rents_0 (⟨(h).1, AW.blk kX9_isTower_0 cX9_isTower_0 (⟨((h).2).1, ⟨(((h).2).2).1, AW.blk kX9_towerMany_0 cX9_towerMany_0 (⟨⟨(by decide), (by decide)⟩, ⟨((((h).2).2).2).1, ⟨(((((h).2).2).2).2).1, AW.blk kX9_isIn_0 cX9_isIn_0 (⟨⟨((((((h).2).2).2).2).2).1, (by decide)⟩, ⟨fun c10 => AW.blk kX9_isIn_17 cX9_isIn_17 (⟨(by decide), ⟨(by decide), ⟨(by decide), ⟨fun _ => AW.blk kX9_rents_34 cX9_rents_34 ((((((((h).2).2).2).2).2).2).1 c10), fun c => absurd c (by decide)⟩⟩⟩⟩), fun c10 => ⟨⟨(((((((((h).2).2).2).2).2).2).2 c10).1).1, (((((((((h).2).2).2).2).2).2).2 c10).1).2⟩, ⟨fun c9 => AW.blk kX9_isIn_17 cX9_isIn_17 (⟨(by decide), ⟨(by decide), ⟨(by decide), ⟨fun _ => AW.blk kX9_rents_34 cX9_rents_34 ((((((((((h).2).2).2).2).2).2).2 c10).2).1 c9), fun c => absurd c (by decide)⟩⟩⟩⟩), fun c9 => AW.blk kX9_isIn_18 cX9_isIn_18 (⟨(by decide), ⟨(by decide), ⟨(by decide), ⟨fun c => absurd c (by decide), fun _ => ⟨((((((((((h).2).2).2).2).2).2).2 c10).2).2 c9).1, ⟨(((((((((((h).2).2).2).2).2).2).2 c10).2).2 c9).2).1, AW.blk kX9_isIn_0 cX9_isIn_0 (⟨⟨((((((((((((h).2).2).2).2).2).2).2 c10).2).2 c9).2).2).1, (by decide)⟩, ⟨fun c8 => AW.blk kX9_isIn_17 cX9_isIn_17 (⟨(by decide), ⟨(by decide), ⟨fun _ => AW.blk kX9_rents_34 cX9_rents_34 ((((((((((((((h).2).2).2).2).2).2).2 c10).2).2 c9).2).2).2).1 c8), fun c => absurd c (by decide)⟩⟩⟩), fun c8 => ⟨⟨((((((((((((((h).2).2).2).2).2).2).2 c10).2).2 c9).2).2).2).2 c8).1, (by decide)⟩, ⟨fun c7 => AW.blk kX9_isIn_17 cX9_isIn_17 (⟨(by decide), ⟨(by decide), ⟨fun _ => AW.blk kX9_rents_34 cX9_rents_34 ((((((((((((((((h).2).2).2).2).2).2).2 c10).2).2 c9).2).2).2).2 c8).2).1 c7), fun c => absurd c (by decide)⟩⟩⟩), fun c7 => AW.blk kX9_isIn_18 cX9_isIn_18 (⟨(by decide), ⟨(by decide), ⟨fun c => absurd c (by decide), fun _ => ⟨⟨(by decide), (by decide)⟩, ⟨⟨((((((((((((((((h).2).2).2).2).2).2).2 c10).2).2 c9).2).2).2).2 c8).2).2 c7).1, (by decide)⟩, ⟨fun c6 => AW.blk kX9_rents_38 cX9_rents_38 (⟨((((((((((((((((((h).2).2).2).2).2).2).2 c10).2).2 c9).2).2).2).2 c8).2).2 c7).2).1 c6).1, mputs_ok (⟨⟨((((((((((((((((((((h).2).2).2).2).2).2).2 c10).2).2 c9).2).2).2).2 c8).2).2 c7).2).1 c6).2).1).1, ((((((((((((((((((((h).2).2).2).2).2).2).2 c10).2).2 c9).2).2).2).2 c8).2).2 c7).2).1 c6).2).1).2⟩, (((((((((((((((((((h).2).2).2).2).2).2).2 c10).2).2 c9).2).2).2).2 c8).2).2 c7).2).1 c6).2).2⟩)⟩), fun c6 => (((((((((((((((((h).2).2).2).2).2).2).2 c10).2).2 c9).2).2).2).2 c8).2).2 c7).2).2 c6⟩⟩⟩⟩⟩⟩)⟩⟩⟩⟩)⟩⟩⟩⟩⟩⟩)⟩⟩⟩⟩)⟩⟩⟩)⟩⟩)⟩)
def kX9_rents_64 : List BI := [bi (.pop) 1 [] 0, bi (.iinc 4 (1)) 3 [] 0, bi (.goto (-14)) 3 [54] 0]
theorem cX9_rents_64 : chk mX9_rents 64 kX9_rents_64 = true := by decide +kernel
theorem mrents_64 {d : Nat} {σ : SG} {Q : Option AV → SG → Prop} {t k l3 l4 s0 : Int} (h : AW d mX9_rents 54 [some (.inr (.inr 42)), some (.inl t), some (.inl k), some (.inl l3), some (.inl (l4 + 1))] [] σ Q) : AW d mX9_rents 64 [some (.inr (.inr 42)), some (.inl t), some (.inl k), some (.inl l3), some (.inl l4)] [.inl s0] σ Q := AW.blk kX9_rents_64 cX9_rents_64 (h)
def kX9_rents_71 : List BI := [bi (.aload_n 0) 1 [] 0, bi (.getfield 94) 3 [9, 37] 0, bi (.iconst 2) 1 [] 0, bi (.iload_n 1) 1 [] 0, bi (.iadd) 1 [] 0, bi (.iaload) 1 [] 0, bi (.iload_n 3) 1 [] 0, bi (.isub) 1 [] 0, bi (.istore 4) 2 [] 0, bi (.aload_n 0) 1 [] 0, bi (.invokevirtual 473) 3 [mX9_takesBack, 1, 2, 9] 0, bi (.iload 4) 2 [] 0, bi (.ireturn) 1 [] 0]
theorem cX9_rents_71 : chk mX9_rents 71 kX9_rents_71 = true := by decide +kernel
def kX9_rents_54 : List BI := [bi (.iload 4) 2 [] 0, bi (.iload_n 2) 1 [] 0, bi (.if_icmp .ge (14)) 3 [71] 0, bi (.aload_n 0) 1 [] 0, bi (.invokevirtual 418) 3 [mX9_dayGoes, 1, 3, 9] 0]
theorem cX9_rents_54 : chk mX9_rents 54 kX9_rents_54 = true := by decide +kernel
theorem mrents_54 {d : Nat} {σ : SG} {Q : Option AV → SG → Prop} {t k l3 l4 : Int} (h : (r3 l4 ∧ r3 k) ∧ (k ≤ l4 → (0 ≤ (2 + t) ∧ (2 + t) < 254) ∧ (0 < d) ∧ Q (some (.inl ((σ 69 (2 + t)) - l3))) (putF σ 69 (cpR (σ 69) (σ 72) 0 0 254))) ∧ (l4 < k → (0 < d) ∧ AW (d - 1) mX9_dayGoes 0 [some (.inr (.inr 42)), none, none] [] σ (fun rr σ' => AW d mX9_rents 64 [some (.inr (.inr 42)), some (.inl t), some (.inl k), some (.inl l3), some (.inl l4)] (rtS rr []) σ' Q))) : AW d mX9_rents 54 [some (.inr (.inr 42)), some (.inl t), some (.inl k), some (.inl l3), some (.inl l4)] [] σ Q := AW.blk kX9_rents_54 cX9_rents_54 (⟨⟨((h).1).1, ((h).1).2⟩, ⟨fun c11 => AW.blk kX9_rents_71 cX9_rents_71 (⟨⟨((((h).2).1 c11).1).1, ((((h).2).1 c11).1).2⟩, ⟨((((h).2).1 c11).2).1, mtakes_ok (((((h).2).1 c11).2).2)⟩⟩), fun c11 => ⟨(((h).2).2 c11).1, (((h).2).2 c11).2⟩⟩⟩)
/-! rents to come -/
def sm (F : Int → Int) : Int → Int → Int := fun i a => a + F i
theorem sm_upd {F F' : Int → Int} {k : Int} (k0 : 0 ≤ k) (h : ∀ i, 0 ≤ i → i ≠ k → F' i = F i) : ∀ n : Nat, foI (sm F') 0 (n : Int) = foI (sm F) 0 (n : Int) + (if k < n then F' k - F k else 0) := by
  intro n
  induction n with
  | zero =>
    rw [if_neg (by omega)]
    rfl
  | succ n ih =>
    rw [show ((n + 1 : Nat) : Int) = (n : Int) + 1 by omega, foI_s _ _ (by omega), foI_s _ _ (by omega), ih]
    unfold sm
    by_cases hk : k = n
    · subst hk
      rw [if_neg (by omega), if_pos (by omega)]
      omega
    · rw [h n (by omega) (fun z => hk z.symm)]
      by_cases hc : k < n
      · rw [if_pos hc, if_pos (by omega)]
        omega
      · rw [if_neg hc, if_neg (by omega)]
        omega
def cI (f : Int → Int) (t n i : Int) : Int := (if f (22 + i * 8 + 0) = t then paB f n i else 0) - (if f (22 + i * 8 + 2) = t then paB f n i else 0)
theorem reB_sm (f : Int → Int) (t n m : Int) : foI (reB f t n) 0 m = foI (sm (cI f t n)) 0 m := by
  apply foI_cong
  intro i x _ _
  unfold reB sm cI
  split
  · split <;> omega
  · split <;> omega
/-- what one loan's day does -/
theorem RS.dy1 {tw : Int} {H : Int → Int} {B D : Int} {f g : Int → Int} (h : RS tw H B D f g) (ht : tw ≤ 4) (hD : D < 5000) {k : Int} (k0 : 0 ≤ k) (k1 : k < f 1) (bn e : Int) (ko : f (22 + k * 8 + 7) = 0) : (∀ t, 0 ≤ t → t < 4 → (dyF bn k (f, e)).1 (2 + t) = f (2 + t) + (if f (22 + k * 8 + 0) = t then f (22 + k * 8 + 4) else 0) - (if f (22 + k * 8 + 2) = t then f (22 + k * 8 + 4) else 0)) ∧ (∀ i c, 0 ≤ i → i ≠ k → 0 ≤ c → c < 8 → (dyF bn k (f, e)).1 (22 + i * 8 + c) = f (22 + i * 8 + c)) ∧ ((dyF bn k (f, e)).1 (22 + k * 8 + 0) = f (22 + k * 8 + 0) ∧ (dyF bn k (f, e)).1 (22 + k * 8 + 2) = f (22 + k * 8 + 2) ∧ (dyF bn k (f, e)).1 (22 + k * 8 + 4) = f (22 + k * 8 + 4)) ∧ 1 ≤ f (22 + k * 8 + 3) ∧ ((f (22 + k * 8 + 3) = 1 ∧ (dyF bn k (f, e)).1 (22 + k * 8 + 7) = 1) ∨ (f (22 + k * 8 + 3) ≠ 1 ∧ (dyF bn k (f, e)).1 (22 + k * 8 + 7) = 0 ∧ (dyF bn k (f, e)).1 (22 + k * 8 + 3) = f (22 + k * 8 + 3) - 1)) := by
  obtain ⟨el, a1, a2, a3, a4, a5, a6, a7⟩ := h.2.2.2.2.2.1 k k0 k1
  have kl : 1 ≤ f (22 + k * 8 + 3) := by omega
  have F3 : payF f k (22 + k * 8 + 3) = f (22 + k * 8 + 3) - 1 := by unfold payF; rw [if_pos rfl]
  have Fo : ∀ j, 22 ≤ j → j ≠ 22 + k * 8 + 3 → j ≠ 22 + k * 8 + 5 → payF f k j = f j := fun j b1 b2 b3 => payF_ne b2 b3 (by omega) (by omega)
  have FP : ∀ t, 0 ≤ t → t < 4 → payF f k (2 + t) = f (2 + t) + (if f (22 + k * 8 + 0) = t then f (22 + k * 8 + 4) else 0) - (if f (22 + k * 8 + 2) = t then f (22 + k * 8 + 4) else 0) := by
    intro t t0 t1
    unfold payF
    rw [if_neg (by omega), if_neg (by omega)]
    by_cases h0 : f (22 + k * 8 + 0) = t
    · rw [if_pos (by omega), if_pos h0]
      by_cases h2 : f (22 + k * 8 + 2) = t
      · rw [if_pos (by omega), if_pos h2]
        omega
      · rw [if_neg (by omega), if_neg h2]
        omega
    · rw [if_neg (by omega), if_neg h0]
      by_cases h2 : f (22 + k * 8 + 2) = t
      · rw [if_pos (by omega), if_pos h2]
        omega
      · rw [if_neg (by omega), if_neg h2]
        omega
  have q0 : payF f k (22 + k * 8 + 0) = f (22 + k * 8 + 0) := Fo _ (by omega) (by omega) (by omega)
  have q2 : payF f k (22 + k * 8 + 2) = f (22 + k * 8 + 2) := Fo _ (by omega) (by omega) (by omega)
  have q4 : payF f k (22 + k * 8 + 4) = f (22 + k * 8 + 4) := Fo _ (by omega) (by omega) (by omega)
  have q7 : payF f k (22 + k * 8 + 7) = f (22 + k * 8 + 7) := Fo _ (by omega) (by omega) (by omega)
  unfold dyF
  dsimp only
  rw [if_neg (by omega)]
  by_cases hz : payF f k (22 + k * 8 + 3) = 0
  · rw [if_pos hz]
    dsimp only
    have hm : enH (payF f k) k bn = 6 ∨ enH (payF f k) k bn = 14 := by
      unfold enH
      split
      · exact Or.inl rfl
      · exact Or.inr rfl
    generalize enH (payF f k) k bn = hm2 at *
    refine ⟨fun t t0 t1 => ?_, fun i c i0 ik c0 c1 => ?_, ⟨?_, ?_, ?_⟩, kl, Or.inl ⟨by omega, ?_⟩⟩
    · rw [enF_ne (by omega) (by omega) (by omega) (by omega) (by omega)]
      exact FP t t0 t1
    · rw [enF_ne (by omega) (by omega) (by omega) (by omega) (by omega)]
      exact Fo _ (by omega) (by omega) (by omega)
    · rw [enF_ne (by omega) (by omega) (by omega) (by omega) (by omega), q0]
    · rw [enF_ne (by omega) (by omega) (by omega) (by omega) (by omega), q2]
    · rw [enF_ne (by omega) (by omega) (by omega) (by omega) (by omega), q4]
    · unfold enF
      rw [if_pos rfl]
  · rw [if_neg hz]
    dsimp only
    exact ⟨FP, fun i c i0 ik c0 c1 => Fo _ (by omega) (by omega) (by omega), ⟨q0, q2, q4⟩, kl, Or.inr ⟨by omega, by omega, F3⟩⟩
/-- the purse some days ahead doesn't change as loans are gone through -/
def wI (f : Int → Int) (t n k : Int) : Int → Int := fun i => if i < k then cI f t n i else cI f t (n + 1) i
theorem RS.day_rent {tw : Int} {H : Int → Int} {B D : Int} {f g : Int → Int} (h : RS tw H B D f g) (ht : tw ≤ 4) (hH : ∀ t, 0 ≤ t → t < tw → 3 ≤ H t ∧ H t ≤ 14) (hD : D < 5000) (bn : Int) {t n : Int} (t0 : 0 ≤ t) (t1 : t < 4) (n0 : 0 ≤ n) : dyR f bn (2 + t) + foI (reB (dyR f bn) t n) 0 (f 1) = f (2 + t) + foI (reB f t (n + 1)) 0 (f 1) := by
  have h1 := h.2.1
  have key : ∀ m : Nat, (m : Int) ≤ f 1 → (foI (dyF bn) (f, 0) (m : Int)).1 (2 + t) + foI (sm (wI (foI (dyF bn) (f, 0) (m : Int)).1 t n m)) 0 (f 1) = f (2 + t) + foI (reB f t (n + 1)) 0 (f 1) := by
    intro m
    induction m with
    | zero =>
      intro _
      rw [reB_sm]
      show f (2 + t) + _ = _
      congr 1
      apply foI_cong
      intro i x i0 _
      unfold sm wI
      rw [if_neg (by omega)]
      rfl
    | succ m ih =>
      intro hm
      have ih := ih (by omega)
      obtain ⟨s1, s2, s3, s4, s5⟩ := h.steps ht hH hD bn m (by omega)
      rw [show ((m + 1 : Nat) : Int) = (m : Int) + 1 by omega, foI_s _ _ (by omega)]
      generalize foI (dyF bn) (f, 0) (m : Int) = q at *
      obtain ⟨fq, eq⟩ := q
      dsimp only at *
      rw [← ih]
      by_cases ko : fq (22 + (m : Int) * 8 + 7) = 0
      · obtain ⟨p1, p2, ⟨p3, p4, p5⟩, p6, p7⟩ := s1.dy1 ht hD (k := m) (by omega) (by omega) bn eq ko
        rw [p1 t t0 t1]
        have hc : ∀ i, 0 ≤ i → i ≠ (m : Int) → ∀ n', cI (dyF bn m (fq, eq)).1 t n' i = cI fq t n' i := by
          intro i i0 im n'
          unfold cI paB
          rw [p2 i 0 i0 im (by decide) (by decide), p2 i 2 i0 im (by decide) (by decide), p2 i 7 i0 im (by decide) (by decide), p2 i 4 i0 im (by decide) (by decide), p2 i 3 i0 im (by decide) (by decide)]
        have hu := sm_upd (F := wI fq t n m) (F' := wI (dyF bn m (fq, eq)).1 t n (m + 1)) (k := m) (by omega) (fun i i0 im => by
          unfold wI
          rw [hc i i0 im, hc i i0 im]
          by_cases hi : i < m
          · rw [if_pos (by omega), if_pos hi]
          · rw [if_neg (by omega), if_neg hi]) (f 1).toNat
        rw [show (((f 1).toNat : Nat) : Int) = f 1 by omega] at hu
        rw [hu, if_pos (show (m : Int) < f 1 by omega)]
        have w1 : wI (dyF bn m (fq, eq)).1 t n (m + 1) m = cI (dyF bn m (fq, eq)).1 t n m := by unfold wI; rw [if_pos (by omega)]
        have w2 : wI fq t n m m = cI fq t (n + 1) m := by unfold wI; rw [if_neg (by omega)]
        have pd : fq (22 + (m : Int) * 8 + 4) + paB (dyF bn m (fq, eq)).1 n m = paB fq (n + 1) m := by
          unfold paB
          rw [if_pos (show fq (22 + (m : Int) * 8 + 7) ≠ 1 by omega), p5]
          rcases p7 with ⟨z1, z2⟩ | ⟨z1, z2, z3⟩
          · rw [if_neg (by omega), z1]
            split
            · omega
            · rw [show n + 1 = 1 by omega]
              omega
          · rw [if_pos (by omega), z3]
            by_cases hl : fq (22 + (m : Int) * 8 + 3) < n + 1
            · rw [if_pos hl, if_pos (by omega), Int.mul_sub]
              omega
            · rw [if_neg hl, if_neg (by omega), Int.mul_add]
              omega
        rw [w1, w2]
        unfold cI
        rw [p3, p4, ← pd]
        split
        · split <;> omega
        · split <;> omega
      · have ed : dyF bn m (fq, eq) = (fq, eq) := by
          unfold dyF
          have := (s1.2.2.2.2.2.1 m (by omega) (by omega)).2.2.2.2.2.2.2
          rw [if_pos (by dsimp only; omega)]
        rw [ed]
        dsimp only
        congr 1
        apply foI_cong
        intro i x i0 i1
        unfold sm wI
        by_cases hi : i = m
        · subst hi
          rw [if_pos (by omega), if_neg (by omega)]
          have : ∀ n', paB fq n' m = 0 := by
            intro n'
            unfold paB
            have := (s1.2.2.2.2.2.1 m (by omega) (by omega)).2.2.2.2.2.2.2
            rw [if_neg (by omega)]
          unfold cI
          rw [this, this]
        · by_cases hi2 : i < m
          · rw [if_pos (by omega), if_pos hi2]
          · rw [if_neg (by omega), if_neg hi2]
  have k := key (f 1).toNat (by omega)
  rw [show (((f 1).toNat : Nat) : Int) = f 1 by omega] at k
  rw [← k, reB_sm]
  have z : ∀ j, j ≠ 0 → dyR f bn j = (foI (dyF bn) (f, 0) (f 1)).1 j := fun j hj => by unfold dyR dayV; rw [upf_ne hj]
  rw [z _ (by omega)]
  congr 1
  apply foI_cong
  intro i x i0 i1
  unfold sm wI
  rw [if_pos i1]
  unfold cI paB
  rw [z _ (by omega), z _ (by omega), z _ (by omega), z _ (by omega), z _ (by omega)]
theorem RS.rents {tw : Int} {H : Int → Int} {B D : Int} {f g : Int → Int} (h : RS tw H B D f g) (ht : tw ≤ 4) (hH : ∀ t, 0 ≤ t → t < tw → 3 ≤ H t ∧ H t ≤ 14) (hD : D < 4000) (bn : Int) {t : Int} (t0 : 0 ≤ t) (t1 : t < 4) : ∀ m : Nat, m ≤ 500 → ∀ n, 0 ≤ n → (foI (dsF bn) (f, 0) (m : Int)).1 (2 + t) + foI (reB (foI (dsF bn) (f, 0) (m : Int)).1 t n) 0 (f 1) = f (2 + t) + foI (reB f t (n + m)) 0 (f 1) := by
  intro m
  induction m with
  | zero =>
    intro _ n _
    rw [show n + ((0 : Nat) : Int) = n by omega]
    rfl
  | succ m ih =>
    intro hm n n0
    obtain ⟨s1, s2, s3, s4, s5⟩ := h.days ht hH hD bn m (by omega)
    have ih := ih (by omega) (n + 1) (by omega)
    rw [show ((m + 1 : Nat) : Int) = (m : Int) + 1 by omega, foI_s _ _ (by omega)]
    rw [show n + ((m : Int) + 1) = n + 1 + m by omega, ← ih]
    generalize foI (dsF bn) (f, 0) (m : Int) = q at *
    have := s1.day_rent ht hH (by omega) bn (t := t) (n := n) t0 t1 n0
    rw [s4] at this
    exact this
theorem RS.rent {tw : Int} {H : Int → Int} {B D : Int} {f g : Int → Int} (h : RS tw H B D f g) (ht : tw ≤ 4) (hH : ∀ t, 0 ≤ t → t < tw → 3 ≤ H t ∧ H t ≤ 14) (hD : D < 4000) (bn : Int) {t k : Int} (t0 : 0 ≤ t) (t1 : t < 4) (k0 : 0 ≤ k) (k1 : k ≤ 500) : (foI (mdsF bn) (g, 0) k).1 (2 + t) - g (2 + t) = foI (reB f t k) 0 (f 1) := by
  have r := h.rents ht hH hD bn t0 t1 k.toNat (by omega) 0 (by decide)
  have s := h.days ht hH hD bn k.toNat (by omega)
  rw [show ((k.toNat : Nat) : Int) = k by omega] at r s
  rw [Int.zero_add] at r
  have e1 := (s.1.2.2.1 t t0 t1).1
  have e2 := (h.2.2.1 t t0 t1).1
  have z : foI (reB (foI (dsF bn) (f, 0) k).1 t 0) 0 (f 1) = 0 := by
    rw [reB_sm]
    have hl : ∀ i, 0 ≤ i → i < f 1 → cI (foI (dsF bn) (f, 0) k).1 t 0 i = 0 := by
      intro i i0 i1
      have hi := (s.1.2.2.2.2.2.1 i i0 (by rw [s.2.2.2.1]; exact i1)).2.2.2.2.1
      have : paB (foI (dsF bn) (f, 0) k).1 0 i = 0 := by
        unfold paB
        split
        · rw [if_neg (by omega), Int.mul_zero]
        · rfl
      unfold cI
      rw [this]
      split <;> split <;> rfl
    rw [foI_cong (g := fun _ a => a) (fun i x i0 i1 => by unfold sm; rw [hl i i0 i1, Int.add_zero])]
    exact foI_id (fun _ _ => rfl) _
  rw [z] at r
  omega
/-- the reference's row put aside and taken back -/
theorem SIM.as {n : Int} {σ σ' : SG} {r q : Nat} (h : SIM n σ r q) (ne : ∀ p, p ≠ 69 → p ≠ 70 → p ≠ 72 → σ' p = σ p) (h69 : ∀ i, 0 ≤ i → i < 254 → σ' 69 i = σ 69 i) : SIM n σ' r q := by
  have hr := h.rr.1
  have hL := h.2.2.2.2.1
  have q42 := ne 42 (by decide) (by decide) (by decide)
  refine h.re ⟨fun p hp => ne p (by omega) (by omega) (by omega), ?_⟩ ?_ ?_ ?_ ?_ ?_
  · rw [ne 61 (by decide) (by decide) (by decide), ne 62 (by decide) (by decide) (by decide), ne 63 (by decide) (by decide) (by decide), ne 64 (by decide) (by decide) (by decide), ne 65 (by decide) (by decide) (by decide), ne 68 (by decide) (by decide) (by decide)]
    exact ⟨fun _ _ => rfl, fun _ _ => rfl, fun _ _ => rfl, fun _ _ => rfl, fun _ _ => rfl, rfl⟩
  · have q2 := ne 2 (by decide) (by decide) (by decide)
    exact h.2.2.1.cong (by rw [q2]) (by rw [q2]) (by rw [q2]) (ne 3 (by decide) (by decide) (by decide)) (ne 43 (by decide) (by decide) (by decide)) (by rw [q42]) (by rw [q42]) (by rw [q42])
  · exact h.2.2.2.1.cong (ne 1 (by decide) (by decide) (by decide)) (ne 44 (by decide) (by decide) (by decide))
  · rw [ne 35 (by decide) (by decide) (by decide)]
    exact h.2.2.2.2.2.1.cong hL.1.1.2 hL.hH (fun _ _ _ => rfl) h69
  · exact h.2.2.2.2.2.2.1.cong (ne _ (by omega) (by omega) (by omega)) (ne _ (by omega) (by omega) (by omega)) (ne 38 (by decide) (by decide) (by decide)) (ne 39 (by decide) (by decide) (by decide)) (ne 71 (by decide) (by decide) (by decide)) (by rw [q42]) (by rw [q42])
  · exact h.2.2.2.2.2.2.2.1.cong (ne 40 (by decide) (by decide) (by decide)) (ne 41 (by decide) (by decide) (by decide)) (ne 99 (by decide) (by decide) (by decide)) (by rw [q42])
theorem call_rents {d : Nat} {n : Int} {σ : SG} {r q : Nat} {t k : Int} (hd : 100 ≤ d) (h : SIM n σ r q) (ht : r3 t) (hk : r3 k) : AW d mX8_rents 0 [some (.inr (.inr 0)), some (.inl t), some (.inl k)] [] σ (SAME d n r q mX9_rents [some (.inr (.inr 42)), some (.inl t), some (.inl k), none, none]) := by
  obtain ⟨hr, _, hx, _⟩ := h.rr
  obtain ⟨hLR, hSR, hML, hMG, hRL, hN, hW⟩ := h.lr
  obtain ⟨x1, x2, x3, x4, m1, m2, m3, e4, e1, b1, b2, b3⟩ := h.fx
  have hL := h.2.2.2.2.1
  have hRS := h.2.2.2.2.2.1
  by_cases hC : 0 ≤ t ∧ t < σ r 0 ∧ 0 ≤ k ∧ k ≤ 100 ∧ σ 35 0 + k ≤ 999
  · refine xrents_0 hr hx ⟨by omega, by omega, fun c => by omega, fun _ => ⟨by omega, fun c => by omega, fun _ => ⟨by omega, fun c => by omega, fun _ => ⟨by omega, fun c => by omega, fun _ => ⟨by omega, by omega, fun _ => ⟨by omega, ⟨by omega, hLR, ht, hk⟩, ?_⟩, fun c => by omega⟩⟩⟩⟩⟩
    unfold SAME
    refine mrents_0 ⟨by omega, by omega, by omega, by omega, by omega, by omega, fun c => by omega, fun _ => ⟨by omega, fun c => by omega, fun _ => ⟨by omega, by omega, by omega, fun c => by omega, fun _ => ⟨by omega, fun c => by omega, fun _ => ⟨by omega, fun _ => ⟨by omega, by omega, ?_⟩, fun c => by omega⟩⟩⟩⟩⟩
    generalize hS : putF σ 72 (cpR (σ 72) (σ 69) 0 0 254) = S
    have z69 : S 69 = σ 69 := by rw [← hS, putF_ne (by decide)]
    have key := downInd (P := fun i => AW d mX9_rents 54 [some (.inr (.inr 42)), some (.inl t), some (.inl k), some (.inl (σ 69 (2 + t))), some (.inl i)] [] (putF S 69 (foI (mdsF (σ r 4)) (σ 69, 0) i).1) (fun v' σ' => v' = some (.inl (foI (reB (σ 35) t k) 0 (σ 35 1))) ∧ SIM n σ' r q)) (lo := 0) (hi := k) (by omega) ?_ ?_
    · change AW d mX9_rents 54 [some (.inr (.inr 42)), some (.inl t), some (.inl k), some (.inl (σ 69 (2 + t))), some (.inl 0)] [] (putF S 69 (σ 69)) _ at key
      rwa [← z69, putF_self, z69] at key
    · refine mrents_54 ?_
      rw [putF_at, hRS.rent hL.1.1.2 hL.hH (by decide) (σ r 4) (t := t) (k := k) (by omega) (by omega) (by omega) (by omega)]
      refine ⟨by omega, fun _ => ⟨by omega, by omega, rfl, h.as (fun p p69 p70 p72 => ?_) (fun i i0 i1 => ?_)⟩, fun c => by omega⟩
      · rw [putF_ne p69, putF_ne p69, ← hS, putF_ne p72]
      · rw [putF_at]
        unfold cpR
        rw [if_pos (by omega), putF_ne (by decide), ← hS, putF_at]
        unfold cpR
        rw [if_pos (by omega)]
        congr 1
        omega
    · intro i i0 i1 ih
      have s := hRS.days hL.1.1.2 hL.hH (by decide) (σ r 4) i.toNat (by omega)
      rw [show ((i.toNat : Nat) : Int) = i by omega] at s
      rw [foI_s _ _ i0] at ih
      generalize foI (mdsF (σ r 4)) (σ 69, 0) i = mq at *
      have s1 := s.1.2.1
      refine mrents_54 ⟨by omega, fun c => by omega, fun _ => ⟨by omega, ?_⟩⟩
      refine mdayGoes_ok (σ := putF S 69 mq.1) (b := σ r 4) (f := (foI (dsF (σ r 4)) (σ 35, 0) i).1) (tw := σ r 0) (H := σ (r + 2)) (B := n * 300000 + 2376 * i) (D := 999 + i) (by rw [putF_at]; exact s.1) hL.1.1.2 hL.hH (by omega) (by omega) (by omega) ?_ ?_
      · rw [putF_at, putF_ne (by decide), ← hS, putF_ne (by decide)]
        intro z
        exact b3 (by omega)
      · rw [putF_at, putF_putF]
        exact mrents_64 ih
  · have hm : SAME d n r q mX9_rents [some (.inr (.inr 42)), some (.inl t), some (.inl k), none, none] (some (.inl (-1000000000))) σ := by
      unfold SAME
      exact mrents_0 ⟨by omega, by omega, by omega, by omega, by omega, by omega, fun c => ⟨rfl, h⟩, fun _ => ⟨by omega, fun c => ⟨rfl, h⟩, fun _ => ⟨by omega, by omega, by omega, fun c => ⟨rfl, h⟩, fun _ => ⟨by omega, fun c => ⟨rfl, h⟩, fun _ => ⟨by omega, fun z => by omega, fun c => ⟨rfl, h⟩⟩⟩⟩⟩⟩
    exact xrents_0 hr hx ⟨by omega, by omega, fun c => hm, fun _ => ⟨by omega, fun c => hm, fun _ => ⟨by omega, fun c => hm, fun _ => ⟨by omega, fun c => hm, fun _ => ⟨by omega, by omega, fun z => by omega, fun c => hm⟩⟩⟩⟩⟩
