/-! ===== the k-th step of all spare (or needed) ones (wip/whole/gen77.py) ===== -/
def kX8_towerOfKth_0 : List BI := [bi (.iload_n 1) 1 [] 0, bi (.istore_n 3) 1 [] 0, bi (.iconst 0) 1 [] 0, bi (.istore 4) 2 [] 0]
theorem cX8_towerOfKth_0 : chk mX8_towerOfKth 0 kX8_towerOfKth_0 = true := by decide +kernel
theorem xtk_0 {d : Nat} {σ : SG} {Q : Option AV → SG → Prop} {k b : Int} (h : AW d mX8_towerOfKth 5 [some (.inr (.inr 0)), none, some (.inl b), some (.inl k), some (.inl 0), none] [] σ Q) : AW d mX8_towerOfKth 0 [some (.inr (.inr 0)), some (.inl k), some (.inl b), none, none, none] [] σ Q := AW.blk kX8_towerOfKth_0 cX8_towerOfKth_0 (AW.drop 1 (h))
def kX8_towerOfKth_50 : List BI := [bi (.iload_n 3) 1 [] 0, bi (.iload 5) 2 [] 0, bi (.isub) 1 [] 0, bi (.istore_n 3) 1 [] 0, bi (.iinc 4 (1)) 3 [] 0, bi (.goto (-53)) 3 [5] 0]
theorem cX8_towerOfKth_50 : chk mX8_towerOfKth 50 kX8_towerOfKth_50 = true := by decide +kernel
def kX8_towerOfKth_36 : List BI := [bi (.invokestatic 152) 3 [mJ6_bitCount_0f7a4, 1, 1] 0, bi (.istore 5) 2 [] 0, bi (.iload_n 3) 1 [] 0, bi (.iload 5) 2 [] 0, bi (.if_icmp .ge (6)) 3 [50] 0, bi (.iload 4) 2 [] 0, bi (.ireturn) 1 [] 0]
theorem cX8_towerOfKth_36 : chk mX8_towerOfKth 36 kX8_towerOfKth_36 = true := by decide +kernel
def kX8_towerOfKth_27 : List BI := [bi (.goto (9)) 3 [36] 0]
theorem cX8_towerOfKth_27 : chk mX8_towerOfKth 27 kX8_towerOfKth_27 = true := by decide +kernel
theorem xtk_27 {d : Nat} {σ : SG} {Q : Option AV → SG → Prop} {b l3 l4 s0 : Int} (h : (0 < d) ∧ (0 ≤ s0 ∧ s0 < 16384) ∧ (r3 l3 ∧ r3 (popc s0)) ∧ ((popc s0) ≤ l3 → AW d mX8_towerOfKth 5 [some (.inr (.inr 0)), none, some (.inl b), some (.inl (l3 - (popc s0))), some (.inl (l4 + 1)), none] [] σ Q) ∧ (l3 < (popc s0) → Q (some (.inl l4)) σ)) : AW d mX8_towerOfKth 27 [some (.inr (.inr 0)), none, some (.inl b), some (.inl l3), some (.inl l4), none] [.inl s0] σ Q := AW.blk kX8_towerOfKth_27 cX8_towerOfKth_27 (AW.blk kX8_towerOfKth_36 cX8_towerOfKth_36 (⟨(h).1, bitCount_ok ⟨((h).2).1, ⟨⟨((((h).2).2).1).1, ((((h).2).2).1).2⟩, ⟨fun c1 => AW.blk kX8_towerOfKth_50 cX8_towerOfKth_50 (AW.drop 5 (((((h).2).2).2).1 c1)), fun c1 => ((((h).2).2).2).2 c1⟩⟩⟩⟩))
theorem xtk_36 {d : Nat} {σ : SG} {Q : Option AV → SG → Prop} {b l3 l4 s0 : Int} (h : (0 < d) ∧ (0 ≤ s0 ∧ s0 < 16384) ∧ (r3 l3 ∧ r3 (popc s0)) ∧ ((popc s0) ≤ l3 → AW d mX8_towerOfKth 5 [some (.inr (.inr 0)), none, some (.inl b), some (.inl (l3 - (popc s0))), some (.inl (l4 + 1)), none] [] σ Q) ∧ (l3 < (popc s0) → Q (some (.inl l4)) σ)) : AW d mX8_towerOfKth 36 [some (.inr (.inr 0)), none, some (.inl b), some (.inl l3), some (.inl l4), none] [.inl s0] σ Q := AW.blk kX8_towerOfKth_36 cX8_towerOfKth_36 (⟨(h).1, bitCount_ok ⟨((h).2).1, ⟨⟨((((h).2).2).1).1, ((((h).2).2).1).2⟩, ⟨fun c2 => AW.blk kX8_towerOfKth_50 cX8_towerOfKth_50 (AW.drop 5 (((((h).2).2).2).1 c2)), fun c2 => ((((h).2).2).2).2 c2⟩⟩⟩⟩)
def kX8_towerOfKth_61 : List BI := [bi (.iconst (-1)) 1 [] 0, bi (.ireturn) 1 [] 0]
theorem cX8_towerOfKth_61 : chk mX8_towerOfKth 61 kX8_towerOfKth_61 = true := by decide +kernel
def kX8_towerOfKth_30 : List BI := [bi (.aload_n 0) 1 [] 0, bi (.iload 4) 2 [] 0, bi (.invokevirtual 250) 3 [mX8_needOf, 2, 4, 8] 0]
theorem cX8_towerOfKth_30 : chk mX8_towerOfKth 30 kX8_towerOfKth_30 = true := by decide +kernel
def kX8_towerOfKth_11 : List BI := [bi (.getfield 100) 3 [4, 0] 0, bi (.if_icmp .ge (47)) 3 [61] 0, bi (.iload_n 2) 1 [] 0, bi (.ifCond .eq (12)) 3 [30] 0, bi (.aload_n 0) 1 [] 0, bi (.iload 4) 2 [] 0, bi (.invokevirtual 244) 3 [mX8_spareOf, 2, 7, 8] 0]
theorem cX8_towerOfKth_11 : chk mX8_towerOfKth 11 kX8_towerOfKth_11 = true := by decide +kernel
def kX8_towerOfKth_5 : List BI := [bi (.iload 4) 2 [] 0, bi (.aload_n 0) 1 [] 0, bi (.getfield 70) 3 [8, 9] 0]
theorem cX8_towerOfKth_5 : chk mX8_towerOfKth 5 kX8_towerOfKth_5 = true := by decide +kernel
theorem xtk_5 {d : Nat} {σ : SG} {Q : Option AV → SG → Prop} {b l3 l4 : Int} {r : Nat} (hr : r = 5 ∨ r = 16) (hx : (σ 0 9).toNat = r) (h : (r3 l4 ∧ r3 (σ r 0)) ∧ ((σ r 0) ≤ l4 → Q (some (.inl ((-1)))) σ) ∧ (l4 < (σ r 0) → (r3 b) ∧ (b = 0 → (0 < d) ∧ AW (d - 1) mX8_needOf 0 [some (.inr (.inr 0)), some (.inl l4), none, none] [] σ (fun rr σ' => AW d mX8_towerOfKth 36 [some (.inr (.inr 0)), none, some (.inl b), some (.inl l3), some (.inl l4), none] (rtS rr []) σ' Q)) ∧ (b ≠ 0 → (0 < d) ∧ AW (d - 1) mX8_spareOf 0 [some (.inr (.inr 0)), some (.inl l4), none, none, none, none, none] [] σ (fun rr σ' => AW d mX8_towerOfKth 27 [some (.inr (.inr 0)), none, some (.inl b), some (.inl l3), some (.inl l4), none] (rtS rr []) σ' Q)))) : AW d mX8_towerOfKth 5 [some (.inr (.inr 0)), none, some (.inl b), some (.inl l3), some (.inl l4), none] [] σ Q := by
  rcases hr with rfl | rfl <;> exact AW.blk kX8_towerOfKth_5 cX8_towerOfKth_5 (aw_rl hx (AW.blk kX8_towerOfKth_11 cX8_towerOfKth_11 (⟨⟨((h).1).1, ((h).1).2⟩, ⟨fun c4 => AW.blk kX8_towerOfKth_61 cX8_towerOfKth_61 (((h).2).1 c4), fun c4 => ⟨(((h).2).2 c4).1, ⟨fun c3 => AW.blk kX8_towerOfKth_30 cX8_towerOfKth_30 (⟨(((((h).2).2 c4).2).1 c3).1, (((((h).2).2 c4).2).1 c3).2⟩), fun c3 => ⟨(((((h).2).2 c4).2).2 c3).1, (((((h).2).2 c4).2).2 c3).2⟩⟩⟩⟩⟩)))
def kX8_stepOfKth_0 : List BI := [bi (.iload_n 1) 1 [] 0, bi (.istore_n 3) 1 [] 0, bi (.iconst 0) 1 [] 0, bi (.istore 4) 2 [] 0]
theorem cX8_stepOfKth_0 : chk mX8_stepOfKth 0 kX8_stepOfKth_0 = true := by decide +kernel
theorem xsk_0 {d : Nat} {σ : SG} {Q : Option AV → SG → Prop} {k b : Int} (h : AW d mX8_stepOfKth 5 [some (.inr (.inr 0)), none, some (.inl b), some (.inl k), some (.inl 0), none, none] [] σ Q) : AW d mX8_stepOfKth 0 [some (.inr (.inr 0)), some (.inl k), some (.inl b), none, none, none, none] [] σ Q := AW.blk kX8_stepOfKth_0 cX8_stepOfKth_0 (AW.drop 1 (h))
def kX8_stepOfKth_58 : List BI := [bi (.iload_n 3) 1 [] 0, bi (.iload 6) 2 [] 0, bi (.isub) 1 [] 0, bi (.istore_n 3) 1 [] 0, bi (.iinc 4 (1)) 3 [] 0, bi (.goto (-61)) 3 [5] 0]
theorem cX8_stepOfKth_58 : chk mX8_stepOfKth 58 kX8_stepOfKth_58 = true := by decide +kernel
def kX8_stepOfKth_36 : List BI := [bi (.istore 5) 2 [] 0, bi (.iload 5) 2 [] 0, bi (.invokestatic 152) 3 [mJ6_bitCount_0f7a4, 1, 1] 0, bi (.istore 6) 2 [] 0, bi (.iload_n 3) 1 [] 0, bi (.iload 6) 2 [] 0, bi (.if_icmp .ge (10)) 3 [58] 0, bi (.iload 5) 2 [] 0, bi (.iload_n 3) 1 [] 0, bi (.invokestatic 247) 3 [mX8_countOrStep, 2, 4] 0, bi (.ireturn) 1 [] 0]
theorem cX8_stepOfKth_36 : chk mX8_stepOfKth 36 kX8_stepOfKth_36 = true := by decide +kernel
def kX8_stepOfKth_27 : List BI := [bi (.goto (9)) 3 [36] 0]
theorem cX8_stepOfKth_27 : chk mX8_stepOfKth 27 kX8_stepOfKth_27 = true := by decide +kernel
theorem xsk_27 {d : Nat} {σ : SG} {Q : Option AV → SG → Prop} {b l3 l4 s0 : Int} (h : (0 < d) ∧ (0 ≤ s0 ∧ s0 < 16384) ∧ (r3 l3 ∧ r3 (popc s0)) ∧ ((popc s0) ≤ l3 → AW d mX8_stepOfKth 5 [some (.inr (.inr 0)), none, some (.inl b), some (.inl (l3 - (popc s0))), some (.inl (l4 + 1)), none, none] [] σ Q) ∧ (l3 < (popc s0) → (0 < d) ∧ (1 ≤ d - 1 ∧ 0 ≤ s0 ∧ s0 < 16384 ∧ r3 l3) ∧ Q (some (.inl (csV s0 l3))) σ)) : AW d mX8_stepOfKth 27 [some (.inr (.inr 0)), none, some (.inl b), some (.inl l3), some (.inl l4), none, none] [.inl s0] σ Q := AW.blk kX8_stepOfKth_27 cX8_stepOfKth_27 (AW.blk kX8_stepOfKth_36 cX8_stepOfKth_36 (⟨(h).1, bitCount_ok ⟨((h).2).1, ⟨⟨((((h).2).2).1).1, ((((h).2).2).1).2⟩, ⟨fun c5 => AW.blk kX8_stepOfKth_58 cX8_stepOfKth_58 (AW.drop 5 (AW.drop 6 (((((h).2).2).2).1 c5))), fun c5 => ⟨(((((h).2).2).2).2 c5).1, countOrStep_ok ⟨((((((h).2).2).2).2 c5).2).1, ((((((h).2).2).2).2 c5).2).2⟩⟩⟩⟩⟩⟩))
theorem xsk_36 {d : Nat} {σ : SG} {Q : Option AV → SG → Prop} {b l3 l4 s0 : Int} (h : (0 < d) ∧ (0 ≤ s0 ∧ s0 < 16384) ∧ (r3 l3 ∧ r3 (popc s0)) ∧ ((popc s0) ≤ l3 → AW d mX8_stepOfKth 5 [some (.inr (.inr 0)), none, some (.inl b), some (.inl (l3 - (popc s0))), some (.inl (l4 + 1)), none, none] [] σ Q) ∧ (l3 < (popc s0) → (0 < d) ∧ (1 ≤ d - 1 ∧ 0 ≤ s0 ∧ s0 < 16384 ∧ r3 l3) ∧ Q (some (.inl (csV s0 l3))) σ)) : AW d mX8_stepOfKth 36 [some (.inr (.inr 0)), none, some (.inl b), some (.inl l3), some (.inl l4), none, none] [.inl s0] σ Q := AW.blk kX8_stepOfKth_36 cX8_stepOfKth_36 (⟨(h).1, bitCount_ok ⟨((h).2).1, ⟨⟨((((h).2).2).1).1, ((((h).2).2).1).2⟩, ⟨fun c6 => AW.blk kX8_stepOfKth_58 cX8_stepOfKth_58 (AW.drop 5 (AW.drop 6 (((((h).2).2).2).1 c6))), fun c6 => ⟨(((((h).2).2).2).2 c6).1, countOrStep_ok ⟨((((((h).2).2).2).2 c6).2).1, ((((((h).2).2).2).2 c6).2).2⟩⟩⟩⟩⟩⟩)
def kX8_stepOfKth_69 : List BI := [bi (.iconst (-1)) 1 [] 0, bi (.ireturn) 1 [] 0]
theorem cX8_stepOfKth_69 : chk mX8_stepOfKth 69 kX8_stepOfKth_69 = true := by decide +kernel
def kX8_stepOfKth_30 : List BI := [bi (.aload_n 0) 1 [] 0, bi (.iload 4) 2 [] 0, bi (.invokevirtual 250) 3 [mX8_needOf, 2, 4, 8] 0]
theorem cX8_stepOfKth_30 : chk mX8_stepOfKth 30 kX8_stepOfKth_30 = true := by decide +kernel
def kX8_stepOfKth_11 : List BI := [bi (.getfield 100) 3 [4, 0] 0, bi (.if_icmp .ge (55)) 3 [69] 0, bi (.iload_n 2) 1 [] 0, bi (.ifCond .eq (12)) 3 [30] 0, bi (.aload_n 0) 1 [] 0, bi (.iload 4) 2 [] 0, bi (.invokevirtual 244) 3 [mX8_spareOf, 2, 7, 8] 0]
theorem cX8_stepOfKth_11 : chk mX8_stepOfKth 11 kX8_stepOfKth_11 = true := by decide +kernel
def kX8_stepOfKth_5 : List BI := [bi (.iload 4) 2 [] 0, bi (.aload_n 0) 1 [] 0, bi (.getfield 70) 3 [8, 9] 0]
theorem cX8_stepOfKth_5 : chk mX8_stepOfKth 5 kX8_stepOfKth_5 = true := by decide +kernel
theorem xsk_5 {d : Nat} {σ : SG} {Q : Option AV → SG → Prop} {b l3 l4 : Int} {r : Nat} (hr : r = 5 ∨ r = 16) (hx : (σ 0 9).toNat = r) (h : (r3 l4 ∧ r3 (σ r 0)) ∧ ((σ r 0) ≤ l4 → Q (some (.inl ((-1)))) σ) ∧ (l4 < (σ r 0) → (r3 b) ∧ (b = 0 → (0 < d) ∧ AW (d - 1) mX8_needOf 0 [some (.inr (.inr 0)), some (.inl l4), none, none] [] σ (fun rr σ' => AW d mX8_stepOfKth 36 [some (.inr (.inr 0)), none, some (.inl b), some (.inl l3), some (.inl l4), none, none] (rtS rr []) σ' Q)) ∧ (b ≠ 0 → (0 < d) ∧ AW (d - 1) mX8_spareOf 0 [some (.inr (.inr 0)), some (.inl l4), none, none, none, none, none] [] σ (fun rr σ' => AW d mX8_stepOfKth 27 [some (.inr (.inr 0)), none, some (.inl b), some (.inl l3), some (.inl l4), none, none] (rtS rr []) σ' Q)))) : AW d mX8_stepOfKth 5 [some (.inr (.inr 0)), none, some (.inl b), some (.inl l3), some (.inl l4), none, none] [] σ Q := by
  rcases hr with rfl | rfl <;> exact AW.blk kX8_stepOfKth_5 cX8_stepOfKth_5 (aw_rl hx (AW.blk kX8_stepOfKth_11 cX8_stepOfKth_11 (⟨⟨((h).1).1, ((h).1).2⟩, ⟨fun c8 => AW.blk kX8_stepOfKth_69 cX8_stepOfKth_69 (((h).2).1 c8), fun c8 => ⟨(((h).2).2 c8).1, ⟨fun c7 => AW.blk kX8_stepOfKth_30 cX8_stepOfKth_30 (⟨(((((h).2).2 c8).2).1 c7).1, (((((h).2).2 c8).2).1 c7).2⟩), fun c7 => ⟨(((((h).2).2 c8).2).2 c7).1, (((((h).2).2 c8).2).2 c7).2⟩⟩⟩⟩⟩)))
def smP (S : Int → Int) (t : Int) : Int := foI (fun i x => x + popc (S i)) 0 t
theorem smP_s (S : Int → Int) {t : Int} (h : 0 ≤ t) : smP S (t + 1) = smP S t + popc (S t) := foI_s _ _ h
theorem smP_r (S : Int → Int) {t : Int} (h : 0 ≤ t) : 0 ≤ smP S t ∧ smP S t ≤ 32 * t := by
  obtain ⟨n, rfl⟩ : ∃ n : Nat, t = (n : Int) := ⟨t.toNat, by omega⟩
  induction n with
  | zero => exact ⟨Int.le_refl _, Int.le_refl _⟩
  | succ n ih =>
    have h0 := ih (by omega)
    have hs := smP_s S (t := (n : Int)) (by omega)
    have h1 := popc_nn (S n)
    have h2 := popc_le (S n)
    rw [show ((n + 1 : Nat) : Int) = (n : Int) + 1 by omega, hs]
    omega
def seB (b : Int) (σ : SG) (t : Int) : Int := if b = 0 then mneV σ t else mspV σ t
def tkB (S : Int → Int) (k : Int) : Int → Bool := fun t => decide (k - smP S t < popc (S t))
def skV (S : Int → Int) (k tw : Int) : Int := if fstI (tkB S k) tw = -1 then -1 else csV (S (fstI (tkB S k) tw)) (k - smP S (fstI (tkB S k) tw))
theorem putF_22 (σ : SG) (A B A' B' : Int → Int) : putF (putF (putF (putF σ 31 A) 32 B) 31 A') 32 B' = putF (putF σ 31 A') 32 B' := by
  funext p i
  unfold putF
  by_cases c1 : p = 32
  · simp [c1]
  · by_cases c2 : p = 31
    · simp [c2]
    · simp [c1, c2]
theorem SIM.p3 {n : Int} {σ : SG} {r q : Nat} (h : SIM n σ r q) (A B : Int → Int) : SIM n (putF (putF σ 31 A) 32 B) r q := (h.eqv (EQV.pf h.rr.1 (p := 31) (f := A) (by omega))).eqv (EQV.pf h.rr.1 (p := 32) (f := B) (by omega))
theorem p3_mV (σ : SG) (A B : Int → Int) (t : Int) : mspV (putF (putF σ 31 A) 32 B) t = mspV σ t ∧ mneV (putF (putF σ 31 A) 32 B) t = mneV σ t := by
  have z : ∀ p, p ≠ 31 → p ≠ 32 → putF (putF σ 31 A) 32 B p = σ p := fun p a b => by rw [putF_ne b, putF_ne a]
  exact mspV_q (z 61 (by decide) (by decide)) (z 63 (by decide) (by decide)) (z 64 (by decide) (by decide)) (z 69 (by decide) (by decide)) t
theorem towerOfKth_sim {d : Nat} {n : Int} {σ : SG} {r q : Nat} {k b : Int} {Q : Option AV → SG → Prop} (h : SIM n σ r q) (hb : r3 b) (k0 : 0 ≤ k) (k1 : k ≤ 1000) (hd : 52 ≤ d) (hq : ∀ A B, Q (some (.inl (fstI (tkB (seB b σ) k) (σ r 0)))) (putF (putF σ 31 A) 32 B)) : AW d mX8_towerOfKth 0 [some (.inr (.inr 0)), some (.inl k), some (.inl b), none, none, none] [] σ Q := by
  obtain ⟨hr, _, hx, _⟩ := h.rr
  obtain ⟨hLR, hSR, hML, hMG, hRL, hN, hW⟩ := h.lr
  have key := downInd (P := fun i => fstI (tkB (seB b σ) k) i = -1 → ∀ A B, AW d mX8_towerOfKth 5 [some (.inr (.inr 0)), none, some (.inl b), some (.inl (k - smP (seB b σ) i)), some (.inl i), none] [] (putF (putF σ 31 A) 32 B) Q) (lo := 0) (hi := σ r 0) hN.1 ?_ ?_ rfl (σ 31) (σ 32)
  · have e0 : k - smP (seB b σ) 0 = k := by
      show k - 0 = k
      omega
    rw [e0, putF_self, putF_self] at key
    exact xtk_0 key
  · intro hn A B
    have hx' : (putF (putF σ 31 A) 32 B 0 9).toNat = r := by rw [putF_ne (by decide), putF_ne (by decide)]; exact hx
    have zr : putF (putF σ 31 A) 32 B r = σ r := by rw [putF_ne (by omega), putF_ne (by omega)]
    have hq' := hq A B
    rw [hn] at hq'
    refine xtk_5 hr hx' ?_
    rw [zr]
    exact ⟨by omega, fun _ => hq', fun c => by omega⟩
  · intro i i0 i1 ih hn A B
    have hS := h.p3 A B
    have hv := p3_mV σ A B i
    have hx' : (putF (putF σ 31 A) 32 B 0 9).toNat = r := by rw [putF_ne (by decide), putF_ne (by decide)]; exact hx
    have zr : putF (putF σ 31 A) 32 B r = σ r := by rw [putF_ne (by omega), putF_ne (by omega)]
    obtain ⟨⟨hh1, hh2, t4⟩, h63, _⟩ := h.tw i0 i1
    have hR := mspV_r (σ := σ) (t := i) (by omega) (by omega) hML
    have hs := smP_s (seB b σ) i0
    have hsr := smP_r (seB b σ) i0
    have hSr : 0 ≤ seB b σ i ∧ seB b σ i < 16384 := by
      unfold seB
      split
      · exact hR.2
      · exact hR.1
    have fin : ∀ A' B', (popc (seB b σ i) ≤ k - smP (seB b σ) i → AW d mX8_towerOfKth 5 [some (.inr (.inr 0)), none, some (.inl b), some (.inl (k - smP (seB b σ) i - popc (seB b σ i))), some (.inl (i + 1)), none] [] (putF (putF σ 31 A') 32 B') Q) ∧ (k - smP (seB b σ) i < popc (seB b σ i) → Q (some (.inl i)) (putF (putF σ 31 A') 32 B')) := by
      intro A' B'
      constructor
      · intro c
        have := ih ((fstI_s1 _ i0).mpr ⟨hn, decide_eq_false (by omega)⟩) A' B'
        rw [hs, show k - (smP (seB b σ) i + popc (seB b σ i)) = k - smP (seB b σ) i - popc (seB b σ i) by omega] at this
        exact this
      · intro c
        have hq' := hq A' B'
        have hh := fstI_hit (tkB (seB b σ) k) i0 i1 hn (decide_eq_true c)
        rw [hh] at hq'
        exact hq'
    refine xtk_5 hr hx' ?_
    rw [zr]
    refine ⟨by omega, fun c => by omega, fun _ => ⟨hb, fun c => ⟨by omega, ?_⟩, fun c => ⟨by omega, ?_⟩⟩⟩
    · refine needOf_sim hS i0 (by rw [zr]; exact i1) (by omega) (fun A' B' => ?_)
      rw [putF_22, hv.2]
      have es : seB b σ i = mneV σ i := if_pos c
      rw [← es]
      exact xtk_36 ⟨by omega, hSr, ⟨by omega, popc_r3 _⟩, (fin A' B').1, (fin A' B').2⟩
    · refine spareOf_sim hS i0 (by rw [zr]; exact i1) (by omega) (fun A' B' => ?_)
      rw [putF_22, hv.1]
      have es : seB b σ i = mspV σ i := if_neg c
      rw [← es]
      exact xtk_27 ⟨by omega, hSr, ⟨by omega, popc_r3 _⟩, (fin A' B').1, (fin A' B').2⟩
theorem stepOfKth_sim {d : Nat} {n : Int} {σ : SG} {r q : Nat} {k b : Int} {Q : Option AV → SG → Prop} (h : SIM n σ r q) (hb : r3 b) (k0 : 0 ≤ k) (k1 : k ≤ 1000) (hd : 52 ≤ d) (hq : ∀ A B, Q (some (.inl (skV (seB b σ) k (σ r 0)))) (putF (putF σ 31 A) 32 B)) : AW d mX8_stepOfKth 0 [some (.inr (.inr 0)), some (.inl k), some (.inl b), none, none, none, none] [] σ Q := by
  obtain ⟨hr, _, hx, _⟩ := h.rr
  obtain ⟨hLR, hSR, hML, hMG, hRL, hN, hW⟩ := h.lr
  have key := downInd (P := fun i => fstI (tkB (seB b σ) k) i = -1 → ∀ A B, AW d mX8_stepOfKth 5 [some (.inr (.inr 0)), none, some (.inl b), some (.inl (k - smP (seB b σ) i)), some (.inl i), none, none] [] (putF (putF σ 31 A) 32 B) Q) (lo := 0) (hi := σ r 0) hN.1 ?_ ?_ rfl (σ 31) (σ 32)
  · have e0 : k - smP (seB b σ) 0 = k := by
      show k - 0 = k
      omega
    rw [e0, putF_self, putF_self] at key
    exact xsk_0 key
  · intro hn A B
    have hx' : (putF (putF σ 31 A) 32 B 0 9).toNat = r := by rw [putF_ne (by decide), putF_ne (by decide)]; exact hx
    have zr : putF (putF σ 31 A) 32 B r = σ r := by rw [putF_ne (by omega), putF_ne (by omega)]
    have hq' := hq A B
    unfold skV at hq'
    rw [hn, if_pos rfl] at hq'
    refine xsk_5 hr hx' ?_
    rw [zr]
    exact ⟨by omega, fun _ => hq', fun c => by omega⟩
  · intro i i0 i1 ih hn A B
    have hS := h.p3 A B
    have hv := p3_mV σ A B i
    have hx' : (putF (putF σ 31 A) 32 B 0 9).toNat = r := by rw [putF_ne (by decide), putF_ne (by decide)]; exact hx
    have zr : putF (putF σ 31 A) 32 B r = σ r := by rw [putF_ne (by omega), putF_ne (by omega)]
    obtain ⟨⟨hh1, hh2, t4⟩, h63, _⟩ := h.tw i0 i1
    have hR := mspV_r (σ := σ) (t := i) (by omega) (by omega) hML
    have hs := smP_s (seB b σ) i0
    have hsr := smP_r (seB b σ) i0
    have hSr : 0 ≤ seB b σ i ∧ seB b σ i < 16384 := by
      unfold seB
      split
      · exact hR.2
      · exact hR.1
    have fin : ∀ A' B', (popc (seB b σ i) ≤ k - smP (seB b σ) i → AW d mX8_stepOfKth 5 [some (.inr (.inr 0)), none, some (.inl b), some (.inl (k - smP (seB b σ) i - popc (seB b σ i))), some (.inl (i + 1)), none, none] [] (putF (putF σ 31 A') 32 B') Q) ∧ (k - smP (seB b σ) i < popc (seB b σ i) → (0 < d) ∧ (1 ≤ d - 1 ∧ 0 ≤ seB b σ i ∧ seB b σ i < 16384 ∧ r3 (k - smP (seB b σ) i)) ∧ Q (some (.inl (csV (seB b σ i) (k - smP (seB b σ) i)))) (putF (putF σ 31 A') 32 B')) := by
      intro A' B'
      constructor
      · intro c
        have := ih ((fstI_s1 _ i0).mpr ⟨hn, decide_eq_false (by omega)⟩) A' B'
        rw [hs, show k - (smP (seB b σ) i + popc (seB b σ i)) = k - smP (seB b σ) i - popc (seB b σ i) by omega] at this
        exact this
      · intro c
        have hq' := hq A' B'
        have hh := fstI_hit (tkB (seB b σ) k) i0 i1 hn (decide_eq_true c)
        unfold skV at hq'
        rw [hh, if_neg (by omega)] at hq'
        exact ⟨by omega, ⟨by omega, hSr.1, hSr.2, by omega⟩, hq'⟩
    refine xsk_5 hr hx' ?_
    rw [zr]
    refine ⟨by omega, fun c => by omega, fun _ => ⟨hb, fun c => ⟨by omega, ?_⟩, fun c => ⟨by omega, ?_⟩⟩⟩
    · refine needOf_sim hS i0 (by rw [zr]; exact i1) (by omega) (fun A' B' => ?_)
      rw [putF_22, hv.2]
      have es : seB b σ i = mneV σ i := if_pos c
      rw [← es]
      exact xsk_36 ⟨by omega, hSr, ⟨by omega, popc_r3 _⟩, (fin A' B').1, (fin A' B').2⟩
    · refine spareOf_sim hS i0 (by rw [zr]; exact i1) (by omega) (fun A' B' => ?_)
      rw [putF_22, hv.1]
      have es : seB b σ i = mspV σ i := if_neg c
      rw [← es]
      exact xsk_27 ⟨by omega, hSr, ⟨by omega, popc_r3 _⟩, (fin A' B').1, (fin A' B').2⟩
