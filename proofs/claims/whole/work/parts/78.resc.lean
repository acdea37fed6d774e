/-! ===== rescue of the class (wip/whole/gen78.py) ===== -/
def kX8_rescue_0 : List BI := [bi (.iconst 0) 1 [] 0, bi (.istore_n 3) 1 [] 0, bi (.iconst 0) 1 [] 0, bi (.istore 4) 2 [] 0, bi (.iconst 0) 1 [] 0, bi (.istore 5) 2 [] 0]
theorem cX8_rescue_0 : chk mX8_rescue 0 kX8_rescue_0 = true := by decide +kernel
theorem xr_0 {d : Nat} {σ : SG} {Q : Option AV → SG → Prop} {k w : Int} (h : AW d mX8_rescue 8 [some (.inr (.inr 0)), some (.inl k), some (.inl w), some (.inl 0), some (.inl 0), some (.inl 0)] [] σ Q) : AW d mX8_rescue 0 [some (.inr (.inr 0)), some (.inl k), some (.inl w), none, none, none] [] σ Q := AW.blk kX8_rescue_0 cX8_rescue_0 (h)
def kX8_rescue_27 : List BI := [bi (.invokestatic 152) 3 [mJ6_bitCount_0f7a4, 1, 1] 0, bi (.iadd) 1 [] 0, bi (.istore_n 3) 1 [] 0, bi (.iload 4) 2 [] 0, bi (.aload_n 0) 1 [] 0, bi (.iload 5) 2 [] 0, bi (.invokevirtual 244) 3 [mX8_spareOf, 2, 7, 8] 0]
theorem cX8_rescue_27 : chk mX8_rescue 27 kX8_rescue_27 = true := by decide +kernel
theorem xr_27 {d : Nat} {σ : SG} {Q : Option AV → SG → Prop} {k w l3 l4 l5 s0 : Int} (h : (0 < d) ∧ (0 ≤ s0 ∧ s0 < 16384) ∧ (0 < d) ∧ AW (d - 1) mX8_spareOf 0 [some (.inr (.inr 0)), some (.inl l5), none, none, none, none, none] [] σ (fun rr σ' => AW d mX8_rescue 40 [some (.inr (.inr 0)), some (.inl k), some (.inl w), some (.inl (l3 + (popc s0))), some (.inl l4), some (.inl l5)] (rtS rr [.inl l4]) σ' Q)) : AW d mX8_rescue 27 [some (.inr (.inr 0)), some (.inl k), some (.inl w), some (.inl l3), some (.inl l4), some (.inl l5)] [.inl s0, .inl l3] σ Q := AW.blk kX8_rescue_27 cX8_rescue_27 (⟨(h).1, bitCount_ok ⟨((h).2).1, ⟨(((h).2).2).1, (((h).2).2).2⟩⟩⟩)
def kX8_rescue_40 : List BI := [bi (.invokestatic 152) 3 [mJ6_bitCount_0f7a4, 1, 1] 0, bi (.iadd) 1 [] 0, bi (.istore 4) 2 [] 0, bi (.iinc 5 (1)) 3 [] 0, bi (.goto (-41)) 3 [8] 0]
theorem cX8_rescue_40 : chk mX8_rescue 40 kX8_rescue_40 = true := by decide +kernel
theorem xr_40 {d : Nat} {σ : SG} {Q : Option AV → SG → Prop} {k w l3 l4 l5 s0 : Int} (h : (0 < d) ∧ (0 ≤ s0 ∧ s0 < 16384) ∧ AW d mX8_rescue 8 [some (.inr (.inr 0)), some (.inl k), some (.inl w), some (.inl l3), some (.inl (l4 + (popc s0))), some (.inl (l5 + 1))] [] σ Q) : AW d mX8_rescue 40 [some (.inr (.inr 0)), some (.inl k), some (.inl w), some (.inl l3), some (.inl l4), some (.inl l5)] [.inl s0, .inl l4] σ Q := AW.blk kX8_rescue_40 cX8_rescue_40 (⟨(h).1, bitCount_ok ⟨((h).2).1, ((h).2).2⟩⟩)
def kX8_rescue_114 : List BI := [bi (.ireturn) 1 [] 0]
theorem cX8_rescue_114 : chk mX8_rescue 114 kX8_rescue_114 = true := by decide +kernel
theorem xr_114 {d : Nat} {σ : SG} {Q : Option AV → SG → Prop} {k w l3 l4 l5 s0 : Int} (h : Q (some (.inl s0)) σ) : AW d mX8_rescue 114 [some (.inr (.inr 0)), some (.inl k), some (.inl w), some (.inl l3), some (.inl l4), some (.inl l5)] [.inl s0] σ Q := AW.blk kX8_rescue_114 cX8_rescue_114 (h)
def kX8_rescue_121 : List BI := [bi (.ireturn) 1 [] 0]
theorem cX8_rescue_121 : chk mX8_rescue 121 kX8_rescue_121 = true := by decide +kernel
theorem xr_121 {d : Nat} {σ : SG} {Q : Option AV → SG → Prop} {k w l3 l4 l5 s0 : Int} (h : Q (some (.inl s0)) σ) : AW d mX8_rescue 121 [some (.inr (.inr 0)), some (.inl k), some (.inl w), some (.inl l3), some (.inl l4), some (.inl l5)] [.inl s0] σ Q := AW.blk kX8_rescue_121 cX8_rescue_121 (h)
def kX8_rescue_128 : List BI := [bi (.ireturn) 1 [] 0]
theorem cX8_rescue_128 : chk mX8_rescue 128 kX8_rescue_128 = true := by decide +kernel
theorem xr_128 {d : Nat} {σ : SG} {Q : Option AV → SG → Prop} {k w l3 l4 l5 s0 : Int} (h : Q (some (.inl s0)) σ) : AW d mX8_rescue 128 [some (.inr (.inr 0)), some (.inl k), some (.inl w), some (.inl l3), some (.inl l4), some (.inl l5)] [.inl s0] σ Q := AW.blk kX8_rescue_128 cX8_rescue_128 (h)
def kX8_rescue_135 : List BI := [bi (.ireturn) 1 [] 0]
theorem cX8_rescue_135 : chk mX8_rescue 135 kX8_rescue_135 = true := by decide +kernel
theorem xr_135 {d : Nat} {σ : SG} {Q : Option AV → SG → Prop} {k w l3 l4 l5 s0 : Int} (h : Q (some (.inl s0)) σ) : AW d mX8_rescue 135 [some (.inr (.inr 0)), some (.inl k), some (.inl w), some (.inl l3), some (.inl l4), some (.inl l5)] [.inl s0] σ Q := AW.blk kX8_rescue_135 cX8_rescue_135 (h)
def kX8_rescue_76 : List BI := [bi (.iconst (-1)) 1 [] 0, bi (.ireturn) 1 [] 0]
theorem cX8_rescue_76 : chk mX8_rescue 76 kX8_rescue_76 = true := by decide +kernel
def kX8_rescue_108 : List BI := [bi (.aload_n 0) 1 [] 0, bi (.iload_n 1) 1 [] 0, bi (.iconst 1) 1 [] 0, bi (.invokevirtual 253) 3 [mX8_towerOfKth, 3, 6, 8] 0]
theorem cX8_rescue_108 : chk mX8_rescue 108 kX8_rescue_108 = true := by decide +kernel
def kX8_rescue_115 : List BI := [bi (.aload_n 0) 1 [] 0, bi (.iload_n 1) 1 [] 0, bi (.iconst 1) 1 [] 0, bi (.invokevirtual 257) 3 [mX8_stepOfKth, 3, 7, 8] 0]
theorem cX8_rescue_115 : chk mX8_rescue 115 kX8_rescue_115 = true := by decide +kernel
def kX8_rescue_122 : List BI := [bi (.aload_n 0) 1 [] 0, bi (.iload_n 1) 1 [] 0, bi (.iconst 0) 1 [] 0, bi (.invokevirtual 253) 3 [mX8_towerOfKth, 3, 6, 8] 0]
theorem cX8_rescue_122 : chk mX8_rescue 122 kX8_rescue_122 = true := by decide +kernel
def kX8_rescue_129 : List BI := [bi (.aload_n 0) 1 [] 0, bi (.iload_n 1) 1 [] 0, bi (.iconst 0) 1 [] 0, bi (.invokevirtual 257) 3 [mX8_stepOfKth, 3, 7, 8] 0]
theorem cX8_rescue_129 : chk mX8_rescue 129 kX8_rescue_129 = true := by decide +kernel
def kX8_rescue_136 : List BI := [bi (.iconst (-1)) 1 [] 0, bi (.ireturn) 1 [] 0]
theorem cX8_rescue_136 : chk mX8_rescue 136 kX8_rescue_136 = true := by decide +kernel
def kX8_rescue_78 : List BI := [bi (.iload_n 2) 1 [] 0, bi (.tableswitch (57) (0) (3) #[(29), (36), (43), (50)]) 29 [136, 108, 115, 122, 129] 0]
theorem cX8_rescue_78 : chk mX8_rescue 78 kX8_rescue_78 = true := by decide +kernel
def kX8_rescue_67 : List BI := [bi (.iload_n 1) 1 [] 0, bi (.ifCond .lt (8)) 3 [76] 0, bi (.iload_n 1) 1 [] 0, bi (.iload_n 3) 1 [] 0, bi (.if_icmp .lt (5)) 3 [78] 0, bi (.iconst (-1)) 1 [] 0, bi (.ireturn) 1 [] 0]
theorem cX8_rescue_67 : chk mX8_rescue 67 kX8_rescue_67 = true := by decide +kernel
def kX8_rescue_60 : List BI := [bi (.iload_n 1) 1 [] 0, bi (.iconst (-1)) 1 [] 0, bi (.if_icmp .ne (5)) 3 [67] 0, bi (.iload_n 3) 1 [] 0, bi (.ireturn) 1 [] 0]
theorem cX8_rescue_60 : chk mX8_rescue 60 kX8_rescue_60 = true := by decide +kernel
def kX8_rescue_52 : List BI := [bi (.iload 4) 2 [] 0, bi (.iload_n 3) 1 [] 0, bi (.if_icmp .ge (5)) 3 [60] 0, bi (.iconst (-1)) 1 [] 0, bi (.ireturn) 1 [] 0]
theorem cX8_rescue_52 : chk mX8_rescue 52 kX8_rescue_52 = true := by decide +kernel
def kX8_rescue_14 : List BI := [bi (.getfield 100) 3 [4, 0] 0, bi (.if_icmp .ge (35)) 3 [52] 0, bi (.iload_n 3) 1 [] 0, bi (.aload_n 0) 1 [] 0, bi (.iload 5) 2 [] 0, bi (.invokevirtual 250) 3 [mX8_needOf, 2, 4, 8] 0]
theorem cX8_rescue_14 : chk mX8_rescue 14 kX8_rescue_14 = true := by decide +kernel
def kX8_rescue_8 : List BI := [bi (.iload 5) 2 [] 0, bi (.aload_n 0) 1 [] 0, bi (.getfield 70) 3 [8, 9] 0]
theorem cX8_rescue_8 : chk mX8_rescue 8 kX8_rescue_8 = true := by decide +kernel
theorem xr_8 {d : Nat} {σ : SG} {Q : Option AV → SG → Prop} {k w l3 l4 l5 : Int} {r : Nat} (hr : r = 5 ∨ r = 16) (hx : (σ 0 9).toNat = r) (h : (r3 l5 ∧ r3 (σ r 0)) ∧ ((σ r 0) ≤ l5 → (r3 l4 ∧ r3 l3) ∧ (l3 ≤ l4 → (r3 k) ∧ (k ≠ (-1) → (r3 k) ∧ (k < 0 → Q (some (.inl ((-1)))) σ) ∧ (0 ≤ k → (r3 k ∧ r3 l3) ∧ (k < l3 → (r3 w) ∧ ((w = 0 → (0 < d) ∧ AW (d - 1) mX8_towerOfKth 0 [some (.inr (.inr 0)), some (.inl k), some (.inl 1), none, none, none] [] σ (fun rr σ' => AW d mX8_rescue 114 [some (.inr (.inr 0)), some (.inl k), some (.inl w), some (.inl l3), some (.inl l4), some (.inl l5)] (rtS rr []) σ' Q)) ∧ (w = 1 → (0 < d) ∧ AW (d - 1) mX8_stepOfKth 0 [some (.inr (.inr 0)), some (.inl k), some (.inl 1), none, none, none, none] [] σ (fun rr σ' => AW d mX8_rescue 121 [some (.inr (.inr 0)), some (.inl k), some (.inl w), some (.inl l3), some (.inl l4), some (.inl l5)] (rtS rr []) σ' Q)) ∧ (w = 2 → (0 < d) ∧ AW (d - 1) mX8_towerOfKth 0 [some (.inr (.inr 0)), some (.inl k), some (.inl 0), none, none, none] [] σ (fun rr σ' => AW d mX8_rescue 128 [some (.inr (.inr 0)), some (.inl k), some (.inl w), some (.inl l3), some (.inl l4), some (.inl l5)] (rtS rr []) σ' Q)) ∧ (w = 3 → (0 < d) ∧ AW (d - 1) mX8_stepOfKth 0 [some (.inr (.inr 0)), some (.inl k), some (.inl 0), none, none, none, none] [] σ (fun rr σ' => AW d mX8_rescue 135 [some (.inr (.inr 0)), some (.inl k), some (.inl w), some (.inl l3), some (.inl l4), some (.inl l5)] (rtS rr []) σ' Q)) ∧ True) ∧ (w < 0 ∨ 3 < w → Q (some (.inl ((-1)))) σ)) ∧ (l3 ≤ k → Q (some (.inl ((-1)))) σ))) ∧ (k = (-1) → Q (some (.inl l3)) σ)) ∧ (l4 < l3 → Q (some (.inl ((-1)))) σ)) ∧ (l5 < (σ r 0) → (0 < d) ∧ AW (d - 1) mX8_needOf 0 [some (.inr (.inr 0)), some (.inl l5), none, none] [] σ (fun rr σ' => AW d mX8_rescue 27 [some (.inr (.inr 0)), some (.inl k), some (.inl w), some (.inl l3), some (.inl l4), some (.inl l5)] (rtS rr [.inl l3]) σ' Q))) : AW d mX8_rescue 8 [some (.inr (.inr 0)), some (.inl k), some (.inl w), some (.inl l3), some (.inl l4), some (.inl l5)] [] σ Q := by
  rcases hr with rfl | rfl <;> exact AW.blk kX8_rescue_8 cX8_rescue_8 (aw_rl hx (AW.blk kX8_rescue_14 cX8_rescue_14 (⟨⟨((h).1).1, ((h).1).2⟩, ⟨fun c5 => AW.blk kX8_rescue_52 cX8_rescue_52 (⟨⟨((((h).2).1 c5).1).1, ((((h).2).1 c5).1).2⟩, ⟨fun c4 => AW.blk kX8_rescue_60 cX8_rescue_60 (⟨⟨(((((h).2).1 c5).2).1 c4).1, (by decide)⟩, ⟨fun c3 => AW.blk kX8_rescue_67 cX8_rescue_67 (⟨(((((((h).2).1 c5).2).1 c4).2).1 c3).1, ⟨fun c2 => AW.blk kX8_rescue_76 cX8_rescue_76 (((((((((h).2).1 c5).2).1 c4).2).1 c3).2).1 c2), fun c2 => ⟨⟨((((((((((h).2).1 c5).2).1 c4).2).1 c3).2).2 c2).1).1, ((((((((((h).2).1 c5).2).1 c4).2).1 c3).2).2 c2).1).2⟩, ⟨fun c1 => AW.blk kX8_rescue_78 cX8_rescue_78 (⟨(((((((((((h).2).1 c5).2).1 c4).2).1 c3).2).2 c2).2).1 c1).1, ⟨⟨fun c7 => AW.blk kX8_rescue_108 cX8_rescue_108 (⟨((((((((((((((h).2).1 c5).2).1 c4).2).1 c3).2).2 c2).2).1 c1).2).1).1 c7).1, ((((((((((((((h).2).1 c5).2).1 c4).2).1 c3).2).2 c2).2).1 c1).2).1).1 c7).2⟩), ⟨fun c8 => AW.blk kX8_rescue_115 cX8_rescue_115 (⟨(((((((((((((((h).2).1 c5).2).1 c4).2).1 c3).2).2 c2).2).1 c1).2).1).2).1 c8).1, (((((((((((((((h).2).1 c5).2).1 c4).2).1 c3).2).2 c2).2).1 c1).2).1).2).1 c8).2⟩), ⟨fun c9 => AW.blk kX8_rescue_122 cX8_rescue_122 (⟨((((((((((((((((h).2).1 c5).2).1 c4).2).1 c3).2).2 c2).2).1 c1).2).1).2).2).1 c9).1, ((((((((((((((((h).2).1 c5).2).1 c4).2).1 c3).2).2 c2).2).1 c1).2).1).2).2).1 c9).2⟩), ⟨fun c10 => AW.blk kX8_rescue_129 cX8_rescue_129 (⟨(((((((((((((((((h).2).1 c5).2).1 c4).2).1 c3).2).2 c2).2).1 c1).2).1).2).2).2).1 c10).1, (((((((((((((((((h).2).1 c5).2).1 c4).2).1 c3).2).2 c2).2).1 c1).2).1).2).2).2).1 c10).2⟩), True.intro⟩⟩⟩⟩, fun c6 => AW.blk kX8_rescue_136 cX8_rescue_136 (((((((((((((h).2).1 c5).2).1 c4).2).1 c3).2).2 c2).2).1 c1).2).2 c6)⟩⟩), fun c1 => ((((((((((h).2).1 c5).2).1 c4).2).1 c3).2).2 c2).2).2 c1⟩⟩⟩⟩), fun c3 => ((((((h).2).1 c5).2).1 c4).2).2 c3⟩⟩), fun c4 => ((((h).2).1 c5).2).2 c4⟩⟩), fun c5 => ⟨(((h).2).2 c5).1, (((h).2).2 c5).2⟩⟩⟩)))
def rsV (σ : SG) (tw k w : Int) : Int := if smP (seB 1 σ) tw < smP (seB 0 σ) tw then -1 else if k = -1 then smP (seB 0 σ) tw else if k < 0 ∨ smP (seB 0 σ) tw ≤ k then -1 else if w = 0 then fstI (tkB (seB 1 σ) k) tw else if w = 1 then skV (seB 1 σ) k tw else if w = 2 then fstI (tkB (seB 0 σ) k) tw else if w = 3 then skV (seB 0 σ) k tw else -1
theorem seB_p3 (b : Int) (σ : SG) (A B : Int → Int) : seB b (putF (putF σ 31 A) 32 B) = seB b σ := by
  funext t
  unfold seB
  rw [(p3_mV σ A B t).1, (p3_mV σ A B t).2]
theorem rescue_sim {d : Nat} {n : Int} {σ : SG} {r q : Nat} {k w : Int} {Q : Option AV → SG → Prop} (h : SIM n σ r q) (hk : r3 k) (hw : r3 w) (hd : 60 ≤ d) (hq : ∀ A B, Q (some (.inl (rsV σ (σ r 0) k w))) (putF (putF σ 31 A) 32 B)) : AW d mX8_rescue 0 [some (.inr (.inr 0)), some (.inl k), some (.inl w), none, none, none] [] σ Q := by
  obtain ⟨hr, _, hx, _⟩ := h.rr
  obtain ⟨hLR, hSR, hML, hMG, hRL, hN, hW⟩ := h.lr
  have key := downInd (P := fun i => ∀ A B, AW d mX8_rescue 8 [some (.inr (.inr 0)), some (.inl k), some (.inl w), some (.inl (smP (seB 0 σ) i)), some (.inl (smP (seB 1 σ) i)), some (.inl i)] [] (putF (putF σ 31 A) 32 B) Q) (lo := 0) (hi := σ r 0) hN.1 ?_ ?_ (σ 31) (σ 32)
  · rw [putF_self, putF_self] at key
    exact xr_0 key
  · intro A B
    have hS := h.p3 A B
    have hx' : (putF (putF σ 31 A) 32 B 0 9).toNat = r := by rw [putF_ne (by decide), putF_ne (by decide)]; exact hx
    have zr : putF (putF σ 31 A) 32 B r = σ r := by rw [putF_ne (by omega), putF_ne (by omega)]
    have s0 := smP_r (seB 0 σ) hN.1
    have s1 := smP_r (seB 1 σ) hN.1
    have hq' := hq A B
    unfold rsV at hq' hq
    refine xr_8 hr hx' ?_
    rw [zr]
    refine ⟨by omega, fun _ => ⟨by omega, fun c1 => ?_, fun c1 => ?_⟩, fun c => by omega⟩
    · have n1 : ¬ smP (seB 1 σ) (σ r 0) < smP (seB 0 σ) (σ r 0) := by omega
      rw [if_neg n1] at hq' hq
      refine ⟨hk, fun c2 => ?_, fun c2 => ?_⟩
      · rw [if_neg c2] at hq' hq
        refine ⟨hk, fun c3 => ?_, fun c3 => ⟨by omega, fun c4 => ?_, fun c4 => ?_⟩⟩
        · rw [if_pos (Or.inl c3)] at hq'
          exact hq'
        · have n2 : ¬ (k < 0 ∨ smP (seB 0 σ) (σ r 0) ≤ k) := by omega
          rw [if_neg n2] at hq' hq
          refine ⟨hw, ⟨fun c => ⟨by omega, ?_⟩, fun c => ⟨by omega, ?_⟩, fun c => ⟨by omega, ?_⟩, fun c => ⟨by omega, ?_⟩, True.intro⟩, fun c => ?_⟩
          · refine towerOfKth_sim hS (by omega) c3 (by omega) (by omega) (fun A' B' => ?_)
            rw [putF_22, seB_p3, zr]
            have := hq A' B'
            rw [if_pos c] at this
            exact xr_114 this
          · refine stepOfKth_sim hS (by omega) c3 (by omega) (by omega) (fun A' B' => ?_)
            rw [putF_22, seB_p3, zr]
            have := hq A' B'
            rw [if_neg (show ¬ w = 0 by omega), if_pos c] at this
            exact xr_121 this
          · refine towerOfKth_sim hS (by omega) c3 (by omega) (by omega) (fun A' B' => ?_)
            rw [putF_22, seB_p3, zr]
            have := hq A' B'
            rw [if_neg (show ¬ w = 0 by omega), if_neg (show ¬ w = 1 by omega), if_pos c] at this
            exact xr_128 this
          · refine stepOfKth_sim hS (by omega) c3 (by omega) (by omega) (fun A' B' => ?_)
            rw [putF_22, seB_p3, zr]
            have := hq A' B'
            rw [if_neg (show ¬ w = 0 by omega), if_neg (show ¬ w = 1 by omega), if_neg (show ¬ w = 2 by omega), if_pos c] at this
            exact xr_135 this
          · rw [if_neg (show ¬ w = 0 by omega), if_neg (show ¬ w = 1 by omega), if_neg (show ¬ w = 2 by omega), if_neg (show ¬ w = 3 by omega)] at hq'
            exact hq'
        · rw [if_pos (Or.inr c4)] at hq'
          exact hq'
      · rw [if_pos c2] at hq'
        exact hq'
    · rw [if_pos c1] at hq'
      exact hq'
  · intro i i0 i1 ih A B
    have hS := h.p3 A B
    have hv := p3_mV σ A B i
    have hx' : (putF (putF σ 31 A) 32 B 0 9).toNat = r := by rw [putF_ne (by decide), putF_ne (by decide)]; exact hx
    have zr : putF (putF σ 31 A) 32 B r = σ r := by rw [putF_ne (by omega), putF_ne (by omega)]
    obtain ⟨⟨hh1, hh2, t4⟩, h63, _⟩ := h.tw i0 i1
    have hR := mspV_r (σ := σ) (t := i) (by omega) (by omega) hML
    have hs0 := smP_s (seB 0 σ) i0
    have hs1 := smP_s (seB 1 σ) i0
    have e0 : seB 0 σ i = mneV σ i := if_pos rfl
    have e1 : seB 1 σ i = mspV σ i := if_neg (by decide)
    refine xr_8 hr hx' ?_
    rw [zr]
    refine ⟨by omega, fun c => by omega, fun _ => ⟨by omega, ?_⟩⟩
    refine needOf_sim hS i0 (by rw [zr]; exact i1) (by omega) (fun A1 B1 => ?_)
    rw [putF_22, hv.2]
    refine xr_27 ⟨by omega, hR.2, by omega, ?_⟩
    have hS1 := h.p3 A1 B1
    have hv1 := p3_mV σ A1 B1 i
    have zr1 : putF (putF σ 31 A1) 32 B1 r = σ r := by rw [putF_ne (by omega), putF_ne (by omega)]
    refine spareOf_sim hS1 i0 (by rw [zr1]; exact i1) (by omega) (fun A2 B2 => ?_)
    rw [putF_22, hv1.1]
    have := ih A2 B2
    rw [hs0, hs1, e0, e1] at this
    exact xr_40 ⟨by omega, hR.1, this⟩
