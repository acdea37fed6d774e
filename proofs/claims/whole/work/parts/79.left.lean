/-! ===== spareLeft of the reference; x without its lowest bits (wip/whole/gen79.py) ===== -/
def kX9_spareLeft_0 : List BI := [bi (.iconst 0) 1 [] 0, bi (.istore_n 1) 1 [] 0]
theorem cX9_spareLeft_0 : chk mX9_spareLeft 0 kX9_spareLeft_0 = true := by decide +kernel
theorem msl_0 {d : Nat} {σ : SG} {Q : Option AV → SG → Prop} (h : AW d mX9_spareLeft 2 [some (.inr (.inr 42)), some (.inl 0)] [] σ Q) : AW d mX9_spareLeft 0 [some (.inr (.inr 42)), none] [] σ Q := AW.blk kX9_spareLeft_0 cX9_spareLeft_0 (h)
def kX9_spareLeft_27 : List BI := [bi (.iconst (-1)) 1 [] 0, bi (.ireturn) 1 [] 0]
theorem cX9_spareLeft_27 : chk mX9_spareLeft 27 kX9_spareLeft_27 = true := by decide +kernel
def kX9_spareLeft_21 : List BI := [bi (.iinc 1 (1)) 3 [] 0, bi (.goto (-22)) 3 [2] 0]
theorem cX9_spareLeft_21 : chk mX9_spareLeft 21 kX9_spareLeft_21 = true := by decide +kernel
def kX9_spareLeft_2 : List BI := [bi (.iload_n 1) 1 [] 0, bi (.aload_n 0) 1 [] 0, bi (.invokevirtual 319) 3 [mX9_towerMany, 1, 1, 9] 0, bi (.if_icmp .ge (20)) 3 [27] 0, bi (.aload_n 0) 1 [] 0, bi (.getfield 106) 3 [9, 43] 0, bi (.iload_n 1) 1 [] 0, bi (.iaload) 1 [] 0, bi (.ifCond .eq (5)) 3 [21] 0, bi (.iload_n 1) 1 [] 0, bi (.ireturn) 1 [] 0]
theorem cX9_spareLeft_2 : chk mX9_spareLeft 2 kX9_spareLeft_2 = true := by decide +kernel
theorem msl_2 {d : Nat} {σ : SG} {Q : Option AV → SG → Prop} {l1 : Int} (h : (0 < d) ∧ (r3 l1 ∧ r3 (σ 61 4)) ∧ ((σ 61 4) ≤ l1 → Q (some (.inl ((-1)))) σ) ∧ (l1 < (σ 61 4) → (0 ≤ l1 ∧ l1 < 4) ∧ (r3 (σ 73 l1)) ∧ ((σ 73 l1) = 0 → AW d mX9_spareLeft 2 [some (.inr (.inr 42)), some (.inl (l1 + 1))] [] σ Q) ∧ ((σ 73 l1) ≠ 0 → Q (some (.inl l1)) σ))) : AW d mX9_spareLeft 2 [some (.inr (.inr 42)), some (.inl l1)] [] σ Q := AW.blk kX9_spareLeft_2 cX9_spareLeft_2 (⟨(h).1, AW.blk kX9_towerMany_0 cX9_towerMany_0 (⟨⟨(by decide), (by decide)⟩, ⟨⟨(((h).2).1).1, (((h).2).1).2⟩, ⟨fun c2 => AW.blk kX9_spareLeft_27 cX9_spareLeft_27 ((((h).2).2).1 c2), fun c2 => ⟨⟨(((((h).2).2).2 c2).1).1, (((((h).2).2).2 c2).1).2⟩, ⟨(((((h).2).2).2 c2).2).1, ⟨fun c1 => AW.blk kX9_spareLeft_21 cX9_spareLeft_21 (((((((h).2).2).2 c2).2).2).1 c1), fun c1 => ((((((h).2).2).2 c2).2).2).2 c1⟩⟩⟩⟩⟩⟩)⟩)
def nzB (f : Int → Int) : Int → Bool := fun t => decide (f t ≠ 0)
theorem spareLeft_ok {d : Nat} {σ : SG} {Q : Option AV → SG → Prop} (h : (1 ≤ d ∧ 0 ≤ σ 61 4 ∧ σ 61 4 ≤ 4 ∧ ∀ t, 0 ≤ t → t < σ 61 4 → r3 (σ 73 t)) ∧ Q (some (.inl (fstI (nzB (σ 73)) (σ 61 4)))) σ) : AW d mX9_spareLeft 0 [some (.inr (.inr 42)), none] [] σ Q := by
  obtain ⟨⟨hd, h0, h4, hr⟩, hq⟩ := h
  have key := downInd (P := fun i => fstI (nzB (σ 73)) i = -1 → AW d mX9_spareLeft 2 [some (.inr (.inr 42)), some (.inl i)] [] σ Q) (lo := 0) (hi := σ 61 4) h0 ?_ ?_ rfl
  · exact msl_0 key
  · intro hn
    rw [hn] at hq
    exact msl_2 ⟨by omega, by omega, fun _ => hq, fun c => by omega⟩
  · intro i i0 i1 ih hn
    have hi := hr i i0 i1
    refine msl_2 ⟨by omega, by omega, fun c => by omega, fun _ => ⟨by omega, hi, fun c => ih ((fstI_s1 _ i0).mpr ⟨hn, decide_eq_false (fun z => z c)⟩), fun c => ?_⟩⟩
    rw [fstI_hit (nzB (σ 73)) i0 i1 hn (decide_eq_true c)] at hq
    exact hq
