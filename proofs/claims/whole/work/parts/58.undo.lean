/-! ===== undo (wip/whole/gen58.py) ===== -/
def kX8_undo_26 : List BI := [bi (.iconst 1) 1 [] 0, bi (.ireturn) 1 [1] 0]
theorem cX8_undo_26 : chk mX8_undo 26 kX8_undo_26 = true := by decide +kernel
def kX0_takeBack_9 : List BI := [bi (.aload_n 0) 1 [] 0, bi (.aload_n 0) 1 [] 0, bi (.getfield 17) 3 [0, 1] 0, bi (.bipush (20)) 2 [] 0, bi (.iadd) 1 [] 0, bi (.iconst 1) 1 [] 0, bi (.isub) 1 [] 0, bi (.bipush (20)) 2 [] 0, bi (.irem) 1 [] 0, bi (.putfield 17) 3 [0, 1] 0, bi (.aload_n 0) 1 [] 0, bi (.dup) 1 [] 0, bi (.getfield 21) 3 [0, 2] 0, bi (.iconst 1) 1 [] 0, bi (.isub) 1 [] 0, bi (.putfield 21) 3 [0, 2] 0, bi (.aload_n 0) 1 [] 0, bi (.getfield 11) 3 [0, 0] 0, bi (.aload_n 0) 1 [] 0, bi (.getfield 17) 3 [0, 1] 0, bi (.sipush (214)) 3 [] 0, bi (.imul) 1 [] 0, bi (.aload_n 1) 1 [] 0, bi (.getfield 24) 3 [6, 0] 0, bi (.iconst 0) 1 [] 0, bi (.sipush (214)) 3 [] 0, bi (.invokestatic 27) 3 [] 0, bi (.iconst 1) 1 [] 0, bi (.ireturn) 1 [1] 0]
theorem cX0_takeBack_9 : chk mX0_takeBack 9 kX0_takeBack_9 = true := by decide +kernel
def kX0_takeBack_0 : List BI := [bi (.aload_n 0) 1 [] 0, bi (.getfield 21) 3 [0, 2] 0, bi (.ifCond .ne (5)) 3 [9] 0, bi (.iconst 0) 1 [] 0, bi (.ireturn) 1 [1] 0]
theorem cX0_takeBack_0 : chk mX0_takeBack 0 kX0_takeBack_0 = true := by decide +kernel
def kX8_undo_0 : List BI := [bi (.aload_n 0) 1 [] 0, bi (.getfield 52) 3 [8, 6] 0, bi (.aload_n 0) 1 [] 0, bi (.getfield 42) 3 [8, 4] 0, bi (.invokevirtual 224) 3 [mX0_takeBack, 2, 2, 0] 0, bi (.ifCond .ne (15)) 3 [26] 0, bi (.aload_n 0) 1 [] 0, bi (.getfield 63) 3 [8, 8] 0, bi (.iconst 3) 1 [] 0, bi (.dup2) 1 [] 0, bi (.iaload) 1 [] 0, bi (.iconst 1) 1 [] 0, bi (.iadd) 1 [] 0, bi (.iastore) 1 [] 0, bi (.iconst 0) 1 [] 0, bi (.ireturn) 1 [1] 0]
theorem cX8_undo_0 : chk mX8_undo 0 kX8_undo_0 = true := by decide +kernel
theorem xundo_0 {d : Nat} {σ : SG} {Q : Option AV → SG → Prop} (h : (0 < d) ∧ (r3 (σ 38 2)) ∧ ((σ 38 2) ≠ 0 → (r3 (((σ 38 1) + 20) - 1)) ∧ (∀ S1 : SG, S1 = up σ 38 1 (Int.tmod (((σ 38 1) + 20) - 1) 20) → (∀ S2 : SG, S2 = up S1 38 2 ((S1 38 2) - 1) → (0 < d - 1) ∧ (0 ≤ ((S2 38 1) * 214) ∧ ((S2 38 1) * 214) + 214 ≤ 4280) ∧ (∀ S3 : SG, S3 = cpy S2 39 35 ((S2 38 1) * 214) 0 214 → Q (some (.inl 1)) S3)))) ∧ ((σ 38 2) = 0 → (∀ S4 : SG, S4 = up σ 1 3 ((σ 1 3) + 1) → Q (some (.inl 0)) S4))) : AW d mX8_undo 0 [some (.inr (.inr 0))] [] σ Q := AW.blk kX8_undo_0 cX8_undo_0 (⟨(h).1, AW.blk kX0_takeBack_0 cX0_takeBack_0 (⟨((h).2).1, ⟨fun c5 => AW.blk kX0_takeBack_9 cX0_takeBack_9 (⟨⟨((((h).2).2).1 c5).1, (by decide), (by decide)⟩, ⟨(((((((h).2).2).1 c5).2) _ rfl) _ rfl).1, ⟨⟨(((((((((h).2).2).1 c5).2) _ rfl) _ rfl).2).1).1, (by decide), (by decide), (((((((((h).2).2).1 c5).2) _ rfl) _ rfl).2).1).2, (by decide)⟩, ⟨(by decide), ⟨(by decide), ⟨fun _ => AW.blk kX8_undo_26 cX8_undo_26 (⟨(by decide), (((((((((h).2).2).1 c5).2) _ rfl) _ rfl).2).2) _ rfl⟩), fun c => absurd c (by decide)⟩⟩⟩⟩⟩⟩), fun c5 => ⟨(by decide), ⟨(by decide), ⟨fun c => absurd c (by decide), fun _ => ⟨⟨(by decide), (by decide)⟩, ⟨⟨(by decide), (by decide)⟩, ⟨(by decide), ((((h).2).2).2 c5) _ rfl⟩⟩⟩⟩⟩⟩⟩⟩)⟩)
def kX9_undo_19 : List BI := [bi (.iconst 0) 1 [] 0, bi (.istore_n 1) 1 [] 0]
theorem cX9_undo_19 : chk mX9_undo 19 kX9_undo_19 = true := by decide +kernel
def kX9_undo_0 : List BI := [bi (.aload_n 0) 1 [] 0, bi (.getfield 316) 3 [9, 40] 0, bi (.ifCond .ne (15)) 3 [19] 0, bi (.aload_n 0) 1 [] 0, bi (.getfield 17) 3 [9, 9] 0, bi (.iconst 3) 1 [] 0, bi (.dup2) 1 [] 0, bi (.iaload) 1 [] 0, bi (.iconst 1) 1 [] 0, bi (.iadd) 1 [] 0, bi (.iastore) 1 [] 0, bi (.iconst 0) 1 [] 0, bi (.ireturn) 1 [1] 0]
theorem cX9_undo_0 : chk mX9_undo 0 kX9_undo_0 = true := by decide +kernel
theorem mundo_0 {d : Nat} {σ : SG} {Q : Option AV → SG → Prop} (h : (r3 (σ 42 40)) ∧ ((σ 42 40) ≠ 0 → AW d mX9_undo 21 [some (.inr (.inr 42)), some (.inl 0)] [] σ Q) ∧ ((σ 42 40) = 0 → (∀ S6 : SG, S6 = up σ 44 3 ((σ 44 3) + 1) → Q (some (.inl 0)) S6))) : AW d mX9_undo 0 [some (.inr (.inr 42)), none] [] σ Q := AW.blk kX9_undo_0 cX9_undo_0 (⟨(h).1, ⟨fun c7 => AW.blk kX9_undo_19 cX9_undo_19 (((h).2).1 c7), fun c7 => ⟨⟨(by decide), (by decide)⟩, ⟨⟨(by decide), (by decide)⟩, ⟨(by decide), (((h).2).2 c7) _ rfl⟩⟩⟩⟩⟩)
def kX9_undo_55 : List BI := [bi (.aload_n 0) 1 [] 0, bi (.aload_n 0) 1 [] 0, bi (.getfield 408) 3 [9, 41] 0, bi (.bipush (20)) 2 [] 0, bi (.iadd) 1 [] 0, bi (.iconst 1) 1 [] 0, bi (.isub) 1 [] 0, bi (.bipush (20)) 2 [] 0, bi (.irem) 1 [] 0, bi (.putfield 408) 3 [9, 41] 0, bi (.aload_n 0) 1 [] 0, bi (.dup) 1 [] 0, bi (.getfield 316) 3 [9, 40] 0, bi (.iconst 1) 1 [] 0, bi (.isub) 1 [] 0, bi (.putfield 316) 3 [9, 40] 0, bi (.iconst 1) 1 [] 0, bi (.ireturn) 1 [1] 0]
theorem cX9_undo_55 : chk mX9_undo 55 kX9_undo_55 = true := by decide +kernel
def kX9_undo_21 : List BI := [bi (.iload_n 1) 1 [] 0, bi (.sipush (254)) 3 [] 0, bi (.if_icmp .ge (30)) 3 [55] 0, bi (.aload_n 0) 1 [] 0, bi (.getfield 94) 3 [9, 37] 0, bi (.iload_n 1) 1 [] 0, bi (.aload_n 0) 1 [] 0, bi (.getfield 100) 3 [9, 39] 0, bi (.sipush (254)) 3 [] 0, bi (.aload_n 0) 1 [] 0, bi (.getfield 408) 3 [9, 41] 0, bi (.imul) 1 [] 0, bi (.iload_n 1) 1 [] 0, bi (.iadd) 1 [] 0, bi (.iaload) 1 [] 0, bi (.iastore) 1 [] 0, bi (.iinc 1 (1)) 3 [] 0, bi (.goto (-31)) 3 [21] 0]
theorem cX9_undo_21 : chk mX9_undo 21 kX9_undo_21 = true := by decide +kernel
theorem mundo_21 {d : Nat} {σ : SG} {Q : Option AV → SG → Prop} {l1 : Int} (h : (r3 l1) ∧ (254 ≤ l1 → (r3 (((σ 42 41) + 20) - 1)) ∧ (∀ S8 : SG, S8 = up σ 42 41 (Int.tmod (((σ 42 41) + 20) - 1) 20) → (∀ S9 : SG, S9 = up S8 42 40 ((S8 42 40) - 1) → Q (some (.inl 1)) S9))) ∧ (l1 < 254 → (0 ≤ ((254 * (σ 42 41)) + l1) ∧ ((254 * (σ 42 41)) + l1) < 5080) ∧ (0 ≤ l1 ∧ l1 < 254) ∧ (∀ S10 : SG, S10 = up σ 69 l1 (σ 71 ((254 * (σ 42 41)) + l1)) → AW d mX9_undo 21 [some (.inr (.inr 42)), some (.inl (l1 + 1))] [] S10 Q))) : AW d mX9_undo 21 [some (.inr (.inr 42)), some (.inl l1)] [] σ Q := AW.blk kX9_undo_21 cX9_undo_21 (⟨⟨(h).1, (by decide)⟩, ⟨fun c11 => AW.blk kX9_undo_55 cX9_undo_55 (⟨⟨(((h).2).1 c11).1, (by decide), (by decide)⟩, ⟨(by decide), (((((h).2).1 c11).2) _ rfl) _ rfl⟩⟩), fun c11 => ⟨⟨((((h).2).2 c11).1).1, ((((h).2).2 c11).1).2⟩, ⟨⟨(((((h).2).2 c11).2).1).1, (((((h).2).2 c11).2).1).2⟩, (((((h).2).2 c11).2).2) _ rfl⟩⟩⟩⟩)
def undX (σ : SG) : SG := fun p i => if p = 35 then cpR (σ 35) (σ 39) 0 ((σ 38 1 + 19) % 20 * 214) 214 i else if p = 38 then (if i = 2 then σ 38 2 - 1 else if i = 1 then (σ 38 1 + 19) % 20 else σ 38 i) else σ p i
def undM (σ : SG) : SG := fun p i => if p = 69 then cpR (σ 69) (σ 71) 0 (254 * σ 42 41) 254 i else if p = 42 then (if i = 40 then σ 42 40 - 1 else if i = 41 then (σ 42 41 + 19) % 20 else σ 42 i) else σ p i
theorem undX_ne {σ : SG} {p : Nat} (h1 : p ≠ 35) (h2 : p ≠ 38) : undX σ p = σ p := by
  funext i
  unfold undX
  rw [if_neg h1, if_neg h2]
theorem undM_ne {σ : SG} {p : Nat} (h1 : p ≠ 69) (h2 : p ≠ 42) : undM σ p = σ p := by
  funext i
  unfold undM
  rw [if_neg h1, if_neg h2]
theorem xundo_yes {d : Nat} {σ : SG} {Q : Option AV → SG → Prop} (hd : 100 ≤ d) (h1 : 0 ≤ σ 38 1 ∧ σ 38 1 < 20) (h2 : 1 ≤ σ 38 2 ∧ σ 38 2 ≤ 20) (hq : Q (some (.inl 1)) (undX σ)) : AW d mX8_undo 0 [some (.inr (.inr 0))] [] σ Q := by
  refine xundo_0 ⟨by omega, by omega, fun c => ⟨by omega, fun S1 e1 => fun S2 e2 => ?_⟩, fun c => by omega⟩
  rw [Int.tmod_eq_emod_of_nonneg (by omega), show σ 38 1 + 20 - 1 = σ 38 1 + 19 by omega] at e1
  have z1 : S1 38 2 = σ 38 2 := by rw [e1, up_i (by decide)]
  rw [z1] at e2
  have z2 : S2 38 1 = (σ 38 1 + 19) % 20 := by rw [e2, up_i (by decide), e1, up_at]
  rw [z2]
  refine ⟨by omega, by omega, fun S3 e3 => ?_⟩
  have : S3 = undX σ := by
    rw [e3]
    funext p i
    unfold undX cpy cpR
    by_cases p35 : p = 35
    · subst p35
      rw [if_pos rfl]
      by_cases hc : 0 ≤ i ∧ i < 0 + 214
      · rw [if_pos ⟨rfl, hc⟩, if_pos hc, e2, up_pf (by decide), e1, up_pf (by decide)]
        congr 1
        omega
      · rw [if_neg (fun z => hc z.2), if_neg hc, e2, up_pf (by decide), e1, up_pf (by decide)]
    · rw [if_neg p35, if_neg (fun z => p35 z.1), e2]
      by_cases p38 : p = 38
      · subst p38
        rw [if_pos rfl]
        by_cases i2 : i = 2
        · subst i2
          rw [up_at, if_pos rfl]
        · rw [up_i i2, if_neg i2, e1]
          by_cases i1 : i = 1
          · subst i1
            rw [up_at, if_pos rfl]
          · rw [up_i i1, if_neg i1]
      · rw [if_neg p38, up_p p38, e1, up_p p38]
  rw [this]
  exact hq
theorem mundo_yes {d : Nat} {σ : SG} {Q : Option AV → SG → Prop} (h1 : 0 ≤ σ 42 41 ∧ σ 42 41 < 20) (h2 : 1 ≤ σ 42 40 ∧ σ 42 40 ≤ 20) (hq : Q (some (.inl 1)) (undM σ)) : AW d mX9_undo 0 [some (.inr (.inr 42)), none] [] σ Q := by
  refine mundo_0 ⟨by omega, fun c => ?_, fun c => by omega⟩
  have key := downInd (P := fun i => AW d mX9_undo 21 [some (.inr (.inr 42)), some (.inl i)] [] (putF σ 69 (cpR (σ 69) (σ 71) 0 (254 * σ 42 41) i)) Q) (lo := 0) (hi := 254) (by decide) ?_ ?_
  · rwa [cpR_0, putF_self] at key
  · refine mundo_21 ?_
    rw [putF_ne (by decide)]
    refine ⟨by omega, fun _ => ⟨by omega, fun S1 e1 => fun S2 e2 => ?_⟩, fun c => by omega⟩
    rw [Int.tmod_eq_emod_of_nonneg (by omega), show σ 42 41 + 20 - 1 = σ 42 41 + 19 by omega] at e1
    have z1 : S1 42 40 = σ 42 40 := by rw [e1, up_i (by decide), putF_ne (by decide)]
    rw [z1] at e2
    have : S2 = undM σ := by
      rw [e2]
      funext p i
      unfold undM
      by_cases p69 : p = 69
      · subst p69
        rw [if_pos rfl, up_p (by decide), e1, up_p (by decide), putF_at]
      · rw [if_neg p69]
        by_cases p42 : p = 42
        · subst p42
          rw [if_pos rfl]
          by_cases i40 : i = 40
          · subst i40
            rw [up_at, if_pos rfl]
          · rw [up_i i40, if_neg i40, e1]
            by_cases i41 : i = 41
            · subst i41
              rw [up_at, if_pos rfl]
            · rw [up_i i41, if_neg i41, putF_ne (by decide)]
        · rw [if_neg p42, up_p p42, e1, up_p p42, putF_ne p69]
    rw [this]
    exact hq
  · intro i i0 i1 ih
    refine mundo_21 ?_
    rw [putF_ne (by decide), putF_ne (by decide)]
    refine ⟨by omega, fun c => by omega, fun _ => ⟨by omega, by omega, fun S e => ?_⟩⟩
    have h := cpR_s (σ 69) (σ 71) 0 (254 * σ 42 41) i0
    rw [Int.zero_add] at h
    rw [e, putF_upf, show 254 * σ 42 41 + i = i + 254 * σ 42 41 by omega, h]
    exact ih
theorem SIM.undo {n : Int} {σ : SG} {r q : Nat} (h : SIM n σ r q) (hp : 1 ≤ σ 38 2) : SIM n (undM (undX σ)) r q := by
  have hr := h.rr.1
  have ne : ∀ p, p ≠ 35 → p ≠ 38 → p ≠ 42 → p ≠ 69 → undM (undX σ) p = σ p := by
    intro p a b c d
    rw [undM_ne d c, undX_ne a b]
  have z42 : undX σ 42 = σ 42 := undX_ne (by decide) (by decide)
  have e42 : ∀ i, i ≠ 40 → i ≠ 41 → undM (undX σ) 42 i = σ 42 i := by
    intro i a b
    unfold undM
    rw [if_neg (by decide), if_pos rfl, if_neg a, if_neg b, z42]
  have e40 : undM (undX σ) 42 40 = σ 42 40 - 1 := by
    unfold undM
    rw [if_neg (by decide), if_pos rfl, if_pos rfl, z42]
  have e41 : undM (undX σ) 42 41 = (σ 42 41 + 19) % 20 := by
    unfold undM
    rw [if_neg (by decide), if_pos rfl, if_neg (by decide), if_pos rfl, z42]
  have e38 : undM (undX σ) 38 = undX σ 38 := undM_ne (by decide) (by decide)
  have k1 : undX σ 38 1 = (σ 38 1 + 19) % 20 := by
    unfold undX
    rw [if_neg (by decide), if_pos rfl, if_neg (by decide), if_pos rfl]
  have k2 : undX σ 38 2 = σ 38 2 - 1 := by
    unfold undX
    rw [if_neg (by decide), if_pos rfl, if_pos rfl]
  have e35 : undM (undX σ) 35 = cpR (σ 35) (σ 39) 0 ((σ 38 1 + 19) % 20 * 214) 214 := by
    rw [undM_ne (by decide) (by decide)]
    funext i
    unfold undX
    rw [if_pos rfl]
  have e69 : undM (undX σ) 69 = cpR (σ 69) (σ 71) 0 (254 * σ 42 41) 254 := by
    funext i
    unfold undM
    rw [if_pos rfl, z42, undX_ne (by decide) (by decide), undX_ne (by decide) (by decide)]
  have e0 : undM (undX σ) r = σ r := ne _ (by omega) (by omega) (by omega) (by omega)
  have e2 : undM (undX σ) (r + 2) = σ (r + 2) := ne _ (by omega) (by omega) (by omega) (by omega)
  have e39 := ne 39 (by decide) (by decide) (by decide) (by decide)
  have e71 := ne 71 (by decide) (by decide) (by decide) (by decide)
  have hL := h.2.2.2.2.1
  generalize undM (undX σ) = τ at *
  obtain ⟨hn, hk, hj⟩ := h.2.2.2.2.2.2.1
  refine h.re ⟨fun p hp => ne p (by omega) (by omega) (by omega) (by omega), ?_⟩ ?_ ?_ ?_ ⟨?_, ?_, ?_⟩ ?_
  · rw [ne 61 (by decide) (by decide) (by decide) (by decide), ne 62 (by decide) (by decide) (by decide) (by decide), ne 63 (by decide) (by decide) (by decide) (by decide), ne 64 (by decide) (by decide) (by decide) (by decide), ne 65 (by decide) (by decide) (by decide) (by decide), ne 68 (by decide) (by decide) (by decide) (by decide)]
    exact ⟨fun _ _ => rfl, fun _ _ => rfl, fun _ _ => rfl, fun _ _ => rfl, fun _ _ => rfl, rfl⟩
  · have q2 := ne 2 (by decide) (by decide) (by decide) (by decide)
    exact h.2.2.1.cong (by rw [q2]) (by rw [q2]) (by rw [q2]) (ne 3 (by decide) (by decide) (by decide) (by decide)) (ne 43 (by decide) (by decide) (by decide) (by decide)) (e42 1 (by decide) (by decide)) (e42 7 (by decide) (by decide)) (e42 8 (by decide) (by decide))
  · exact h.2.2.2.1.cong (ne 1 (by decide) (by decide) (by decide) (by decide)) (ne 44 (by decide) (by decide) (by decide) (by decide))
  · refine (hj 1 (by decide) hp).cong hL.1.1.2 hL.hH (fun i i0 i1 => ?_) (fun i i0 i1 => ?_)
    · rw [e35]
      unfold cpR
      rw [if_pos (by omega)]
      congr 1
      omega
    · rw [e69]
      unfold cpR
      rw [if_pos (by omega)]
      congr 1
      omega
  · rw [e38, k1, e41, hn.2.2]
    omega
  · rw [e38, k2, e40, hk.2.2]
    omega
  · intro j j1 j2
    rw [e38, k2] at j2
    rw [e0, e2, e38, k1, e39, e71]
    have := hj (j + 1) (by omega) (by omega)
    rw [show (σ 38 1 - (j + 1)) % 20 = ((σ 38 1 + 19) % 20 - j) % 20 by omega, show (σ 38 1 + 1 - (j + 1)) % 20 = ((σ 38 1 + 19) % 20 + 1 - j) % 20 by omega] at this
    exact this
  · exact h.2.2.2.2.2.2.2.1.cong (ne 40 (by decide) (by decide) (by decide) (by decide)) (ne 41 (by decide) (by decide) (by decide) (by decide)) (ne 99 (by decide) (by decide) (by decide) (by decide)) (e42 81 (by decide) (by decide))
theorem call_undo {d : Nat} {n : Int} {σ : SG} {r q : Nat} (hd : 100 ≤ d) (h : SIM n σ r q) : AW d mX8_undo 0 [some (.inr (.inr 0))] [] σ (SAME d n r q mX9_undo [some (.inr (.inr 42)), none]) := by
  obtain ⟨hn, hk, hj⟩ := h.2.2.2.2.2.2.1
  by_cases hc : σ 38 2 = 0
  · refine xundo_0 ⟨by omega, by omega, fun c => by omega, fun c S e => ?_⟩
    subst e
    unfold SAME
    have q42 : up σ 1 3 (σ 1 3 + 1) 42 = σ 42 := up_pf (by decide)
    refine mundo_0 ?_
    rw [q42]
    refine ⟨by omega, fun c => by omega, fun c S e => ?_⟩
    subst e
    exact ⟨rfl, h.refuse (by decide) (by decide) rfl rfl⟩
  · refine xundo_yes hd (by omega) (by omega) ?_
    unfold SAME
    have q42 : undX σ 42 = σ 42 := undX_ne (by decide) (by decide)
    exact mundo_yes (by rw [q42]; omega) (by rw [q42]; omega) ⟨rfl, h.undo (by omega)⟩
