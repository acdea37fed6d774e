/-! ===== bytes (wip/whole/gen63.py) ===== -/
def kX1_putBytes_0 : List BI := [bi (.iload_n 2) 1 [] 0, bi (.iconst 1) 1 [] 0, bi (.isub) 1 [] 0, bi (.istore_n 3) 1 [] 0]
theorem cX1_putBytes_0 : chk mX1_putBytes 0 kX1_putBytes_0 = true := by decide +kernel
theorem xputb_0 {d : Nat} {σ : SG} {Q : Option AV → SG → Prop} {v c : Int} (h : AW d mX1_putBytes 4 [some (.inr (.inr 40)), some (.inl v), none, some (.inl (c - 1))] [] σ Q) : AW d mX1_putBytes 0 [some (.inr (.inr 40)), some (.inl v), some (.inl c), none] [] σ Q := AW.blk kX1_putBytes_0 cX1_putBytes_0 (AW.drop 2 (h))
def kX1_putBytes_55 : List BI := [bi (.return_) 1 [] 0]
theorem cX1_putBytes_55 : chk mX1_putBytes 55 kX1_putBytes_55 = true := by decide +kernel
def kX1_putBytes_49 : List BI := [bi (.iinc 3 (-1)) 3 [] 0, bi (.goto (-48)) 3 [4] 0]
theorem cX1_putBytes_49 : chk mX1_putBytes 49 kX1_putBytes_49 = true := by decide +kernel
def kX1_putBytes_4 : List BI := [bi (.iload_n 3) 1 [] 0, bi (.ifCond .lt (50)) 3 [55] 0, bi (.aload_n 0) 1 [] 0, bi (.getfield 17) 3 [1, 1] 0, bi (.aload_n 0) 1 [] 0, bi (.getfield 13) 3 [1, 0] 0, bi (.arraylength) 1 [] 0, bi (.if_icmp .ge (32)) 3 [49] 0, bi (.aload_n 0) 1 [] 0, bi (.getfield 13) 3 [1, 0] 0, bi (.aload_n 0) 1 [] 0, bi (.getfield 17) 3 [1, 1] 0, bi (.iload_n 1) 1 [] 0, bi (.bipush (8)) 2 [] 0, bi (.iload_n 3) 1 [] 0, bi (.imul) 1 [] 0, bi (.iushr) 1 [] 0, bi (.sipush (255)) 3 [] 0, bi (.iand) 1 [] 0, bi (.iastore) 1 [] 0, bi (.aload_n 0) 1 [] 0, bi (.dup) 1 [] 0, bi (.getfield 17) 3 [1, 1] 0, bi (.iconst 1) 1 [] 0, bi (.iadd) 1 [] 0, bi (.putfield 17) 3 [1, 1] 0, bi (.iinc 3 (-1)) 3 [] 0, bi (.goto (-48)) 3 [4] 0]
theorem cX1_putBytes_4 : chk mX1_putBytes 4 kX1_putBytes_4 = true := by decide +kernel
theorem xputb_4 {d : Nat} {σ : SG} {Q : Option AV → SG → Prop} {v l3 : Int} (h : (r3 l3) ∧ (l3 < 0 → Q none σ) ∧ (0 ≤ l3 → (r3 (σ 40 1)) ∧ (268 ≤ (σ 40 1) → AW d mX1_putBytes 4 [some (.inr (.inr 40)), some (.inl v), none, some (.inl (l3 + (-1)))] [] σ Q) ∧ ((σ 40 1) < 268 → (0 ≤ (8 * l3) ∧ (8 * l3) < 32) ∧ (0 ≤ (σ 40 1) ∧ (σ 40 1) < 268) ∧ (∀ S1 : SG, S1 = up σ 41 (σ 40 1) (band ((un v / 2 ^ Int.toNat (8 * l3) : Nat) : Int) 255) → (∀ S2 : SG, S2 = up S1 40 1 ((S1 40 1) + 1) → AW d mX1_putBytes 4 [some (.inr (.inr 40)), some (.inl v), none, some (.inl (l3 + (-1)))] [] S2 Q))))) : AW d mX1_putBytes 4 [some (.inr (.inr 40)), some (.inl v), none, some (.inl l3)] [] σ Q := AW.blk kX1_putBytes_4 cX1_putBytes_4 (⟨(h).1, ⟨fun c4 => AW.blk kX1_putBytes_55 cX1_putBytes_55 (((h).2).1 c4), fun c4 => ⟨⟨(((h).2).2 c4).1, (by decide)⟩, ⟨fun c3 => AW.blk kX1_putBytes_49 cX1_putBytes_49 (((((h).2).2 c4).2).1 c3), fun c3 => ⟨⟨((((((h).2).2 c4).2).2 c3).1).1, ((((((h).2).2 c4).2).2 c3).1).2⟩, ⟨⟨(((((((h).2).2 c4).2).2 c3).2).1).1, (((((((h).2).2 c4).2).2 c3).2).1).2⟩, ((((((((h).2).2 c4).2).2 c3).2).2) _ rfl) _ rfl⟩⟩⟩⟩⟩⟩)
def kX1_check_0 : List BI := [bi (.bipush (127)) 2 [] 0, bi (.istore_n 1) 1 [] 0, bi (.iconst 0) 1 [] 0, bi (.istore_n 2) 1 [] 0]
theorem cX1_check_0 : chk mX1_check 0 kX1_check_0 = true := by decide +kernel
theorem xcheck_0 {d : Nat} {σ : SG} {Q : Option AV → SG → Prop} (h : AW d mX1_check 5 [some (.inr (.inr 40)), some (.inl 127), some (.inl 0)] [] σ Q) : AW d mX1_check 0 [some (.inr (.inr 40)), none, none] [] σ Q := AW.blk kX1_check_0 cX1_check_0 (h)
def kX1_check_34 : List BI := [bi (.iload_n 1) 1 [] 0, bi (.ireturn) 1 [] 0]
theorem cX1_check_34 : chk mX1_check 34 kX1_check_34 = true := by decide +kernel
def kX1_check_5 : List BI := [bi (.iload_n 2) 1 [] 0, bi (.aload_n 0) 1 [] 0, bi (.getfield 17) 3 [1, 1] 0, bi (.if_icmp .ge (24)) 3 [34] 0, bi (.iconst 3) 1 [] 0, bi (.iload_n 1) 1 [] 0, bi (.imul) 1 [] 0, bi (.aload_n 0) 1 [] 0, bi (.getfield 13) 3 [1, 0] 0, bi (.iload_n 2) 1 [] 0, bi (.iaload) 1 [] 0, bi (.iadd) 1 [] 0, bi (.sipush (249)) 3 [] 0, bi (.irem) 1 [] 0, bi (.istore_n 1) 1 [] 0, bi (.iinc 2 (1)) 3 [] 0, bi (.goto (-26)) 3 [5] 0]
theorem cX1_check_5 : chk mX1_check 5 kX1_check_5 = true := by decide +kernel
theorem xcheck_5 {d : Nat} {σ : SG} {Q : Option AV → SG → Prop} {l1 l2 : Int} (h : (r3 l2 ∧ r3 (σ 40 1)) ∧ ((σ 40 1) ≤ l2 → Q (some (.inl l1)) σ) ∧ (l2 < (σ 40 1) → (0 ≤ l2 ∧ l2 < 268) ∧ (r3 ((3 * l1) + (σ 41 l2))) ∧ AW d mX1_check 5 [some (.inr (.inr 40)), some (.inl (Int.tmod ((3 * l1) + (σ 41 l2)) 249)), some (.inl (l2 + 1))] [] σ Q)) : AW d mX1_check 5 [some (.inr (.inr 40)), some (.inl l1), some (.inl l2)] [] σ Q := AW.blk kX1_check_5 cX1_check_5 (⟨⟨((h).1).1, ((h).1).2⟩, ⟨fun c5 => AW.blk kX1_check_34 cX1_check_34 (((h).2).1 c5), fun c5 => ⟨⟨((((h).2).2 c5).1).1, ((((h).2).2 c5).1).2⟩, ⟨⟨((((h).2).2 c5).2).1, (by decide), (by decide)⟩, ((((h).2).2 c5).2).2⟩⟩⟩⟩)
/-! bytes written in a row -/
def wL (f : Int → Int) (L : List Int) : Int → Int := fun j => if 0 ≤ j ∧ j < (L.length : Int) then (L[j.toNat]?).getD 0 else f j
def stW (σ : SG) (P O : Nat) (k : Int) (L : List Int) : SG := up (putF σ P (wL (σ P) L)) O k (L.length : Int)
theorem wL_nil (f : Int → Int) : wL f [] = f := by
  funext j
  unfold wL
  rw [if_neg (by simp)]
theorem wL_cp (f g : Int → Int) (L M : List Int) (h : ∀ k : Nat, k < M.length → g (k : Int) = (M[k]?).getD 0) : cpR (wL f L) g (L.length : Int) 0 (M.length : Int) = wL f (L ++ M) := by
  funext j
  unfold cpR wL
  have hl : ((L ++ M).length : Int) = (L.length : Int) + M.length := by rw [List.length_append]; omega
  rw [hl]
  by_cases h1 : (L.length : Int) ≤ j ∧ j < (L.length : Int) + M.length
  · rw [if_pos h1, if_pos (by omega), List.getElem?_append_right (by omega), ← h (j.toNat - L.length) (by omega)]
    congr 1
    omega
  · rw [if_neg h1]
    by_cases h2 : 0 ≤ j ∧ j < (L.length : Int)
    · rw [if_pos h2, if_pos (by omega), List.getElem?_append_left (by omega)]
    · rw [if_neg h2, if_neg (by omega)]
theorem stW_len (σ : SG) (P O : Nat) (k : Int) (L : List Int) : stW σ P O k L O k = (L.length : Int) := up_at _ _ _ _
theorem stW_ne {σ : SG} {P O p : Nat} {k : Int} {L : List Int} (h1 : p ≠ P) (h2 : p ≠ O) : stW σ P O k L p = σ p := by
  unfold stW
  rw [up_pf h2, putF_ne h1]
theorem stW_arr {σ : SG} {P O : Nat} {k : Int} {L : List Int} (h : P ≠ O) : stW σ P O k L P = wL (σ P) L := by
  unfold stW
  rw [up_pf h, putF_at]
theorem stW_push {σ S1 S2 : SG} {P O : Nat} {k : Int} {L : List Int} {b : Int} (h : P ≠ O) (e1 : S1 = up (stW σ P O k L) P (L.length : Int) b) (e2 : S2 = up S1 O k (S1 O k + 1)) : S2 = stW σ P O k (L ++ [b]) := by
  have z : S1 O k = (L.length : Int) := by rw [e1, up_p (Ne.symm h), stW_len]
  have hc := wL_cp (σ P) (fun _ => b) L [b] (fun i hi => by
    have : i = 0 := by simp at hi; omega
    subst this
    rfl)
  have hs := cpR_s (wL (σ P) L) (fun _ => b) (L.length : Int) 0 (i := 0) (by decide)
  rw [cpR_0, Int.add_zero] at hs
  rw [e2, z, e1]
  unfold stW
  rw [up_comm (Ne.symm h), up_up, putF_upf, hs]
  rw [show ((L ++ [b]).length : Int) = (L.length : Int) + 1 by simp]
  have : (([b] : List Int).length : Int) = 0 + 1 := rfl
  rw [this] at hc
  rw [hc]
def byL (v : Int) : Nat → List Int
  | 0 => []
  | m + 1 => (v / 2 ^ (8 * m) % 256) :: byL v m
theorem byL_len (v : Int) : ∀ m, (byL v m).length = m
  | 0 => rfl
  | m + 1 => by rw [byL, List.length_cons, byL_len v m]
theorem byL_at (v : Int) : ∀ (m k : Nat), k < m → ((byL v m)[k]?).getD 0 = v / 2 ^ (8 * (m - 1 - k)) % 256
  | 0, k, h => by omega
  | m + 1, 0, h => by
    rw [byL]
    rfl
  | m + 1, k + 1, h => by
    rw [byL, List.getElem?_cons_succ, byL_at v m k (by omega)]
    rw [show m + 1 - 1 - (k + 1) = m - 1 - k by omega]
theorem byL_r (v : Int) : ∀ m, ∀ b ∈ byL v m, 0 ≤ b ∧ b ≤ 255
  | 0, b, h => by simp [byL] at h
  | m + 1, b, h => by
    rw [byL] at h
    rcases List.mem_cons.mp h with h | h
    · rw [h]
      omega
    · exact byL_r v m b h
def pbS (σ : SG) (v c : Int) : SG := up (putF σ 41 (cpR (σ 41) (fun k => v / 2 ^ Int.toNat (8 * (c - 1 - k)) % 256) (σ 40 1) 0 c)) 40 1 (σ 40 1 + c)
theorem pbS_st (σ : SG) (L : List Int) (v : Int) (m : Nat) : pbS (stW σ 41 40 1 L) v (m : Int) = stW σ 41 40 1 (L ++ byL v m) := by
  have hc := wL_cp (σ 41) (fun k => v / 2 ^ Int.toNat (8 * ((m : Int) - 1 - k)) % 256) L (byL v m) (fun k hk => by
    rw [byL_len] at hk
    rw [byL_at v m k hk, show Int.toNat (8 * ((m : Int) - 1 - (k : Int))) = 8 * (m - 1 - k) by omega])
  rw [byL_len] at hc
  unfold pbS
  rw [stW_len, stW_arr (by decide), hc]
  unfold stW
  have hl : ((L ++ byL v m).length : Int) = (L.length : Int) + m := by rw [List.length_append, byL_len]; omega
  rw [hl]
  funext p j
  simp only [up, putF]
  by_cases h1 : p = 40 ∧ j = 1
  · rw [if_pos h1, if_pos h1]
  · by_cases h2 : p = 41
    · subst h2
      simp
    · simp [h1, h2]
abbrev pbO (σ : SG) (c : Int) : Prop := 0 ≤ σ 40 1 ∧ σ 40 1 + c ≤ 268 ∧ 0 ≤ c ∧ c ≤ 4
theorem putBytes_ok {d : Nat} {σ : SG} {Q : Option AV → SG → Prop} {v c : Int} (h : pbO σ c ∧ Q none (pbS σ v c)) : AW d mX1_putBytes 0 [some (.inr (.inr 40)), some (.inl v), some (.inl c), none] [] σ Q := by
  obtain ⟨⟨hl1, hl2, hc⟩, hq⟩ := h
  refine xputb_0 ?_
  have key := downInd (P := fun i => AW d mX1_putBytes 4 [some (.inr (.inr 40)), some (.inl v), none, some (.inl (c - 1 - i))] [] (up (putF σ 41 (cpR (σ 41) (fun k => v / 2 ^ Int.toNat (8 * (c - 1 - k)) % 256) (σ 40 1) 0 i)) 40 1 (σ 40 1 + i)) Q) (lo := 0) (hi := c) hc.1 ?_ ?_
  · rw [cpR_0, putF_self, Int.add_zero, up_self, Int.sub_zero] at key
    exact key
  · exact xputb_4 ⟨by omega, fun _ => hq, fun z => by omega⟩
  · intro i i0 i1 ih
    refine xputb_4 ?_
    rw [up_at]
    refine ⟨by omega, fun z => by omega, fun _ => ⟨by omega, fun z => by omega, fun _ => ⟨by omega, by omega, fun S1 e1 => fun S2 e2 => ?_⟩⟩⟩
    have hv : band ((un v / 2 ^ Int.toNat (8 * (c - 1 - i)) : Nat) : Int) 255 = v / 2 ^ Int.toNat (8 * (c - 1 - i)) % 256 := by
      rw [band255]
      unfold un
      rcases (by omega : c - 1 - i = 0 ∨ c - 1 - i = 1 ∨ c - 1 - i = 2 ∨ c - 1 - i = 3) with z | z | z | z
      · rw [z, show (2 : Nat) ^ Int.toNat (8 * 0) = 1 from rfl, show (2 : Int) ^ Int.toNat (8 * 0) = 1 from rfl]
        omega
      · rw [z, show (2 : Nat) ^ Int.toNat (8 * 1) = 256 from rfl, show (2 : Int) ^ Int.toNat (8 * 1) = 256 from rfl]
        omega
      · rw [z, show (2 : Nat) ^ Int.toNat (8 * 2) = 65536 from rfl, show (2 : Int) ^ Int.toNat (8 * 2) = 65536 from rfl]
        omega
      · rw [z, show (2 : Nat) ^ Int.toNat (8 * 3) = 16777216 from rfl, show (2 : Int) ^ Int.toNat (8 * 3) = 16777216 from rfl]
        omega
    rw [feed_step (g := fun k => v / 2 ^ Int.toNat (8 * (c - 1 - k)) % 256) (by decide) i0 hv e1 e2, show c - 1 - i + -1 = c - 1 - (i + 1) by omega]
    exact ih
def ckV (f : Int → Int) (n : Int) : Int := foI (fun i c => Int.tmod (3 * c + f i) 249) 127 n
def ckO (σ : SG) : Prop := (0 ≤ σ 40 1 ∧ σ 40 1 ≤ 268) ∧ ∀ i, 0 ≤ i → i < σ 40 1 → 0 ≤ σ 41 i ∧ σ 41 i ≤ 255
theorem ckV_r {f : Int → Int} : ∀ n : Nat, (∀ i, 0 ≤ i → i < (n : Int) → 0 ≤ f i ∧ f i ≤ 255) → 0 ≤ ckV f n ∧ ckV f n ≤ 248 := by
  intro n
  induction n with
  | zero => intro _; exact ⟨by show (0 : Int) ≤ 127; decide, by show (127 : Int) ≤ 248; decide⟩
  | succ n ih =>
    intro h
    have ih := ih (fun i a b => h i a (by omega))
    have hn := h n (by omega) (by omega)
    unfold ckV at *
    rw [show ((n + 1 : Nat) : Int) = (n : Int) + 1 by omega, foI_s _ _ (by omega)]
    generalize foI (fun i c => Int.tmod (3 * c + f i) 249) 127 (n : Int) = c at *
    rw [Int.tmod_eq_emod_of_nonneg (by omega)]
    omega
theorem check_ok {d : Nat} {σ : SG} {Q : Option AV → SG → Prop} (h : ckO σ ∧ Q (some (.inl (ckV (σ 41) (σ 40 1)))) σ) : AW d mX1_check 0 [some (.inr (.inr 40)), none, none] [] σ Q := by
  obtain ⟨⟨hl, hb⟩, hq⟩ := h
  refine xcheck_0 ?_
  refine downInd (P := fun i => AW d mX1_check 5 [some (.inr (.inr 40)), some (.inl (ckV (σ 41) i)), some (.inl i)] [] σ Q) (lo := 0) (hi := σ 40 1) hl.1 ?_ ?_
  · exact xcheck_5 ⟨by omega, fun _ => hq, fun z => by omega⟩
  · intro i i0 i1 ih
    have hr := ckV_r (f := σ 41) i.toNat (fun j a b => hb j a (by omega))
    rw [show ((i.toNat : Nat) : Int) = i by omega] at hr
    have hi := hb i i0 i1
    have e : ckV (σ 41) (i + 1) = Int.tmod (3 * ckV (σ 41) i + σ 41 i) 249 := foI_s _ _ i0
    rw [e] at ih
    exact xcheck_5 ⟨by omega, fun z => by omega, fun _ => ⟨by omega, by omega, ih⟩⟩
