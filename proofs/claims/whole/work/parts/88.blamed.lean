/-! ===== isBlamed of the reference (wip/whole/gen88.py) ===== -/
def kX9_loansBy_0 : List BI := [bi (.iconst 0) 1 [] 0, bi (.istore_n 2) 1 [] 0, bi (.iconst 0) 1 [] 0, bi (.istore_n 3) 1 [] 0]
theorem cX9_loansBy_0 : chk mX9_loansBy 0 kX9_loansBy_0 = true := by decide +kernel
theorem mlo_0 {d : Nat} {σ : SG} {Q : Option AV → SG → Prop} {s : Int} (h : AW d mX9_loansBy 4 [some (.inr (.inr 42)), some (.inl s), some (.inl 0), some (.inl 0)] [] σ Q) : AW d mX9_loansBy 0 [some (.inr (.inr 42)), some (.inl s), none, none] [] σ Q := AW.blk kX9_loansBy_0 cX9_loansBy_0 (h)
def kX9_loansBy_38 : List BI := [bi (.iload_n 2) 1 [] 0, bi (.ireturn) 1 [] 0]
theorem cX9_loansBy_38 : chk mX9_loansBy 38 kX9_loansBy_38 = true := by decide +kernel
def kX9_loansBy_32 : List BI := [bi (.iinc 3 (1)) 3 [] 0, bi (.goto (-31)) 3 [4] 0]
theorem cX9_loansBy_32 : chk mX9_loansBy 32 kX9_loansBy_32 = true := by decide +kernel
def kX9_loansBy_4 : List BI := [bi (.iload_n 3) 1 [] 0, bi (.aload_n 0) 1 [] 0, bi (.getfield 443) 3 [9, 46] 0, bi (.if_icmp .ge (29)) 3 [38] 0, bi (.iload_n 1) 1 [] 0, bi (.iload_n 3) 1 [] 0, bi (.ishr) 1 [] 0, bi (.iconst 1) 1 [] 0, bi (.iand) 1 [] 0, bi (.iconst 1) 1 [] 0, bi (.if_icmp .ne (14)) 3 [32] 0, bi (.iload_n 2) 1 [] 0, bi (.iconst 1) 1 [] 0, bi (.aload_n 0) 1 [] 0, bi (.getfield 112) 3 [9, 45] 0, bi (.iload_n 3) 1 [] 0, bi (.iaload) 1 [] 0, bi (.ishl) 1 [] 0, bi (.ior) 1 [] 0, bi (.istore_n 2) 1 [] 0, bi (.iinc 3 (1)) 3 [] 0, bi (.goto (-31)) 3 [4] 0]
theorem cX9_loansBy_4 : chk mX9_loansBy 4 kX9_loansBy_4 = true := by decide +kernel
theorem mlo_4 {d : Nat} {σ : SG} {Q : Option AV → SG → Prop} {s l2 l3 : Int} (h : (r3 l3 ∧ r3 (σ 42 46)) ∧ ((σ 42 46) ≤ l3 → Q (some (.inl l2)) σ) ∧ (l3 < (σ 42 46) → (0 ≤ l3 ∧ l3 < 32 ∧ r3 s) ∧ (r3 (band (s / 2 ^ Int.toNat l3) 1)) ∧ ((band (s / 2 ^ Int.toNat l3) 1) ≠ 1 → AW d mX9_loansBy 4 [some (.inr (.inr 42)), some (.inl s), some (.inl l2), some (.inl (l3 + 1))] [] σ Q) ∧ ((band (s / 2 ^ Int.toNat l3) 1) = 1 → (0 ≤ l3 ∧ l3 < 24) ∧ (0 ≤ (σ 75 l3) ∧ (σ 75 l3) < 32) ∧ AW d mX9_loansBy 4 [some (.inr (.inr 42)), some (.inl s), some (.inl (bor l2 (1 * 2 ^ Int.toNat (σ 75 l3)))), some (.inl (l3 + 1))] [] σ Q))) : AW d mX9_loansBy 4 [some (.inr (.inr 42)), some (.inl s), some (.inl l2), some (.inl l3)] [] σ Q := AW.blk kX9_loansBy_4 cX9_loansBy_4 (⟨⟨((h).1).1, ((h).1).2⟩, ⟨fun c2 => AW.blk kX9_loansBy_38 cX9_loansBy_38 (((h).2).1 c2), fun c2 => ⟨⟨((((h).2).2 c2).1).1, (((((h).2).2 c2).1).2).1, (((((h).2).2 c2).1).2).2⟩, ⟨⟨((((h).2).2 c2).2).1, (by decide)⟩, ⟨fun c1 => AW.blk kX9_loansBy_32 cX9_loansBy_32 ((((((h).2).2 c2).2).2).1 c1), fun c1 => ⟨⟨(((((((h).2).2 c2).2).2).2 c1).1).1, (((((((h).2).2 c2).2).2).2 c1).1).2⟩, ⟨⟨((((((((h).2).2 c2).2).2).2 c1).2).1).1, ((((((((h).2).2 c2).2).2).2 c1).2).1).2⟩, (((((((h).2).2 c2).2).2).2 c1).2).2⟩⟩⟩⟩⟩⟩⟩)
def kX9_stepsBy_0 : List BI := [bi (.iconst 0) 1 [] 0, bi (.istore_n 2) 1 [] 0, bi (.iconst 0) 1 [] 0, bi (.istore_n 3) 1 [] 0]
theorem cX9_stepsBy_0 : chk mX9_stepsBy 0 kX9_stepsBy_0 = true := by decide +kernel
theorem mst_0 {d : Nat} {σ : SG} {Q : Option AV → SG → Prop} {s : Int} (h : AW d mX9_stepsBy 4 [some (.inr (.inr 42)), some (.inl s), some (.inl 0), some (.inl 0)] [] σ Q) : AW d mX9_stepsBy 0 [some (.inr (.inr 42)), some (.inl s), none, none] [] σ Q := AW.blk kX9_stepsBy_0 cX9_stepsBy_0 (h)
def kX9_stepsBy_45 : List BI := [bi (.iload_n 2) 1 [] 0, bi (.ireturn) 1 [] 0]
theorem cX9_stepsBy_45 : chk mX9_stepsBy 45 kX9_stepsBy_45 = true := by decide +kernel
def kX9_stepsBy_39 : List BI := [bi (.iinc 3 (1)) 3 [] 0, bi (.goto (-38)) 3 [4] 0]
theorem cX9_stepsBy_39 : chk mX9_stepsBy 39 kX9_stepsBy_39 = true := by decide +kernel
def kX9_stepsBy_4 : List BI := [bi (.iload_n 3) 1 [] 0, bi (.aload_n 0) 1 [] 0, bi (.getfield 443) 3 [9, 46] 0, bi (.if_icmp .ge (36)) 3 [45] 0, bi (.iload_n 1) 1 [] 0, bi (.iload_n 3) 1 [] 0, bi (.ishr) 1 [] 0, bi (.iconst 1) 1 [] 0, bi (.iand) 1 [] 0, bi (.iconst 1) 1 [] 0, bi (.if_icmp .ne (21)) 3 [39] 0, bi (.iload_n 2) 1 [] 0, bi (.iconst 1) 1 [] 0, bi (.aload_n 0) 1 [] 0, bi (.aload_n 0) 1 [] 0, bi (.getfield 112) 3 [9, 45] 0, bi (.iload_n 3) 1 [] 0, bi (.iaload) 1 [] 0, bi (.iconst 1) 1 [] 0, bi (.invokevirtual 332) 3 [mX9_loanOf, 3, 3, 9] 0, bi (.iconst 1) 1 [] 0, bi (.isub) 1 [] 0, bi (.ishl) 1 [] 0, bi (.ior) 1 [] 0, bi (.istore_n 2) 1 [] 0, bi (.iinc 3 (1)) 3 [] 0, bi (.goto (-38)) 3 [4] 0]
theorem cX9_stepsBy_4 : chk mX9_stepsBy 4 kX9_stepsBy_4 = true := by decide +kernel
theorem mst_4 {d : Nat} {σ : SG} {Q : Option AV → SG → Prop} {s l2 l3 : Int} (h : (r3 l3 ∧ r3 (σ 42 46)) ∧ ((σ 42 46) ≤ l3 → Q (some (.inl l2)) σ) ∧ (l3 < (σ 42 46) → (0 ≤ l3 ∧ l3 < 32 ∧ r3 s) ∧ (r3 (band (s / 2 ^ Int.toNat l3) 1)) ∧ ((band (s / 2 ^ Int.toNat l3) 1) ≠ 1 → AW d mX9_stepsBy 4 [some (.inr (.inr 42)), some (.inl s), some (.inl l2), some (.inl (l3 + 1))] [] σ Q) ∧ ((band (s / 2 ^ Int.toNat l3) 1) = 1 → (0 ≤ l3 ∧ l3 < 24) ∧ (0 < d) ∧ (0 ≤ ((62 + (8 * (σ 75 l3))) + 1) ∧ ((62 + (8 * (σ 75 l3))) + 1) < 254) ∧ (0 ≤ ((σ 69 ((62 + (8 * (σ 75 l3))) + 1)) - 1) ∧ ((σ 69 ((62 + (8 * (σ 75 l3))) + 1)) - 1) < 32) ∧ AW d mX9_stepsBy 4 [some (.inr (.inr 42)), some (.inl s), some (.inl (bor l2 (1 * 2 ^ Int.toNat ((σ 69 ((62 + (8 * (σ 75 l3))) + 1)) - 1)))), some (.inl (l3 + 1))] [] σ Q))) : AW d mX9_stepsBy 4 [some (.inr (.inr 42)), some (.inl s), some (.inl l2), some (.inl l3)] [] σ Q := AW.blk kX9_stepsBy_4 cX9_stepsBy_4 (⟨⟨((h).1).1, ((h).1).2⟩, ⟨fun c4 => AW.blk kX9_stepsBy_45 cX9_stepsBy_45 (((h).2).1 c4), fun c4 => ⟨⟨((((h).2).2 c4).1).1, (((((h).2).2 c4).1).2).1, (((((h).2).2 c4).1).2).2⟩, ⟨⟨((((h).2).2 c4).2).1, (by decide)⟩, ⟨fun c3 => AW.blk kX9_stepsBy_39 cX9_stepsBy_39 ((((((h).2).2 c4).2).2).1 c3), fun c3 => ⟨⟨(((((((h).2).2 c4).2).2).2 c3).1).1, (((((((h).2).2 c4).2).2).2 c3).1).2⟩, ⟨(((((((h).2).2 c4).2).2).2 c3).2).1, AW.blk kX9_loanOf_0 cX9_loanOf_0 (⟨⟨(((((((((h).2).2 c4).2).2).2 c3).2).2).1).1, (((((((((h).2).2 c4).2).2).2 c3).2).2).1).2⟩, ⟨⟨((((((((((h).2).2 c4).2).2).2 c3).2).2).2).1).1, ((((((((((h).2).2 c4).2).2).2 c3).2).2).2).1).2⟩, (((((((((h).2).2 c4).2).2).2 c3).2).2).2).2⟩⟩)⟩⟩⟩⟩⟩⟩⟩)
theorem mbits2_ok {d : Nat} {σ : SG} {Q : Option AV → SG → Prop} {x : Int} (h : (0 ≤ x ∧ x < 16777216) ∧ Q (some (.inl (popc x))) σ) : AW d mX9_bits 0 [some (.inl x), none, none] [] σ Q := by
  obtain ⟨⟨h0, h1⟩, hq⟩ := h
  refine mbits_0 ?_
  have key : ∀ (m : Nat) (y c : Int), 0 ≤ y → y < 16777216 → y ≤ m → c + popc y = popc x → AW d mX9_bits 4 [none, some (.inl c), some (.inl y)] [] σ Q := by
    intro m
    induction m with
    | zero =>
      intro y c y0 y1 ym e
      obtain rfl : y = 0 := by omega
      rw [popc_0] at e
      rw [show popc x = c by omega] at hq
      exact mbits_4 ⟨by decide, fun _ => hq, fun c => absurd rfl c⟩
    | succ m ih =>
      intro y c y0 y1 ym e
      refine mbits_4 ⟨by omega, fun z => ?_, fun z => ?_⟩
      · subst z
        rw [popc_0] at e
        rw [show popc x = c by omega] at hq
        exact hq
      · have hd := dr_gen 32 y.toNat (by omega) (by omega)
        have hb : band y (y - 1) = ((y.toNat &&& (y.toNat - 1) : Nat) : Int) := by
          have := band_nat (a := y.toNat) (b := y.toNat - 1) (by omega) (by omega)
          rw [← this]
          congr 1 <;> omega
        have hle : y.toNat &&& (y.toNat - 1) ≤ y.toNat - 1 := Nat.and_le_right
        have hp : popc (band y (y - 1)) + 1 = popc y := by
          unfold popc
          rw [hb, un_nat (by omega), un_of (show 0 ≤ y by omega) (by omega)]
          omega
        exact ih (band y (y - 1)) (c + 1) (by omega) (by omega) (by omega) (by omega)
  exact key x.toNat x 0 h0 h1 (by omega) (by omega)
/-- the loans owed: rising numbers of loans -/
def OWN (ow : Int → Int) (m n : Int) : Prop := (0 ≤ m ∧ m ≤ n) ∧ (∀ j, 0 ≤ j → j < m → 0 ≤ ow j ∧ ow j < n) ∧ ∀ i j, 0 ≤ i → i < j → j < m → ow i < ow j
def OWO (σ : SG) : Prop := OWN (σ 75) (σ 42 46) (σ 69 1) ∧ σ 69 1 ≤ 24
def lbN (ow : Int → Int) : Nat → Nat → Nat
  | 0, _ => 0
  | j + 1, i => lbN ow j i + if i.testBit j = true then 2 ^ (ow j).toNat else 0
theorem lbN_lt {ow : Int → Int} (i : Nat) : ∀ (j e : Nat), (∀ a b : Nat, a < b → b < j → ow a < ow b) → (∀ a : Nat, a < j → 0 ≤ ow a ∧ ow a < e) → lbN ow j i < 2 ^ e := by
  intro j
  induction j with
  | zero => intro e _ _; exact Nat.two_pow_pos e
  | succ j ih =>
    intro e hm he
    have h1 := ih (ow j).toNat (fun a b x y => hm a b x (by omega)) (fun a x => by
      have := hm a j x (by omega)
      have := he a (by omega)
      omega)
    have hj := he j (by omega)
    have h2 : 2 ^ ((ow j).toNat + 1) ≤ 2 ^ e := Nat.pow_le_pow_right (by decide) (by omega)
    rw [Nat.pow_succ] at h2
    show lbN ow j i + (if i.testBit j = true then 2 ^ (ow j).toNat else 0) < 2 ^ e
    split <;> omega
theorem lbN_cong {ow : Int → Int} {i i' : Nat} : ∀ j : Nat, (∀ a, a < j → i.testBit a = i'.testBit a) → lbN ow j i = lbN ow j i' := by
  intro j
  induction j with
  | zero => intro _; rfl
  | succ j ih =>
    intro h
    show lbN ow j i + (if i.testBit j = true then 2 ^ (ow j).toNat else 0) = lbN ow j i' + (if i'.testBit j = true then 2 ^ (ow j).toNat else 0)
    rw [ih (fun a b => h a (by omega)), h j (by omega)]
theorem lbN_free {ow : Int → Int} (i : Nat) {j : Nat} (hm : ∀ a b : Nat, a < b → b < j + 1 → ow a < ow b) (h0 : ∀ a : Nat, a < j + 1 → 0 ≤ ow a) : lbN ow j i < 2 ^ (ow j).toNat := lbN_lt i j _ (fun a b x y => hm a b x (by omega)) (fun a x => by
  have := hm a j x (by omega)
  have := h0 a (by omega)
  omega)
theorem lbN_tb {ow : Int → Int} (i : Nat) : ∀ j : Nat, (∀ a b : Nat, a < b → b < j → ow a < ow b) → (∀ a : Nat, a < j → 0 ≤ ow a) → ∀ q, ((lbN ow j i).testBit q = true ↔ ∃ a : Nat, a < j ∧ i.testBit a = true ∧ (ow a).toNat = q) := by
  intro j
  induction j with
  | zero =>
    intro _ _ q
    constructor
    · intro z
      have : (0 : Nat).testBit q = true := z
      rw [Nat.zero_testBit] at this
      cases this
    · intro ⟨a, z, _⟩
      omega
  | succ j ih =>
    intro hm h0 q
    have hi := ih (fun a b x y => hm a b x (by omega)) (fun a x => h0 a (by omega)) q
    have hf := Nat.testBit_lt_two_pow (lbN_free i hm h0)
    show (lbN ow j i + if i.testBit j = true then 2 ^ (ow j).toNat else 0).testBit q = true ↔ _
    by_cases c : i.testBit j = true
    · rw [if_pos c, tbA _ _ hf q, Bool.or_eq_true, hi]
      constructor
      · intro z
        rcases z with ⟨a, a1, a2⟩ | z
        · exact ⟨a, by omega, a2⟩
        · exact ⟨j, by omega, c, (of_decide_eq_true z).symm⟩
      · intro ⟨a, a1, a2, a3⟩
        by_cases e : a = j
        · subst e
          exact Or.inr (decide_eq_true a3.symm)
        · exact Or.inl ⟨a, by omega, a2, a3⟩
    · rw [if_neg c, Nat.add_zero, hi]
      constructor
      · intro ⟨a, a1, a2⟩
        exact ⟨a, by omega, a2⟩
      · intro ⟨a, a1, a2, a3⟩
        by_cases e : a = j
        · subst e
          exact absurd a2 c
        · exact ⟨a, by omega, a2, a3⟩
theorem modS (i j : Nat) : i % 2 ^ (j + 1) = i % 2 ^ j + if i.testBit j = true then 2 ^ j else 0 := by
  rw [Nat.pow_succ, Nat.mod_mul, Nat.testBit_eq_decide_div_mod_eq]
  by_cases c : i / 2 ^ j % 2 = 1
  · rw [c, decide_eq_true rfl, if_pos rfl, Nat.mul_one]
  · rw [decide_eq_false c, if_neg (by decide), show i / 2 ^ j % 2 = 0 by omega, Nat.mul_zero]
theorem lbN_mono {ow : Int → Int} {i i' : Nat} : ∀ j : Nat, (∀ a b : Nat, a < b → b < j → ow a < ow b) → (∀ a : Nat, a < j → 0 ≤ ow a) → i % 2 ^ j < i' % 2 ^ j → lbN ow j i < lbN ow j i' := by
  intro j
  induction j with
  | zero =>
    intro _ _ h
    rw [Nat.pow_zero] at h
    omega
  | succ j ih =>
    intro hm h0 h
    have hf := lbN_free i hm h0
    rw [modS, modS] at h
    have l1 : i % 2 ^ j < 2 ^ j := Nat.mod_lt _ (Nat.two_pow_pos j)
    have l2 : i' % 2 ^ j < 2 ^ j := Nat.mod_lt _ (Nat.two_pow_pos j)
    have hi := ih (fun a b x y => hm a b x (by omega)) (fun a x => h0 a (by omega))
    show lbN ow j i + (if i.testBit j = true then 2 ^ (ow j).toNat else 0) < lbN ow j i' + (if i'.testBit j = true then 2 ^ (ow j).toNat else 0)
    cases c : i.testBit j <;> cases c' : i'.testBit j <;> rw [c, c'] at h
    · rw [if_neg (by decide)] at h ⊢
      have := hi (by omega)
      omega
    · rw [if_neg (by decide), if_pos rfl]
      omega
    · exfalso
      rw [if_pos rfl, if_neg (by decide)] at h
      omega
    · rw [if_pos rfl] at h ⊢
      have := hi (by omega)
      omega
theorem lbN_surj {ow : Int → Int} : ∀ (j M : Nat), (∀ a b : Nat, a < b → b < j → ow a < ow b) → (∀ a : Nat, a < j → 0 ≤ ow a) → (∀ q, M.testBit q = true → ∃ a : Nat, a < j ∧ (ow a).toNat = q) → ∃ i, i < 2 ^ j ∧ lbN ow j i = M := by
  intro j
  induction j with
  | zero =>
    intro M _ _ h
    refine ⟨0, Nat.two_pow_pos 0, ?_⟩
    apply Nat.eq_of_testBit_eq
    intro q
    cases c : M.testBit q
    · exact Nat.zero_testBit q
    · obtain ⟨a, z, _⟩ := h q c
      omega
  | succ j ih =>
    intro M hm h0 h
    by_cases c : M.testBit (ow j).toNat = true
    · obtain ⟨M', e, hb⟩ := tbR _ _ c
      obtain ⟨i, i1, i2⟩ := ih M' (fun a b x y => hm a b x (by omega)) (fun a x => h0 a (by omega)) (fun q hq => by
        rw [hb, Bool.and_eq_true] at hq
        obtain ⟨a, a1, a2⟩ := h q hq.1
        refine ⟨a, ?_, a2⟩
        have : a ≠ j := fun z => by
          subst z
          exact of_decide_eq_true hq.2 a2.symm
        omega)
      have hf := Nat.testBit_lt_two_pow i1
      refine ⟨i + 2 ^ j, by rw [Nat.pow_succ]; omega, ?_⟩
      show lbN ow j (i + 2 ^ j) + (if (i + 2 ^ j).testBit j = true then 2 ^ (ow j).toNat else 0) = M
      rw [tbA _ _ hf j, decide_eq_true rfl, Bool.or_true, if_pos rfl, lbN_cong (i' := i) j (fun a b => by rw [tbA _ _ hf a, decide_eq_false (by omega), Bool.or_false]), i2]
      exact e.symm
    · obtain ⟨i, i1, i2⟩ := ih M (fun a b x y => hm a b x (by omega)) (fun a x => h0 a (by omega)) (fun q hq => by
        obtain ⟨a, a1, a2⟩ := h q hq
        refine ⟨a, ?_, a2⟩
        have : a ≠ j := fun z => by
          subst z
          rw [a2] at c
          exact c hq
        omega)
      refine ⟨i, by rw [Nat.pow_succ]; omega, ?_⟩
      show lbN ow j i + (if i.testBit j = true then 2 ^ (ow j).toNat else 0) = M
      rw [Nat.testBit_lt_two_pow i1, if_neg (by decide), i2]
      rfl
theorem lbN_id (i : Nat) : ∀ j : Nat, lbN (fun x => x) j i = i % 2 ^ j := by
  intro j
  induction j with
  | zero => rw [Nat.pow_zero]; show 0 = _; omega
  | succ j ih =>
    show lbN (fun x => x) j i + (if i.testBit j = true then 2 ^ ((j : Int)).toNat else 0) = _
    rw [modS, ih, show ((j : Int)).toNat = j by omega]
theorem lbN_pc {ow ow' : Int → Int} (i : Nat) : ∀ j : Nat, (∀ a b : Nat, a < b → b < j → ow a < ow b ∧ ow' a < ow' b) → (∀ a : Nat, a < j → (0 ≤ ow a ∧ ow a < 24) ∧ (0 ≤ ow' a ∧ ow' a < 24)) → pcM (lbN ow j i) = pcM (lbN ow' j i) := by
  intro j
  induction j with
  | zero => intro _ _; rfl
  | succ j ih =>
    intro hm h0
    have hi := ih (fun a b x y => hm a b x (by omega)) (fun a x => h0 a (by omega))
    have h1 := h0 j (by omega)
    have f1 := Nat.testBit_lt_two_pow (lbN_free (ow := ow) i (fun a b x y => (hm a b x y).1) (fun a x => (h0 a x).1.1))
    have f2 := Nat.testBit_lt_two_pow (lbN_free (ow := ow') i (fun a b x y => (hm a b x y).2) (fun a x => (h0 a x).2.1))
    show pcM (lbN ow j i + (if i.testBit j = true then 2 ^ (ow j).toNat else 0)) = pcM (lbN ow' j i + (if i.testBit j = true then 2 ^ (ow' j).toNat else 0))
    unfold pcM at hi ⊢
    split
    · rw [pcN_add _ _ _ (by omega) f1, pcN_add _ _ _ (by omega) f2, hi]
    · rw [Nat.add_zero, Nat.add_zero, hi]
theorem lbN_popc {ow : Int → Int} {i j : Nat} (hm : ∀ a b : Nat, a < b → b < j → ow a < ow b) (h0 : ∀ a : Nat, a < j → 0 ≤ ow a ∧ ow a < 24) (hj : j ≤ 24) (hi : i < 2 ^ j) : popc (i : Int) = ((pcM (lbN ow j i) : Nat) : Int) := by
  have h24 : 2 ^ j ≤ 2 ^ 24 := Nat.pow_le_pow_right (by decide) hj
  rw [lbN_pc (ow' := fun x => x) i j (fun a b x y => ⟨hm a b x y, by show (a : Int) < b; omega⟩) (fun a x => ⟨h0 a x, by show (0 : Int) ≤ a ∧ (a : Int) < 24; omega⟩), lbN_id, Nat.mod_eq_of_lt hi]
  unfold popc pcM
  rw [un_nat (by omega)]
  have := pcN_more 24 i (by omega) 8
  rw [← this]
theorem bor_add {x k : Nat} (hx : x < 2 ^ k) (hk : k < 31) : bor (x : Int) (1 * 2 ^ k) = ((x + 2 ^ k : Nat) : Int) := by
  have h1 : 2 ^ (k + 1) ≤ 2 ^ 31 := Nat.pow_le_pow_right (by decide) (by omega)
  rw [Nat.pow_succ] at h1
  have e : ((2 ^ k : Nat) : Int) = (2 : Int) ^ k := by push_cast; rfl
  unfold bor
  rw [un_nat (by omega), un_pow (by omega)]
  congr 1
  have := Nat.two_pow_add_eq_or_of_lt hx 1
  rw [Nat.mul_one] at this
  rw [Nat.or_comm, ← this, Nat.add_comm]
theorem OWO.f {σ : SG} (h : OWO σ) : (0 ≤ σ 42 46 ∧ σ 42 46 ≤ 24) ∧ (∀ a : Nat, a < (σ 42 46).toNat → 0 ≤ σ 75 a ∧ σ 75 a < 24) ∧ ∀ a b : Nat, a < b → b < (σ 42 46).toNat → σ 75 a < σ 75 b := by
  obtain ⟨⟨h1, h2, h3⟩, h4⟩ := h
  exact ⟨by omega, fun a x => by have := h2 a (by omega) (by omega); omega, fun a b x y => h3 a b (by omega) (by omega) (by omega)⟩
theorem loansBy_ok {d : Nat} {σ : SG} {Q : Option AV → SG → Prop} {s : Int} (h : (OWO σ ∧ 0 ≤ s ∧ s < 16777216) ∧ Q (some (.inl ((lbN (σ 75) (σ 42 46).toNat s.toNat : Nat) : Int))) σ) : AW d mX9_loansBy 0 [some (.inr (.inr 42)), some (.inl s), none, none] [] σ Q := by
  obtain ⟨⟨hO, s0, s1⟩, hq⟩ := h
  obtain ⟨h1, h2, h3⟩ := hO.f
  refine mlo_0 ?_
  have key := downInd (P := fun i => AW d mX9_loansBy 4 [some (.inr (.inr 42)), some (.inl s), some (.inl ((lbN (σ 75) i.toNat s.toNat : Nat) : Int)), some (.inl i)] [] σ Q) (lo := 0) (hi := σ 42 46) h1.1 ?_ ?_
  · exact key
  · exact mlo_4 ⟨by omega, fun _ => hq, fun c => by omega⟩
  · intro i i0 i1 ih
    have hb := sh1 (x := s) (k := Int.toNat i) s0 (by omega)
    have hi := h2 i.toNat (by omega)
    rw [show ((i.toNat : Nat) : Int) = i by omega] at hi
    have hf := lbN_free (ow := σ 75) s.toNat (j := i.toNat) (fun a b x y => h3 a b x (by omega)) (fun a x => (h2 a (by omega)).1)
    rw [show ((i.toNat : Nat) : Int) = i by omega] at hf
    have hs : lbN (σ 75) (i.toNat + 1) s.toNat = lbN (σ 75) i.toNat s.toNat + if s.toNat.testBit i.toNat = true then 2 ^ (σ 75 (i.toNat : Int)).toNat else 0 := rfl
    rw [show ((i.toNat : Nat) : Int) = i by omega] at hs
    rw [show (i + 1).toNat = i.toNat + 1 by omega, hs] at ih
    have ht : tb s i.toNat = s.toNat.testBit i.toNat := by
      unfold tb
      rw [un_of s0 (by omega)]
    refine mlo_4 ?_
    rw [hb, ht]
    cases c : s.toNat.testBit i.toNat
    · rw [c, if_neg (by decide), Nat.add_zero] at ih
      exact ⟨by omega, fun c => by omega, fun _ => ⟨by omega, by decide, fun _ => ih, fun c => absurd c (by decide)⟩⟩
    · rw [c, if_pos rfl, ← bor_add hf (by omega)] at ih
      exact ⟨by omega, fun c => by omega, fun _ => ⟨by omega, by decide, fun c => absurd rfl c, fun _ => ⟨by omega, by omega, ih⟩⟩⟩
def stB (g ow : Int → Int) (m s : Int) : Int := foI (fun k x => if tb s k.toNat = true then bor x (1 * 2 ^ Int.toNat (g (62 + 8 * ow k + 1) - 1)) else x) 0 m
theorem stepsBy_ok {d : Nat} {σ : SG} {Q : Option AV → SG → Prop} {s : Int} (h : (1 ≤ d ∧ OWO σ ∧ MLR (σ 69) ∧ 0 ≤ s ∧ s < 16777216) ∧ Q (some (.inl (stB (σ 69) (σ 75) (σ 42 46) s))) σ) : AW d mX9_stepsBy 0 [some (.inr (.inr 42)), some (.inl s), none, none] [] σ Q := by
  obtain ⟨⟨hd, hO, hM, s0, s1⟩, hq⟩ := h
  have h1 := hO.f.1
  refine mst_0 ?_
  have key := downInd (P := fun i => AW d mX9_stepsBy 4 [some (.inr (.inr 42)), some (.inl s), some (.inl (stB (σ 69) (σ 75) i s)), some (.inl i)] [] σ Q) (lo := 0) (hi := σ 42 46) h1.1 ?_ ?_
  · exact key
  · exact mst_4 ⟨by omega, fun _ => hq, fun c => by omega⟩
  · intro i i0 i1 ih
    have hb := sh1 (x := s) (k := Int.toNat i) s0 (by omega)
    have hi := hO.1.2.1 i i0 i1
    have hs : stB (σ 69) (σ 75) (i + 1) s = if tb s i.toNat = true then bor (stB (σ 69) (σ 75) i s) (1 * 2 ^ Int.toNat (σ 69 (62 + 8 * σ 75 i + 1) - 1)) else stB (σ 69) (σ 75) i s := foI_s _ _ i0
    rw [hs] at ih
    have hl := hM.2 (σ 75 i) hi.1 hi.2
    have h24 := hO.2
    refine mst_4 ?_
    rw [hb]
    cases c : tb s i.toNat
    · rw [c, if_neg (by decide)] at ih
      exact ⟨by omega, fun c => by omega, fun _ => ⟨by omega, by decide, fun _ => ih, fun c => absurd c (by decide)⟩⟩
    · rw [c, if_pos rfl] at ih
      exact ⟨by omega, fun c => by omega, fun _ => ⟨by omega, by decide, fun c => absurd rfl c, fun _ => ⟨by omega, by omega, by omega, by omega, ih⟩⟩⟩

def kX9_isBlamed_0 : List BI := [bi (.aload_n 0) 1 [] 0, bi (.iconst 0) 1 [] 0, bi (.putfield 443) 3 [9, 46] 0, bi (.iconst 0) 1 [] 0, bi (.istore_n 3) 1 [] 0]
theorem cX9_isBlamed_0 : chk mX9_isBlamed 0 kX9_isBlamed_0 = true := by decide +kernel
theorem mib_0 {d : Nat} {σ : SG} {Q : Option AV → SG → Prop} {t lg : Int} (h : (∀ S5 : SG, S5 = up σ 42 46 0 → AW d mX9_isBlamed 7 [some (.inr (.inr 42)), some (.inl t), some (.inl lg), some (.inl 0), none, none] [] S5 Q)) : AW d mX9_isBlamed 0 [some (.inr (.inr 42)), some (.inl t), some (.inl lg), none, none, none] [] σ Q := AW.blk kX9_isBlamed_0 cX9_isBlamed_0 ((h) _ rfl)
def kX9_isBlamed_59 : List BI := [bi (.aload_n 0) 1 [] 0, bi (.iconst 0) 1 [] 0, bi (.putfield 446) 3 [9, 49] 0, bi (.aload_n 0) 1 [] 0, bi (.iload_n 1) 1 [] 0, bi (.invokevirtual 350) 3 [mX9_standSet, 2, 2, 9] 0, bi (.istore_n 3) 1 [] 0, bi (.iconst 0) 1 [] 0, bi (.istore 4) 2 [] 0]
theorem cX9_isBlamed_59 : chk mX9_isBlamed 59 kX9_isBlamed_59 = true := by decide +kernel
def kX9_isBlamed_53 : List BI := [bi (.iinc 3 (1)) 3 [] 0, bi (.goto (-49)) 3 [7] 0]
theorem cX9_isBlamed_53 : chk mX9_isBlamed 53 kX9_isBlamed_53 = true := by decide +kernel
def kX9_isBlamed_7 : List BI := [bi (.iload_n 3) 1 [] 0, bi (.aload_n 0) 1 [] 0, bi (.invokevirtual 335) 3 [mX9_loanMany, 1, 1, 9] 0, bi (.if_icmp .ge (47)) 3 [59] 0, bi (.aload_n 0) 1 [] 0, bi (.iload_n 3) 1 [] 0, bi (.invokevirtual 338) 3 [mX9_lasts, 2, 2, 9] 0, bi (.ifCond .eq (33)) 3 [53] 0, bi (.aload_n 0) 1 [] 0, bi (.iload_n 3) 1 [] 0, bi (.iconst 0) 1 [] 0, bi (.invokevirtual 332) 3 [mX9_loanOf, 3, 3, 9] 0, bi (.iload_n 1) 1 [] 0, bi (.if_icmp .ne (23)) 3 [53] 0, bi (.aload_n 0) 1 [] 0, bi (.getfield 112) 3 [9, 45] 0, bi (.aload_n 0) 1 [] 0, bi (.getfield 443) 3 [9, 46] 0, bi (.iload_n 3) 1 [] 0, bi (.iastore) 1 [] 0, bi (.aload_n 0) 1 [] 0, bi (.dup) 1 [] 0, bi (.getfield 443) 3 [9, 46] 0, bi (.iconst 1) 1 [] 0, bi (.iadd) 1 [] 0, bi (.putfield 443) 3 [9, 46] 0, bi (.iinc 3 (1)) 3 [] 0, bi (.goto (-49)) 3 [7] 0]
theorem cX9_isBlamed_7 : chk mX9_isBlamed 7 kX9_isBlamed_7 = true := by decide +kernel
theorem mib_7 {d : Nat} {σ : SG} {Q : Option AV → SG → Prop} {t lg l3 : Int} (h : (0 < d) ∧ (r3 l3 ∧ r3 (σ 69 1)) ∧ ((σ 69 1) ≤ l3 → (∀ S6 : SG, S6 = up σ 42 49 0 → (0 < d) ∧ (0 < d - 1) ∧ (mhwO (d - 1 - 1) S6 t 0) ∧ (0 < d - 1) ∧ (2 ≤ d - 1 - 1 ∧ MLR (S6 69) ∧ r3 t) ∧ AW d mX9_isBlamed 73 [some (.inr (.inr 42)), some (.inl t), some (.inl lg), some (.inl (bor (foI (hwB (S6 69) t 0) 0 (S6 63 (8 + 2 * t))) (foI (fsB (S6 69) t) 0 (S6 69 1)))), some (.inl 0), none] [] S6 Q)) ∧ (l3 < (σ 69 1) → (0 < d) ∧ (0 < d - 1) ∧ (0 ≤ ((62 + (8 * l3)) + 7) ∧ ((62 + (8 * l3)) + 7) < 254) ∧ (r3 (σ 69 ((62 + (8 * l3)) + 7))) ∧ ((σ 69 ((62 + (8 * l3)) + 7)) ≠ 0 → AW d mX9_isBlamed 7 [some (.inr (.inr 42)), some (.inl t), some (.inl lg), some (.inl (l3 + 1)), none, none] [] σ Q) ∧ ((σ 69 ((62 + (8 * l3)) + 7)) = 0 → (0 < d) ∧ (0 ≤ ((62 + (8 * l3)) + 0) ∧ ((62 + (8 * l3)) + 0) < 254) ∧ (r3 (σ 69 ((62 + (8 * l3)) + 0)) ∧ r3 t) ∧ ((σ 69 ((62 + (8 * l3)) + 0)) ≠ t → AW d mX9_isBlamed 7 [some (.inr (.inr 42)), some (.inl t), some (.inl lg), some (.inl (l3 + 1)), none, none] [] σ Q) ∧ ((σ 69 ((62 + (8 * l3)) + 0)) = t → (0 ≤ (σ 42 46) ∧ (σ 42 46) < 24) ∧ (∀ S7 : SG, S7 = up σ 75 (σ 42 46) l3 → (∀ S8 : SG, S8 = up S7 42 46 ((S7 42 46) + 1) → AW d mX9_isBlamed 7 [some (.inr (.inr 42)), some (.inl t), some (.inl lg), some (.inl (l3 + 1)), none, none] [] S8 Q)))))) : AW d mX9_isBlamed 7 [some (.inr (.inr 42)), some (.inl t), some (.inl lg), some (.inl l3), none, none] [] σ Q := AW.blk kX9_isBlamed_7 cX9_isBlamed_7 (⟨(h).1, AW.blk kX9_loanMany_0 cX9_loanMany_0 (⟨⟨(by decide), (by decide)⟩, ⟨⟨(((h).2).1).1, (((h).2).1).2⟩, ⟨fun c11 => AW.blk kX9_isBlamed_59 cX9_isBlamed_59 (⟨(((((h).2).2).1 c11) _ rfl).1, AW.blk kX9_standSet_0 cX9_standSet_0 (⟨((((((h).2).2).1 c11) _ rfl).2).1, mhow2_ok ⟨(((((((h).2).2).1 c11) _ rfl).2).2).1, ⟨((((((((h).2).2).1 c11) _ rfl).2).2).2).1, mfilledSet_ok ⟨(((((((((h).2).2).1 c11) _ rfl).2).2).2).2).1, (((((((((h).2).2).1 c11) _ rfl).2).2).2).2).2⟩⟩⟩⟩)⟩), fun c11 => ⟨((((h).2).2).2 c11).1, AW.blk kX9_lasts_0 cX9_lasts_0 (⟨(((((h).2).2).2 c11).2).1, AW.blk kX9_loanOf_0 cX9_loanOf_0 (⟨⟨(((((((h).2).2).2 c11).2).2).1).1, (((((((h).2).2).2 c11).2).2).1).2⟩, ⟨(((((((h).2).2).2 c11).2).2).2).1, ⟨fun c10 => AW.blk kX9_lasts_14 cX9_lasts_14 (⟨(by decide), ⟨(by decide), ⟨fun _ => AW.blk kX9_isBlamed_53 cX9_isBlamed_53 (((((((((h).2).2).2 c11).2).2).2).2).1 c10), fun c => absurd c (by decide)⟩⟩⟩), fun c10 => AW.blk kX9_lasts_15 cX9_lasts_15 (⟨(by decide), ⟨(by decide), ⟨fun c => absurd c (by decide), fun _ => ⟨(((((((((h).2).2).2 c11).2).2).2).2).2 c10).1, AW.blk kX9_loanOf_0 cX9_loanOf_0 (⟨⟨(((((((((((h).2).2).2 c11).2).2).2).2).2 c10).2).1).1, (((((((((((h).2).2).2 c11).2).2).2).2).2 c10).2).1).2⟩, ⟨⟨((((((((((((h).2).2).2 c11).2).2).2).2).2 c10).2).2).1).1, ((((((((((((h).2).2).2 c11).2).2).2).2).2 c10).2).2).1).2⟩, ⟨fun c9 => AW.blk kX9_isBlamed_53 cX9_isBlamed_53 (((((((((((((h).2).2).2 c11).2).2).2).2).2 c10).2).2).2).1 c9), fun c9 => ⟨⟨((((((((((((((h).2).2).2 c11).2).2).2).2).2 c10).2).2).2).2 c9).1).1, ((((((((((((((h).2).2).2 c11).2).2).2).2).2 c10).2).2).2).2 c9).1).2⟩, (((((((((((((((h).2).2).2 c11).2).2).2).2).2 c10).2).2).2).2 c9).2) _ rfl) _ rfl⟩⟩⟩⟩)⟩⟩⟩⟩)⟩⟩⟩)⟩)⟩⟩⟩⟩)⟩)
def kX9_isBlamed_191 : List BI := [bi (.iconst 0) 1 [] 0, bi (.ireturn) 1 [1] 0]
theorem cX9_isBlamed_191 : chk mX9_isBlamed 191 kX9_isBlamed_191 = true := by decide +kernel
def kX9_isBlamed_192 : List BI := [bi (.ireturn) 1 [1] 0]
theorem cX9_isBlamed_192 : chk mX9_isBlamed 192 kX9_isBlamed_192 = true := by decide +kernel
def kX9_isBlamed_180 : List BI := [bi (.aload_n 0) 1 [] 0, bi (.getfield 446) 3 [9, 49] 0, bi (.ifCond .le (7)) 3 [191] 0, bi (.iconst 1) 1 [] 0, bi (.goto (4)) 3 [192] 0]
theorem cX9_isBlamed_180 : chk mX9_isBlamed 180 kX9_isBlamed_180 = true := by decide +kernel
def kX9_isBlamed_174 : List BI := [bi (.iinc 4 (1)) 3 [] 0, bi (.goto (-104)) 3 [73] 0]
theorem cX9_isBlamed_174 : chk mX9_isBlamed 174 kX9_isBlamed_174 = true := by decide +kernel
def kX9_isBlamed_143 : List BI := [bi (.aload_n 0) 1 [] 0, bi (.iconst 0) 1 [] 0, bi (.putfield 446) 3 [9, 49] 0, bi (.aload_n 0) 1 [] 0, bi (.iload 5) 2 [] 0, bi (.putfield 449) 3 [9, 48] 0, bi (.aload_n 0) 1 [] 0, bi (.aload_n 0) 1 [] 0, bi (.iload 4) 2 [] 0, bi (.invokevirtual 455) 3 [mX9_loansBy, 2, 4, 9] 0, bi (.putfield 458) 3 [9, 47] 0, bi (.aload_n 0) 1 [] 0, bi (.dup) 1 [] 0, bi (.getfield 446) 3 [9, 49] 0, bi (.iconst 1) 1 [] 0, bi (.iadd) 1 [] 0, bi (.putfield 446) 3 [9, 49] 0, bi (.iinc 4 (1)) 3 [] 0, bi (.goto (-104)) 3 [73] 0]
theorem cX9_isBlamed_143 : chk mX9_isBlamed 143 kX9_isBlamed_143 = true := by decide +kernel
def kX9_isBlamed_164 : List BI := [bi (.aload_n 0) 1 [] 0, bi (.dup) 1 [] 0, bi (.getfield 446) 3 [9, 49] 0, bi (.iconst 1) 1 [] 0, bi (.iadd) 1 [] 0, bi (.putfield 446) 3 [9, 49] 0, bi (.iinc 4 (1)) 3 [] 0, bi (.goto (-104)) 3 [73] 0]
theorem cX9_isBlamed_164 : chk mX9_isBlamed 164 kX9_isBlamed_164 = true := by decide +kernel
def kX9_isBlamed_127 : List BI := [bi (.aload_n 0) 1 [] 0, bi (.getfield 446) 3 [9, 49] 0, bi (.ifCond .eq (12)) 3 [143] 0, bi (.iload 5) 2 [] 0, bi (.aload_n 0) 1 [] 0, bi (.getfield 449) 3 [9, 48] 0, bi (.if_icmp .ge (24)) 3 [164] 0, bi (.aload_n 0) 1 [] 0, bi (.iconst 0) 1 [] 0, bi (.putfield 446) 3 [9, 49] 0, bi (.aload_n 0) 1 [] 0, bi (.iload 5) 2 [] 0, bi (.putfield 449) 3 [9, 48] 0, bi (.aload_n 0) 1 [] 0, bi (.aload_n 0) 1 [] 0, bi (.iload 4) 2 [] 0, bi (.invokevirtual 455) 3 [mX9_loansBy, 2, 4, 9] 0, bi (.putfield 458) 3 [9, 47] 0, bi (.aload_n 0) 1 [] 0, bi (.dup) 1 [] 0, bi (.getfield 446) 3 [9, 49] 0, bi (.iconst 1) 1 [] 0, bi (.iadd) 1 [] 0, bi (.putfield 446) 3 [9, 49] 0, bi (.iinc 4 (1)) 3 [] 0, bi (.goto (-104)) 3 [73] 0]
theorem cX9_isBlamed_127 : chk mX9_isBlamed 127 kX9_isBlamed_127 = true := by decide +kernel
def kX9_isBlamed_107 : List BI := [bi (.aload_n 0) 1 [] 0, bi (.iload_n 1) 1 [] 0, bi (.iload_n 3) 1 [] 0, bi (.aload_n 0) 1 [] 0, bi (.iload 4) 2 [] 0, bi (.invokevirtual 452) 3 [mX9_stepsBy, 2, 4, 9] 0, bi (.ior) 1 [] 0, bi (.iload_n 2) 1 [] 0, bi (.invokevirtual 364) 3 [mX9_reachesTop, 4, 4, 9] 0, bi (.ifCond .ne (6)) 3 [127] 0, bi (.goto (50)) 3 [174] 0]
theorem cX9_isBlamed_107 : chk mX9_isBlamed 107 kX9_isBlamed_107 = true := by decide +kernel
def kX9_isBlamed_73 : List BI := [bi (.iload 4) 2 [] 0, bi (.iconst 1) 1 [] 0, bi (.aload_n 0) 1 [] 0, bi (.getfield 443) 3 [9, 46] 0, bi (.ishl) 1 [] 0, bi (.if_icmp .ge (99)) 3 [180] 0, bi (.iload 4) 2 [] 0, bi (.invokestatic 374) 3 [mX9_bits, 1, 3] 0, bi (.istore 5) 2 [] 0, bi (.aload_n 0) 1 [] 0, bi (.getfield 446) 3 [9, 49] 0, bi (.ifCond .le (12)) 3 [107] 0, bi (.iload 5) 2 [] 0, bi (.aload_n 0) 1 [] 0, bi (.getfield 449) 3 [9, 48] 0, bi (.if_icmp .gt (70)) 3 [174] 0, bi (.aload_n 0) 1 [] 0, bi (.iload_n 1) 1 [] 0, bi (.iload_n 3) 1 [] 0, bi (.aload_n 0) 1 [] 0, bi (.iload 4) 2 [] 0, bi (.invokevirtual 452) 3 [mX9_stepsBy, 2, 4, 9] 0, bi (.ior) 1 [] 0, bi (.iload_n 2) 1 [] 0, bi (.invokevirtual 364) 3 [mX9_reachesTop, 4, 4, 9] 0, bi (.ifCond .ne (6)) 3 [127] 0, bi (.goto (50)) 3 [174] 0]
theorem cX9_isBlamed_73 : chk mX9_isBlamed 73 kX9_isBlamed_73 = true := by decide +kernel
theorem mib_73 {d : Nat} {σ : SG} {Q : Option AV → SG → Prop} {t lg l3 l4 : Int} (h : (0 ≤ (σ 42 46) ∧ (σ 42 46) < 32) ∧ (r3 l4 ∧ r3 (1 * 2 ^ Int.toNat (σ 42 46))) ∧ ((1 * 2 ^ Int.toNat (σ 42 46)) ≤ l4 → (r3 (σ 42 49)) ∧ ((σ 42 49) ≤ 0 → Q (some (.inl 0)) σ) ∧ (0 < (σ 42 49) → Q (some (.inl 1)) σ)) ∧ (l4 < (1 * 2 ^ Int.toNat (σ 42 46)) → (0 < d) ∧ (0 ≤ l4 ∧ l4 < 16777216) ∧ (r3 (σ 42 49)) ∧ ((σ 42 49) ≤ 0 → (0 < d) ∧ (1 ≤ d - 1 ∧ OWO σ ∧ MLR (σ 69) ∧ 0 ≤ l4 ∧ l4 < 16777216) ∧ (0 < d) ∧ (0 < d - 1) ∧ (higO (d - 1 - 1) σ t (bor l3 (stB (σ 69) (σ 75) (σ 42 46) l4)) lg 0) ∧ (∀ f13 : Int → Int, (0 < d - 1) ∧ (0 ≤ (8 + (2 * t)) ∧ (8 + (2 * t)) < 16) ∧ (r3 (ropV (bor l3 (stB (σ 69) (σ 75) (σ 42 46) l4)) (σ 63 (8 + 2 * t)) lg 0) ∧ r3 (σ 63 (8 + (2 * t)))) ∧ ((ropV (bor l3 (stB (σ 69) (σ 75) (σ 42 46) l4)) (σ 63 (8 + 2 * t)) lg 0) ≠ (σ 63 (8 + (2 * t))) → AW d mX9_isBlamed 73 [some (.inr (.inr 42)), some (.inl t), some (.inl lg), some (.inl l3), some (.inl (l4 + 1)), none] [] (putF σ 70 f13) Q) ∧ ((ropV (bor l3 (stB (σ 69) (σ 75) (σ 42 46) l4)) (σ 63 (8 + 2 * t)) lg 0) = (σ 63 (8 + (2 * t))) → (r3 (σ 42 49)) ∧ ((σ 42 49) = 0 → (∀ S14 : SG, S14 = up (putF σ 70 f13) 42 49 0 → (∀ S15 : SG, S15 = up S14 42 48 (popc l4) → (0 < d) ∧ (OWO S15 ∧ 0 ≤ l4 ∧ l4 < 16777216) ∧ (∀ S16 : SG, S16 = up S15 42 47 ((lbN (S15 75) (S15 42 46).toNat l4.toNat : Nat) : Int) → (∀ S17 : SG, S17 = up S16 42 49 ((S16 42 49) + 1) → AW d mX9_isBlamed 73 [some (.inr (.inr 42)), some (.inl t), some (.inl lg), some (.inl l3), some (.inl (l4 + 1)), none] [] S17 Q))))) ∧ ((σ 42 49) ≠ 0 → (r3 (popc l4) ∧ r3 (σ 42 48)) ∧ ((σ 42 48) ≤ (popc l4) → (∀ S18 : SG, S18 = up (putF σ 70 f13) 42 49 ((σ 42 49) + 1) → AW d mX9_isBlamed 73 [some (.inr (.inr 42)), some (.inl t), some (.inl lg), some (.inl l3), some (.inl (l4 + 1)), none] [] S18 Q)) ∧ ((popc l4) < (σ 42 48) → (∀ S19 : SG, S19 = up (putF σ 70 f13) 42 49 0 → (∀ S20 : SG, S20 = up S19 42 48 (popc l4) → (0 < d) ∧ (OWO S20 ∧ 0 ≤ l4 ∧ l4 < 16777216) ∧ (∀ S21 : SG, S21 = up S20 42 47 ((lbN (S20 75) (S20 42 46).toNat l4.toNat : Nat) : Int) → (∀ S22 : SG, S22 = up S21 42 49 ((S21 42 49) + 1) → AW d mX9_isBlamed 73 [some (.inr (.inr 42)), some (.inl t), some (.inl lg), some (.inl l3), some (.inl (l4 + 1)), none] [] S22 Q))))))))) ∧ (0 < (σ 42 49) → (r3 (popc l4) ∧ r3 (σ 42 48)) ∧ ((σ 42 48) < (popc l4) → AW d mX9_isBlamed 73 [some (.inr (.inr 42)), some (.inl t), some (.inl lg), some (.inl l3), some (.inl (l4 + 1)), none] [] σ Q) ∧ ((popc l4) ≤ (σ 42 48) → (0 < d) ∧ (1 ≤ d - 1 ∧ OWO σ ∧ MLR (σ 69) ∧ 0 ≤ l4 ∧ l4 < 16777216) ∧ (0 < d) ∧ (0 < d - 1) ∧ (higO (d - 1 - 1) σ t (bor l3 (stB (σ 69) (σ 75) (σ 42 46) l4)) lg 0) ∧ (∀ f26 : Int → Int, (0 < d - 1) ∧ (0 ≤ (8 + (2 * t)) ∧ (8 + (2 * t)) < 16) ∧ (r3 (ropV (bor l3 (stB (σ 69) (σ 75) (σ 42 46) l4)) (σ 63 (8 + 2 * t)) lg 0) ∧ r3 (σ 63 (8 + (2 * t)))) ∧ ((ropV (bor l3 (stB (σ 69) (σ 75) (σ 42 46) l4)) (σ 63 (8 + 2 * t)) lg 0) ≠ (σ 63 (8 + (2 * t))) → AW d mX9_isBlamed 73 [some (.inr (.inr 42)), some (.inl t), some (.inl lg), some (.inl l3), some (.inl (l4 + 1)), none] [] (putF σ 70 f26) Q) ∧ ((ropV (bor l3 (stB (σ 69) (σ 75) (σ 42 46) l4)) (σ 63 (8 + 2 * t)) lg 0) = (σ 63 (8 + (2 * t))) → (r3 (σ 42 49)) ∧ ((σ 42 49) = 0 → (∀ S27 : SG, S27 = up (putF σ 70 f26) 42 49 0 → (∀ S28 : SG, S28 = up S27 42 48 (popc l4) → (0 < d) ∧ (OWO S28 ∧ 0 ≤ l4 ∧ l4 < 16777216) ∧ (∀ S29 : SG, S29 = up S28 42 47 ((lbN (S28 75) (S28 42 46).toNat l4.toNat : Nat) : Int) → (∀ S30 : SG, S30 = up S29 42 49 ((S29 42 49) + 1) → AW d mX9_isBlamed 73 [some (.inr (.inr 42)), some (.inl t), some (.inl lg), some (.inl l3), some (.inl (l4 + 1)), none] [] S30 Q))))) ∧ ((σ 42 49) ≠ 0 → (r3 (popc l4) ∧ r3 (σ 42 48)) ∧ ((σ 42 48) ≤ (popc l4) → (∀ S31 : SG, S31 = up (putF σ 70 f26) 42 49 ((σ 42 49) + 1) → AW d mX9_isBlamed 73 [some (.inr (.inr 42)), some (.inl t), some (.inl lg), some (.inl l3), some (.inl (l4 + 1)), none] [] S31 Q)) ∧ ((popc l4) < (σ 42 48) → (∀ S32 : SG, S32 = up (putF σ 70 f26) 42 49 0 → (∀ S33 : SG, S33 = up S32 42 48 (popc l4) → (0 < d) ∧ (OWO S33 ∧ 0 ≤ l4 ∧ l4 < 16777216) ∧ (∀ S34 : SG, S34 = up S33 42 47 ((lbN (S33 75) (S33 42 46).toNat l4.toNat : Nat) : Int) → (∀ S35 : SG, S35 = up S34 42 49 ((S34 42 49) + 1) → AW d mX9_isBlamed 73 [some (.inr (.inr 42)), some (.inl t), some (.inl lg), some (.inl l3), some (.inl (l4 + 1)), none] [] S35 Q)))))))))))) : AW d mX9_isBlamed 73 [some (.inr (.inr 42)), some (.inl t), some (.inl lg), some (.inl l3), some (.inl l4), none] [] σ Q := AW.blk kX9_isBlamed_73 cX9_isBlamed_73 (⟨⟨((h).1).1, ((h).1).2⟩, ⟨⟨(((h).2).1).1, (((h).2).1).2⟩, ⟨fun c41 => AW.blk kX9_isBlamed_180 cX9_isBlamed_180 (⟨((((h).2).2).1 c41).1, ⟨fun c12 => AW.blk kX9_isBlamed_191 cX9_isBlamed_191 (⟨(by decide), (((((h).2).2).1 c41).2).1 c12⟩), fun c12 => AW.blk kX9_isBlamed_192 cX9_isBlamed_192 (⟨(by decide), (((((h).2).2).1 c41).2).2 c12⟩)⟩⟩), fun c41 => ⟨((((h).2).2).2 c41).1, mbits2_ok ⟨(((((h).2).2).2 c41).2).1, ⟨((((((h).2).2).2 c41).2).2).1, ⟨fun c40 => AW.blk kX9_isBlamed_107 cX9_isBlamed_107 (⟨((((((((h).2).2).2 c41).2).2).2).1 c40).1, stepsBy_ok ⟨(((((((((h).2).2).2 c41).2).2).2).1 c40).2).1, ⟨((((((((((h).2).2).2 c41).2).2).2).1 c40).2).2).1, AW.blk kX9_reachesTop_0 cX9_reachesTop_0 (⟨(((((((((((h).2).2).2 c41).2).2).2).1 c40).2).2).2).1, mhigh_ok ⟨((((((((((((h).2).2).2 c41).2).2).2).1 c40).2).2).2).2).1, fun f13 => ⟨((((((((((((((h).2).2).2 c41).2).2).2).1 c40).2).2).2).2).2 f13)).1, AW.blk kX9_stepsOf_0 cX9_stepsOf_0 (⟨⟨((((((((((((((((h).2).2).2 c41).2).2).2).1 c40).2).2).2).2).2 f13)).2).1).1, ((((((((((((((((h).2).2).2 c41).2).2).2).1 c40).2).2).2).2).2 f13)).2).1).2⟩, ⟨⟨(((((((((((((((((h).2).2).2 c41).2).2).2).1 c40).2).2).2).2).2 f13)).2).2).1).1, (((((((((((((((((h).2).2).2 c41).2).2).2).1 c40).2).2).2).2).2 f13)).2).2).1).2⟩, ⟨fun c25 => AW.blk kX9_reachesTop_20 cX9_reachesTop_20 (⟨(by decide), ⟨(by decide), ⟨fun c => absurd c (by decide), fun _ => AW.blk kX9_isBlamed_174 cX9_isBlamed_174 (AW.drop 5 ((((((((((((((((((h).2).2).2 c41).2).2).2).1 c40).2).2).2).2).2 f13)).2).2).2).1 c25))⟩⟩⟩), fun c25 => AW.blk kX9_reachesTop_21 cX9_reachesTop_21 (⟨(by decide), ⟨(by decide), ⟨fun _ => AW.blk kX9_isBlamed_127 cX9_isBlamed_127 (⟨((((((((((((((((((h).2).2).2 c41).2).2).2).1 c40).2).2).2).2).2 f13)).2).2).2).2 c25).1, ⟨fun c24 => AW.blk kX9_isBlamed_143 cX9_isBlamed_143 (⟨((((((((((((((((((((((h).2).2).2 c41).2).2).2).1 c40).2).2).2).2).2 f13)).2).2).2).2 c25).2).1 c24) _ rfl) _ rfl).1, loansBy_ok ⟨(((((((((((((((((((((((h).2).2).2 c41).2).2).2).1 c40).2).2).2).2).2 f13)).2).2).2).2 c25).2).1 c24) _ rfl) _ rfl).2).1, AW.drop 5 ((((((((((((((((((((((((((h).2).2).2 c41).2).2).2).1 c40).2).2).2).2).2 f13)).2).2).2).2 c25).2).1 c24) _ rfl) _ rfl).2).2) _ rfl) _ rfl)⟩⟩), fun c24 => ⟨⟨(((((((((((((((((((((h).2).2).2 c41).2).2).2).1 c40).2).2).2).2).2 f13)).2).2).2).2 c25).2).2 c24).1).1, (((((((((((((((((((((h).2).2).2 c41).2).2).2).1 c40).2).2).2).2).2 f13)).2).2).2).2 c25).2).2 c24).1).2⟩, ⟨fun c23 => AW.blk kX9_isBlamed_164 cX9_isBlamed_164 (AW.drop 5 (((((((((((((((((((((((h).2).2).2 c41).2).2).2).1 c40).2).2).2).2).2 f13)).2).2).2).2 c25).2).2 c24).2).1 c23) _ rfl)), fun c23 => ⟨((((((((((((((((((((((((h).2).2).2 c41).2).2).2).1 c40).2).2).2).2).2 f13)).2).2).2).2 c25).2).2 c24).2).2 c23) _ rfl) _ rfl).1, loansBy_ok ⟨(((((((((((((((((((((((((h).2).2).2 c41).2).2).2).1 c40).2).2).2).2).2 f13)).2).2).2).2 c25).2).2 c24).2).2 c23) _ rfl) _ rfl).2).1, AW.drop 5 ((((((((((((((((((((((((((((h).2).2).2 c41).2).2).2).1 c40).2).2).2).2).2 f13)).2).2).2).2 c25).2).2 c24).2).2 c23) _ rfl) _ rfl).2).2) _ rfl) _ rfl)⟩⟩⟩⟩⟩⟩), fun c => absurd c (by decide)⟩⟩⟩)⟩⟩⟩)⟩⟩⟩)⟩⟩⟩), fun c40 => ⟨⟨(((((((((h).2).2).2 c41).2).2).2).2 c40).1).1, (((((((((h).2).2).2 c41).2).2).2).2 c40).1).2⟩, ⟨fun c39 => AW.blk kX9_isBlamed_174 cX9_isBlamed_174 (AW.drop 5 ((((((((((h).2).2).2 c41).2).2).2).2 c40).2).1 c39)), fun c39 => ⟨((((((((((h).2).2).2 c41).2).2).2).2 c40).2).2 c39).1, stepsBy_ok ⟨(((((((((((h).2).2).2 c41).2).2).2).2 c40).2).2 c39).2).1, ⟨((((((((((((h).2).2).2 c41).2).2).2).2 c40).2).2 c39).2).2).1, AW.blk kX9_reachesTop_0 cX9_reachesTop_0 (⟨(((((((((((((h).2).2).2 c41).2).2).2).2 c40).2).2 c39).2).2).2).1, mhigh_ok ⟨((((((((((((((h).2).2).2 c41).2).2).2).2 c40).2).2 c39).2).2).2).2).1, fun f26 => ⟨((((((((((((((((h).2).2).2 c41).2).2).2).2 c40).2).2 c39).2).2).2).2).2 f26)).1, AW.blk kX9_stepsOf_0 cX9_stepsOf_0 (⟨⟨((((((((((((((((((h).2).2).2 c41).2).2).2).2 c40).2).2 c39).2).2).2).2).2 f26)).2).1).1, ((((((((((((((((((h).2).2).2 c41).2).2).2).2 c40).2).2 c39).2).2).2).2).2 f26)).2).1).2⟩, ⟨⟨(((((((((((((((((((h).2).2).2 c41).2).2).2).2 c40).2).2 c39).2).2).2).2).2 f26)).2).2).1).1, (((((((((((((((((((h).2).2).2 c41).2).2).2).2 c40).2).2 c39).2).2).2).2).2 f26)).2).2).1).2⟩, ⟨fun c38 => AW.blk kX9_reachesTop_20 cX9_reachesTop_20 (⟨(by decide), ⟨(by decide), ⟨fun c => absurd c (by decide), fun _ => AW.blk kX9_isBlamed_174 cX9_isBlamed_174 (AW.drop 5 ((((((((((((((((((((h).2).2).2 c41).2).2).2).2 c40).2).2 c39).2).2).2).2).2 f26)).2).2).2).1 c38))⟩⟩⟩), fun c38 => AW.blk kX9_reachesTop_21 cX9_reachesTop_21 (⟨(by decide), ⟨(by decide), ⟨fun _ => AW.blk kX9_isBlamed_127 cX9_isBlamed_127 (⟨((((((((((((((((((((h).2).2).2 c41).2).2).2).2 c40).2).2 c39).2).2).2).2).2 f26)).2).2).2).2 c38).1, ⟨fun c37 => AW.blk kX9_isBlamed_143 cX9_isBlamed_143 (⟨((((((((((((((((((((((((h).2).2).2 c41).2).2).2).2 c40).2).2 c39).2).2).2).2).2 f26)).2).2).2).2 c38).2).1 c37) _ rfl) _ rfl).1, loansBy_ok ⟨(((((((((((((((((((((((((h).2).2).2 c41).2).2).2).2 c40).2).2 c39).2).2).2).2).2 f26)).2).2).2).2 c38).2).1 c37) _ rfl) _ rfl).2).1, AW.drop 5 ((((((((((((((((((((((((((((h).2).2).2 c41).2).2).2).2 c40).2).2 c39).2).2).2).2).2 f26)).2).2).2).2 c38).2).1 c37) _ rfl) _ rfl).2).2) _ rfl) _ rfl)⟩⟩), fun c37 => ⟨⟨(((((((((((((((((((((((h).2).2).2 c41).2).2).2).2 c40).2).2 c39).2).2).2).2).2 f26)).2).2).2).2 c38).2).2 c37).1).1, (((((((((((((((((((((((h).2).2).2 c41).2).2).2).2 c40).2).2 c39).2).2).2).2).2 f26)).2).2).2).2 c38).2).2 c37).1).2⟩, ⟨fun c36 => AW.blk kX9_isBlamed_164 cX9_isBlamed_164 (AW.drop 5 (((((((((((((((((((((((((h).2).2).2 c41).2).2).2).2 c40).2).2 c39).2).2).2).2).2 f26)).2).2).2).2 c38).2).2 c37).2).1 c36) _ rfl)), fun c36 => ⟨((((((((((((((((((((((((((h).2).2).2 c41).2).2).2).2 c40).2).2 c39).2).2).2).2).2 f26)).2).2).2).2 c38).2).2 c37).2).2 c36) _ rfl) _ rfl).1, loansBy_ok ⟨(((((((((((((((((((((((((((h).2).2).2 c41).2).2).2).2 c40).2).2 c39).2).2).2).2).2 f26)).2).2).2).2 c38).2).2 c37).2).2 c36) _ rfl) _ rfl).2).1, AW.drop 5 ((((((((((((((((((((((((((((((h).2).2).2 c41).2).2).2).2 c40).2).2 c39).2).2).2).2).2 f26)).2).2).2).2 c38).2).2 c37).2).2 c36) _ rfl) _ rfl).2).2) _ rfl) _ rfl)⟩⟩⟩⟩⟩⟩), fun c => absurd c (by decide)⟩⟩⟩)⟩⟩⟩)⟩⟩⟩)⟩⟩⟩⟩⟩⟩⟩⟩⟩⟩⟩⟩)

