/-! ===== regions of the small static methods (wip/whole/gen14.py) ===== -/
def kX8_climb_0 : List BI := [bi (.iload_n 3) 1 [] 0, bi (.istore 4) 2 [] 0, bi (.iload_n 3) 1 [] 0, bi (.iconst 1) 1 [] 0, bi (.iadd) 1 [] 0, bi (.istore 5) 2 [] 0]
theorem cX8_climb_0 : chk mX8_climb 0 kX8_climb_0 = true := by decide +kernel
theorem climb_0 {d : Nat} {σ : SG} {Q : Option AV → SG → Prop} {sd ht lg fr : Int} (h : AW d mX8_climb 8 [some (.inl sd), some (.inl ht), some (.inl lg), none, some (.inl fr), some (.inl (fr + 1))] [] σ Q) : AW d mX8_climb 0 [some (.inl sd), some (.inl ht), some (.inl lg), some (.inl fr), none, none] [] σ Q := AW.blk kX8_climb_0 cX8_climb_0 (AW.drop 3 (h))
def kX8_climb_43 : List BI := [bi (.iload 4) 2 [] 0, bi (.ireturn) 1 [] 0]
theorem cX8_climb_43 : chk mX8_climb 43 kX8_climb_43 = true := by decide +kernel
def kX8_climb_37 : List BI := [bi (.iinc 5 (1)) 3 [] 0, bi (.goto (-32)) 3 [8] 0]
theorem cX8_climb_37 : chk mX8_climb 37 kX8_climb_37 = true := by decide +kernel
def kX8_bit_0 : List BI := [bi (.iconst 1) 1 [] 0, bi (.iload_n 0) 1 [] 0, bi (.iconst 1) 1 [] 0, bi (.isub) 1 [] 0, bi (.ishl) 1 [] 0, bi (.ireturn) 1 [] 0]
theorem cX8_bit_0 : chk mX8_bit 0 kX8_bit_0 = true := by decide +kernel
def kX8_climb_8 : List BI := [bi (.iload 5) 2 [] 0, bi (.iload_n 1) 1 [] 0, bi (.if_icmp .gt (32)) 3 [43] 0, bi (.iload_n 0) 1 [] 0, bi (.iload 5) 2 [] 0, bi (.invokestatic 178) 3 [mX8_bit, 1, 1] 0, bi (.iand) 1 [] 0, bi (.ifCond .eq (16)) 3 [37] 0, bi (.iload 5) 2 [] 0, bi (.iload 4) 2 [] 0, bi (.isub) 1 [] 0, bi (.iload_n 2) 1 [] 0, bi (.if_icmp .gt (7)) 3 [37] 0, bi (.iload 5) 2 [] 0, bi (.istore 4) 2 [] 0, bi (.iinc 5 (1)) 3 [] 0, bi (.goto (-32)) 3 [8] 0]
theorem cX8_climb_8 : chk mX8_climb 8 kX8_climb_8 = true := by decide +kernel
theorem climb_8 {d : Nat} {σ : SG} {Q : Option AV → SG → Prop} {sd ht lg a s : Int} (h : (r3 s ∧ r3 ht) ∧ (ht < s → Q (some (.inl a)) σ) ∧ (s ≤ ht → (0 < d) ∧ (0 ≤ (s - 1) ∧ (s - 1) < 32) ∧ (r3 (band sd (1 * 2 ^ Int.toNat (s - 1)))) ∧ ((band sd (1 * 2 ^ Int.toNat (s - 1))) = 0 → AW d mX8_climb 8 [some (.inl sd), some (.inl ht), some (.inl lg), none, some (.inl a), some (.inl (s + 1))] [] σ Q) ∧ ((band sd (1 * 2 ^ Int.toNat (s - 1))) ≠ 0 → (r3 (s - a) ∧ r3 lg) ∧ (lg < (s - a) → AW d mX8_climb 8 [some (.inl sd), some (.inl ht), some (.inl lg), none, some (.inl a), some (.inl (s + 1))] [] σ Q) ∧ ((s - a) ≤ lg → AW d mX8_climb 8 [some (.inl sd), some (.inl ht), some (.inl lg), none, some (.inl s), some (.inl (s + 1))] [] σ Q)))) : AW d mX8_climb 8 [some (.inl sd), some (.inl ht), some (.inl lg), none, some (.inl a), some (.inl s)] [] σ Q := AW.blk kX8_climb_8 cX8_climb_8 (⟨⟨((h).1).1, ((h).1).2⟩, ⟨fun c3 => AW.blk kX8_climb_43 cX8_climb_43 (((h).2).1 c3), fun c3 => ⟨(((h).2).2 c3).1, AW.blk kX8_bit_0 cX8_bit_0 (⟨⟨(((((h).2).2 c3).2).1).1, (((((h).2).2 c3).2).1).2⟩, ⟨(((((h).2).2 c3).2).2).1, ⟨fun c2 => AW.blk kX8_climb_37 cX8_climb_37 (((((((h).2).2 c3).2).2).2).1 c2), fun c2 => ⟨⟨((((((((h).2).2 c3).2).2).2).2 c2).1).1, ((((((((h).2).2 c3).2).2).2).2 c2).1).2⟩, ⟨fun c1 => AW.blk kX8_climb_37 cX8_climb_37 (((((((((h).2).2 c3).2).2).2).2 c2).2).1 c1), fun c1 => ((((((((h).2).2 c3).2).2).2).2 c2).2).2 c1⟩⟩⟩⟩⟩)⟩⟩⟩)
/-- the step reached from fr, n steps further looked at -/
def clm (S : Int → Bool) (lg fr : Int) : Nat → Int
  | 0 => fr
  | n + 1 => if S (fr + (n + 1)) = true ∧ fr + (n + 1) - clm S lg fr n ≤ lg then fr + (n + 1) else clm S lg fr n
theorem clm_in (S : Int → Bool) (lg fr : Int) : ∀ n, fr ≤ clm S lg fr n ∧ clm S lg fr n ≤ fr + n
  | 0 => ⟨Int.le_refl _, by simp [clm]⟩
  | n + 1 => by
    have := clm_in S lg fr n
    unfold clm
    split <;> omega
def sdS (sd : Int) : Int → Bool := fun s => tb sd (s - 1).toNat
def climbV (sd ht lg fr : Int) : Int := clm (sdS sd) lg fr (ht - fr).toNat
abbrev clsO (d : Nat) (sd ht lg fr : Int) : Prop := 0 < d ∧ 0 ≤ sd ∧ sd ≤ 2147483647 ∧ 0 ≤ fr ∧ fr ≤ 100 ∧ 0 ≤ ht ∧ ht ≤ 30 ∧ 0 ≤ lg ∧ lg ≤ 100
theorem climb_ok {d : Nat} {σ : SG} {Q : Option AV → SG → Prop} {sd ht lg fr : Int} (h : clsO d sd ht lg fr ∧ Q (some (.inl (climbV sd ht lg fr))) σ) : AW d mX8_climb 0 [some (.inl sd), some (.inl ht), some (.inl lg), some (.inl fr), none, none] [] σ Q := by
  obtain ⟨⟨hd, h1, h2, h3, h4, h5, h6, h7, h8⟩, hq⟩ := h
  refine climb_0 ?_
  have key : ∀ (n k : Nat), (ht - fr).toNat = k + n → AW d mX8_climb 8 [some (.inl sd), some (.inl ht), some (.inl lg), none, some (.inl (clm (sdS sd) lg fr k)), some (.inl (fr + (k + 1)))] [] σ Q := by
    intro n
    induction n with
    | zero =>
      intro k hk
      refine climb_8 ⟨⟨by omega, by omega⟩, fun c => ?_, fun c => by omega⟩
      rw [climbV, hk] at hq
      exact hq
    | succ n ih =>
      intro k hk
      have hc := clm_in (sdS sd) lg fr k
      have hi := ih (k + 1) (by omega)
      have e : (fr + (((k + 1 : Nat) : Int) + 1)) = fr + ((k : Int) + 1) + 1 := by omega
      rw [e] at hi
      have hb := band_pow0 (x := sd) (k := (fr + ((k : Int) + 1) - 1).toNat) (by omega)
      refine climb_8 ⟨⟨by omega, by omega⟩, fun c => by omega, fun c => ⟨hd, ⟨by omega, by omega⟩, band_r3 h1 h2, fun c2 => ?_, fun c2 => ⟨⟨by omega, by omega⟩, fun c3 => ?_, fun c3 => ?_⟩⟩⟩
      · have e2 : clm (sdS sd) lg fr (k + 1) = clm (sdS sd) lg fr k := by
          rw [clm, if_neg]
          intro z
          have := hb.mp c2
          unfold sdS at z
          rw [this] at z
          exact absurd z.1 (by decide)
        rw [e2] at hi
        exact hi
      · have e2 : clm (sdS sd) lg fr (k + 1) = clm (sdS sd) lg fr k := by
          rw [clm, if_neg]
          intro z
          omega
        rw [e2] at hi
        exact hi
      · have e2 : clm (sdS sd) lg fr (k + 1) = fr + ((k : Int) + 1) := by
          rw [clm, if_pos]
          refine ⟨?_, c3⟩
          unfold sdS
          cases hz : tb sd (fr + ((k : Int) + 1) - 1).toNat
          · exact absurd (hb.mpr hz) c2
          · rfl
        rw [e2] at hi
        exact hi
  have h0 := key (ht - fr).toNat 0 (by omega)
  have e : fr + (((0 : Nat) : Int) + 1) = fr + 1 := by omega
  rw [e] at h0
  exact h0
