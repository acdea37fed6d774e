/-! ===== climbRoped of the class ===== -/
def kX8_climbRoped_0 : List BI := [bi (.iload_n 0) 1 [] 0, bi (.iload_n 1) 1 [] 0, bi (.iload_n 2) 1 [] 0, bi (.iconst 0) 1 [] 0, bi (.invokestatic 237) 3 [mX8_climb, 4, 6] 0, bi (.istore 4) 2 [] 0, bi (.iload 4) 2 [] 0, bi (.istore 5) 2 [] 0, bi (.iload_n 1) 1 [] 0, bi (.iload 4) 2 [] 0, bi (.iload_n 2) 1 [] 0, bi (.iadd) 1 [] 0, bi (.iload_n 3) 1 [] 0, bi (.iadd) 1 [] 0, bi (.invokestatic 314) 3 [1] 0, bi (.istore 6) 2 [] 0, bi (.iload 4) 2 [] 0, bi (.iconst 1) 1 [] 0, bi (.iadd) 1 [] 0, bi (.istore 7) 2 [] 0]
theorem cX8_climbRoped_0 : chk mX8_climbRoped 0 kX8_climbRoped_0 = true := by decide +kernel
theorem climbRoped_0 {d : Nat} {σ : SG} {Q : Option AV → SG → Prop} {sd ht lg rp : Int} (h : (0 < d) ∧ (clsO (d - 1) sd ht lg 0) ∧ (0 < d) ∧ (r3 ht ∧ r3 (((climbV sd ht lg 0) + lg) + rp)) ∧ AW d mX8_climbRoped 31 [some (.inl sd), some (.inl ht), some (.inl lg), none, none, some (.inl (climbV sd ht lg 0)), some (.inl (if (((climbV sd ht lg 0) + lg) + rp) < ht then (((climbV sd ht lg 0) + lg) + rp) else ht)), some (.inl ((climbV sd ht lg 0) + 1))] [] σ Q) : AW d mX8_climbRoped 0 [some (.inl sd), some (.inl ht), some (.inl lg), some (.inl rp), none, none, none, none] [] σ Q := AW.blk kX8_climbRoped_0 cX8_climbRoped_0 (⟨(h).1, climb_ok ⟨((h).2).1, ⟨(((h).2).2).1, ⟨⟨(((((h).2).2).2).1).1, (((((h).2).2).2).1).2⟩, ⟨rfl, AW.drop 3 (AW.drop 4 (((((h).2).2).2).2))⟩⟩⟩⟩⟩)
def kX8_climbRoped_58 : List BI := [bi (.iload_n 0) 1 [] 0, bi (.iload_n 1) 1 [] 0, bi (.iload_n 2) 1 [] 0, bi (.iload 5) 2 [] 0, bi (.invokestatic 237) 3 [mX8_climb, 4, 6] 0, bi (.ireturn) 1 [] 0]
theorem cX8_climbRoped_58 : chk mX8_climbRoped 58 kX8_climbRoped_58 = true := by decide +kernel
def kX8_climbRoped_52 : List BI := [bi (.iinc 7 (1)) 3 [] 0, bi (.goto (-24)) 3 [31] 0]
theorem cX8_climbRoped_52 : chk mX8_climbRoped 52 kX8_climbRoped_52 = true := by decide +kernel
def kX8_climbRoped_31 : List BI := [bi (.iload 7) 2 [] 0, bi (.iload 6) 2 [] 0, bi (.if_icmp .gt (23)) 3 [58] 0, bi (.iload_n 0) 1 [] 0, bi (.iload 7) 2 [] 0, bi (.invokestatic 178) 3 [mX8_bit, 1, 1] 0, bi (.iand) 1 [] 0, bi (.ifCond .eq (7)) 3 [52] 0, bi (.iload 7) 2 [] 0, bi (.istore 5) 2 [] 0, bi (.iinc 7 (1)) 3 [] 0, bi (.goto (-24)) 3 [31] 0]
theorem cX8_climbRoped_31 : chk mX8_climbRoped 31 kX8_climbRoped_31 = true := by decide +kernel
theorem climbRoped_31 {d : Nat} {σ : SG} {Q : Option AV → SG → Prop} {sd ht lg l5 l6 l7 : Int} (h : (r3 l7 ∧ r3 l6) ∧ (l6 < l7 → (0 < d) ∧ (clsO (d - 1) sd ht lg l5) ∧ Q (some (.inl (climbV sd ht lg l5))) σ) ∧ (l7 ≤ l6 → (0 < d) ∧ (0 ≤ (l7 - 1) ∧ (l7 - 1) < 32) ∧ (r3 (band sd (1 * 2 ^ Int.toNat (l7 - 1)))) ∧ ((band sd (1 * 2 ^ Int.toNat (l7 - 1))) = 0 → AW d mX8_climbRoped 31 [some (.inl sd), some (.inl ht), some (.inl lg), none, none, some (.inl l5), some (.inl l6), some (.inl (l7 + 1))] [] σ Q) ∧ ((band sd (1 * 2 ^ Int.toNat (l7 - 1))) ≠ 0 → AW d mX8_climbRoped 31 [some (.inl sd), some (.inl ht), some (.inl lg), none, none, some (.inl l7), some (.inl l6), some (.inl (l7 + 1))] [] σ Q))) : AW d mX8_climbRoped 31 [some (.inl sd), some (.inl ht), some (.inl lg), none, none, some (.inl l5), some (.inl l6), some (.inl l7)] [] σ Q := AW.blk kX8_climbRoped_31 cX8_climbRoped_31 (⟨⟨((h).1).1, ((h).1).2⟩, ⟨fun c2 => AW.blk kX8_climbRoped_58 cX8_climbRoped_58 (⟨(((h).2).1 c2).1, climb_ok ⟨((((h).2).1 c2).2).1, ((((h).2).1 c2).2).2⟩⟩), fun c2 => ⟨(((h).2).2 c2).1, AW.blk kX8_bit_0 cX8_bit_0 (⟨⟨(((((h).2).2 c2).2).1).1, (((((h).2).2 c2).2).1).2⟩, ⟨(((((h).2).2 c2).2).2).1, ⟨fun c1 => AW.blk kX8_climbRoped_52 cX8_climbRoped_52 (((((((h).2).2 c2).2).2).2).1 c1), fun c1 => ((((((h).2).2 c2).2).2).2).2 c1⟩⟩⟩)⟩⟩⟩)
theorem ropV_0 {sd ht lg : Int} (hh : 0 ≤ ht) (hl : 0 ≤ lg) : ropV sd ht lg 0 = climbV sd ht lg 0 := by
  unfold ropV
  generalize ea : climbV sd ht lg 0 = a
  obtain ⟨a0, a1, a2, a3, a4⟩ := climb_facts (S := sdS sd) (lg := lg) (fr := 0) (ht := ht) (a := a) hh (by rw [← ea]; rfl)
  generalize em : (if ht < a + lg + 0 then ht else a + lg + 0) = mx
  have hmx : mx ≤ ht ∧ mx ≤ a + lg ∧ a ≤ mx := by rw [← em]; split <;> omega
  obtain ⟨b0, b1, b2, b3⟩ := lnd_in (sdS sd) a (mx - a).toNat
  generalize lnd (sdS sd) a (mx - a).toNat = b at b0 b1 b2 b3
  have hb : b = a := by
    rcases b2 with z | z
    · exact z
    · by_cases hc : a < b
      · have := a4 b hc (by omega) z
        omega
      · omega
  subst hb
  exact clm_stay _ _ _ _ (fun s h1 h2 h3 => a4 s h1 (by omega) h3)
theorem climbRoped_ok {d : Nat} {σ : SG} {Q : Option AV → SG → Prop} {sd ht lg rp : Int} (h : (2 ≤ d ∧ 0 ≤ sd ∧ sd < 16384 ∧ 0 ≤ ht ∧ ht ≤ 14 ∧ 0 ≤ lg ∧ lg ≤ 6 ∧ 0 ≤ rp ∧ rp ≤ 6) ∧ Q (some (.inl (ropV sd ht lg rp))) σ) : AW d mX8_climbRoped 0 [some (.inl sd), some (.inl ht), some (.inl lg), some (.inl rp), none, none, none, none] [] σ Q := by
  obtain ⟨⟨hd, s0, s1, t0, t1, l0, l1, r0, r1⟩, hq⟩ := h
  unfold ropV at hq
  have hc := climbV_r (sd := sd) (ht := ht) (lg := lg) (fr := 0) t0
  refine climbRoped_0 ⟨by omega, by omega, by omega, by omega, ?_⟩
  generalize climbV sd ht lg 0 = a at hc hq ⊢
  generalize em : (if ht < a + lg + rp then ht else a + lg + rp) = mx at hq
  have em2 : (if a + lg + rp < ht then a + lg + rp else ht) = mx := by
    rw [← em]
    split <;> split <;> omega
  have hmx : mx ≤ ht ∧ a ≤ mx := by rw [← em]; split <;> omega
  rw [em2]
  have key := downInd (P := fun i => AW d mX8_climbRoped 31 [some (.inl sd), some (.inl ht), some (.inl lg), none, none, some (.inl (lnd (sdS sd) a i.toNat)), some (.inl mx), some (.inl (a + i + 1))] [] σ Q) (lo := 0) (hi := mx - a) (by omega) ?_ ?_
  · rw [show a + 0 + 1 = a + 1 by omega] at key
    exact key
  · have hl := lnd_in (sdS sd) a (mx - a).toNat
    exact climbRoped_31 ⟨by omega, fun _ => ⟨by omega, by omega, hq⟩, fun c => by omega⟩
  · intro i h0 h1 ih
    have hl := lnd_in (sdS sd) a i.toNat
    have es : lnd (sdS sd) a (i + 1).toNat = if sdS sd (a + i + 1) = true then a + i + 1 else lnd (sdS sd) a i.toNat := by
      rw [show (i + 1).toNat = i.toNat + 1 by omega]
      show (if sdS sd (a + ((i.toNat : Int) + 1)) = true then a + ((i.toNat : Int) + 1) else _) = _
      rw [show a + ((i.toNat : Int) + 1) = a + i + 1 by omega]
    have hb := band_pow0 (x := sd) (k := (a + i + 1 - 1).toNat) (by omega)
    rw [es, show a + (i + 1) + 1 = a + i + 1 + 1 by omega] at ih
    refine climbRoped_31 ⟨by omega, fun c => by omega, fun c => ⟨by omega, by omega, band_r3 s0 (by omega), fun c2 => ?_, fun c2 => ?_⟩⟩
    · rw [if_neg] at ih
      · exact ih
      · unfold sdS
        rw [hb.mp c2]
        decide
    · rw [if_pos] at ih
      · exact ih
      · unfold sdS
        cases hz : tb sd (a + i + 1 - 1).toNat
        · exact absurd (hb.mpr hz) c2
        · rfl
