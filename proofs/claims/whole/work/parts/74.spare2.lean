/-! ===== the most steps that can be lent: all sets gone through ===== -/
def wv (s : Int) : Int := s - popc s * 16777216
theorem spB_max {σ : SG} {t st L fi : Int} : ∀ n : Nat, n ≤ 16384 → (0 ≤ foI (spB σ t st L fi) 0 (n : Int) ∧ (foI (spB σ t st L fi) 0 (n : Int) = 0 ∨ foI (spB σ t st L fi) 0 (n : Int) < n)) ∧ (foI (spB σ t st L fi) 0 (n : Int) = 0 ∨ (band (foI (spB σ t st L fi) 0 (n : Int)) (bxor L (-1)) = 0 ∧ mhV σ t (bor (band st (bxor (foI (spB σ t st L fi) 0 (n : Int)) (-1))) fi) ≠ 0)) ∧ ∀ s, 0 ≤ s → s < (n : Int) → band s (bxor L (-1)) = 0 ∧ mhV σ t (bor (band st (bxor s (-1))) fi) ≠ 0 → wv (foI (spB σ t st L fi) 0 (n : Int)) ≤ wv s := by
  intro n
  induction n with
  | zero => intro _; exact ⟨⟨Int.le_refl 0, Or.inl rfl⟩, Or.inl rfl, fun s a b => by omega⟩
  | succ n ih =>
    intro hn
    obtain ⟨i1, i2, i3⟩ := ih (by omega)
    rw [show ((n + 1 : Nat) : Int) = (n : Int) + 1 by omega, foI_s _ _ (by omega)]
    generalize foI (spB σ t st L fi) 0 (n : Int) = b at *
    have hpn := popc_16 (x := (n : Int)) (by omega)
    have hpb := popc_16 (x := b) (by omega)
    unfold spB
    by_cases hv : band (n : Int) (bxor L (-1)) = 0 ∧ mhV σ t (bor (band st (bxor (n : Int) (-1))) fi) ≠ 0
    · by_cases hc : popc b < popc (n : Int)
      · rw [if_pos ⟨hv.1, hc, hv.2⟩]
        refine ⟨by omega, Or.inr hv, fun s s0 s1 hs => ?_⟩
        by_cases hsn : s = n
        · rw [hsn]
          exact Int.le_refl _
        · have := i3 s s0 (by omega) hs
          unfold wv at *
          omega
      · rw [if_neg (fun z => hc z.2.1)]
        refine ⟨by omega, i2, fun s s0 s1 hs => ?_⟩
        by_cases hsn : s = n
        · rw [hsn]
          unfold wv
          omega
        · exact i3 s s0 (by omega) hs
    · rw [if_neg (fun z => hv ⟨z.1, z.2.2⟩)]
      refine ⟨by omega, i2, fun s s0 s1 hs => ?_⟩
      by_cases hsn : s = n
      · subst hsn
        exact absurd hs hv
      · exact i3 s s0 (by omega) hs
theorem lt_bits {y : Int} (hy : 0 ≤ y ∧ y < 16384) {n : Int} (n0 : 0 ≤ n) (n1 : n ≤ 14) (h : ∀ k, tb y k = true → (k : Int) < n) : y < 2 ^ n.toNat := by
  have key : ∀ m : Nat, n + m ≤ 14 → lo2 y (n + m) = lo2 y n := by
    intro m
    induction m with
    | zero => intro _; rw [show n + ((0 : Nat) : Int) = n by omega]
    | succ m ih =>
      intro hm
      rw [show n + ((m + 1 : Nat) : Int) = n + m + 1 by omega, lo2_s hy (by omega) (by omega), ih (by omega), if_neg, Int.add_zero]
      intro z
      have := h _ z
      omega
  have k := key (14 - n).toNat (by omega)
  rw [show n + (((14 - n).toNat : Nat) : Int) = 14 by omega, lo2_14 hy] at k
  rw [k]
  exact (lo2_r y n0 n1).2
theorem sub_tb {s L : Int} (hs : 0 ≤ s ∧ s < 16384) : band s (bxor L (-1)) = 0 ↔ ∀ k, tb s k = true → tb L k = true := by
  constructor
  · intro z k hk
    have hk32 : k < 32 := by
      by_cases c : k < 32
      · exact c
      · rw [tb_big (by omega)] at hk
        cases hk
    have := tb_band s (bxor L (-1)) k
    rw [z, tb_zero, tb_bxor, tb_m1 hk32, hk, Bool.true_and, Bool.xor_true] at this
    simpa using this.symm
  · intro h
    refine band_dis hs (fun k hk => ?_)
    have hk32 : k < 32 := by
      by_cases c : k < 32
      · exact c
      · rw [tb_big (by omega)] at hk
        cases hk
    rw [tb_bxor, tb_m1 hk32, h k hk]
    rfl
theorem tb_lt {x : Int} (hx : 0 ≤ x ∧ x < 16384) {k : Nat} (h : tb x k = true) : k < 14 := by
  by_cases c : k < 14
  · exact c
  · exfalso
    unfold tb at h
    rw [un_of hx.1 (by omega), Nat.testBit_lt_two_pow (Nat.lt_of_lt_of_le (m := 2 ^ 14) (by omega) (Nat.pow_le_pow_right (by decide) (by omega)))] at h
    cases h
theorem left_tb {L s : Int} (k : Nat) (hk : k < 32) : tb (band L (bxor s (-1))) k = (tb L k && !tb s k) := by
  rw [tb_band, tb_bxor, tb_m1 hk, Bool.xor_true]
theorem split_L {L s : Int} (hL : 0 ≤ L ∧ L < 16384) (hs : 0 ≤ s ∧ s < 16384) (h : ∀ k, tb s k = true → tb L k = true) : L = s + band L (bxor s (-1)) ∧ popc L = popc s + popc (band L (bxor s (-1))) := by
  refine popc_sub hL hs (band_r hL) (fun k hk => ?_)
  rw [left_tb k (by omega)]
  cases hl : tb L k
  · right
    refine ⟨rfl, ?_, rfl⟩
    cases hz : tb s k
    · rfl
    · rw [h k hz] at hl
      cases hl
  · left
    refine ⟨rfl, ?_⟩
    cases hz : tb s k
    · exact Or.inr ⟨rfl, rfl⟩
    · exact Or.inl ⟨rfl, rfl⟩
/-- the reference's spareSet: what the class finds by the least sum -/
theorem spare_eq {σ : SG} (hG : MGR σ) {t th fi ht lg : Int} (hht : σ 63 (8 + 2 * t) = ht) (hh : 3 ≤ ht ∧ ht ≤ 14) (hth : 0 ≤ th ∧ th < 16384) (hfi : 0 ≤ fi ∧ fi < 16384) (htb : ∀ k, tb th k = true → (k : Int) < ht) (hlg : foI (mlgB (σ 64) t) (-1) (σ 61 5) = lg) (hl : 1 ≤ lg) (hheld : climbV (bor th fi) ht lg 0 = ht) : dpV (kpP th fi ht) lg ht ht ≠ -1 ∧ foI (spB σ t (bor th fi) (band th (bxor (1 * 2 ^ Int.toNat (ht - 1)) (-1))) fi) 0 (1 * 2 ^ Int.toNat (ht - 1)) = band (band th (bxor (1 * 2 ^ Int.toNat (ht - 1)) (-1))) (bxor (band (-(dpV (kpP th fi ht) lg ht ht)) 16777215) (-1)) := by
  have hmh : ∀ x, mhV σ t x ≠ 0 ↔ climbV x ht lg 0 = ht := by
    intro x
    rw [mhV_hld hG (by omega), hht, hlg]
    unfold hldV
    constructor
    · intro z
      by_cases c : lg = -1 ∨ climbV x ht lg 0 = ht
      · rcases c with c | c
        · omega
        · exact c
      · rw [if_neg c] at z
        exact absurd rfl z
    · intro z
      rw [if_pos (Or.inr z)]
      decide
  have hp := pow2_r (s := ht - 1) (by omega) (by omega)
  have hp2 := pow2_r (s := ht) (by omega) (by omega)
  have hpp : (2 : Int) ^ ht.toNat = 2 ^ (ht - 1).toNat * 2 := by rw [show ht.toNat = (ht - 1).toNat + 1 by omega, Int.pow_succ]
  have tbL : ∀ k, k < 32 → tb (band th (bxor (1 * 2 ^ Int.toNat (ht - 1)) (-1))) k = (tb th k && !decide ((ht - 1).toNat = k)) := fun k hk => tb_clr (by omega) hk
  have hLr : 0 ≤ band th (bxor (1 * 2 ^ Int.toNat (ht - 1)) (-1)) ∧ band th (bxor (1 * 2 ^ Int.toNat (ht - 1)) (-1)) < 16384 := band_r hth
  generalize band th (bxor (1 * 2 ^ Int.toNat (ht - 1)) (-1)) = L at *
  have L1 : ∀ k, tb L k = true → tb th k = true ∧ k ≠ (ht - 1).toNat := by
    intro k hk
    have h14 := tb_lt hLr hk
    rw [tbL k (by omega), Bool.and_eq_true, Bool.not_eq_true', decide_eq_false_iff_not] at hk
    exact ⟨hk.1, fun z => hk.2 z.symm⟩
  have L2 : ∀ k, tb th k = true → k ≠ (ht - 1).toNat → tb L k = true := by
    intro k hk hne
    have h14 := tb_lt hth hk
    rw [tbL k (by omega), hk, decide_eq_false (fun z => hne z.symm)]
    rfl
  have hLb : L < 2 ^ (ht - 1).toNat := lt_bits hLr (by omega) (by omega) (fun k hk => by
    have q := L1 k hk
    have := htb k q.1
    omega)
  have htop : tb (bor th fi) (ht - 1).toNat = true := by
    have f := climb_facts (S := sdS (bor th fi)) (lg := lg) (fr := 0) (ht := ht) (a := ht) (by omega) hheld
    exact f.2.2.1.resolve_left (by omega)
  have tbX : ∀ s k, k < 32 → tb (bor (band (bor th fi) (bxor s (-1))) fi) k = (((tb th k || tb fi k) && !tb s k) || tb fi k) := by
    intro s k hk
    rw [tb_bor, left_tb k hk, tb_bor]
  have kA : ∀ s, 0 ≤ s ∧ s < 16384 → (∀ k, tb s k = true → tb L k = true) → climbV (bor (band (bor th fi) (bxor s (-1))) fi) ht lg 0 = ht → dpV (kpP th fi ht) lg ht ht ≠ -1 ∧ dpV (kpP th fi ht) lg ht ht ≤ ws (band L (bxor s (-1))) := by
    intro s hs hsub hc
    have hmr : 0 ≤ band L (bxor s (-1)) ∧ band L (bxor s (-1)) < 16384 := band_r hLr
    have hle : band L (bxor s (-1)) ≤ L := band_le_l hLr.1 (by omega)
    have := keep_A (th := th) (fi := fi) (ht := ht) (lg := lg) (X := bor (band (bor th fi) (bxor s (-1))) fi) (m := band L (bxor s (-1))) (by omega) (by omega) hmr (fun u u0 u1 hu => by
      unfold sdS at hu
      rw [tbX s _ (by omega), Bool.or_eq_true, Bool.and_eq_true, Bool.or_eq_true] at hu
      rcases hu with ⟨hu | hu, hn⟩ | hu
      · by_cases hut : u = ht
        · exact Or.inr (Or.inl hut)
        · right
          right
          refine ⟨?_, hu⟩
          rw [left_tb _ (by omega), L2 _ hu (by omega), hn]
          rfl
      · exact Or.inl hu
      · exact Or.inl hu) hc
    rwa [lo2_eq hmr.1 (by omega)] at this
  have hX0 : climbV (bor (band (bor th fi) (bxor 0 (-1))) fi) ht lg 0 = ht := by
    have e : bor (band (bor th fi) (bxor 0 (-1))) fi = bor th fi := by
      have hb := bor_r hth hfi
      have hb2 := bor_r (band_r (y := bxor 0 (-1)) hb) hfi
      refine tb_eq hb2.1 (by omega) hb.1 (by omega) (fun k hk => ?_)
      rw [tbX 0 k hk, tb_zero, tb_bor]
      cases tb th k <;> cases tb fi k <;> rfl
    rw [e]
    exact hheld
  have hD := (kA 0 (by omega) (fun k hk => by rw [tb_zero] at hk; cases hk) hX0).1
  refine ⟨hD, ?_⟩
  obtain ⟨m, m0, m1, m2, m3, m4⟩ := keep_B (th := th) (fi := fi) (ht := ht) (lg := lg) (by omega) (by omega) ht.toNat ht (by omega) (by omega) (Int.le_refl _) hD
  have hmr : 0 ≤ m ∧ m < 16384 := by omega
  have mL : ∀ k, tb m k = true → tb L k = true := fun k hk => L2 k (m2 k hk).1 (m2 k hk).2
  have hxr : 0 ≤ band L (bxor m (-1)) ∧ band L (bxor m (-1)) < 16384 := band_r hLr
  have hxle : band L (bxor m (-1)) ≤ L := band_le_l hLr.1 (by omega)
  have hxs : ∀ k, tb (band L (bxor m (-1))) k = true → tb L k = true ∧ tb m k = false := by
    intro k hk
    have h14 := tb_lt hxr hk
    rw [left_tb k (by omega), Bool.and_eq_true, Bool.not_eq_true'] at hk
    exact hk
  have hxv : band (band L (bxor m (-1))) (bxor L (-1)) = 0 ∧ mhV σ t (bor (band (bor th fi) (bxor (band L (bxor m (-1))) (-1))) fi) ≠ 0 := by
    refine ⟨(sub_tb hxr).mpr (fun k hk => (hxs k hk).1), (hmh _).mpr (RC.climb (by omega) (m4.mono (fun u u0 u1 hu => ?_)))⟩
    unfold sdS
    rw [tbX _ _ (by omega)]
    rw [Bool.or_eq_true, Bool.or_eq_true, decide_eq_true_eq] at hu
    rcases hu with (hu | hu) | hu
    · rw [hu, Bool.or_true]
    · subst hu
      have nx : tb (band L (bxor m (-1))) (u - 1).toNat = false := by
        cases hz : tb (band L (bxor m (-1))) (u - 1).toNat
        · rfl
        · exact absurd rfl (L1 _ (hxs _ hz).1).2
      rw [tb_bor] at htop
      rw [htop, nx]
      rfl
    · have nx : tb (band L (bxor m (-1))) (u - 1).toNat = false := by
        cases hz : tb (band L (bxor m (-1))) (u - 1).toNat
        · rfl
        · rw [(hxs _ hz).2] at hu
          cases hu
      rw [(m2 _ hu).1, nx]
      rfl
  have hb := spB_max (σ := σ) (t := t) (st := bor th fi) (L := L) (fi := fi) (2 ^ (ht - 1).toNat) (by
    have : ((2 ^ (ht - 1).toNat : Nat) : Int) = (2 : Int) ^ (ht - 1).toNat := by push_cast; rfl
    omega)
  have en : ((2 ^ (ht - 1).toNat : Nat) : Int) = 1 * 2 ^ Int.toNat (ht - 1) := by push_cast; omega
  rw [en] at hb
  generalize foI (spB σ t (bor th fi) L fi) 0 (1 * 2 ^ Int.toNat (ht - 1)) = b at *
  obtain ⟨b1, b2, b3⟩ := hb
  have hbr : 0 ≤ b ∧ b < 16384 := by omega
  have bs : (∀ k, tb b k = true → tb L k = true) ∧ climbV (bor (band (bor th fi) (bxor b (-1))) fi) ht lg 0 = ht := by
    rcases b2 with b2 | b2
    · subst b2
      exact ⟨(fun k hk => by rw [tb_zero] at hk; cases hk), hX0⟩
    · exact ⟨(sub_tb hbr).mp b2.1, (hmh _).mp b2.2⟩
  have w1 := b3 _ hxr.1 (by omega) hxv
  have w2 := (kA b hbr bs.1 bs.2).2
  have q1 := split_L hLr hbr bs.1
  have q2 := split_L hLr hmr mL
  rw [m3] at w2
  have e24 : band (-(dpV (kpP th fi ht) lg ht ht)) 16777215 = m := by
    rw [m3]
    have hq : band (-(ws m)) 16777215 = (-(ws m)) % 16777216 := by
      unfold band
      rw [show un 16777215 = 2 ^ 24 - 1 from rfl, Nat.and_two_pow_sub_one_eq_mod]
      unfold un
      omega
    rw [hq]
    unfold ws
    omega
  rw [e24]
  generalize band L (bxor b (-1)) = mb at *
  generalize band L (bxor m (-1)) = x at *
  unfold ws at w2
  unfold wv at w1
  omega
/-- without guards all can be lent -/
theorem spare_all {σ : SG} (hG : MGR σ) {t th fi ht : Int} (hht : σ 63 (8 + 2 * t) = ht) (hh : 3 ≤ ht ∧ ht ≤ 14) (hth : 0 ≤ th ∧ th < 16384) (htb : ∀ k, tb th k = true → (k : Int) < ht) (hlg : foI (mlgB (σ 64) t) (-1) (σ 61 5) = -1) : foI (spB σ t (bor th fi) (band th (bxor (1 * 2 ^ Int.toNat (ht - 1)) (-1))) fi) 0 (1 * 2 ^ Int.toNat (ht - 1)) = band th (bxor (1 * 2 ^ Int.toNat (ht - 1)) (-1)) := by
  have hmh : ∀ x, mhV σ t x ≠ 0 := by
    intro x
    rw [mhV_hld hG (by omega), hht, hlg]
    unfold hldV
    rw [if_pos (Or.inl rfl)]
    decide
  have hp := pow2_r (s := ht - 1) (by omega) (by omega)
  have tbL : ∀ k, k < 32 → tb (band th (bxor (1 * 2 ^ Int.toNat (ht - 1)) (-1))) k = (tb th k && !decide ((ht - 1).toNat = k)) := fun k hk => tb_clr (by omega) hk
  have hLr : 0 ≤ band th (bxor (1 * 2 ^ Int.toNat (ht - 1)) (-1)) ∧ band th (bxor (1 * 2 ^ Int.toNat (ht - 1)) (-1)) < 16384 := band_r hth
  generalize band th (bxor (1 * 2 ^ Int.toNat (ht - 1)) (-1)) = L at *
  have hLb : L < 2 ^ (ht - 1).toNat := lt_bits hLr (by omega) (by omega) (fun k hk => by
    have h14 := tb_lt hLr hk
    rw [tbL k (by omega), Bool.and_eq_true, Bool.not_eq_true', decide_eq_false_iff_not] at hk
    have := htb k hk.1
    omega)
  have hb := spB_max (σ := σ) (t := t) (st := bor th fi) (L := L) (fi := fi) (2 ^ (ht - 1).toNat) (by
    have : ((2 ^ (ht - 1).toNat : Nat) : Int) = (2 : Int) ^ (ht - 1).toNat := by push_cast; rfl
    omega)
  have en : ((2 ^ (ht - 1).toNat : Nat) : Int) = 1 * 2 ^ Int.toNat (ht - 1) := by push_cast; omega
  rw [en] at hb
  generalize foI (spB σ t (bor th fi) L fi) 0 (1 * 2 ^ Int.toNat (ht - 1)) = b at *
  obtain ⟨b1, b2, b3⟩ := hb
  have hbr : 0 ≤ b ∧ b < 16384 := by omega
  have bs : ∀ k, tb b k = true → tb L k = true := by
    rcases b2 with b2 | b2
    · subst b2
      exact fun k hk => by rw [tb_zero] at hk; cases hk
    · exact (sub_tb hbr).mp b2.1
  have w1 := b3 L hLr.1 (by omega) ⟨(sub_tb hLr).mpr (fun k hk => hk), hmh _⟩
  have q1 := split_L hLr hbr bs
  have hmr : 0 ≤ band L (bxor b (-1)) ∧ band L (bxor b (-1)) < 16384 := band_r hLr
  have hpo : popc (band L (bxor b (-1))) = 0 → band L (bxor b (-1)) = 0 := by
    intro hz
    by_cases h0 : band L (bxor b (-1)) = 0
    · exact h0
    · exfalso
      have := (dr_ok (n := (band L (bxor b (-1))).toNat) (by omega) (by omega)).1
      unfold popc at hz
      rw [un_of hmr.1 (by omega)] at hz
      omega
  have hpn := popc_nn (band L (bxor b (-1)))
  generalize band L (bxor b (-1)) = mb at *
  unfold wv at w1
  by_cases hz : popc mb = 0
  · have := hpo hz
    omega
  · omega
