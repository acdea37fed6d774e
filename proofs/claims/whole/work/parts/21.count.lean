/-! ===== counting bits ===== -/
def kJ6_bitCount_0f7a4_0 : List BI := [bi (.iload_n 0) 1 [] 0, bi (.iload_n 0) 1 [] 0, bi (.iconst 1) 1 [] 0, bi (.iushr) 1 [] 0, bi (.ldc_w 265) 3 [] 1431655765, bi (.iand) 1 [] 0, bi (.isub) 1 [] 0, bi (.istore_n 0) 1 [] 0]
theorem cJ6_bitCount_0f7a4_0 : chk mJ6_bitCount_0f7a4 0 kJ6_bitCount_0f7a4_0 = true := by decide +kernel
theorem bitCount_0 {d : Nat} {σ : SG} {Q : Option AV → SG → Prop} {x : Int} (h : AW d mJ6_bitCount_0f7a4 10 [some (.inl (x - (band ((un x / 2 ^ Int.toNat 1 : Nat) : Int) 1431655765)))] [] σ Q) : AW d mJ6_bitCount_0f7a4 0 [some (.inl x)] [] σ Q := AW.blk kJ6_bitCount_0f7a4_0 cJ6_bitCount_0f7a4_0 (⟨⟨(by decide), (by decide)⟩, h⟩)
def kJ6_bitCount_0f7a4_10 : List BI := [bi (.iload_n 0) 1 [] 0, bi (.ldc_w 266) 3 [] 858993459, bi (.iand) 1 [] 0, bi (.iload_n 0) 1 [] 0, bi (.iconst 2) 1 [] 0, bi (.iushr) 1 [] 0, bi (.ldc_w 266) 3 [] 858993459, bi (.iand) 1 [] 0, bi (.iadd) 1 [] 0, bi (.istore_n 0) 1 [] 0]
theorem cJ6_bitCount_0f7a4_10 : chk mJ6_bitCount_0f7a4 10 kJ6_bitCount_0f7a4_10 = true := by decide +kernel
theorem bitCount_10 {d : Nat} {σ : SG} {Q : Option AV → SG → Prop} {l0 : Int} (h : AW d mJ6_bitCount_0f7a4 24 [some (.inl ((band l0 858993459) + (band ((un l0 / 2 ^ Int.toNat 2 : Nat) : Int) 858993459)))] [] σ Q) : AW d mJ6_bitCount_0f7a4 10 [some (.inl l0)] [] σ Q := AW.blk kJ6_bitCount_0f7a4_10 cJ6_bitCount_0f7a4_10 (⟨⟨(by decide), (by decide)⟩, h⟩)
def kJ6_bitCount_0f7a4_24 : List BI := [bi (.iload_n 0) 1 [] 0, bi (.iload_n 0) 1 [] 0, bi (.iconst 4) 1 [] 0, bi (.iushr) 1 [] 0, bi (.iadd) 1 [] 0, bi (.ldc_w 267) 3 [] 252645135, bi (.iand) 1 [] 0, bi (.istore_n 0) 1 [] 0]
theorem cJ6_bitCount_0f7a4_24 : chk mJ6_bitCount_0f7a4 24 kJ6_bitCount_0f7a4_24 = true := by decide +kernel
theorem bitCount_24 {d : Nat} {σ : SG} {Q : Option AV → SG → Prop} {l0 : Int} (h : AW d mJ6_bitCount_0f7a4 34 [some (.inl (band (l0 + ((un l0 / 2 ^ Int.toNat 4 : Nat) : Int)) 252645135))] [] σ Q) : AW d mJ6_bitCount_0f7a4 24 [some (.inl l0)] [] σ Q := AW.blk kJ6_bitCount_0f7a4_24 cJ6_bitCount_0f7a4_24 (⟨⟨(by decide), (by decide)⟩, h⟩)
def kJ6_bitCount_0f7a4_34 : List BI := [bi (.iload_n 0) 1 [] 0, bi (.iload_n 0) 1 [] 0, bi (.bipush (8)) 2 [] 0, bi (.iushr) 1 [] 0, bi (.iadd) 1 [] 0, bi (.istore_n 0) 1 [] 0]
theorem cJ6_bitCount_0f7a4_34 : chk mJ6_bitCount_0f7a4 34 kJ6_bitCount_0f7a4_34 = true := by decide +kernel
theorem bitCount_34 {d : Nat} {σ : SG} {Q : Option AV → SG → Prop} {l0 : Int} (h : AW d mJ6_bitCount_0f7a4 41 [some (.inl (l0 + ((un l0 / 2 ^ Int.toNat 8 : Nat) : Int)))] [] σ Q) : AW d mJ6_bitCount_0f7a4 34 [some (.inl l0)] [] σ Q := AW.blk kJ6_bitCount_0f7a4_34 cJ6_bitCount_0f7a4_34 (⟨⟨(by decide), (by decide)⟩, h⟩)
def kJ6_bitCount_0f7a4_41 : List BI := [bi (.iload_n 0) 1 [] 0, bi (.iload_n 0) 1 [] 0, bi (.bipush (16)) 2 [] 0, bi (.iushr) 1 [] 0, bi (.iadd) 1 [] 0, bi (.istore_n 0) 1 [] 0]
theorem cJ6_bitCount_0f7a4_41 : chk mJ6_bitCount_0f7a4 41 kJ6_bitCount_0f7a4_41 = true := by decide +kernel
theorem bitCount_41 {d : Nat} {σ : SG} {Q : Option AV → SG → Prop} {l0 : Int} (h : AW d mJ6_bitCount_0f7a4 48 [some (.inl (l0 + ((un l0 / 2 ^ Int.toNat 16 : Nat) : Int)))] [] σ Q) : AW d mJ6_bitCount_0f7a4 41 [some (.inl l0)] [] σ Q := AW.blk kJ6_bitCount_0f7a4_41 cJ6_bitCount_0f7a4_41 (⟨⟨(by decide), (by decide)⟩, h⟩)
def kJ6_bitCount_0f7a4_48 : List BI := [bi (.iload_n 0) 1 [] 0, bi (.bipush (63)) 2 [] 0, bi (.iand) 1 [] 0, bi (.ireturn) 1 [] 0]
theorem cJ6_bitCount_0f7a4_48 : chk mJ6_bitCount_0f7a4 48 kJ6_bitCount_0f7a4_48 = true := by decide +kernel
theorem bitCount_48 {d : Nat} {σ : SG} {Q : Option AV → SG → Prop} {l0 : Int} (h : Q (some (.inl (band l0 63))) σ) : AW d mJ6_bitCount_0f7a4 48 [some (.inl l0)] [] σ Q := AW.blk kJ6_bitCount_0f7a4_48 cJ6_bitCount_0f7a4_48 (h)
def kX9_bits_0 : List BI := [bi (.iconst 0) 1 [] 0, bi (.istore_n 1) 1 [] 0, bi (.iload_n 0) 1 [] 0, bi (.istore_n 2) 1 [] 0]
theorem cX9_bits_0 : chk mX9_bits 0 kX9_bits_0 = true := by decide +kernel
theorem mbits_0 {d : Nat} {σ : SG} {Q : Option AV → SG → Prop} {x : Int} (h : AW d mX9_bits 4 [none, some (.inl 0), some (.inl x)] [] σ Q) : AW d mX9_bits 0 [some (.inl x), none, none] [] σ Q := AW.blk kX9_bits_0 cX9_bits_0 (AW.drop 0 (h))
def kX9_bits_20 : List BI := [bi (.iload_n 1) 1 [] 0, bi (.ireturn) 1 [] 0]
theorem cX9_bits_20 : chk mX9_bits 20 kX9_bits_20 = true := by decide +kernel
def kX9_bits_4 : List BI := [bi (.iload_n 2) 1 [] 0, bi (.ifCond .eq (15)) 3 [20] 0, bi (.iinc 1 (1)) 3 [] 0, bi (.iload_n 2) 1 [] 0, bi (.iload_n 2) 1 [] 0, bi (.iconst 1) 1 [] 0, bi (.isub) 1 [] 0, bi (.iand) 1 [] 0, bi (.istore_n 2) 1 [] 0, bi (.goto (-13)) 3 [4] 0]
theorem cX9_bits_4 : chk mX9_bits 4 kX9_bits_4 = true := by decide +kernel
theorem mbits_4 {d : Nat} {σ : SG} {Q : Option AV → SG → Prop} {l1 l2 : Int} (h : (r3 l2) ∧ (l2 = 0 → Q (some (.inl l1)) σ) ∧ (l2 ≠ 0 → AW d mX9_bits 4 [none, some (.inl (l1 + 1)), some (.inl (band l2 (l2 - 1)))] [] σ Q)) : AW d mX9_bits 4 [none, some (.inl l1), some (.inl l2)] [] σ Q := AW.blk kX9_bits_4 cX9_bits_4 (⟨(h).1, ⟨fun c1 => AW.blk kX9_bits_20 cX9_bits_20 (((h).2).1 c1), fun c1 => ((h).2).2 c1⟩⟩)
def kX9_bitAt_0 : List BI := [bi (.iconst 0) 1 [] 0, bi (.istore_n 2) 1 [] 0, bi (.iconst 0) 1 [] 0, bi (.istore_n 3) 1 [] 0]
theorem cX9_bitAt_0 : chk mX9_bitAt 0 kX9_bitAt_0 = true := by decide +kernel
theorem mbitAt_0 {d : Nat} {σ : SG} {Q : Option AV → SG → Prop} {x k : Int} (h : AW d mX9_bitAt 4 [some (.inl x), some (.inl k), some (.inl 0), some (.inl 0)] [] σ Q) : AW d mX9_bitAt 0 [some (.inl x), some (.inl k), none, none] [] σ Q := AW.blk kX9_bitAt_0 cX9_bitAt_0 (h)
def kX9_bitAt_37 : List BI := [bi (.iconst (-1)) 1 [] 0, bi (.ireturn) 1 [] 0]
theorem cX9_bitAt_37 : chk mX9_bitAt 37 kX9_bitAt_37 = true := by decide +kernel
def kX9_bitAt_28 : List BI := [bi (.iinc 2 (1)) 3 [] 0, bi (.iinc 3 (1)) 3 [] 0, bi (.goto (-30)) 3 [4] 0]
theorem cX9_bitAt_28 : chk mX9_bitAt 28 kX9_bitAt_28 = true := by decide +kernel
def kX9_bitAt_21 : List BI := [bi (.iload_n 2) 1 [] 0, bi (.iload_n 1) 1 [] 0, bi (.if_icmp .ne (5)) 3 [28] 0, bi (.iload_n 3) 1 [] 0, bi (.ireturn) 1 [] 0]
theorem cX9_bitAt_21 : chk mX9_bitAt 21 kX9_bitAt_21 = true := by decide +kernel
def kX9_bitAt_31 : List BI := [bi (.iinc 3 (1)) 3 [] 0, bi (.goto (-30)) 3 [4] 0]
theorem cX9_bitAt_31 : chk mX9_bitAt 31 kX9_bitAt_31 = true := by decide +kernel
def kX9_bitAt_4 : List BI := [bi (.iload_n 3) 1 [] 0, bi (.bipush (24)) 2 [] 0, bi (.if_icmp .ge (30)) 3 [37] 0, bi (.iload_n 0) 1 [] 0, bi (.iload_n 3) 1 [] 0, bi (.ishr) 1 [] 0, bi (.iconst 1) 1 [] 0, bi (.iand) 1 [] 0, bi (.ifCond .ne (6)) 3 [21] 0, bi (.goto (13)) 3 [31] 0]
theorem cX9_bitAt_4 : chk mX9_bitAt 4 kX9_bitAt_4 = true := by decide +kernel
theorem mbitAt_4 {d : Nat} {σ : SG} {Q : Option AV → SG → Prop} {x k l2 l3 : Int} (h : (r3 l3) ∧ (24 ≤ l3 → Q (some (.inl ((-1)))) σ) ∧ (l3 < 24 → (0 ≤ l3 ∧ l3 < 32 ∧ r3 x) ∧ (r3 (band (x / 2 ^ Int.toNat l3) 1)) ∧ ((band (x / 2 ^ Int.toNat l3) 1) ≠ 0 → (r3 l2 ∧ r3 k) ∧ (l2 ≠ k → AW d mX9_bitAt 4 [some (.inl x), some (.inl k), some (.inl (l2 + 1)), some (.inl (l3 + 1))] [] σ Q) ∧ (l2 = k → Q (some (.inl l3)) σ)) ∧ ((band (x / 2 ^ Int.toNat l3) 1) = 0 → AW d mX9_bitAt 4 [some (.inl x), some (.inl k), some (.inl l2), some (.inl (l3 + 1))] [] σ Q))) : AW d mX9_bitAt 4 [some (.inl x), some (.inl k), some (.inl l2), some (.inl l3)] [] σ Q := AW.blk kX9_bitAt_4 cX9_bitAt_4 (⟨⟨(h).1, (by decide)⟩, ⟨fun c4 => AW.blk kX9_bitAt_37 cX9_bitAt_37 (((h).2).1 c4), fun c4 => ⟨⟨((((h).2).2 c4).1).1, (((((h).2).2 c4).1).2).1, (((((h).2).2 c4).1).2).2⟩, ⟨((((h).2).2 c4).2).1, ⟨fun c3 => AW.blk kX9_bitAt_21 cX9_bitAt_21 (⟨⟨(((((((h).2).2 c4).2).2).1 c3).1).1, (((((((h).2).2 c4).2).2).1 c3).1).2⟩, ⟨fun c2 => AW.blk kX9_bitAt_28 cX9_bitAt_28 ((((((((h).2).2 c4).2).2).1 c3).2).1 c2), fun c2 => (((((((h).2).2 c4).2).2).1 c3).2).2 c2⟩⟩), fun c3 => AW.blk kX9_bitAt_31 cX9_bitAt_31 ((((((h).2).2 c4).2).2).2 c3)⟩⟩⟩⟩⟩)
/-- how many bits -/
def pcN : Nat → Nat → Nat
  | 0, _ => 0
  | f + 1, n => n % 2 + pcN f (n / 2)
def popc (x : Int) : Int := (pcN 32 (un x) : Int)
def bc1 (x : Int) : Int := x - band ((un x / 2 ^ Int.toNat 1 : Nat) : Int) 1431655765
def bc2 (x : Int) : Int := band x 858993459 + band ((un x / 2 ^ Int.toNat 2 : Nat) : Int) 858993459
def bc3 (x : Int) : Int := band (x + ((un x / 2 ^ Int.toNat 4 : Nat) : Int)) 252645135
def bc4 (x : Int) : Int := x + ((un x / 2 ^ Int.toNat 8 : Nat) : Int)
def bc5 (x : Int) : Int := x + ((un x / 2 ^ Int.toNat 16 : Nat) : Int)
def bcV (x : Int) : Int := band (bc5 (bc4 (bc3 (bc2 (bc1 x))))) 63
def bn1 (n : Nat) : Nat := n - (n / 2 &&& 1431655765)
def bn2 (n : Nat) : Nat := (n &&& 858993459) + (n / 4 &&& 858993459)
def bn3 (n : Nat) : Nat := (n + n / 16) &&& 252645135
def bn4 (n : Nat) : Nat := n + n / 256
def bn5 (n : Nat) : Nat := n + n / 65536
def bcN (n : Nat) : Nat := bn5 (bn4 (bn3 (bn2 (bn1 n)))) &&& 63
theorem bc_c0 : (List.range 16).all (fun a => (List.range 128).all (fun b => Nat.beq (bcN (0 + 128 * a + b)) (pcN 14 (0 + 128 * a + b)))) = true := by decide +kernel
theorem bc_c1 : (List.range 16).all (fun a => (List.range 128).all (fun b => Nat.beq (bcN (2048 + 128 * a + b)) (pcN 14 (2048 + 128 * a + b)))) = true := by decide +kernel
theorem bc_c2 : (List.range 16).all (fun a => (List.range 128).all (fun b => Nat.beq (bcN (4096 + 128 * a + b)) (pcN 14 (4096 + 128 * a + b)))) = true := by decide +kernel
theorem bc_c3 : (List.range 16).all (fun a => (List.range 128).all (fun b => Nat.beq (bcN (6144 + 128 * a + b)) (pcN 14 (6144 + 128 * a + b)))) = true := by decide +kernel
theorem bc_c4 : (List.range 16).all (fun a => (List.range 128).all (fun b => Nat.beq (bcN (8192 + 128 * a + b)) (pcN 14 (8192 + 128 * a + b)))) = true := by decide +kernel
theorem bc_c5 : (List.range 16).all (fun a => (List.range 128).all (fun b => Nat.beq (bcN (10240 + 128 * a + b)) (pcN 14 (10240 + 128 * a + b)))) = true := by decide +kernel
theorem bc_c6 : (List.range 16).all (fun a => (List.range 128).all (fun b => Nat.beq (bcN (12288 + 128 * a + b)) (pcN 14 (12288 + 128 * a + b)))) = true := by decide +kernel
theorem bc_c7 : (List.range 16).all (fun a => (List.range 128).all (fun b => Nat.beq (bcN (14336 + 128 * a + b)) (pcN 14 (14336 + 128 * a + b)))) = true := by decide +kernel
theorem bcN_ok {n : Nat} (h : n < 16384) : bcN n = pcN 14 n := by
  have key : ∀ k : Nat, k < 8 → (List.range 16).all (fun a => (List.range 128).all (fun b => Nat.beq (bcN (2048 * k + 128 * a + b)) (pcN 14 (2048 * k + 128 * a + b)))) = true := by
    intro k hk
    match k, hk with
    | 0, _ => exact bc_c0
    | 1, _ => exact bc_c1
    | 2, _ => exact bc_c2
    | 3, _ => exact bc_c3
    | 4, _ => exact bc_c4
    | 5, _ => exact bc_c5
    | 6, _ => exact bc_c6
    | 7, _ => exact bc_c7
  have h2 := List.all_eq_true.mp (key (n / 2048) (by omega)) (n % 2048 / 128) (List.mem_range.mpr (by omega))
  have h3 := List.all_eq_true.mp h2 (n % 128) (List.mem_range.mpr (by omega))
  have h4 := Nat.eq_of_beq_eq_true h3
  rw [show 2048 * (n / 2048) + 128 * (n % 2048 / 128) + n % 128 = n by omega] at h4
  exact h4
theorem pcN_more : ∀ (f n : Nat), n < 2 ^ f → ∀ g, pcN (f + g) n = pcN f n
  | 0, n, h, g => by
    obtain rfl : n = 0 := by omega
    induction g with
    | zero => rfl
    | succ g ih =>
      rw [show 0 + (g + 1) = (0 + g) + 1 by omega]
      show 0 % 2 + pcN (0 + g) (0 / 2) = _
      rw [show (0 : Nat) / 2 = 0 from rfl, ih]
      rfl
  | f + 1, n, h, g => by
    rw [show f + 1 + g = (f + g) + 1 by omega]
    show n % 2 + pcN (f + g) (n / 2) = n % 2 + pcN f (n / 2)
    rw [pcN_more f (n / 2) (by rw [Nat.pow_succ] at h; omega) g]
theorem band_nat {a b : Nat} (ha : a < 4294967296) (hb : b < 4294967296) : band (a : Int) (b : Int) = ((a &&& b : Nat) : Int) := by
  unfold band
  rw [un_nat ha, un_nat hb]
theorem bc_ok {x : Int} (h0 : 0 ≤ x) (h1 : x < 16384) : bcV x = popc x := by
  obtain ⟨n, rfl⟩ : ∃ n : Nat, x = (n : Int) := ⟨x.toNat, by omega⟩
  have hn : n < 16384 := by omega
  have e1 : bc1 (n : Int) = (bn1 n : Int) := by
    unfold bc1 bn1
    have hl : n / 2 &&& 1431655765 ≤ n / 2 := Nat.and_le_left
    rw [un_nat (by omega), show ((1431655765 : Int)) = ((1431655765 : Nat) : Int) from rfl, show 2 ^ Int.toNat 1 = 2 from rfl, band_nat (by omega) (by omega)]
    omega
  have b1 : bn1 n < 16384 := by unfold bn1; omega
  have e2 : bc2 (bn1 n : Int) = (bn2 (bn1 n) : Int) := by
    unfold bc2 bn2
    rw [un_nat (by omega), show ((858993459 : Int)) = ((858993459 : Nat) : Int) from rfl, show 2 ^ Int.toNat 2 = 4 from rfl, band_nat (by omega) (by omega), band_nat (by omega) (by omega)]
    omega
  have b2 : bn2 (bn1 n) < 32768 := by
    unfold bn2
    have h1 : bn1 n &&& 858993459 ≤ bn1 n := Nat.and_le_left
    have h2 : bn1 n / 4 &&& 858993459 ≤ bn1 n / 4 := Nat.and_le_left
    omega
  have e3 : bc3 (bn2 (bn1 n) : Int) = (bn3 (bn2 (bn1 n)) : Int) := by
    unfold bc3 bn3
    rw [un_nat (by omega), show ((252645135 : Int)) = ((252645135 : Nat) : Int) from rfl, show 2 ^ Int.toNat 4 = 16 from rfl, show ((bn2 (bn1 n) : Nat) : Int) + ((bn2 (bn1 n) / 16 : Nat) : Int) = ((bn2 (bn1 n) + bn2 (bn1 n) / 16 : Nat) : Int) by omega, band_nat (by omega) (by omega)]
  have b3 : bn3 (bn2 (bn1 n)) < 65536 := by
    unfold bn3
    have h1 : (bn2 (bn1 n) + bn2 (bn1 n) / 16) &&& 252645135 ≤ bn2 (bn1 n) + bn2 (bn1 n) / 16 := Nat.and_le_left
    omega
  have e4 : bc4 (bn3 (bn2 (bn1 n)) : Int) = (bn4 (bn3 (bn2 (bn1 n))) : Int) := by
    unfold bc4 bn4
    rw [un_nat (by omega), show 2 ^ Int.toNat 8 = 256 from rfl]
    omega
  have b4 : bn4 (bn3 (bn2 (bn1 n))) < 131072 := by unfold bn4; omega
  have e5 : bc5 (bn4 (bn3 (bn2 (bn1 n))) : Int) = (bn5 (bn4 (bn3 (bn2 (bn1 n)))) : Int) := by
    unfold bc5 bn5
    rw [un_nat (by omega), show 2 ^ Int.toNat 16 = 65536 from rfl]
    omega
  have b5 : bn5 (bn4 (bn3 (bn2 (bn1 n)))) < 262144 := by unfold bn5; omega
  unfold bcV popc
  rw [e1, e2, e3, e4, e5, show ((63 : Int)) = ((63 : Nat) : Int) from rfl, band_nat (by omega) (by omega), un_nat (by omega), pcN_more 14 n (by omega) 18]
  exact congrArg Int.ofNat (bcN_ok hn)
theorem bitCount_ok {d : Nat} {σ : SG} {Q : Option AV → SG → Prop} {x : Int} (h : (0 ≤ x ∧ x < 16384) ∧ Q (some (.inl (popc x))) σ) : AW d mJ6_bitCount_0f7a4 0 [some (.inl x)] [] σ Q := by
  obtain ⟨⟨h0, h1⟩, hq⟩ := h
  rw [← bc_ok h0 h1] at hq
  exact bitCount_0 (bitCount_10 (bitCount_24 (bitCount_34 (bitCount_41 (bitCount_48 hq)))))
theorem dr_gen : ∀ (f n : Nat), 0 < n → n < 2 ^ f → pcN f (n &&& (n - 1)) + 1 = pcN f n
  | 0, n, h0, h => by omega
  | f + 1, n, h0, h => by
    show (n &&& (n - 1)) % 2 + pcN f ((n &&& (n - 1)) / 2) + 1 = n % 2 + pcN f (n / 2)
    have hd : (n &&& (n - 1)) / 2 = (n / 2) &&& ((n - 1) / 2) := by
      have := Nat.and_div_two_pow (a := n) (b := n - 1) (n := 1)
      simpa using this
    have hm : (n &&& (n - 1)) % 2 = (n % 2) &&& ((n - 1) % 2) := by
      have := Nat.and_mod_two_pow (a := n) (b := n - 1) (n := 1)
      simpa using this
    rw [hd, hm]
    rcases Nat.mod_two_eq_zero_or_one n with h2 | h2
    · have e1 : (n - 1) / 2 = n / 2 - 1 := by omega
      have e2 : (n - 1) % 2 = 1 := by omega
      rw [h2, e1, e2]
      have := dr_gen f (n / 2) (by omega) (by rw [Nat.pow_succ] at h; omega)
      show 0 + pcN f (n / 2 &&& (n / 2 - 1)) + 1 = 0 + pcN f (n / 2)
      omega
    · have e1 : (n - 1) / 2 = n / 2 := by omega
      have e2 : (n - 1) % 2 = 0 := by omega
      rw [h2, e1, e2, Nat.and_self]
      show 0 + pcN f (n / 2) + 1 = 1 + pcN f (n / 2)
      omega
theorem dr_ok {n : Nat} (h0 : 0 < n) (h1 : n < 16384) : pcN 32 (n &&& (n - 1)) + 1 = pcN 32 n ∧ n &&& (n - 1) < n := by
  refine ⟨dr_gen 32 n h0 (by omega), ?_⟩
  have : n &&& (n - 1) ≤ n - 1 := Nat.and_le_right
  omega
theorem popc_nn (x : Int) : 0 ≤ popc x := by unfold popc; omega
theorem mbits_ok {d : Nat} {σ : SG} {Q : Option AV → SG → Prop} {x : Int} (h : (0 ≤ x ∧ x < 16384) ∧ Q (some (.inl (popc x))) σ) : AW d mX9_bits 0 [some (.inl x), none, none] [] σ Q := by
  obtain ⟨⟨h0, h1⟩, hq⟩ := h
  refine mbits_0 ?_
  have key : ∀ (k : Nat) (y : Nat), y < k → y < 16384 → AW d mX9_bits 4 [none, some (.inl (popc x - pcN 32 y)), some (.inl (y : Int))] [] σ Q := by
    intro k
    induction k with
    | zero => intro y hy; omega
    | succ k ih =>
      intro y hy hy2
      refine mbits_4 ⟨by omega, fun c => ?_, fun c => ?_⟩
      · rw [show y = 0 by omega, show pcN 32 0 = 0 from by decide, show popc x - ((0 : Nat) : Int) = popc x by omega]
        exact hq
      · have hd := dr_ok (n := y) (by omega) hy2
        have hi := ih (y &&& (y - 1)) (by omega) (by omega)
        have e1 : band (y : Int) ((y : Int) - 1) = ((y &&& (y - 1) : Nat) : Int) := by
          unfold band
          rw [un_nat (by omega), show ((y : Int) - 1) = ((y - 1 : Nat) : Int) by omega, un_nat (by omega)]
        have e2 : popc x - (pcN 32 y : Int) + 1 = popc x - (pcN 32 (y &&& (y - 1)) : Int) := by omega
        rw [e1, e2]
        exact hi
  have h2 := key (x.toNat + 1) x.toNat (by omega) (by omega)
  have e : popc x = (pcN 32 x.toNat : Int) := by unfold popc; rw [un_of h0 (by omega)]
  rw [show popc x - (pcN 32 x.toNat : Int) = 0 by omega, show ((x.toNat : Nat) : Int) = x by omega] at h2
  exact h2
theorem sh1 {x : Int} {k : Nat} (h0 : 0 ≤ x) (h1 : x < 4294967296) : band (x / 2 ^ k) 1 = if tb x k = true then 1 else 0 := by
  have hp : (0 : Int) < 2 ^ k := Int.pow_pos (by decide)
  have hq : 0 ≤ x / 2 ^ k := Int.ediv_nonneg h0 (Int.le_of_lt hp)
  have hq2 : x / 2 ^ k ≤ x := Int.ediv_le_self _ h0
  have e : un (x / 2 ^ k) = un x / 2 ^ k := by
    rw [un_of hq (by omega), un_of h0 h1]
    obtain ⟨n, rfl⟩ : ∃ n : Nat, x = (n : Int) := ⟨x.toNat, by omega⟩
    have e2 : (n : Int) / 2 ^ k = ((n / 2 ^ k : Nat) : Int) := by
      rw [Int.natCast_ediv, Int.natCast_pow]
      rfl
    rw [e2, Int.toNat_natCast, Int.toNat_natCast]
  unfold band
  rw [e, show un 1 = 1 from rfl, Nat.and_one_is_mod]
  unfold tb
  rw [Nat.testBit_eq_decide_div_mod_eq]
  have := Nat.mod_two_eq_zero_or_one (un x / 2 ^ k)
  rcases this with h | h
  · rw [h]
    rfl
  · rw [h]
    rfl
/-- how many bits lie below i -/
def lowB (x : Int) (i : Int) : Int := foI (fun j a => if tb x j.toNat = true then a + 1 else a) 0 i
theorem lowB_s (x : Int) {i : Int} (h : 0 ≤ i) : lowB x (i + 1) = if tb x i.toNat = true then lowB x i + 1 else lowB x i := foI_s _ _ h
theorem lowB_r (x : Int) {i : Int} (h : 0 ≤ i) : 0 ≤ lowB x i ∧ lowB x i ≤ i := by
  obtain ⟨n, rfl⟩ : ∃ n : Nat, i = (n : Int) := ⟨i.toNat, by omega⟩
  induction n with
  | zero => exact ⟨Int.le_refl _, Int.le_refl _⟩
  | succ n ih =>
    have := ih (by omega)
    have e := lowB_s x (i := (n : Int)) (by omega)
    rw [show ((n + 1 : Nat) : Int) = (n : Int) + 1 by omega, e]
    split <;> omega
/-- the place of the k-th bit (from 0 on) below n; -1 if there is none -/
def kthB (x k : Int) : Int → Bool := fun i => tb x i.toNat && decide (lowB x i = k)
theorem mbitAt_ok {d : Nat} {σ : SG} {Q : Option AV → SG → Prop} {x k : Int} (h : (0 ≤ x ∧ x < 16384 ∧ r3 k) ∧ Q (some (.inl (fstI (kthB x k) 24))) σ) : AW d mX9_bitAt 0 [some (.inl x), some (.inl k), none, none] [] σ Q := by
  obtain ⟨⟨h0, h1, hk⟩, hq⟩ := h
  refine mbitAt_0 ?_
  refine downInd (P := fun i => fstI (kthB x k) i = -1 → AW d mX9_bitAt 4 [some (.inl x), some (.inl k), some (.inl (lowB x i)), some (.inl i)] [] σ Q) (lo := 0) (hi := 24) (by decide) ?_ ?_ rfl
  · intro hn
    rw [hn] at hq
    exact mbitAt_4 ⟨by omega, fun _ => hq, fun c => by omega⟩
  · intro i g0 g1 ih hn
    have hs1 := fstI_s (kthB x k) g0
    rw [if_pos hn] at hs1
    have hlr := lowB_r x g0
    have e := sh1 (x := x) (k := i.toNat) h0 (by omega)
    rw [lowB_s x g0] at ih
    refine mbitAt_4 ⟨by omega, fun c => by omega, fun _ => ⟨by omega, by rw [e]; split <;> omega, fun c => ⟨by omega, fun c2 => ?_, fun c2 => ?_⟩, fun c => ?_⟩⟩
    · have hb : tb x i.toNat = true := by
        rw [e] at c
        split at c
        · assumption
        · exact absurd rfl c
      rw [if_pos hb] at ih
      refine ih ?_
      rw [hs1, if_neg]
      intro z
      simp only [kthB, Bool.and_eq_true, decide_eq_true_eq] at z
      exact c2 z.2
    · have hb : tb x i.toNat = true := by
        rw [e] at c
        split at c
        · assumption
        · exact absurd rfl c
      have hp1 : kthB x k i = true := by simp only [kthB, Bool.and_eq_true, decide_eq_true_eq]; exact ⟨hb, c2⟩
      rw [fstI_hit _ g0 g1 hn hp1] at hq
      exact hq
    · have hb : ¬ tb x i.toNat = true := by
        rw [e] at c
        split at c
        · exact absurd c (by decide)
        · assumption
      rw [if_neg hb] at ih
      refine ih ?_
      rw [hs1, if_neg]
      intro z
      simp only [kthB, Bool.and_eq_true] at z
      exact hb z.1
