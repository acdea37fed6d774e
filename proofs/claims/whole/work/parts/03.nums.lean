/-! ===== whole numbers as representatives of ints and longs ===== -/
theorem i3_toInt {x : Int} (h1 : -2147483648 ≤ x) (h2 : x ≤ 2147483647) : (Int32.ofInt x).toInt = x := Int32.toInt_ofInt_of_le (by omega) (by omega)
theorem i6_toInt {x : Int} (h1 : -9223372036854775808 ≤ x) (h2 : x ≤ 9223372036854775807) : (Int64.ofInt x).toInt = x := Int64.toInt_ofInt_of_le (by omega) (by omega)
theorem i3_eq {x y : Int} (h1 : -2147483648 ≤ x) (h2 : x ≤ 2147483647) (h3 : -2147483648 ≤ y) (h4 : y ≤ 2147483647) : Int32.ofInt x = Int32.ofInt y ↔ x = y := by
  rw [← Int32.toInt_inj, i3_toInt h1 h2, i3_toInt h3 h4]
theorem i3_lt {x y : Int} (h1 : -2147483648 ≤ x) (h2 : x ≤ 2147483647) (h3 : -2147483648 ≤ y) (h4 : y ≤ 2147483647) : Int32.ofInt x < Int32.ofInt y ↔ x < y := by
  rw [Int32.lt_iff_toInt_lt, i3_toInt h1 h2, i3_toInt h3 h4]
theorem i3_le {x y : Int} (h1 : -2147483648 ≤ x) (h2 : x ≤ 2147483647) (h3 : -2147483648 ≤ y) (h4 : y ≤ 2147483647) : Int32.ofInt x ≤ Int32.ofInt y ↔ x ≤ y := by
  rw [Int32.le_iff_toInt_le, i3_toInt h1 h2, i3_toInt h3 h4]
theorem i6_eq {x y : Int} (h1 : -9223372036854775808 ≤ x) (h2 : x ≤ 9223372036854775807) (h3 : -9223372036854775808 ≤ y) (h4 : y ≤ 9223372036854775807) : Int64.ofInt x = Int64.ofInt y ↔ x = y := by
  rw [← Int64.toInt_inj, i6_toInt h1 h2, i6_toInt h3 h4]
theorem i6_lt {x y : Int} (h1 : -9223372036854775808 ≤ x) (h2 : x ≤ 9223372036854775807) (h3 : -9223372036854775808 ≤ y) (h4 : y ≤ 9223372036854775807) : Int64.ofInt x < Int64.ofInt y ↔ x < y := by
  rw [Int64.lt_iff_toInt_lt, i6_toInt h1 h2, i6_toInt h3 h4]
theorem i3_inj {a b : Int32} (h : a.toInt = b.toInt) : a = b := Int32.toInt_inj.mp h
theorem i6_inj {a b : Int64} (h : a.toInt = b.toInt) : a = b := Int64.toInt_inj.mp h
theorem i3_div {x y : Int} (h1 : -2147483648 ≤ x) (h2 : x ≤ 2147483647) (h3 : -2147483648 ≤ y) (h4 : y ≤ 2147483647) : Int32.ofInt x / Int32.ofInt y = Int32.ofInt (x.tdiv y) := by
  apply i3_inj
  rw [Int32.toInt_div, i3_toInt h1 h2, i3_toInt h3 h4, Int32.toInt_ofInt]
theorem i3_rem {x y : Int} (h1 : -2147483648 ≤ x) (h2 : x ≤ 2147483647) (h3 : -2147483648 ≤ y) (h4 : y ≤ 2147483647) : Int32.ofInt x - Int32.ofInt x / Int32.ofInt y * Int32.ofInt y = Int32.ofInt (x.tmod y) := by
  rw [i3_div h1 h2 h3 h4, ← Int32.ofInt_mul, ← Int32.ofInt_sub]
  congr 1
  have := Int.tmod_add_tdiv_mul x y
  omega
theorem i6_div {x y : Int} (h1 : -9223372036854775808 ≤ x) (h2 : x ≤ 9223372036854775807) (h3 : -9223372036854775808 ≤ y) (h4 : y ≤ 9223372036854775807) : Int64.ofInt x / Int64.ofInt y = Int64.ofInt (x.tdiv y) := by
  apply i6_inj
  rw [Int64.toInt_div, i6_toInt h1 h2, i6_toInt h3 h4, Int64.toInt_ofInt]
theorem i6_rem {x y : Int} (h1 : -9223372036854775808 ≤ x) (h2 : x ≤ 9223372036854775807) (h3 : -9223372036854775808 ≤ y) (h4 : y ≤ 9223372036854775807) : Int64.ofInt x - Int64.ofInt x / Int64.ofInt y * Int64.ofInt y = Int64.ofInt (x.tmod y) := by
  rw [i6_div h1 h2 h3 h4, ← Int64.ofInt_mul, ← Int64.ofInt_sub]
  congr 1
  have := Int.tmod_add_tdiv_mul x y
  omega
theorem i3_clamp {x : Int} (h1 : 0 ≤ x) (h2 : x ≤ 2147483647) : (Int32.ofInt x).toNatClampNeg = x.toNat := Int32.toNatClampNeg_ofInt_of_le (by omega) (by omega)
theorem i3_nneg {x : Int} (h1 : 0 ≤ x) (h2 : x ≤ 2147483647) : ¬ Int32.ofInt x < 0 := by
  rw [Int32.lt_iff_toInt_lt, i3_toInt (by omega) h2]
  show ¬ x < 0
  omega
theorem i3_in {x : Int} {n : Nat} (h1 : 0 ≤ x) (h2 : x < n) (hn : n ≤ 2147483647) : vp_in (Int32.ofInt x) n := by
  intro h
  rcases h with h | h
  · exact i3_nneg h1 (by omega) h
  · rw [i3_clamp h1 (by omega)] at h
    omega
/-- the 32 bits of a representative -/
def un (x : Int) : Nat := (x % 4294967296).toNat
theorem un_lt (x : Int) : un x < 4294967296 := by unfold un; omega
theorem un_of {x : Int} (h1 : 0 ≤ x) (h2 : x < 4294967296) : un x = x.toNat := by unfold un; rw [Int.emod_eq_of_lt h1 h2]
theorem i3_bv (x : Int) : (Int32.ofInt x).toBitVec.toNat = un x := by
  rw [Int32.toBitVec_ofInt, BitVec.toNat_ofInt]
  rfl
theorem i3_unat {n : Nat} (h : n < 4294967296) : (Int32.ofInt (n : Int)).toBitVec.toNat = n := by
  rw [i3_bv, un_of (by omega) (by omega)]
  omega
theorem i3_bvinj {a b : Int32} (h : a.toBitVec.toNat = b.toBitVec.toNat) : a = b := Int32.toBitVec.inj (BitVec.eq_of_toNat_eq h)
def band (x y : Int) : Int := ((un x &&& un y : Nat) : Int)
def bor (x y : Int) : Int := ((un x ||| un y : Nat) : Int)
def bxor (x y : Int) : Int := ((un x ^^^ un y : Nat) : Int)
theorem i3_and (x y : Int) : Int32.ofInt x &&& Int32.ofInt y = Int32.ofInt (band x y) := by
  apply i3_bvinj
  rw [Int32.toBitVec_and, BitVec.toNat_and, i3_bv, i3_bv, band, i3_unat (Nat.lt_of_le_of_lt Nat.and_le_left (un_lt x))]
theorem i3_or (x y : Int) : Int32.ofInt x ||| Int32.ofInt y = Int32.ofInt (bor x y) := by
  apply i3_bvinj
  rw [Int32.toBitVec_or, BitVec.toNat_or, i3_bv, i3_bv, bor, i3_unat (Nat.or_lt_two_pow (n := 32) (un_lt x) (un_lt y))]
theorem i3_xor (x y : Int) : Int32.ofInt x ^^^ Int32.ofInt y = Int32.ofInt (bxor x y) := by
  apply i3_bvinj
  rw [Int32.toBitVec_xor, BitVec.toNat_xor, i3_bv, i3_bv, bxor, i3_unat (Nat.xor_lt_two_pow (n := 32) (un_lt x) (un_lt y))]
theorem i3_cnt : ∀ n, n < 32 → ((Int32.ofInt (n : Nat) &&& 31).toBitVec.smod 32).toNat = n := by decide
theorem i3_cntU : ∀ n, n < 32 → (((Int32.ofInt (n : Nat)).toUInt32 &&& Int32.toUInt32 31).toBitVec % 32).toNat = n := by decide
theorem un_cast (x : Int) : (un x : Int) = x % 4294967296 := by unfold un; omega
theorem un_mul (x : Int) (k : Nat) : un (x * 2 ^ k) = un x * 2 ^ k % 2 ^ 32 := by
  have h : ((un (x * 2 ^ k) : Nat) : Int) = ((un x * 2 ^ k % 2 ^ 32 : Nat) : Int) := by
    rw [un_cast, Int.natCast_emod, Int.natCast_mul, un_cast, Int.natCast_pow]
    show x * 2 ^ k % 4294967296 = x % 4294967296 * 2 ^ k % 4294967296
    rw [Int.mul_emod x, Int.mul_emod (x % 4294967296) (2 ^ k), Int.emod_emod]
  exact Int.ofNat.inj h
theorem i3_shl {x s : Int} (h1 : 0 ≤ s) (h2 : s < 32) : Int32.ofInt x <<< (Int32.ofInt s &&& 31) = Int32.ofInt (x * 2 ^ s.toNat) := by
  obtain ⟨n, rfl⟩ : ∃ n : Nat, s = (n : Int) := ⟨s.toNat, by omega⟩
  apply i3_bvinj
  rw [pk_shl _ _ n (i3_cnt n (by omega)), i3_bv, i3_bv, Int.toNat_natCast, un_mul]
theorem i3_shr {x s : Int} (h1 : 0 ≤ s) (h2 : s < 32) (h3 : -2147483648 ≤ x) (h4 : x ≤ 2147483647) : Int32.ofInt x >>> (Int32.ofInt s &&& 31) = Int32.ofInt (x / 2 ^ s.toNat) := by
  obtain ⟨n, rfl⟩ : ∃ n : Nat, s = (n : Int) := ⟨s.toNat, by omega⟩
  apply i3_inj
  rw [pk_shr _ _ n (i3_cnt n (by omega)), i3_toInt h3 h4, Int.toNat_natCast, Int.shiftRight_eq_div_pow]
  have hp : (0 : Int) < 2 ^ n := Int.pow_pos (by decide)
  have hl : -2147483648 ≤ x / 2 ^ n := by
    rw [Int.le_ediv_iff_mul_le hp]
    have : (1 : Int) ≤ 2 ^ n := hp
    have := Int.mul_le_mul_of_nonneg_left (c := (2147483648 : Int)) this (by decide)
    omega
  have hu : x / 2 ^ n ≤ 2147483647 := by
    rcases Int.lt_or_le x 0 with h | h
    · have := Int.ediv_neg_of_neg_of_pos h hp
      omega
    · exact Int.le_trans (Int.ediv_le_self _ h) h4
  have e : ((2 ^ n : Nat) : Int) = (2 : Int) ^ n := by push_cast; rfl
  rw [e, i3_toInt hl hu]
theorem i3_ushr {x s : Int} (h1 : 0 ≤ s) (h2 : s < 32) : ((Int32.ofInt x).toUInt32 >>> ((Int32.ofInt s).toUInt32 &&& Int32.toUInt32 31)).toInt32 = Int32.ofInt ((un x / 2 ^ s.toNat : Nat) : Int) := by
  obtain ⟨n, rfl⟩ : ∃ n : Nat, s = (n : Int) := ⟨s.toNat, by omega⟩
  apply i3_bvinj
  rw [pk_ushr _ _ n (i3_cntU n (by omega)), i3_bv, Int.toNat_natCast, i3_unat (Nat.lt_of_le_of_lt (Nat.div_le_self _ _) (un_lt x))]
theorem i3_i2l {x : Int} (h1 : -2147483648 ≤ x) (h2 : x ≤ 2147483647) : (Int32.ofInt x).toInt64 = Int64.ofInt x := by
  apply i6_inj
  rw [Int32.toInt_toInt64, i3_toInt h1 h2, i6_toInt (by omega) (by omega)]
theorem i6_l2i (x : Int) : (Int64.ofInt x).toInt32 = Int32.ofInt x := Int64.toInt32_ofInt
theorem i3_bip {n : Int} (h1 : -128 ≤ n) (h2 : n ≤ 127) : (Int8.ofInt n).toInt32 = Int32.ofInt n := by
  apply i3_inj
  rw [Int8.toInt_toInt32, Int8.toInt_ofInt_of_le (by omega) (by omega), i3_toInt (by omega) (by omega)]
theorem i3_sip {n : Int} (h1 : -32768 ≤ n) (h2 : n ≤ 32767) : (Int16.ofInt n).toInt32 = Int32.ofInt n := by
  apply i3_inj
  rw [Int16.toInt_toInt32, Int16.toInt_ofInt_of_le (by omega) (by omega), i3_toInt (by omega) (by omega)]
