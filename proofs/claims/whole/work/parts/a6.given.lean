/-! ===== what the law's entry gives: classes, texts, statics; the store behind both constructors (wip/whole/gena6.py) ===== -/
def txT (i : Nat) : Term := .string (cnm (KS.getD i (0, 0, 0)).1) (KS.getD i (0, 0, 0)).2.1
abbrev FLC : List Cond := flatC (Jvm.Cond.and given_1 narrow_1)
def txE : List Cond := (List.range 7).map fun i => .exactly (txT i) "java/lang/String"
def txC : List Cond := (List.range 7).map fun i => .eq (.field (txT i) "java/lang/String" "coder" "B") (.int 0)
def txA : List Cond := (List.range 7).map fun i => .arrayOf (.field (txT i) "java/lang/String" "value" "[B") .byte
def txL : List Cond := (List.range 7).map fun i => .eq (.length (.field (txT i) "java/lang/String" "value" "[B")) (.int (Int32.ofNat (sLen.getD i 0)))
def txB (i : Nat) : List Cond := (List.range (sLen.getD i 0)).map fun j => .eq (.elem (.field (txT i) "java/lang/String" "value" "[B") (.int (Int32.ofNat j))) (.int ((sByt.getD i []).getD j 0))
def txN : List Cond := (List.range 49).filterMap fun k => if k / 7 < k % 7 then some (.not (.eq (txT (k / 7)) (txT (k % 7)))) else none
def txZ : List Cond := [.eq (.static "java/lang/String" "COMPACT_STRINGS" "Z") (.int 1), .isRef (.static "jdk/internal/util/Preconditions" "SIOOBE_FORMATTER" "Ljava/util/function/BiFunction;")]
set_option maxRecDepth 100000 in
theorem txE_in : ∀ c ∈ txE, c ∈ FLC := by
  have h : txE = [9, 94, 133, 143, 154, 213, 226].filterMap (fun i => FLC[i]?) := by decide +kernel
  intro c hc
  rw [h] at hc
  obtain ⟨i, -, hi⟩ := List.mem_filterMap.mp hc
  exact List.mem_of_getElem? hi
set_option maxRecDepth 100000 in
theorem txC_in : ∀ c ∈ txC, c ∈ FLC := by
  have h : txC = [10, 95, 134, 144, 155, 214, 227].filterMap (fun i => FLC[i]?) := by decide +kernel
  intro c hc
  rw [h] at hc
  obtain ⟨i, -, hi⟩ := List.mem_filterMap.mp hc
  exact List.mem_of_getElem? hi
set_option maxRecDepth 100000 in
theorem txA_in : ∀ c ∈ txA, c ∈ FLC := by
  have h : txA = [11, 96, 135, 145, 156, 215, 228].filterMap (fun i => FLC[i]?) := by decide +kernel
  intro c hc
  rw [h] at hc
  obtain ⟨i, -, hi⟩ := List.mem_filterMap.mp hc
  exact List.mem_of_getElem? hi
set_option maxRecDepth 100000 in
theorem txL_in : ∀ c ∈ txL, c ∈ FLC := by
  have h : txL = [12, 97, 136, 146, 157, 216, 229].filterMap (fun i => FLC[i]?) := by decide +kernel
  intro c hc
  rw [h] at hc
  obtain ⟨i, -, hi⟩ := List.mem_filterMap.mp hc
  exact List.mem_of_getElem? hi
set_option maxRecDepth 100000 in
theorem txN_in : ∀ c ∈ txN, c ∈ FLC := by
  have h : txN = [132, 141, 151, 209, 221, 233, 142, 152, 210, 222, 234, 153, 211, 223, 235, 212, 224, 236, 225, 237, 238].filterMap (fun i => FLC[i]?) := by decide +kernel
  intro c hc
  rw [h] at hc
  obtain ⟨i, -, hi⟩ := List.mem_filterMap.mp hc
  exact List.mem_of_getElem? hi
set_option maxRecDepth 100000 in
theorem txZ_in : ∀ c ∈ txZ, c ∈ FLC := by
  have h : txZ = [4, 5].filterMap (fun i => FLC[i]?) := by decide +kernel
  intro c hc
  rw [h] at hc
  obtain ⟨i, -, hi⟩ := List.mem_filterMap.mp hc
  exact List.mem_of_getElem? hi
set_option maxRecDepth 100000 in
theorem txB_in0 : ∀ c ∈ txB 0, c ∈ FLC := by
  have h : txB 0 = [13, 14, 15, 16, 17, 18, 19, 20, 21, 22, 23, 24, 25, 26, 27, 28, 29, 30, 31, 32, 33, 34, 35, 36, 37, 38, 39, 40, 41, 42, 43, 44, 45, 46, 47, 48, 49, 50, 51, 52, 53, 54, 55, 56, 57, 58, 59, 60, 61, 62, 63, 64, 65, 66, 67, 68, 69, 70, 71, 72, 73, 74, 75, 76, 77, 78, 79, 80, 81, 82, 83, 84, 85, 86, 87, 88, 89, 90, 91, 92, 93].filterMap (fun i => FLC[i]?) := by decide +kernel
  intro c hc
  rw [h] at hc
  obtain ⟨i, -, hi⟩ := List.mem_filterMap.mp hc
  exact List.mem_of_getElem? hi
set_option maxRecDepth 100000 in
theorem txB_in1 : ∀ c ∈ txB 1, c ∈ FLC := by
  have h : txB 1 = [98, 99, 100, 101, 102, 103, 104, 105, 106, 107, 108, 109, 110, 111, 112, 113, 114, 115, 116, 117, 118, 119, 120, 121, 122, 123, 124, 125, 126, 127, 128, 129, 130, 131].filterMap (fun i => FLC[i]?) := by decide +kernel
  intro c hc
  rw [h] at hc
  obtain ⟨i, -, hi⟩ := List.mem_filterMap.mp hc
  exact List.mem_of_getElem? hi
set_option maxRecDepth 100000 in
theorem txB_in2 : ∀ c ∈ txB 2, c ∈ FLC := by
  have h : txB 2 = [137, 138, 139, 140].filterMap (fun i => FLC[i]?) := by decide +kernel
  intro c hc
  rw [h] at hc
  obtain ⟨i, -, hi⟩ := List.mem_filterMap.mp hc
  exact List.mem_of_getElem? hi
set_option maxRecDepth 100000 in
theorem txB_in3 : ∀ c ∈ txB 3, c ∈ FLC := by
  have h : txB 3 = [147, 148, 149, 150].filterMap (fun i => FLC[i]?) := by decide +kernel
  intro c hc
  rw [h] at hc
  obtain ⟨i, -, hi⟩ := List.mem_filterMap.mp hc
  exact List.mem_of_getElem? hi
set_option maxRecDepth 100000 in
theorem txB_in4 : ∀ c ∈ txB 4, c ∈ FLC := by
  have h : txB 4 = [158, 159, 160, 161, 162, 163, 164, 165, 166, 167, 168, 169, 170, 171, 172, 173, 174, 175, 176, 177, 178, 179, 180, 181, 182, 183, 184, 185, 186, 187, 188, 189, 190, 191, 192, 193, 194, 195, 196, 197, 198, 199, 200, 201, 202, 203, 204, 205, 206, 207, 208].filterMap (fun i => FLC[i]?) := by decide +kernel
  intro c hc
  rw [h] at hc
  obtain ⟨i, -, hi⟩ := List.mem_filterMap.mp hc
  exact List.mem_of_getElem? hi
set_option maxRecDepth 100000 in
theorem txB_in5 : ∀ c ∈ txB 5, c ∈ FLC := by
  have h : txB 5 = [217, 218, 219, 220].filterMap (fun i => FLC[i]?) := by decide +kernel
  intro c hc
  rw [h] at hc
  obtain ⟨i, -, hi⟩ := List.mem_filterMap.mp hc
  exact List.mem_of_getElem? hi
set_option maxRecDepth 100000 in
theorem txB_in6 : ∀ c ∈ txB 6, c ∈ FLC := by
  have h : txB 6 = [230, 231, 232].filterMap (fun i => FLC[i]?) := by decide +kernel
  intro c hc
  rw [h] at hc
  obtain ⟨i, -, hi⟩ := List.mem_filterMap.mp hc
  exact List.mem_of_getElem? hi
theorem txB_in : ∀ i, i < 7 → ∀ c ∈ txB i, c ∈ FLC := by
  intro i hi
  match i, hi with
  | 0, _ => exact txB_in0
  | 1, _ => exact txB_in1
  | 2, _ => exact txB_in2
  | 3, _ => exact txB_in3
  | 4, _ => exact txB_in4
  | 5, _ => exact txB_in5
  | 6, _ => exact txB_in6
theorem zw_0 : Cond.initialized "java/lang/String" ∈ lw_tbl := tb_1 (List.mem_of_getElem? (i := 11) (by decide +kernel))
theorem zw_1 : Cond.initialized "jdk/internal/util/Preconditions" ∈ lw_tbl := tb_1 (List.mem_of_getElem? (i := 13) (by decide +kernel))
theorem zw_2 : Cond.laysStatic "java/lang/String" "COMPACT_STRINGS" "Z" ∈ lw_tbl := tb_2 (List.mem_of_getElem? (i := 115) (by decide +kernel))
theorem zw_3 : Cond.laysStatic "jdk/internal/util/Preconditions" "SIOOBE_FORMATTER" "Ljava/util/function/BiFunction;" ∈ lw_tbl := tb_2 (List.mem_of_getElem? (i := 131) (by decide +kernel))
theorem lw_texts {args : Array Value} {s : State} (hgv : (Jvm.Cond.and given_1 narrow_1).before args s = true) (hts : ∀ w ∈ lw_tbl, w.before args s = true) : ∃ adK adV : Nat → Nat, vk_S 7 sLen sByt adK adV (fun q => s.heap.size ≤ q) s s.heap ∧ (∀ e ∈ KS, vk_R (cnm e.1) e.2.1 (STRS.getD e.2.2 "") (adK e.2.2) s) ∧ va_Z "java/lang/String" "COMPACT_STRINGS" "Z" (.int 1) (fun q => s.heap.size ≤ q) s s.heap ∧ ∃ v : Value, v.category = 1 ∧ va_Z "jdk/internal/util/Preconditions" "SIOOBE_FORMATTER" "Ljava/util/function/BiFunction;" v (fun q => s.heap.size ≤ q) s s.heap := by
  have hf := flat_of_before _ hgv
  have hA : ∀ a : Nat, a < s.heap.size → ¬ (fun q => s.heap.size ≤ q) a := fun a h => Nat.not_le.mpr h
  have mem : ∀ {f : Nat → Cond} {n i : Nat}, i < n → f i ∈ (List.range n).map f := fun h => List.mem_map.mpr ⟨_, List.mem_range.mpr h, rfl⟩
  obtain ⟨adK, adV, h1, h2⟩ := vk_Sof (args := args) (s := s) (N := 7) (tm := txT) (len := sLen) (byt := sByt) (A := fun q => s.heap.size ≤ q) (by decide) (fun i hi => hf _ (txE_in _ (mem (f := fun i => .exactly (txT i) "java/lang/String") hi))) (fun i hi => hf _ (txC_in _ (mem (f := fun i => .eq (.field (txT i) "java/lang/String" "coder" "B") (.int 0)) hi))) (fun i hi => hf _ (txA_in _ (mem (f := fun i => .arrayOf (.field (txT i) "java/lang/String" "value" "[B") .byte) hi))) (fun i hi => hf _ (txL_in _ (mem (f := fun i => .eq (.length (.field (txT i) "java/lang/String" "value" "[B")) (.int (Int32.ofNat (sLen.getD i 0)))) hi)))
    (fun i hi j hj => hf _ (txB_in i hi _ (mem (f := fun j => .eq (.elem (.field (txT i) "java/lang/String" "value" "[B") (.int (Int32.ofNat j))) (.int ((sByt.getD i []).getD j 0))) hj)))
    (fun i j hi hj hne => by
      have key : ∀ i j : Nat, i < j → j < 7 → (Cond.not (.eq (txT i) (txT j))).before args s = true := fun i j h1 h2 => hf _ (txN_in _ (List.mem_filterMap.mpr ⟨7 * i + j, List.mem_range.mpr (by omega), by rw [show (7 * i + j) / 7 = i by omega, show (7 * i + j) % 7 = j by omega, if_pos h1]⟩))
      rcases Nat.lt_or_ge i j with h | h
      · exact Or.inl (key i j h hj)
      · exact Or.inr (key j i (by omega) hi)) hA
  refine ⟨adK, adV, h1, ?_, va_Zof (hts _ zw_2) (hts _ zw_0) (va_eqt (hf _ (txZ_in _ (List.mem_of_getElem? (i := 0) rfl)))) hA, ?_⟩
  · intro e he
    simp only [KS, List.mem_cons, List.not_mem_nil, or_false] at he
    rcases he with rfl | rfl | rfl | rfl | rfl | rfl | rfl
    · exact vk_R.of (hts _ (SW_in _ (List.mem_of_getElem? (i := 0) rfl))) (h2 0 (by decide))
    · exact vk_R.of (hts _ (SW_in _ (List.mem_of_getElem? (i := 1) rfl))) (h2 1 (by decide))
    · exact vk_R.of (hts _ (SW_in _ (List.mem_of_getElem? (i := 2) rfl))) (h2 2 (by decide))
    · exact vk_R.of (hts _ (SW_in _ (List.mem_of_getElem? (i := 3) rfl))) (h2 3 (by decide))
    · exact vk_R.of (hts _ (SW_in _ (List.mem_of_getElem? (i := 4) rfl))) (h2 4 (by decide))
    · exact vk_R.of (hts _ (SW_in _ (List.mem_of_getElem? (i := 5) rfl))) (h2 5 (by decide))
    · exact vk_R.of (hts _ (SW_in _ (List.mem_of_getElem? (i := 6) rfl))) (h2 6 (by decide))
  · rcases va_Zqof (hts _ zw_3) (hts _ zw_1) (hf _ (txZ_in _ (List.mem_of_getElem? (i := 1) rfl))) hA with h | ⟨t, h⟩
    · exact ⟨_, rfl, h⟩
    · exact ⟨_, rfl, h⟩
theorem lw_inst : ∀ q ∈ vwCl, Cond.instantiable q.1 q.2.2 ∈ lw_tbl := by
  intro q h
  simp only [vwCl, List.mem_cons, List.not_mem_nil, or_false] at h
  rcases h with rfl | rfl | rfl | rfl | rfl | rfl | rfl | rfl | rfl | rfl
  · exact CT0_in _ (CT0_CW 38 rfl)
  · exact CT0_in _ (CT0_CW 43 rfl)
  · exact CT0_in _ (CT0_CW 28 rfl)
  · exact CT0_in _ (CT0_CW 23 rfl)
  · exact CT0_in _ (CT0_CW 18 rfl)
  · exact CT0_in _ (CT0_CW 13 rfl)
  · exact CT0_in _ (CT0_CW 33 rfl)
  · exact CT0_in _ (CT0_CW 7 rfl)
  · exact CT0_in _ (CT0_CW 0 rfl)
  · exact CT0_in _ (CT0_CW 48 rfl)
theorem arr_K {args : Array Value} {s : State} {ft : FieldType} (hp : ft = .int ∨ ft = .long ∨ ft = .char) (h : (Cond.arrayClass ft).before args s = true) : ∃ cA : ClassId, ArrOfT s cA ft ∧ va_RA s cA ft := by
  obtain ⟨cA, kA, comp, h1, h2, h3⟩ := Cond.arrayClass_spec h
  refine ⟨cA, fun n z => ⟨fun k h => (by cases h), kA, h2, comp, h3⟩, ?_⟩
  rcases hp with rfl | rfl | rfl <;> exact h1
theorem lw_known {args : Array Value} {s : State} (hts : ∀ w ∈ lw_tbl, w.before args s = true) : ∃ (D : va_G) (ty : ClassId × ClassId × ClassId), va_K D vwCl (tyC ty) s := by
  have hK : ∀ ci : Nat, ∃ x : ClassId × (Nat → Nat), ∀ q, vwCl[ci]? = some q → u_Kn s q.1 q.2.1 q.2.2 x.1 x.2 := by
    have key : ∀ (ci : Nat) (q : vw_C), vwCl[ci]? = some q → ∃ (cC : ClassId) (iS : Nat → Nat), u_Kn s q.1 q.2.1 q.2.2 cC iS := fun ci q hq => u_known (n := q.2.2) hts (fun w hw => TX_in w (vw_in hq w hw)) (hts _ (lw_inst q (List.mem_of_getElem? hq)))
    obtain ⟨c0, i0, h0⟩ := key 0 _ rfl
    intro ci
    cases hq : vwCl[ci]? with
    | none => exact ⟨(c0, i0), fun q h => by cases h⟩
    | some q =>
      obtain ⟨c1, i1, h1⟩ := key ci q hq
      exact ⟨(c1, i1), fun q' h => by cases h; exact h1⟩
  obtain ⟨f, hf⟩ := Classical.axiomOfChoice hK
  obtain ⟨cI, i1, i2⟩ := arr_K (Or.inl rfl) (hts _ (CT0_in _ (CT0_CW 11 rfl)))
  obtain ⟨cL, l1, l2⟩ := arr_K (Or.inr (Or.inl rfl)) (hts _ (CT0_in _ (CT0_CW 53 rfl)))
  obtain ⟨cC, c1, c2⟩ := arr_K (Or.inr (Or.inr rfl)) (hts _ (CT0_in _ (CT0_CW 52 rfl)))
  refine ⟨(fun k => (f k).1, fun k => (f k).2), (cI, cL, cC), fun c q hq => hf c q hq, fun k q hk => ?_⟩
  match k, hk with
  | 0, hk => cases hk; exact ⟨i1, i2⟩
  | 1, hk => cases hk; exact ⟨l1, l2⟩
  | 2, hk => cases hk; exact ⟨c1, c2⟩
  | k + 3, hk => cases hk
theorem lw_NC {args : Array Value} {s : State} (hts : ∀ w ∈ lw_tbl, w.before args s = true) : ∀ w ∈ NC, va_Nw w s := by
  intro w hw
  have h1 := hts w (NC_in w hw)
  have h2 := List.all_eq_true.mp NC_nest w hw
  split at h2
  · exact va_Nw.of rfl h1
  · cases h2
theorem lw_NT {args : Array Value} {s : State} (hts : ∀ w ∈ lw_tbl, w.before args s = true) : ∀ w ∈ NT, va_Nw w s := by
  intro w hw
  have h1 := hts w (NT_in w hw)
  rcases List.mem_append.mp hw with hw | hw
  · obtain ⟨e, -, rfl⟩ := List.mem_map.mp hw
    exact va_Nw.of rfl h1
  · obtain ⟨e, -, rfl⟩ := List.mem_map.mp hw
    exact va_Nw.of rfl h1
theorem sF_words : ∀ p, p < 100 → (45 ≤ p ∧ p ≤ 60 ∨ 76 ≤ p ∧ p ≤ 95) → INI.getD p [] = WC p := by decide +kernel
theorem sF_st : ST0 sF := by
  refine ⟨⟨rfl, rfl⟩, ⟨rfl, rfl, rfl⟩, ⟨rfl, rfl, rfl, rfl, rfl, rfl⟩, ⟨rfl, rfl, rfl⟩, fun p i hp => ?_, ⟨rfl, rfl, rfl⟩, fun p hp i hi => ?_⟩
  · rcases hp with rfl | rfl | rfl | rfl | rfl | rfl | rfl | rfl | rfl | rfl <;> rfl
  · show (INI.getD p []).getD i 0 = (WC p).getD i 0
    rw [sF_words p (by omega) hp]
