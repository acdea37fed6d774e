/-! ===== the skeleton's rows ahead of its gap; the constructors' words (wip/whole/gena0.py) ===== -/
def R_law : String := "LentStairsLaw"
def lw_P (b : Addr) (xs : List Int32) (args : Array Value) (s : State) : Prop := args = #[.ref b] ∧ s.IntsAt b xs ∧ xs.length ≤ 3072 ∧ (Jvm.Cond.and given_1 narrow_1).before args s = true
def lw_Q (_ : Array Value) (s : State) (o : Outcome) (t : State) : Prop := o = .returned (some (.int 1)) ∧ Framed s o t [] 600000 7302250
def lw_Z (below : List Frame) (a : Array Value) (s : State) : State → Prop := fun t => ∃ o, t.status = .running ∧ Ended t below o ∧ lw_Q a s o t
/-- the law's own end, with 1 on the stack, nothing written that was there before, its room as the claim has it -/
theorem lw_ret {p : Program} {l : Launch} {e : Env} {s : State} {m : MethodId} {below : List Frame} {meth : Method} {c : Code} {b : Nat} (hx : p.tables.exec = Jvm.exec) (hb : c.code = code) (hr : meth.sig.returnType = ret) (hlocks : meth.locks = false) {pc : Nat} {H : Heap} {ls : Array Slot} (hdg : decode code pc = .ok (.ireturn, 1)) : W p l e room_1 s m #[Value.ref b] below meth c H [] 600000 7302250 (lw_Z below #[Value.ref b] s) (F0 m pc ls [.int 1]) := by
  intro T hT X
  obtain ⟨fs, hret, hrun, hended, hW, hframe⟩ := X.leave (v := some (.int 1)) (hlocks := hlocks) (fun h => by rw [hr] at h; cases h)
  have hmeth' : T.vm.method? m = some meth := X.method'
  refine ⟨T.setFrames fs, ?_, .returned (some (.int 1)), hrun, hended, rfl, ⟨_, rfl⟩, hW, hframe⟩
  jvm_step X.here [X.here.top, hx, hb, hdg, hmeth', hr, ret, narrow_b1]
  (try refine ⟨rfl, ?_⟩); (try refine ⟨rfl, ?_⟩)
  first | (intro acts; rw [hret _ acts rfl rfl rfl]) | rw [hret _ _ rfl rfl rfl]
  exact Steps.refl _
/-- what holds at the law's entry: the machine, the code, the tables' words (any of lw_tbl by 'hts w (by decide +kernel)'), the script of L ints xs at the cell b, what the Statement gives of the start (any of its parts by flat_of_before) -/
def lw_At (p : Program) (s : State) (m : MethodId) (meth : Method) (c : Code) (b L : Nat) (xs : Nat → Int32) : Prop :=
  p.tables.exec = Jvm.exec ∧ c.code = code ∧ meth.sig.returnType = ret ∧ c.maxLocals = 4 ∧ s.vm.findClass R_law = some m.cls ∧ (∀ w ∈ lw_tbl, w.before #[Value.ref b] s = true) ∧ va_X b L xs s s.heap ∧ b < s.heap.size ∧ meth.locks = false ∧ (Jvm.Cond.and given_1 narrow_1).before #[Value.ref b] s = true
def CW_0 : List Cond := [.instantiable RX8 10, .instanceMethod yX8_init, .code yX8_init cX8_init 1 none, .methodLink RX8 1 objectInit, .instanceMethod objectInit, .code objectInit ⟨#[0xb1]⟩ 1 none, .classLink RX8 7 RX7, .instantiable RX7 7, .instanceMethod yX7_init, .code yX7_init cX7_init 1 none, .methodLink RX7 3 objectInit, .arrayClass .int, .classLink RX8 16 RX5, .instantiable RX5 2, .instanceMethod yX5_init, .code yX5_init cX5_init 2 none, .methodLink RX5 3 objectInit, .classLink RX5 9 RX4, .instantiable RX4 15, .instanceMethod yX4_init]
set_option maxRecDepth 100000 in
theorem CW_i0 : ∀ w ∈ CW_0, w ∈ lw_tbl := by
  have h : CW_0 = [19, 21, 22, 23, 24, 25, 26, 27, 29, 30, 31, 62, 63, 64, 66, 67, 68, 69, 70, 72].filterMap (fun i => tables_1_1[i]?) := by decide +kernel
  intro e hw
  rw [h] at hw
  obtain ⟨i, -, hi⟩ := List.mem_filterMap.mp hw
  exact tb_1 (List.mem_of_getElem? hi)
def CW_1 : List Cond := [.code yX4_init cX4_init 1 none, .methodLink RX4 3 objectInit, .classLink RX8 25 RX3, .instantiable RX3 10, .instanceMethod yX3_init, .code yX3_init cX3_init 2 none, .methodLink RX3 3 objectInit, .classLink RX8 32 RX2, .instantiable RX2 3, .instanceMethod yX2_init, .code yX2_init cX2_init 1 none, .methodLink RX2 3 objectInit, .classLink RX8 39 RX6, .instantiable RX6 1, .instanceMethod yX6_init, .code yX6_init cX6_init 1 none, .methodLink RX6 5 objectInit, .classLink RX8 49 RX0, .instantiable RX0 3, .instanceMethod yX0_init]
set_option maxRecDepth 100000 in
theorem CW_i1 : ∀ w ∈ CW_1, w ∈ lw_tbl := by
  have h : CW_1 = [73, 74, 162, 163, 165, 166, 167, 199, 200, 202, 203, 204, 216, 217, 219, 220, 221, 227, 228, 230].filterMap (fun i => tables_1_1[i]?) := by decide +kernel
  intro e hw
  rw [h] at hw
  obtain ⟨i, -, hi⟩ := List.mem_filterMap.mp hw
  exact tb_1 (List.mem_of_getElem? hi)
def CW_2 : List Cond := [.code yX0_init cX0_init 1 none, .methodLink RX0 3 objectInit]
set_option maxRecDepth 100000 in
theorem CW_i2 : ∀ w ∈ CW_2, w ∈ lw_tbl := by
  have h : CW_2 = [231, 232].filterMap (fun i => tables_1_1[i]?) := by decide +kernel
  intro e hw
  rw [h] at hw
  obtain ⟨i, -, hi⟩ := List.mem_filterMap.mp hw
  exact tb_1 (List.mem_of_getElem? hi)
def CW_3 : List Cond := [.classLink RX8 56 RX1, .instantiable RX1 2, .instanceMethod yX1_init, .code yX1_init cX1_init 1 none, .methodLink RX1 5 objectInit, .classLink RX8 67 RX4]
set_option maxRecDepth 100000 in
theorem CW_i3 : ∀ w ∈ CW_3, w ∈ lw_tbl := by
  have h : CW_3 = [4, 5, 7, 8, 9, 19].filterMap (fun i => tables_1_2[i]?) := by decide +kernel
  intro e hw
  rw [h] at hw
  obtain ⟨i, -, hi⟩ := List.mem_filterMap.mp hw
  exact tb_2 (List.mem_of_getElem? hi)
def CW_4 : List Cond := [.instantiable RX9 82, .instanceMethod yX9_init]
set_option maxRecDepth 100000 in
theorem CW_i4 : ∀ w ∈ CW_4, w ∈ lw_tbl := by
  have h : CW_4 = [61, 63].filterMap (fun i => tables_1_5[i]?) := by decide +kernel
  intro e hw
  rw [h] at hw
  obtain ⟨i, -, hi⟩ := List.mem_filterMap.mp hw
  exact tb_5 (List.mem_of_getElem? hi)
def CW_5 : List Cond := [.code yX9_init cX9_init 1 none]
set_option maxRecDepth 100000 in
theorem CW_i5 : ∀ w ∈ CW_5, w ∈ lw_tbl := by
  have h : CW_5 = [64].filterMap (fun i => tables_1_5[i]?) := rfl
  intro e hw
  rw [h] at hw
  obtain ⟨i, -, hi⟩ := List.mem_filterMap.mp hw
  exact tb_5 (List.mem_of_getElem? hi)
def CW_6 : List Cond := [.methodLink RX9 1 objectInit]
set_option maxRecDepth 100000 in
theorem CW_i6 : ∀ w ∈ CW_6, w ∈ lw_tbl := by
  have h : CW_6 = [65].filterMap (fun i => tables_1_5[i]?) := by decide +kernel
  intro e hw
  rw [h] at hw
  obtain ⟨i, -, hi⟩ := List.mem_filterMap.mp hw
  exact tb_5 (List.mem_of_getElem? hi)
def CW_7 : List Cond := [.arrayClass .char, .arrayClass .long]
set_option maxRecDepth 100000 in
theorem CW_i7 : ∀ w ∈ CW_7, w ∈ lw_tbl := by
  have h : CW_7 = [73, 74].filterMap (fun i => tables_1_6[i]?) := by decide +kernel
  intro e hw
  rw [h] at hw
  obtain ⟨i, -, hi⟩ := List.mem_filterMap.mp hw
  exact tb_6 (List.mem_of_getElem? hi)
def CW : List Cond := CW_0 ++ (CW_1 ++ (CW_2 ++ (CW_3 ++ (CW_4 ++ (CW_5 ++ (CW_6 ++ (CW_7)))))))
theorem CW_in : ∀ e ∈ CW, e ∈ lw_tbl := by
  intro e h
  rcases List.mem_append.mp h with h | h
  · exact CW_i0 e h
  rcases List.mem_append.mp h with h | h
  · exact CW_i1 e h
  rcases List.mem_append.mp h with h | h
  · exact CW_i2 e h
  rcases List.mem_append.mp h with h | h
  · exact CW_i3 e h
  rcases List.mem_append.mp h with h | h
  · exact CW_i4 e h
  rcases List.mem_append.mp h with h | h
  · exact CW_i5 e h
  rcases List.mem_append.mp h with h | h
  · exact CW_i6 e h
  exact CW_i7 e h
def NC_0 : List Cond := [.methodLinkNest RX8 9 yX7_init RX8, .methodLinkNest RX8 18 yX5_init RX8, .methodLinkNest RX5 11 yX4_init RX8, .methodLinkNest RX8 27 yX3_init RX8, .methodLinkNest RX8 34 yX2_init RX8, .methodLinkNest RX8 41 yX6_init RX8, .methodLinkNest RX8 51 yX0_init RX8]
set_option maxRecDepth 100000 in
theorem NC_i0 : ∀ w ∈ NC_0, w ∈ lw_tbl := by
  have h : NC_0 = [28, 65, 71, 164, 201, 218, 229].filterMap (fun i => tables_1_1[i]?) := by decide +kernel
  intro e hw
  rw [h] at hw
  obtain ⟨i, -, hi⟩ := List.mem_filterMap.mp hw
  exact tb_1 (List.mem_of_getElem? hi)
def NC_1 : List Cond := [.methodLinkNest RX8 58 yX1_init RX8, .methodLinkNest RX8 69 yX4_init RX8]
set_option maxRecDepth 100000 in
theorem NC_i1 : ∀ w ∈ NC_1, w ∈ lw_tbl := by
  have h : NC_1 = [6, 20].filterMap (fun i => tables_1_2[i]?) := by decide +kernel
  intro e hw
  rw [h] at hw
  obtain ⟨i, -, hi⟩ := List.mem_filterMap.mp hw
  exact tb_2 (List.mem_of_getElem? hi)
def NC : List Cond := NC_0 ++ (NC_1)
theorem NC_in : ∀ e ∈ NC, e ∈ lw_tbl := by
  intro e h
  rcases List.mem_append.mp h with h | h
  · exact NC_i0 e h
  exact NC_i1 e h
def LWD_0 : List Cond := [.classLink R_law 7 RX8, .methodLink R_law 9 yX8_init]
set_option maxRecDepth 100000 in
theorem LWD_i0 : ∀ w ∈ LWD_0, w ∈ lw_tbl := by
  have h : LWD_0 = [18, 20].filterMap (fun i => tables_1_1[i]?) := by decide +kernel
  intro e hw
  rw [h] at hw
  obtain ⟨i, -, hi⟩ := List.mem_filterMap.mp hw
  exact tb_1 (List.mem_of_getElem? hi)
def LWD_1 : List Cond := [.methodLink R_law 13 yX8_feed, .methodLink R_law 18 yX8_end, .methodLink R_law 23 yX8_realm]
set_option maxRecDepth 100000 in
theorem LWD_i1 : ∀ w ∈ LWD_1, w ∈ lw_tbl := by
  have h : LWD_1 = [52, 60, 64].filterMap (fun i => tables_1_2[i]?) := by decide +kernel
  intro e hw
  rw [h] at hw
  obtain ⟨i, -, hi⟩ := List.mem_filterMap.mp hw
  exact tb_2 (List.mem_of_getElem? hi)
def LWD_2 : List Cond := [.methodLink R_law 28 yX8_fault, .methodLink R_law 33 yX8_has, .methodLink R_law 37 yX8_letter, .methodLink R_law 42 yX8_tower, .methodLink R_law 47 yX8_purse, .methodLink R_law 51 yX8_step, .methodLink R_law 55 yX8_loan, .methodLink R_law 59 yX8_guard, .methodLink R_law 63 yX8_lend, .methodLink R_law 67 yX8_back, .methodLink R_law 71 yX8_refit, .methodLink R_law 76 yX8_go, .methodLink R_law 80 yX8_undo, .methodLink R_law 85 yX8_reaches, .methodLink R_law 89 yX8_hops]
set_option maxRecDepth 100000 in
theorem LWD_i2 : ∀ w ∈ LWD_2, w ∈ lw_tbl := by
  have h : LWD_2 = [51, 55, 106, 119, 131, 140, 160, 169, 173, 188, 197, 205, 214, 222, 234].filterMap (fun i => tables_1_3[i]?) := by decide +kernel
  intro e hw
  rw [h] at hw
  obtain ⟨i, -, hi⟩ := List.mem_filterMap.mp hw
  exact tb_3 (List.mem_of_getElem? hi)
def LWD_3 : List Cond := [.methodLink R_law 93 yX8_spare, .methodLink R_law 97 yX8_need, .methodLink R_law 101 yX8_rescue, .methodLink R_law 105 yX8_falls, .methodLink R_law 109 yX8_odds, .methodLink R_law 113 yX8_blame, .methodLink R_law 117 yX8_netted, .methodLink R_law 121 yX8_ring, .methodLink R_law 125 yX8_wood, .methodLink R_law 129 yX8_rents, .methodLink R_law 133 yX8_lost, .methodLink R_law 137 yX8_ask]
set_option maxRecDepth 100000 in
theorem LWD_i3 : ∀ w ∈ LWD_3, w ∈ lw_tbl := by
  have h : LWD_3 = [1, 33, 46, 58, 62, 66, 89, 97, 109, 121, 130, 143].filterMap (fun i => tables_1_4[i]?) := by decide +kernel
  intro e hw
  rw [h] at hw
  obtain ⟨i, -, hi⟩ := List.mem_filterMap.mp hw
  exact tb_4 (List.mem_of_getElem? hi)
def LWD_4 : List Cond := [.methodLink R_law 142 yX8_image, .methodLink R_law 146 yX8_octet, .methodLink R_law 150 yX8_status, .classLink R_law 10 RX9, .methodLink R_law 12 yX9_init]
set_option maxRecDepth 100000 in
theorem LWD_i4 : ∀ w ∈ LWD_4, w ∈ lw_tbl := by
  have h : LWD_4 = [31, 52, 56, 60, 62].filterMap (fun i => tables_1_5[i]?) := by decide +kernel
  intro e hw
  rw [h] at hw
  obtain ⟨i, -, hi⟩ := List.mem_filterMap.mp hw
  exact tb_5 (List.mem_of_getElem? hi)
def LWD_5 : List Cond := [.methodLink R_law 17 yX9_feed, .methodLink R_law 22 yX9_end, .methodLink R_law 27 yX9_realm, .methodLink R_law 32 yX9_fault, .methodLink R_law 36 yX9_has]
set_option maxRecDepth 100000 in
theorem LWD_i5 : ∀ w ∈ LWD_5, w ∈ lw_tbl := by
  have h : LWD_5 = [75, 79, 83, 230, 234].filterMap (fun i => tables_1_6[i]?) := by decide +kernel
  intro e hw
  rw [h] at hw
  obtain ⟨i, -, hi⟩ := List.mem_filterMap.mp hw
  exact tb_6 (List.mem_of_getElem? hi)
def LWD_6 : List Cond := [.methodLink R_law 41 yX9_letter, .methodLink R_law 46 yX9_tower, .methodLink R_law 50 yX9_purse, .methodLink R_law 54 yX9_step, .methodLink R_law 58 yX9_loan, .methodLink R_law 62 yX9_guard, .methodLink R_law 84 yX9_undo, .methodLink R_law 66 yX9_lend, .methodLink R_law 70 yX9_back, .methodLink R_law 75 yX9_refit, .methodLink R_law 79 yX9_go, .methodLink R_law 88 yX9_reaches, .methodLink R_law 92 yX9_hops, .methodLink R_law 96 yX9_spare, .methodLink R_law 100 yX9_need, .methodLink R_law 104 yX9_rescue, .methodLink R_law 108 yX9_falls, .methodLink R_law 112 yX9_odds, .methodLink R_law 116 yX9_blame, .methodLink R_law 120 yX9_netted]
set_option maxRecDepth 100000 in
theorem LWD_i6 : ∀ w ∈ LWD_6, w ∈ lw_tbl := by
  have h : LWD_6 = [29, 34, 50, 55, 71, 80, 89, 93, 102, 110, 114, 123, 128, 132, 146, 154, 166, 171, 175, 191].filterMap (fun i => tables_1_7[i]?) := by decide +kernel
  intro e hw
  rw [h] at hw
  obtain ⟨i, -, hi⟩ := List.mem_filterMap.mp hw
  exact tb_7 (List.mem_of_getElem? hi)
def LWD_7 : List Cond := [.methodLink R_law 124 yX9_ring, .methodLink R_law 128 yX9_wood, .methodLink R_law 132 yX9_rents, .methodLink R_law 136 yX9_lost, .methodLink R_law 141 yX9_ask]
set_option maxRecDepth 100000 in
theorem LWD_i7 : ∀ w ∈ LWD_7, w ∈ lw_tbl := by
  have h : LWD_7 = [195, 203, 211, 223, 227].filterMap (fun i => tables_1_7[i]?) := by decide +kernel
  intro e hw
  rw [h] at hw
  obtain ⟨i, -, hi⟩ := List.mem_filterMap.mp hw
  exact tb_7 (List.mem_of_getElem? hi)
def LWD_8 : List Cond := [.methodLink R_law 145 yX9_image, .methodLink R_law 149 yX9_octet, .methodLink R_law 153 yX9_status]
set_option maxRecDepth 100000 in
theorem LWD_i8 : ∀ w ∈ LWD_8, w ∈ lw_tbl := by
  have h : LWD_8 = [105, 113, 117].filterMap (fun i => tables_1_8[i]?) := by decide +kernel
  intro e hw
  rw [h] at hw
  obtain ⟨i, -, hi⟩ := List.mem_filterMap.mp hw
  exact tb_8 (List.mem_of_getElem? hi)
def LWD : List Cond := LWD_0 ++ (LWD_1 ++ (LWD_2 ++ (LWD_3 ++ (LWD_4 ++ (LWD_5 ++ (LWD_6 ++ (LWD_7 ++ (LWD_8))))))))
theorem LWD_in : ∀ e ∈ LWD, e ∈ lw_tbl := by
  intro e h
  rcases List.mem_append.mp h with h | h
  · exact LWD_i0 e h
  rcases List.mem_append.mp h with h | h
  · exact LWD_i1 e h
  rcases List.mem_append.mp h with h | h
  · exact LWD_i2 e h
  rcases List.mem_append.mp h with h | h
  · exact LWD_i3 e h
  rcases List.mem_append.mp h with h | h
  · exact LWD_i4 e h
  rcases List.mem_append.mp h with h | h
  · exact LWD_i5 e h
  rcases List.mem_append.mp h with h | h
  · exact LWD_i6 e h
  rcases List.mem_append.mp h with h | h
  · exact LWD_i7 e h
  exact LWD_i8 e h
def SW_0 : List Cond := [.stringRef RX5 49 "tower steps wood costs gap of guard legs rope loan to days rent bends enemy odds "]
set_option maxRecDepth 100000 in
theorem SW_i0 : ∀ w ∈ SW_0, w ∈ lw_tbl := by
  have h : SW_0 = [101].filterMap (fun i => tables_1_2[i]?) := by decide +kernel
  intro e hw
  rw [h] at hw
  obtain ⟨i, -, hi⟩ := List.mem_filterMap.mp hw
  exact tb_2 (List.mem_of_getElem? hi)
def SW_1 : List Cond := [.stringRef RX3 49 "first last often total most least ", .stringRef RX3 99 "all ", .stringRef RX3 101 "not ", .stringRef RX3 124 "day held lent bent yard purse stands reach min max ", .stringRef RX3 97 "and ", .stringRef RX3 89 "or "]
set_option maxRecDepth 100000 in
theorem SW_i1 : ∀ w ∈ SW_1, w ∈ lw_tbl := by
  have h : SW_1 = [152, 168, 173, 210, 215, 216].filterMap (fun i => tables_1_4[i]?) := by decide +kernel
  intro e hw
  rw [h] at hw
  obtain ⟨i, -, hi⟩ := List.mem_filterMap.mp hw
  exact tb_4 (List.mem_of_getElem? hi)
def SW : List Cond := SW_0 ++ (SW_1)
theorem SW_in : ∀ e ∈ SW, e ∈ lw_tbl := by
  intro e h
  rcases List.mem_append.mp h with h | h
  · exact SW_i0 e h
  exact SW_i1 e h
set_option maxRecDepth 100000 in
theorem CW_good : CW.all goodWord = true := by decide +kernel
def CT0 : List Cond := CW ++ TX
theorem CT0_in : ∀ w ∈ CT0, w ∈ lw_tbl := fun w h => (List.mem_append.mp h).elim (CW_in w) (TX_in w)
theorem CT0_good : CT0.all goodWord = true := by rw [CT0, List.all_append, CW_good, TX_good]; rfl
theorem CT0_self : GoodIn CT0 CT0 := goodIn_sub (fun _ h => h) CT0_good
theorem CT0_TX {w : Cond} (h : w ∈ TX) : w ∈ CT0 := List.mem_append_right _ h
theorem CT0_CW {w : Cond} (i : Nat) (h : CW[i]? = some w) : w ∈ CT0 := List.mem_append_left _ (List.mem_of_getElem? h)
theorem CT0_cons {w : Cond} (h : w ∈ CT0) : GoodIn CT0 (w :: CT0) := fun z hz => (List.mem_cons.mp hz).elim (fun e => by rw [e]; exact CT0_self w h) (CT0_self z)
theorem lw_CT0 {w : Cond} (h : w ∈ CT0) : GoodIn lw_tbl (w :: CT0) := fun z hz => ⟨CT0_in z ((List.mem_cons.mp hz).elim (fun e => by rw [e]; exact h) id), (CT0_cons h z hz).2⟩
theorem NC_nest : NC.all (fun w => match w with
  | .methodLinkNest _ _ _ _ => true
  | _ => false) = true := by decide +kernel
theorem NC_warm {s U : State} (hW : s.WarmedH U.vm) (h : ∀ w ∈ NC, va_Nw w s) : ∀ w ∈ NC, va_Nw w U := by
  intro w hw
  have h1 := h w hw
  have h2 := List.all_eq_true.mp NC_nest w hw
  split at h2
  · exact va_Nw.warmM hW h1
  · cases h2
theorem NC_same {s U : State} (hv : s.vm = U.vm) (h : ∀ w ∈ NC, va_Nw w s) : ∀ w ∈ NC, va_Nw w U := by
  intro w hw
  have h1 := h w hw
  have h2 := List.all_eq_true.mp NC_nest w hw
  split at h2
  · exact va_Nw.same rfl hv h1
  · cases h2
