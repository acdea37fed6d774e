/-! ===== the seven texts of the class, by program ===== -/
def sLen : List Nat := [81, 34, 4, 4, 51, 4, 3]
def sByt : List (List Int32) := [[116, 111, 119, 101, 114, 32, 115, 116, 101, 112, 115, 32, 119, 111, 111, 100, 32, 99, 111, 115, 116, 115, 32, 103, 97, 112, 32, 111, 102, 32, 103, 117, 97, 114, 100, 32, 108, 101, 103, 115, 32, 114, 111, 112, 101, 32, 108, 111, 97, 110, 32, 116, 111, 32, 100, 97, 121, 115, 32, 114, 101, 110, 116, 32, 98, 101, 110, 100, 115, 32, 101, 110, 101, 109, 121, 32, 111, 100, 100, 115, 32], [102, 105, 114, 115, 116, 32, 108, 97, 115, 116, 32, 111, 102, 116, 101, 110, 32, 116, 111, 116, 97, 108, 32, 109, 111, 115, 116, 32, 108, 101, 97, 115, 116, 32], [97, 108, 108, 32], [110, 111, 116, 32], [100, 97, 121, 32, 104, 101, 108, 100, 32, 108, 101, 110, 116, 32, 98, 101, 110, 116, 32, 121, 97, 114, 100, 32, 112, 117, 114, 115, 101, 32, 115, 116, 97, 110, 100, 115, 32, 114, 101, 97, 99, 104, 32, 109, 105, 110, 32, 109, 97, 120, 32], [97, 110, 100, 32], [111, 114, 32]]
def sInt : List (List Int) := [[116, 111, 119, 101, 114, 32, 115, 116, 101, 112, 115, 32, 119, 111, 111, 100, 32, 99, 111, 115, 116, 115, 32, 103, 97, 112, 32, 111, 102, 32, 103, 117, 97, 114, 100, 32, 108, 101, 103, 115, 32, 114, 111, 112, 101, 32, 108, 111, 97, 110, 32, 116, 111, 32, 100, 97, 121, 115, 32, 114, 101, 110, 116, 32, 98, 101, 110, 100, 115, 32, 101, 110, 101, 109, 121, 32, 111, 100, 100, 115, 32], [102, 105, 114, 115, 116, 32, 108, 97, 115, 116, 32, 111, 102, 116, 101, 110, 32, 116, 111, 116, 97, 108, 32, 109, 111, 115, 116, 32, 108, 101, 97, 115, 116, 32], [97, 108, 108, 32], [110, 111, 116, 32], [100, 97, 121, 32, 104, 101, 108, 100, 32, 108, 101, 110, 116, 32, 98, 101, 110, 116, 32, 121, 97, 114, 100, 32, 112, 117, 114, 115, 101, 32, 115, 116, 97, 110, 100, 115, 32, 114, 101, 97, 99, 104, 32, 109, 105, 110, 32, 109, 97, 120, 32], [97, 110, 100, 32], [111, 114, 32]]
def XW_1 : List Cond := ([11, 12, 13, 14, 16].filterMap (fun i => tables_1_1[i]?)).filter goodWord
def XW_2 : List Cond := ([106, 107, 108, 109, 110, 111, 112, 113, 114, 115, 116, 117, 118, 119, 120, 121, 122, 123, 124, 125, 126, 127, 128, 129, 130, 131, 132, 133, 134, 135, 136, 137, 138, 139, 140, 141, 142, 143, 144, 145, 146, 147, 148, 149, 150, 151, 152, 153].filterMap (fun i => tables_1_2[i]?)).filter goodWord
def XW_3 : List Cond := ([181, 182, 183].filterMap (fun i => tables_1_3[i]?)).filter goodWord
def XW_4 : List Cond := ([138].filterMap (fun i => tables_1_4[i]?)).filter goodWord
def XW_8 : List Cond := ([121, 122].filterMap (fun i => tables_1_8[i]?)).filter goodWord
def XW : List Cond := XW_1 ++ (XW_2 ++ (XW_3 ++ (XW_4 ++ (XW_8))))
theorem XW_in : ∀ w ∈ XW, w ∈ lw_tbl := by
  intro w h
  rcases List.mem_append.mp h with h | h
  · obtain ⟨i, -, hi⟩ := List.mem_filterMap.mp (List.mem_filter.mp h).1
    exact tb_1 (List.mem_of_getElem? hi)
  rcases List.mem_append.mp h with h | h
  · obtain ⟨i, -, hi⟩ := List.mem_filterMap.mp (List.mem_filter.mp h).1
    exact tb_2 (List.mem_of_getElem? hi)
  rcases List.mem_append.mp h with h | h
  · obtain ⟨i, -, hi⟩ := List.mem_filterMap.mp (List.mem_filter.mp h).1
    exact tb_3 (List.mem_of_getElem? hi)
  rcases List.mem_append.mp h with h | h
  · obtain ⟨i, -, hi⟩ := List.mem_filterMap.mp (List.mem_filter.mp h).1
    exact tb_4 (List.mem_of_getElem? hi)
  obtain ⟨i, -, hi⟩ := List.mem_filterMap.mp (List.mem_filter.mp h).1
  exact tb_8 (List.mem_of_getElem? hi)
set_option maxRecDepth 100000 in
theorem XW_good : XW.all goodWord = true := by decide +kernel
def TX : List Cond := XW ++ TT
theorem TX_in : ∀ w ∈ TX, w ∈ lw_tbl := fun w h => (List.mem_append.mp h).elim (XW_in w) (TT_in w)
theorem TX_good : TX.all goodWord = true := by rw [TX, List.all_append, XW_good, TT_good]; rfl
theorem TT_TX {w : Cond} (h : w ∈ TT) : w ∈ TX := List.mem_append_right _ h
theorem TX_self : GoodIn TX TX := goodIn_sub (fun _ h => h) TX_good
theorem tx_MT {e : MTE} (h : e ∈ MT) : mw e ∈ TX := TT_TX (List.mem_append_left _ (List.mem_map.mpr ⟨e, h, rfl⟩))
theorem tx_FT {e : Nat × Nat × Nat × Nat} (h : e ∈ FT) : fw e ∈ TX := TT_TX (List.mem_append_right _ (List.mem_append_left _ (List.mem_map.mpr ⟨e, h, rfl⟩)))
theorem tx_CT {e : Nat × Nat × Nat} (h : e ∈ CT) : cwL e ∈ TX := TT_TX (List.mem_append_right _ (List.mem_append_right _ (List.mem_append_left _ (List.mem_map.mpr ⟨e, h, rfl⟩))))
theorem tx_SM {e : Nat} (h : e ∈ SM) : swS e ∈ TX := TT_TX (List.mem_append_right _ (List.mem_append_right _ (List.mem_append_right _ (List.mem_append_left _ (List.mem_map.mpr ⟨e, h, rfl⟩)))))
theorem tx_VM {e : Nat} (h : e ∈ VM) : swV e ∈ TX := TT_TX (List.mem_append_right _ (List.mem_append_right _ (List.mem_append_right _ (List.mem_append_right _ (List.mem_append_left _ (List.mem_map.mpr ⟨e, h, rfl⟩))))))
theorem tx_EM {e : Nat} (h : e ∈ EM) : swE e ∈ TX := TT_TX (List.mem_append_right _ (List.mem_append_right _ (List.mem_append_right _ (List.mem_append_right _ (List.mem_append_right _ (List.mem_append_left _ (List.mem_map.mpr ⟨e, h, rfl⟩)))))))
theorem tx_IC {e : Nat} (h : e ∈ IC) : swI e ∈ TX := TT_TX (List.mem_append_right _ (List.mem_append_right _ (List.mem_append_right _ (List.mem_append_right _ (List.mem_append_right _ (List.mem_append_right _ (List.mem_append_left _ (List.mem_map.mpr ⟨e, h, rfl⟩))))))))
theorem tx_KI {e : Nat × Nat × Int} (h : e ∈ KI) : kwI e ∈ TX := TT_TX (List.mem_append_right _ (List.mem_append_right _ (List.mem_append_right _ (List.mem_append_right _ (List.mem_append_right _ (List.mem_append_right _ (List.mem_append_right _ (List.mem_append_left _ (List.mem_map.mpr ⟨e, h, rfl⟩)))))))))
theorem tx_KL {e : Nat × Nat × Int} (h : e ∈ KL) : kwL e ∈ TX := TT_TX (List.mem_append_right _ (List.mem_append_right _ (List.mem_append_right _ (List.mem_append_right _ (List.mem_append_right _ (List.mem_append_right _ (List.mem_append_right _ (List.mem_append_right _ (List.mem_append_left _ (List.mem_map.mpr ⟨e, h, rfl⟩))))))))))
theorem tx_UT {e : Nat × Nat} (h : e ∈ UT) : uw e ∈ TX := TT_TX (List.mem_append_right _ (List.mem_append_right _ (List.mem_append_right _ (List.mem_append_right _ (List.mem_append_right _ (List.mem_append_right _ (List.mem_append_right _ (List.mem_append_right _ (List.mem_append_right _ (List.mem_map.mpr ⟨e, h, rfl⟩))))))))))
theorem tn_FN {e : Nat × Nat × Nat × Nat} (h : e ∈ FN) : fwN e ∈ NT := List.mem_append_left _ (List.mem_map.mpr ⟨e, h, rfl⟩)
theorem tn_CNT {e : Nat × Nat × Nat} (h : e ∈ CNT) : cwN e ∈ NT := List.mem_append_right _ (List.mem_map.mpr ⟨e, h, rfl⟩)
set_option maxRecDepth 100000 in
theorem MT_all : MT.all (fun t => (plainName t.1.cls || decide (t.2.2.2.2 = 11)) && decide (t.1.cls = cnm t.2.2.2.2) && decide (t.2.2.1 ≤ 40) && decide (t.1.cls ≠ "java/lang/invoke/MethodHandle") && decide (t.1.cls ≠ "java/lang/invoke/VarHandle") && decide (t.2.2.2.2 ∈ IC)) = true := by decide +kernel
theorem UT_all : ∀ ci, ci < 10 → ∀ k, k < (vwCl.getD ci ("", TX0, 0)).2.2 → (ci, k) ∈ UT := by decide +kernel
theorem vw_nm : ∀ ci, ci < 10 → (vwCl.getD ci ("", TX0, 0)).1 = cnm ci := by decide +kernel
def cl_ok (q : vw_C) : Prop := ∃ ty0 : Nat → FieldType, (∀ k, k < q.2.2 → parseFieldDescriptor (q.2.1 k).2.2.1 = some (ty0 k)) ∧ ∀ a, a < q.2.2 → ∀ b, b < q.2.2 → a ≠ b → (q.2.1 a).2.1 ≠ (q.2.1 b).2.1
theorem vw_ok : ∀ q ∈ vwCl, cl_ok q := by
  intro q h
  simp only [vwCl, List.mem_cons, List.not_mem_nil, or_false] at h
  rcases h with rfl | rfl | rfl | rfl | rfl | rfl | rfl | rfl | rfl | rfl
  · exact ⟨tyX0, tyX0_ok, nmX0⟩
  · exact ⟨tyX1, tyX1_ok, nmX1⟩
  · exact ⟨tyX2, tyX2_ok, nmX2⟩
  · exact ⟨tyX3, tyX3_ok, nmX3⟩
  · exact ⟨tyX4, tyX4_ok, nmX4⟩
  · exact ⟨tyX5, tyX5_ok, nmX5⟩
  · exact ⟨tyX6, tyX6_ok, nmX6⟩
  · exact ⟨tyX7, tyX7_ok, nmX7⟩
  · exact ⟨tyX8, tyX8_ok, nmX8⟩
  · exact ⟨tyX9, tyX9_ok, nmX9⟩
theorem vw_own : ∀ q ∈ vwCl, ∀ k, k < q.2.2 → (q.2.1 k).1 = q.1 := by
  intro q h
  simp only [vwCl, List.mem_cons, List.not_mem_nil, or_false] at h
  rcases h with rfl | rfl | rfl | rfl | rfl | rfl | rfl | rfl | rfl | rfl <;> decide +kernel
def shk (ci k : Nat) (kd : Nat) : Bool := match vwCl[ci]? with
  | some q => decide (k < q.2.2) && (match kd with
    | 0 => (q.2.1 k).2.2.1 == "I"
    | 1 => (q.2.1 k).2.2.1 == "J"
    | 4 => (q.2.1 k).2.2.1 == "Z"
    | 3 => (q.2.1 k).2.2.1 == "LLentStairs$Realm;"
    | _ => true)
  | none => false
def shok (sh : Shp) : Bool := match sh with
  | .inl (t, n) => decide (t < 3) && decide (n ≤ 100000)
  | .inr (ci, ks) => decide (ci < 10) && (ks.zipIdx).all (fun q => shk ci q.2 q.1.1)
set_option maxRecDepth 100000 in
theorem SH_ok : SH.all shok = true := by decide +kernel
