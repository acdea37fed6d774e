/-! ===== String.length and String.charAt of the constants: contracts that only read ===== -/
theorem dJ0_coder_7d493_0 : decode cJ0_coder_7d493 0 = .ok (.getstatic 38, 3) := by decide +kernel
theorem dJ0_coder_7d493_3 : decode cJ0_coder_7d493 3 = .ok (.ifCond .eq 10, 3) := by decide +kernel
theorem dJ0_coder_7d493_6 : decode cJ0_coder_7d493 6 = .ok (.aload_n 0, 1) := by decide +kernel
theorem dJ0_coder_7d493_7 : decode cJ0_coder_7d493 7 = .ok (.getfield 15, 3) := by decide +kernel
theorem dJ0_coder_7d493_10 : decode cJ0_coder_7d493 10 = .ok (.goto 4, 3) := by decide +kernel
theorem dJ0_coder_7d493_13 : decode cJ0_coder_7d493 13 = .ok (.iconst 1, 1) := by decide +kernel
theorem dJ0_coder_7d493_14 : decode cJ0_coder_7d493 14 = .ok (.ireturn, 1) := by decide +kernel
theorem dJ0_isLatin1_aae02_0 : decode cJ0_isLatin1_aae02 0 = .ok (.getstatic 38, 3) := by decide +kernel
theorem dJ0_isLatin1_aae02_3 : decode cJ0_isLatin1_aae02 3 = .ok (.ifCond .eq 14, 3) := by decide +kernel
theorem dJ0_isLatin1_aae02_6 : decode cJ0_isLatin1_aae02 6 = .ok (.aload_n 0, 1) := by decide +kernel
theorem dJ0_isLatin1_aae02_7 : decode cJ0_isLatin1_aae02 7 = .ok (.getfield 15, 3) := by decide +kernel
theorem dJ0_isLatin1_aae02_10 : decode cJ0_isLatin1_aae02 10 = .ok (.ifCond .ne 7, 3) := by decide +kernel
theorem dJ0_isLatin1_aae02_13 : decode cJ0_isLatin1_aae02 13 = .ok (.iconst 1, 1) := by decide +kernel
theorem dJ0_isLatin1_aae02_14 : decode cJ0_isLatin1_aae02 14 = .ok (.goto 4, 3) := by decide +kernel
theorem dJ0_isLatin1_aae02_17 : decode cJ0_isLatin1_aae02 17 = .ok (.iconst 0, 1) := by decide +kernel
theorem dJ0_isLatin1_aae02_18 : decode cJ0_isLatin1_aae02 18 = .ok (.ireturn, 1) := by decide +kernel
theorem dJ0_length_8abf5_0 : decode cJ0_length_8abf5 0 = .ok (.aload_n 0, 1) := by decide +kernel
theorem dJ0_length_8abf5_1 : decode cJ0_length_8abf5 1 = .ok (.getfield 9, 3) := by decide +kernel
theorem dJ0_length_8abf5_4 : decode cJ0_length_8abf5 4 = .ok (.arraylength, 1) := by decide +kernel
theorem dJ0_length_8abf5_5 : decode cJ0_length_8abf5 5 = .ok (.aload_n 0, 1) := by decide +kernel
theorem dJ0_length_8abf5_6 : decode cJ0_length_8abf5 6 = .ok (.invokevirtual 335, 3) := by decide +kernel
theorem dJ0_length_8abf5_9 : decode cJ0_length_8abf5 9 = .ok (.ishr, 1) := by decide +kernel
theorem dJ0_length_8abf5_10 : decode cJ0_length_8abf5 10 = .ok (.ireturn, 1) := by decide +kernel
theorem dJ0_charAt_5068e_0 : decode cJ0_charAt_5068e 0 = .ok (.aload_n 0, 1) := by decide +kernel
theorem dJ0_charAt_5068e_1 : decode cJ0_charAt_5068e 1 = .ok (.invokevirtual 492, 3) := by decide +kernel
theorem dJ0_charAt_5068e_4 : decode cJ0_charAt_5068e 4 = .ok (.ifCond .eq 12, 3) := by decide +kernel
theorem dJ0_charAt_5068e_7 : decode cJ0_charAt_5068e 7 = .ok (.aload_n 0, 1) := by decide +kernel
theorem dJ0_charAt_5068e_8 : decode cJ0_charAt_5068e 8 = .ok (.getfield 9, 3) := by decide +kernel
theorem dJ0_charAt_5068e_11 : decode cJ0_charAt_5068e 11 = .ok (.iload_n 1, 1) := by decide +kernel
theorem dJ0_charAt_5068e_12 : decode cJ0_charAt_5068e 12 = .ok (.invokestatic 495, 3) := by decide +kernel
theorem dJ0_charAt_5068e_15 : decode cJ0_charAt_5068e 15 = .ok (.ireturn, 1) := by decide +kernel
theorem dJ1_charAt_3b067_0 : decode cJ1_charAt_3b067 0 = .ok (.iload_n 1, 1) := by decide +kernel
theorem dJ1_charAt_3b067_1 : decode cJ1_charAt_3b067 1 = .ok (.aload_n 0, 1) := by decide +kernel
theorem dJ1_charAt_3b067_2 : decode cJ1_charAt_3b067 2 = .ok (.arraylength, 1) := by decide +kernel
theorem dJ1_charAt_3b067_3 : decode cJ1_charAt_3b067 3 = .ok (.invokestatic 9, 3) := by decide +kernel
theorem dJ1_charAt_3b067_6 : decode cJ1_charAt_3b067 6 = .ok (.aload_n 0, 1) := by decide +kernel
theorem dJ1_charAt_3b067_7 : decode cJ1_charAt_3b067 7 = .ok (.iload_n 1, 1) := by decide +kernel
theorem dJ1_charAt_3b067_8 : decode cJ1_charAt_3b067 8 = .ok (.baload, 1) := by decide +kernel
theorem dJ1_charAt_3b067_9 : decode cJ1_charAt_3b067 9 = .ok (.sipush 255, 3) := by decide +kernel
theorem dJ1_charAt_3b067_12 : decode cJ1_charAt_3b067 12 = .ok (.iand, 1) := by decide +kernel
theorem dJ1_charAt_3b067_13 : decode cJ1_charAt_3b067 13 = .ok (.i2c, 1) := by decide +kernel
theorem dJ1_charAt_3b067_14 : decode cJ1_charAt_3b067 14 = .ok (.ireturn, 1) := by decide +kernel
theorem dJ0_checkIndex_df160_0 : decode cJ0_checkIndex_df160 0 = .ok (.iload_n 0, 1) := by decide +kernel
theorem dJ0_checkIndex_df160_1 : decode cJ0_checkIndex_df160 1 = .ok (.iload_n 1, 1) := by decide +kernel
theorem dJ0_checkIndex_df160_2 : decode cJ0_checkIndex_df160 2 = .ok (.getstatic 1053, 3) := by decide +kernel
theorem dJ0_checkIndex_df160_5 : decode cJ0_checkIndex_df160 5 = .ok (.invokestatic 1059, 3) := by decide +kernel
theorem dJ0_checkIndex_df160_8 : decode cJ0_checkIndex_df160 8 = .ok (.pop, 1) := by decide +kernel
theorem dJ0_checkIndex_df160_9 : decode cJ0_checkIndex_df160 9 = .ok (.return_, 1) := by decide +kernel
theorem dJ3_checkIndex_8e157_0 : decode cJ3_checkIndex_8e157 0 = .ok (.iload_n 0, 1) := by decide +kernel
theorem dJ3_checkIndex_8e157_1 : decode cJ3_checkIndex_8e157 1 = .ok (.ifCond .lt 8, 3) := by decide +kernel
theorem dJ3_checkIndex_8e157_4 : decode cJ3_checkIndex_8e157 4 = .ok (.iload_n 0, 1) := by decide +kernel
theorem dJ3_checkIndex_8e157_5 : decode cJ3_checkIndex_8e157 5 = .ok (.iload_n 1, 1) := by decide +kernel
theorem dJ3_checkIndex_8e157_6 : decode cJ3_checkIndex_8e157 6 = .ok (.if_icmp .lt 10, 3) := by decide +kernel
theorem dJ3_checkIndex_8e157_16 : decode cJ3_checkIndex_8e157 16 = .ok (.iload_n 0, 1) := by decide +kernel
theorem dJ3_checkIndex_8e157_17 : decode cJ3_checkIndex_8e157 17 = .ok (.ireturn, 1) := by decide +kernel
def sW : List Cond := [.fieldLink "java/lang/String" 38 "java/lang/String" "COMPACT_STRINGS" "Z", .fieldLink "java/lang/String" 15 "java/lang/String" "coder" "B", .fieldLink "java/lang/String" 9 "java/lang/String" "value" "[B", .fieldLink "java/lang/String" 1053 "jdk/internal/util/Preconditions" "SIOOBE_FORMATTER" "Ljava/util/function/BiFunction;",
  .methodLink "java/lang/String" 335 yJ0_coder_7d493, .instanceMethod yJ0_coder_7d493, .selects "java/lang/String" yJ0_coder_7d493 yJ0_coder_7d493, .initialized "java/lang/String", .code yJ0_coder_7d493 cJ0_coder_7d493 1 (some .byte),
  .methodLink "java/lang/String" 492 yJ0_isLatin1_aae02, .instanceMethod yJ0_isLatin1_aae02, .selects "java/lang/String" yJ0_isLatin1_aae02 yJ0_isLatin1_aae02, .code yJ0_isLatin1_aae02 cJ0_isLatin1_aae02 1 (some .boolean),
  .methodLink "java/lang/String" 495 yJ1_charAt_3b067, .static yJ1_charAt_3b067, .initialized "java/lang/StringLatin1", .code yJ1_charAt_3b067 cJ1_charAt_3b067 2 (some .char),
  .methodLink "java/lang/StringLatin1" 9 yJ0_checkIndex_df160, .static yJ0_checkIndex_df160, .code yJ0_checkIndex_df160 cJ0_checkIndex_df160 2 none,
  .methodLink "java/lang/String" 1059 yJ3_checkIndex_8e157, .static yJ3_checkIndex_8e157, .initialized "jdk/internal/util/Preconditions", .code yJ3_checkIndex_8e157 cJ3_checkIndex_8e157 3 (some .int),
  .code yJ0_length_8abf5 cJ0_length_8abf5 1 (some .int), .code yJ0_charAt_5068e cJ0_charAt_5068e 2 (some .char),
  .methodLink "LentStairs$Tape" 59 yJ0_length_8abf5, .instanceMethod yJ0_length_8abf5, .selects "java/lang/String" yJ0_length_8abf5 yJ0_length_8abf5, .methodLink "LentStairs$Tape" 64 yJ0_charAt_5068e, .instanceMethod yJ0_charAt_5068e, .selects "java/lang/String" yJ0_charAt_5068e yJ0_charAt_5068e]
set_option maxRecDepth 100000 in
theorem sW_in : ∀ w ∈ sW, w ∈ TX := by decide +kernel
def rQ (v : Option Value) : Array Value → State → Outcome → State → Prop := fun _ st o t => o = .returned v ∧ t.heap = st.heap
section ROS
variable {p : Program} {l : Launch} {e : Env} {s : State} {m : MethodId} {args : Array Value} {below : List Frame} {meth : Method} {c : Code} {H : Heap} {locs : List Loc} {R : Room} {Q : State → Prop}
theorem ro_after {a : Array Value} {v : Option Value} {pc : Nat} {la : Array Slot} {st0 rest : List Value} {cells slots : Nat}
    (hr : va_Run p l e R s m args below meth c H locs cells slots 0 0 (F0 m pc la st0) rest (rQ v a) (fun _ => False))
    (kk : W p l e R s m args below meth c H locs cells slots Q (F0 m (pc + 3) la (v.toList ++ rest))) :
    W p l e R s m args below meth c H locs cells slots Q (F0 m pc la st0) := by
  intro T hT X
  obtain ⟨v', st₀, t, T', L, h0, X', hL, e1, e2, ⟨hv, hh⟩, st⟩ := hr T hT X
  cases hv
  obtain ⟨t2, a1, b1⟩ := kk T' (by rw [e1, hh, h0]) (Stand.forget X' (fun q h => (hL q h).elim))
  exact ⟨t2, st t2 a1, b1⟩
end ROS
theorem KN.refl_warm {G : WG} {s U : State} (h : KN G s) (hU : U.heap = s.heap) (hW : s.WarmedH U.vm) : KN G U := h.warm va_S.rf hU hW
def sPc (G : WG) (av : List Value) : Array Value → State → Prop := fun v U => v = av.toArray ∧ KN G U
theorem sPc.blind (G : WG) (av : List Value) : FrameBlind (sPc G av) := fun _ _ g mk q => ⟨q.1, q.2.calling g mk _⟩
theorem good_TXc {w : Cond} (h : w ∈ TX) : ∀ z ∈ w :: TX, z ∈ TX := fun z hz => (List.mem_cons.mp hz).elim (fun e => by rw [e]; exact h) id
set_option maxHeartbeats 4000000 in
set_option maxRecDepth 100000 in
theorem ro_coder (l : Launch) (G : WG) (i : Nat) (hi : i < 7) : Met l yJ0_coder_7d493 (.code yJ0_coder_7d493 cJ0_coder_7d493 1 (some .byte) :: TX) (RM 0) (sPc G ([.ref (G.2.1 (1000 + i))])) (rQ (some (.int 0))) 0 0 (fun _ => False) := by
  refine Met.ofW (cc := cJ0_coder_7d493) (maxL := 1) (ret := (some .byte)) (by decide) rfl ?_
  intro p e s m args below meth c s₁ B hml hv
  obtain ⟨rfl, hK⟩ := hv
  have hx := B.exec
  have hb := B.bytes
  have hr := B.returns
  have hts : ∀ w ∈ TX, w.before _ s = true := fun w hw => atoms_spec (ws := .code yJ0_coder_7d493 cJ0_coder_7d493 1 (some .byte) :: TX) B.pre w (List.mem_cons_of_mem _ hw)
  have hsw : ∀ w ∈ sW, w.before _ s = true := fun w hw => hts w (sW_in w hw)
  have hown : s.vm.findClass "java/lang/String" = some m.cls := findClass_of_methodNamed B.named
  have hlocks := B.notSynchronized
  have hl := lv_entry ([.ref (G.2.1 (1000 + i))]) (n := 1) (Nat.le_of_ble_eq_true rfl)
  rw [lg_entry_eq]
  generalize (lg_sl ([.ref (G.2.1 (1000 + i))]) ++ List.replicate (1 - (lg_sl ([.ref (G.2.1 (1000 + i))])).length) Slot.unset).toArray = ls at hl ⊢
  have hl : lv_has ls 1 [(0, .ref (G.2.1 (1000 + i)))] := hl
  refine va_gets (A := AD G) hx hb hK.2.2.1.2.2.1 va_S.rf hown (hsw _ (List.mem_of_getElem? (i := 0) rfl)) (fun _ h9 => h9) dJ0_coder_7d493_0 ?_
  refine lv_if_eq (tgt := 13) hx hb dJ0_coder_7d493_3 (by decide) (fun z => absurd z (by decide)) (fun _ => ?_)
  refine lv_aload_n hx hb dJ0_coder_7d493_6 rfl (lv_at hl 0 rfl) ?_
  refine vk_getf (A := AD G) hx hb (hK.2.2.1.1.1 i hi).2.1 va_S.rf hown (hsw _ (List.mem_of_getElem? (i := 1) rfl)) (fun _ h9 => h9) dJ0_coder_7d493_7 ?_
  refine lv_goto (tgt := 14) hx hb dJ0_coder_7d493_10 (by decide) ?_
  exact W.zret (ty := .byte) hx hb hr rfl (fun t ht _ => ⟨rfl, ht⟩) (fun q h => by cases h) dJ0_coder_7d493_14
set_option maxHeartbeats 4000000 in
set_option maxRecDepth 100000 in
theorem ro_isLatin1 (l : Launch) (G : WG) (i : Nat) (hi : i < 7) : Met l yJ0_isLatin1_aae02 (.code yJ0_isLatin1_aae02 cJ0_isLatin1_aae02 1 (some .boolean) :: TX) (RM 0) (sPc G ([.ref (G.2.1 (1000 + i))])) (rQ (some (.int 1))) 0 0 (fun _ => False) := by
  refine Met.ofW (cc := cJ0_isLatin1_aae02) (maxL := 1) (ret := (some .boolean)) (by decide) rfl ?_
  intro p e s m args below meth c s₁ B hml hv
  obtain ⟨rfl, hK⟩ := hv
  have hx := B.exec
  have hb := B.bytes
  have hr := B.returns
  have hts : ∀ w ∈ TX, w.before _ s = true := fun w hw => atoms_spec (ws := .code yJ0_isLatin1_aae02 cJ0_isLatin1_aae02 1 (some .boolean) :: TX) B.pre w (List.mem_cons_of_mem _ hw)
  have hsw : ∀ w ∈ sW, w.before _ s = true := fun w hw => hts w (sW_in w hw)
  have hown : s.vm.findClass "java/lang/String" = some m.cls := findClass_of_methodNamed B.named
  have hlocks := B.notSynchronized
  have hl := lv_entry ([.ref (G.2.1 (1000 + i))]) (n := 1) (Nat.le_of_ble_eq_true rfl)
  rw [lg_entry_eq]
  generalize (lg_sl ([.ref (G.2.1 (1000 + i))]) ++ List.replicate (1 - (lg_sl ([.ref (G.2.1 (1000 + i))])).length) Slot.unset).toArray = ls at hl ⊢
  have hl : lv_has ls 1 [(0, .ref (G.2.1 (1000 + i)))] := hl
  refine va_gets (A := AD G) hx hb hK.2.2.1.2.2.1 va_S.rf hown (hsw _ (List.mem_of_getElem? (i := 0) rfl)) (fun _ h9 => h9) dJ0_isLatin1_aae02_0 ?_
  refine lv_if_eq (tgt := 17) hx hb dJ0_isLatin1_aae02_3 (by decide) (fun z => absurd z (by decide)) (fun _ => ?_)
  refine lv_aload_n hx hb dJ0_isLatin1_aae02_6 rfl (lv_at hl 0 rfl) ?_
  refine vk_getf (A := AD G) hx hb (hK.2.2.1.1.1 i hi).2.1 va_S.rf hown (hsw _ (List.mem_of_getElem? (i := 1) rfl)) (fun _ h9 => h9) dJ0_isLatin1_aae02_7 ?_
  refine lv_if_ne (tgt := 17) hx hb dJ0_isLatin1_aae02_10 (by decide) (fun z => absurd rfl z) (fun _ => ?_)
  refine lv_iconst (v := 1) hx hb dJ0_isLatin1_aae02_13 (by decide) ?_
  refine lv_goto (tgt := 18) hx hb dJ0_isLatin1_aae02_14 (by decide) ?_
  exact W.zret (ty := .boolean) hx hb hr rfl (fun t ht _ => ⟨rfl, ht⟩) (fun q h => by cases h) dJ0_isLatin1_aae02_18
set_option maxHeartbeats 4000000 in
set_option maxRecDepth 100000 in
theorem ro_pre (l : Launch) (G : WG) (a n : Int) (v : Value) (hv0 : v.category = 1) (h0 : 0 ≤ a) (h1 : a < n) (h2 : n ≤ 2147483647) : Met l yJ3_checkIndex_8e157 (.code yJ3_checkIndex_8e157 cJ3_checkIndex_8e157 3 (some .int) :: TX) (RM 0) (sPc G ([.int (Int32.ofInt a), .int (Int32.ofInt n), v])) (rQ (some (.int (Int32.ofInt a)))) 0 0 (fun _ => False) := by
  have hll : (lg_sl [.int (Int32.ofInt a), .int (Int32.ofInt n), v]).length ≤ 3 := by cases v <;> first | exact Nat.le_refl 3 | (simp [Value.category] at hv0)
  refine Met.ofW (cc := cJ3_checkIndex_8e157) (maxL := 3) (ret := (some .int)) (by decide) rfl ?_
  intro p e s m args below meth c s₁ B hml hv
  obtain ⟨rfl, hK⟩ := hv
  have hx := B.exec
  have hb := B.bytes
  have hr := B.returns
  have hts : ∀ w ∈ TX, w.before _ s = true := fun w hw => atoms_spec (ws := .code yJ3_checkIndex_8e157 cJ3_checkIndex_8e157 3 (some .int) :: TX) B.pre w (List.mem_cons_of_mem _ hw)
  have hsw : ∀ w ∈ sW, w.before _ s = true := fun w hw => hts w (sW_in w hw)
  have hown : s.vm.findClass "jdk/internal/util/Preconditions" = some m.cls := findClass_of_methodNamed B.named
  have hlocks := B.notSynchronized
  have hl := lv_entry ([.int (Int32.ofInt a), .int (Int32.ofInt n), v]) (n := 3) hll
  rw [lg_entry_eq]
  generalize (lg_sl ([.int (Int32.ofInt a), .int (Int32.ofInt n), v]) ++ List.replicate (3 - (lg_sl ([.int (Int32.ofInt a), .int (Int32.ofInt n), v])).length) Slot.unset).toArray = ls at hl ⊢
  have hl : lv_has ls 3 [(0, .int (Int32.ofInt a)), (1, .int (Int32.ofInt n))] := lv_mono hl (fun q hq => by simp only [List.mem_cons, List.not_mem_nil, or_false] at hq; rcases hq with rfl | rfl <;> simp [lv_args, Value.category])
  refine lv_iload_n hx hb dJ3_checkIndex_8e157_0 rfl (lv_at hl 0 rfl) ?_
  refine lv_if_lt (tgt := 9) hx hb dJ3_checkIndex_8e157_1 (by decide) (fun z => absurd z (i3_nneg h0 (by omega))) (fun _ => ?_)
  refine lv_iload_n hx hb dJ3_checkIndex_8e157_4 rfl (lv_at hl 0 rfl) ?_
  refine lv_iload_n hx hb dJ3_checkIndex_8e157_5 rfl (lv_at hl 1 rfl) ?_
  refine lv_icmp_lt (tgt := 16) hx hb dJ3_checkIndex_8e157_6 (by decide) (fun _ => ?_) (fun z => absurd ((i3_lt (by omega) (by omega) (by omega) (by omega)).mpr h1) z)
  refine lv_iload_n hx hb dJ3_checkIndex_8e157_16 rfl (lv_at hl 0 rfl) ?_
  exact W.iret hx hb hr (fun t ht _ => ⟨rfl, ht⟩) (fun q h => by cases h) dJ3_checkIndex_8e157_17
set_option maxHeartbeats 4000000 in
set_option maxRecDepth 100000 in
theorem ro_check (l : Launch) (G : WG) (a n : Int) (h0 : 0 ≤ a) (h1 : a < n) (h2 : n ≤ 2147483647) : Met l yJ0_checkIndex_df160 (.code yJ0_checkIndex_df160 cJ0_checkIndex_df160 2 none :: TX) (RM 1) (sPc G ([.int (Int32.ofInt a), .int (Int32.ofInt n)])) (rQ (none)) 0 0 (fun _ => False) := by
  refine Met.ofW (cc := cJ0_checkIndex_df160) (maxL := 2) (ret := none) (by decide) rfl ?_
  intro p e s m args below meth c s₁ B hml hv
  obtain ⟨rfl, hK⟩ := hv
  have hx := B.exec
  have hb := B.bytes
  have hr := B.returns
  have hts : ∀ w ∈ TX, w.before _ s = true := fun w hw => atoms_spec (ws := .code yJ0_checkIndex_df160 cJ0_checkIndex_df160 2 none :: TX) B.pre w (List.mem_cons_of_mem _ hw)
  have hsw : ∀ w ∈ sW, w.before _ s = true := fun w hw => hts w (sW_in w hw)
  have hown : s.vm.findClass "java/lang/String" = some m.cls := findClass_of_methodNamed B.named
  have hlocks := B.notSynchronized
  have hl := lv_entry ([.int (Int32.ofInt a), .int (Int32.ofInt n)]) (n := 2) (Nat.le_of_ble_eq_true rfl)
  rw [lg_entry_eq]
  generalize (lg_sl ([.int (Int32.ofInt a), .int (Int32.ofInt n)]) ++ List.replicate (2 - (lg_sl ([.int (Int32.ofInt a), .int (Int32.ofInt n)])).length) Slot.unset).toArray = ls at hl ⊢
  have hl : lv_has ls 2 [(0, .int (Int32.ofInt a)), (1, .int (Int32.ofInt n))] := hl
  obtain ⟨v, hv0, hZ⟩ := hK.2.2.1.2.2.2
  refine lv_iload_n hx hb dJ0_checkIndex_df160_0 rfl (lv_at hl 0 rfl) ?_
  refine lv_iload_n hx hb dJ0_checkIndex_df160_1 rfl (lv_at hl 1 rfl) ?_
  refine va_gets (A := AD G) hx hb hZ va_S.rf hown (hsw _ (List.mem_of_getElem? (i := 3) rfl)) (fun _ h9 => h9) dJ0_checkIndex_df160_2 ?_
  refine ro_after (va_runS (As := [.int (Int32.ofInt a), .int (Int32.ofInt n), v]) (rest := []) ⟨hx, hb, hml, hown, hts⟩ (ro_pre l G a n v hv0 h0 h1 h2) (va_cwS 3 hts (good_TX (fun w hw => by
    rcases List.mem_append.mp hw with hw | hw
    · simp only [List.mem_cons, List.not_mem_nil, or_false] at hw
      rcases hw with rfl | rfl | rfl
      · exact sW_in _ (List.mem_of_getElem? (i := 20) rfl)
      · exact sW_in _ (List.mem_of_getElem? (i := 21) rfl)
      · exact sW_in _ (List.mem_of_getElem? (i := 22) rfl)
    · exact good_TXc (sW_in _ (List.mem_of_getElem? (i := 23) rfl)) w hw)) rfl rfl rfl (by decide +kernel) ⟨Nat.le_of_ble_eq_true rfl, Nat.le_of_ble_eq_true rfl⟩) ⟨sPc.blind _ _, fun U hU hW => ⟨rfl, hK.refl_warm hU hW⟩⟩ rfl rfl hl.1 rfl (lv_room (Nat.le_of_ble_eq_true rfl)) dJ0_checkIndex_df160_5 ⟨Nat.le_refl _, Nat.le_refl _⟩) ?_
  refine lv_pop (va := .int (Int32.ofInt a)) (rest := []) hx hb dJ0_checkIndex_df160_8 rfl ?_
  exact W.vret hx hb hr (fun t ht _ => ⟨rfl, ht⟩) (fun q h => by cases h) dJ0_checkIndex_df160_9
theorem s_at : ∀ i, i < 7 → sLen.getD i 0 ≤ 1000 ∧ ∀ j, j < sLen.getD i 0 → (((sByt.getD i []).getD j 0 &&& 255).toUInt32 % 65536).toInt32 = Int32.ofInt ((sInt.getD i []).getD j 0) := by decide +kernel
theorem s_fit : ∀ i, i < 7 → ∀ j, j < sLen.getD i 0 → narrow .char (.int (Int32.ofInt ((sInt.getD i []).getD j 0))) = .int (Int32.ofInt ((sInt.getD i []).getD j 0)) := by decide +kernel
set_option maxHeartbeats 4000000 in
set_option maxRecDepth 100000 in
theorem ro_l1 (l : Launch) (G : WG) (i : Nat) (hi : i < 7) (a : Int) (h0 : 0 ≤ a) (h1 : a < (sLen.getD i 0 : Nat)) : Met l yJ1_charAt_3b067 (.code yJ1_charAt_3b067 cJ1_charAt_3b067 2 (some .char) :: TX) (RM 2) (sPc G ([.ref (G.2.2.1 i), .int (Int32.ofInt a)])) (rQ (some (.int (Int32.ofInt ((sInt.getD i []).getD a.toNat 0))))) 0 0 (fun _ => False) := by
  refine Met.ofW (cc := cJ1_charAt_3b067) (maxL := 2) (ret := (some .char)) (by decide) rfl ?_
  intro p e s m args below meth c s₁ B hml hv
  obtain ⟨rfl, hK⟩ := hv
  have hx := B.exec
  have hb := B.bytes
  have hr := B.returns
  have hts : ∀ w ∈ TX, w.before _ s = true := fun w hw => atoms_spec (ws := .code yJ1_charAt_3b067 cJ1_charAt_3b067 2 (some .char) :: TX) B.pre w (List.mem_cons_of_mem _ hw)
  have hsw : ∀ w ∈ sW, w.before _ s = true := fun w hw => hts w (sW_in w hw)
  have hown : s.vm.findClass "java/lang/StringLatin1" = some m.cls := findClass_of_methodNamed B.named
  have hlocks := B.notSynchronized
  have hl := lv_entry ([.ref (G.2.2.1 i), .int (Int32.ofInt a)]) (n := 2) (Nat.le_of_ble_eq_true rfl)
  rw [lg_entry_eq]
  generalize (lg_sl ([.ref (G.2.2.1 i), .int (Int32.ofInt a)]) ++ List.replicate (2 - (lg_sl ([.ref (G.2.2.1 i), .int (Int32.ofInt a)])).length) Slot.unset).toArray = ls at hl ⊢
  have hl : lv_has ls 2 [(0, .ref (G.2.2.1 i)), (1, .int (Int32.ofInt a))] := hl
  have hT := (hK.2.2.1.1.1 i hi).2.2.2
  have hs := s_at i hi
  refine lv_iload_n hx hb dJ1_charAt_3b067_0 rfl (lv_at hl 1 rfl) ?_
  refine lv_aload_n hx hb dJ1_charAt_3b067_1 rfl (lv_at hl 0 rfl) ?_
  refine va_tlen (A := AD G) hx hb hT va_S.rf (v := Int32.ofInt ((sLen.getD i 0 : Nat) : Int)) rfl dJ1_charAt_3b067_2 ?_
  refine ro_after (va_runS (As := [.int (Int32.ofInt a), .int (Int32.ofInt ((sLen.getD i 0 : Nat) : Int))]) (rest := []) ⟨hx, hb, hml, hown, hts⟩ (ro_check l G a ((sLen.getD i 0 : Nat) : Int) h0 h1 (by omega)) (va_cwS 2 hts (good_TX (fun w hw => by
    rcases List.mem_append.mp hw with hw | hw
    · simp only [List.mem_cons, List.not_mem_nil, or_false] at hw
      rcases hw with rfl | rfl | rfl
      · exact sW_in _ (List.mem_of_getElem? (i := 17) rfl)
      · exact sW_in _ (List.mem_of_getElem? (i := 18) rfl)
      · exact sW_in _ (List.mem_of_getElem? (i := 7) rfl)
    · exact good_TXc (sW_in _ (List.mem_of_getElem? (i := 19) rfl)) w hw)) rfl rfl rfl (by decide +kernel) ⟨Nat.le_of_ble_eq_true rfl, Nat.le_of_ble_eq_true rfl⟩) ⟨sPc.blind _ _, fun U hU hW => ⟨rfl, hK.refl_warm hU hW⟩⟩ rfl rfl hl.1 rfl (lv_room (Nat.le_of_ble_eq_true rfl)) dJ1_charAt_3b067_3 ⟨Nat.le_refl _, Nat.le_refl _⟩) ?_
  refine lv_aload_n hx hb dJ1_charAt_3b067_6 rfl (lv_at hl 0 rfl) ?_
  refine lv_iload_n hx hb dJ1_charAt_3b067_7 rfl (lv_at hl 1 rfl) ?_
  refine va_tb (A := AD G) hx hb hT va_S.rf (i3_in h0 h1 (by omega)) (v := .int ((sByt.getD i []).getD a.toNat 0)) (by rw [i3_clamp h0 (by omega)]) dJ1_charAt_3b067_8 ?_
  refine lv_sipush (v := 255) hx hb dJ1_charAt_3b067_9 (by decide) ?_
  refine lv_iand hx hb dJ1_charAt_3b067_12 ?_
  refine lv_i2c (v := Int32.ofInt ((sInt.getD i []).getD a.toNat 0)) hx hb dJ1_charAt_3b067_13 (hs.2 a.toNat (by omega)) ?_
  exact W.zret (ty := .char) hx hb hr (s_fit i hi a.toNat (by omega)) (fun t ht _ => ⟨rfl, ht⟩) (fun q h => by cases h) dJ1_charAt_3b067_14
set_option maxHeartbeats 4000000 in
set_option maxRecDepth 100000 in
theorem ro_length (l : Launch) (G : WG) (i : Nat) (hi : i < 7) : Met l yJ0_length_8abf5 (.code yJ0_length_8abf5 cJ0_length_8abf5 1 (some .int) :: TX) (RM 1) (sPc G ([.ref (G.2.1 (1000 + i))])) (rQ (some (.int (Int32.ofInt ((sLen.getD i 0 : Nat) : Int))))) 0 0 (fun _ => False) := by
  refine Met.ofW (cc := cJ0_length_8abf5) (maxL := 1) (ret := (some .int)) (by decide) rfl ?_
  intro p e s m args below meth c s₁ B hml hv
  obtain ⟨rfl, hK⟩ := hv
  have hx := B.exec
  have hb := B.bytes
  have hr := B.returns
  have hts : ∀ w ∈ TX, w.before _ s = true := fun w hw => atoms_spec (ws := .code yJ0_length_8abf5 cJ0_length_8abf5 1 (some .int) :: TX) B.pre w (List.mem_cons_of_mem _ hw)
  have hsw : ∀ w ∈ sW, w.before _ s = true := fun w hw => hts w (sW_in w hw)
  have hown : s.vm.findClass "java/lang/String" = some m.cls := findClass_of_methodNamed B.named
  have hlocks := B.notSynchronized
  have hl := lv_entry ([.ref (G.2.1 (1000 + i))]) (n := 1) (Nat.le_of_ble_eq_true rfl)
  rw [lg_entry_eq]
  generalize (lg_sl ([.ref (G.2.1 (1000 + i))]) ++ List.replicate (1 - (lg_sl ([.ref (G.2.1 (1000 + i))])).length) Slot.unset).toArray = ls at hl ⊢
  have hl : lv_has ls 1 [(0, .ref (G.2.1 (1000 + i)))] := hl
  have hT := (hK.2.2.1.1.1 i hi).2.2.2
  have hs := s_at i hi
  refine lv_aload_n hx hb dJ0_length_8abf5_0 rfl (lv_at hl 0 rfl) ?_
  refine vk_getf (A := AD G) hx hb (hK.2.2.1.1.1 i hi).2.2.1 va_S.rf hown (hsw _ (List.mem_of_getElem? (i := 2) rfl)) (fun _ h9 => h9) dJ0_length_8abf5_1 ?_
  refine va_tlen (A := AD G) hx hb hT va_S.rf (v := Int32.ofInt ((sLen.getD i 0 : Nat) : Int)) rfl dJ0_length_8abf5_4 ?_
  refine lv_aload_n hx hb dJ0_length_8abf5_5 rfl (lv_at hl 0 rfl) ?_
  refine ro_after (va_runV (As := []) (rest := [.int (Int32.ofInt ((sLen.getD i 0 : Nat) : Int))]) ⟨hx, hb, hml, hown, hts⟩ (ro_coder l G i hi) (cwV (C := "java/lang/String") 0 hts (good_TX (fun w hw => by
    rcases List.mem_append.mp hw with hw | hw
    · simp only [List.mem_cons, List.not_mem_nil, or_false] at hw
      rcases hw with rfl | rfl | rfl | rfl
      · exact sW_in _ (List.mem_of_getElem? (i := 4) rfl)
      · exact sW_in _ (List.mem_of_getElem? (i := 5) rfl)
      · exact sW_in _ (List.mem_of_getElem? (i := 6) rfl)
      · exact sW_in _ (List.mem_of_getElem? (i := 7) rfl)
    · exact good_TXc (sW_in _ (List.mem_of_getElem? (i := 8) rfl)) w hw)) rfl rfl rfl (by decide +kernel) ⟨Nat.le_of_ble_eq_true rfl, Nat.le_of_ble_eq_true rfl⟩) ⟨sPc.blind _ _, vk_recv hK.2.2.1.1 hi va_S.rf, fun U hU hW => ⟨rfl, hK.refl_warm hU hW⟩⟩ rfl rfl hl.1 rfl (lv_room (Nat.le_of_ble_eq_true rfl)) dJ0_length_8abf5_6 ⟨Nat.le_refl _, Nat.le_refl _⟩) ?_
  refine lv_ishr hx hb dJ0_length_8abf5_9 ?_
  rw [show ((0 : Int32)) = Int32.ofInt 0 from rfl, i3_shr (by decide) (by decide) (by omega) (by omega)]
  rw [show (2 : Int) ^ (0 : Int).toNat = 1 from rfl, Int.ediv_one]
  exact W.iret hx hb hr (fun t ht _ => ⟨rfl, ht⟩) (fun q h => by cases h) dJ0_length_8abf5_10
set_option maxHeartbeats 4000000 in
set_option maxRecDepth 100000 in
theorem ro_charAt (l : Launch) (G : WG) (i : Nat) (hi : i < 7) (a : Int) (h0 : 0 ≤ a) (h1 : a < (sLen.getD i 0 : Nat)) : Met l yJ0_charAt_5068e (.code yJ0_charAt_5068e cJ0_charAt_5068e 2 (some .char) :: TX) (RM 3) (sPc G ([.ref (G.2.1 (1000 + i)), .int (Int32.ofInt a)])) (rQ (some (.int (Int32.ofInt ((sInt.getD i []).getD a.toNat 0))))) 0 0 (fun _ => False) := by
  refine Met.ofW (cc := cJ0_charAt_5068e) (maxL := 2) (ret := (some .char)) (by decide) rfl ?_
  intro p e s m args below meth c s₁ B hml hv
  obtain ⟨rfl, hK⟩ := hv
  have hx := B.exec
  have hb := B.bytes
  have hr := B.returns
  have hts : ∀ w ∈ TX, w.before _ s = true := fun w hw => atoms_spec (ws := .code yJ0_charAt_5068e cJ0_charAt_5068e 2 (some .char) :: TX) B.pre w (List.mem_cons_of_mem _ hw)
  have hsw : ∀ w ∈ sW, w.before _ s = true := fun w hw => hts w (sW_in w hw)
  have hown : s.vm.findClass "java/lang/String" = some m.cls := findClass_of_methodNamed B.named
  have hlocks := B.notSynchronized
  have hl := lv_entry ([.ref (G.2.1 (1000 + i)), .int (Int32.ofInt a)]) (n := 2) (Nat.le_of_ble_eq_true rfl)
  rw [lg_entry_eq]
  generalize (lg_sl ([.ref (G.2.1 (1000 + i)), .int (Int32.ofInt a)]) ++ List.replicate (2 - (lg_sl ([.ref (G.2.1 (1000 + i)), .int (Int32.ofInt a)])).length) Slot.unset).toArray = ls at hl ⊢
  have hl : lv_has ls 2 [(0, .ref (G.2.1 (1000 + i))), (1, .int (Int32.ofInt a))] := hl
  have hs := s_at i hi
  refine lv_aload_n hx hb dJ0_charAt_5068e_0 rfl (lv_at hl 0 rfl) ?_
  refine ro_after (va_runV (As := []) (rest := []) ⟨hx, hb, hml, hown, hts⟩ (ro_isLatin1 l G i hi) (cwV (C := "java/lang/String") 0 hts (good_TX (fun w hw => by
    rcases List.mem_append.mp hw with hw | hw
    · simp only [List.mem_cons, List.not_mem_nil, or_false] at hw
      rcases hw with rfl | rfl | rfl | rfl
      · exact sW_in _ (List.mem_of_getElem? (i := 9) rfl)
      · exact sW_in _ (List.mem_of_getElem? (i := 10) rfl)
      · exact sW_in _ (List.mem_of_getElem? (i := 11) rfl)
      · exact sW_in _ (List.mem_of_getElem? (i := 7) rfl)
    · exact good_TXc (sW_in _ (List.mem_of_getElem? (i := 12) rfl)) w hw)) rfl rfl rfl (by decide +kernel) ⟨Nat.le_of_ble_eq_true rfl, Nat.le_of_ble_eq_true rfl⟩) ⟨sPc.blind _ _, vk_recv hK.2.2.1.1 hi va_S.rf, fun U hU hW => ⟨rfl, hK.refl_warm hU hW⟩⟩ rfl rfl hl.1 rfl (lv_room (Nat.le_of_ble_eq_true rfl)) dJ0_charAt_5068e_1 ⟨Nat.le_refl _, Nat.le_refl _⟩) ?_
  refine lv_if_eq (x := 1) (rest := []) (tgt := 16) hx hb dJ0_charAt_5068e_4 (by decide) (fun z => absurd z (by decide)) (fun _ => ?_)
  refine lv_aload_n hx hb dJ0_charAt_5068e_7 rfl (lv_at hl 0 rfl) ?_
  refine vk_getf (A := AD G) hx hb (hK.2.2.1.1.1 i hi).2.2.1 va_S.rf hown (hsw _ (List.mem_of_getElem? (i := 2) rfl)) (fun _ h9 => h9) dJ0_charAt_5068e_8 ?_
  refine lv_iload_n hx hb dJ0_charAt_5068e_11 rfl (lv_at hl 1 rfl) ?_
  refine ro_after (va_runS (As := [.ref (G.2.2.1 i), .int (Int32.ofInt a)]) (rest := []) ⟨hx, hb, hml, hown, hts⟩ (ro_l1 l G i hi a h0 h1) (va_cwS 2 hts (good_TX (fun w hw => by
    rcases List.mem_append.mp hw with hw | hw
    · simp only [List.mem_cons, List.not_mem_nil, or_false] at hw
      rcases hw with rfl | rfl | rfl
      · exact sW_in _ (List.mem_of_getElem? (i := 13) rfl)
      · exact sW_in _ (List.mem_of_getElem? (i := 14) rfl)
      · exact sW_in _ (List.mem_of_getElem? (i := 15) rfl)
    · exact good_TXc (sW_in _ (List.mem_of_getElem? (i := 16) rfl)) w hw)) rfl rfl rfl (by decide +kernel) ⟨Nat.le_of_ble_eq_true rfl, Nat.le_of_ble_eq_true rfl⟩) ⟨sPc.blind _ _, fun U hU hW => ⟨rfl, hK.refl_warm hU hW⟩⟩ rfl rfl hl.1 rfl (lv_room (Nat.le_of_ble_eq_true rfl)) dJ0_charAt_5068e_12 ⟨Nat.le_refl _, Nat.le_refl _⟩) ?_
  exact W.zret (v := Int32.ofInt ((sInt.getD i []).getD a.toNat 0)) (ty := .char) hx hb hr (s_fit i hi a.toNat (by omega)) (fun t ht _ => ⟨rfl, ht⟩) (fun q h => by cases h) dJ0_charAt_5068e_15
