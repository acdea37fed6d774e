/-! ===== static calls, and a stretch of instructions (wip/whole/gen12.py) ===== -/
theorem acP_s {d : Nat} {st : List AV} {σ : SG} {f : List AV → SG → Prop} (h : acP d st σ f) : ∃ n dp q1 sp q0 r n0 n1, st = .inl n :: .inl dp :: .inr (.inr q1) :: .inl sp :: .inr (.inr q0) :: r ∧ cats r ≤ 8 ∧ SH[q0]? = some (.inl (0, n0)) ∧ SH[q1]? = some (.inl (0, n1)) ∧ 0 < d ∧ (0 ≤ sp ∧ 0 ≤ dp ∧ 0 ≤ n ∧ sp + n ≤ n0 ∧ dp + n ≤ n1) ∧ f r (cpy σ q0 q1 sp dp n) := by
  unfold acP at h
  split at h
  · split at h
    · rename_i hb
      obtain ⟨n0, h1, h⟩ := aN_s h
      obtain ⟨n1, h2, h⟩ := aN_s h
      exact ⟨_, _, _, _, _, _, n0, n1, rfl, Nat.le_of_ble_eq_true hb, h1, h2, h⟩
    · exact h.elim
  · exact h.elim
theorem if_i3 {a b : Int} {c : Prop} [Decidable c] {C : Prop} [Decidable C] (h : C ↔ c) : (if C then Int32.ofInt a else Int32.ofInt b) = Int32.ofInt (if c then a else b) := by
  by_cases hc : c
  · rw [if_pos hc, if_pos (h.mpr hc)]
  · rw [if_neg hc, if_neg (fun z => hc (h.mp z))]
theorem if_i6 {a b : Int} {c : Prop} [Decidable c] {C : Prop} [Decidable C] (h : C ↔ c) : (if C then Int64.ofInt a else Int64.ofInt b) = Int64.ofInt (if c then a else b) := by
  by_cases hc : c
  · rw [if_pos hc, if_pos (h.mpr hc)]
  · rw [if_neg hc, if_neg (fun z => hc (h.mp z))]
theorem aw_math0 {d M pc n ix : Nat} {kc : Int} {ls : LV} {st : List AV} {σ : SG} {Q : Option AV → SG → Prop} {F : LV → List AV → SG → Prop} (hk : HK M pc (.invokestatic ix) n [0] kc) (hF : ∀ ls st σ, F ls st σ → AW d M (pc + n) ls st σ Q) (h : wps d (.invokestatic ix) [0] kc pc ls st σ Q (fun pc ls st σ => AW d M pc ls st σ Q) F) : AW d M pc ls st σ Q := by
  intro l G t p e s m args below meth c H locs la ht hlen C hP hS hl
  obtain ⟨hd, hok⟩ := hk t ht
  have hok : (n == 3 && decide (Cond.methodLink (cnm t.2.2.2.2) ix Lib.Math.max.name ∈ TX)) = true := hok
  simp only [Bool.and_eq_true, decide_eq_true_eq, beq_iff_eq] at hok
  obtain ⟨e3, hw⟩ := hok
  subst e3
  obtain ⟨a, b, r, e0, hd0, ⟨ra, rb⟩, hc8, h9⟩ := pII_s h
  subst e0
  have hc := hF _ _ _ h9 l G t p e s m args below meth c H locs la ht hlen C hP hS hl
  have hc8 := Nat.le_of_ble_eq_true hc8
  have hT := C.2.2.2.2.1
  have h13 : ((r.map (cv G.2.1)).map fun v => v.category).sum + 13 ≤ (RM d).locals := by
    rw [cats_s]
    show cats r + 13 ≤ 64 * d
    omega
  refine va_mmax (R := RM d) (x := Int32.ofInt a) (y := Int32.ofInt b) (rest := r.map (cv G.2.1)) C.1 C.2.1 (by rw [C.2.2.1, hl.1]) (own_ok ht C.2.2.2.1) (hT _ hw) (hT (.static Lib.Math.max.name) (ac_words.2 _ (by simp))) (hT (.initialized "java/lang/Math") (ac_words.2 _ (by simp))) (hT (.code Lib.Math.max.name Lib.Math.max.code 2 (some .int)) (ac_words.2 _ (by simp))) hd0 h13 (Nat.le_refl _) (Nat.le_refl _) hd ?_
  rw [if_i3 (i3_lt ra.1 ra.2 rb.1 rb.2)]
  exact hc
theorem aw_math1 {d M pc n ix : Nat} {kc : Int} {ls : LV} {st : List AV} {σ : SG} {Q : Option AV → SG → Prop} {F : LV → List AV → SG → Prop} (hk : HK M pc (.invokestatic ix) n [1] kc) (hF : ∀ ls st σ, F ls st σ → AW d M (pc + n) ls st σ Q) (h : wps d (.invokestatic ix) [1] kc pc ls st σ Q (fun pc ls st σ => AW d M pc ls st σ Q) F) : AW d M pc ls st σ Q := by
  intro l G t p e s m args below meth c H locs la ht hlen C hP hS hl
  obtain ⟨hd, hok⟩ := hk t ht
  have hok : (n == 3 && decide (Cond.methodLink (cnm t.2.2.2.2) ix Lib.Math.min.name ∈ TX)) = true := hok
  simp only [Bool.and_eq_true, decide_eq_true_eq, beq_iff_eq] at hok
  obtain ⟨e3, hw⟩ := hok
  subst e3
  obtain ⟨a, b, r, e0, hd0, ⟨ra, rb⟩, hc8, h9⟩ := pII_s h
  subst e0
  have hc := hF _ _ _ h9 l G t p e s m args below meth c H locs la ht hlen C hP hS hl
  have hc8 := Nat.le_of_ble_eq_true hc8
  have hT := C.2.2.2.2.1
  have h13 : ((r.map (cv G.2.1)).map fun v => v.category).sum + 13 ≤ (RM d).locals := by
    rw [cats_s]
    show cats r + 13 ≤ 64 * d
    omega
  refine va_mmin (R := RM d) (x := Int32.ofInt a) (y := Int32.ofInt b) (rest := r.map (cv G.2.1)) C.1 C.2.1 (by rw [C.2.2.1, hl.1]) (own_ok ht C.2.2.2.1) (hT _ hw) (hT (.static Lib.Math.min.name) (ac_words.2 _ (by simp))) (hT (.initialized "java/lang/Math") (ac_words.2 _ (by simp))) (hT (.code Lib.Math.min.name Lib.Math.min.code 2 (some .int)) (ac_words.2 _ (by simp))) hd0 h13 (Nat.le_refl _) (Nat.le_refl _) hd ?_
  rw [if_i3 (i3_lt rb.1 rb.2 ra.1 ra.2)]
  exact hc
theorem aw_math2 {d M pc n ix : Nat} {kc : Int} {ls : LV} {st : List AV} {σ : SG} {Q : Option AV → SG → Prop} {F : LV → List AV → SG → Prop} (hk : HK M pc (.invokestatic ix) n [2] kc) (hF : ∀ ls st σ, F ls st σ → AW d M (pc + n) ls st σ Q) (h : wps d (.invokestatic ix) [2] kc pc ls st σ Q (fun pc ls st σ => AW d M pc ls st σ Q) F) : AW d M pc ls st σ Q := by
  intro l G t p e s m args below meth c H locs la ht hlen C hP hS hl
  obtain ⟨hd, hok⟩ := hk t ht
  have hok : (n == 3 && decide (Cond.methodLink (cnm t.2.2.2.2) ix Lib.MathLoose.max_long.x ∈ TX)) = true := hok
  simp only [Bool.and_eq_true, decide_eq_true_eq, beq_iff_eq] at hok
  obtain ⟨e3, hw⟩ := hok
  subst e3
  obtain ⟨a, b, r, e0, hd0, ⟨ra, rb⟩, hc8, h9⟩ := pLL_s h
  subst e0
  have hc := hF _ _ _ h9 l G t p e s m args below meth c H locs la ht hlen C hP hS hl
  have hc8 := Nat.le_of_ble_eq_true hc8
  have hT := C.2.2.2.2.1
  have h13 : ((r.map (cv G.2.1)).map fun v => v.category).sum + 15 ≤ (RM d).locals := by
    rw [cats_s]
    show cats r + 15 ≤ 64 * d
    omega
  refine va_mmax_long (R := RM d) (x := Int64.ofInt a) (y := Int64.ofInt b) (rest := r.map (cv G.2.1)) C.1 C.2.1 (by rw [C.2.2.1, hl.1]) (own_ok ht C.2.2.2.1) (hT _ hw) (hT (.static Lib.MathLoose.max_long.x) (ac_words.2 _ (by simp))) (hT (.initialized "java/lang/Math") (ac_words.2 _ (by simp))) (hT (.code Lib.MathLoose.max_long.x Lib.MathLoose.max_long.code 4 (some .long)) (ac_words.2 _ (by simp))) hd0 h13 (Nat.le_refl _) (Nat.le_refl _) hd ?_
  rw [if_i6 (i6_lt rb.1 rb.2 ra.1 ra.2)]
  exact hc
theorem aw_math3 {d M pc n ix : Nat} {kc : Int} {ls : LV} {st : List AV} {σ : SG} {Q : Option AV → SG → Prop} {F : LV → List AV → SG → Prop} (hk : HK M pc (.invokestatic ix) n [3] kc) (hF : ∀ ls st σ, F ls st σ → AW d M (pc + n) ls st σ Q) (h : wps d (.invokestatic ix) [3] kc pc ls st σ Q (fun pc ls st σ => AW d M pc ls st σ Q) F) : AW d M pc ls st σ Q := by
  intro l G t p e s m args below meth c H locs la ht hlen C hP hS hl
  obtain ⟨hd, hok⟩ := hk t ht
  have hok : (n == 3 && decide (Cond.methodLink (cnm t.2.2.2.2) ix Lib.MathLoose.min_long.x ∈ TX)) = true := hok
  simp only [Bool.and_eq_true, decide_eq_true_eq, beq_iff_eq] at hok
  obtain ⟨e3, hw⟩ := hok
  subst e3
  obtain ⟨a, b, r, e0, hd0, ⟨ra, rb⟩, hc8, h9⟩ := pLL_s h
  subst e0
  have hc := hF _ _ _ h9 l G t p e s m args below meth c H locs la ht hlen C hP hS hl
  have hc8 := Nat.le_of_ble_eq_true hc8
  have hT := C.2.2.2.2.1
  have h13 : ((r.map (cv G.2.1)).map fun v => v.category).sum + 15 ≤ (RM d).locals := by
    rw [cats_s]
    show cats r + 15 ≤ 64 * d
    omega
  refine va_mmin_long (R := RM d) (x := Int64.ofInt a) (y := Int64.ofInt b) (rest := r.map (cv G.2.1)) C.1 C.2.1 (by rw [C.2.2.1, hl.1]) (own_ok ht C.2.2.2.1) (hT _ hw) (hT (.static Lib.MathLoose.min_long.x) (ac_words.2 _ (by simp))) (hT (.initialized "java/lang/Math") (ac_words.2 _ (by simp))) (hT (.code Lib.MathLoose.min_long.x Lib.MathLoose.min_long.code 4 (some .long)) (ac_words.2 _ (by simp))) hd0 h13 (Nat.le_refl _) (Nat.le_refl _) hd ?_
  rw [if_i6 (i6_lt rb.1 rb.2 ra.1 ra.2)]
  exact hc
theorem aw_invokestatic {d M pc n ix : Nat} {hs : List Nat} {kc : Int} {ls : LV} {st : List AV} {σ : SG} {Q : Option AV → SG → Prop} {F : LV → List AV → SG → Prop} (hk : HK M pc (.invokestatic ix) n hs kc) (hF : ∀ ls st σ, F ls st σ → AW d M (pc + n) ls st σ Q) (h : wps d (.invokestatic ix) hs kc pc ls st σ Q (fun pc ls st σ => AW d M pc ls st σ Q) F) : AW d M pc ls st σ Q := by
  rcases hs with _ | ⟨M', _ | ⟨k, _ | ⟨ml, _ | ⟨z, hs⟩⟩⟩⟩
  · intro l G t p e s m args below meth c H locs la ht hlen C hP hS hl
    obtain ⟨hd, hok⟩ := hk t ht
    have hok : (n == 3 && decide (Cond.methodLink (cnm t.2.2.2.2) ix arraycopyName ∈ TX)) = true := hok
    simp only [Bool.and_eq_true, decide_eq_true_eq, beq_iff_eq] at hok
    obtain ⟨e3, hw⟩ := hok
    subst e3
    obtain ⟨k, dp, q1, sp, q0, r, n0, n1, e0, hc8, hs0, hs1, hd0, ⟨g1, g2, g3, g4, g5⟩, h9⟩ := acP_s h
    subst e0
    have hn0 := sh_arr hs0
    have hn1 := sh_arr hs1
    have hT := C.2.2.2.2.1
    have hnat : ((r.map (cv G.2.1)).map fun v => v.category).sum + (nativeFrameWords "java/lang/System" "arraycopy" 5 + 11) ≤ (RM d).locals := by
      have : nativeFrameWords "java/lang/System" "arraycopy" 5 ≤ 40 := by decide +kernel
      rw [cats_s]
      show cats r + (nativeFrameWords "java/lang/System" "arraycopy" 5 + 11) ≤ 64 * d
      omega
    refine va_copyi (R := RM d) (D := G.1) (cl := vwCl) (tys := tyL G) (ws := wd G σ) (A := AD G) (H0 := s.heap) (ty := .int) (sp := Int32.ofInt sp) (dp := Int32.ofInt dp) (n := Int32.ofInt k) (rest := r.map (cv G.2.1)) C.1 C.2.1 (by rw [C.2.2.1, hl.1]) (own_ok ht C.2.2.2.1) (hT _ hw) (hT _ (ac_words.1 _ (by simp))) (hT _ (ac_words.1 _ (by simp))) (hT _ (ac_words.1 _ (by simp))) C.2.2.2.2.2.2.2.1 hP (wd_D C.2.2.2.2.2.2.2.2.2.2) hS q0 q1 0 0 (wd_get G σ q0 hs0) (wd_get G σ q1 hs1) rfl rfl rfl (i3_nneg g1 (by omega)) (i3_nneg g2 (by omega)) (i3_nneg g3 (by omega)) (by rw [i3_clamp g1 (by omega), i3_clamp g3 (by omega)]; omega) (by rw [i3_clamp g2 (by omega), i3_clamp g3 (by omega)]; omega) (fun _ _ => rfl) hd0 hnat hd (fun H1 locs1 hP1 _ hS1 => ?_)
    rw [i3_clamp g1 (by omega), i3_clamp g2 (by omega), i3_clamp g3 (by omega), wd_cpy hs1 g1 g2 g3] at hP1
    exact hF _ _ _ h9 l G t p e s m args below meth c H1 locs1 la ht hlen C hP1 hS1 hl
  · rcases M' with _ | _ | _ | _ | M'
    · exact aw_math0 hk hF h
    · exact aw_math1 hk hF h
    · exact aw_math2 hk hF h
    · exact aw_math3 hk hF h
    · exact False.elim h
  · rcases M' with _ | _ | _ | _ | M' <;> exact False.elim h
  · have h : clP d M' k ml st σ (fun st σ => F ls st σ) := by
      rcases M' with _ | _ | _ | _ | M' <;> exact h
    intro l G t p e s m args below meth c H locs la ht hlen C hP hS hl
    obtain ⟨hd, hok⟩ := hk t ht
    obtain ⟨hc8, hsl, htk, hd0, hA⟩ := clP_s h
    have hok : (n == 3 && (match MT[M']? with
      | some t' => decide (t'.2.2.1 = ml) && decide (t'.2.2.2.2 ≠ 11) && npar t'.1 k && decide (M' ∈ SM) && okC t.2.2.2.2 ix M'
      | none => false)) = true := by
      rcases M' with _ | _ | _ | _ | M' <;> exact hok
    cases ht' : MT[M']? with
    | none =>
      rw [ht'] at hok
      simp at hok
    | some t' =>
      rw [ht'] at hok
      simp only [Bool.and_eq_true, decide_eq_true_eq, beq_iff_eq, npar, okC, Bool.or_eq_true] at hok
      obtain ⟨e3, ⟨⟨⟨e4, e5⟩, e7⟩, e9⟩, e11⟩ := hok
      subst e3
      subst e4
      obtain ⟨hpl, hcl, hml, hnn, hic⟩ := mt_ok ht'
      have hM := AW.met ht' e5 hsl hA l G
      have hst : st.map (cv G.2.1) = ((st.take k).reverse.map (cv G.2.1)).reverse ++ (st.drop k).map (cv G.2.1) := by
        conv => lhs; rw [← List.take_append_drop k st]
        simp
      have hlen2 : ((st.take k).reverse.map (cv G.2.1)).length = k := by simp; rw [List.length_take] at htk; omega
      have hsta : (Cond.static t'.1) ∈ TX := by
        have := tx_SM e9
        unfold swS at this
        rwa [yOf_s ht'] at this
      have hws : ∀ w ∈ mw t' :: TX, w ∈ TX := fun w hw => (List.mem_cons.mp hw).elim (fun z => by rw [z]; exact mw_TX ht') id
      have hpre : PreS s H (PC G (st.take k).reverse σ) ((st.take k).reverse.map (cv G.2.1)) := ⟨PC.blind _ _ _, fun U hU hW => ⟨rfl, by rw [hU]; exact hP, C.2.2.2.2.2.2.2.warm hS hU hW⟩⟩
      have hroom : 2 * (F0 m pc la (st.map (cv G.2.1))).monitorRoom + (((st.drop k).map (cv G.2.1)).map fun v => v.category).sum ≤ 8 := lv_room (by rw [cats_s]; exact hc8)
      have hK : ∀ (r : Option AV) (σ' : SG) (H1 : Heap) (locs1 : List Loc), F ls (rtS r (st.drop k)) σ' → va_P G.1 vwCl (wd G σ') H1 → va_S (AD G) s.heap H1 locs1 → (∀ q : Nat, q < H.size → ¬ AD G q → H1[q]? = H[q]?) → W p l e (RM d) s m args below meth c H1 locs1 0 0 (MQ below (QC G (RTQ t Q)) args s 0 0 (AD G)) (F0 m (pc + 3) la ((r.map (cv G.2.1)).toList ++ (st.drop k).map (cv G.2.1))) := by
        intro r σ' H1 locs1 hf hP1 hS1 _
        rw [← rtS_s]
        exact hF _ _ _ hf l G t p e s m args below meth c H1 locs1 la ht hlen C hP1 hS1 hl
      rcases e11 with e11 | e11
      · have hlk : Cond.methodLink (cnm t.2.2.2.2) ix t'.1 ∈ TX := by
          have := tx_CT e11
          unfold cwL at this
          rwa [yOf_s ht'] at this
        refine aw_after (va_runS (As := (st.take k).reverse.map (cv G.2.1)) (rest := (st.drop k).map (cv G.2.1)) (g := F0 m pc la (st.map (cv G.2.1))) ⟨C.1, C.2.1, C.2.2.1, own_ok ht C.2.2.2.1, C.2.2.2.2.1⟩ hM (va_cwS k C.2.2.2.2.1 (good_TX ?_) rfl rfl rfl ⟨hnn.1, hnn.2, e7⟩ (rm_ok hd0 hml)) hpre rfl hlen2 hl.1 hst hroom hd ⟨Nat.le_refl _, Nat.le_refl _⟩) hS (fun q h => h) hK
        intro w hw
        rcases List.mem_append.mp hw with hw | hw
        · simp only [List.mem_cons, List.not_mem_nil, or_false] at hw
          rcases hw with rfl | rfl | rfl
          · exact hlk
          · exact hsta
          · exact init_TX ht'
        · exact hws w hw
      · have hlk : va_Nw (.methodLinkNest (cnm t.2.2.2.2) ix t'.1 RX8) s := by
          have := C.2.2.2.2.2.2.2.2.1 _ (tn_CNT e11)
          unfold cwN at this
          rwa [yOf_s ht'] at this
        exact aw_after (va_runSN (As := (st.take k).reverse.map (cv G.2.1)) (rest := (st.drop k).map (cv G.2.1)) (g := F0 m pc la (st.map (cv G.2.1))) ⟨C.1, C.2.1, C.2.2.1, own_ok ht C.2.2.2.1, C.2.2.2.2.1⟩ hM ⟨va_cnB k C.2.2.2.2.1 (good_TX hws) rfl rfl rfl hlk (C.2.2.2.2.1 _ (init_TX ht')) ⟨hnn.1, hnn.2, e7⟩ (rm_ok hd0 hml), C.2.2.2.2.1 _ hsta, trivial⟩ hpre rfl hlen2 hl.1 hst hroom hd ⟨Nat.le_refl _, Nat.le_refl _⟩) hS (fun q h => h) hK
  · rcases M' with _ | _ | _ | _ | M' <;> exact False.elim h
theorem wps_sound {d M pc n : Nat} {i : Instr} {hs : List Nat} {kc : Int} {ls : LV} {st : List AV} {σ : SG} {Q : Option AV → SG → Prop} {F : LV → List AV → SG → Prop} (hk : HK M pc i n hs kc) (hF : ∀ ls st σ, F ls st σ → AW d M (pc + n) ls st σ Q) (h : wps d i hs kc pc ls st σ Q (fun pc ls st σ => AW d M pc ls st σ Q) F) : AW d M pc ls st σ Q := by
  cases i
  case iconst => exact aw_iconst hk hF h
  case bipush => exact aw_bipush hk hF h
  case sipush => exact aw_sipush hk hF h
  case lconst => exact aw_lconst hk hF h
  case ldc => exact aw_ldc hk hF h
  case ldc_w => exact aw_ldc_w hk hF h
  case ldc2_w => exact aw_ldc2_w hk hF h
  case iload => exact aw_iload hk hF h
  case iload_n => exact aw_iload_n hk hF h
  case lload => exact aw_lload hk hF h
  case lload_n => exact aw_lload_n hk hF h
  case aload => exact aw_aload hk hF h
  case aload_n => exact aw_aload_n hk hF h
  case istore => exact aw_istore hk hF h
  case istore_n => exact aw_istore_n hk hF h
  case lstore => exact aw_lstore hk hF h
  case lstore_n => exact aw_lstore_n hk hF h
  case astore => exact aw_astore hk hF h
  case astore_n => exact aw_astore_n hk hF h
  case iinc => exact aw_iinc hk hF h
  case iadd => exact aw_iadd hk hF h
  case isub => exact aw_isub hk hF h
  case imul => exact aw_imul hk hF h
  case iand => exact aw_iand hk hF h
  case ior => exact aw_ior hk hF h
  case ixor => exact aw_ixor hk hF h
  case idiv => exact aw_idiv hk hF h
  case irem => exact aw_irem hk hF h
  case ineg => exact aw_ineg hk hF h
  case ishl => exact aw_ishl hk hF h
  case ishr => exact aw_ishr hk hF h
  case iushr => exact aw_iushr hk hF h
  case ladd => exact aw_ladd hk hF h
  case lsub => exact aw_lsub hk hF h
  case lmul => exact aw_lmul hk hF h
  case ldiv => exact aw_ldiv hk hF h
  case lrem => exact aw_lrem hk hF h
  case lcmp => exact aw_lcmp hk hF h
  case i2l => exact aw_i2l hk hF h
  case l2i => exact aw_l2i hk hF h
  case dup => exact aw_dup hk hF h
  case pop => exact aw_pop hk hF h
  case dup2 => exact aw_dup2 hk hF h
  case if_icmp => exact aw_if_icmp hk hF h
  case ifCond => exact aw_ifCond hk hF h
  case getfield => exact aw_getfield hk hF h
  case putfield => exact aw_putfield hk hF h
  case iaload => exact aw_iaload hk hF h
  case laload => exact aw_laload hk hF h
  case caload => exact aw_caload hk hF h
  case iastore => exact aw_iastore hk hF h
  case lastore => exact aw_lastore hk hF h
  case arraylength => exact aw_arraylength hk hF h
  case invokevirtual => exact aw_invokevirtual hk hF h
  case invokestatic => exact aw_invokestatic hk hF h
  case lreturn => exact aw_lreturn hk h
  case goto => exact aw_goto (F := F) hk h
  case tableswitch => exact aw_tableswitch (F := F) hk h
  case lookupswitch => exact aw_lookupswitch (F := F) hk h
  case ireturn => exact aw_ireturn (F := F) hk h
  case return_ => exact aw_return hk h
  all_goals exact False.elim h
theorem chkT_s {t : MTE} {pc : Nat} {i : Instr} {n : Nat} {hs : List Nat} {kc : Int} {bs : List BI} (h : chkT t pc ((i, n, hs, kc) :: bs) = true) : (dcd t.2.1 pc i n hs kc ∧ okI t.2.2.2.2 t.2.2.2.1 i n hs kc pc = true) ∧ chkT t (pc + n) bs = true := by
  have h : ((dcB t.2.1 pc i n hs kc && okI t.2.2.2.2 t.2.2.2.1 i n hs kc pc) && chkT t (pc + n) bs) = true := h
  rw [Bool.and_eq_true, Bool.and_eq_true] at h
  exact ⟨⟨dcB_s h.1.1, h.1.2⟩, h.2⟩
theorem AW.blkT {d M : Nat} {t : MTE} (ht : MT[M]? = some t) {Q : Option AV → SG → Prop} : ∀ (bs : List BI) {pc : Nat} {ls : LV} {st : List AV} {σ : SG}, chkT t pc bs = true → wpl d M Q bs pc ls st σ → AW d M pc ls st σ Q
  | [], pc, ls, st, σ, _, h => h
  | (i, n, hs, kc) :: bs, pc, ls, st, σ, hc, h => by
    obtain ⟨hk, hc2⟩ := chkT_s hc
    exact wps_sound (fun t' ht' => by cases ht.symm.trans ht'; exact hk) (fun ls st σ z => AW.blkT ht bs hc2 z) h
/-- A STRETCH OF INSTRUCTIONS: what must hold ahead of it is computed -/
theorem AW.blk {d M : Nat} {Q : Option AV → SG → Prop} (bs : List BI) {pc : Nat} {ls : LV} {st : List AV} {σ : SG} (hc : chk M pc bs = true) (h : wpl d M Q bs pc ls st σ) : AW d M pc ls st σ Q := by
  unfold chk at hc
  split at hc
  · rename_i t ht
    exact AW.blkT ht bs hc h
  · cases hc
