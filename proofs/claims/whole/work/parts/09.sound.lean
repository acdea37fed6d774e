/-! ===== what a stretch of instructions must be, and that it is so ===== -/
def npar (y : MethodName) (k : Nat) : Bool := decide ((parseMethodDescriptor y.desc).map (fun d => d.parameters.length) = some k)
def okC (cn ix M : Nat) : Bool := decide ((cn, ix, M) ∈ CT) || decide ((cn, ix, M) ∈ CNT)
def okI (cn : Nat) (ret : Option FieldType) (i : Instr) (n : Nat) (hs : List Nat) (kc : Int) (pc : Nat) : Bool := match i with
  | .bipush x => n == 2 && (decide (-128 ≤ x) && decide (x ≤ 127))
  | .sipush x => n == 3 && (decide (-32768 ≤ x) && decide (x ≤ 32767))
  | .ldc ix => n == 2 && (match hs with
    | [q] => decide ((cn, ix, q) ∈ KS)
    | _ => decide ((cn, ix, kc) ∈ KI))
  | .ldc_w ix => n == 3 && decide ((cn, ix, kc) ∈ KI)
  | .ldc2_w ix => n == 3 && decide ((cn, ix, kc) ∈ KL)
  | .iload _ | .lload _ | .aload _ | .istore _ | .lstore _ | .astore _ => n == 2
  | .iinc _ _ => n == 3
  | .if_icmp _ off | .ifCond _ off | .goto off => n == 3 && (match hs with
    | [t] => decide ((pc : Int) + off = (t : Int))
    | _ => false)
  | .tableswitch df lo hi os => (match hs with
    | t :: ts => decide ((pc : Int) + df = (t : Int)) && (decide (os.toList.map (fun o => (pc : Int) + o) = ts.map Int.ofNat) && decide (hi + 1 = lo + ts.length))
    | _ => false)
  | .lookupswitch df ps => (match hs with
    | t :: ts => decide ((pc : Int) + df = (t : Int)) && (decide (ps.toList.map (fun o => (pc : Int) + o.2) = ts.map Int.ofNat) && (ps.toList.zip (ps.toList.drop 1)).all (fun (a, next) => a.1 < next.1))
    | _ => false)
  | .lcmp => n == 4 && (match hs with
    | [_, t] => decide (((pc + 1 : Nat) : Int) + kc = (t : Int))
    | _ => false)
  | .getfield ix => n == 3 && (match hs with
    | [ci, k] => decide ((cn, ix, ci, k) ∈ FT) || decide ((cn, ix, ci, k) ∈ FN)
    | _ => false)
  | .putfield ix => n == 3 && (match hs with
    | [ci, k] => (decide ((cn, ix, ci, k) ∈ FT) || decide ((cn, ix, ci, k) ∈ FN)) && (match vwCl[ci]? with
      | some q => !(q.2.1 k).2.2.2
      | none => false)
    | _ => false)
  | .ireturn => n == 1 && (match hs with
    | [] => decide (ret = some .int)
    | [1] => decide (ret = some .boolean)
    | _ => false)
  | .lreturn => n == 1 && decide (ret = some .long)
  | .return_ => n == 1 && decide (ret = none)
  | .invokevirtual ix => n == 3 && (match hs with
    | [M, k, ml, ci] => (match MT[M]? with
      | some t => decide (t.2.2.1 = ml) && decide (t.2.2.2.2 = ci) && decide (ci < 10) && npar t.1 (k - 1) && decide (1 ≤ k) && decide (M ∈ VM) && decide (M ∈ EM) && okC cn ix M
      | none => false)
    | _ => false)
  | .invokestatic ix => n == 3 && (match hs with
    | [M, k, ml] => (match MT[M]? with
      | some t => decide (t.2.2.1 = ml) && decide (t.2.2.2.2 ≠ 11) && npar t.1 k && decide (M ∈ SM) && okC cn ix M
      | none => false)
    | [] => decide (Cond.methodLink (cnm cn) ix arraycopyName ∈ TX)
    | [0] => decide (Cond.methodLink (cnm cn) ix Lib.Math.max.name ∈ TX)
    | [1] => decide (Cond.methodLink (cnm cn) ix Lib.Math.min.name ∈ TX)
    | [2] => decide (Cond.methodLink (cnm cn) ix Lib.MathLoose.max_long.x ∈ TX)
    | [3] => decide (Cond.methodLink (cnm cn) ix Lib.MathLoose.min_long.x ∈ TX)
    | _ => false)
  | _ => n == 1
def dcB (cc : ByteArray) (pc : Nat) (i : Instr) (n : Nat) (hs : List Nat) (kc : Int) : Bool := match i with
  | .lcmp => decide (decode cc pc = .ok (.lcmp, 1)) && decide (decode cc (pc + 1) = .ok (.ifCond (cOf (hs.headD 0)) kc, 3))
  | i => decide (decode cc pc = .ok (i, n))
def dcd (cc : ByteArray) (pc : Nat) (i : Instr) (n : Nat) (hs : List Nat) (kc : Int) : Prop := match i with
  | .lcmp => decode cc pc = .ok (.lcmp, 1) ∧ decode cc (pc + 1) = .ok (.ifCond (cOf (hs.headD 0)) kc, 3)
  | i => decode cc pc = .ok (i, n)
theorem dcB_s {cc : ByteArray} {pc : Nat} {i : Instr} {n : Nat} {hs : List Nat} {kc : Int} (h : dcB cc pc i n hs kc = true) : dcd cc pc i n hs kc := by
  unfold dcB at h
  unfold dcd
  split at h
  · rw [Bool.and_eq_true] at h
    exact ⟨of_decide_eq_true h.1, of_decide_eq_true h.2⟩
  · exact of_decide_eq_true h
def chkT (t : MTE) : Nat → List BI → Bool
  | _, [] => true
  | pc, (i, n, hs, kc) :: bs => (dcB t.2.1 pc i n hs kc && okI t.2.2.2.2 t.2.2.2.1 i n hs kc pc) && chkT t (pc + n) bs
def chk (M : Nat) (pc : Nat) (bs : List BI) : Bool := match MT[M]? with
  | some t => chkT t pc bs
  | none => false
set_option maxRecDepth 100000 in
theorem ac_words : (∀ w ∈ ([.native arraycopyName, .static arraycopyName, .initialized "java/lang/System"] : List Cond), w ∈ TX) ∧ (∀ w ∈ ([.static Lib.Math.max.name, .static Lib.Math.min.name, .static Lib.MathLoose.max_long.x, .static Lib.MathLoose.min_long.x, .initialized "java/lang/Math", .code Lib.Math.max.name Lib.Math.max.code 2 (some .int), .code Lib.Math.min.name Lib.Math.min.code 2 (some .int), .code Lib.MathLoose.max_long.x Lib.MathLoose.max_long.code 4 (some .long), .code Lib.MathLoose.min_long.x Lib.MathLoose.min_long.code 4 (some .long)] : List Cond), w ∈ TX) := by decide +kernel
theorem las_st1 {ad : Nat → Nat} {ls : LV} {i : Nat} {v : AV} {k : LV → Prop} (h : st1 ls i v k) : i < ls.length ∧ k (ls.set i (some v)) ∧ ∀ q ∈ las ad (ls.set i (some v)), q ∈ (i, cv ad v) :: (las ad ls).filter (fun q => !(q.1 == i) && !(q.1 + 1 == i && q.2.category == 2)) := by
  unfold st1 at h
  split at h
  · rename_i hb
    rw [Bool.and_eq_true] at hb
    have hi : i < ls.length := Nat.le_of_ble_eq_true hb.1
    refine ⟨hi, h, fun q hq => ?_⟩
    obtain ⟨u, h1, h2⟩ := las_mem.mp hq
    obtain ⟨j, w⟩ := q
    dsimp only at h1 h2
    subst h2
    by_cases hj : j = i
    · subst hj
      rw [List.getElem?_set_self hi] at h1
      cases h1
      exact List.mem_cons_self
    · rw [List.getElem?_set_ne (Ne.symm hj)] at h1
      refine List.mem_cons_of_mem _ (List.mem_filter.mpr ⟨las_mem.mpr ⟨u, h1, rfl⟩, ?_⟩)
      have h3 : ¬ (j + 1 = i ∧ (cv ad u).category = 2) := by
        rintro ⟨rfl, hc⟩
        have hl : isLong ls[j]? = false := by
          have := hb.2
          simpa using this
        rw [h1] at hl
        rcases u with x | x | x
        · simp [cv, Value.category] at hc
        · simp [isLong] at hl
        · simp [cv, Value.category] at hc
      simp only [Bool.and_eq_true, Bool.not_eq_true', beq_eq_false_iff_ne, Bool.and_eq_false_iff]
      refine ⟨hj, ?_⟩
      by_cases h4 : j + 1 = i
      · right
        intro h5
        exact h3 ⟨h4, h5⟩
      · left
        exact h4
  · exact h.elim
theorem las_st2 {ad : Nat → Nat} {ls : LV} {i : Nat} {v : AV} {k : LV → Prop} (h : st2 ls i v k) : i + 1 < ls.length ∧ k ((ls.set i (some v)).set (i + 1) none) ∧ ∀ q ∈ las ad ((ls.set i (some v)).set (i + 1) none), q ∈ (i, cv ad v) :: (las ad ls).filter (fun q => !(q.1 == i) && (!(q.1 == i + 1) && !(q.1 + 1 == i && q.2.category == 2))) := by
  unfold st2 at h
  split at h
  · rename_i hb
    rw [Bool.and_eq_true] at hb
    have hi : i + 1 < ls.length := Nat.le_of_ble_eq_true hb.1
    refine ⟨hi, h, fun q hq => ?_⟩
    obtain ⟨u, h1, h2⟩ := las_mem.mp hq
    obtain ⟨j, w⟩ := q
    dsimp only at h1 h2
    subst h2
    by_cases hj1 : j = i + 1
    · subst hj1
      rw [List.getElem?_set_self (by rw [List.length_set]; exact hi)] at h1
      cases h1
    · rw [List.getElem?_set_ne (Ne.symm hj1)] at h1
      by_cases hj : j = i
      · subst hj
        rw [List.getElem?_set_self (by omega)] at h1
        cases h1
        exact List.mem_cons_self
      · rw [List.getElem?_set_ne (Ne.symm hj)] at h1
        refine List.mem_cons_of_mem _ (List.mem_filter.mpr ⟨las_mem.mpr ⟨u, h1, rfl⟩, ?_⟩)
        have h3 : ¬ (j + 1 = i ∧ (cv ad u).category = 2) := by
          rintro ⟨rfl, hc⟩
          have hl : isLong ls[j]? = false := by
            have := hb.2
            simpa using this
          rw [h1] at hl
          rcases u with x | x | x
          · simp [cv, Value.category] at hc
          · simp [isLong] at hl
          · simp [cv, Value.category] at hc
        simp only [Bool.and_eq_true, Bool.not_eq_true', beq_eq_false_iff_ne, Bool.and_eq_false_iff]
        refine ⟨hj, hj1, ?_⟩
        by_cases h4 : j + 1 = i
        · right
          intro h5
          exact h3 ⟨h4, h5⟩
        · left
          exact h4
  · exact h.elim
theorem fs_set {ad : Nat → Nat} {f f' : Int → Int} {ks : List (Nat × Nat)} {k : Nat} {kd : Nat × Nat} {v : Value} (hk : ks[k]? = some kd) (hv : v = fv ad (f' (k : Int)) kd) (ho : ∀ j : Nat, j ≠ k → f' (j : Int) = f (j : Int)) : (ks.mapIdx fun j kd => fv ad (f (j : Int)) kd).set k v = ks.mapIdx fun j kd => fv ad (f' (j : Int)) kd := by
  apply List.ext_getElem?
  intro j
  by_cases hj : j = k
  · subst hj
    rw [List.getElem?_set_self (by rw [List.length_mapIdx]; exact (List.getElem?_eq_some_iff.mp hk).1), List.getElem?_mapIdx, hk, hv]
    rfl
  · rw [List.getElem?_set_ne (Ne.symm hj), List.getElem?_mapIdx, List.getElem?_mapIdx, ho j hj]
theorem up_row {σ : SG} {p : Nat} {i v : Int} {j : Nat} (h : (j : Int) ≠ i) : up σ p i v p (j : Int) = σ p (j : Int) := up_i h
theorem wd_putf {G : WG} {σ : SG} {p ci k : Nat} {ks : List (Nat × Nat)} {kd : Nat × Nat} {x : Int} {v : Value} (h : SH[p]? = some (.inr (ci, ks))) (hk : ks[k]? = some kd) (hv : v = fv G.2.1 x kd) : (wd G σ).set p (G.2.1 p, .inr (ci, (ks.mapIdx fun j kd => fv G.2.1 (σ p (j : Int)) kd).set k v)) = wd G (up σ p (k : Int) x) := by
  rw [fs_set (f' := up σ p (k : Int) x p) hk (by rw [hv, up_at]) (fun j hj => up_row (by omega))]
  show (wd G σ).set p (G.2.1 p, ce G (up σ p (k : Int) x p) (.inr (ci, ks))) = _
  rw [wd_set (σ := σ) (σ' := up σ p (k : Int) x) h (fun j hj => up_pf hj)]
theorem wd_puti {G : WG} {σ : SG} {p n : Nat} {i x : Int} (h : SH[p]? = some (.inl (0, n))) (hi : 0 ≤ i) : (wd G σ).set p (G.2.1 p, .inl (G.2.2.2.1, n, .inl (upd (fun k => Int32.ofInt (σ p (k : Int))) i.toNat (Int32.ofInt x)))) = wd G (up σ p i x) := by
  have e : (upd (fun k => Int32.ofInt (σ p (k : Int))) i.toNat (Int32.ofInt x)) = fun k : Nat => Int32.ofInt (up σ p i x p (k : Int)) := by
    funext k
    unfold upd
    split
    · rename_i hk
      subst hk
      rw [show ((i.toNat : Nat) : Int) = i by omega, up_at]
    · rename_i hk
      rw [up_row (by omega)]
  rw [e]
  show (wd G σ).set p (G.2.1 p, ce G (up σ p i x p) (.inl (0, n))) = _
  rw [wd_set (σ := σ) (σ' := up σ p i x) h (fun j hj => up_pf hj)]
theorem wd_putl {G : WG} {σ : SG} {p n : Nat} {i x : Int} (h : SH[p]? = some (.inl (1, n))) (hi : 0 ≤ i) : (wd G σ).set p (G.2.1 p, .inl (G.2.2.2.2.1, n, .inr (.inl (vp_updL (fun k => Int64.ofInt (σ p (k : Int))) i.toNat (Int64.ofInt x))))) = wd G (up σ p i x) := by
  have e : (vp_updL (fun k => Int64.ofInt (σ p (k : Int))) i.toNat (Int64.ofInt x)) = fun k : Nat => Int64.ofInt (up σ p i x p (k : Int)) := by
    funext k
    unfold vp_updL
    split
    · rename_i hk
      subst hk
      rw [show ((i.toNat : Nat) : Int) = i by omega, up_at]
    · rename_i hk
      rw [up_row (by omega)]
  rw [e]
  show (wd G σ).set p (G.2.1 p, ce G (up σ p i x p) (.inl (1, n))) = _
  rw [wd_set (σ := σ) (σ' := up σ p i x) h (fun j hj => up_pf hj)]
theorem wd_cpy {G : WG} {σ : SG} {q0 q1 n1 : Nat} {sp dp n : Int} (h : SH[q1]? = some (.inl (0, n1))) (h1 : 0 ≤ sp) (h2 : 0 ≤ dp) (h3 : 0 ≤ n) : (wd G σ).set q1 (G.2.1 q1, .inl (G.2.2.2.1, n1, .inl (va_cpy (fun k => Int32.ofInt (σ q0 (k : Int))) (fun k => Int32.ofInt (σ q1 (k : Int))) sp.toNat dp.toNat n.toNat))) = wd G (cpy σ q0 q1 sp dp n) := by
  have e : (va_cpy (fun k => Int32.ofInt (σ q0 (k : Int))) (fun k => Int32.ofInt (σ q1 (k : Int))) sp.toNat dp.toNat n.toNat) = fun k : Nat => Int32.ofInt (cpy σ q0 q1 sp dp n q1 (k : Int)) := by
    funext k
    by_cases hk : dp.toNat ≤ k ∧ k < dp.toNat + n.toNat
    · rw [pk_cpy_in hk.1 hk.2]
      unfold cpy
      rw [if_pos ⟨rfl, by omega, by omega⟩]
      congr 2
      omega
    · rw [pk_cpy_out (by omega)]
      unfold cpy
      rw [if_neg (fun z => hk ⟨by omega, by omega⟩)]
  rw [e]
  show (wd G σ).set q1 (G.2.1 q1, ce G (cpy σ q0 q1 sp dp n q1) (.inl (0, n1))) = _
  rw [wd_set (σ := σ) (σ' := cpy σ q0 q1 sp dp n) h (fun j hj => ?_)]
  funext i
  unfold cpy
  rw [if_neg (fun z => hj z.1)]
theorem sh_arr {p t n : Nat} (h : SH[p]? = some (.inl (t, n))) : n ≤ 100000 := by
  have := List.all_eq_true.mp SH_ok _ (List.mem_of_getElem? h)
  simp only [shok, Bool.and_eq_true, decide_eq_true_eq] at this
  exact this.2
theorem sh_obj {p ci : Nat} {ks : List (Nat × Nat)} (h : SH[p]? = some (.inr (ci, ks))) : ci < 10 ∧ ∀ k kd, ks[k]? = some kd → shk ci k kd.1 = true := by
  have := List.all_eq_true.mp SH_ok _ (List.mem_of_getElem? h)
  simp only [shok, Bool.and_eq_true, decide_eq_true_eq] at this
  refine ⟨this.1, fun k kd hk => ?_⟩
  exact List.all_eq_true.mp this.2 (kd, k) (List.mem_zipIdx_iff_getElem?.mpr hk)
theorem vw_get {ci : Nat} (h : ci < 10) : ∃ q, vwCl[ci]? = some q ∧ q.1 = cnm ci := by
  have hl : ci < vwCl.length := h
  refine ⟨vwCl[ci], List.getElem?_eq_getElem hl, ?_⟩
  have := vw_nm ci h
  rwa [List.getD_eq_getElem?_getD, List.getElem?_eq_getElem hl] at this
theorem vw_in {ci : Nat} {q : vw_C} (h : vwCl[ci]? = some q) : ∀ w ∈ u_ws q.1 q.2.1 q.2.2, w ∈ TX := by
  intro w hw
  obtain ⟨k, hk, rfl⟩ := List.mem_map.mp hw
  have hl : ci < 10 := (List.getElem?_eq_some_iff.mp h).1
  have h2 : (ci, k) ∈ UT := UT_all ci hl k (by rw [List.getD_eq_getElem?_getD, h]; exact List.mem_range.mp hk)
  have h3 := tx_UT h2
  unfold uw at h3
  rw [h] at h3
  exact h3
theorem br_i {c : Jvm.ClassFile.Cond} {a b : Int} {jt jf : Prop} (h : brP c a b jt jf) : (c = .eq → (a = b → jt) ∧ (¬ a = b → jf)) ∧ (c = .ne → (¬ a = b → jt) ∧ (a = b → jf)) ∧ (c = .lt → (a < b → jt) ∧ (¬ a < b → jf)) ∧ (c = .ge → (b ≤ a → jt) ∧ (¬ b ≤ a → jf)) ∧ (c = .gt → (b < a → jt) ∧ (¬ b < a → jf)) ∧ (c = .le → (a ≤ b → jt) ∧ (¬ a ≤ b → jf)) := by
  refine ⟨?_, ?_, ?_, ?_, ?_, ?_⟩ <;> intro e <;> subst e
  · exact h
  · exact h
  · exact ⟨h.1, fun z => h.2 (by omega)⟩
  · exact ⟨h.1, fun z => h.2 (by omega)⟩
  · exact ⟨h.1, fun z => h.2 (by omega)⟩
  · exact ⟨h.1, fun z => h.2 (by omega)⟩
theorem tbP_at {x : Int} {j : Nat → Prop} : ∀ {lo : Int} {l : List Nat} {o : Nat}, tbP x j lo l → lo ≤ x → l[(x - lo).toNat]? = some o → j o
  | lo, [], o, _, _, h => by simp at h
  | lo, a :: r, o, h, hl, ho => by
    by_cases hx : x = lo
    · subst hx
      rw [Int.sub_self] at ho
      cases ho
      exact h.1 rfl
    · obtain ⟨k, hk⟩ : ∃ k : Nat, (x - lo).toNat = k + 1 := ⟨(x - lo).toNat - 1, by omega⟩
      rw [hk, List.getElem?_cons_succ] at ho
      refine tbP_at h.2 (by omega) (o := o) ?_
      rw [← ho]
      congr 1
      omega
theorem lkP_at {x : Int} {j : Nat → Prop} {d : Nat} {pc df : Int} (hd : pc + df = (d : Int)) : ∀ {ps : List (Int × Int)} {ts : List Nat}, ps.map (fun o => pc + o.2) = ts.map Int.ofNat → lkP x j d ps ts → ∃ t : Nat, pc + Op.lookupswitch.offset ps df x = (t : Int) ∧ j t
  | [], ts, _, h => by
    refine ⟨d, ?_, ?_⟩
    · rw [← hd]
      rfl
    · cases ts <;> exact h
  | (a, o) :: r, [], e, _ => by cases e
  | (a, o) :: r, t :: ts, e, h => by
    rw [List.map_cons, List.map_cons] at e
    injection e with e1 e2
    rw [Op.lookupswitch.offset_cons]
    by_cases hx : x = a
    · rw [if_pos hx.symm]
      exact ⟨t, e1, h.1 hx⟩
    · rw [if_neg (fun z => hx z.symm)]
      exact lkP_at hd e2 (h.2 hx)
