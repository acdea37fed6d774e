/-! ===== constructors that are made of units: a field gets a number, a new array, or an argument ===== -/
/-- a unit: field, its link, kind (0 int row, 1 long row, 2 char row, 3 a number, 4 the second local), the number or length, the signs of a char row -/
abbrev CU : Type := Nat × Nat × Nat × Int × List Int
def psh (v : Int) : Instr × Nat := if -1 ≤ v ∧ v ≤ 5 then (.iconst v, 1) else if -128 ≤ v ∧ v ≤ 127 then (.bipush v, 2) else (.sipush v, 3)
def tyC (ty : ClassId × ClassId × ClassId) : List (ClassId × FieldType) := [(ty.1, .int), (ty.2.1, .long), (ty.2.2, .char)]
def aE (ty : ClassId × ClassId × ClassId) (kd n : Nat) (cs : List Int) : va_E := match kd with
  | 0 => .inl (ty.1, n, .inl fun k => Int32.ofInt (cs.getD k 0))
  | 1 => .inl (ty.2.1, n, .inr (.inl fun k => Int64.ofInt (cs.getD k 0)))
  | _ => .inl (ty.2.2, n, .inl fun k => Int32.ofInt (cs.getD k 0))
def atK (kd : Nat) : ArrayType := match kd with
  | 0 => .int
  | 1 => .long
  | _ => .char
def fdK (kd : Nat) : String := match kd with
  | 0 => "[I"
  | 1 => "[J"
  | _ => "[C"
/-- where the signs of a char row end; none if the code isn't that -/
def cfE (cc : ByteArray) (n : Nat) : Nat → Nat → List Int → Option Nat
  | pc, _, [] => some pc
  | pc, j, c :: cs => if decode cc pc = .ok (.dup, 1) ∧ decode cc (pc + 1) = .ok (psh (j : Int)) ∧ decode cc (pc + 1 + (psh (j : Int)).2) = .ok (psh c) ∧ decode cc (pc + 1 + (psh (j : Int)).2 + (psh c).2) = .ok (.castore, 1) ∧ j < n ∧ n ≤ 30000 ∧ (-32768 ≤ c ∧ c ≤ 32767) ∧ vp_nar .char (Int32.ofInt c) = Int32.ofInt c
    then cfE cc n (pc + 1 + (psh (j : Int)).2 + (psh c).2 + 1) (j + 1) cs else none
def nOf (ci : Nat) : Nat := (vwCl.getD ci ("", TX0, 0)).2.2
def cuE (cc : ByteArray) (ci : Nat) : Nat → List CU → Option Nat
  | pc, [] => some pc
  | pc, u :: us => if u.2.2.1 = 3 then (if decode cc pc = .ok (.aload_n 0, 1) ∧ decode cc (pc + 1) = .ok (psh u.2.2.2.1) ∧ decode cc (pc + 1 + (psh u.2.2.2.1).2) = .ok (.putfield u.2.1, 3) ∧ (-32768 ≤ u.2.2.2.1 ∧ u.2.2.2.1 ≤ 32767) ∧ (ci, u.2.1, ci, u.1) ∈ FT ∧ (fw_name ci u.1).2 = "I" ∧ u.1 < nOf ci
      then cuE cc ci (pc + 1 + (psh u.2.2.2.1).2 + 3) us else none)
    else if u.2.2.1 = 4 then (if decode cc pc = .ok (.aload_n 0, 1) ∧ decode cc (pc + 1) = .ok (.aload_n 1, 1) ∧ decode cc (pc + 1 + 1) = .ok (.putfield u.2.1, 3) ∧ (ci, u.2.1, ci, u.1) ∈ FT ∧ (fw_name ci u.1).2 = "LLentStairs$Tape;" ∧ u.1 < nOf ci
      then cuE cc ci (pc + 1 + 1 + 3) us else none)
    else (if decode cc pc = .ok (.aload_n 0, 1) ∧ decode cc (pc + 1) = .ok (psh u.2.2.2.1) ∧ decode cc (pc + 1 + (psh u.2.2.2.1).2) = .ok (.newarray (atK u.2.2.1), 2) ∧ (0 ≤ u.2.2.2.1 ∧ u.2.2.2.1 ≤ 30000) ∧ (ci, u.2.1, ci, u.1) ∈ FT ∧ (fw_name ci u.1).2 = fdK u.2.2.1 ∧ u.1 < nOf ci ∧ u.2.2.1 ≤ 2 ∧ (u.2.2.1 = 2 ∨ u.2.2.2.2 = [])
      then (match cfE cc u.2.2.2.1.toNat (pc + 1 + (psh u.2.2.2.1).2 + 2) 0 u.2.2.2.2 with
        | some pc2 => if decode cc pc2 = .ok (.putfield u.2.1, 3) then cuE cc ci (pc2 + 3) us else none
        | none => none) else none)
def cuC : List CU → Nat
  | [] => 0
  | u :: us => if u.2.2.1 = 3 then cuC us else if u.2.2.1 = 4 then cuC us else 1 + cuC us
def cuS : List CU → Nat
  | [] => 0
  | u :: us => if u.2.2.1 = 3 then cuS us else if u.2.2.1 = 4 then cuS us else u.2.2.2.1.toNat + cuS us
/-- the fields behind the units; qs: where the new arrays lie; t1: the second local -/
def cuF (t1 : Nat) : List CU → List Nat → List Value → List Value
  | [], _, fs => fs
  | u :: us, qs, fs => if u.2.2.1 = 3 then cuF t1 us qs (fs.set u.1 (.int (Int32.ofInt u.2.2.2.1))) else if u.2.2.1 = 4 then cuF t1 us qs (fs.set u.1 (.ref t1)) else cuF t1 us qs.tail (fs.set u.1 (.ref (qs.headD 0)))
def cuA (ty : ClassId × ClassId × ClassId) : List CU → List Nat → va_W
  | [], _ => []
  | u :: us, qs => if u.2.2.1 = 3 then cuA ty us qs else if u.2.2.1 = 4 then cuA ty us qs else (qs.headD 0, aE ty u.2.2.1 u.2.2.2.1.toNat u.2.2.2.2) :: cuA ty us qs.tail
def CCx (p : Program) (s : State) (m : MethodId) (args : Array Value) (meth : Method) (c : Code) (cc : ByteArray) (ci : Nat) (D : va_G) (ty : ClassId × ClassId × ClassId) : Prop :=
  p.tables.exec = Jvm.exec ∧ c.code = cc ∧ (∀ w ∈ CT0, w.before args s = true) ∧ s.vm.findClass (cnm ci) = some m.cls ∧ meth.name = "<init>" ∧ va_K D vwCl (tyC ty) s
section CUN
variable {p : Program} {l : Launch} {e : Env} {R : Room} {s : State} {m : MethodId} {args : Array Value} {below : List Frame} {meth : Method} {c : Code} {H : Heap} {locs : List Loc} {cells slots : Nat} {Q : State → Prop}
variable {cc : ByteArray} {pc ci : Nat} {ls : Array Slot} {rest : List Value} {D : va_G} {A : Nat → Prop} {H0 : Heap} {ty : ClassId × ClassId × ClassId}
theorem psh_W (hx : p.tables.exec = Jvm.exec) (hb : c.code = cc) {v : Int} (hd : decode cc pc = .ok (psh v)) (hv : -32768 ≤ v ∧ v ≤ 32767)
    (k : W p l e R s m args below meth c H locs cells slots Q (F0 m (pc + (psh v).2) ls (.int (Int32.ofInt v) :: rest))) : W p l e R s m args below meth c H locs cells slots Q (F0 m pc ls rest) := by
  unfold psh at hd k
  split at hd
  · rename_i h
    rw [if_pos h] at k
    exact lv_iconst hx hb hd rfl k
  · rename_i h
    rw [if_neg h] at k
    split at hd
    · rename_i h2
      rw [if_pos h2] at k
      exact lv_bipush hx hb hd (i3_bip h2.1 h2.2) k
    · rename_i h2
      rw [if_neg h2] at k
      exact lv_sipush hx hb hd (i3_sip hv.1 hv.2) k
theorem cu_put (C : CCx p s m args meth c cc ci D ty) {q : vw_C} (hq : vwCl[ci]? = some q) {h0 k ix : Nat} {fs : List Value} {as : va_W} (hk : k < q.2.2) (hft : (ci, ix, ci, k) ∈ FT) (hP : va_P D vwCl ((h0, .inr (ci, fs)) :: as) H) (hD : va_D A ((h0, .inr (ci, fs)) :: as)) (hS : va_S A H0 H locs)
    {ft : FieldType} {v : Value} (hd : parseFieldDescriptor (q.2.1 k).2.2.1 = some ft) (hn : narrow ft v = v) (hf : fits ft v = true) (hl : k < fs.length) (hdg : decode cc pc = .ok (.putfield ix, 3))
    (kk : ∀ (H1 : Heap) (locs1 : List Loc), va_P D vwCl ((h0, .inr (ci, fs.set k v)) :: as) H1 → va_D A ((h0, .inr (ci, fs.set k v)) :: as) → va_S A H0 H1 locs1 → W p l e R s m args below meth c H1 locs1 cells slots Q (F0 m (pc + 3) ls rest)) : W p l e R s m args below meth c H locs cells slots Q (F0 m pc ls (v :: .ref h0 :: rest)) := by
  obtain ⟨hx, hb, hts, hown, hin, hK⟩ := C
  have hci : ci < 10 := (List.getElem?_eq_some_iff.mp hq).1
  have hqn : q.1 = cnm ci := by
    obtain ⟨q', h1, h2⟩ := vw_get hci
    rw [hq] at h1
    cases h1
    exact h2
  obtain ⟨ty0, hty0, hnm0⟩ := vw_ok q (List.mem_of_getElem? hq)
  have hl1 := hts _ (CT0_TX (tx_FT hft))
  unfold fw at hl1
  rw [fwn_s hq] at hl1
  cases hfin : (q.2.1 k).2.2.2 with
  | false => exact va_put (D := D) (cl := vwCl) (tys := tyC ty) (ws := (h0, .inr (ci, fs)) :: as) (A := A) (H0 := H0) (C := q.1) (T := q.2.1) (N := q.2.2) (ci := ci) (own := cnm ci) (ref := cnm ci) (index := ix) (ty := ft) (v := v) (rest := rest) hx hb hts (fun w hw => CT0_TX (vw_in hq w hw)) ty0 hty0 hnm0 hown hK hP hD hS 0 rfl hq k hk hl1 (va_same hq hqn hk) hfin hd hn hf hl hdg kk
  | true => exact va_putF (D := D) (cl := vwCl) (tys := tyC ty) (ws := (h0, .inr (ci, fs)) :: as) (A := A) (H0 := H0) (C := q.1) (T := q.2.1) (N := q.2.2) (ci := ci) (own := cnm ci) (ref := cnm ci) (index := ix) (ty := ft) (v := v) (rest := rest) hx hb hts (fun w hw => CT0_TX (vw_in hq w hw)) ty0 hty0 hnm0 hown hK hP hD hS 0 rfl hq k hk hl1 (va_same hq hqn hk) hfin hin (by rw [vw_own q (List.mem_of_getElem? hq) k hk, hqn]) hd hn hf hl hdg kk
theorem tyC_eq {tys : List (ClassId × FieldType)} {cA : ClassId} {ft : FieldType} {i j : Nat} {cB : ClassId} {U : State} (hK : va_K D vwCl tys U) (h1 : tys[i]? = some (cA, ft)) (h2 : tys[j]? = some (cB, ft)) (hp : ft = .int ∨ ft = .long ∨ ft = .char) : cA = cB := by
  have a1 := (hK.2 i _ h1).2
  have a2 := (hK.2 j _ h2).2
  rcases hp with rfl | rfl | rfl <;> exact Option.some.inj (Eq.trans (Eq.symm a1) a2)
theorem cu_newa (C : CCx p s m args meth c cc ci D ty) {ws : va_W} (kd : Nat) {n : Nat} (hkd : kd ≤ 2) (hn : n ≤ 30000) (hP : va_P D vwCl ws H) (hD : va_D A ws) (hS : va_S A H0 H locs) (hA : ∀ q, H0.size ≤ q → A q) (hcells : cells + 1 ≤ R.cells) (hslots : slots + n ≤ R.slots) (hdg : decode cc pc = .ok (.newarray (atK kd), 2))
    (kk : ∀ (q : Nat) (H1 : Heap), va_P D vwCl (ws ++ [(q, aE ty kd n [])]) H1 → va_D A (ws ++ [(q, aE ty kd n [])]) → va_S A H0 H1 locs → W p l e R s m args below meth c H1 locs (cells + 1) (slots + n) Q (F0 m (pc + 2) ls (.ref q :: rest))) : W p l e R s m args below meth c H locs cells slots Q (F0 m pc ls (.int (Int32.ofInt (n : Int)) :: rest)) := by
  obtain ⟨hx, hb, hts, hown, hin, hK⟩ := C
  have hN : (Int32.ofInt (n : Int)).toNatClampNeg = n := by rw [i3_clamp (by omega) (by omega)]; rfl
  have hneg := i3_nneg (x := (n : Int)) (by omega) (by omega)
  match kd, hkd, hdg, kk with
  | 0, _, hdg, kk =>
    refine va_newa (atype := .int) (D := D) (cl := vwCl) (tys := tyC ty) (ws := ws) (A := A) (H0 := H0) (N' := n) (a0 := (n, .inl fun k => Int32.ofInt (([] : List Int).getD k 0))) hx hb (hts _ (CT0_CW 11 rfl)) rfl hK hP hD hS hA (fun cA => ?_) hneg hN ?_ hcells hslots hdg (fun q cA H1 hK1 hP1 hD1 hS1 => ?_)
    · rfl
    · show n * 4 ≤ 536870912
      omega
    · obtain rfl : cA = ty.1 := tyC_eq (ft := .int) hK1 (i := 3) (j := 0) rfl rfl (Or.inl rfl)
      exact kk q H1 hP1 hD1 hS1
  | 1, _, hdg, kk =>
    refine va_newa (atype := .long) (D := D) (cl := vwCl) (tys := tyC ty) (ws := ws) (A := A) (H0 := H0) (N' := n) (a0 := (n, .inr (.inl fun k => Int64.ofInt (([] : List Int).getD k 0)))) hx hb (hts _ (CT0_CW 53 rfl)) rfl hK hP hD hS hA (fun cA => ?_) hneg hN ?_ hcells hslots hdg (fun q cA H1 hK1 hP1 hD1 hS1 => ?_)
    · rfl
    · show n * 8 ≤ 536870912
      omega
    · obtain rfl : cA = ty.2.1 := tyC_eq (ft := .long) hK1 (i := 3) (j := 1) rfl rfl (Or.inr (Or.inl rfl))
      exact kk q H1 hP1 hD1 hS1
  | 2, _, hdg, kk =>
    refine va_newa (atype := .char) (D := D) (cl := vwCl) (tys := tyC ty) (ws := ws) (A := A) (H0 := H0) (N' := n) (a0 := (n, .inl fun k => Int32.ofInt (([] : List Int).getD k 0))) hx hb (hts _ (CT0_CW 52 rfl)) rfl hK hP hD hS hA (fun cA => ?_) hneg hN ?_ hcells hslots hdg (fun q cA H1 hK1 hP1 hD1 hS1 => ?_)
    · rfl
    · show n * 2 ≤ 536870912
      omega
    · obtain rfl : cA = ty.2.2 := tyC_eq (ft := .char) hK1 (i := 3) (j := 2) rfl rfl (Or.inr (Or.inr rfl))
      exact kk q H1 hP1 hD1 hS1
/-- the signs of a char row, one by one -/
def flC (f : Nat → Int32) : Nat → List Int → Nat → Int32
  | _, [] => f
  | j, c :: cs => flC (upd f j (Int32.ofInt c)) (j + 1) cs
theorem flC_at : ∀ (cs : List Int) (f : Nat → Int32) (j k : Nat), flC f j cs k = if k < j then f k else match cs[k - j]? with
    | some c => Int32.ofInt c
    | none => f k
  | [], f, j, k => by
    show f k = _
    split <;> rfl
  | c :: cs, f, j, k => by
    show flC (upd f j (Int32.ofInt c)) (j + 1) cs k = _
    rw [flC_at cs]
    rcases Nat.lt_trichotomy k j with h | h | h
    · rw [if_pos h, if_pos (by omega)]
      unfold upd
      rw [if_neg (by omega)]
    · subst h
      rw [if_pos (by omega), if_neg (by omega), Nat.sub_self]
      show upd f k (Int32.ofInt c) k = Int32.ofInt c
      unfold upd
      rw [if_pos rfl]
    · rw [if_neg (by omega), if_neg (by omega), show k - j = (k - (j + 1)) + 1 by omega, List.getElem?_cons_succ]
      unfold upd
      rw [if_neg (by omega)]
theorem flC_0 (cs : List Int) : flC (fun k => Int32.ofInt (([] : List Int).getD k 0)) 0 cs = fun k => Int32.ofInt (cs.getD k 0) := by
  funext k
  rw [flC_at, if_neg (by omega), Nat.sub_zero]
  simp only [List.getD_eq_getElem?_getD]
  cases cs[k]? <;> rfl
theorem cf_W (C : CCx p s m args meth c cc ci D ty) {ws : va_W} {q n : Nat} : ∀ (cs : List Int) (j pc pe : Nat) (f : Nat → Int32) (H : Heap) (locs : List Loc), cfE cc n pc j cs = some pe → va_P D vwCl (ws ++ [(q, .inl (ty.2.2, n, .inl f))]) H → va_D A (ws ++ [(q, .inl (ty.2.2, n, .inl f))]) → va_S A H0 H locs →
    (∀ (H1 : Heap) (locs1 : List Loc), va_P D vwCl (ws ++ [(q, .inl (ty.2.2, n, .inl (flC f j cs)))]) H1 → va_D A (ws ++ [(q, .inl (ty.2.2, n, .inl (flC f j cs)))]) → va_S A H0 H1 locs1 → W p l e R s m args below meth c H1 locs1 cells slots Q (F0 m pe ls (.ref q :: rest))) →
    W p l e R s m args below meth c H locs cells slots Q (F0 m pc ls (.ref q :: rest))
  | [], j, pc, pe, f, H, locs, he, hP, hD, hS, kk => by
    have he : some pc = some pe := he
    cases he
    exact kk H locs hP hD hS
  | ch :: cs, j, pc, pe, f, H, locs, he, hP, hD, hS, kk => by
    have C' := C
    obtain ⟨hx, hb, hts, hown, hin, hK⟩ := C'
    unfold cfE at he
    split at he
    · rename_i hh
      obtain ⟨d1, d2, d3, d4, hj, hn, hc, hna⟩ := hh
      refine lv_dup hx hb d1 rfl ?_
      refine psh_W hx hb d2 (by omega) ?_
      refine psh_W hx hb d3 hc ?_
      have hset : ∀ x : Nat × va_E, (ws ++ [(q, (.inl (ty.2.2, n, .inl f) : va_E))]).set ws.length x = ws ++ [x] := fun x => by simp
      have hj3 : (Int32.ofInt (j : Int)).toNatClampNeg = j := by rw [i3_clamp (by omega) (by omega)]; rfl
      refine va_cast (D := D) (cl := vwCl) (tys := tyC ty) (A := A) (H0 := H0) (a := q) (cA := ty.2.2) (n := n) (f := f) (i := Int32.ofInt (j : Int)) (x := Int32.ofInt ch) hx hb hK hP hD hS ws.length 2 (by simp) rfl (i3_in (x := (j : Int)) (by omega) (by omega) (by omega)) d4 (fun H1 locs1 hP1 hD1 hS1 => ?_)
      rw [hset, hj3, hna] at hP1 hD1
      exact cf_W C cs (j + 1) _ pe _ H1 locs1 he hP1 hD1 hS1 kk
    · cases he
theorem fdK_ok (kd q : Nat) (h : kd ≤ 2) : ∃ ft, parseFieldDescriptor (fdK kd) = some ft ∧ narrow ft (.ref q) = .ref q ∧ fits ft (.ref q) = true := by
  match kd, h with
  | 0, _ => exact ⟨.array .int, by decide +kernel, rfl, rfl⟩
  | 1, _ => exact ⟨.array .long, by decide +kernel, rfl, rfl⟩
  | 2, _ => exact ⟨.array .char, by decide +kernel, rfl, rfl⟩
theorem nOf_s {q : vw_C} (hq : vwCl[ci]? = some q) : nOf ci = q.2.2 := by
  unfold nOf
  rw [List.getD_eq_getElem?_getD, hq]
  rfl
theorem cu_run (C : CCx p s m args meth c cc ci D ty) {q : vw_C} (hq : vwCl[ci]? = some q) {h0 t1 : Nat} (hA : ∀ a, H0.size ≤ a → A a) (hl0 : ls[0]? = some (.val (.ref h0))) : ∀ (us : List CU) (pc pe : Nat) (fs : List Value) (as : va_W) (H : Heap) (locs : List Loc) (cells slots : Nat), (ls[1]? = some (.val (.ref t1)) ∨ us.all (fun u => u.2.2.1 != 4) = true) → cuE cc ci pc us = some pe → fs.length = q.2.2 → va_P D vwCl ((h0, .inr (ci, fs)) :: as) H → va_D A ((h0, .inr (ci, fs)) :: as) → va_S A H0 H locs → cells + cuC us ≤ R.cells → slots + cuS us ≤ R.slots →
    (∀ (qs : List Nat) (H1 : Heap) (locs1 : List Loc), qs.length = cuC us → va_P D vwCl ((h0, .inr (ci, cuF t1 us qs fs)) :: (as ++ cuA ty us qs)) H1 → va_D A ((h0, .inr (ci, cuF t1 us qs fs)) :: (as ++ cuA ty us qs)) → va_S A H0 H1 locs1 → W p l e R s m args below meth c H1 locs1 (cells + cuC us) (slots + cuS us) Q (F0 m pe ls [])) →
    W p l e R s m args below meth c H locs cells slots Q (F0 m pc ls [])
  | [], pc, pe, fs, as, H, locs, cells, slots, _, he, hf, hP, hD, hS, h1, h2, kk => by
    have he : some pc = some pe := he
    cases he
    have hn : as ++ cuA ty [] [] = as := List.append_nil as
    have hk := kk [] H locs rfl
    rw [hn] at hk
    exact hk hP hD hS
  | (k, ix, kd, v, cs) :: us, pc, pe, fs, as, H, locs, cells, slots, hl1, he, hf, hP, hD, hS, h1, h2, kk => by
    have C' := C
    obtain ⟨hx, hb, hts, hown, hin, hK⟩ := C'
    have hn := nOf_s hq
    have hfd := fwn_s (k := k) hq
    have hl1' : ls[1]? = some (.val (.ref t1)) ∨ us.all (fun u => u.2.2.1 != 4) = true := hl1.imp id (fun h => by
      rw [List.all_cons, Bool.and_eq_true] at h
      exact h.2)
    unfold cuE at he
    unfold cuC at h1 kk
    unfold cuS at h2 kk
    unfold cuF cuA at kk
    dsimp only at he h1 h2 kk
    by_cases h3 : kd = 3
    · rw [if_pos h3] at he h1 h2
      simp only [if_pos h3] at kk
      split at he
      · rename_i hh
        obtain ⟨d1, d2, d3, hv, hft, hds, hk⟩ := hh
        rw [hfd] at hds
        dsimp only at hds
        refine lv_aload_n hx hb d1 rfl hl0 ?_
        refine psh_W hx hb d2 hv ?_
        refine cu_put C hq (by omega) hft hP hD hS (ft := .int) (v := .int (Int32.ofInt v)) (by rw [hds]; decide +kernel) rfl rfl (by omega) d3 (fun H1 locs1 hP1 hD1 hS1 => ?_)
        exact cu_run C hq hA hl0 us _ pe _ as H1 locs1 cells slots hl1' he (by rw [List.length_set]; exact hf) hP1 hD1 hS1 h1 h2 kk
      · cases he
    · rw [if_neg h3] at he h1 h2
      simp only [if_neg h3] at kk
      by_cases h4 : kd = 4
      · rw [if_pos h4] at he h1 h2
        simp only [if_pos h4] at kk
        split at he
        · rename_i hh
          obtain ⟨d1, d2, d3, hft, hds, hk⟩ := hh
          rw [hfd] at hds
          dsimp only at hds
          have hl2 : ls[1]? = some (.val (.ref t1)) := hl1.resolve_right (fun h => by
            rw [List.all_cons, Bool.and_eq_true] at h
            have h8 := h.1
            dsimp only at h8
            rw [h4] at h8
            exact absurd h8 Bool.false_ne_true)
          refine lv_aload_n hx hb d1 rfl hl0 ?_
          refine lv_aload_n hx hb d2 rfl hl2 ?_
          refine cu_put C hq (by omega) hft hP hD hS (ft := .object "LentStairs$Tape") (v := .ref t1) (by rw [hds]; decide +kernel) rfl rfl (by omega) d3 (fun H1 locs1 hP1 hD1 hS1 => ?_)
          exact cu_run C hq hA hl0 us _ pe _ as H1 locs1 cells slots hl1' he (by rw [List.length_set]; exact hf) hP1 hD1 hS1 h1 h2 kk
        · cases he
      · rw [if_neg h4] at he h1 h2
        simp only [if_neg h4] at kk
        split at he
        · rename_i hh
          obtain ⟨d1, d2, d3, hv, hft, hds, hk, hkd, hcs⟩ := hh
          rw [hfd] at hds
          dsimp only at hds
          split at he
          · rename_i pc2 hcf
            split at he
            · rename_i d4
              refine lv_aload_n hx hb d1 rfl hl0 ?_
              refine psh_W hx hb d2 (by omega) ?_
              have hvn : v = ((v.toNat : Nat) : Int) := by omega
              refine W.eq (g2 := F0 m (pc + 1 + (psh v).2) ls [.int (Int32.ofInt ((v.toNat : Nat) : Int)), .ref h0]) (by rw [← hvn]) ?_
              refine cu_newa C kd (n := v.toNat) hkd (by omega) hP hD hS hA (by omega) (by omega) d3 (fun a H1 hP1 hD1 hS1 => ?_)
              obtain ⟨ft, f1, f2, f3⟩ := fdK_ok kd a hkd
              have fin : ∀ (H2 : Heap) (locs2 : List Loc), va_P D vwCl ((h0, .inr (ci, fs)) :: (as ++ [(a, aE ty kd v.toNat cs)])) H2 → va_D A ((h0, .inr (ci, fs)) :: (as ++ [(a, aE ty kd v.toNat cs)])) → va_S A H0 H2 locs2 → W p l e R s m args below meth c H2 locs2 (cells + 1) (slots + v.toNat) Q (F0 m pc2 ls [.ref a, .ref h0]) := by
                intro H2 locs2 hP2 hD2 hS2
                refine cu_put C hq (by omega) hft hP2 hD2 hS2 (ft := ft) (v := .ref a) (by rw [hds]; exact f1) f2 f3 (by omega) d4 (fun H3 locs3 hP3 hD3 hS3 => ?_)
                refine cu_run C hq hA hl0 us _ pe _ _ H3 locs3 (cells + 1) (slots + v.toNat) hl1' he (by rw [List.length_set]; exact hf) hP3 hD3 hS3 (by omega) (by omega) (fun qs H4 locs4 hqs hP4 hD4 hS4 => ?_)
                have hk9 := kk (a :: qs) H4 locs4 (by rw [List.length_cons]; omega)
                dsimp only [List.headD_cons, List.tail_cons] at hk9
                rw [show as ++ [(a, aE ty kd v.toNat cs)] ++ cuA ty us qs = as ++ (a, aE ty kd v.toNat cs) :: cuA ty us qs by simp] at hP4 hD4
                rw [show cells + 1 + cuC us = cells + (1 + cuC us) by omega, show slots + v.toNat + cuS us = slots + (v.toNat + cuS us) by omega]
                exact hk9 hP4 hD4 hS4
              rcases hcs with rfl | rfl
              · refine cf_W C (ws := (h0, .inr (ci, fs)) :: as) (q := a) (n := v.toNat) cs 0 _ pc2 _ H1 locs hcf hP1 hD1 hS1 (fun H2 locs2 hP2 hD2 hS2 => ?_)
                rw [flC_0] at hP2 hD2
                exact fin H2 locs2 hP2 hD2 hS2
              · have hcf : some (pc + 1 + (psh v).2 + 2) = some pc2 := hcf
                cases hcf
                exact fin H1 locs hP1 hD1 hS1
            · cases he
          · cases he
        · cases he
end CUN
