/-! ===== contracts of the constructors (wip/whole/gena2.py) ===== -/
theorem cuE_app {cc : ByteArray} {ci : Nat} : ∀ {us vs : List CU} {pc p1 p2 : Nat}, cuE cc ci pc us = some p1 → cuE cc ci p1 vs = some p2 → cuE cc ci pc (us ++ vs) = some p2
  | [], vs, pc, p1, p2, h1, h2 => by
    have h1 : some pc = some p1 := h1
    cases h1
    exact h2
  | u :: us, vs, pc, p1, p2, h1, h2 => by
    show cuE cc ci pc (u :: (us ++ vs)) = some p2
    unfold cuE at h1 ⊢
    split at h1
    · rename_i e1
      rw [if_pos e1]
      split at h1
      · rename_i e2
        rw [if_pos e2]
        exact cuE_app h1 h2
      · cases h1
    · rename_i e1
      rw [if_neg e1]
      split at h1
      · rename_i e2
        rw [if_pos e2]
        split at h1
        · rename_i e3
          rw [if_pos e3]
          exact cuE_app h1 h2
        · cases h1
      · rename_i e2
        rw [if_neg e2]
        split at h1
        · rename_i e3
          rw [if_pos e3]
          split at h1
          · rename_i pc2 e4
            split at h1
            · rename_i e5
              rw [if_pos e5]
              exact cuE_app h1 h2
            · cases h1
          · cases h1
        · cases h1
def KC (D : va_G) (ty : ClassId × ClassId × ClassId) (U : State) : Prop := va_K D vwCl (tyC ty) U ∧ ∀ w ∈ NC, va_Nw w U
theorem KC.warm {D : va_G} {ty : ClassId × ClassId × ClassId} {s U : State} (h : KC D ty s) (hW : s.WarmedH U.vm) : KC D ty U := ⟨va_K.moved hW.alike h.1, NC_warm hW h.2⟩
def cPre (D : va_G) (ty : ClassId × ClassId × ClassId) (h0 ci : Nat) (fs0 : List Value) (sz : Nat) : State → Prop := fun U => U.heap.size = sz ∧ va_P D vwCl [(h0, .inr (ci, fs0))] U.heap ∧ KC D ty U
theorem cPre.blind {D : va_G} {ty : ClassId × ClassId × ClassId} {h0 ci : Nat} {fs0 : List Value} {sz : Nat} {av : List Value} : FrameBlind (va_Pc av (cPre D ty h0 ci fs0 sz)) := fun a U g mk q => ⟨q.1, q.2.1, q.2.2.1, va_K.moved (u := U) (U := U.calling g mk a) (Vm.Alike.refl U.vm) q.2.2.2.1, NC_same (s := U) (U := U.calling g mk a) rfl q.2.2.2.2⟩
def cPost (D : va_G) (h0 ci : Nat) (fs0 : List Value) (sz : Nat) (w : List Nat → va_W) : List Nat → State → Prop := fun qs t => va_P D vwCl (w qs) t.heap ∧ va_D (va_A [(h0, .inr (ci, fs0))] sz) (w qs)
/-- a constructor's contract: its object with its first fields becomes the cells w -/
def CM (l : Launch) (y : MethodName) (cc : ByteArray) (maxL : Nat) (rm : Room) (D : va_G) (ty : ClassId × ClassId × ClassId) (ci : Nat) (fs0 : List Value) (As : List Value) (n : Nat) (w : Nat → List Nat → va_W) (mc ms : Nat) : Prop :=
  ∀ h0 sz : Nat, Met l y (.code y cc maxL none :: CT0) rm (va_Pc (.ref h0 :: As) (cPre D ty h0 ci fs0 sz)) (va_Qv (fun qs : List Nat => qs.length = n) (cPost D h0 ci fs0 sz (w h0)) (va_A [(h0, .inr (ci, fs0))] sz)) mc ms (va_A [(h0, .inr (ci, fs0))] sz)
theorem va_D1 {A : Nat → Prop} {q : Nat × va_E} (h : A q.1) : va_D A [q] := by
  refine ⟨fun i j x y hi hj _ => ?_, fun k x hk => ?_⟩
  · have h1 : i < 1 := (List.getElem?_eq_some_iff.mp hi).1
    have h2 : j < 1 := (List.getElem?_eq_some_iff.mp hj).1
    omega
  · have h1 : k < 1 := (List.getElem?_eq_some_iff.mp hk).1
    obtain rfl : k = 0 := by omega
    cases hk
    exact h
theorem cu_met (l : Launch) {ci : Nat} {q : vw_C} {y : MethodName} {cc : ByteArray} {us : List CU} {pe oi maxL t1 : Nat} {As : List Value} (hq : vwCl[ci]? = some q) (hy : plainName y.cls = true) (hyc : y.cls = cnm ci) (hyn : y.name = "<init>") (d0 : decode cc 0 = .ok (.aload_n 0, 1)) (d1 : decode cc 1 = .ok (.invokespecial oi, 3)) (ho : Cond.methodLink (cnm ci) oi objectInit ∈ CT0) (hu : cuE cc ci 4 us = some pe) (d2 : decode cc pe = .ok (.return_, 1))
    (hAs : (As = [] ∧ maxL = 1 ∧ us.all (fun u => u.2.2.1 != 4) = true) ∨ (As = [.ref t1] ∧ maxL = 2)) (D : va_G) (ty : ClassId × ClassId × ClassId) (fs0 : List Value) (hf : fs0.length = q.2.2) :
    CM l y cc maxL { frames := 1, cells := cuC us, slots := cuS us, locals := 12 } D ty ci fs0 As (cuC us) (fun h0 qs => (h0, .inr (ci, cuF t1 us qs fs0)) :: cuA ty us qs) (cuC us) (cuS us) := by
  intro h0 sz
  refine Met.ofW (cc := cc) (maxL := maxL) (ret := none) hy rfl ?_
  intro p e s m args below meth c s₁ B hml hv
  obtain ⟨rfl, hsz, hP, hK, hN⟩ := hv
  have hts := atoms_spec (ws := .code y cc maxL none :: CT0) B.pre
  have hts' : ∀ w ∈ CT0, w.before (Value.ref h0 :: As).toArray s = true := fun w hw => hts w (List.mem_cons_of_mem _ hw)
  have hown : s.vm.findClass y.cls = some m.cls := findClass_of_methodNamed B.named
  rw [hyc] at hown
  have hin : meth.name = "<init>" := (name_of_methodNamed B.named B.method).1.trans hyn
  subst hsz
  have C : CCx p s m (Value.ref h0 :: As).toArray meth c cc ci D ty := ⟨B.exec, B.bytes, hts', hown, hin, hK⟩
  have hr := B.returns
  have hlocks := B.notSynchronized
  rw [lg_entry_eq]
  have hl := lv_entry (.ref h0 :: As) (n := maxL) (by rcases hAs with ⟨rfl, rfl, -⟩ | ⟨rfl, rfl⟩ <;> exact Nat.le_of_ble_eq_true rfl)
  generalize (lg_sl (.ref h0 :: As) ++ List.replicate (maxL - (lg_sl (.ref h0 :: As)).length) Slot.unset).toArray = ls at hl ⊢
  have hl0 : ls[0]? = some (.val (.ref h0)) := lv_at hl 0 rfl
  have hl1 : ls[1]? = some (.val (.ref t1)) ∨ us.all (fun u => u.2.2.1 != 4) = true := by
    rcases hAs with ⟨rfl, rfl, h⟩ | ⟨rfl, rfl⟩
    · exact Or.inr h
    · exact Or.inl (lv_at hl 1 rfl)
  refine lv_aload_n B.exec B.bytes d0 rfl hl0 ?_
  refine W.objInit B.exec B.bytes hown (hts' _ ho) (hts' _ (CT0_CW 4 rfl)) (hts' _ (CT0_CW 5 rfl)) rfl (by rw [hml]; exact hl.1) rfl d1 (Nat.le_of_ble_eq_true rfl) (Nat.le_of_ble_eq_true rfl) ?_
  refine W.eq (g2 := F0 m 4 ls []) rfl ?_
  refine cu_run C hq (A := va_A [(h0, .inr (ci, fs0))] s.heap.size) (fun a h => Or.inr h) hl0 us 4 pe fs0 [] s.heap [] 0 0 hl1 hu hf hP (va_D1 (Or.inl ⟨0, _, rfl⟩)) va_S.rf (by show 0 + cuC us ≤ cuC us; omega) (by show 0 + cuS us ≤ cuS us; omega) (fun qs H1 locs1 hqs hP1 hD1 hS1 => ?_)
  rw [Nat.zero_add, Nat.zero_add]
  exact W.vret B.exec B.bytes hr (fun t ht hW => ⟨⟨qs, rfl, hqs, by rw [ht]; exact hP1, hD1⟩, hS1.F ht⟩) hS1.2.2 d2
theorem cu_join {A0 : Nat → Prop} {D : va_G} {ws w1 : va_W} {q : Nat} {E : va_E} {H H1 : Heap} (hP : va_P D vwCl (ws ++ [(q, E)]) H) (hD : va_D A0 (ws ++ [(q, E)])) (hk : ∀ a : Nat, a < H.size → ¬ va_A [(q, E)] H.size a → H1[a]? = H[a]?) (hF : ∀ a, va_A [(q, E)] H.size a → A0 a) (hP1 : va_P D vwCl w1 H1) (hD1 : va_D (va_A [(q, E)] H.size) w1) : va_P D vwCl (ws ++ w1) H1 ∧ va_D A0 (ws ++ w1) := by
  have hleft : ∀ (k : Nat) (x : Nat × va_E), ws[k]? = some x → (ws ++ [(q, E)])[k]? = some x := fun k x hx => by
    rw [List.getElem?_append_left (List.getElem?_eq_some_iff.mp hx).1]
    exact hx
  have hlast : (ws ++ [(q, E)])[ws.length]? = some (q, E) := by simp
  have apart : ∀ (k : Nat) (x : Nat × va_E), ws[k]? = some x → x.1 < H.size ∧ ¬ va_A [(q, E)] H.size x.1 := by
    intro k x hx
    have hk' : k < ws.length := (List.getElem?_eq_some_iff.mp hx).1
    have hl := (hP k x (hleft k x hx)).lt
    refine ⟨hl, fun h => ?_⟩
    rcases h with ⟨k2, e, h⟩ | h
    · have hz : k2 < 1 := (List.getElem?_eq_some_iff.mp h).1
      obtain rfl : k2 = 0 := by omega
      have h1 : q = x.1 := congrArg Prod.fst (Option.some.inj h)
      have := hD.1 k ws.length x (q, E) (hleft k x hx) hlast h1.symm
      omega
    · omega
  refine ⟨va_P.app (fun k x hx => ?_) hP1, va_D.app ⟨fun i j a b ha hb e => hD.1 i j a b (hleft i a ha) (hleft j b hb) e, fun k a ha => hD.2 k a (hleft k a ha)⟩ (hD1.weaken (fun k x _ h => hF x.1 h)) (fun i j x y hx hy hxy => ?_)⟩
  · obtain ⟨g1, g2⟩ := apart k x hx
    exact (hP k x (hleft k x hx)).kept (hk x.1 g1 g2)
  · exact (apart i x hx).2 (by rw [hxy]; exact hD1.2 j y hy)
theorem cu_free {A : Nat → Prop} {ws : va_W} {q : Nat} {E : va_E} {H0 H : Heap} {locs : List Loc} (hD : va_D A (ws ++ [(q, E)])) (hS : va_S A H0 H locs) (hA : ∀ a, H0.size ≤ a → A a) : ∀ a, va_A [(q, E)] H.size a → A a := by
  intro a h
  rcases h with ⟨k, e, h⟩ | h
  · have hz : k < 1 := (List.getElem?_eq_some_iff.mp h).1
    obtain rfl : k = 0 := by omega
    have h1 : q = a := congrArg Prod.fst (Option.some.inj h)
    subst h1
    exact hD.2 ws.length (q, E) (by simp)
  · exact hA a (Nat.le_trans hS.1 h)
section CUO
variable {p : Program} {l : Launch} {e : Env} {R : Room} {s : State} {m : MethodId} {args : Array Value} {below : List Frame} {meth : Method} {c : Code} {H : Heap} {locs : List Loc} {cells slots : Nat} {Q : State → Prop}
variable {cc : ByteArray} {pc ci : Nat} {ls : Array Slot} {rest : List Value} {D : va_G} {A : Nat → Prop} {H0 : Heap} {ty : ClassId × ClassId × ClassId}
/-- a new object and its constructor's call; 'hrun': the call as its site has it -/
theorem cu_after {cj n mc ms : Nat} {fs0 st0 : List Value} {w : Nat → List Nat → va_W} {ws : va_W} {q : Nat} {a : Array Value} (hP : va_P D vwCl (ws ++ [(q, .inr (cj, fs0))]) H) (hD : va_D A (ws ++ [(q, .inr (cj, fs0))])) (hS : va_S A H0 H locs) (hA : ∀ a, H0.size ≤ a → A a)
    (hrun : va_Run p l e R s m args below meth c H locs cells slots mc ms (F0 m pc ls st0) rest (va_Qv (fun qs : List Nat => qs.length = n) (cPost D q cj fs0 H.size (w q)) (va_A [(q, .inr (cj, fs0))] H.size) a) (va_A [(q, .inr (cj, fs0))] H.size))
    (kk : ∀ (qs : List Nat) (H1 : Heap) (locs1 : List Loc), qs.length = n → va_P D vwCl (ws ++ w q qs) H1 → va_D A (ws ++ w q qs) → va_S A H0 H1 locs1 → W p l e R s m args below meth c H1 locs1 (cells + mc) (slots + ms) Q (F0 m (pc + 3) ls rest)) : W p l e R s m args below meth c H locs cells slots Q (F0 m pc ls st0) := by
  have hF := cu_free hD hS hA
  refine va_callv hrun hS (fun a _ h => hF a h) hF (fun qs t H1 locs1 ht hvm hq hB hz hk hS1 => ?_)
  obtain ⟨hP1, hD1⟩ := hB
  rw [ht] at hP1
  obtain ⟨hP2, hD2⟩ := cu_join hP hD hk hF hP1 hD1
  exact kk qs H1 locs1 hq hP2 hD2 hS1
theorem cu_new (hx : p.tables.exec = Jvm.exec) (hb : c.code = cc) {Ts : List Cond} (hts : ∀ w ∈ Ts, w.before args s = true) (hTs : ∀ w ∈ CT0, w ∈ Ts) {own : String} (hown : s.vm.findClass own = some m.cls) (hK : va_K D vwCl (tyC ty) s) {cj N ix : Nat} {qv : vw_C} {fs0 : List Value} (ty0 : Nat → FieldType) (hq : vwCl[cj]? = some qv) (hN : qv.2.2 = N) (hty : ∀ k, k < N → parseFieldDescriptor (qv.2.1 k).2.2.1 = some (ty0 k)) (hcl : Cond.classLink own ix qv.1 ∈ Ts) (hins : Cond.instantiable qv.1 N ∈ Ts) (hini : Cond.initialized qv.1 ∈ Ts) (hfs : ∀ j, j < N → defaultValue (ty0 j) = vp_V fs0 j)
    {ws : va_W} (hP : va_P D vwCl ws H) (hD : va_D A ws) (hS : va_S A H0 H locs) (hA : ∀ a, H0.size ≤ a → A a) (hcells : cells + 1 ≤ R.cells) (hslots : slots + N ≤ R.slots) (d1 : decode cc pc = .ok (.new ix, 3)) (d2 : decode cc (pc + 3) = .ok (.dup, 1))
    (kk : ∀ (q : Nat) (H1 : Heap), va_P D vwCl (ws ++ [(q, .inr (cj, fs0))]) H1 → va_D A (ws ++ [(q, .inr (cj, fs0))]) → va_S A H0 H1 locs → W p l e R s m args below meth c H1 locs (cells + 1) (slots + N) Q (F0 m (pc + 3 + 1) ls (.ref q :: .ref q :: rest))) : W p l e R s m args below meth c H locs cells slots Q (F0 m pc ls rest) := by
  subst hN
  refine va_new (ci := cj) (fs := fs0) (C := qv.1) (T := qv.2.1) (N := qv.2.2) (own := own) (index := ix) hx hb hts (fun w hw => hTs w (CT0_TX (vw_in hq w hw))) ty0 hty hown (hts _ hcl) (hts _ hins) (hts _ hini) hK hP hD hS hA hq hfs hcells hslots d1 (fun q H1 hP1 hD1 hS1 => ?_)
  exact lv_dup hx hb d2 rfl (kk q H1 hP1 hD1 hS1)
/-- a constructor of a nest mate -/
theorem cu_callN (C : CCx p s m args meth c cc ci D ty) (hN : ∀ w ∈ NC, va_Nw w s) {y : MethodName} {cc' : ByteArray} {nL maxL cj n mc ms na ix : Nat} {rm : Room} {fs0 As : List Value} {w : Nat → List Nat → va_W} (hM : CM l y cc' maxL rm D ty cj fs0 As n w mc ms) (hml : c.maxLocals = nL) (hls : ls.size = nL) (hcode : Cond.code y cc' maxL none ∈ CT0) (hrc : rm.cells = mc) (hrs : rm.slots = ms) (hlk : Cond.methodLinkNest (cnm ci) ix y RX8 ∈ NC) (hini : Cond.initialized y.cls ∈ CT0) (hins : Cond.instanceMethod y ∈ CT0) (hyn : y.name = "<init>")
    (hd : y.cls ≠ "java/lang/invoke/MethodHandle" ∧ y.cls ≠ "java/lang/invoke/VarHandle" ∧ (parseMethodDescriptor y.desc).map (fun d => d.parameters.length) = some na) (hR : rm.frames + 1 ≤ R.frames ∧ 8 + (maxL + 11) + rm.locals ≤ R.locals) (hna : As.length = na) (hrest : (rest.map fun v => v.category).sum ≤ 8) (hc1 : cells + mc ≤ R.cells) (hc2 : slots + ms ≤ R.slots) (hdg : decode cc pc = .ok (.invokespecial ix, 3))
    {ws : va_W} {q : Nat} (hP : va_P D vwCl (ws ++ [(q, .inr (cj, fs0))]) H) (hD : va_D A (ws ++ [(q, .inr (cj, fs0))])) (hS : va_S A H0 H locs) (hA : ∀ a, H0.size ≤ a → A a)
    (kk : ∀ (qs : List Nat) (H1 : Heap) (locs1 : List Loc), qs.length = n → va_P D vwCl (ws ++ w q qs) H1 → va_D A (ws ++ w q qs) → va_S A H0 H1 locs1 → W p l e R s m args below meth c H1 locs1 (cells + mc) (slots + ms) Q (F0 m (pc + 3) ls rest)) : W p l e R s m args below meth c H locs cells slots Q (F0 m pc ls (As.reverse ++ .ref q :: rest)) := by
  obtain ⟨hx, hb, hts, hown, hin, hK⟩ := C
  have hPq : va_P D vwCl [(q, .inr (cj, fs0))] H := fun k x hk => by
    have hz : k < 1 := (List.getElem?_eq_some_iff.mp hk).1
    obtain rfl : k = 0 := by omega
    cases hk
    exact hP ws.length _ (by simp)
  exact cu_after hP hD hS hA (va_runIN (As := As) (rest := rest) (g := F0 m pc ls (As.reverse ++ .ref q :: rest)) ⟨hx, hb, hml, hown, hts⟩ (hM q H.size) ⟨va_cnB na hts (CT0_cons hcode) rfl hrc hrs (hN _ hlk) (hts _ hini) hd hR, hyn, hts _ hins⟩ ⟨cPre.blind, fun U hU hW => ⟨rfl, by rw [hU], by rw [hU]; exact hPq, KC.warm ⟨hK, hN⟩ hW⟩⟩ rfl hna hls rfl (lv_room hrest) hdg ⟨hc1, hc2⟩) kk
end CUO
def fs0_0 : List Value := [.null, .int 0, .int 0]
theorem fs0_0_ok : ∀ j, j < 3 → defaultValue (tyX0 j) = vp_V fs0_0 j := by decide +kernel
def fs0_1 : List Value := [.null, .int 0]
theorem fs0_1_ok : ∀ j, j < 2 → defaultValue (tyX1 j) = vp_V fs0_1 j := by decide +kernel
def fs0_2 : List Value := [.null, .null, .null]
theorem fs0_2_ok : ∀ j, j < 3 → defaultValue (tyX2 j) = vp_V fs0_2 j := by decide +kernel
def fs0_3 : List Value := [.null, .null, .null, .int 0, .int 0, .int 0, .int 0, .int 0, .int 0, .int 0]
theorem fs0_3_ok : ∀ j, j < 10 → defaultValue (tyX3 j) = vp_V fs0_3 j := by decide +kernel
def fs0_4 : List Value := [.int 0, .int 0, .int 0, .int 0, .int 0, .null, .null, .null, .null, .null, .null, .null, .null, .null, .null]
theorem fs0_4_ok : ∀ j, j < 15 → defaultValue (tyX4 j) = vp_V fs0_4 j := by decide +kernel
def fs0_5 : List Value := [.null, .null]
theorem fs0_5_ok : ∀ j, j < 2 → defaultValue (tyX5 j) = vp_V fs0_5 j := by decide +kernel
def fs0_6 : List Value := [.null]
theorem fs0_6_ok : ∀ j, j < 1 → defaultValue (tyX6 j) = vp_V fs0_6 j := by decide +kernel
def fs0_7 : List Value := [.null, .int 0, .int 0, .int 0, .int 0, .int 0, .int 0]
theorem fs0_7_ok : ∀ j, j < 7 → defaultValue (tyX7 j) = vp_V fs0_7 j := by decide +kernel
def fs0_8 : List Value := [.null, .null, .null, .null, .null, .null, .null, .null, .null, .null]
theorem fs0_8_ok : ∀ j, j < 10 → defaultValue (tyX8 j) = vp_V fs0_8 j := by decide +kernel
def fs0_9 : List Value := [.null, .int 0, .int 0, .int 0, .int 0, .int 0, .int 0, .int 0, .int 0, .null, .int 0, .null, .null, .null, .null, .null, .null, .null, .null, .null, .null, .null, .null, .null, .null, .null, .null, .int 0, .null, .null, .null, .null, .null, .null, .null, .null, .int 0, .null, .null, .null, .int 0, .int 0, .null, .null, .null, .null, .int 0, .int 0, .int 0, .int 0, .null, .null, .null, .null, .null, .null, .null, .null, .null, .null, .null, .null, .null, .null, .null, .null, .null, .null, .null, .null, .null, .int 0, .null, .int 0, .int 0, .int 0, .null, .int 0, .long 0, .int 0, .null, .int 0]
theorem fs0_9_ok : ∀ j, j < 82 → defaultValue (tyX9 j) = vp_V fs0_9 j := by decide +kernel
def US0 : List CU := [(0, 11, 0, 4280, []), (1, 17, 3, 0, []), (2, 21, 3, 0, [])]
theorem US0_ok : cuE cX0_init 0 4 US0 = some 23 := by decide +kernel
theorem met0 (l : Launch) (D : va_G) (ty : ClassId × ClassId × ClassId) : CM l yX0_init cX0_init 1 { frames := 1, cells := cuC US0, slots := cuS US0, locals := 12 } D ty 0 fs0_0 [] (cuC US0) (fun h0 qs => (h0, .inr (0, cuF 0 US0 qs fs0_0)) :: cuA ty US0 qs) (cuC US0) (cuS US0) :=
  cu_met l (t1 := 0) (oi := 3) (pe := 23) (maxL := 1) rfl (by decide +kernel) rfl rfl (by decide +kernel) (by decide +kernel) (CT0_CW 41 rfl) US0_ok (by decide +kernel) (Or.inl ⟨rfl, rfl, by decide⟩) D ty fs0_0 rfl
def US1 : List CU := [(0, 13, 0, 268, []), (1, 17, 3, 0, [])]
theorem US1_ok : cuE cX1_init 1 4 US1 = some 18 := by decide +kernel
theorem met1 (l : Launch) (D : va_G) (ty : ClassId × ClassId × ClassId) : CM l yX1_init cX1_init 1 { frames := 1, cells := cuC US1, slots := cuS US1, locals := 12 } D ty 1 fs0_1 [] (cuC US1) (fun h0 qs => (h0, .inr (1, cuF 0 US1 qs fs0_1)) :: cuA ty US1 qs) (cuC US1) (cuS US1) :=
  cu_met l (t1 := 0) (oi := 5) (pe := 18) (maxL := 1) rfl (by decide +kernel) rfl rfl (by decide +kernel) (by decide +kernel) (CT0_CW 46 rfl) US1_ok (by decide +kernel) (Or.inl ⟨rfl, rfl, by decide⟩) D ty fs0_1 rfl
def US2 : List CU := [(0, 9, 0, 15, []), (1, 15, 0, 15, []), (2, 18, 0, 15, [])]
theorem US2_ok : cuE cX2_init 2 4 US2 = some 28 := by decide +kernel
theorem met2 (l : Launch) (D : va_G) (ty : ClassId × ClassId × ClassId) : CM l yX2_init cX2_init 1 { frames := 1, cells := cuC US2, slots := cuS US2, locals := 12 } D ty 2 fs0_2 [] (cuC US2) (fun h0 qs => (h0, .inr (2, cuF 0 US2 qs fs0_2)) :: cuA ty US2 qs) (cuC US2) (cuS US2) :=
  cu_met l (t1 := 0) (oi := 3) (pe := 28) (maxL := 1) rfl (by decide +kernel) rfl rfl (by decide +kernel) (by decide +kernel) (CT0_CW 31 rfl) US2_ok (by decide +kernel) (Or.inl ⟨rfl, rfl, by decide⟩) D ty fs0_2 rfl
def US3 : List CU := [(1, 9, 0, 1600, []), (2, 15, 0, 64, []), (3, 18, 3, 0, []), (4, 22, 3, -1, []), (5, 25, 3, 0, []), (6, 28, 3, 0, []), (7, 31, 3, 0, []), (8, 34, 3, 0, []), (9, 37, 3, 0, []), (0, 40, 4, 0, [])]
theorem US3_ok : cuE cX3_init 3 4 US3 = some 61 := by decide +kernel
theorem met3 (l : Launch) (D : va_G) (ty : ClassId × ClassId × ClassId) (t1 : Nat) : CM l yX3_init cX3_init 2 { frames := 1, cells := cuC US3, slots := cuS US3, locals := 12 } D ty 3 fs0_3 [.ref t1] (cuC US3) (fun h0 qs => (h0, .inr (3, cuF t1 US3 qs fs0_3)) :: cuA ty US3 qs) (cuC US3) (cuS US3) :=
  cu_met l (t1 := t1) (oi := 3) (pe := 61) (maxL := 2) rfl (by decide +kernel) rfl rfl (by decide +kernel) (by decide +kernel) (CT0_CW 26 rfl) US3_ok (by decide +kernel) (Or.inr ⟨rfl, rfl⟩) D ty fs0_3 rfl
def US4 : List CU := [(0, 9, 3, 0, []), (1, 15, 3, 0, []), (2, 18, 3, 0, []), (3, 21, 3, 0, []), (4, 24, 3, 99, []), (5, 27, 0, 72, []), (6, 31, 0, 4, []), (7, 34, 0, 4, []), (8, 37, 0, 4, []), (9, 40, 0, 4, []), (10, 43, 0, 8, []), (11, 46, 0, 8, []), (12, 49, 0, 8, []), (13, 52, 0, 7, []), (14, 55, 0, 60, [])]
theorem US4_ok : cuE cX4_init 4 4 US4 = some 106 := by decide +kernel
theorem met4 (l : Launch) (D : va_G) (ty : ClassId × ClassId × ClassId) : CM l yX4_init cX4_init 1 { frames := 1, cells := cuC US4, slots := cuS US4, locals := 12 } D ty 4 fs0_4 [] (cuC US4) (fun h0 qs => (h0, .inr (4, cuF 0 US4 qs fs0_4)) :: cuA ty US4 qs) (cuC US4) (cuS US4) :=
  cu_met l (t1 := 0) (oi := 3) (pe := 106) (maxL := 1) rfl (by decide +kernel) rfl rfl (by decide +kernel) (by decide +kernel) (CT0_CW 21 rfl) US4_ok (by decide +kernel) (Or.inl ⟨rfl, rfl, by decide⟩) D ty fs0_4 rfl
def US6 : List CU := [(0, 11, 0, 214, [])]
theorem US6_ok : cuE cX6_init 6 4 US6 = some 13 := by decide +kernel
theorem met6 (l : Launch) (D : va_G) (ty : ClassId × ClassId × ClassId) : CM l yX6_init cX6_init 1 { frames := 1, cells := cuC US6, slots := cuS US6, locals := 12 } D ty 6 fs0_6 [] (cuC US6) (fun h0 qs => (h0, .inr (6, cuF 0 US6 qs fs0_6)) :: cuA ty US6 qs) (cuC US6) (cuS US6) :=
  cu_met l (t1 := 0) (oi := 5) (pe := 13) (maxL := 1) rfl (by decide +kernel) rfl rfl (by decide +kernel) (by decide +kernel) (CT0_CW 36 rfl) US6_ok (by decide +kernel) (Or.inl ⟨rfl, rfl, by decide⟩) D ty fs0_6 rfl
def US7 : List CU := [(0, 9, 0, 1600, []), (1, 15, 3, 0, []), (2, 19, 3, 0, []), (3, 22, 3, -1, []), (4, 25, 3, 0, []), (5, 28, 3, 0, []), (6, 31, 3, 0, [])]
theorem US7_ok : cuE cX7_init 7 4 US7 = some 43 := by decide +kernel
theorem met7 (l : Launch) (D : va_G) (ty : ClassId × ClassId × ClassId) : CM l yX7_init cX7_init 1 { frames := 1, cells := cuC US7, slots := cuS US7, locals := 12 } D ty 7 fs0_7 [] (cuC US7) (fun h0 qs => (h0, .inr (7, cuF 0 US7 qs fs0_7)) :: cuA ty US7 qs) (cuC US7) (cuS US7) :=
  cu_met l (t1 := 0) (oi := 3) (pe := 43) (maxL := 1) rfl (by decide +kernel) rfl rfl (by decide +kernel) (by decide +kernel) (CT0_CW 10 rfl) US7_ok (by decide +kernel) (Or.inl ⟨rfl, rfl, by decide⟩) D ty fs0_7 rfl
def US9_0 : List CU := [(0, 7, 0, 1600, []), (8, 13, 3, -1, []), (9, 17, 0, 4, []), (11, 20, 2, 5, [116, 111, 119, 101, 114]), (12, 24, 2, 5, [115, 116, 101, 112, 115]), (13, 27, 2, 4, [119, 111, 111, 100]), (14, 30, 2, 5, [99, 111, 115, 116, 115]), (15, 33, 2, 3, [103, 97, 112]), (16, 36, 2, 2, [111, 102]), (17, 39, 2, 5, [103, 117, 97, 114, 100]), (18, 42, 2, 4, [108, 101, 103, 115]), (19, 45, 2, 4, [114, 111, 112, 101]), (20, 48, 2, 4, [108, 111, 97, 110]), (21, 51, 2, 2, [116, 111])]
set_option maxRecDepth 100000 in
theorem US9_0_ok : cuE cX9_init 9 4 US9_0 = some 317 := by decide +kernel
def US9_1 : List CU := [(22, 54, 2, 4, [100, 97, 121, 115]), (23, 57, 2, 4, [114, 101, 110, 116]), (24, 60, 2, 5, [98, 101, 110, 100, 115]), (25, 63, 2, 5, [101, 110, 101, 109, 121]), (26, 66, 2, 4, [111, 100, 100, 115]), (28, 69, 0, 8, []), (29, 72, 1, 32, []), (30, 76, 0, 16, []), (31, 79, 0, 48, []), (32, 82, 0, 14, []), (33, 85, 0, 56, []), (34, 88, 0, 60, []), (35, 91, 0, 2, []), (37, 94, 0, 254, [])]
set_option maxRecDepth 100000 in
theorem US9_1_ok : cuE cX9_init 9 317 US9_1 = some 534 := by decide +kernel
def US9_2 : List CU := [(38, 97, 0, 30, []), (39, 100, 0, 5080, []), (42, 103, 0, 254, []), (43, 106, 0, 4, []), (44, 109, 0, 240, []), (45, 112, 0, 24, []), (50, 115, 2, 5, [102, 105, 114, 115, 116]), (51, 118, 2, 4, [108, 97, 115, 116]), (52, 121, 2, 5, [111, 102, 116, 101, 110]), (53, 124, 2, 5, [116, 111, 116, 97, 108]), (54, 127, 2, 4, [109, 111, 115, 116]), (55, 130, 2, 5, [108, 101, 97, 115, 116]), (56, 133, 2, 3, [110, 111, 116]), (57, 136, 2, 3, [97, 110, 100])]
set_option maxRecDepth 100000 in
theorem US9_2_ok : cuE cX9_init 9 534 US9_2 = some 810 := by decide +kernel
def US9_3 : List CU := [(58, 139, 2, 2, [111, 114]), (59, 142, 2, 3, [97, 108, 108]), (60, 145, 2, 3, [109, 105, 110]), (61, 148, 2, 3, [109, 97, 120]), (62, 151, 2, 3, [100, 97, 121]), (63, 154, 2, 4, [104, 101, 108, 100]), (64, 157, 2, 4, [108, 101, 110, 116]), (65, 160, 2, 4, [98, 101, 110, 116]), (66, 163, 2, 4, [121, 97, 114, 100]), (67, 166, 2, 5, [112, 117, 114, 115, 101]), (68, 169, 2, 6, [115, 116, 97, 110, 100, 115]), (69, 172, 2, 5, [114, 101, 97, 99, 104]), (70, 175, 0, 1700, []), (72, 178, 0, 1700, [])]
set_option maxRecDepth 100000 in
theorem US9_3_ok : cuE cX9_init 9 810 US9_3 = some 1143 := by decide +kernel
def US9_4 : List CU := [(76, 181, 1, 1700, []), (80, 184, 0, 268, [])]
set_option maxRecDepth 100000 in
theorem US9_4_ok : cuE cX9_init 9 1143 US9_4 = some 1161 := by decide +kernel
def US9 : List CU := US9_0 ++ (US9_1 ++ (US9_2 ++ (US9_3 ++ (US9_4))))
theorem US9_ok : cuE cX9_init 9 4 US9 = some 1161 := cuE_app US9_0_ok (cuE_app US9_1_ok (cuE_app US9_2_ok (cuE_app US9_3_ok (US9_4_ok))))
theorem met9 (l : Launch) (D : va_G) (ty : ClassId × ClassId × ClassId) : CM l yX9_init cX9_init 1 { frames := 1, cells := cuC US9, slots := cuS US9, locals := 12 } D ty 9 fs0_9 [] (cuC US9) (fun h0 qs => (h0, .inr (9, cuF 0 US9 qs fs0_9)) :: cuA ty US9 qs) (cuC US9) (cuS US9) :=
  cu_met l (t1 := 0) (oi := 1) (pe := 1161) (maxL := 1) rfl (by decide +kernel) rfl rfl (by decide +kernel) (by decide +kernel) (CT0_CW 51 rfl) US9_ok (by decide +kernel) (Or.inl ⟨rfl, rfl, by decide⟩) D ty fs0_9 rfl
