/-! ===== RealmReader's and LentStairs's constructors; the store behind all (wip/whole/gena3.py) ===== -/
def mI {α β : Type} (f : Nat → α → β) : Nat → List α → List β
  | _, [] => []
  | i, a :: l => f i a :: mI f (i + 1) l
theorem mI_at {α β : Type} (f : Nat → α → β) : ∀ (l : List α) (i k : Nat), (mI f i l)[k]? = (l[k]?).map (f (i + k))
  | [], i, k => by simp [mI]
  | a :: l, i, 0 => by simp [mI]
  | a :: l, i, k + 1 => by
    show (mI f (i + 1) l)[k]? = (l[k]?).map (f (i + (k + 1)))
    rw [mI_at f l (i + 1) k, show i + 1 + k = i + (k + 1) by omega]
theorem mI_eq {α β : Type} (f : Nat → α → β) (l : List α) : l.mapIdx f = mI f 0 l := by
  apply List.ext_getElem?
  intro k
  rw [mI_at, List.getElem?_mapIdx, Nat.zero_add]
def ceI (G : WG) (f : Int → Int) : Shp → va_E
  | .inl (0, n) => .inl (G.2.2.2.1, n, .inl fun k => Int32.ofInt (f (k : Int)))
  | .inl (1, n) => .inl (G.2.2.2.2.1, n, .inr (.inl fun k => Int64.ofInt (f (k : Int))))
  | .inl (_, n) => .inl (G.2.2.2.2.2, n, .inl fun k => Int32.ofInt (f (k : Int)))
  | .inr (ci, ks) => .inr (ci, mI (fun k kd => fv G.2.1 (f (k : Int)) kd) 0 ks)
theorem ceI_eq (G : WG) (f : Int → Int) (sh : Shp) : ce G f sh = ceI G f sh := by
  rcases sh with ⟨kd, n⟩ | ⟨ci, ks⟩
  · match kd with
    | 0 => rfl
    | 1 => rfl
    | k + 2 => rfl
  · show Sum.inr (ci, _) = Sum.inr (ci, _)
    rw [mI_eq]
def wdI (G : WG) (σ : SG) : va_W := mI (fun p sh => (G.2.1 p, ceI G (σ p) sh)) 0 SH
theorem wdI_eq (G : WG) (σ : SG) : wd G σ = wdI G σ := by
  unfold wd wdI
  rw [mI_eq]
  congr 1
  funext p sh
  rw [ceI_eq]
theorem len_s {n : Nat} {qs : List Nat} (h : qs.length = n + 1) : ∃ a t, qs = a :: t ∧ t.length = n := by
  cases qs with
  | nil => cases h
  | cons a t => exact ⟨a, t, rfl, Nat.succ.inj h⟩
theorem len_0 {qs : List Nat} (h : qs.length = 0) : qs = [] := List.eq_nil_of_length_eq_zero h
/-- a constructor from its entry to behind Object's -/
theorem cu_entry (l : Launch) {ci oi maxL n mc ms : Nat} {q : vw_C} {y : MethodName} {cc : ByteArray} {As fs0 : List Value} {rm : Room} {w : Nat → List Nat → va_W} {D : va_G} {ty : ClassId × ClassId × ClassId} (hq : vwCl[ci]? = some q) (hy : plainName y.cls = true) (hyc : y.cls = cnm ci) (hyn : y.name = "<init>") (d0 : decode cc 0 = .ok (.aload_n 0, 1)) (d1 : decode cc 1 = .ok (.invokespecial oi, 3)) (ho : Cond.methodLink (cnm ci) oi objectInit ∈ CT0)
    (hAs : (As = [] ∧ maxL = 1) ∨ ∃ t1, As = [.ref t1] ∧ maxL = 2) (hrm : 1 ≤ rm.frames ∧ 12 ≤ rm.locals)
    (body : ∀ (h0 : Nat) (p : Program) (e : Env) (s : State) (m : MethodId) (below : List Frame) (meth : Method) (c : Code) (ls : Array Slot), CCx p s m (Value.ref h0 :: As).toArray meth c cc ci D ty → (∀ w ∈ NC, va_Nw w s) → c.maxLocals = maxL → lv_has ls maxL (lv_args 0 (.ref h0 :: As)) → meth.sig.returnType = none → meth.locks = false → va_P D vwCl [(h0, .inr (ci, fs0))] s.heap →
      W p l e rm s m (Value.ref h0 :: As).toArray below meth c s.heap [] 0 0 (MQ below (va_Qv (fun qs : List Nat => qs.length = n) (cPost D h0 ci fs0 s.heap.size (w h0)) (va_A [(h0, .inr (ci, fs0))] s.heap.size)) (Value.ref h0 :: As).toArray s mc ms (va_A [(h0, .inr (ci, fs0))] s.heap.size)) (F0 m 4 ls [])) : CM l y cc maxL rm D ty ci fs0 As n w mc ms := by
  intro h0 sz
  refine Met.ofW (cc := cc) (maxL := maxL) (ret := none) hy rfl ?_
  intro p e s m args below meth c s₁ B hml hv
  obtain ⟨rfl, hsz, hP, hK, hN⟩ := hv
  have hts := atoms_spec (ws := .code y cc maxL none :: CT0) B.pre
  have hts' : ∀ w ∈ CT0, w.before (Value.ref h0 :: As).toArray s = true := fun w hw => hts w (List.mem_cons_of_mem _ hw)
  have hown : s.vm.findClass y.cls = some m.cls := findClass_of_methodNamed B.named
  rw [hyc] at hown
  have hin : meth.name = "<init>" := (name_of_methodNamed B.named B.method).1.trans hyn
  subst hsz
  have C : CCx p s m (Value.ref h0 :: As).toArray meth c cc ci D ty := ⟨B.exec, B.bytes, hts', hown, hin, hK⟩
  have hr := B.returns
  have hlocks := B.notSynchronized
  rw [lg_entry_eq]
  have hl := lv_entry (.ref h0 :: As) (n := maxL) (by rcases hAs with ⟨rfl, rfl⟩ | ⟨t1, rfl, rfl⟩ <;> exact Nat.le_of_ble_eq_true rfl)
  generalize (lg_sl (.ref h0 :: As) ++ List.replicate (maxL - (lg_sl (.ref h0 :: As)).length) Slot.unset).toArray = ls at hl ⊢
  have hl0 : ls[0]? = some (.val (.ref h0)) := lv_at hl 0 rfl
  refine lv_aload_n B.exec B.bytes d0 rfl hl0 ?_
  refine W.objInit B.exec B.bytes hown (hts' _ ho) (hts' _ (CT0_CW 4 rfl)) (hts' _ (CT0_CW 5 rfl)) rfl (by rw [hml]; exact hl.1) rfl d1 hrm.1 hrm.2 ?_
  refine W.eq (g2 := F0 m 4 ls []) rfl ?_
  exact body h0 p e s m below meth c ls C hN hml hl hr hlocks hP
section CUP
variable {p : Program} {l : Launch} {e : Env} {R : Room} {s : State} {m : MethodId} {args : Array Value} {below : List Frame} {meth : Method} {c : Code} {H : Heap} {locs : List Loc} {cells slots : Nat} {Q : State → Prop}
variable {cc : ByteArray} {pc ci : Nat} {ls : Array Slot} {rest : List Value} {D : va_G} {A : Nat → Prop} {H0 : Heap} {ty : ClassId × ClassId × ClassId}
theorem cu_get (C : CCx p s m args meth c cc ci D ty) {q : vw_C} {h0 k ix : Nat} (hq : vwCl[ci]? = some q) (hk : k < q.2.2) (hft : (ci, ix, ci, k) ∈ FT) {fs : List Value} {as : va_W} (hP : va_P D vwCl ((h0, .inr (ci, fs)) :: as) H) {v : Value} (hv : fs[k]? = some v) (hdg : decode cc pc = .ok (.getfield ix, 3))
    (kk : W p l e R s m args below meth c H locs cells slots Q (F0 m (pc + 3) ls (v :: rest))) : W p l e R s m args below meth c H locs cells slots Q (F0 m pc ls (.ref h0 :: rest)) := by
  obtain ⟨hx, hb, hts, hown, hin, hK⟩ := C
  have hci : ci < 10 := (List.getElem?_eq_some_iff.mp hq).1
  have hqn : q.1 = cnm ci := by
    obtain ⟨q', h1, h2⟩ := vw_get hci
    rw [hq] at h1
    cases h1
    exact h2
  have hl1 := hts _ (CT0_TX (tx_FT hft))
  unfold fw at hl1
  rw [fwn_s hq] at hl1
  exact va_get (D := D) (cl := vwCl) (tys := tyC ty) (ws := (h0, .inr (ci, fs)) :: as) (C := q.1) (T := q.2.1) (N := q.2.2) (ci := ci) (own := cnm ci) (ref := cnm ci) (index := ix) hx hb hts (fun w hw => CT0_TX (vw_in hq w hw)) hown hK hP 0 rfl hq k hk hl1 (va_same hq hqn hk) hv hdg kk
/-- a field gets a new object -/
theorem cu_o (C : CCx p s m args meth c cc ci D ty) (hN : ∀ w ∈ NC, va_Nw w s) {q8 : vw_C} {h0 k ixf : Nat} {nm : String} (hq8 : vwCl[ci]? = some q8) (hk : k < q8.2.2) (hft : (ci, ixf, ci, k) ∈ FT) (hds : parseFieldDescriptor (q8.2.1 k).2.2.1 = some (.object nm))
    {y : MethodName} {cc' : ByteArray} {nL maxL cj n mc ms na ixm ixc Nj : Nat} {rm : Room} {fs0 As : List Value} {w : Nat → List Nat → va_W} (hM : CM l y cc' maxL rm D ty cj fs0 As n w mc ms)
    {qv : vw_C} (ty0 : Nat → FieldType) (hq : vwCl[cj]? = some qv) (hNj : qv.2.2 = Nj) (hty : ∀ k, k < Nj → parseFieldDescriptor (qv.2.1 k).2.2.1 = some (ty0 k)) (hcl : Cond.classLink (cnm ci) ixc qv.1 ∈ CT0) (hinst : Cond.instantiable qv.1 Nj ∈ CT0) (hini : Cond.initialized qv.1 ∈ CT0) (hfs : ∀ j, j < Nj → defaultValue (ty0 j) = vp_V fs0 j)
    (hml : c.maxLocals = nL) (hls : ls.size = nL) (hcode : Cond.code y cc' maxL none ∈ CT0) (hrc : rm.cells = mc) (hrs : rm.slots = ms) (hlk : Cond.methodLinkNest (cnm ci) ixm y RX8 ∈ NC) (hins : Cond.instanceMethod y ∈ CT0) (hyn : y.name = "<init>")
    (hd : y.cls = qv.1 ∧ y.cls ≠ "java/lang/invoke/MethodHandle" ∧ y.cls ≠ "java/lang/invoke/VarHandle" ∧ (parseMethodDescriptor y.desc).map (fun d => d.parameters.length) = some na) (hR : rm.frames + 1 ≤ R.frames ∧ 8 + (maxL + 11) + rm.locals ≤ R.locals) (hna : As.length = na) (hl0 : ls[0]? = some (.val (.ref h0)))
    {fs : List Value} {as : va_W} (hfl : fs.length = q8.2.2) (hP : va_P D vwCl ((h0, .inr (ci, fs)) :: as) H) (hD : va_D A ((h0, .inr (ci, fs)) :: as)) (hS : va_S A H0 H locs) (hA : ∀ a, H0.size ≤ a → A a) (hc1 : cells + 1 + mc ≤ R.cells) (hc2 : slots + Nj + ms ≤ R.slots)
    {pc pc3 : Nat} (d0 : decode cc pc = .ok (.aload_n 0, 1)) (d1 : decode cc (pc + 1) = .ok (.new ixc, 3)) (d2 : decode cc (pc + 1 + 3) = .ok (.dup, 1)) (d3 : decode cc pc3 = .ok (.invokespecial ixm, 3)) (d4 : decode cc (pc3 + 3) = .ok (.putfield ixf, 3))
    (hmid : ∀ (q : Nat) (H : Heap) (locs : List Loc) (cells slots : Nat), va_P D vwCl ((h0, .inr (ci, fs)) :: (as ++ [(q, .inr (cj, fs0))])) H → W p l e R s m args below meth c H locs cells slots Q (F0 m pc3 ls (As.reverse ++ [.ref q, .ref q, .ref h0])) → W p l e R s m args below meth c H locs cells slots Q (F0 m (pc + 1 + 3 + 1) ls [.ref q, .ref q, .ref h0]))
    (kk : ∀ (q : Nat) (qs : List Nat) (H1 : Heap) (locs1 : List Loc), qs.length = n → va_P D vwCl ((h0, .inr (ci, fs.set k (.ref q))) :: (as ++ w q qs)) H1 → va_D A ((h0, .inr (ci, fs.set k (.ref q))) :: (as ++ w q qs)) → va_S A H0 H1 locs1 → W p l e R s m args below meth c H1 locs1 (cells + 1 + mc) (slots + Nj + ms) Q (F0 m (pc3 + 3 + 3) ls [])) :
    W p l e R s m args below meth c H locs cells slots Q (F0 m pc ls []) := by
  have C' := C
  obtain ⟨hx, hb, hts, hown, hin, hK⟩ := C'
  refine lv_aload_n hx hb d0 rfl hl0 ?_
  refine cu_new hx hb hts (fun w h => h) hown hK ty0 hq hNj hty hcl hinst hini hfs hP hD hS hA (by omega) (by omega) d1 d2 (fun q H1 hP1 hD1 hS1 => ?_)
  refine hmid q H1 locs _ _ hP1 ?_
  refine cu_callN C hN hM hml hls hcode hrc hrs hlk (by rw [hd.1]; exact hini) hins hyn hd.2 hR hna (by show 1 + (1 + 0) ≤ 8; omega) hc1 hc2 d3 (ws := (h0, .inr (ci, fs)) :: as) hP1 hD1 hS1 hA (fun qs H2 locs2 hqs hP2 hD2 hS2 => ?_)
  refine cu_put C hq8 hk hft hP2 hD2 hS2 (ft := .object nm) (v := .ref q) hds rfl rfl (by omega) d4 (fun H3 locs3 hP3 hD3 hS3 => ?_)
  exact kk q qs H3 locs3 hqs hP3 hD3 hS3
end CUP
theorem met5 (l : Launch) (D : va_G) (ty : ClassId × ClassId × ClassId) (t1 : Nat) : CM l yX5_init cX5_init 2 { frames := 2, cells := 1 + cuC US4, slots := 15 + cuS US4, locals := 40 } D ty 5 fs0_5 [.ref t1] (1 + cuC US4) (fun h0 qs => (h0, .inr (5, [.ref t1, .ref (qs.headD 0)])) :: (qs.headD 0, .inr (4, cuF 0 US4 qs.tail fs0_4)) :: cuA ty US4 qs.tail) (1 + cuC US4) (15 + cuS US4) := by
  refine cu_entry l (oi := 3) rfl (by decide +kernel) rfl rfl (by decide +kernel) (by decide +kernel) (CT0_CW 16 rfl) (Or.inr ⟨t1, rfl, rfl⟩) ⟨Nat.le_of_ble_eq_true rfl, Nat.le_of_ble_eq_true rfl⟩ (fun h0 p e s m below meth c ls C hN hml hl hr hlk hP => ?_)
  have hl0 : ls[0]? = some (.val (.ref h0)) := lv_at hl 0 rfl
  have hl1 : ls[1]? = some (.val (.ref t1)) := lv_at hl 1 rfl
  have C' := C
  obtain ⟨hx, hb, hts, hown, hin, hK⟩ := C'
  have hD : va_D (va_A [(h0, .inr (5, fs0_5))] s.heap.size) [(h0, .inr (5, fs0_5))] := va_D1 (Or.inl ⟨0, _, rfl⟩)
  refine cu_o C hN (k := 1) (ixf := 12) (nm := "LentStairs$Realm") rfl (by decide) (by decide +kernel) (by decide +kernel) (met4 l D ty) (qv := (RX4, TX4, 15)) (ixc := 9) (ixm := 11) tyX4 rfl rfl tyX4_ok (CT0_CW 17 rfl) (CT0_CW 18 rfl) (CT0_TX (tx_IC (e := 4) (by decide +kernel))) fs0_4_ok hml hl.1 (CT0_CW 20 rfl) rfl rfl (List.mem_of_getElem? (i := 2) rfl) (CT0_CW 19 rfl) rfl (by decide +kernel) ⟨Nat.le_of_ble_eq_true rfl, Nat.le_of_ble_eq_true rfl⟩ rfl hl0 (fs := fs0_5) (as := []) rfl hP hD va_S.rf (fun a h => Or.inr h) (Nat.le_of_ble_eq_true rfl) (Nat.le_of_ble_eq_true rfl) (pc := 4) (pc3 := 9) (by decide +kernel) (by decide +kernel) (by decide +kernel) (by decide +kernel) (by decide +kernel) (fun _ _ _ _ _ _ h => h) (fun q qs H1 locs1 hqs hP1 hD1 hS1 => ?_)
  refine lv_aload_n hx hb (k := 0) (pc := 15) (by decide +kernel) rfl hl0 ?_
  refine lv_aload_n hx hb (k := 1) (pc := 16) (by decide +kernel) rfl hl1 ?_
  refine cu_put C (q := (RX5, TX5, 2)) (ix := 18) (k := 0) rfl (by decide) (by decide +kernel) hP1 hD1 hS1 (ft := .object "LentStairs$Tape") (v := .ref t1) (by decide +kernel) rfl rfl (Nat.le_of_ble_eq_true rfl) (pc := 17) (by decide +kernel) (fun H2 locs2 hP2 hD2 hS2 => ?_)
  refine W.widen (k := 1 + cuC US4) (n := 15 + cuS US4) (Nat.le_of_ble_eq_true rfl) (Nat.le_of_ble_eq_true rfl) ?_
  exact W.vret (pc := 20) hx hb hr (fun t ht hW => ⟨⟨q :: qs, rfl, by show (q :: qs).length = 1 + cuC US4; rw [List.length_cons, hqs, Nat.add_comm], by rw [ht]; exact hP2, hD2⟩, hS2.F ht⟩) hS2.2.2 (by decide +kernel) hlk
def INI : List (List Int) := [[0, 0, 0, 0, 0, 0, 0, 0, 0, 5], [], [0, 0, 0, -1, 0, 0, 0], [], [0, 16], [0, 0, 0, 0, 99, 0, 0, 0, 0, 0, 0, 0, 0, 0, 0], [], [], [], [], [], [], [], [], [], [], [0, 0, 0, 0, 99, 0, 0, 0, 0, 0, 0, 0, 0, 0, 0], [], [], [], [], [], [], [], [], [], [], [0, 0, 0, 0, -1, 0, 0, 0, 0, 0], [], [], [], [], [], [], [], [], [], [], [0, 0, 0], [], [0, 0], [], [0, 0, 0, 0, 0, 0, 0, 0, -1, 0, 0, 0, 0, 0, 0, 0, 0, 0, 0, 0, 0, 0, 0, 0, 0, 0, 0, 0, 0, 0, 0, 0, 0, 0, 0, 0, 0, 0, 0, 0, 0, 0, 0, 0, 0, 0, 0, 0, 0, 0, 0, 0, 0, 0, 0, 0, 0, 0, 0, 0, 0, 0, 0, 0, 0, 0, 0, 0, 0, 0, 0, 0, 0, 0, 0, 0, 0, 0, 0, 0, 0, 0], [], [], [116, 111, 119, 101, 114], [115, 116, 101, 112, 115], [119, 111, 111, 100], [99, 111, 115, 116, 115], [103, 97, 112], [111, 102], [103, 117, 97, 114, 100], [108, 101, 103, 115], [114, 111, 112, 101], [108, 111, 97, 110], [116, 111], [100, 97, 121, 115], [114, 101, 110, 116], [98, 101, 110, 100, 115], [101, 110, 101, 109, 121], [111, 100, 100, 115], [], [], [], [], [], [], [], [], [], [], [], [], [], [], [], [102, 105, 114, 115, 116], [108, 97, 115, 116], [111, 102, 116, 101, 110], [116, 111, 116, 97, 108], [109, 111, 115, 116], [108, 101, 97, 115, 116], [110, 111, 116], [97, 110, 100], [111, 114], [97, 108, 108], [109, 105, 110], [109, 97, 120], [100, 97, 121], [104, 101, 108, 100], [108, 101, 110, 116], [98, 101, 110, 116], [121, 97, 114, 100], [112, 117, 114, 115, 101], [115, 116, 97, 110, 100, 115], [114, 101, 97, 99, 104], [], [], [], []]
/-- the store behind both constructors -/
def sF : SG := fun p i => (INI.getD p []).getD i.toNat 0
/-- the class's cells, in the order of their places -/
def wdc (D : va_G) (ty : ClassId × ClassId × ClassId) (ad : Nat → Nat) : va_W := mI (fun p sh => (ad p, ceI (D, ad, (fun _ => 0), ty) (sF p) sh)) 0 (SH.take 42)
set_option maxHeartbeats 4000000 in
set_option maxRecDepth 100000 in
theorem met8 (l : Launch) (D : va_G) (ty : ClassId × ClassId × ClassId) : CM l yX8_init cX8_init 1 { frames := 3, cells := 41, slots := 10000, locals := 80 } D ty 8 fs0_8 [] 41 (fun h0 qs => wdc D ty fun p => (h0 :: qs).getD p 0) 41 10000 := by
  refine cu_entry l (oi := 1) rfl (by decide +kernel) rfl rfl (by decide +kernel) (by decide +kernel) (CT0_CW 3 rfl) (Or.inl ⟨rfl, rfl⟩) ⟨Nat.le_of_ble_eq_true rfl, Nat.le_of_ble_eq_true rfl⟩ (fun h0 p e s m below meth c ls C hN hml hl hr hlk hP => ?_)
  have hl0 : ls[0]? = some (.val (.ref h0)) := lv_at hl 0 rfl
  have C' := C
  obtain ⟨hx, hb, hts, hown, hin, hK⟩ := C'
  have hD : va_D (va_A [(h0, .inr (8, fs0_8))] s.heap.size) [(h0, .inr (8, fs0_8))] := va_D1 (Or.inl ⟨0, _, rfl⟩)
  have hA : ∀ a, s.heap.size ≤ a → va_A [(h0, .inr (8, fs0_8))] s.heap.size a := fun a h => Or.inr h
  have hS : va_S (va_A [(h0, .inr (8, fs0_8))] s.heap.size) s.heap s.heap [] := va_S.rf
  refine cu_o C hN (na := 0) (k := 0) (ixf := 10) (nm := "LentStairs$Tape") rfl (by decide) (by decide +kernel) (by decide +kernel) (met7 l D ty) (qv := (RX7, TX7, 7)) (ixc := 7) (ixm := 9) tyX7 rfl rfl tyX7_ok (CT0_CW 6 rfl) (CT0_CW 7 rfl) (CT0_TX (tx_IC (e := 7) (by decide +kernel))) fs0_7_ok hml hl.1 (CT0_CW 9 rfl) rfl rfl (List.mem_of_getElem? (i := 0) rfl) (CT0_CW 8 rfl) rfl (by decide +kernel) ⟨Nat.le_of_ble_eq_true rfl, Nat.le_of_ble_eq_true rfl⟩ rfl hl0 rfl hP hD hS hA (Nat.le_of_ble_eq_true rfl) (Nat.le_of_ble_eq_true rfl) (pc := 4) (pc3 := 9) (by decide +kernel) (by decide +kernel) (by decide +kernel) (by decide +kernel) (by decide +kernel) (fun _ _ _ _ _ _ h => h) (fun q1 qs1 H locs hq1 hP hD hS => ?_)
  refine cu_o C hN (na := 1) (k := 1) (ixf := 21) (nm := "LentStairs$RealmReader") rfl (by decide) (by decide +kernel) (by decide +kernel) (met5 l D ty q1) (qv := (RX5, TX5, 2)) (ixc := 16) (ixm := 18) tyX5 rfl rfl tyX5_ok (CT0_CW 12 rfl) (CT0_CW 13 rfl) (CT0_TX (tx_IC (e := 5) (by decide +kernel))) fs0_5_ok hml hl.1 (CT0_CW 15 rfl) rfl rfl (List.mem_of_getElem? (i := 1) rfl) (CT0_CW 14 rfl) rfl (by decide +kernel) ⟨Nat.le_of_ble_eq_true rfl, Nat.le_of_ble_eq_true rfl⟩ rfl hl0 rfl hP hD hS hA (Nat.le_of_ble_eq_true rfl) (Nat.le_of_ble_eq_true rfl) (pc := 15) (pc3 := 24) (by decide +kernel) (by decide +kernel) (by decide +kernel) (by decide +kernel) (by decide +kernel) (fun q H locs cells slots hP h => lv_aload_n hx hb (k := 0) (by decide +kernel) rfl hl0 (cu_get C (q := (RX8, TX8, 10)) (ix := 10) (k := 0) rfl (by decide) (by decide +kernel) hP (v := .ref q1) rfl (by decide +kernel) h)) (fun q2 qs2 H locs hq2 hP hD hS => ?_)
  refine cu_o C hN (na := 1) (k := 2) (ixf := 28) (nm := "LentStairs$Question") rfl (by decide) (by decide +kernel) (by decide +kernel) (met3 l D ty q1) (qv := (RX3, TX3, 10)) (ixc := 25) (ixm := 27) tyX3 rfl rfl tyX3_ok (CT0_CW 22 rfl) (CT0_CW 23 rfl) (CT0_TX (tx_IC (e := 3) (by decide +kernel))) fs0_3_ok hml hl.1 (CT0_CW 25 rfl) rfl rfl (List.mem_of_getElem? (i := 3) rfl) (CT0_CW 24 rfl) rfl (by decide +kernel) ⟨Nat.le_of_ble_eq_true rfl, Nat.le_of_ble_eq_true rfl⟩ rfl hl0 rfl hP hD hS hA (Nat.le_of_ble_eq_true rfl) (Nat.le_of_ble_eq_true rfl) (pc := 30) (pc3 := 39) (by decide +kernel) (by decide +kernel) (by decide +kernel) (by decide +kernel) (by decide +kernel) (fun q H locs cells slots hP h => lv_aload_n hx hb (k := 0) (by decide +kernel) rfl hl0 (cu_get C (q := (RX8, TX8, 10)) (ix := 10) (k := 0) rfl (by decide) (by decide +kernel) hP (v := .ref q1) rfl (by decide +kernel) h)) (fun q3 qs3 H locs hq3 hP hD hS => ?_)
  refine cu_o C hN (na := 0) (k := 3) (ixf := 35) (nm := "LentStairs$Prices") rfl (by decide) (by decide +kernel) (by decide +kernel) (met2 l D ty) (qv := (RX2, TX2, 3)) (ixc := 32) (ixm := 34) tyX2 rfl rfl tyX2_ok (CT0_CW 27 rfl) (CT0_CW 28 rfl) (CT0_TX (tx_IC (e := 2) (by decide +kernel))) fs0_2_ok hml hl.1 (CT0_CW 30 rfl) rfl rfl (List.mem_of_getElem? (i := 4) rfl) (CT0_CW 29 rfl) rfl (by decide +kernel) ⟨Nat.le_of_ble_eq_true rfl, Nat.le_of_ble_eq_true rfl⟩ rfl hl0 rfl hP hD hS hA (Nat.le_of_ble_eq_true rfl) (Nat.le_of_ble_eq_true rfl) (pc := 45) (pc3 := 50) (by decide +kernel) (by decide +kernel) (by decide +kernel) (by decide +kernel) (by decide +kernel) (fun _ _ _ _ _ _ h => h) (fun q4 qs4 H locs hq4 hP hD hS => ?_)
  refine cu_o C hN (na := 0) (k := 4) (ixf := 42) (nm := "LentStairs$State") rfl (by decide) (by decide +kernel) (by decide +kernel) (met6 l D ty) (qv := (RX6, TX6, 1)) (ixc := 39) (ixm := 41) tyX6 rfl rfl tyX6_ok (CT0_CW 32 rfl) (CT0_CW 33 rfl) (CT0_TX (tx_IC (e := 6) (by decide +kernel))) fs0_6_ok hml hl.1 (CT0_CW 35 rfl) rfl rfl (List.mem_of_getElem? (i := 5) rfl) (CT0_CW 34 rfl) rfl (by decide +kernel) ⟨Nat.le_of_ble_eq_true rfl, Nat.le_of_ble_eq_true rfl⟩ rfl hl0 rfl hP hD hS hA (Nat.le_of_ble_eq_true rfl) (Nat.le_of_ble_eq_true rfl) (pc := 56) (pc3 := 61) (by decide +kernel) (by decide +kernel) (by decide +kernel) (by decide +kernel) (by decide +kernel) (fun _ _ _ _ _ _ h => h) (fun q5 qs5 H locs hq5 hP hD hS => ?_)
  refine cu_o C hN (na := 0) (k := 5) (ixf := 46) (nm := "LentStairs$State") rfl (by decide) (by decide +kernel) (by decide +kernel) (met6 l D ty) (qv := (RX6, TX6, 1)) (ixc := 39) (ixm := 41) tyX6 rfl rfl tyX6_ok (CT0_CW 32 rfl) (CT0_CW 33 rfl) (CT0_TX (tx_IC (e := 6) (by decide +kernel))) fs0_6_ok hml hl.1 (CT0_CW 35 rfl) rfl rfl (List.mem_of_getElem? (i := 5) rfl) (CT0_CW 34 rfl) rfl (by decide +kernel) ⟨Nat.le_of_ble_eq_true rfl, Nat.le_of_ble_eq_true rfl⟩ rfl hl0 rfl hP hD hS hA (Nat.le_of_ble_eq_true rfl) (Nat.le_of_ble_eq_true rfl) (pc := 67) (pc3 := 72) (by decide +kernel) (by decide +kernel) (by decide +kernel) (by decide +kernel) (by decide +kernel) (fun _ _ _ _ _ _ h => h) (fun q6 qs6 H locs hq6 hP hD hS => ?_)
  refine cu_o C hN (na := 0) (k := 6) (ixf := 52) (nm := "LentStairs$History") rfl (by decide) (by decide +kernel) (by decide +kernel) (met0 l D ty) (qv := (RX0, TX0, 3)) (ixc := 49) (ixm := 51) tyX0 rfl rfl tyX0_ok (CT0_CW 37 rfl) (CT0_CW 38 rfl) (CT0_TX (tx_IC (e := 0) (by decide +kernel))) fs0_0_ok hml hl.1 (CT0_CW 40 rfl) rfl rfl (List.mem_of_getElem? (i := 6) rfl) (CT0_CW 39 rfl) rfl (by decide +kernel) ⟨Nat.le_of_ble_eq_true rfl, Nat.le_of_ble_eq_true rfl⟩ rfl hl0 rfl hP hD hS hA (Nat.le_of_ble_eq_true rfl) (Nat.le_of_ble_eq_true rfl) (pc := 78) (pc3 := 83) (by decide +kernel) (by decide +kernel) (by decide +kernel) (by decide +kernel) (by decide +kernel) (fun _ _ _ _ _ _ h => h) (fun q7 qs7 H locs hq7 hP hD hS => ?_)
  refine cu_o C hN (na := 0) (k := 7) (ixf := 59) (nm := "LentStairs$Picture") rfl (by decide) (by decide +kernel) (by decide +kernel) (met1 l D ty) (qv := (RX1, TX1, 2)) (ixc := 56) (ixm := 58) tyX1 rfl rfl tyX1_ok (CT0_CW 42 rfl) (CT0_CW 43 rfl) (CT0_TX (tx_IC (e := 1) (by decide +kernel))) fs0_1_ok hml hl.1 (CT0_CW 45 rfl) rfl rfl (List.mem_of_getElem? (i := 7) rfl) (CT0_CW 44 rfl) rfl (by decide +kernel) ⟨Nat.le_of_ble_eq_true rfl, Nat.le_of_ble_eq_true rfl⟩ rfl hl0 rfl hP hD hS hA (Nat.le_of_ble_eq_true rfl) (Nat.le_of_ble_eq_true rfl) (pc := 89) (pc3 := 94) (by decide +kernel) (by decide +kernel) (by decide +kernel) (by decide +kernel) (by decide +kernel) (fun _ _ _ _ _ _ h => h) (fun q8 qs8 H locs hq8 hP hD hS => ?_)
  refine cu_run C (q := (RX8, TX8, 10)) rfl (t1 := 0) hA hl0 [(8, 63, 0, 4, [])] 100 107 _ _ _ _ _ _ (Or.inr rfl) (by decide +kernel) rfl hP hD hS (Nat.le_of_ble_eq_true rfl) (Nat.le_of_ble_eq_true rfl) (fun qs9 H locs hq9 hP hD hS => ?_)
  refine cu_o C hN (na := 0) (k := 9) (ixf := 70) (nm := "LentStairs$Realm") rfl (by decide) (by decide +kernel) (by decide +kernel) (met4 l D ty) (qv := (RX4, TX4, 15)) (ixc := 67) (ixm := 69) tyX4 rfl rfl tyX4_ok (CT0_CW 47 rfl) (CT0_CW 18 rfl) (CT0_TX (tx_IC (e := 4) (by decide +kernel))) fs0_4_ok hml hl.1 (CT0_CW 20 rfl) rfl rfl (List.mem_of_getElem? (i := 8) rfl) (CT0_CW 19 rfl) rfl (by decide +kernel) ⟨Nat.le_of_ble_eq_true rfl, Nat.le_of_ble_eq_true rfl⟩ rfl hl0 rfl hP hD hS hA (Nat.le_of_ble_eq_true rfl) (Nat.le_of_ble_eq_true rfl) (pc := 107) (pc3 := 112) (by decide +kernel) (by decide +kernel) (by decide +kernel) (by decide +kernel) (by decide +kernel) (fun _ _ _ _ _ _ h => h) (fun q10 qs10 H locs hq10 hP hD hS => ?_)
  obtain ⟨a1_0, qs1_0, rfl, hq1_0⟩ := len_s (n := 0) hq1
  obtain rfl := len_0 hq1_0
  obtain ⟨a2_0, qs2_0, rfl, hq2_0⟩ := len_s (n := 10) hq2
  obtain ⟨a2_1, qs2_1, rfl, hq2_1⟩ := len_s (n := 9) hq2_0
  obtain ⟨a2_2, qs2_2, rfl, hq2_2⟩ := len_s (n := 8) hq2_1
  obtain ⟨a2_3, qs2_3, rfl, hq2_3⟩ := len_s (n := 7) hq2_2
  obtain ⟨a2_4, qs2_4, rfl, hq2_4⟩ := len_s (n := 6) hq2_3
  obtain ⟨a2_5, qs2_5, rfl, hq2_5⟩ := len_s (n := 5) hq2_4
  obtain ⟨a2_6, qs2_6, rfl, hq2_6⟩ := len_s (n := 4) hq2_5
  obtain ⟨a2_7, qs2_7, rfl, hq2_7⟩ := len_s (n := 3) hq2_6
  obtain ⟨a2_8, qs2_8, rfl, hq2_8⟩ := len_s (n := 2) hq2_7
  obtain ⟨a2_9, qs2_9, rfl, hq2_9⟩ := len_s (n := 1) hq2_8
  obtain ⟨a2_10, qs2_10, rfl, hq2_10⟩ := len_s (n := 0) hq2_9
  obtain rfl := len_0 hq2_10
  obtain ⟨a3_0, qs3_0, rfl, hq3_0⟩ := len_s (n := 1) hq3
  obtain ⟨a3_1, qs3_1, rfl, hq3_1⟩ := len_s (n := 0) hq3_0
  obtain rfl := len_0 hq3_1
  obtain ⟨a4_0, qs4_0, rfl, hq4_0⟩ := len_s (n := 2) hq4
  obtain ⟨a4_1, qs4_1, rfl, hq4_1⟩ := len_s (n := 1) hq4_0
  obtain ⟨a4_2, qs4_2, rfl, hq4_2⟩ := len_s (n := 0) hq4_1
  obtain rfl := len_0 hq4_2
  obtain ⟨a5_0, qs5_0, rfl, hq5_0⟩ := len_s (n := 0) hq5
  obtain rfl := len_0 hq5_0
  obtain ⟨a6_0, qs6_0, rfl, hq6_0⟩ := len_s (n := 0) hq6
  obtain rfl := len_0 hq6_0
  obtain ⟨a7_0, qs7_0, rfl, hq7_0⟩ := len_s (n := 0) hq7
  obtain rfl := len_0 hq7_0
  obtain ⟨a8_0, qs8_0, rfl, hq8_0⟩ := len_s (n := 0) hq8
  obtain rfl := len_0 hq8_0
  obtain ⟨a9_0, qs9_0, rfl, hq9_0⟩ := len_s (n := 0) hq9
  obtain rfl := len_0 hq9_0
  obtain ⟨a10_0, qs10_0, rfl, hq10_0⟩ := len_s (n := 9) hq10
  obtain ⟨a10_1, qs10_1, rfl, hq10_1⟩ := len_s (n := 8) hq10_0
  obtain ⟨a10_2, qs10_2, rfl, hq10_2⟩ := len_s (n := 7) hq10_1
  obtain ⟨a10_3, qs10_3, rfl, hq10_3⟩ := len_s (n := 6) hq10_2
  obtain ⟨a10_4, qs10_4, rfl, hq10_4⟩ := len_s (n := 5) hq10_3
  obtain ⟨a10_5, qs10_5, rfl, hq10_5⟩ := len_s (n := 4) hq10_4
  obtain ⟨a10_6, qs10_6, rfl, hq10_6⟩ := len_s (n := 3) hq10_5
  obtain ⟨a10_7, qs10_7, rfl, hq10_7⟩ := len_s (n := 2) hq10_6
  obtain ⟨a10_8, qs10_8, rfl, hq10_8⟩ := len_s (n := 1) hq10_7
  obtain ⟨a10_9, qs10_9, rfl, hq10_9⟩ := len_s (n := 0) hq10_8
  obtain rfl := len_0 hq10_9
  have hP9 := hP.sub (ws' := wdc D ty fun p => [h0, a9_0, q1, a1_0, q2, q10, a10_0, a10_1, a10_2, a10_3, a10_4, a10_5, a10_6, a10_7, a10_8, a10_9, a2_0, a2_1, a2_2, a2_3, a2_4, a2_5, a2_6, a2_7, a2_8, a2_9, a2_10, q3, a3_0, a3_1, q4, a4_0, a4_1, a4_2, q5, a5_0, q6, a6_0, q7, a7_0, q8, a8_0].getD p 0) [0, 30, 1, 2, 3, 31, 32, 33, 34, 35, 36, 37, 38, 39, 40, 41, 4, 5, 6, 7, 8, 9, 10, 11, 12, 13, 14, 15, 16, 17, 18, 19, 20, 21, 22, 23, 24, 25, 26, 27, 28, 29] rfl
  have hD9 := hD.sub (ws' := wdc D ty fun p => [h0, a9_0, q1, a1_0, q2, q10, a10_0, a10_1, a10_2, a10_3, a10_4, a10_5, a10_6, a10_7, a10_8, a10_9, a2_0, a2_1, a2_2, a2_3, a2_4, a2_5, a2_6, a2_7, a2_8, a2_9, a2_10, q3, a3_0, a3_1, q4, a4_0, a4_1, a4_2, q5, a5_0, q6, a6_0, q7, a7_0, q8, a8_0].getD p 0) [0, 30, 1, 2, 3, 31, 32, 33, 34, 35, 36, 37, 38, 39, 40, 41, 4, 5, 6, 7, 8, 9, 10, 11, 12, 13, 14, 15, 16, 17, 18, 19, 20, 21, 22, 23, 24, 25, 26, 27, 28, 29] (by decide) rfl
  refine W.widen (k := 41) (n := 10000) (Nat.le_of_ble_eq_true rfl) (Nat.le_of_ble_eq_true rfl) ?_
  exact W.vret (pc := 118) hx hb hr (fun t ht hW => ⟨⟨[a9_0, q1, a1_0, q2, q10, a10_0, a10_1, a10_2, a10_3, a10_4, a10_5, a10_6, a10_7, a10_8, a10_9, a2_0, a2_1, a2_2, a2_3, a2_4, a2_5, a2_6, a2_7, a2_8, a2_9, a2_10, q3, a3_0, a3_1, q4, a4_0, a4_1, a4_2, q5, a5_0, q6, a6_0, q7, a7_0, q8, a8_0], rfl, rfl, by rw [ht]; exact hP9, hD9⟩, hS.F ht⟩) hS.2.2 (by decide +kernel) hlk
