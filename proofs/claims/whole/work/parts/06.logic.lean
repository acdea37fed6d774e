/-! ===== the abstract store, its cells in the heap, and the judgement AW ===== -/
abbrev WG : Type := va_G × (Nat → Nat) × (Nat → Nat) × ClassId × ClassId × ClassId
def cv (ad : Nat → Nat) : AV → Value
  | .inl i => .int (Int32.ofInt i)
  | .inr (.inl i) => .long (Int64.ofInt i)
  | .inr (.inr p) => .ref (ad p)
def fv (ad : Nat → Nat) (x : Int) (kd : Nat × Nat) : Value := match kd.1 with
  | 1 => .long (Int64.ofInt x)
  | 2 => .ref (ad kd.2)
  | 3 => .ref (ad x.toNat)
  | _ => .int (Int32.ofInt x)
def ce (G : WG) (f : Int → Int) : Shp → va_E
  | .inl (0, n) => .inl (G.2.2.2.1, n, .inl fun k => Int32.ofInt (f (k : Int)))
  | .inl (1, n) => .inl (G.2.2.2.2.1, n, .inr (.inl fun k => Int64.ofInt (f (k : Int))))
  | .inl (_, n) => .inl (G.2.2.2.2.2, n, .inl fun k => Int32.ofInt (f (k : Int)))
  | .inr (ci, ks) => .inr (ci, ks.mapIdx fun k kd => fv G.2.1 (f (k : Int)) kd)
def wd (G : WG) (σ : SG) : va_W := SH.mapIdx fun p sh => (G.2.1 p, ce G (σ p) sh)
def AD (G : WG) : Nat → Prop := fun q => ∃ p, p < SH.length ∧ q = G.2.1 p
def tyL (G : WG) : List (ClassId × FieldType) := [(G.2.2.2.1, .int), (G.2.2.2.2.1, .long), (G.2.2.2.2.2, .char)]
def up (σ : SG) (p : Nat) (i v : Int) : SG := fun p' i' => if p' = p ∧ i' = i then v else σ p' i'
theorem up_at (σ : SG) (p : Nat) (i v : Int) : up σ p i v p i = v := by simp [up]
theorem up_i {σ : SG} {p q : Nat} {i j v : Int} (h : j ≠ i) : up σ p i v q j = σ q j := by simp [up, h]
theorem up_p {σ : SG} {p q : Nat} {i j v : Int} (h : q ≠ p) : up σ p i v q j = σ q j := by simp [up, h]
theorem up_pf {σ : SG} {p q : Nat} {i v : Int} (h : q ≠ p) : up σ p i v q = σ q := by funext j; exact up_p h
theorem up_up (σ : SG) (p : Nat) (i v w : Int) : up (up σ p i v) p i w = up σ p i w := by
  funext q j
  simp only [up]
  split <;> rfl
def cpy (σ : SG) (q0 q1 : Nat) (sp dp n : Int) : SG := fun p i => if p = q1 ∧ dp ≤ i ∧ i < dp + n then σ q0 (sp + (i - dp)) else σ p i
theorem wd_get (G : WG) (σ : SG) (p : Nat) {sh : Shp} (h : SH[p]? = some sh) : (wd G σ)[p]? = some (G.2.1 p, ce G (σ p) sh) := by
  simp [wd, List.getElem?_mapIdx, h]
theorem wd_len (G : WG) (σ : SG) : (wd G σ).length = SH.length := by simp [wd]
theorem wd_set {G : WG} {σ σ' : SG} {p : Nat} {sh : Shp} (h : SH[p]? = some sh) (ho : ∀ j, j ≠ p → σ' j = σ j) : (wd G σ).set p (G.2.1 p, ce G (σ' p) sh) = wd G σ' := by
  apply List.ext_getElem?
  intro j
  by_cases hj : j = p
  · subst hj
    have hl : j < (wd G σ).length := by rw [wd_len]; exact (List.getElem?_eq_some_iff.mp h).1
    rw [List.getElem?_set_self hl, wd_get G σ' j h]
  · rw [List.getElem?_set_ne (Ne.symm hj)]
    simp only [wd, List.getElem?_mapIdx, ho j hj]
theorem wd_D {G : WG} {σ : SG} (h : ∀ i j, i < SH.length → j < SH.length → G.2.1 i = G.2.1 j → i = j) : va_D (AD G) (wd G σ) := by
  have key : ∀ (i : Nat) (q : Nat × va_E), (wd G σ)[i]? = some q → i < SH.length ∧ q.1 = G.2.1 i := by
    intro i q hq
    have hi : i < SH.length := by
      have := (List.getElem?_eq_some_iff.mp hq).1
      rwa [wd_len] at this
    rw [wd_get G σ i (List.getElem?_eq_getElem hi)] at hq
    cases hq
    exact ⟨hi, rfl⟩
  refine ⟨fun i j x y hi hj e => ?_, fun k q hk => ?_⟩
  · obtain ⟨h1, h2⟩ := key i x hi
    obtain ⟨h3, h4⟩ := key j y hj
    exact h i j h1 h3 (by rw [← h2, ← h4]; exact e)
  · obtain ⟨h1, h2⟩ := key k q hk
    exact ⟨k, h1, h2⟩
/-- the texts: where they lie, and what they hold -/
def STK (G : WG) (U : State) (H : Heap) : Prop :=
  vk_S 7 sLen sByt (fun i => G.2.1 (1000 + i)) G.2.2.1 (AD G) U H ∧ (∀ e ∈ KS, vk_R (cnm e.1) e.2.1 (STRS.getD e.2.2 "") (G.2.1 (1000 + e.2.2)) U) ∧ va_Z "java/lang/String" "COMPACT_STRINGS" "Z" (.int 1) (AD G) U H ∧ ∃ v : Value, v.category = 1 ∧ va_Z "jdk/internal/util/Preconditions" "SIOOBE_FORMATTER" "Ljava/util/function/BiFunction;" v (AD G) U H
def KN (G : WG) (U : State) : Prop :=
  va_K G.1 vwCl (tyL G) U ∧ (∀ w ∈ NT, va_Nw w U) ∧ STK G U U.heap ∧ ∀ i j, i < SH.length → j < SH.length → G.2.1 i = G.2.1 j → i = j
theorem NT_warm {s U : State} (hW : s.WarmedH U.vm) (h : ∀ w ∈ NT, va_Nw w s) : ∀ w ∈ NT, va_Nw w U := by
  intro w hw
  have h1 := h w hw
  rcases List.mem_append.mp hw with hw | hw
  · obtain ⟨e, -, rfl⟩ := List.mem_map.mp hw
    exact va_Nw.warmF hW h1
  · obtain ⟨e, -, rfl⟩ := List.mem_map.mp hw
    exact va_Nw.warmM hW h1
theorem KN.warm {G : WG} {s U : State} {H : Heap} {locs : List Loc} (h : KN G s) (hS : va_S (AD G) s.heap H locs) (hU : U.heap = H) (hW : s.WarmedH U.vm) : KN G U := by
  obtain ⟨h1, h2, ⟨h3, h4, h5, v, h7, h8⟩, h6⟩ := h
  subst hU
  exact ⟨va_K.moved hW.alike h1, NT_warm hW h2, ⟨(h3.kept hS.2.1).moved hW.alike, fun e he => (h4 e he).warm hW, (h5.kept hS.2.1).moved hW.alike, v, h7, (h8.kept hS.2.1).moved hW.alike⟩, h6⟩
theorem KN.calling {G : WG} {U : State} (h : KN G U) (g : JFrame) (mk : MethodId) (a : Array Value) : KN G (U.calling g mk a) := by
  obtain ⟨h1, h2, ⟨h3, h4, h5, v, h7, h8⟩, h6⟩ := h
  refine ⟨va_K.moved (Vm.Alike.refl U.vm) h1, fun w hw => ?_, ⟨h3.moved (Vm.Alike.refl U.vm), fun e he => (h4 e he).same rfl, h5.moved (Vm.Alike.refl U.vm), v, h7, h8.moved (Vm.Alike.refl U.vm)⟩, h6⟩
  have h := h2 w hw
  rcases List.mem_append.mp hw with hw | hw
  · obtain ⟨e, -, rfl⟩ := List.mem_map.mp hw
    exact va_Nw.same rfl rfl h
  · obtain ⟨e, -, rfl⟩ := List.mem_map.mp hw
    exact va_Nw.same rfl rfl h
/-- locals -/
def las (ad : Nat → Nat) (ls : LV) : List (Nat × Value) := ls.zipIdx.filterMap fun q => q.1.map fun v => (q.2, cv ad v)
theorem las_mem {ad : Nat → Nat} {ls : LV} {q : Nat × Value} : q ∈ las ad ls ↔ ∃ v, ls[q.1]? = some (some v) ∧ q.2 = cv ad v := by
  obtain ⟨i, w⟩ := q
  simp only [las, List.mem_filterMap, Option.map_eq_some_iff]
  constructor
  · rintro ⟨⟨o, j⟩, h1, v, h2, h3⟩
    cases h3
    have := List.mem_zipIdx_iff_getElem?.mp h1
    dsimp only at h2 this
    subst h2
    exact ⟨v, this, rfl⟩
  · rintro ⟨v, h1, h2⟩
    subst h2
    exact ⟨(some v, i), List.mem_zipIdx_iff_getElem?.mpr h1, v, rfl, rfl⟩
theorem lv_mono {la : Array Slot} {n : Nat} {l l' : List (Nat × Value)} (h : lv_has la n l) (hs : ∀ q ∈ l', q ∈ l) : lv_has la n l' := ⟨h.1, h.2.1, fun q hq => h.2.2 q (hs q hq)⟩
theorem las_at {la : Array Slot} {n : Nat} {ad : Nat → Nat} {ls : LV} (h : lv_has la n (las ad ls)) {i : Nat} {v : AV} (hi : ls[i]? = some (some v)) : la[i]? = some (.val (cv ad v)) := h.2.2 (i, cv ad v) (las_mem.mpr ⟨v, hi, rfl⟩)
def RM (d : Nat) : Room := { frames := d, cells := 0, slots := 0, locals := 64 * d }
def CX (G : WG) (t : MTE) (p : Program) (s : State) (m : MethodId) (args : Array Value) (meth : Method) (c : Code) : Prop :=
  p.tables.exec = Jvm.exec ∧ c.code = t.2.1 ∧ c.maxLocals = t.2.2.1 ∧ s.vm.findClass t.1.cls = some m.cls ∧ (∀ w ∈ TX, w.before args s = true) ∧ meth.sig.returnType = t.2.2.2.1 ∧ meth.locks = false ∧ KN G s
def QC (G : WG) (Q : Option AV → SG → Prop) : Array Value → State → Outcome → State → Prop := fun _ st oc t =>
  (∃ (r : Option AV) (σ : SG), Q r σ ∧ oc = .returned (r.map (cv G.2.1)) ∧ va_P G.1 vwCl (wd G σ) t.heap) ∧ va_F (AD G) st t
/-- an answer of the method's kind -/
def rsh (ret : Option FieldType) (r : Option AV) : Prop := match ret with
  | none => r = none
  | some .long => ∃ x, r = some (.inr (.inl x))
  | some _ => ∃ x, r = some (.inl x)
def RTQ (t : MTE) (Q : Option AV → SG → Prop) : Option AV → SG → Prop := fun r σ => Q r σ ∧ rsh t.2.2.2.1 r
/-- from this state (pc, locals, operand stack, store) method M comes to its end, with an answer and a store of which Q holds; d: how deep it may call -/
def AW (d M pc : Nat) (ls : LV) (st : List AV) (σ : SG) (Q : Option AV → SG → Prop) : Prop :=
  ∀ (l : Launch) (G : WG) (t : MTE) (p : Program) (e : Env) (s : State) (m : MethodId) (args : Array Value) (below : List Frame) (meth : Method) (c : Code) (H : Heap) (locs : List Loc) (la : Array Slot),
    MT[M]? = some t → ls.length = t.2.2.1 → CX G t p s m args meth c → va_P G.1 vwCl (wd G σ) H → va_S (AD G) s.heap H locs → lv_has la t.2.2.1 (las G.2.1 ls) →
    W p l e (RM d) s m args below meth c H locs 0 0 (MQ below (QC G (RTQ t Q)) args s 0 0 (AD G)) (F0 m pc la (st.map (cv G.2.1)))
theorem AW.mono {d M pc : Nat} {ls : LV} {st : List AV} {σ : SG} {Q Q' : Option AV → SG → Prop} (h : AW d M pc ls st σ Q) (hQ : ∀ r σ, Q r σ → Q' r σ) : AW d M pc ls st σ Q' := by
  intro l G t p e s m args below meth c H locs la h1 h2 h3 h4 h5 h6 T hT X
  obtain ⟨u, a, o, b1, b2, ⟨⟨r, σ1, q1, q2⟩, b4⟩, b5⟩ := h l G t p e s m args below meth c H locs la h1 h2 h3 h4 h5 h6 T hT X
  exact ⟨u, a, o, b1, b2, ⟨⟨r, σ1, ⟨hQ _ _ q1.1, q1.2⟩, q2⟩, b4⟩, b5⟩
/-- a value may be spelled by another number of the same 32 bits -/
theorem AW.same {d M pc : Nat} {ls ls' : LV} {st st' : List AV} {σ : SG} {Q : Option AV → SG → Prop} (h1 : ∀ ad, las ad ls = las ad ls') (hn : ls'.length = ls.length) (h2 : ∀ ad, st.map (cv ad) = st'.map (cv ad)) (h : AW d M pc ls' st' σ Q) : AW d M pc ls st σ Q := by
  intro l G t p e s m args below meth c H locs la a1 a2 a3 a4 a5 a6
  rw [h2]
  exact h l G t p e s m args below meth c H locs la a1 (hn.trans a2) a3 a4 a5 (by rw [← h1]; exact a6)
/-- a method's locals at its entry -/
def slt : AV → List (Option AV)
  | .inr (.inl x) => [some (.inr (.inl x)), none]
  | v => [some v]
def ent (av : List AV) (n : Nat) : LV := (av.flatMap slt) ++ List.replicate (n - (av.flatMap slt).length) none
theorem slt_len (ad : Nat → Nat) (v : AV) : (slt v).length = (lg_sl [cv ad v]).length := by
  rcases v with x | x | x <;> rfl
