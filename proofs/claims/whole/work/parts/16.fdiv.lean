/-! ===== Math.floorDiv over AW ===== -/
def fdI (a b : Int) : Int := if ¬ a.tdiv b * b = a ∧ (decide (a < 0) != decide (b < 0)) = true then a.tdiv b - 1 else a.tdiv b
theorem i3_neg {x y : Int} (h1 : r3 x) (h2 : r3 y) : ((Int32.ofInt x ^^^ Int32.ofInt y) < 0) ↔ (decide (x < 0) != decide (y < 0)) = true := by
  have hm : ∀ z : Int32, z < 0 ↔ z.toBitVec.msb = true := by
    intro z
    rw [Int32.lt_iff_toInt_lt, BitVec.msb_eq_toInt, decide_eq_true_eq]
    rfl
  have e1 : (Int32.ofInt x).toBitVec.msb = decide (x < 0) := by
    rw [BitVec.msb_eq_toInt]
    show decide ((Int32.ofInt x).toInt < 0) = _
    rw [i3_toInt h1.1 h1.2]
  have e2 : (Int32.ofInt y).toBitVec.msb = decide (y < 0) := by
    rw [BitVec.msb_eq_toInt]
    show decide ((Int32.ofInt y).toInt < 0) = _
    rw [i3_toInt h2.1 h2.2]
  rw [hm, Int32.toBitVec_xor, BitVec.msb_xor, e1, e2]
theorem tdm_r (a b : Int) : (0 ≤ a → 0 ≤ a.tdiv b * b ∧ a.tdiv b * b ≤ a) ∧ (a ≤ 0 → a ≤ a.tdiv b * b ∧ a.tdiv b * b ≤ 0) := by
  have e := Int.tmod_add_tdiv_mul a b
  have hn : (a.tmod b).natAbs ≤ a.natAbs := by
    rw [Int.natAbs_tmod]
    exact Nat.mod_le _ _
  constructor
  · intro h
    have := Int.tmod_nonneg b h
    omega
  · intro h
    have h2 := Int.tmod_nonneg b (show 0 ≤ -a by omega)
    rw [Int.neg_tmod] at h2
    omega
theorem fdV_I {a b : Int} (ha : r3 a) (hb : r3 b) : fdV (Int32.ofInt a) (Int32.ofInt b) = Int32.ofInt (fdI a b) := by
  have hp := tdm_r a b
  have e1 : Int32.ofInt a / Int32.ofInt b * Int32.ofInt b = Int32.ofInt a ↔ a.tdiv b * b = a := by
    rw [i3_div ha.1 ha.2 hb.1 hb.2, ← Int32.ofInt_mul]
    refine i3_eq ?_ ?_ ha.1 ha.2
    · have := ha.1
      rcases Int.le_total 0 a with h | h
      · have := hp.1 h
        omega
      · have := hp.2 h
        omega
    · have := ha.2
      rcases Int.le_total 0 a with h | h
      · have := hp.1 h
        omega
      · have := hp.2 h
        omega
  unfold fdV fdI
  by_cases h1 : (Int32.ofInt a ^^^ Int32.ofInt b) < 0
  · have h1' := (i3_neg ha hb).mp h1
    rw [if_pos h1]
    by_cases h2 : a.tdiv b * b = a
    · rw [if_pos (e1.mpr h2), if_neg (fun z => z.1 h2), i3_div ha.1 ha.2 hb.1 hb.2]
    · rw [if_neg (fun z => h2 (e1.mp z)), if_pos ⟨h2, h1'⟩, i3_div ha.1 ha.2 hb.1 hb.2, Int32.ofInt_sub]
      rfl
  · rw [if_neg h1, if_neg (fun z => h1 ((i3_neg ha hb).mpr z.2)), i3_div ha.1 ha.2 hb.1 hb.2]
section FDV
variable {p : Program} {l : Launch} {e : Env} {R : Room} {s : State} {m : MethodId} {args : Array Value} {below : List Frame} {meth : Method} {c : Code} {cells slots : Nat} {T : State} {locs : List Loc}
theorem fd_V (X : Stand p l e R s m args below meth c T locs cells slots) (hexec : p.tables.exec = Jvm.exec) {own : String} {index : Nat} (hown : s.vm.findClass own = some m.cls)
    (hlink : (Cond.methodLink own index fdY).before args s = true) (hstat : (Cond.static fdY).before args s = true) (hinit : (Cond.initialized "java/lang/Math").before args s = true)
    (hcode : (Cond.code fdY fdC 3 (some .int)).before args s = true)
    {g : JFrame} (hg : g.method = m) (hsize : g.locals.size = c.maxLocals) {a b : Int32} (hb : ¬ b = 0) {rest : List Value} (hstack : g.stack = .int b :: .int a :: rest) (hdg : decode c.code g.pc = .ok (.invokestatic index, 3))
    (hframes : 1 ≤ R.frames) (hlocals : 2 * g.monitorRoom + (rest.map fun v => v.category).sum + 14 ≤ R.locals) (hcells : cells ≤ R.cells) (hslots : slots ≤ R.slots) :
    ∃ vm', Stand p l e R s m args below meth c (T.setVm vm') locs cells slots ∧
      ∀ target, Steps p.tables e below ((T.setVm vm').setTop { g with pc := g.pc + 3, stack := .int (fdV a b) :: rest }) target → Steps p.tables e below (T.setTop g) target := by
  obtain ⟨v, T', X', ⟨first, t, hpost⟩, hstep⟩ := X.staticByContractV hexec hown hlink hstat hinit hcode (by decide)
    (fd_meets l a b hb)
    rfl rfl rfl rfl
    (fun args' first o s₂ h => by
      cases o with
      | returned r => exact ⟨r, rfl⟩
      | threw y =>
        have hz : (fdS a b).post.value args' first (some (.threw y)) s₂ [] = some true := by simpa [Cond.after, Cond.holds] using h
        exact absurd hz va_nvRet)
    hg hsize (argsL := [.int a, .int b]) (rest := rest)
    (fun sig hs => by
      have h : parseMethodDescriptor "(II)I" = some { parameters := [.int, .int], returnType := some .int } := by decide +kernel
      rw [show fdY.desc = "(II)I" from rfl, h] at hs
      rw [← Option.some.inj hs]; rfl)
    hstack hdg
    (fun vm' hW => by
      simp only [fdS, Cond.before_and, Bool.and_eq_true]
      refine ⟨?_, rfl, rfl, rfl, by simp [Cond.before, Cond.holds, Cond.value, Term.eval], by simp [Cond.before, Cond.holds, Cond.value, Term.eval]⟩
      have q := hcode
      rw [← Cond.code_setVm hW.alike] at q
      simp only [Cond.before, Cond.holds, Cond.value, State.methodNamed?, State.vm_setVm] at q ⊢
      exact q)
    (by show 0 + 1 ≤ R.frames; omega) (by show 2 * g.monitorRoom + (rest.map fun v => v.category).sum + (3 + 11) + 0 ≤ R.locals; omega) (by show cells + 0 ≤ R.cells; omega) (by show slots + 0 ≤ R.slots; omega)
  refine ⟨T', X', fun target h => hstep target ?_⟩
  obtain rfl : v = some (.int (fdV a b)) := by
    rcases v with _ | w
    · simp [fdS, Cond.after, Cond.holds, Cond.value, Term.eval] at hpost
    · cases w <;> simp [fdS, Cond.after, Cond.holds, Cond.value, Term.eval] at hpost
      first | (simp [hpost]; done) | (rename_i r; by_cases hr : r = fdV a b <;> simp [hr] at hpost ⊢)
  exact h
end FDV
set_option maxRecDepth 100000 in
theorem fd_words : ∀ w ∈ ([.static fdY, .initialized "java/lang/Math", .code fdY fdC 3 (some .int)] : List Cond), w ∈ TX := by decide +kernel
/-- the call of Math.floorDiv at pc -/
theorem aw_fdiv {d M pc ix : Nat} {ls : LV} {a b : Int} {r : List AV} {σ : SG} {Q : Option AV → SG → Prop} (hk : ∀ t, MT[M]? = some t → decode t.2.1 pc = .ok (.invokestatic ix, 3) ∧ Cond.methodLink (cnm t.2.2.2.2) ix fdY ∈ TX)
    (hd0 : 0 < d) (ra : r3 a) (rb : r3 b) (hb : b ≠ 0) (hc8 : cats r ≤ 8) (h : AW d M (pc + 3) ls (.inl (fdI a b) :: r) σ Q) : AW d M pc ls (.inl b :: .inl a :: r) σ Q := by
  intro l G t p e s m args below meth c H locs la ht hlen C hP hS hl
  obtain ⟨hd, hw⟩ := hk t ht
  have hT := C.2.2.2.2.1
  have hc := h l G t p e s m args below meth c H locs la ht hlen C hP hS hl
  intro T hT0 X
  have h14 : 2 * (F0 m pc la ((.inl b :: .inl a :: r : List AV).map (cv G.2.1))).monitorRoom + ((r.map (cv G.2.1)).map fun v => v.category).sum + 14 ≤ (RM d).locals := by
    rw [cats_s]
    show 2 * 0 + cats r + 14 ≤ 64 * d
    omega
  obtain ⟨vm', X', st⟩ := fd_V (R := RM d) X C.1 (own_ok ht C.2.2.2.1) (hT _ hw) (hT _ (fd_words _ (by simp))) (hT _ (fd_words _ (by simp))) (hT _ (fd_words _ (by simp))) (g := F0 m pc la ((.inl b :: .inl a :: r : List AV).map (cv G.2.1))) rfl (by rw [C.2.2.1]; exact hl.1) (a := Int32.ofInt a) (b := Int32.ofInt b) (fun z => hb ((i3_eq rb.1 rb.2 (by decide) (by decide)).mp z)) (rest := r.map (cv G.2.1)) rfl (by rw [C.2.1]; exact hd) hd0 h14 (Nat.le_refl _) (Nat.le_refl _)
  obtain ⟨t2, a1, b1⟩ := hc (T.setVm vm') hT0 X'
  refine ⟨t2, st t2 ?_, b1⟩
  rw [fdV_I ra rb]
  exact a1
