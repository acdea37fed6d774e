/-! ===== a method's entry; a contract out of AW; behind a call ===== -/
theorem ent_args (ad : Nat → Nat) : ∀ (av : List AV) (k i : Nat) (v : AV), (av.flatMap slt)[i]? = some (some v) → (k + i, cv ad v) ∈ lv_args k (av.map (cv ad))
  | [], k, i, v, h => by simp at h
  | a :: av, k, i, v, h => by
    rw [List.flatMap_cons] at h
    rcases a with x | x | x
    · cases i with
      | zero =>
        have h : some (some (Sum.inl x)) = some (some v) := h
        cases h
        exact List.mem_cons_self
      | succ j =>
        have h2 : (av.flatMap slt)[j]? = some (some v) := h
        have h3 := ent_args ad av (k + 1) j v h2
        rw [show k + (j + 1) = k + 1 + j by omega]
        exact List.mem_cons_of_mem _ h3
    · cases i with
      | zero =>
        have h : some (some (Sum.inr (Sum.inl x))) = some (some v) := h
        cases h
        exact List.mem_cons_self
      | succ j =>
        cases j with
        | zero =>
          have h : some none = some (some v) := h
          cases h
        | succ j =>
          have h2 : (av.flatMap slt)[j]? = some (some v) := h
          have h3 := ent_args ad av (k + 2) j v h2
          rw [show k + (j + 1 + 1) = k + 2 + j by omega]
          exact List.mem_cons_of_mem _ h3
    · cases i with
      | zero =>
        have h : some (some (Sum.inr (Sum.inr x))) = some (some v) := h
        cases h
        exact List.mem_cons_self
      | succ j =>
        have h2 : (av.flatMap slt)[j]? = some (some v) := h
        have h3 := ent_args ad av (k + 1) j v h2
        rw [show k + (j + 1) = k + 1 + j by omega]
        exact List.mem_cons_of_mem _ h3
theorem ent_las {ad : Nat → Nat} {av : List AV} {n : Nat} : ∀ q ∈ las ad (ent av n), q ∈ lv_args 0 (av.map (cv ad)) := by
  intro q hq
  obtain ⟨v, h1, h2⟩ := las_mem.mp hq
  obtain ⟨i, w⟩ := q
  dsimp only at h1 h2
  subst h2
  unfold ent at h1
  by_cases hi : i < (av.flatMap slt).length
  · rw [List.getElem?_append_left hi] at h1
    have := ent_args ad av 0 i v h1
    rwa [Nat.zero_add] at this
  · rw [List.getElem?_append_right (by omega), List.getElem?_replicate] at h1
    split at h1
    · cases h1
    · cases h1
theorem sl_len (ad : Nat → Nat) : ∀ av : List AV, (lg_sl (av.map (cv ad))).length = (av.flatMap slt).length
  | [] => rfl
  | a :: av => by
    have ih := sl_len ad av
    have e : (lg_sl ((a :: av).map (cv ad))).length = (slt a).length + (lg_sl (av.map (cv ad))).length := by
      rcases a with x | x | x <;> simp [lg_sl, cv, Value.category, slt] <;> omega
    rw [e, ih, List.flatMap_cons, List.length_append]
theorem ent_len {av : List AV} {n : Nat} (h : (av.flatMap slt).length ≤ n) : (ent av n).length = n := by
  unfold ent
  rw [List.length_append, List.length_replicate]
  omega
theorem mt_ok {M : Nat} {t : MTE} (h : MT[M]? = some t) : (t.2.2.2.2 ≠ 11 → plainName t.1.cls = true) ∧ t.1.cls = cnm t.2.2.2.2 ∧ t.2.2.1 ≤ 40 ∧ (t.1.cls ≠ "java/lang/invoke/MethodHandle" ∧ t.1.cls ≠ "java/lang/invoke/VarHandle") ∧ t.2.2.2.2 ∈ IC := by
  have h1 := List.all_eq_true.mp MT_all t (List.mem_of_getElem? h)
  simp only [Bool.and_eq_true, Bool.or_eq_true, decide_eq_true_eq] at h1
  exact ⟨fun hn => h1.1.1.1.1.1.resolve_right hn, h1.1.1.1.1.2, h1.1.1.1.2, ⟨h1.1.1.2, h1.1.2⟩, h1.2⟩
def PC (G : WG) (av : List AV) (σ : SG) : Array Value → State → Prop := fun v U => v = (av.map (cv G.2.1)).toArray ∧ va_P G.1 vwCl (wd G σ) U.heap ∧ KN G U
theorem AW.metS {d M : Nat} {t : MTE} {av : List AV} {σ : SG} {Q : Option AV → SG → Prop} (ht : MT[M]? = some t) (hc : t.2.2.2.2 ≠ 11) (hlen : (av.flatMap slt).length ≤ t.2.2.1) (h : AW d M 0 (ent av t.2.2.1) [] σ Q) (l : Launch) (G : WG) :
    Met l t.1 (mw t :: TX) (RM d) (PC G av σ) (QC G (RTQ t Q)) 0 0 (AD G) := by
  refine Met.ofW (cc := t.2.1) (maxL := t.2.2.1) (ret := t.2.2.2.1) ((mt_ok ht).1 hc) rfl ?_
  intro p e s m args below meth c s₁ B hml hv
  obtain ⟨rfl, hP, hK⟩ := hv
  have hts := atoms_spec (ws := mw t :: TX) B.pre
  have hl := lv_entry (av.map (cv G.2.1)) (n := t.2.2.1) (by rw [sl_len]; exact hlen)
  rw [lg_entry_eq]
  exact h l G t p e s m _ below meth c s.heap [] _ ht (ent_len hlen) ⟨B.exec, B.bytes, hml, findClass_of_methodNamed B.named, fun w hw => hts w (List.mem_cons_of_mem _ hw), B.returns, B.notSynchronized, hK⟩ hP va_S.rf (lv_mono hl ent_las)
theorem QC.drop {G : WG} {t : MTE} {Q : Option AV → SG → Prop} {a : Array Value} {st u : State} {o : Outcome} (h : QC G (RTQ t Q) a st o u) : QC G Q a st o u := by
  obtain ⟨⟨r, σ, h1, h2⟩, h3⟩ := h
  exact ⟨⟨r, σ, h1.1, h2⟩, h3⟩
theorem AW.met {d M : Nat} {t : MTE} {av : List AV} {σ : SG} {Q : Option AV → SG → Prop} (ht : MT[M]? = some t) (hc : t.2.2.2.2 ≠ 11) (hlen : (av.flatMap slt).length ≤ t.2.2.1) (h : AW d M 0 (ent av t.2.2.1) [] σ Q) (l : Launch) (G : WG) :
    Met l t.1 (mw t :: TX) (RM d) (PC G av σ) (QC G Q) 0 0 (AD G) := by
  refine Met.ofW (cc := t.2.1) (maxL := t.2.2.1) (ret := t.2.2.2.1) ((mt_ok ht).1 hc) rfl ?_
  intro p e s m args below meth c s₁ B hml hv
  obtain ⟨rfl, hP, hK⟩ := hv
  have hts := atoms_spec (ws := mw t :: TX) B.pre
  have hl := lv_entry (av.map (cv G.2.1)) (n := t.2.2.1) (by rw [sl_len]; exact hlen)
  rw [lg_entry_eq]
  intro T hT X
  obtain ⟨u, a, o, b1, b2, b3, b4⟩ := h l G t p e s m _ below meth c s.heap [] _ ht (ent_len hlen) ⟨B.exec, B.bytes, hml, findClass_of_methodNamed B.named, fun w hw => hts w (List.mem_cons_of_mem _ hw), B.returns, B.notSynchronized, hK⟩ hP va_S.rf (lv_mono hl ent_las) T hT X
  exact ⟨u, a, o, b1, b2, b3.drop, b4⟩
section AFT
variable {p : Program} {l : Launch} {e : Env} {s : State} {m : MethodId} {args : Array Value} {below : List Frame} {meth : Method} {c : Code} {H : Heap} {locs : List Loc} {R : Room} {Q : State → Prop}
theorem aw_after {G : WG} {K : Option AV → SG → Prop} {a : Array Value} {pc : Nat} {la : Array Slot} {st0 rest : List Value} {cells slots : Nat} {A0 : Nat → Prop} {H0 : Heap}
    (hr : va_Run p l e R s m args below meth c H locs cells slots 0 0 (F0 m pc la st0) rest (QC G K a) (AD G)) (hS : va_S A0 H0 H locs) (hA : ∀ q, AD G q → A0 q)
    (kk : ∀ (r : Option AV) (σ : SG) (H1 : Heap) (locs1 : List Loc), K r σ → va_P G.1 vwCl (wd G σ) H1 → va_S A0 H0 H1 locs1 → (∀ q : Nat, q < H.size → ¬ AD G q → H1[q]? = H[q]?) → W p l e R s m args below meth c H1 locs1 cells slots Q (F0 m (pc + 3) la ((r.map (cv G.2.1)).toList ++ rest))) :
    W p l e R s m args below meth c H locs cells slots Q (F0 m pc la st0) := by
  intro T hT X
  obtain ⟨v, st₀, t, T', L, h0, X', hL, e1, e2, ⟨⟨r, σ, hK, hv, hP⟩, hz, hk⟩, st⟩ := hr T hT X
  cases hv
  rw [h0] at hz hk
  obtain ⟨t2, a1, b1⟩ := kk r σ T'.heap (locs ++ L) hK (by rw [e1]; exact hP)
    ⟨Nat.le_trans hS.1 (by rw [e1]; exact hz), fun q h1 h2 => by rw [e1, hk q (Nat.lt_of_lt_of_le h1 hS.1) (fun z => h2 (hA q z))]; exact hS.2.1 q h1 h2, fun q hq => by
      rcases List.mem_append.mp hq with h | h
      · exact hS.2.2 q h
      · exact hA _ (hL q h)⟩ (fun q h1 h2 => by rw [e1]; exact hk q h1 h2) T' rfl X'
  exact ⟨t2, st t2 a1, b1⟩
end AFT
theorem PC.blind (G : WG) (av : List AV) (σ : SG) : FrameBlind (PC G av σ) := fun _ _ g mk q => ⟨q.1, q.2.1, q.2.2.calling g mk _⟩
