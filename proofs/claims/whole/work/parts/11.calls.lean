/-! ===== fields, arrays, ends and calls over AW (wip/whole/gen11.py) ===== -/
theorem gF_s {p ci k : Nat} {σ : SG} {f : AV → Prop} (h : gF p ci k σ f) : ∃ ks kd v, SH[p]? = some (.inr (ci, ks)) ∧ ks[k]? = some kd ∧ (∀ ad, fv ad (σ p (k : Int)) kd = cv ad v) ∧ f v := by
  unfold gF at h
  split at h
  · rename_i c ks e
    split at h
    · rename_i hb
      have := Nat.eq_of_beq_eq_true hb
      subst this
      split at h
      · rename_i x e2
        exact ⟨ks, _, _, e, e2, fun _ => rfl, h⟩
      · rename_i x e2
        exact ⟨ks, _, _, e, e2, fun _ => rfl, h⟩
      · rename_i x e2
        exact ⟨ks, _, _, e, e2, fun _ => rfl, h⟩
      · rename_i x e2
        exact ⟨ks, _, _, e, e2, fun _ => rfl, h⟩
      · rename_i x e2
        exact ⟨ks, _, _, e, e2, fun _ => rfl, h⟩
      · exact False.elim h
    · exact False.elim h
  · exact False.elim h
theorem pF_s {p ci k : Nat} {σ : SG} {v : AV} {f : SG → Prop} (h : pF p ci k σ v f) : ∃ ks kd x, SH[p]? = some (.inr (ci, ks)) ∧ ks[k]? = some kd ∧ (∀ ad, cv ad v = fv ad x kd) ∧ f (up σ p (k : Int) x) ∧ ((kd.1 = 0 ∧ v = .inl x) ∨ (kd.1 = 1 ∧ v = .inr (.inl x)) ∨ (kd.1 = 3 ∧ ∃ q, v = .inr (.inr q)) ∨ (kd.1 = 4 ∧ v = .inl x ∧ (x = 0 ∨ x = 1))) := by
  unfold pF at h
  split at h
  · rename_i c ks e
    split at h
    · rename_i hb
      have := Nat.eq_of_beq_eq_true hb
      subst this
      split at h
      · rename_i e2
        exact ⟨ks, _, _, e, e2, fun _ => rfl, h, Or.inl ⟨rfl, rfl⟩⟩
      · rename_i e2
        exact ⟨ks, _, _, e, e2, fun _ => rfl, h, Or.inr (Or.inl ⟨rfl, rfl⟩)⟩
      · rename_i q e2
        exact ⟨ks, _, _, e, e2, fun _ => by simp [cv, fv], h, Or.inr (Or.inr (Or.inl ⟨rfl, _, rfl⟩))⟩
      · rename_i e2
        exact ⟨ks, _, _, e, e2, fun _ => rfl, h.2, Or.inr (Or.inr (Or.inr ⟨rfl, rfl, h.1⟩))⟩
      · exact False.elim h
    · exact False.elim h
  · exact False.elim h
theorem shk_s {ci k kd : Nat} {q : vw_C} (hq : vwCl[ci]? = some q) (h : shk ci k kd = true) : k < q.2.2 ∧ (kd = 0 → (q.2.1 k).2.2.1 = "I") ∧ (kd = 1 → (q.2.1 k).2.2.1 = "J") ∧ (kd = 3 → (q.2.1 k).2.2.1 = "LLentStairs$Realm;") ∧ (kd = 4 → (q.2.1 k).2.2.1 = "Z") := by
  unfold shk at h
  rw [hq] at h
  dsimp only at h
  rw [Bool.and_eq_true, decide_eq_true_eq] at h
  refine ⟨h.1, ?_, ?_, ?_, ?_⟩ <;> intro e <;> subst e <;> exact eq_of_beq h.2
theorem fwn_s {ci k : Nat} {q : vw_C} (hq : vwCl[ci]? = some q) : fw_name ci k = ((q.2.1 k).2.1, (q.2.1 k).2.2.1) := by
  unfold fw_name
  rw [hq]
theorem va_same {ci k : Nat} {q : vw_C} {s : State} (hq : vwCl[ci]? = some q) (hn : q.1 = cnm ci) (hk : k < q.2.2) : ∀ x, s.fieldFound? (q.2.1 k).1 (q.2.1 k).2.1 (q.2.1 k).2.2.1 = some x → s.fieldFound? (cnm ci) (q.2.1 k).2.1 (q.2.1 k).2.2.1 = some x := by
  intro x h
  rw [vw_own q (List.mem_of_getElem? hq) k hk, hn] at h
  exact h
theorem aw_getfield {d M pc n ix : Nat} {hs : List Nat} {kc : Int} {ls : LV} {st : List AV} {σ : SG} {Q : Option AV → SG → Prop} {F : LV → List AV → SG → Prop} (hk : HK M pc (.getfield ix) n hs kc) (hF : ∀ ls st σ, F ls st σ → AW d M (pc + n) ls st σ Q) (h : wps d (.getfield ix) hs kc pc ls st σ Q (fun pc ls st σ => AW d M pc ls st σ Q) F) : AW d M pc ls st σ Q := by
  intro l G t p e s m args below meth c H locs la ht hlen C hP hS hl
  obtain ⟨hd, hok⟩ := hk t ht
  rcases hs with _ | ⟨ci, _ | ⟨k, _ | ⟨z, hs⟩⟩⟩
  · exact False.elim h
  · exact False.elim h
  · have hok : (n == 3 && (decide ((t.2.2.2.2, ix, ci, k) ∈ FT) || decide ((t.2.2.2.2, ix, ci, k) ∈ FN))) = true := hok
    simp only [Bool.and_eq_true, Bool.or_eq_true, decide_eq_true_eq, beq_iff_eq] at hok
    obtain ⟨e3, hw⟩ := hok
    subst e3
    obtain ⟨p0, r, e0, h9⟩ := pR_s h
    subst e0
    obtain ⟨ks, kd, v, hsh, hkd, hv, h10⟩ := gF_s h9
    obtain ⟨q, hq, hqn⟩ := vw_get (sh_obj hsh).1
    have hkk := shk_s hq ((sh_obj hsh).2 k kd hkd)
    have he := wd_get G σ p0 hsh
    have hfv : (ks.mapIdx fun j kd => fv G.2.1 (σ p0 (j : Int)) kd)[k]? = some (cv G.2.1 v) := by rw [List.getElem?_mapIdx, hkd, ← hv]; rfl
    have ho := own_ok ht C.2.2.2.1
    have hc := hF _ _ _ h10 l G t p e s m args below meth c H locs la ht hlen C hP hS hl
    rcases hw with hw | hw
    · have hl1 := C.2.2.2.2.1 _ (tx_FT hw)
      unfold fw at hl1
      rw [fwn_s hq] at hl1
      exact va_get (D := G.1) (cl := vwCl) (tys := tyL G) (ws := wd G σ) (C := q.1) (T := q.2.1) (N := q.2.2) (ci := ci) (own := cnm t.2.2.2.2) (ref := cnm ci) (index := ix) (rest := r.map (cv G.2.1)) C.1 C.2.1 C.2.2.2.2.1 (vw_in hq) ho C.2.2.2.2.2.2.2.1 hP p0 he hq k hkk.1 hl1 (va_same hq hqn hkk.1) hfv hd hc
    · have hl1 := va_Nw.use (A := args) rfl (C.2.2.2.2.2.2.2.2.1 _ (tn_FN hw))
      unfold fwN at hl1
      rw [fwn_s hq] at hl1
      exact va_getN (D := G.1) (cl := vwCl) (tys := tyL G) (ws := wd G σ) (C := q.1) (T := q.2.1) (N := q.2.2) (ci := ci) (own := cnm t.2.2.2.2) (ref := cnm ci) (host := RX8) (index := ix) (rest := r.map (cv G.2.1)) C.1 C.2.1 C.2.2.2.2.1 (vw_in hq) ho C.2.2.2.2.2.2.2.1 hP p0 he hq k hkk.1 hl1 (va_same hq hqn hkk.1) hfv hd hc
  · exact False.elim h
theorem put_ty {ad : Nat → Nat} {q : vw_C} {ci k : Nat} {kd : Nat × Nat} {v : AV} {x : Int} (hq : vwCl[ci]? = some q) (hs : shk ci k kd.1 = true) (h : (kd.1 = 0 ∧ v = .inl x) ∨ (kd.1 = 1 ∧ v = .inr (.inl x)) ∨ (kd.1 = 3 ∧ ∃ q, v = .inr (.inr q)) ∨ (kd.1 = 4 ∧ v = .inl x ∧ (x = 0 ∨ x = 1))) : ∃ ty, parseFieldDescriptor (q.2.1 k).2.2.1 = some ty ∧ narrow ty (cv ad v) = cv ad v ∧ fits ty (cv ad v) = true := by
  obtain ⟨-, h0, h1, h3, h4⟩ := shk_s hq hs
  rcases h with ⟨e, rfl⟩ | ⟨e, rfl⟩ | ⟨e, z, rfl⟩ | ⟨e, rfl, hx⟩
  · rw [h0 e]
    exact ⟨.int, by decide, vp_nar_int _, rfl⟩
  · rw [h1 e]
    exact ⟨.long, by decide, rfl, rfl⟩
  · rw [h3 e]
    exact ⟨.object "LentStairs$Realm", by decide +kernel, rfl, rfl⟩
  · rw [h4 e]
    rcases hx with rfl | rfl
    · exact ⟨.boolean, by decide, rfl, rfl⟩
    · exact ⟨.boolean, by decide, rfl, rfl⟩
theorem aw_putfield {d M pc n ix : Nat} {hs : List Nat} {kc : Int} {ls : LV} {st : List AV} {σ : SG} {Q : Option AV → SG → Prop} {F : LV → List AV → SG → Prop} (hk : HK M pc (.putfield ix) n hs kc) (hF : ∀ ls st σ, F ls st σ → AW d M (pc + n) ls st σ Q) (h : wps d (.putfield ix) hs kc pc ls st σ Q (fun pc ls st σ => AW d M pc ls st σ Q) F) : AW d M pc ls st σ Q := by
  intro l G t p e s m args below meth c H locs la ht hlen C hP hS hl
  obtain ⟨hd, hok⟩ := hk t ht
  rcases hs with _ | ⟨ci, _ | ⟨k, _ | ⟨z, hs⟩⟩⟩
  · exact False.elim h
  · exact False.elim h
  · obtain ⟨v, p0, r, e0, h9⟩ : ∃ v p0 r, st = v :: .inr (.inr p0) :: r ∧ pF p0 ci k σ v fun σ => F ls r σ := by
      rcases st with _ | ⟨v, _ | ⟨w, r⟩⟩
      · exact False.elim h
      · exact False.elim h
      · rcases w with w | w | w
        · exact False.elim h
        · exact False.elim h
        · exact ⟨_, _, _, rfl, h⟩
    subst e0
    obtain ⟨ks, kd, x, hsh, hkd, hv, h10, hkind⟩ := pF_s h9
    obtain ⟨q, hq, hqn⟩ := vw_get (sh_obj hsh).1
    have hok : (n == 3 && ((decide ((t.2.2.2.2, ix, ci, k) ∈ FT) || decide ((t.2.2.2.2, ix, ci, k) ∈ FN)) && (match vwCl[ci]? with
      | some q => !(q.2.1 k).2.2.2
      | none => false))) = true := hok
    rw [hq] at hok
    simp only [Bool.and_eq_true, Bool.or_eq_true, decide_eq_true_eq, beq_iff_eq, Bool.not_eq_true'] at hok
    obtain ⟨e3, hw, hfin⟩ := hok
    subst e3
    have hsk := (sh_obj hsh).2 k kd hkd
    have hkk := shk_s hq hsk
    obtain ⟨ty, ht1, ht2, ht3⟩ := put_ty (ad := G.2.1) hq hsk hkind
    obtain ⟨ty0, hty0, hnm0⟩ := vw_ok q (List.mem_of_getElem? hq)
    have he := wd_get G σ p0 hsh
    have hD := wd_D (G := G) (σ := σ) C.2.2.2.2.2.2.2.2.2.2
    have hlen0 : k < (ks.mapIdx fun j kd => fv G.2.1 (σ p0 (j : Int)) kd).length := by rw [List.length_mapIdx]; exact (List.getElem?_eq_some_iff.mp hkd).1
    have ho := own_ok ht C.2.2.2.1
    have hset := wd_putf (G := G) (σ := σ) (x := x) hsh hkd (hv G.2.1)
    rcases hw with hw | hw
    · have hl1 := C.2.2.2.2.1 _ (tx_FT hw)
      unfold fw at hl1
      rw [fwn_s hq] at hl1
      refine va_put (D := G.1) (cl := vwCl) (tys := tyL G) (ws := wd G σ) (A := AD G) (H0 := s.heap) (C := q.1) (T := q.2.1) (N := q.2.2) (ci := ci) (own := cnm t.2.2.2.2) (ref := cnm ci) (index := ix) (ty := ty) (v := cv G.2.1 v) (rest := r.map (cv G.2.1)) C.1 C.2.1 C.2.2.2.2.1 (vw_in hq) ty0 hty0 hnm0 ho C.2.2.2.2.2.2.2.1 hP hD hS p0 he hq k hkk.1 hl1 (va_same hq hqn hkk.1) hfin ht1 ht2 ht3 hlen0 hd (fun H1 locs1 hP1 _ hS1 => ?_)
      rw [hset] at hP1
      exact hF _ _ _ h10 l G t p e s m args below meth c H1 locs1 la ht hlen C hP1 hS1 hl
    · have hl1 := va_Nw.use (A := args) rfl (C.2.2.2.2.2.2.2.2.1 _ (tn_FN hw))
      unfold fwN at hl1
      rw [fwn_s hq] at hl1
      refine va_putN (D := G.1) (cl := vwCl) (tys := tyL G) (ws := wd G σ) (A := AD G) (H0 := s.heap) (C := q.1) (T := q.2.1) (N := q.2.2) (ci := ci) (own := cnm t.2.2.2.2) (ref := cnm ci) (host := RX8) (index := ix) (ty := ty) (v := cv G.2.1 v) (rest := r.map (cv G.2.1)) C.1 C.2.1 C.2.2.2.2.1 (vw_in hq) ty0 hty0 hnm0 ho C.2.2.2.2.2.2.2.1 hP hD hS p0 he hq k hkk.1 hl1 (va_same hq hqn hkk.1) hfin ht1 ht2 ht3 hlen0 hd (fun H1 locs1 hP1 _ hS1 => ?_)
      rw [hset] at hP1
      exact hF _ _ _ h10 l G t p e s m args below meth c H1 locs1 la ht hlen C hP1 hS1 hl
  · exact False.elim h
theorem aw_iaload {d M pc n : Nat} {hs : List Nat} {kc : Int} {ls : LV} {st : List AV} {σ : SG} {Q : Option AV → SG → Prop} {F : LV → List AV → SG → Prop} (hk : HK M pc (.iaload) n hs kc) (hF : ∀ ls st σ, F ls st σ → AW d M (pc + n) ls st σ Q) (h : pIR st fun i p r => aN p 0 fun n => (0 ≤ i ∧ i < n) ∧ F ls (.inl (σ p i) :: r) σ) : AW d M pc ls st σ Q := by
  intro l G t p e s m args below meth c H locs la ht hlen C hP hS hl
  obtain ⟨hd, hok⟩ := hk t ht
  obtain rfl : n = 1 := eq_of_beq hok
  obtain ⟨i, p0, r, e0, h9⟩ := pIR_s h
  subst e0
  obtain ⟨n0, hsh, ⟨hi1, hi2⟩, h10⟩ := aN_s h9
  have hn0 := sh_arr hsh
  have he := wd_get G σ p0 hsh
  have hc := hF _ _ _ h10 l G t p e s m args below meth c H locs la ht hlen C hP hS hl
  refine va_iald (D := G.1) (cl := vwCl) (tys := tyL G) (ws := wd G σ) (i := Int32.ofInt i) (rest := r.map (cv G.2.1)) C.1 C.2.1 C.2.2.2.2.2.2.2.1 hP p0 0 he rfl (i3_in hi1 hi2 (by omega)) hd ?_
  rw [i3_clamp hi1 (by omega)]
  show W p l e (RM d) s m args below meth c H locs 0 0 (MQ below (QC G (RTQ t Q)) args s 0 0 (AD G)) (F0 m (pc + 1) la (.int (Int32.ofInt (σ p0 ((i.toNat : Nat) : Int))) :: r.map (cv G.2.1)))
  rw [show ((i.toNat : Nat) : Int) = i by omega]
  exact hc
theorem aw_laload {d M pc n : Nat} {hs : List Nat} {kc : Int} {ls : LV} {st : List AV} {σ : SG} {Q : Option AV → SG → Prop} {F : LV → List AV → SG → Prop} (hk : HK M pc (.laload) n hs kc) (hF : ∀ ls st σ, F ls st σ → AW d M (pc + n) ls st σ Q) (h : pIR st fun i p r => aN p 1 fun n => (0 ≤ i ∧ i < n) ∧ F ls (.inr (.inl (σ p i)) :: r) σ) : AW d M pc ls st σ Q := by
  intro l G t p e s m args below meth c H locs la ht hlen C hP hS hl
  obtain ⟨hd, hok⟩ := hk t ht
  obtain rfl : n = 1 := eq_of_beq hok
  obtain ⟨i, p0, r, e0, h9⟩ := pIR_s h
  subst e0
  obtain ⟨n0, hsh, ⟨hi1, hi2⟩, h10⟩ := aN_s h9
  have hn0 := sh_arr hsh
  have he := wd_get G σ p0 hsh
  have hc := hF _ _ _ h10 l G t p e s m args below meth c H locs la ht hlen C hP hS hl
  refine va_lald (D := G.1) (cl := vwCl) (tys := tyL G) (ws := wd G σ) (i := Int32.ofInt i) (rest := r.map (cv G.2.1)) C.1 C.2.1 C.2.2.2.2.2.2.2.1 hP p0 1 he rfl (i3_in hi1 hi2 (by omega)) hd ?_
  rw [i3_clamp hi1 (by omega)]
  show W p l e (RM d) s m args below meth c H locs 0 0 (MQ below (QC G (RTQ t Q)) args s 0 0 (AD G)) (F0 m (pc + 1) la (.long (Int64.ofInt (σ p0 ((i.toNat : Nat) : Int))) :: r.map (cv G.2.1)))
  rw [show ((i.toNat : Nat) : Int) = i by omega]
  exact hc
theorem aw_caload {d M pc n : Nat} {hs : List Nat} {kc : Int} {ls : LV} {st : List AV} {σ : SG} {Q : Option AV → SG → Prop} {F : LV → List AV → SG → Prop} (hk : HK M pc (.caload) n hs kc) (hF : ∀ ls st σ, F ls st σ → AW d M (pc + n) ls st σ Q) (h : pIR st fun i p r => aN p 2 fun n => (0 ≤ i ∧ i < n) ∧ F ls (.inl (σ p i) :: r) σ) : AW d M pc ls st σ Q := by
  intro l G t p e s m args below meth c H locs la ht hlen C hP hS hl
  obtain ⟨hd, hok⟩ := hk t ht
  obtain rfl : n = 1 := eq_of_beq hok
  obtain ⟨i, p0, r, e0, h9⟩ := pIR_s h
  subst e0
  obtain ⟨n0, hsh, ⟨hi1, hi2⟩, h10⟩ := aN_s h9
  have hn0 := sh_arr hsh
  have he := wd_get G σ p0 hsh
  have hc := hF _ _ _ h10 l G t p e s m args below meth c H locs la ht hlen C hP hS hl
  refine va_cald (D := G.1) (cl := vwCl) (tys := tyL G) (ws := wd G σ) (i := Int32.ofInt i) (rest := r.map (cv G.2.1)) C.1 C.2.1 C.2.2.2.2.2.2.2.1 hP p0 2 he rfl (i3_in hi1 hi2 (by omega)) hd ?_
  rw [i3_clamp hi1 (by omega)]
  show W p l e (RM d) s m args below meth c H locs 0 0 (MQ below (QC G (RTQ t Q)) args s 0 0 (AD G)) (F0 m (pc + 1) la (.int (Int32.ofInt (σ p0 ((i.toNat : Nat) : Int))) :: r.map (cv G.2.1)))
  rw [show ((i.toNat : Nat) : Int) = i by omega]
  exact hc
theorem aw_iastore {d M pc n : Nat} {hs : List Nat} {kc : Int} {ls : LV} {st : List AV} {σ : SG} {Q : Option AV → SG → Prop} {F : LV → List AV → SG → Prop} (hk : HK M pc (.iastore) n hs kc) (hF : ∀ ls st σ, F ls st σ → AW d M (pc + n) ls st σ Q) (h : pI st fun x st => pIR st fun i p r => aN p 0 fun n => (0 ≤ i ∧ i < n) ∧ F ls r (up σ p i x)) : AW d M pc ls st σ Q := by
  intro l G t p e s m args below meth c H locs la ht hlen C hP hS hl
  obtain ⟨hd, hok⟩ := hk t ht
  obtain rfl : n = 1 := eq_of_beq hok
  obtain ⟨x, r0, e0, h8⟩ := pI_s h
  obtain ⟨i, p0, r, e1, h9⟩ := pIR_s h8
  subst e1
  subst e0
  obtain ⟨n0, hsh, ⟨hi1, hi2⟩, h10⟩ := aN_s h9
  have hn0 := sh_arr hsh
  have he := wd_get G σ p0 hsh
  have hD := wd_D (G := G) (σ := σ) C.2.2.2.2.2.2.2.2.2.2
  refine va_iast (D := G.1) (cl := vwCl) (tys := tyL G) (ws := wd G σ) (A := AD G) (H0 := s.heap) (i := Int32.ofInt i) (x := Int32.ofInt x) (rest := r.map (cv G.2.1)) C.1 C.2.1 C.2.2.2.2.2.2.2.1 hP hD hS p0 0 he rfl (i3_in hi1 hi2 (by omega)) hd (fun H1 locs1 hP1 _ hS1 => ?_)
  rw [i3_clamp hi1 (by omega), wd_puti hsh hi1] at hP1
  exact hF _ _ _ h10 l G t p e s m args below meth c H1 locs1 la ht hlen C hP1 hS1 hl
theorem aw_lastore {d M pc n : Nat} {hs : List Nat} {kc : Int} {ls : LV} {st : List AV} {σ : SG} {Q : Option AV → SG → Prop} {F : LV → List AV → SG → Prop} (hk : HK M pc (.lastore) n hs kc) (hF : ∀ ls st σ, F ls st σ → AW d M (pc + n) ls st σ Q) (h : pL st fun x st => pIR st fun i p r => aN p 1 fun n => (0 ≤ i ∧ i < n) ∧ F ls r (up σ p i x)) : AW d M pc ls st σ Q := by
  intro l G t p e s m args below meth c H locs la ht hlen C hP hS hl
  obtain ⟨hd, hok⟩ := hk t ht
  obtain rfl : n = 1 := eq_of_beq hok
  obtain ⟨x, r0, e0, h8⟩ := pL_s h
  obtain ⟨i, p0, r, e1, h9⟩ := pIR_s h8
  subst e1
  subst e0
  obtain ⟨n0, hsh, ⟨hi1, hi2⟩, h10⟩ := aN_s h9
  have hn0 := sh_arr hsh
  have he := wd_get G σ p0 hsh
  have hD := wd_D (G := G) (σ := σ) C.2.2.2.2.2.2.2.2.2.2
  refine va_last (D := G.1) (cl := vwCl) (tys := tyL G) (ws := wd G σ) (A := AD G) (H0 := s.heap) (i := Int32.ofInt i) (x := Int64.ofInt x) (rest := r.map (cv G.2.1)) C.1 C.2.1 C.2.2.2.2.2.2.2.1 hP hD hS p0 1 he rfl (i3_in hi1 hi2 (by omega)) hd (fun H1 locs1 hP1 _ hS1 => ?_)
  rw [i3_clamp hi1 (by omega), wd_putl hsh hi1] at hP1
  exact hF _ _ _ h10 l G t p e s m args below meth c H1 locs1 la ht hlen C hP1 hS1 hl
theorem aw_arraylength {d M pc n : Nat} {hs : List Nat} {kc : Int} {ls : LV} {st : List AV} {σ : SG} {Q : Option AV → SG → Prop} {F : LV → List AV → SG → Prop} (hk : HK M pc (.arraylength) n hs kc) (hF : ∀ ls st σ, F ls st σ → AW d M (pc + n) ls st σ Q) (h : pR st fun p r => (match SH[p]? with
    | some (.inl (_, n)) => F ls (.inl (n : Int) :: r) σ
    | _ => False)) : AW d M pc ls st σ Q := by
  intro l G t p e s m args below meth c H locs la ht hlen C hP hS hl
  obtain ⟨hd, hok⟩ := hk t ht
  obtain rfl : n = 1 := eq_of_beq hok
  obtain ⟨p0, r, e0, h9⟩ := pR_s h
  subst e0
  split at h9
  · rename_i ty n0 hsh
    have he := wd_get G σ p0 hsh
    have hc := hF _ _ _ h9 l G t p e s m args below meth c H locs la ht hlen C hP hS hl
    match ty, hsh, he with
    | 0, hsh, he => exact va_alen (D := G.1) (cl := vwCl) (tys := tyL G) (ws := wd G σ) (v := Int32.ofInt (n0 : Int)) (rest := r.map (cv G.2.1)) C.1 C.2.1 C.2.2.2.2.2.2.2.1 hP p0 0 he (ty := .int) rfl rfl hd hc
    | 1, hsh, he => exact va_alen (D := G.1) (cl := vwCl) (tys := tyL G) (ws := wd G σ) (v := Int32.ofInt (n0 : Int)) (rest := r.map (cv G.2.1)) C.1 C.2.1 C.2.2.2.2.2.2.2.1 hP p0 1 he (ty := .long) rfl rfl hd hc
    | k + 2, hsh, he => exact va_alen (D := G.1) (cl := vwCl) (tys := tyL G) (ws := wd G σ) (v := Int32.ofInt (n0 : Int)) (rest := r.map (cv G.2.1)) C.1 C.2.1 C.2.2.2.2.2.2.2.1 hP p0 2 he (ty := .char) rfl rfl hd hc
  · exact False.elim h9
theorem aw_ireturn {d M pc n : Nat} {hs : List Nat} {kc : Int} {ls : LV} {st : List AV} {σ : SG} {Q : Option AV → SG → Prop} {F : LV → List AV → SG → Prop} (hk : HK M pc (.ireturn) n hs kc) (h : wps d (.ireturn) hs kc pc ls st σ Q (fun pc ls st σ => AW d M pc ls st σ Q) F) : AW d M pc ls st σ Q := by
  intro l G t p e s m args below meth c H locs la ht hlen C hP hS hl
  obtain ⟨hd, hok⟩ := hk t ht
  have hq : ∀ v : Int, Q (some (.inl v)) σ → rsh t.2.2.2.1 (some (.inl v)) → ∀ t' : State, t'.heap = H → s.WarmedH t'.vm → QC G (RTQ t Q) args s (.returned (some (.int (Int32.ofInt v)))) t' := fun v hv hz t' h1 _ => ⟨⟨some (.inl v), σ, ⟨hv, hz⟩, rfl, by rw [h1]; exact hP⟩, hS.F h1⟩
  have hlk : meth.locks = false := C.2.2.2.2.2.2.1
  have hrt : meth.sig.returnType = t.2.2.2.1 := C.2.2.2.2.2.1
  rcases st with _ | ⟨v, _ | ⟨w, r⟩⟩
  · exact False.elim h
  · rcases v with v | v | v
    · rcases hs with _ | ⟨z, hs⟩
      · have hok : (n == 1 && decide (t.2.2.2.1 = some .int)) = true := hok
        simp only [Bool.and_eq_true, decide_eq_true_eq, beq_iff_eq] at hok
        obtain ⟨e1, e2⟩ := hok
        subst e1
        exact W.iret (v := Int32.ofInt v) C.1 C.2.1 (hrt.trans e2) (hq v h (by rw [e2]; exact ⟨v, rfl⟩)) hS.2.2 hd hlk
      · rcases z with _ | _ | z
        · exact False.elim h
        · rcases hs with _ | ⟨z2, hs⟩
          · have hok : (n == 1 && decide (t.2.2.2.1 = some .boolean)) = true := hok
            simp only [Bool.and_eq_true, decide_eq_true_eq, beq_iff_eq] at hok
            obtain ⟨e1, e2⟩ := hok
            subst e1
            have h : (v = 0 ∨ v = 1) ∧ Q (some (.inl v)) σ := h
            obtain ⟨h1, h2⟩ := h
            exact W.zret (v := Int32.ofInt v) (ty := .boolean) C.1 C.2.1 (hrt.trans e2) (by rcases h1 with rfl | rfl <;> rfl) (hq v h2 (by rw [e2]; exact ⟨v, rfl⟩)) hS.2.2 hd hlk
          · exact False.elim h
        · exact False.elim h
    · exact False.elim h
    · exact False.elim h
  · rcases v with v | v | v
    · rcases hs with _ | ⟨z, hs⟩ <;> exact False.elim h
    · exact False.elim h
    · exact False.elim h
theorem aw_lreturn {d M pc n : Nat} {hs : List Nat} {kc : Int} {ls : LV} {st : List AV} {σ : SG} {Q : Option AV → SG → Prop} (hk : HK M pc (.lreturn) n hs kc) (h : match st with
    | [.inr (.inl v)] => Q (some (.inr (.inl v))) σ
    | _ => False) : AW d M pc ls st σ Q := by
  intro l G t p e s m args below meth c H locs la ht hlen C hP hS hl
  obtain ⟨hd, hok⟩ := hk t ht
  have hok : (n == 1 && decide (t.2.2.2.1 = some .long)) = true := hok
  simp only [Bool.and_eq_true, decide_eq_true_eq, beq_iff_eq] at hok
  obtain ⟨e1, e2⟩ := hok
  subst e1
  split at h
  · rename_i v
    exact W.lret (v := Int64.ofInt v) C.1 C.2.1 (C.2.2.2.2.2.1.trans e2) (fun t' h1 _ => ⟨⟨some (.inr (.inl v)), σ, ⟨h, by rw [e2]; exact ⟨v, rfl⟩⟩, rfl, by rw [h1]; exact hP⟩, hS.F h1⟩) hS.2.2 hd C.2.2.2.2.2.2.1
  · exact False.elim h
theorem aw_return {d M pc n : Nat} {hs : List Nat} {kc : Int} {ls : LV} {st : List AV} {σ : SG} {Q : Option AV → SG → Prop} (hk : HK M pc (.return_) n hs kc) (h : match st with
    | [] => Q none σ
    | _ => False) : AW d M pc ls st σ Q := by
  intro l G t p e s m args below meth c H locs la ht hlen C hP hS hl
  obtain ⟨hd, hok⟩ := hk t ht
  have hok : (n == 1 && decide (t.2.2.2.1 = none)) = true := hok
  simp only [Bool.and_eq_true, decide_eq_true_eq, beq_iff_eq] at hok
  obtain ⟨e1, e2⟩ := hok
  subst e1
  split at h
  · exact W.vret C.1 C.2.1 (C.2.2.2.2.2.1.trans e2) (fun t' h1 _ => ⟨⟨none, σ, ⟨h, by rw [e2]; rfl⟩, rfl, by rw [h1]; exact hP⟩, hS.F h1⟩) hS.2.2 hd C.2.2.2.2.2.2.1
  · exact False.elim h
theorem cats_s (ad : Nat → Nat) : ∀ r : List AV, ((r.map (cv ad)).map fun v => v.category).sum = cats r
  | [] => rfl
  | a :: r => by
    have ih := cats_s ad r
    rcases a with x | x | x <;> simp only [List.map_cons, List.sum_cons, ih] <;> rfl
theorem clP_s {d M n ml : Nat} {st : List AV} {σ : SG} {f : List AV → SG → Prop} (h : clP d M n ml st σ f) : cats (st.drop n) ≤ 8 ∧ ((st.take n).reverse.flatMap slt).length ≤ ml ∧ (st.take n).length = n ∧ 0 < d ∧ AW (d - 1) M 0 (ent (st.take n).reverse ml) [] σ (fun r σ => f (rtS r (st.drop n)) σ) := by
  unfold clP at h
  split at h
  · rename_i hb
    rw [Bool.and_eq_true, Bool.and_eq_true] at hb
    exact ⟨Nat.le_of_ble_eq_true hb.1.1, Nat.le_of_ble_eq_true hb.1.2, Nat.eq_of_beq_eq_true hb.2, h⟩
  · exact False.elim h
theorem rtS_s (ad : Nat → Nat) (r : Option AV) (rest : List AV) : (rtS r rest).map (cv ad) = (r.map (cv ad)).toList ++ rest.map (cv ad) := by
  cases r <;> rfl
theorem rm_ok {d ml : Nat} (h : 0 < d) (hm : ml ≤ 40) : (RM (d - 1)).frames + 1 ≤ (RM d).frames ∧ 8 + (ml + 11) + (RM (d - 1)).locals ≤ (RM d).locals := by
  show d - 1 + 1 ≤ d ∧ 8 + (ml + 11) + 64 * (d - 1) ≤ 64 * d
  omega
theorem good_TX {ws : List Cond} (h : ∀ w ∈ ws, w ∈ TX) : GoodIn TX ws := fun w hw => TX_self w (h w hw)
theorem yOf_s {M : Nat} {t : MTE} (h : MT[M]? = some t) : yOf M = t.1 := by
  unfold yOf
  rw [h]
theorem isObj_s {v : Option AV} {ci : Nat} (h : isObj v ci = true) : ∃ p ks, v = some (.inr (.inr p)) ∧ SH[p]? = some (.inr (ci, ks)) := by
  unfold isObj at h
  split at h
  · rename_i p
    split at h
    · rename_i c ks e
      have := Nat.eq_of_beq_eq_true h
      subst this
      exact ⟨p, ks, rfl, e⟩
    · cases h
  · cases h
theorem mw_TX {M : Nat} {t : MTE} (h : MT[M]? = some t) : mw t ∈ TX := tx_MT (List.mem_of_getElem? h)
theorem init_TX {M : Nat} {t : MTE} (h : MT[M]? = some t) : Cond.initialized t.1.cls ∈ TX := by
  obtain ⟨-, h2, -, -, h5⟩ := mt_ok h
  rw [h2]
  exact tx_IC h5
theorem aw_invokevirtual {d M pc n ix : Nat} {hs : List Nat} {kc : Int} {ls : LV} {st : List AV} {σ : SG} {Q : Option AV → SG → Prop} {F : LV → List AV → SG → Prop} (hk : HK M pc (.invokevirtual ix) n hs kc) (hF : ∀ ls st σ, F ls st σ → AW d M (pc + n) ls st σ Q) (h : wps d (.invokevirtual ix) hs kc pc ls st σ Q (fun pc ls st σ => AW d M pc ls st σ Q) F) : AW d M pc ls st σ Q := by
  intro l G t p e s m args below meth c H locs la ht hlen C hP hS hl
  obtain ⟨hd, hok⟩ := hk t ht
  rcases hs with _ | ⟨M', _ | ⟨k, _ | ⟨ml, _ | ⟨ci, _ | ⟨z, hs⟩⟩⟩⟩⟩
  · exact False.elim h
  · exact False.elim h
  · exact False.elim h
  · exact False.elim h
  · have h : (match isObj (st.take k).getLast? ci with
      | true => clP d M' k ml st σ fun st σ => F ls st σ
      | false => False) := h
    split at h
    · rename_i hob
      obtain ⟨hc8, hsl, htk, hd0, hA⟩ := clP_s h
      obtain ⟨p0, ks, hlast, hsh⟩ := isObj_s hob
      have hok : (n == 3 && (match MT[M']? with
        | some t' => decide (t'.2.2.1 = ml) && decide (t'.2.2.2.2 = ci) && decide (ci < 10) && npar t'.1 (k - 1) && decide (1 ≤ k) && decide (M' ∈ VM) && decide (M' ∈ EM) && okC t.2.2.2.2 ix M'
        | none => false)) = true := hok
      cases ht' : MT[M']? with
      | none =>
        rw [ht'] at hok
        simp at hok
      | some t' =>
        rw [ht'] at hok
        simp only [Bool.and_eq_true, decide_eq_true_eq, beq_iff_eq, npar, okC, Bool.or_eq_true] at hok
        obtain ⟨e3, ⟨⟨⟨⟨⟨⟨e4, e5⟩, e6⟩, e7⟩, e8⟩, e9⟩, e10⟩, e11⟩ := hok
        subst e3
        subst e4
        obtain ⟨hpl, hcl, hml, hnn, hic⟩ := mt_ok ht'
        obtain ⟨ls0, hls0⟩ : ∃ ls0, st.take k = ls0 ++ [.inr (.inr p0)] := by
          have := List.getLast?_eq_some_iff.mp hlast
          exact this
        have hrev : (st.take k).reverse = .inr (.inr p0) :: ls0.reverse := by rw [hls0]; simp
        rw [hrev] at hA hsl
        have hM := AW.met ht' (by omega) hsl hA l G
        have hst : st.map (cv G.2.1) = (ls0.reverse.map (cv G.2.1)).reverse ++ Value.ref (G.2.1 p0) :: (st.drop k).map (cv G.2.1) := by
          conv => lhs; rw [← List.take_append_drop k st, hls0]
          simp [cv]
        have hlen2 : (ls0.reverse.map (cv G.2.1)).length = k - 1 := by
          have := htk
          rw [hls0] at this
          simp at this ⊢
          omega
        obtain ⟨q, hq, hqn⟩ := vw_get (sh_obj hsh).1
        have hqc : q.1 = t'.1.cls := by rw [hqn, hcl, e5]
        have hrecv := va_recv C.2.2.2.2.2.2.2.1 hP hq (wd_get G σ p0 hsh)
        rw [hqc] at hrecv
        have hins : (Cond.instanceMethod t'.1) ∈ TX := by
          have := tx_VM e9
          unfold swV at this
          rwa [yOf_s ht'] at this
        have hsel : (Cond.selects t'.1.cls t'.1 t'.1) ∈ TX := by
          have := tx_EM e10
          unfold swE at this
          rwa [yOf_s ht'] at this
        have hws : ∀ w ∈ mw t' :: TX, w ∈ TX := fun w hw => (List.mem_cons.mp hw).elim (fun z => by rw [z]; exact mw_TX ht') id
        have hpre : PreV s H t'.1.cls (G.2.1 p0) (PC G (.inr (.inr p0) :: ls0.reverse) σ) (ls0.reverse.map (cv G.2.1)) := ⟨PC.blind _ _ _, hrecv, fun U hU hW => ⟨rfl, by rw [hU]; exact hP, C.2.2.2.2.2.2.2.warm hS hU hW⟩⟩
        have hroom : 2 * (F0 m pc la (st.map (cv G.2.1))).monitorRoom + (((st.drop k).map (cv G.2.1)).map fun v => v.category).sum ≤ 8 := lv_room (by rw [cats_s]; exact hc8)
        have hK : ∀ (r : Option AV) (σ' : SG) (H1 : Heap) (locs1 : List Loc), F ls (rtS r (st.drop k)) σ' → va_P G.1 vwCl (wd G σ') H1 → va_S (AD G) s.heap H1 locs1 → (∀ q : Nat, q < H.size → ¬ AD G q → H1[q]? = H[q]?) → W p l e (RM d) s m args below meth c H1 locs1 0 0 (MQ below (QC G (RTQ t Q)) args s 0 0 (AD G)) (F0 m (pc + 3) la ((r.map (cv G.2.1)).toList ++ (st.drop k).map (cv G.2.1))) := by
          intro r σ' H1 locs1 hf hP1 hS1 _
          rw [← rtS_s]
          exact hF _ _ _ hf l G t p e s m args below meth c H1 locs1 la ht hlen C hP1 hS1 hl
        rcases e11 with e11 | e11
        · have hlk : Cond.methodLink (cnm t.2.2.2.2) ix t'.1 ∈ TX := by
            have := tx_CT e11
            unfold cwL at this
            rwa [yOf_s ht'] at this
          refine aw_after (va_runV (As := ls0.reverse.map (cv G.2.1)) (rest := (st.drop k).map (cv G.2.1)) (g := F0 m pc la (st.map (cv G.2.1))) ⟨C.1, C.2.1, C.2.2.1, own_ok ht C.2.2.2.1, C.2.2.2.2.1⟩ hM (cwV (k - 1) C.2.2.2.2.1 (good_TX ?_) rfl rfl rfl ⟨rfl, hnn.1, hnn.2, e7⟩ (rm_ok hd0 hml)) hpre rfl hlen2 hl.1 hst hroom hd ⟨Nat.le_refl _, Nat.le_refl _⟩) hS (fun q h => h) hK
          intro w hw
          rcases List.mem_append.mp hw with hw | hw
          · simp only [List.mem_cons, List.not_mem_nil, or_false] at hw
            rcases hw with rfl | rfl | rfl | rfl
            · exact hlk
            · exact hins
            · exact hsel
            · exact init_TX ht'
          · exact hws w hw
        · have hlk : va_Nw (.methodLinkNest (cnm t.2.2.2.2) ix t'.1 RX8) s := by
            have := C.2.2.2.2.2.2.2.2.1 _ (tn_CNT e11)
            unfold cwN at this
            rwa [yOf_s ht'] at this
          exact aw_after (va_runVN (As := ls0.reverse.map (cv G.2.1)) (rest := (st.drop k).map (cv G.2.1)) (g := F0 m pc la (st.map (cv G.2.1))) ⟨C.1, C.2.1, C.2.2.1, own_ok ht C.2.2.2.1, C.2.2.2.2.1⟩ hM ⟨va_cnB (k - 1) C.2.2.2.2.1 (good_TX hws) rfl rfl rfl hlk (C.2.2.2.2.1 _ (init_TX ht')) ⟨hnn.1, hnn.2, e7⟩ (rm_ok hd0 hml), C.2.2.2.2.1 _ hins, C.2.2.2.2.1 _ hsel⟩ hpre rfl hlen2 hl.1 hst hroom hd ⟨Nat.le_refl _, Nat.le_refl _⟩) hS (fun q h => h) hK
    · exact False.elim h
  · exact False.elim h
