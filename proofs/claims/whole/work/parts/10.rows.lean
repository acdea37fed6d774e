/-! ===== each instruction over AW (wip/whole/gen10.py) ===== -/
def HK (M pc : Nat) (i : Instr) (n : Nat) (hs : List Nat) (kc : Int) : Prop := ∀ t, MT[M]? = some t → dcd t.2.1 pc i n hs kc ∧ okI t.2.2.2.2 t.2.2.2.1 i n hs kc pc = true
theorem pI_s {st : List AV} {k : Int → List AV → Prop} (h : pI st k) : ∃ a r, st = .inl a :: r ∧ k a r := by
  unfold pI at h
  split at h
  · exact ⟨_, _, rfl, h⟩
  · exact h.elim
theorem pL_s {st : List AV} {k : Int → List AV → Prop} (h : pL st k) : ∃ a r, st = .inr (.inl a) :: r ∧ k a r := by
  unfold pL at h
  split at h
  · exact ⟨_, _, rfl, h⟩
  · exact h.elim
theorem pR_s {st : List AV} {k : Nat → List AV → Prop} (h : pR st k) : ∃ a r, st = .inr (.inr a) :: r ∧ k a r := by
  unfold pR at h
  split at h
  · exact ⟨_, _, rfl, h⟩
  · exact h.elim
theorem pII_s {st : List AV} {k : Int → Int → List AV → Prop} (h : pII st k) : ∃ a b r, st = .inl b :: .inl a :: r ∧ k a b r := by
  unfold pII at h
  split at h
  · exact ⟨_, _, _, rfl, h⟩
  · exact h.elim
theorem pLL_s {st : List AV} {k : Int → Int → List AV → Prop} (h : pLL st k) : ∃ a b r, st = .inr (.inl b) :: .inr (.inl a) :: r ∧ k a b r := by
  unfold pLL at h
  split at h
  · exact ⟨_, _, _, rfl, h⟩
  · exact h.elim
theorem pIR_s {st : List AV} {k : Int → Nat → List AV → Prop} (h : pIR st k) : ∃ i p r, st = .inl i :: .inr (.inr p) :: r ∧ k i p r := by
  unfold pIR at h
  split at h
  · exact ⟨_, _, _, rfl, h⟩
  · exact h.elim
theorem gI_s {ls : LV} {i : Nat} {k : Int → Prop} (h : gI ls i k) : ∃ x, ls[i]? = some (some (.inl x)) ∧ k x := by
  unfold gI at h
  split at h
  · exact ⟨_, by assumption, h⟩
  · exact h.elim
theorem gL_s {ls : LV} {i : Nat} {k : Int → Prop} (h : gL ls i k) : ∃ x, ls[i]? = some (some (.inr (.inl x))) ∧ k x := by
  unfold gL at h
  split at h
  · exact ⟨_, by assumption, h⟩
  · exact h.elim
theorem gR_s {ls : LV} {i : Nat} {k : Nat → Prop} (h : gR ls i k) : ∃ x, ls[i]? = some (some (.inr (.inr x))) ∧ k x := by
  unfold gR at h
  split at h
  · exact ⟨_, by assumption, h⟩
  · exact h.elim
theorem aN_s {p ty : Nat} {f : Nat → Prop} (h : aN p ty f) : ∃ n, SH[p]? = some (.inl (ty, n)) ∧ f n := by
  unfold aN at h
  split at h
  · rename_i t n e
    split at h
    · rename_i hb
      have := Nat.eq_of_beq_eq_true hb
      subst this
      exact ⟨n, e, h⟩
    · exact h.elim
  · exact h.elim
theorem tg_ok {pc : Nat} {off : Int} (h : 0 ≤ (pc : Int) + off) : (pc : Int) + off = (tg pc off : Int) := by unfold tg; omega
theorem aw_iconst {d M pc n : Nat} {x : Int} {hs : List Nat} {kc : Int} {ls : LV} {st : List AV} {σ : SG} {Q : Option AV → SG → Prop} {F : LV → List AV → SG → Prop} (hk : HK M pc (.iconst x) n hs kc) (hF : ∀ ls st σ, F ls st σ → AW d M (pc + n) ls st σ Q) (h : F ls (.inl x :: st) σ) : AW d M pc ls st σ Q := by
  intro l G t p e s m args below meth c H locs la ht hlen C hP hS hl
  obtain ⟨hd, hok⟩ := hk t ht
  obtain rfl : n = 1 := eq_of_beq hok
  exact lv_iconst (v := Int32.ofInt x) C.1 C.2.1 hd rfl (hF _ _ _ h l G t p e s m args below meth c H locs la ht hlen C hP hS hl)
theorem aw_bipush {d M pc n : Nat} {x : Int} {hs : List Nat} {kc : Int} {ls : LV} {st : List AV} {σ : SG} {Q : Option AV → SG → Prop} {F : LV → List AV → SG → Prop} (hk : HK M pc (.bipush x) n hs kc) (hF : ∀ ls st σ, F ls st σ → AW d M (pc + n) ls st σ Q) (h : F ls (.inl x :: st) σ) : AW d M pc ls st σ Q := by
  intro l G t p e s m args below meth c H locs la ht hlen C hP hS hl
  obtain ⟨hd, hok⟩ := hk t ht
  have hok : (n == 2 && (decide (-128 ≤ x) && decide (x ≤ 127))) = true := hok
  simp only [Bool.and_eq_true, decide_eq_true_eq, beq_iff_eq] at hok
  obtain ⟨rfl, h1, h2⟩ := hok
  exact lv_bipush (v := Int32.ofInt x) C.1 C.2.1 hd (i3_bip h1 h2) (hF _ _ _ h l G t p e s m args below meth c H locs la ht hlen C hP hS hl)
theorem aw_sipush {d M pc n : Nat} {x : Int} {hs : List Nat} {kc : Int} {ls : LV} {st : List AV} {σ : SG} {Q : Option AV → SG → Prop} {F : LV → List AV → SG → Prop} (hk : HK M pc (.sipush x) n hs kc) (hF : ∀ ls st σ, F ls st σ → AW d M (pc + n) ls st σ Q) (h : F ls (.inl x :: st) σ) : AW d M pc ls st σ Q := by
  intro l G t p e s m args below meth c H locs la ht hlen C hP hS hl
  obtain ⟨hd, hok⟩ := hk t ht
  have hok : (n == 3 && (decide (-32768 ≤ x) && decide (x ≤ 32767))) = true := hok
  simp only [Bool.and_eq_true, decide_eq_true_eq, beq_iff_eq] at hok
  obtain ⟨rfl, h1, h2⟩ := hok
  exact lv_sipush (v := Int32.ofInt x) C.1 C.2.1 hd (i3_sip h1 h2) (hF _ _ _ h l G t p e s m args below meth c H locs la ht hlen C hP hS hl)
theorem aw_lconst {d M pc n : Nat} {x : Fin 2} {hs : List Nat} {kc : Int} {ls : LV} {st : List AV} {σ : SG} {Q : Option AV → SG → Prop} {F : LV → List AV → SG → Prop} (hk : HK M pc (.lconst x) n hs kc) (hF : ∀ ls st σ, F ls st σ → AW d M (pc + n) ls st σ Q) (h : F ls (.inr (.inl ((x : Nat) : Int)) :: st) σ) : AW d M pc ls st σ Q := by
  intro l G t p e s m args below meth c H locs la ht hlen C hP hS hl
  obtain ⟨hd, hok⟩ := hk t ht
  obtain rfl : n = 1 := eq_of_beq hok
  exact lv_lconst (v := Int64.ofInt ((x : Nat) : Int)) C.1 C.2.1 hd rfl (hF _ _ _ h l G t p e s m args below meth c H locs la ht hlen C hP hS hl)
theorem aw_iload {d M pc n k : Nat} {hs : List Nat} {kc : Int} {ls : LV} {st : List AV} {σ : SG} {Q : Option AV → SG → Prop} {F : LV → List AV → SG → Prop} (hk : HK M pc (.iload k) n hs kc) (hF : ∀ ls st σ, F ls st σ → AW d M (pc + n) ls st σ Q) (h : gI ls k fun x => F ls (.inl x :: st) σ) : AW d M pc ls st σ Q := by
  intro l G t p e s m args below meth c H locs la ht hlen C hP hS hl
  obtain ⟨hd, hok⟩ := hk t ht
  obtain rfl : n = 2 := eq_of_beq hok
  obtain ⟨x, hx, h⟩ := gI_s h
  exact lv_iload (x := Int32.ofInt x) C.1 C.2.1 hd (las_at hl hx) (hF _ _ _ h l G t p e s m args below meth c H locs la ht hlen C hP hS hl)
theorem aw_iload_n {d M pc n : Nat} {k : Fin 4} {hs : List Nat} {kc : Int} {ls : LV} {st : List AV} {σ : SG} {Q : Option AV → SG → Prop} {F : LV → List AV → SG → Prop} (hk : HK M pc (.iload_n k) n hs kc) (hF : ∀ ls st σ, F ls st σ → AW d M (pc + n) ls st σ Q) (h : gI ls k fun x => F ls (.inl x :: st) σ) : AW d M pc ls st σ Q := by
  intro l G t p e s m args below meth c H locs la ht hlen C hP hS hl
  obtain ⟨hd, hok⟩ := hk t ht
  obtain rfl : n = 1 := eq_of_beq hok
  obtain ⟨x, hx, h⟩ := gI_s h
  exact lv_iload_n (x := Int32.ofInt x) C.1 C.2.1 hd rfl (las_at hl hx) (hF _ _ _ h l G t p e s m args below meth c H locs la ht hlen C hP hS hl)
theorem aw_lload {d M pc n k : Nat} {hs : List Nat} {kc : Int} {ls : LV} {st : List AV} {σ : SG} {Q : Option AV → SG → Prop} {F : LV → List AV → SG → Prop} (hk : HK M pc (.lload k) n hs kc) (hF : ∀ ls st σ, F ls st σ → AW d M (pc + n) ls st σ Q) (h : gL ls k fun x => F ls (.inr (.inl x) :: st) σ) : AW d M pc ls st σ Q := by
  intro l G t p e s m args below meth c H locs la ht hlen C hP hS hl
  obtain ⟨hd, hok⟩ := hk t ht
  obtain rfl : n = 2 := eq_of_beq hok
  obtain ⟨x, hx, h⟩ := gL_s h
  exact lv_lload (x := Int64.ofInt x) C.1 C.2.1 hd (las_at hl hx) (hF _ _ _ h l G t p e s m args below meth c H locs la ht hlen C hP hS hl)
theorem aw_lload_n {d M pc n : Nat} {k : Fin 4} {hs : List Nat} {kc : Int} {ls : LV} {st : List AV} {σ : SG} {Q : Option AV → SG → Prop} {F : LV → List AV → SG → Prop} (hk : HK M pc (.lload_n k) n hs kc) (hF : ∀ ls st σ, F ls st σ → AW d M (pc + n) ls st σ Q) (h : gL ls k fun x => F ls (.inr (.inl x) :: st) σ) : AW d M pc ls st σ Q := by
  intro l G t p e s m args below meth c H locs la ht hlen C hP hS hl
  obtain ⟨hd, hok⟩ := hk t ht
  obtain rfl : n = 1 := eq_of_beq hok
  obtain ⟨x, hx, h⟩ := gL_s h
  exact lv_lload_n (x := Int64.ofInt x) C.1 C.2.1 hd rfl (las_at hl hx) (hF _ _ _ h l G t p e s m args below meth c H locs la ht hlen C hP hS hl)
theorem aw_aload {d M pc n k : Nat} {hs : List Nat} {kc : Int} {ls : LV} {st : List AV} {σ : SG} {Q : Option AV → SG → Prop} {F : LV → List AV → SG → Prop} (hk : HK M pc (.aload k) n hs kc) (hF : ∀ ls st σ, F ls st σ → AW d M (pc + n) ls st σ Q) (h : gR ls k fun x => F ls (.inr (.inr x) :: st) σ) : AW d M pc ls st σ Q := by
  intro l G t p e s m args below meth c H locs la ht hlen C hP hS hl
  obtain ⟨hd, hok⟩ := hk t ht
  obtain rfl : n = 2 := eq_of_beq hok
  obtain ⟨x, hx, h⟩ := gR_s h
  exact lv_aload (x := G.2.1 x) C.1 C.2.1 hd (las_at hl hx) (hF _ _ _ h l G t p e s m args below meth c H locs la ht hlen C hP hS hl)
theorem aw_aload_n {d M pc n : Nat} {k : Fin 4} {hs : List Nat} {kc : Int} {ls : LV} {st : List AV} {σ : SG} {Q : Option AV → SG → Prop} {F : LV → List AV → SG → Prop} (hk : HK M pc (.aload_n k) n hs kc) (hF : ∀ ls st σ, F ls st σ → AW d M (pc + n) ls st σ Q) (h : gR ls k fun x => F ls (.inr (.inr x) :: st) σ) : AW d M pc ls st σ Q := by
  intro l G t p e s m args below meth c H locs la ht hlen C hP hS hl
  obtain ⟨hd, hok⟩ := hk t ht
  obtain rfl : n = 1 := eq_of_beq hok
  obtain ⟨x, hx, h⟩ := gR_s h
  exact lv_aload_n (x := G.2.1 x) C.1 C.2.1 hd rfl (las_at hl hx) (hF _ _ _ h l G t p e s m args below meth c H locs la ht hlen C hP hS hl)
theorem aw_istore {d M pc n k : Nat} {hs : List Nat} {kc : Int} {ls : LV} {st : List AV} {σ : SG} {Q : Option AV → SG → Prop} {F : LV → List AV → SG → Prop} (hk : HK M pc (.istore k) n hs kc) (hF : ∀ ls st σ, F ls st σ → AW d M (pc + n) ls st σ Q) (h : pI st fun x r => st1 ls k (.inl x) fun ls => F ls r σ) : AW d M pc ls st σ Q := by
  intro l G t p e s m args below meth c H locs la ht hlen C hP hS hl
  obtain ⟨hd, hok⟩ := hk t ht
  obtain rfl : n = 2 := eq_of_beq hok
  obtain ⟨x, r, e0, h9⟩ := pI_s h
  subst e0
  obtain ⟨h1, h2, h3⟩ := las_st1 (ad := G.2.1) h9
  exact lv_istore (x := Int32.ofInt x) (rest := r.map (cv G.2.1)) C.1 C.2.1 hd hl (by rw [← hlen]; exact h1) rfl (fun la2 hl2 => hF _ _ _ h2 l G t p e s m args below meth c H locs la2 ht (by rw [List.length_set]; exact hlen) C hP hS (lv_mono hl2 h3))
theorem aw_istore_n {d M pc n : Nat} {k : Fin 4} {hs : List Nat} {kc : Int} {ls : LV} {st : List AV} {σ : SG} {Q : Option AV → SG → Prop} {F : LV → List AV → SG → Prop} (hk : HK M pc (.istore_n k) n hs kc) (hF : ∀ ls st σ, F ls st σ → AW d M (pc + n) ls st σ Q) (h : pI st fun x r => st1 ls k (.inl x) fun ls => F ls r σ) : AW d M pc ls st σ Q := by
  intro l G t p e s m args below meth c H locs la ht hlen C hP hS hl
  obtain ⟨hd, hok⟩ := hk t ht
  obtain rfl : n = 1 := eq_of_beq hok
  obtain ⟨x, r, e0, h9⟩ := pI_s h
  subst e0
  obtain ⟨h1, h2, h3⟩ := las_st1 (ad := G.2.1) h9
  exact lv_istore_n (x := Int32.ofInt x) (rest := r.map (cv G.2.1)) C.1 C.2.1 hd rfl hl (by rw [← hlen]; exact h1) rfl (fun la2 hl2 => hF _ _ _ h2 l G t p e s m args below meth c H locs la2 ht (by rw [List.length_set]; exact hlen) C hP hS (lv_mono hl2 h3))
theorem aw_lstore {d M pc n k : Nat} {hs : List Nat} {kc : Int} {ls : LV} {st : List AV} {σ : SG} {Q : Option AV → SG → Prop} {F : LV → List AV → SG → Prop} (hk : HK M pc (.lstore k) n hs kc) (hF : ∀ ls st σ, F ls st σ → AW d M (pc + n) ls st σ Q) (h : pL st fun x r => st2 ls k (.inr (.inl x)) fun ls => F ls r σ) : AW d M pc ls st σ Q := by
  intro l G t p e s m args below meth c H locs la ht hlen C hP hS hl
  obtain ⟨hd, hok⟩ := hk t ht
  obtain rfl : n = 2 := eq_of_beq hok
  obtain ⟨x, r, e0, h9⟩ := pL_s h
  subst e0
  obtain ⟨h1, h2, h3⟩ := las_st2 (ad := G.2.1) h9
  exact lv_lstore (x := Int64.ofInt x) (rest := r.map (cv G.2.1)) C.1 C.2.1 hd hl (by rw [← hlen]; exact h1) rfl (fun la2 hl2 => hF _ _ _ h2 l G t p e s m args below meth c H locs la2 ht (by rw [List.length_set, List.length_set]; exact hlen) C hP hS (lv_mono hl2 h3))
theorem aw_lstore_n {d M pc n : Nat} {k : Fin 4} {hs : List Nat} {kc : Int} {ls : LV} {st : List AV} {σ : SG} {Q : Option AV → SG → Prop} {F : LV → List AV → SG → Prop} (hk : HK M pc (.lstore_n k) n hs kc) (hF : ∀ ls st σ, F ls st σ → AW d M (pc + n) ls st σ Q) (h : pL st fun x r => st2 ls k (.inr (.inl x)) fun ls => F ls r σ) : AW d M pc ls st σ Q := by
  intro l G t p e s m args below meth c H locs la ht hlen C hP hS hl
  obtain ⟨hd, hok⟩ := hk t ht
  obtain rfl : n = 1 := eq_of_beq hok
  obtain ⟨x, r, e0, h9⟩ := pL_s h
  subst e0
  obtain ⟨h1, h2, h3⟩ := las_st2 (ad := G.2.1) h9
  exact lv_lstore_n (x := Int64.ofInt x) (rest := r.map (cv G.2.1)) C.1 C.2.1 hd rfl hl (by rw [← hlen]; exact h1) rfl (fun la2 hl2 => hF _ _ _ h2 l G t p e s m args below meth c H locs la2 ht (by rw [List.length_set, List.length_set]; exact hlen) C hP hS (lv_mono hl2 h3))
theorem aw_astore {d M pc n k : Nat} {hs : List Nat} {kc : Int} {ls : LV} {st : List AV} {σ : SG} {Q : Option AV → SG → Prop} {F : LV → List AV → SG → Prop} (hk : HK M pc (.astore k) n hs kc) (hF : ∀ ls st σ, F ls st σ → AW d M (pc + n) ls st σ Q) (h : pR st fun x r => st1 ls k (.inr (.inr x)) fun ls => F ls r σ) : AW d M pc ls st σ Q := by
  intro l G t p e s m args below meth c H locs la ht hlen C hP hS hl
  obtain ⟨hd, hok⟩ := hk t ht
  obtain rfl : n = 2 := eq_of_beq hok
  obtain ⟨x, r, e0, h9⟩ := pR_s h
  subst e0
  obtain ⟨h1, h2, h3⟩ := las_st1 (ad := G.2.1) h9
  exact lv_astore (x := G.2.1 x) (rest := r.map (cv G.2.1)) C.1 C.2.1 hd hl (by rw [← hlen]; exact h1) rfl (fun la2 hl2 => hF _ _ _ h2 l G t p e s m args below meth c H locs la2 ht (by rw [List.length_set]; exact hlen) C hP hS (lv_mono hl2 h3))
theorem aw_astore_n {d M pc n : Nat} {k : Fin 4} {hs : List Nat} {kc : Int} {ls : LV} {st : List AV} {σ : SG} {Q : Option AV → SG → Prop} {F : LV → List AV → SG → Prop} (hk : HK M pc (.astore_n k) n hs kc) (hF : ∀ ls st σ, F ls st σ → AW d M (pc + n) ls st σ Q) (h : pR st fun x r => st1 ls k (.inr (.inr x)) fun ls => F ls r σ) : AW d M pc ls st σ Q := by
  intro l G t p e s m args below meth c H locs la ht hlen C hP hS hl
  obtain ⟨hd, hok⟩ := hk t ht
  obtain rfl : n = 1 := eq_of_beq hok
  obtain ⟨x, r, e0, h9⟩ := pR_s h
  subst e0
  obtain ⟨h1, h2, h3⟩ := las_st1 (ad := G.2.1) h9
  exact lv_astore_n (x := G.2.1 x) (rest := r.map (cv G.2.1)) C.1 C.2.1 hd rfl hl (by rw [← hlen]; exact h1) rfl (fun la2 hl2 => hF _ _ _ h2 l G t p e s m args below meth c H locs la2 ht (by rw [List.length_set]; exact hlen) C hP hS (lv_mono hl2 h3))
theorem aw_iinc {d M pc n k : Nat} {x : Int} {hs : List Nat} {kc : Int} {ls : LV} {st : List AV} {σ : SG} {Q : Option AV → SG → Prop} {F : LV → List AV → SG → Prop} (hk : HK M pc (.iinc k x) n hs kc) (hF : ∀ ls st σ, F ls st σ → AW d M (pc + n) ls st σ Q) (h : gI ls k fun y => st1 ls k (.inl (y + x)) fun ls => F ls st σ) : AW d M pc ls st σ Q := by
  intro l G t p e s m args below meth c H locs la ht hlen C hP hS hl
  obtain ⟨hd, hok⟩ := hk t ht
  obtain rfl : n = 3 := eq_of_beq hok
  obtain ⟨y, hy, h⟩ := gI_s h
  obtain ⟨h1, h2, h3⟩ := las_st1 (ad := G.2.1) h
  obtain ⟨j, hj⟩ := List.getElem?_of_mem (las_mem.mpr ⟨.inl y, hy, rfl⟩ : (k, cv G.2.1 (.inl y)) ∈ las G.2.1 ls)
  exact lv_iinc (x := Int32.ofInt y) (v := Int32.ofInt (y + x)) C.1 C.2.1 hd hl (k := j) hj (Int32.ofInt_add y x).symm (by rw [← hlen]; exact h1) rfl (fun la2 hl2 => hF _ _ _ h2 l G t p e s m args below meth c H locs la2 ht (by rw [List.length_set]; exact hlen) C hP hS (lv_mono hl2 h3))
theorem aw_iadd {d M pc n : Nat} {hs : List Nat} {kc : Int} {ls : LV} {st : List AV} {σ : SG} {Q : Option AV → SG → Prop} {F : LV → List AV → SG → Prop} (hk : HK M pc (.iadd) n hs kc) (hF : ∀ ls st σ, F ls st σ → AW d M (pc + n) ls st σ Q) (h : pII st fun a b r => F ls (.inl (a + b) :: r) σ) : AW d M pc ls st σ Q := by
  intro l G t p e s m args below meth c H locs la ht hlen C hP hS hl
  obtain ⟨hd, hok⟩ := hk t ht
  obtain rfl : n = 1 := eq_of_beq hok
  obtain ⟨a, b, r, rfl, h⟩ := pII_s h
  have h := hF _ _ _ h l G t p e s m args below meth c H locs la ht hlen C hP hS hl
  refine lv_iadd (x := Int32.ofInt a) (y := Int32.ofInt b) (rest := r.map (cv G.2.1)) C.1 C.2.1 hd  ?_
  rw [← Int32.ofInt_add]
  exact h
theorem aw_isub {d M pc n : Nat} {hs : List Nat} {kc : Int} {ls : LV} {st : List AV} {σ : SG} {Q : Option AV → SG → Prop} {F : LV → List AV → SG → Prop} (hk : HK M pc (.isub) n hs kc) (hF : ∀ ls st σ, F ls st σ → AW d M (pc + n) ls st σ Q) (h : pII st fun a b r => F ls (.inl (a - b) :: r) σ) : AW d M pc ls st σ Q := by
  intro l G t p e s m args below meth c H locs la ht hlen C hP hS hl
  obtain ⟨hd, hok⟩ := hk t ht
  obtain rfl : n = 1 := eq_of_beq hok
  obtain ⟨a, b, r, rfl, h⟩ := pII_s h
  have h := hF _ _ _ h l G t p e s m args below meth c H locs la ht hlen C hP hS hl
  refine lv_isub (x := Int32.ofInt a) (y := Int32.ofInt b) (rest := r.map (cv G.2.1)) C.1 C.2.1 hd  ?_
  rw [← Int32.ofInt_sub]
  exact h
theorem aw_imul {d M pc n : Nat} {hs : List Nat} {kc : Int} {ls : LV} {st : List AV} {σ : SG} {Q : Option AV → SG → Prop} {F : LV → List AV → SG → Prop} (hk : HK M pc (.imul) n hs kc) (hF : ∀ ls st σ, F ls st σ → AW d M (pc + n) ls st σ Q) (h : pII st fun a b r => F ls (.inl (a * b) :: r) σ) : AW d M pc ls st σ Q := by
  intro l G t p e s m args below meth c H locs la ht hlen C hP hS hl
  obtain ⟨hd, hok⟩ := hk t ht
  obtain rfl : n = 1 := eq_of_beq hok
  obtain ⟨a, b, r, rfl, h⟩ := pII_s h
  have h := hF _ _ _ h l G t p e s m args below meth c H locs la ht hlen C hP hS hl
  refine lv_imul (x := Int32.ofInt a) (y := Int32.ofInt b) (rest := r.map (cv G.2.1)) C.1 C.2.1 hd  ?_
  rw [← Int32.ofInt_mul]
  exact h
theorem aw_iand {d M pc n : Nat} {hs : List Nat} {kc : Int} {ls : LV} {st : List AV} {σ : SG} {Q : Option AV → SG → Prop} {F : LV → List AV → SG → Prop} (hk : HK M pc (.iand) n hs kc) (hF : ∀ ls st σ, F ls st σ → AW d M (pc + n) ls st σ Q) (h : pII st fun a b r => F ls (.inl (band a b) :: r) σ) : AW d M pc ls st σ Q := by
  intro l G t p e s m args below meth c H locs la ht hlen C hP hS hl
  obtain ⟨hd, hok⟩ := hk t ht
  obtain rfl : n = 1 := eq_of_beq hok
  obtain ⟨a, b, r, rfl, h⟩ := pII_s h
  have h := hF _ _ _ h l G t p e s m args below meth c H locs la ht hlen C hP hS hl
  refine lv_iand (x := Int32.ofInt a) (y := Int32.ofInt b) (rest := r.map (cv G.2.1)) C.1 C.2.1 hd  ?_
  rw [i3_and]
  exact h
theorem aw_ior {d M pc n : Nat} {hs : List Nat} {kc : Int} {ls : LV} {st : List AV} {σ : SG} {Q : Option AV → SG → Prop} {F : LV → List AV → SG → Prop} (hk : HK M pc (.ior) n hs kc) (hF : ∀ ls st σ, F ls st σ → AW d M (pc + n) ls st σ Q) (h : pII st fun a b r => F ls (.inl (bor a b) :: r) σ) : AW d M pc ls st σ Q := by
  intro l G t p e s m args below meth c H locs la ht hlen C hP hS hl
  obtain ⟨hd, hok⟩ := hk t ht
  obtain rfl : n = 1 := eq_of_beq hok
  obtain ⟨a, b, r, rfl, h⟩ := pII_s h
  have h := hF _ _ _ h l G t p e s m args below meth c H locs la ht hlen C hP hS hl
  refine lv_ior (x := Int32.ofInt a) (y := Int32.ofInt b) (rest := r.map (cv G.2.1)) C.1 C.2.1 hd  ?_
  rw [i3_or]
  exact h
theorem aw_ixor {d M pc n : Nat} {hs : List Nat} {kc : Int} {ls : LV} {st : List AV} {σ : SG} {Q : Option AV → SG → Prop} {F : LV → List AV → SG → Prop} (hk : HK M pc (.ixor) n hs kc) (hF : ∀ ls st σ, F ls st σ → AW d M (pc + n) ls st σ Q) (h : pII st fun a b r => F ls (.inl (bxor a b) :: r) σ) : AW d M pc ls st σ Q := by
  intro l G t p e s m args below meth c H locs la ht hlen C hP hS hl
  obtain ⟨hd, hok⟩ := hk t ht
  obtain rfl : n = 1 := eq_of_beq hok
  obtain ⟨a, b, r, rfl, h⟩ := pII_s h
  have h := hF _ _ _ h l G t p e s m args below meth c H locs la ht hlen C hP hS hl
  refine lv_ixor (x := Int32.ofInt a) (y := Int32.ofInt b) (rest := r.map (cv G.2.1)) C.1 C.2.1 hd  ?_
  rw [i3_xor]
  exact h
theorem aw_idiv {d M pc n : Nat} {hs : List Nat} {kc : Int} {ls : LV} {st : List AV} {σ : SG} {Q : Option AV → SG → Prop} {F : LV → List AV → SG → Prop} (hk : HK M pc (.idiv) n hs kc) (hF : ∀ ls st σ, F ls st σ → AW d M (pc + n) ls st σ Q) (h : pII st fun a b r => (r3 a ∧ r3 b ∧ b ≠ 0) ∧ F ls (.inl (a.tdiv b) :: r) σ) : AW d M pc ls st σ Q := by
  intro l G t p e s m args below meth c H locs la ht hlen C hP hS hl
  obtain ⟨hd, hok⟩ := hk t ht
  obtain rfl : n = 1 := eq_of_beq hok
  obtain ⟨a, b, r, rfl, h⟩ := pII_s h
  obtain ⟨hc, h⟩ := h
  have h := hF _ _ _ h l G t p e s m args below meth c H locs la ht hlen C hP hS hl
  refine lv_idiv (x := Int32.ofInt a) (y := Int32.ofInt b) (rest := r.map (cv G.2.1)) C.1 C.2.1 hd (fun z => hc.2.2 ((i3_eq hc.2.1.1 hc.2.1.2 (by decide) (by decide)).mp z)) ?_
  rw [i3_div hc.1.1 hc.1.2 hc.2.1.1 hc.2.1.2]
  exact h
theorem aw_irem {d M pc n : Nat} {hs : List Nat} {kc : Int} {ls : LV} {st : List AV} {σ : SG} {Q : Option AV → SG → Prop} {F : LV → List AV → SG → Prop} (hk : HK M pc (.irem) n hs kc) (hF : ∀ ls st σ, F ls st σ → AW d M (pc + n) ls st σ Q) (h : pII st fun a b r => (r3 a ∧ r3 b ∧ b ≠ 0) ∧ F ls (.inl (a.tmod b) :: r) σ) : AW d M pc ls st σ Q := by
  intro l G t p e s m args below meth c H locs la ht hlen C hP hS hl
  obtain ⟨hd, hok⟩ := hk t ht
  obtain rfl : n = 1 := eq_of_beq hok
  obtain ⟨a, b, r, rfl, h⟩ := pII_s h
  obtain ⟨hc, h⟩ := h
  have h := hF _ _ _ h l G t p e s m args below meth c H locs la ht hlen C hP hS hl
  refine lv_irem (x := Int32.ofInt a) (y := Int32.ofInt b) (rest := r.map (cv G.2.1)) C.1 C.2.1 hd (fun z => hc.2.2 ((i3_eq hc.2.1.1 hc.2.1.2 (by decide) (by decide)).mp z)) ?_
  rw [i3_rem hc.1.1 hc.1.2 hc.2.1.1 hc.2.1.2]
  exact h
theorem aw_ishl {d M pc n : Nat} {hs : List Nat} {kc : Int} {ls : LV} {st : List AV} {σ : SG} {Q : Option AV → SG → Prop} {F : LV → List AV → SG → Prop} (hk : HK M pc (.ishl) n hs kc) (hF : ∀ ls st σ, F ls st σ → AW d M (pc + n) ls st σ Q) (h : pII st fun a b r => (0 ≤ b ∧ b < 32) ∧ F ls (.inl (a * 2 ^ b.toNat) :: r) σ) : AW d M pc ls st σ Q := by
  intro l G t p e s m args below meth c H locs la ht hlen C hP hS hl
  obtain ⟨hd, hok⟩ := hk t ht
  obtain rfl : n = 1 := eq_of_beq hok
  obtain ⟨a, b, r, rfl, h⟩ := pII_s h
  obtain ⟨hc, h⟩ := h
  have h := hF _ _ _ h l G t p e s m args below meth c H locs la ht hlen C hP hS hl
  refine lv_ishl (x := Int32.ofInt a) (y := Int32.ofInt b) (rest := r.map (cv G.2.1)) C.1 C.2.1 hd  ?_
  rw [i3_shl hc.1 hc.2]
  exact h
theorem aw_ishr {d M pc n : Nat} {hs : List Nat} {kc : Int} {ls : LV} {st : List AV} {σ : SG} {Q : Option AV → SG → Prop} {F : LV → List AV → SG → Prop} (hk : HK M pc (.ishr) n hs kc) (hF : ∀ ls st σ, F ls st σ → AW d M (pc + n) ls st σ Q) (h : pII st fun a b r => (0 ≤ b ∧ b < 32 ∧ r3 a) ∧ F ls (.inl (a / 2 ^ b.toNat) :: r) σ) : AW d M pc ls st σ Q := by
  intro l G t p e s m args below meth c H locs la ht hlen C hP hS hl
  obtain ⟨hd, hok⟩ := hk t ht
  obtain rfl : n = 1 := eq_of_beq hok
  obtain ⟨a, b, r, rfl, h⟩ := pII_s h
  obtain ⟨hc, h⟩ := h
  have h := hF _ _ _ h l G t p e s m args below meth c H locs la ht hlen C hP hS hl
  refine lv_ishr (x := Int32.ofInt a) (y := Int32.ofInt b) (rest := r.map (cv G.2.1)) C.1 C.2.1 hd  ?_
  rw [i3_shr hc.1 hc.2.1 hc.2.2.1 hc.2.2.2]
  exact h
theorem aw_ladd {d M pc n : Nat} {hs : List Nat} {kc : Int} {ls : LV} {st : List AV} {σ : SG} {Q : Option AV → SG → Prop} {F : LV → List AV → SG → Prop} (hk : HK M pc (.ladd) n hs kc) (hF : ∀ ls st σ, F ls st σ → AW d M (pc + n) ls st σ Q) (h : pLL st fun a b r => F ls (.inr (.inl (a + b)) :: r) σ) : AW d M pc ls st σ Q := by
  intro l G t p e s m args below meth c H locs la ht hlen C hP hS hl
  obtain ⟨hd, hok⟩ := hk t ht
  obtain rfl : n = 1 := eq_of_beq hok
  obtain ⟨a, b, r, rfl, h⟩ := pLL_s h
  have h := hF _ _ _ h l G t p e s m args below meth c H locs la ht hlen C hP hS hl
  refine lv_ladd (x := Int64.ofInt a) (y := Int64.ofInt b) (rest := r.map (cv G.2.1)) C.1 C.2.1 hd  ?_
  rw [← Int64.ofInt_add]
  exact h
theorem aw_lsub {d M pc n : Nat} {hs : List Nat} {kc : Int} {ls : LV} {st : List AV} {σ : SG} {Q : Option AV → SG → Prop} {F : LV → List AV → SG → Prop} (hk : HK M pc (.lsub) n hs kc) (hF : ∀ ls st σ, F ls st σ → AW d M (pc + n) ls st σ Q) (h : pLL st fun a b r => F ls (.inr (.inl (a - b)) :: r) σ) : AW d M pc ls st σ Q := by
  intro l G t p e s m args below meth c H locs la ht hlen C hP hS hl
  obtain ⟨hd, hok⟩ := hk t ht
  obtain rfl : n = 1 := eq_of_beq hok
  obtain ⟨a, b, r, rfl, h⟩ := pLL_s h
  have h := hF _ _ _ h l G t p e s m args below meth c H locs la ht hlen C hP hS hl
  refine lv_lsub (x := Int64.ofInt a) (y := Int64.ofInt b) (rest := r.map (cv G.2.1)) C.1 C.2.1 hd  ?_
  rw [← Int64.ofInt_sub]
  exact h
theorem aw_lmul {d M pc n : Nat} {hs : List Nat} {kc : Int} {ls : LV} {st : List AV} {σ : SG} {Q : Option AV → SG → Prop} {F : LV → List AV → SG → Prop} (hk : HK M pc (.lmul) n hs kc) (hF : ∀ ls st σ, F ls st σ → AW d M (pc + n) ls st σ Q) (h : pLL st fun a b r => F ls (.inr (.inl (a * b)) :: r) σ) : AW d M pc ls st σ Q := by
  intro l G t p e s m args below meth c H locs la ht hlen C hP hS hl
  obtain ⟨hd, hok⟩ := hk t ht
  obtain rfl : n = 1 := eq_of_beq hok
  obtain ⟨a, b, r, rfl, h⟩ := pLL_s h
  have h := hF _ _ _ h l G t p e s m args below meth c H locs la ht hlen C hP hS hl
  refine lv_lmul (x := Int64.ofInt a) (y := Int64.ofInt b) (rest := r.map (cv G.2.1)) C.1 C.2.1 hd  ?_
  rw [← Int64.ofInt_mul]
  exact h
theorem aw_ldiv {d M pc n : Nat} {hs : List Nat} {kc : Int} {ls : LV} {st : List AV} {σ : SG} {Q : Option AV → SG → Prop} {F : LV → List AV → SG → Prop} (hk : HK M pc (.ldiv) n hs kc) (hF : ∀ ls st σ, F ls st σ → AW d M (pc + n) ls st σ Q) (h : pLL st fun a b r => (r6 a ∧ r6 b ∧ b ≠ 0) ∧ F ls (.inr (.inl (a.tdiv b)) :: r) σ) : AW d M pc ls st σ Q := by
  intro l G t p e s m args below meth c H locs la ht hlen C hP hS hl
  obtain ⟨hd, hok⟩ := hk t ht
  obtain rfl : n = 1 := eq_of_beq hok
  obtain ⟨a, b, r, rfl, h⟩ := pLL_s h
  obtain ⟨hc, h⟩ := h
  have h := hF _ _ _ h l G t p e s m args below meth c H locs la ht hlen C hP hS hl
  refine lv_ldiv (x := Int64.ofInt a) (y := Int64.ofInt b) (rest := r.map (cv G.2.1)) C.1 C.2.1 hd (fun z => hc.2.2 ((i6_eq hc.2.1.1 hc.2.1.2 (by decide) (by decide)).mp z)) ?_
  rw [i6_div hc.1.1 hc.1.2 hc.2.1.1 hc.2.1.2]
  exact h
theorem aw_lrem {d M pc n : Nat} {hs : List Nat} {kc : Int} {ls : LV} {st : List AV} {σ : SG} {Q : Option AV → SG → Prop} {F : LV → List AV → SG → Prop} (hk : HK M pc (.lrem) n hs kc) (hF : ∀ ls st σ, F ls st σ → AW d M (pc + n) ls st σ Q) (h : pLL st fun a b r => (r6 a ∧ r6 b ∧ b ≠ 0) ∧ F ls (.inr (.inl (a.tmod b)) :: r) σ) : AW d M pc ls st σ Q := by
  intro l G t p e s m args below meth c H locs la ht hlen C hP hS hl
  obtain ⟨hd, hok⟩ := hk t ht
  obtain rfl : n = 1 := eq_of_beq hok
  obtain ⟨a, b, r, rfl, h⟩ := pLL_s h
  obtain ⟨hc, h⟩ := h
  have h := hF _ _ _ h l G t p e s m args below meth c H locs la ht hlen C hP hS hl
  refine lv_lrem (x := Int64.ofInt a) (y := Int64.ofInt b) (rest := r.map (cv G.2.1)) C.1 C.2.1 hd (fun z => hc.2.2 ((i6_eq hc.2.1.1 hc.2.1.2 (by decide) (by decide)).mp z)) ?_
  rw [i6_rem hc.1.1 hc.1.2 hc.2.1.1 hc.2.1.2]
  exact h
theorem aw_iushr {d M pc n : Nat} {hs : List Nat} {kc : Int} {ls : LV} {st : List AV} {σ : SG} {Q : Option AV → SG → Prop} {F : LV → List AV → SG → Prop} (hk : HK M pc (.iushr) n hs kc) (hF : ∀ ls st σ, F ls st σ → AW d M (pc + n) ls st σ Q) (h : pII st fun a b r => (0 ≤ b ∧ b < 32) ∧ F ls (.inl ((un a / 2 ^ b.toNat : Nat) : Int) :: r) σ) : AW d M pc ls st σ Q := by
  intro l G t p e s m args below meth c H locs la ht hlen C hP hS hl
  obtain ⟨hd, hok⟩ := hk t ht
  obtain rfl : n = 1 := eq_of_beq hok
  obtain ⟨a, b, r, rfl, hc, h⟩ := pII_s h
  exact lv_iushr (x := Int32.ofInt a) (y := Int32.ofInt b) (v := Int32.ofInt ((un a / 2 ^ b.toNat : Nat) : Int)) (rest := r.map (cv G.2.1)) C.1 C.2.1 hd (i3_ushr hc.1 hc.2) (hF _ _ _ h l G t p e s m args below meth c H locs la ht hlen C hP hS hl)
theorem aw_ineg {d M pc n : Nat} {hs : List Nat} {kc : Int} {ls : LV} {st : List AV} {σ : SG} {Q : Option AV → SG → Prop} {F : LV → List AV → SG → Prop} (hk : HK M pc (.ineg) n hs kc) (hF : ∀ ls st σ, F ls st σ → AW d M (pc + n) ls st σ Q) (h : pI st fun a r => F ls (.inl (-a) :: r) σ) : AW d M pc ls st σ Q := by
  intro l G t p e s m args below meth c H locs la ht hlen C hP hS hl
  obtain ⟨hd, hok⟩ := hk t ht
  obtain rfl : n = 1 := eq_of_beq hok
  obtain ⟨a, r, rfl, h⟩ := pI_s h
  have h := hF _ _ _ h l G t p e s m args below meth c H locs la ht hlen C hP hS hl
  refine lv_ineg (x := Int32.ofInt a) (rest := r.map (cv G.2.1)) C.1 C.2.1 hd ?_
  rw [← Int32.ofInt_neg]
  exact h
theorem aw_i2l {d M pc n : Nat} {hs : List Nat} {kc : Int} {ls : LV} {st : List AV} {σ : SG} {Q : Option AV → SG → Prop} {F : LV → List AV → SG → Prop} (hk : HK M pc (.i2l) n hs kc) (hF : ∀ ls st σ, F ls st σ → AW d M (pc + n) ls st σ Q) (h : pI st fun a r => r3 a ∧ F ls (.inr (.inl a) :: r) σ) : AW d M pc ls st σ Q := by
  intro l G t p e s m args below meth c H locs la ht hlen C hP hS hl
  obtain ⟨hd, hok⟩ := hk t ht
  obtain rfl : n = 1 := eq_of_beq hok
  obtain ⟨a, r, rfl, hc, h⟩ := pI_s h
  exact lv_i2l (x := Int32.ofInt a) (v := Int64.ofInt a) (rest := r.map (cv G.2.1)) C.1 C.2.1 hd (i3_i2l hc.1 hc.2) (hF _ _ _ h l G t p e s m args below meth c H locs la ht hlen C hP hS hl)
theorem aw_l2i {d M pc n : Nat} {hs : List Nat} {kc : Int} {ls : LV} {st : List AV} {σ : SG} {Q : Option AV → SG → Prop} {F : LV → List AV → SG → Prop} (hk : HK M pc (.l2i) n hs kc) (hF : ∀ ls st σ, F ls st σ → AW d M (pc + n) ls st σ Q) (h : pL st fun a r => F ls (.inl a :: r) σ) : AW d M pc ls st σ Q := by
  intro l G t p e s m args below meth c H locs la ht hlen C hP hS hl
  obtain ⟨hd, hok⟩ := hk t ht
  obtain rfl : n = 1 := eq_of_beq hok
  obtain ⟨a, r, rfl, h⟩ := pL_s h
  exact lv_l2i (x := Int64.ofInt a) (v := Int32.ofInt a) (rest := r.map (cv G.2.1)) C.1 C.2.1 hd (i6_l2i a) (hF _ _ _ h l G t p e s m args below meth c H locs la ht hlen C hP hS hl)
theorem cat1_s {ad : Nat → Nat} {v : AV} (h : cat1 v = true) : (cv ad v).category = 1 := by
  rcases v with x | x | x
  · rfl
  · cases h
  · rfl
theorem aw_dup {d M pc n : Nat} {hs : List Nat} {kc : Int} {ls : LV} {st : List AV} {σ : SG} {Q : Option AV → SG → Prop} {F : LV → List AV → SG → Prop} (hk : HK M pc (.dup) n hs kc) (hF : ∀ ls st σ, F ls st σ → AW d M (pc + n) ls st σ Q) (h : match st with
    | v :: r => (match cat1 v with
      | true => F ls (v :: v :: r) σ
      | false => False)
    | _ => False) : AW d M pc ls st σ Q := by
  intro l G t p e s m args below meth c H locs la ht hlen C hP hS hl
  obtain ⟨hd, hok⟩ := hk t ht
  obtain rfl : n = 1 := eq_of_beq hok
  split at h
  · rename_i v r
    split at h
    · rename_i hc
      exact lv_dup (va := cv G.2.1 v) (rest := r.map (cv G.2.1)) C.1 C.2.1 hd (cat1_s hc) (hF _ _ _ h l G t p e s m args below meth c H locs la ht hlen C hP hS hl)
    · exact h.elim
  · exact h.elim
theorem aw_pop {d M pc n : Nat} {hs : List Nat} {kc : Int} {ls : LV} {st : List AV} {σ : SG} {Q : Option AV → SG → Prop} {F : LV → List AV → SG → Prop} (hk : HK M pc (.pop) n hs kc) (hF : ∀ ls st σ, F ls st σ → AW d M (pc + n) ls st σ Q) (h : match st with
    | v :: r => (match cat1 v with
      | true => F ls r σ
      | false => False)
    | _ => False) : AW d M pc ls st σ Q := by
  intro l G t p e s m args below meth c H locs la ht hlen C hP hS hl
  obtain ⟨hd, hok⟩ := hk t ht
  obtain rfl : n = 1 := eq_of_beq hok
  split at h
  · rename_i v r
    split at h
    · rename_i hc
      exact lv_pop (va := cv G.2.1 v) (rest := r.map (cv G.2.1)) C.1 C.2.1 hd (cat1_s hc) (hF _ _ _ h l G t p e s m args below meth c H locs la ht hlen C hP hS hl)
    · exact h.elim
  · exact h.elim
theorem aw_dup2 {d M pc n : Nat} {hs : List Nat} {kc : Int} {ls : LV} {st : List AV} {σ : SG} {Q : Option AV → SG → Prop} {F : LV → List AV → SG → Prop} (hk : HK M pc (.dup2) n hs kc) (hF : ∀ ls st σ, F ls st σ → AW d M (pc + n) ls st σ Q) (h : match st with
    | v :: w :: r => (match cat1 v && cat1 w with
      | true => F ls (v :: w :: v :: w :: r) σ
      | false => False)
    | _ => False) : AW d M pc ls st σ Q := by
  intro l G t p e s m args below meth c H locs la ht hlen C hP hS hl
  obtain ⟨hd, hok⟩ := hk t ht
  obtain rfl : n = 1 := eq_of_beq hok
  split at h
  · rename_i v w r
    split at h
    · rename_i hc
      rw [Bool.and_eq_true] at hc
      exact lv_dup2_11 (va := cv G.2.1 v) (vb := cv G.2.1 w) (rest := r.map (cv G.2.1)) C.1 C.2.1 hd (cat1_s hc.1) (cat1_s hc.2) (hF _ _ _ h l G t p e s m args below meth c H locs la ht hlen C hP hS hl)
    · exact h.elim
  · exact h.elim
theorem aw_if_icmp {d M pc n : Nat} {cd : Jvm.ClassFile.Cond} {off : Int} {hs : List Nat} {kc : Int} {ls : LV} {st : List AV} {σ : SG} {Q : Option AV → SG → Prop} {F : LV → List AV → SG → Prop} (hk : HK M pc (.if_icmp cd off) n hs kc) (hF : ∀ ls st σ, F ls st σ → AW d M (pc + n) ls st σ Q) (h : wps d (.if_icmp cd off) hs kc pc ls st σ Q (fun pc ls st σ => AW d M pc ls st σ Q) F) : AW d M pc ls st σ Q := by
  intro l G t p e s m args below meth c H locs la ht hlen C hP hS hl
  obtain ⟨hd, hok⟩ := hk t ht
  rcases hs with _ | ⟨tt, _ | ⟨z, hs⟩⟩
  · exact False.elim h
  · have hok : (n == 3 && decide ((pc : Int) + off = (tt : Int))) = true := hok
    simp only [Bool.and_eq_true, decide_eq_true_eq, beq_iff_eq] at hok
    obtain ⟨e3, h0⟩ := hok
    subst e3
    obtain ⟨a, b, r, e0, ⟨ra, rb⟩, h9⟩ := pII_s h
    subst e0
    obtain ⟨k1, k2, k3, k4, k5, k6⟩ := br_i h9
    have jt : AW d M tt ls r σ Q → W p l e (RM d) s m args below meth c H locs 0 0 (MQ below (QC G (RTQ t Q)) args s 0 0 (AD G)) (F0 m tt la (r.map (cv G.2.1))) := fun z => z l G t p e s m args below meth c H locs la ht hlen C hP hS hl
    have jf : F ls r σ → W p l e (RM d) s m args below meth c H locs 0 0 (MQ below (QC G (RTQ t Q)) args s 0 0 (AD G)) (F0 m (pc + 3) la (r.map (cv G.2.1))) := fun z => hF _ _ _ z l G t p e s m args below meth c H locs la ht hlen C hP hS hl
    cases cd
    · exact lv_icmp_eq (tgt := tt) (x := Int32.ofInt a) (y := Int32.ofInt b) (rest := r.map (cv G.2.1)) C.1 C.2.1 hd h0 (fun z => jt ((k1 rfl).1 ((i3_eq ra.1 ra.2 rb.1 rb.2).mp z))) (fun z => jf ((k1 rfl).2 (fun y => z ((i3_eq ra.1 ra.2 rb.1 rb.2).mpr y))))
    · exact lv_icmp_ne (tgt := tt) (x := Int32.ofInt a) (y := Int32.ofInt b) (rest := r.map (cv G.2.1)) C.1 C.2.1 hd h0 (fun z => jt ((k2 rfl).1 (fun y => z ((i3_eq ra.1 ra.2 rb.1 rb.2).mpr y)))) (fun z => jf ((k2 rfl).2 ((i3_eq ra.1 ra.2 rb.1 rb.2).mp z)))
    · exact lv_icmp_lt (tgt := tt) (x := Int32.ofInt a) (y := Int32.ofInt b) (rest := r.map (cv G.2.1)) C.1 C.2.1 hd h0 (fun z => jt ((k3 rfl).1 ((i3_lt ra.1 ra.2 rb.1 rb.2).mp z))) (fun z => jf ((k3 rfl).2 (fun y => z ((i3_lt ra.1 ra.2 rb.1 rb.2).mpr y))))
    · exact lv_icmp_ge (tgt := tt) (x := Int32.ofInt a) (y := Int32.ofInt b) (rest := r.map (cv G.2.1)) C.1 C.2.1 hd h0 (fun z => jt ((k4 rfl).1 ((i3_le rb.1 rb.2 ra.1 ra.2).mp z))) (fun z => jf ((k4 rfl).2 (fun y => z ((i3_le rb.1 rb.2 ra.1 ra.2).mpr y))))
    · exact lv_icmp_gt (tgt := tt) (x := Int32.ofInt a) (y := Int32.ofInt b) (rest := r.map (cv G.2.1)) C.1 C.2.1 hd h0 (fun z => jt ((k5 rfl).1 ((i3_lt rb.1 rb.2 ra.1 ra.2).mp z))) (fun z => jf ((k5 rfl).2 (fun y => z ((i3_lt rb.1 rb.2 ra.1 ra.2).mpr y))))
    · exact lv_icmp_le (tgt := tt) (x := Int32.ofInt a) (y := Int32.ofInt b) (rest := r.map (cv G.2.1)) C.1 C.2.1 hd h0 (fun z => jt ((k6 rfl).1 ((i3_le ra.1 ra.2 rb.1 rb.2).mp z))) (fun z => jf ((k6 rfl).2 (fun y => z ((i3_le ra.1 ra.2 rb.1 rb.2).mpr y))))
  · exact False.elim h
theorem aw_ifCond {d M pc n : Nat} {cd : Jvm.ClassFile.Cond} {off : Int} {hs : List Nat} {kc : Int} {ls : LV} {st : List AV} {σ : SG} {Q : Option AV → SG → Prop} {F : LV → List AV → SG → Prop} (hk : HK M pc (.ifCond cd off) n hs kc) (hF : ∀ ls st σ, F ls st σ → AW d M (pc + n) ls st σ Q) (h : wps d (.ifCond cd off) hs kc pc ls st σ Q (fun pc ls st σ => AW d M pc ls st σ Q) F) : AW d M pc ls st σ Q := by
  intro l G t p e s m args below meth c H locs la ht hlen C hP hS hl
  obtain ⟨hd, hok⟩ := hk t ht
  rcases hs with _ | ⟨tt, _ | ⟨z, hs⟩⟩
  · exact False.elim h
  · have hok : (n == 3 && decide ((pc : Int) + off = (tt : Int))) = true := hok
    simp only [Bool.and_eq_true, decide_eq_true_eq, beq_iff_eq] at hok
    obtain ⟨e3, h0⟩ := hok
    subst e3
    obtain ⟨a, r, e0, ra, h9⟩ := pI_s h
    subst e0
    have rb : r3 0 := ⟨by decide, by decide⟩
    obtain ⟨k1, k2, k3, k4, k5, k6⟩ := br_i h9
    have jt : AW d M tt ls r σ Q → W p l e (RM d) s m args below meth c H locs 0 0 (MQ below (QC G (RTQ t Q)) args s 0 0 (AD G)) (F0 m tt la (r.map (cv G.2.1))) := fun z => z l G t p e s m args below meth c H locs la ht hlen C hP hS hl
    have jf : F ls r σ → W p l e (RM d) s m args below meth c H locs 0 0 (MQ below (QC G (RTQ t Q)) args s 0 0 (AD G)) (F0 m (pc + 3) la (r.map (cv G.2.1))) := fun z => hF _ _ _ z l G t p e s m args below meth c H locs la ht hlen C hP hS hl
    cases cd
    · exact lv_if_eq (tgt := tt) (x := Int32.ofInt a) (rest := r.map (cv G.2.1)) C.1 C.2.1 hd h0 (fun z => jt ((k1 rfl).1 ((i3_eq ra.1 ra.2 rb.1 rb.2).mp z))) (fun z => jf ((k1 rfl).2 (fun y => z ((i3_eq ra.1 ra.2 rb.1 rb.2).mpr y))))
    · exact lv_if_ne (tgt := tt) (x := Int32.ofInt a) (rest := r.map (cv G.2.1)) C.1 C.2.1 hd h0 (fun z => jt ((k2 rfl).1 (fun y => z ((i3_eq ra.1 ra.2 rb.1 rb.2).mpr y)))) (fun z => jf ((k2 rfl).2 ((i3_eq ra.1 ra.2 rb.1 rb.2).mp z)))
    · exact lv_if_lt (tgt := tt) (x := Int32.ofInt a) (rest := r.map (cv G.2.1)) C.1 C.2.1 hd h0 (fun z => jt ((k3 rfl).1 ((i3_lt ra.1 ra.2 rb.1 rb.2).mp z))) (fun z => jf ((k3 rfl).2 (fun y => z ((i3_lt ra.1 ra.2 rb.1 rb.2).mpr y))))
    · exact lv_if_ge (tgt := tt) (x := Int32.ofInt a) (rest := r.map (cv G.2.1)) C.1 C.2.1 hd h0 (fun z => jt ((k4 rfl).1 ((i3_le rb.1 rb.2 ra.1 ra.2).mp z))) (fun z => jf ((k4 rfl).2 (fun y => z ((i3_le rb.1 rb.2 ra.1 ra.2).mpr y))))
    · exact lv_if_gt (tgt := tt) (x := Int32.ofInt a) (rest := r.map (cv G.2.1)) C.1 C.2.1 hd h0 (fun z => jt ((k5 rfl).1 ((i3_lt rb.1 rb.2 ra.1 ra.2).mp z))) (fun z => jf ((k5 rfl).2 (fun y => z ((i3_lt rb.1 rb.2 ra.1 ra.2).mpr y))))
    · exact lv_if_le (tgt := tt) (x := Int32.ofInt a) (rest := r.map (cv G.2.1)) C.1 C.2.1 hd h0 (fun z => jt ((k6 rfl).1 ((i3_le ra.1 ra.2 rb.1 rb.2).mp z))) (fun z => jf ((k6 rfl).2 (fun y => z ((i3_le ra.1 ra.2 rb.1 rb.2).mpr y))))
  · exact False.elim h
theorem aw_goto {d M pc n : Nat} {off : Int} {hs : List Nat} {kc : Int} {ls : LV} {st : List AV} {σ : SG} {Q : Option AV → SG → Prop} {F : LV → List AV → SG → Prop} (hk : HK M pc (.goto off) n hs kc) (h : wps d (.goto off) hs kc pc ls st σ Q (fun pc ls st σ => AW d M pc ls st σ Q) F) : AW d M pc ls st σ Q := by
  intro l G t p e s m args below meth c H locs la ht hlen C hP hS hl
  obtain ⟨hd, hok⟩ := hk t ht
  rcases hs with _ | ⟨tt, _ | ⟨z, hs⟩⟩
  · exact False.elim h
  · have hok : (n == 3 && decide ((pc : Int) + off = (tt : Int))) = true := hok
    simp only [Bool.and_eq_true, decide_eq_true_eq, beq_iff_eq] at hok
    obtain ⟨e3, h0⟩ := hok
    subst e3
    have h : AW d M tt ls st σ Q := h
    exact lv_goto (tgt := tt) C.1 C.2.1 hd h0 (h l G t p e s m args below meth c H locs la ht hlen C hP hS hl)
  · exact False.elim h
theorem aw_tableswitch {d M pc n : Nat} {df lo hi : Int} {os : Array Int} {hs : List Nat} {kc : Int} {ls : LV} {st : List AV} {σ : SG} {Q : Option AV → SG → Prop} {F : LV → List AV → SG → Prop} (hk : HK M pc (.tableswitch df lo hi os) n hs kc) (h : wps d (.tableswitch df lo hi os) hs kc pc ls st σ Q (fun pc ls st σ => AW d M pc ls st σ Q) F) : AW d M pc ls st σ Q := by
  intro l G t p e s m args below meth c H locs la ht hlen C hP hS hl
  obtain ⟨hd, hok⟩ := hk t ht
  rcases hs with _ | ⟨tt, ts⟩
  · exact False.elim h
  · have hok : (decide ((pc : Int) + df = (tt : Int)) && (decide (os.toList.map (fun o => (pc : Int) + o) = ts.map Int.ofNat) && decide (hi + 1 = lo + ts.length))) = true := hok
    simp only [Bool.and_eq_true, decide_eq_true_eq] at hok
    obtain ⟨h0, h1, h2⟩ := hok
    obtain ⟨a, r, e0, ra, h8, h3⟩ := pI_s h
    subst e0
    have ea := i3_toInt ra.1 ra.2
    by_cases hq : a < lo ∨ hi < a
    · exact lv_tableOut (x := Int32.ofInt a) (tgt := tt) (rest := r.map (cv G.2.1)) C.1 C.2.1 hd (by rw [ea]; exact hq) h0 (h3 hq l G t p e s m args below meth c H locs la ht hlen C hP hS hl)
    · have hlt : (a - lo).toNat < ts.length := by omega
      have hll : os.toList.length = ts.length := by
        have := congrArg List.length h1
        simpa using this
      have ho : os.toList[(a - lo).toNat]? = some (os.toList[(a - lo).toNat]'(by omega)) := List.getElem?_eq_getElem (by omega)
      have ht2 : ts[(a - lo).toNat]? = some (ts[(a - lo).toNat]'hlt) := List.getElem?_eq_getElem hlt
      have hp : (pc : Int) + os.toList[(a - lo).toNat]'(by omega) = ((ts[(a - lo).toNat]'hlt : Nat) : Int) := by
        have e1 := congrArg (fun l => l[(a - lo).toNat]?) h1
        simp only [List.getElem?_map, ho, ht2, Option.map_some, Option.some.injEq] at e1
        exact e1
      refine lv_tableIn (x := Int32.ofInt a) (tgt := ts[(a - lo).toNat]'hlt) (rest := r.map (cv G.2.1)) C.1 C.2.1 hd (by rw [ea]; omega) (by rw [ea]; omega) (off := os.toList[(a - lo).toNat]'(by omega)) (by rw [ea, ← Array.getElem?_toList]; exact ho) hp ?_
      exact tbP_at h8 (by omega) ht2 l G t p e s m args below meth c H locs la ht hlen C hP hS hl
theorem aw_lookupswitch {d M pc n : Nat} {df : Int} {ps : Array (Int × Int)} {hs : List Nat} {kc : Int} {ls : LV} {st : List AV} {σ : SG} {Q : Option AV → SG → Prop} {F : LV → List AV → SG → Prop} (hk : HK M pc (.lookupswitch df ps) n hs kc) (h : wps d (.lookupswitch df ps) hs kc pc ls st σ Q (fun pc ls st σ => AW d M pc ls st σ Q) F) : AW d M pc ls st σ Q := by
  intro l G t p e s m args below meth c H locs la ht hlen C hP hS hl
  obtain ⟨hd, hok⟩ := hk t ht
  rcases hs with _ | ⟨tt, ts⟩
  · exact False.elim h
  · have hok : (decide ((pc : Int) + df = (tt : Int)) && (decide (ps.toList.map (fun o => (pc : Int) + o.2) = ts.map Int.ofNat) && (ps.toList.zip (ps.toList.drop 1)).all (fun (a, next) => a.1 < next.1))) = true := hok
    rw [Bool.and_eq_true, Bool.and_eq_true, decide_eq_true_eq, decide_eq_true_eq] at hok
    obtain ⟨h0, h1, h2⟩ := hok
    obtain ⟨a, r, e0, ra, h8⟩ := pI_s h
    subst e0
    have ea := i3_toInt ra.1 ra.2
    obtain ⟨t2, h3, h4⟩ := lkP_at h0 h1 h8
    exact lv_lookup (x := Int32.ofInt a) (tgt := t2) (rest := r.map (cv G.2.1)) C.1 C.2.1 hd h2 rfl (by rw [ea]; exact h3) (h4 l G t p e s m args below meth c H locs la ht hlen C hP hS hl)
theorem aw_lcmp {d M pc n : Nat} {hs : List Nat} {kc : Int} {ls : LV} {st : List AV} {σ : SG} {Q : Option AV → SG → Prop} {F : LV → List AV → SG → Prop} (hk : HK M pc .lcmp n hs kc) (hF : ∀ ls st σ, F ls st σ → AW d M (pc + n) ls st σ Q) (h : wps d (.lcmp) hs kc pc ls st σ Q (fun pc ls st σ => AW d M pc ls st σ Q) F) : AW d M pc ls st σ Q := by
  intro l G t p e s m args below meth c H locs la ht hlen C hP hS hl
  obtain ⟨hd, hok⟩ := hk t ht
  rcases hs with _ | ⟨cn, _ | ⟨tt, _ | ⟨z, hs⟩⟩⟩
  · exact False.elim h
  · exact False.elim h
  · have hok : (n == 4 && decide (((pc + 1 : Nat) : Int) + kc = (tt : Int))) = true := hok
    simp only [Bool.and_eq_true, decide_eq_true_eq, beq_iff_eq] at hok
    obtain ⟨e4, h0⟩ := hok
    subst e4
    obtain ⟨hd, hd2⟩ : decode t.2.1 pc = .ok (.lcmp, 1) ∧ decode t.2.1 (pc + 1) = .ok (.ifCond (cOf cn) kc, 3) := hd
    obtain ⟨a, b, r, e0, ⟨ra, rb⟩, h9⟩ := pLL_s h
    subst e0
    have h9 : brP (cOf cn) a b (AW d M tt ls r σ Q) (F ls r σ) := h9
    generalize cOf cn = cd at h9 hd2
    obtain ⟨k1, k2, k3, k4, k5, k6⟩ := br_i h9
    have jt : AW d M tt ls r σ Q → W p l e (RM d) s m args below meth c H locs 0 0 (MQ below (QC G (RTQ t Q)) args s 0 0 (AD G)) (F0 m tt la (r.map (cv G.2.1))) := fun z => z l G t p e s m args below meth c H locs la ht hlen C hP hS hl
    have jf : F ls r σ → W p l e (RM d) s m args below meth c H locs 0 0 (MQ below (QC G (RTQ t Q)) args s 0 0 (AD G)) (F0 m (pc + 1 + 3) la (r.map (cv G.2.1))) := fun z => hF _ _ _ z l G t p e s m args below meth c H locs la ht hlen C hP hS hl
    have leq : lg_cmp (Int64.ofInt a) (Int64.ofInt b) = 0 ↔ a = b := by
      rw [← i6_eq ra.1 ra.2 rb.1 rb.2]
      have g1 := lg_cmp_ge (Int64.ofInt a) (Int64.ofInt b)
      have g2 := lg_cmp_le (Int64.ofInt a) (Int64.ofInt b)
      constructor
      · intro z
        rw [z] at g1 g2
        exact Int64.le_antisymm (g2.mp (by decide)) (g1.mp (by decide))
      · intro z
        rw [z]
        simp [lg_cmp]
    have llt : ∀ {x y : Int}, r6 x → r6 y → (Int64.ofInt x < Int64.ofInt y ↔ x < y) := fun h1 h2 => i6_lt h1.1 h1.2 h2.1 h2.2
    have lle : ∀ {x y : Int}, r6 x → r6 y → (Int64.ofInt x ≤ Int64.ofInt y ↔ x ≤ y) := fun h1 h2 => by
      rw [Int64.le_iff_toInt_le, i6_toInt h1.1 h1.2, i6_toInt h2.1 h2.2]
    refine W.lcmp (x := Int64.ofInt a) (y := Int64.ofInt b) (rest := r.map (cv G.2.1)) C.1 C.2.1 hd ?_
    cases cd
    · exact lv_if_eq (tgt := tt) (rest := r.map (cv G.2.1)) C.1 C.2.1 hd2 h0 (fun z => jt ((k1 rfl).1 (leq.mp z))) (fun z => jf ((k1 rfl).2 (fun y => z (leq.mpr y))))
    · exact lv_if_ne (tgt := tt) (rest := r.map (cv G.2.1)) C.1 C.2.1 hd2 h0 (fun z => jt ((k2 rfl).1 (fun y => z (leq.mpr y)))) (fun z => jf ((k2 rfl).2 (leq.mp z)))
    · exact lv_if_lt (tgt := tt) (rest := r.map (cv G.2.1)) C.1 C.2.1 hd2 h0 (fun z => jt ((k3 rfl).1 ((llt ra rb).mp ((lg_cmp_lt _ _).mp z)))) (fun z => jf ((k3 rfl).2 (fun y => z ((lg_cmp_lt _ _).mpr ((llt ra rb).mpr y)))))
    · exact lv_if_ge (tgt := tt) (rest := r.map (cv G.2.1)) C.1 C.2.1 hd2 h0 (fun z => jt ((k4 rfl).1 ((lle rb ra).mp ((lg_cmp_ge _ _).mp z)))) (fun z => jf ((k4 rfl).2 (fun y => z ((lg_cmp_ge _ _).mpr ((lle rb ra).mpr y)))))
    · exact lv_if_gt (tgt := tt) (rest := r.map (cv G.2.1)) C.1 C.2.1 hd2 h0 (fun z => jt ((k5 rfl).1 ((llt rb ra).mp ((lg_cmp_gt _ _).mp z)))) (fun z => jf ((k5 rfl).2 (fun y => z ((lg_cmp_gt _ _).mpr ((llt rb ra).mpr y)))))
    · exact lv_if_le (tgt := tt) (rest := r.map (cv G.2.1)) C.1 C.2.1 hd2 h0 (fun z => jt ((k6 rfl).1 ((lle ra rb).mp ((lg_cmp_le _ _).mp z)))) (fun z => jf ((k6 rfl).2 (fun y => z ((lg_cmp_le _ _).mpr ((lle ra rb).mpr y)))))
  · exact False.elim h
theorem own_ok {M : Nat} {t : MTE} {s : State} {m : MethodId} (ht : MT[M]? = some t) (h : s.vm.findClass t.1.cls = some m.cls) : s.vm.findClass (cnm t.2.2.2.2) = some m.cls := by
  rw [← (mt_ok ht).2.1]
  exact h
theorem aw_ldc {d M pc n ix : Nat} {hs : List Nat} {kc : Int} {ls : LV} {st : List AV} {σ : SG} {Q : Option AV → SG → Prop} {F : LV → List AV → SG → Prop} (hk : HK M pc (.ldc ix) n hs kc) (hF : ∀ ls st σ, F ls st σ → AW d M (pc + n) ls st σ Q) (h : wps d (.ldc ix) hs kc pc ls st σ Q (fun pc ls st σ => AW d M pc ls st σ Q) F) : AW d M pc ls st σ Q := by
  intro l G t p e s m args below meth c H locs la ht hlen C hP hS hl
  obtain ⟨hd, hok⟩ := hk t ht
  have ho := own_ok ht C.2.2.2.1
  have hw := C.2.2.2.2.2.2.2.2.2.1.2.1
  have hI : (n == 2 && decide ((t.2.2.2.2, ix, kc) ∈ KI)) = true → F ls (.inl kc :: st) σ → W p l e (RM d) s m args below meth c H locs 0 0 (MQ below (QC G (RTQ t Q)) args s 0 0 (AD G)) (F0 m pc la (st.map (cv G.2.1))) := by
    intro hok h8
    simp only [Bool.and_eq_true, decide_eq_true_eq, beq_iff_eq] at hok
    obtain ⟨rfl, h2⟩ := hok
    exact lv_ldc (v := Int32.ofInt kc) C.1 C.2.1 ho (C.2.2.2.2.1 _ (tx_KI h2)) hd (hF _ _ _ h8 l G t p e s m args below meth c H locs la ht hlen C hP hS hl)
  rcases hs with _ | ⟨q, _ | ⟨q2, hs⟩⟩
  · exact hI hok h
  · have hok : (n == 2 && decide ((t.2.2.2.2, ix, q) ∈ KS)) = true := hok
    simp only [Bool.and_eq_true, decide_eq_true_eq, beq_iff_eq] at hok
    obtain ⟨rfl, h2⟩ := hok
    have h : F ls (.inr (.inr (1000 + q)) :: st) σ := h
    exact va_ldcS (q := G.2.1 (1000 + q)) C.1 C.2.1 ho (hw (t.2.2.2.2, ix, q) h2) hd (hF _ _ _ h l G t p e s m args below meth c H locs la ht hlen C hP hS hl)
  · exact hI hok h
theorem aw_ldc_w {d M pc n ix : Nat} {hs : List Nat} {kc : Int} {ls : LV} {st : List AV} {σ : SG} {Q : Option AV → SG → Prop} {F : LV → List AV → SG → Prop} (hk : HK M pc (.ldc_w ix) n hs kc) (hF : ∀ ls st σ, F ls st σ → AW d M (pc + n) ls st σ Q) (h : F ls (.inl kc :: st) σ) : AW d M pc ls st σ Q := by
  intro l G t p e s m args below meth c H locs la ht hlen C hP hS hl
  obtain ⟨hd, hok⟩ := hk t ht
  have hok : (n == 3 && decide ((t.2.2.2.2, ix, kc) ∈ KI)) = true := hok
  simp only [Bool.and_eq_true, decide_eq_true_eq, beq_iff_eq] at hok
  obtain ⟨rfl, h2⟩ := hok
  exact lv_ldcw (v := Int32.ofInt kc) C.1 C.2.1 (own_ok ht C.2.2.2.1) (C.2.2.2.2.1 _ (tx_KI h2)) hd (hF _ _ _ h l G t p e s m args below meth c H locs la ht hlen C hP hS hl)
theorem aw_ldc2_w {d M pc n ix : Nat} {hs : List Nat} {kc : Int} {ls : LV} {st : List AV} {σ : SG} {Q : Option AV → SG → Prop} {F : LV → List AV → SG → Prop} (hk : HK M pc (.ldc2_w ix) n hs kc) (hF : ∀ ls st σ, F ls st σ → AW d M (pc + n) ls st σ Q) (h : F ls (.inr (.inl kc) :: st) σ) : AW d M pc ls st σ Q := by
  intro l G t p e s m args below meth c H locs la ht hlen C hP hS hl
  obtain ⟨hd, hok⟩ := hk t ht
  have hok : (n == 3 && decide ((t.2.2.2.2, ix, kc) ∈ KL)) = true := hok
  simp only [Bool.and_eq_true, decide_eq_true_eq, beq_iff_eq] at hok
  obtain ⟨rfl, h2⟩ := hok
  exact lv_ldc2 (v := Int64.ofInt kc) C.1 C.2.1 (own_ok ht C.2.2.2.1) (C.2.2.2.2.1 _ (tx_KL h2)) hd (hF _ _ _ h l G t p e s m args below meth c H locs la ht hlen C hP hS hl)
