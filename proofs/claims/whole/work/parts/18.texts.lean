/-! ===== String.length and String.charAt over AW ===== -/
theorem aw_slen {d M pc i : Nat} {ls : LV} {r : List AV} {σ : SG} {Q : Option AV → SG → Prop} (hk : ∀ t, MT[M]? = some t → decode t.2.1 pc = .ok (.invokevirtual 59, 3) ∧ cnm t.2.2.2.2 = "LentStairs$Tape")
    (hi : i < 7) (hd0 : 2 ≤ d) (hc8 : cats r ≤ 8) (h : AW d M (pc + 3) ls (.inl ((sLen.getD i 0 : Nat) : Int) :: r) σ Q) : AW d M pc ls (.inr (.inr (1000 + i)) :: r) σ Q := by
  intro l G t p e s m args below meth c H locs la ht hlen C hP hS hl
  obtain ⟨hd, hw⟩ := hk t ht
  have hT := C.2.2.2.2.1
  have hc := h l G t p e s m args below meth c H locs la ht hlen C hP hS hl
  have ho := own_ok ht C.2.2.2.1
  rw [hw] at ho
  have hK := C.2.2.2.2.2.2.2
  refine ro_after (va_runV (As := []) (rest := r.map (cv G.2.1)) (g := F0 m pc la ((.inr (.inr (1000 + i)) :: r : List AV).map (cv G.2.1))) ⟨C.1, C.2.1, C.2.2.1, ho, hT⟩ (ro_length l G i hi) (cwV (C := "java/lang/String") 0 hT (good_TX (fun w hw => by
    rcases List.mem_append.mp hw with hw | hw
    · simp only [List.mem_cons, List.not_mem_nil, or_false] at hw
      rcases hw with rfl | rfl | rfl | rfl
      · exact sW_in _ (List.mem_of_getElem? (i := 26) rfl)
      · exact sW_in _ (List.mem_of_getElem? (i := 27) rfl)
      · exact sW_in _ (List.mem_of_getElem? (i := 28) rfl)
      · exact sW_in _ (List.mem_of_getElem? (i := 7) rfl)
    · exact good_TXc (sW_in _ (List.mem_of_getElem? (i := 24) rfl)) w hw)) rfl rfl rfl (by decide +kernel) ⟨by show 1 + 1 ≤ d; omega, by show 8 + (1 + 11) + 64 * 1 ≤ 64 * d; omega⟩) ⟨sPc.blind _ _, vk_recv hK.2.2.1.1 hi hS, fun U hU hW => ⟨rfl, hK.warm hS hU hW⟩⟩ rfl rfl hl.1 rfl (lv_room (by rw [cats_s]; exact hc8)) hd ⟨Nat.le_refl _, Nat.le_refl _⟩) ?_
  exact hc
theorem aw_schar {d M pc i : Nat} {a : Int} {ls : LV} {r : List AV} {σ : SG} {Q : Option AV → SG → Prop} (hk : ∀ t, MT[M]? = some t → decode t.2.1 pc = .ok (.invokevirtual 64, 3) ∧ cnm t.2.2.2.2 = "LentStairs$Tape")
    (hi : i < 7) (h0 : 0 ≤ a) (h1 : a < (sLen.getD i 0 : Nat)) (hd0 : 4 ≤ d) (hc8 : cats r ≤ 8) (h : AW d M (pc + 3) ls (.inl ((sInt.getD i []).getD a.toNat 0) :: r) σ Q) : AW d M pc ls (.inl a :: .inr (.inr (1000 + i)) :: r) σ Q := by
  intro l G t p e s m args below meth c H locs la ht hlen C hP hS hl
  obtain ⟨hd, hw⟩ := hk t ht
  have hT := C.2.2.2.2.1
  have hc := h l G t p e s m args below meth c H locs la ht hlen C hP hS hl
  have ho := own_ok ht C.2.2.2.1
  rw [hw] at ho
  have hK := C.2.2.2.2.2.2.2
  refine ro_after (va_runV (As := [.int (Int32.ofInt a)]) (rest := r.map (cv G.2.1)) (g := F0 m pc la ((.inl a :: .inr (.inr (1000 + i)) :: r : List AV).map (cv G.2.1))) ⟨C.1, C.2.1, C.2.2.1, ho, hT⟩ (ro_charAt l G i hi a h0 h1) (cwV (C := "java/lang/String") 1 hT (good_TX (fun w hw => by
    rcases List.mem_append.mp hw with hw | hw
    · simp only [List.mem_cons, List.not_mem_nil, or_false] at hw
      rcases hw with rfl | rfl | rfl | rfl
      · exact sW_in _ (List.mem_of_getElem? (i := 29) rfl)
      · exact sW_in _ (List.mem_of_getElem? (i := 30) rfl)
      · exact sW_in _ (List.mem_of_getElem? (i := 31) rfl)
      · exact sW_in _ (List.mem_of_getElem? (i := 7) rfl)
    · exact good_TXc (sW_in _ (List.mem_of_getElem? (i := 25) rfl)) w hw)) rfl rfl rfl (by decide +kernel) ⟨by show 3 + 1 ≤ d; omega, by show 8 + (2 + 11) + 64 * 3 ≤ 64 * d; omega⟩) ⟨sPc.blind _ _, vk_recv hK.2.2.1.1 hi hS, fun U hU hW => ⟨rfl, hK.warm hS hU hW⟩⟩ rfl rfl hl.1 rfl (lv_room (by rw [cats_s]; exact hc8)) hd ⟨Nat.le_refl _, Nat.le_refl _⟩) ?_
  exact hc
