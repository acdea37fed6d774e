/-! ===== the reference's highest, in the class's words ===== -/
theorem mhigh_ok {d : Nat} {σ : SG} {Q : Option AV → SG → Prop} {t sd lg rp : Int} (h : higO d σ t sd lg rp ∧ ∀ f : Int → Int, Q (some (.inl (ropV sd (σ 63 (8 + 2 * t)) lg rp))) (putF σ 70 f)) : AW d mX9_highest 0 [some (.inr (.inr 42)), some (.inl t), some (.inl sd), some (.inl lg), some (.inl rp), none, none, none] [] σ Q := by
  obtain ⟨ho, hq⟩ := h
  have ho2 := ho
  obtain ⟨_, _, _, h3, _, _, _, h7, _, h9, _⟩ := ho2
  refine mhighest_ok ⟨ho, fun f => ?_⟩
  rw [hiV_rop (σ 70) h3 h9 h7]
  exact hq f
