/-! ===== Prices.cheapest: the loop over from ===== -/
def chI (P f : Int → Int) (s lo : Int) : Int → Int → Int := fun k v => if P s = -1 ∨ f (lo + k) = -1 then v else if v = -1 ∨ f (lo + k) + P s < v then f (lo + k) + P s else v
theorem up_put (σ : SG) (f : Int → Int) (s v x : Int) : up (putF σ 32 (upf f s v)) 32 s x = putF σ 32 (upf f s x) := by
  rw [putF_up]
  exact congrArg (putF σ 32) (upf_upf f s v x)
theorem chI_r {P f : Int → Int} {s lo : Int} (hlo : 0 ≤ lo) (hP : -1 ≤ P s ∧ P s ≤ 33554432) (hf : ∀ j, 0 ≤ j → j < s → -1 ≤ f j ∧ f j ≤ j * 33554432) {i : Int} (h0 : 0 ≤ i) (h1 : i ≤ s - lo) (hs : 0 ≤ s) : -1 ≤ foI (chI P f s lo) (-1) i ∧ foI (chI P f s lo) (-1) i ≤ s * 33554432 := by
  have key : ∀ n : Nat, (n : Int) ≤ s - lo → -1 ≤ foI (chI P f s lo) (-1) n ∧ foI (chI P f s lo) (-1) n ≤ s * 33554432 := by
    intro n
    induction n with
    | zero => intro _; exact ⟨Int.le_refl _, by show (-1 : Int) ≤ s * 33554432; omega⟩
    | succ n ih =>
      intro hn
      have ih := ih (by omega)
      have hj := hf (lo + n) (by omega) (by omega)
      rw [show ((n + 1 : Nat) : Int) = (n : Int) + 1 by omega, foI_s _ _ (by omega)]
      generalize foI (chI P f s lo) (-1) n = v at ih
      unfold chI
      split
      · exact ih
      · rename_i c
        have c1 : P s ≠ -1 := fun z => c (Or.inl z)
        have c2 : f (lo + n) ≠ -1 := fun z => c (Or.inr z)
        split
        · omega
        · exact ih
  have := key i.toNat (by omega)
  rwa [show ((i.toNat : Nat) : Int) = i by omega] at this
theorem cheap_in {d : Nat} {σ : SG} {Q : Option AV → SG → Prop} {ht lg s lo : Int} {f : Int → Int} (hs : 1 ≤ s ∧ s ≤ 14) (hlo : 0 ≤ lo ∧ lo ≤ s) (hP : -1 ≤ σ 31 s ∧ σ 31 s ≤ 33554432) (hf : ∀ j, 0 ≤ j → j < s → -1 ≤ f j ∧ f j ≤ j * 33554432) (hn : AW d mX2_cheapest 9 [some (.inr (.inr 30)), some (.inl ht), some (.inl lg), some (.inl (s + 1)), none, none] [] (putF σ 32 (upf f s (foI (chI (σ 31) f s lo) (-1) (s - lo)))) Q) : AW d mX2_cheapest 30 [some (.inr (.inr 30)), some (.inl ht), some (.inl lg), some (.inl s), some (.inl lo), none] [] (putF σ 32 (upf f s (-1))) Q := by
  have key := downInd (P := fun k => AW d mX2_cheapest 30 [some (.inr (.inr 30)), some (.inl ht), some (.inl lg), some (.inl s), some (.inl (lo + k)), none] [] (putF σ 32 (upf f s (foI (chI (σ 31) f s lo) (-1) k))) Q) (lo := 0) (hi := s - lo) (by omega) ?_ ?_
  · rw [show lo + 0 = lo by omega] at key
    exact key
  · exact cheapest_30 ⟨by omega, fun _ => hn, fun c => by omega⟩
  · intro k h0 h1 ih
    have hv := chI_r (P := σ 31) (f := f) hlo.1 hP hf h0 (by omega) (by omega)
    have hj := hf (lo + k) (by omega) (by omega)
    rw [foI_s _ _ h0, show lo + (k + 1) = lo + k + 1 by omega] at ih
    generalize foI (chI (σ 31) f s lo) (-1) k = v at ih hv
    have e31 : putF σ 32 (upf f s v) 31 = σ 31 := putF_ne (by decide)
    have e32 : putF σ 32 (upf f s v) 32 = upf f s v := putF_at _ _ _
    refine cheapest_30 ?_
    rw [e31, e32, upf_at, upf_ne (show lo + k ≠ s by omega), up_put]
    refine ⟨by omega, fun c => by omega, fun _ => ⟨by omega, by omega, fun c => ?_, fun c => ⟨by omega, by omega, fun c2 => ⟨by omega, by omega, by omega, by omega, fun c3 => ⟨by omega, ?_⟩, fun c3 => ⟨by omega, by omega, fun c4 => ?_, fun c4 => ⟨by omega, ?_⟩⟩⟩, fun c2 => ?_⟩⟩⟩
    · rwa [chI, if_pos (Or.inl c)] at ih
    · rwa [chI, if_neg (fun z => by rcases z with z | z; exact c z; exact c2 z), if_pos (Or.inl c3)] at ih
    · rwa [chI, if_neg (fun z => by rcases z with z | z; exact c z; exact c2 z), if_neg (fun z => by rcases z with z | z; exact c3 z; omega)] at ih
    · rwa [chI, if_neg (fun z => by rcases z with z | z; exact c z; exact c2 z), if_pos (Or.inr c4)] at ih
    · rwa [chI, if_pos (Or.inr c2)] at ih
