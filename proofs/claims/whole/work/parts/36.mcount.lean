/-! ===== the reference's countOf ===== -/
def coK (g : Int → Int) (w : Int) : Int → Int → Int := fun k n => if g (62 + 8 * k + 7) = 0 ∧ (w = 3 ∨ w = 8 ∧ g (62 + 8 * k + 6) = 0) then n + 1 else n
theorem mcount_55 {d : Nat} {σ : SG} {Q : Option AV → SG → Prop} {w n0 : Int} (hd : 2 ≤ d) (hL : MLR (σ 69)) (hw : r3 w) (hq : Q (some (.inl (foI (coK (σ 69) w) n0 (σ 69 1)))) σ) : AW d mX9_countOf 55 [some (.inr (.inr 42)), some (.inl w), some (.inl n0), some (.inl 0)] [] σ Q := by
  refine downInd (P := fun i => AW d mX9_countOf 55 [some (.inr (.inr 42)), some (.inl w), some (.inl (foI (coK (σ 69) w) n0 i)), some (.inl i)] [] σ Q) (lo := 0) (hi := σ 69 1) hL.1.1 ?_ ?_
  · have := hL.1
    exact mcountOf_55 ⟨by omega, by omega, fun _ => hq, fun c => by omega⟩
  · intro i h0 h1 ih
    have hc := hL.1
    have hi := hL.2 i h0 h1
    rw [foI_s _ _ h0] at ih
    refine mcountOf_55 ⟨by omega, by omega, fun c => by omega, fun _ => ⟨by omega, by omega, by omega, by omega, fun c => ?_, fun c => ⟨hw, fun c2 => ?_, fun c2 => ⟨hw, fun c3 => ?_, fun c3 => ⟨by omega, by omega, by omega, fun c4 => ?_, fun c4 => ?_⟩⟩⟩⟩⟩
    · rwa [coK, if_neg (fun z => c z.1)] at ih
    · rwa [coK, if_pos ⟨c, Or.inl c2⟩] at ih
    · rwa [coK, if_neg (fun z => by rcases z.2 with z | z; exact c2 z; exact c3 z.1)] at ih
    · rwa [coK, if_neg (fun z => by rcases z.2 with z | z; exact c2 z; exact c4 z.2)] at ih
    · rwa [coK, if_pos ⟨c, Or.inr ⟨c3, c4⟩⟩] at ih
def coA (σ : SG) (w : Int) : Int → Int → Int := fun t n => if w = 6 then (if mhV σ t (mstV σ t) = 0 then n else n + 1) else if w = 7 then n + popc (foI (hwB (σ 69) t 3) 0 (σ 63 (8 + 2 * t))) else n
abbrev coO (d : Nat) (σ : SG) (w : Int) : Prop := 6 ≤ d ∧ MGR σ ∧ MLR (σ 69) ∧ 0 ≤ σ 61 4 ∧ σ 61 4 ≤ 4 ∧ r3 w ∧ ∀ t, 0 ≤ t → t < σ 61 4 → 3 ≤ σ 63 (8 + 2 * t) ∧ σ 63 (8 + 2 * t) ≤ 14 ∧ MSR (σ 69) t (σ 63 (8 + 2 * t))
theorem mcountOf_ok {d : Nat} {σ : SG} {Q : Option AV → SG → Prop} {w : Int} (h : coO d σ w ∧ ∀ f : Int → Int, Q (some (.inl (foI (coK (σ 69) w) (foI (coA σ w) 0 (σ 61 4)) (σ 69 1)))) (putF σ 70 f)) : AW d mX9_countOf 0 [some (.inr (.inr 42)), some (.inl w), none, none] [] σ Q := by
  obtain ⟨⟨hd, hG, hL, m0, m4, hw, hT⟩, hq⟩ := h
  refine mcountOf_0 ?_
  have key := downInd (P := fun i => ∀ f : Int → Int, AW d mX9_countOf 4 [some (.inr (.inr 42)), some (.inl w), some (.inl (foI (coA σ w) 0 i)), some (.inl i)] [] (putF σ 70 f) Q) (lo := 0) (hi := σ 61 4) m0 ?_ ?_ (σ 70)
  · rwa [putF_self] at key
  · intro f
    have e61 : putF σ 70 f 61 = σ 61 := putF_ne (by decide)
    have e69 : putF σ 70 f 69 = σ 69 := putF_ne (by decide)
    refine mcountOf_4 ?_
    rw [e61]
    refine ⟨by omega, by omega, fun _ => mcount_55 (by omega) (by rw [e69]; exact hL) hw (by rw [e69]; exact hq f), fun c => by omega⟩
  · intro i h0 h1 ih f
    have e61 : putF σ 70 f 61 = σ 61 := putF_ne (by decide)
    have e63 : putF σ 70 f 63 = σ 63 := putF_ne (by decide)
    have e69 : putF σ 70 f 69 = σ 69 := putF_ne (by decide)
    obtain ⟨g3, g14, gS⟩ := hT i h0 h1
    have hwr := hwB_r (σ 69) i 3 g14
    have hst := bor_r (hwB_r (σ 69) i 0 g14) (fsB_r hL i)
    rw [foI_s _ _ h0] at ih
    have hmw : ∀ d v, 1 ≤ d → r3 v → mhwO d (putF σ 70 f) i v := by
      intro d v hd hv
      refine ⟨hd, h0, by omega, hv, ?_, ?_, ?_⟩
      · rw [e63]
        omega
      · rw [e63]
        omega
      · rw [e63, e69]
        exact gS
    refine mcountOf_4 ?_
    rw [e61, e63, e69, mhV_p]
    refine ⟨by omega, by omega, fun c => by omega, fun _ => ⟨hw, fun c => ⟨hw, fun c2 => ?_, fun c2 => ⟨by omega, hmw _ _ (by omega) (by decide), by omega, hwr, ?_⟩⟩, fun c => ⟨by omega, by omega, by omega, hmw _ _ (by omega) (by decide), by omega, ⟨by omega, hL, by omega⟩, by omega, mhO_p (x := 0) ⟨by omega, hG, h0, by omega, by omega, g14, by decide, by decide⟩ hst, fun f1 => ⟨mhV_01 _ _ _, mhV_r3 _ _ _, fun c2 => ⟨hw, fun c3 => ?_, fun c3 => by omega⟩, fun c2 => ⟨hw, fun c3 => ?_, fun c3 => by omega⟩⟩⟩⟩⟩
    · have ihf := ih f
      rwa [coA, if_neg c, if_neg c2] at ihf
    · have ihf := ih f
      rwa [coA, if_neg c, if_pos c2] at ihf
    · have ihf := ih f1
      rw [putF_putF]
      rwa [coA, if_pos c, if_pos c2] at ihf
    · have ihf := ih f1
      rw [putF_putF]
      rwa [coA, if_pos c, if_neg c2] at ihf
