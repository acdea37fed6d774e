/-! ===== the reference's spareSet and needSet ===== -/
theorem mhV_r3 (σ : SG) (t x : Int) : r3 (mhV σ t x) := by
  have := mhV_01 σ t x
  omega
/-- the steps of tower t on which one can stand, by the reference -/
abbrev mstV (σ : SG) (t : Int) : Int := bor (foI (hwB (σ 69) t 0) 0 (σ 63 (8 + 2 * t))) (foI (fsB (σ 69) t) 0 (σ 69 1))
def mspV (σ : SG) (t : Int) : Int := if mhV σ t (mstV σ t) = 0 then 0 else foI (spB σ t (mstV σ t) (band (foI (hwB (σ 69) t 0) 0 (σ 63 (8 + 2 * t))) (bxor (1 * 2 ^ Int.toNat (σ 63 (8 + 2 * t) - 1)) (-1))) (foI (fsB (σ 69) t) 0 (σ 69 1))) 0 (1 * 2 ^ Int.toNat (σ 63 (8 + 2 * t) - 1))
abbrev msO (d : Nat) (σ : SG) (t : Int) : Prop := 4 ≤ d ∧ MGR σ ∧ MLR (σ 69) ∧ 0 ≤ t ∧ t < 4 ∧ 3 ≤ σ 63 (8 + 2 * t) ∧ σ 63 (8 + 2 * t) ≤ 14 ∧ MSR (σ 69) t (σ 63 (8 + 2 * t))
theorem mspareSet_ok {d : Nat} {σ : SG} {Q : Option AV → SG → Prop} {t : Int} (h : msO d σ t ∧ ∀ f : Int → Int, Q (some (.inl (mspV σ t))) (putF σ 70 f)) : AW d mX9_spareSet 0 [some (.inr (.inr 42)), some (.inl t), none, none, none, none, none, none] [] σ Q := by
  obtain ⟨⟨hd, hG, hL, t0, t1, h3, h14, hS⟩, hq⟩ := h
  have hw := hwB_r (σ 69) t 0 h14
  have hf := fsB_r hL t
  have hst := bor_r hw hf
  have hp := pow_r (i := σ 63 (8 + 2 * t) - 1) (by omega) (by omega)
  refine mspareSet_0 ⟨by omega, by omega, ⟨by omega, t0, t1, by omega, by omega, h14, hS⟩, by omega, ⟨by omega, hL, by omega⟩, by omega, ⟨by omega, hG, t0, t1, by omega, h14, hst.1, hst.2⟩, fun f1 => ⟨mhV_r3 _ _ _, fun c => ⟨by omega, by omega, by omega, by omega, ⟨by omega, t0, t1, by omega, ?_, ?_, ?_⟩, by omega, ⟨by omega, ?_, by omega⟩, ?_⟩, fun c => ?_⟩⟩
  · rw [putF_ne (show (63 : Nat) ≠ 70 by decide)]
    omega
  · rw [putF_ne (show (63 : Nat) ≠ 70 by decide)]
    omega
  · rw [putF_ne (show (63 : Nat) ≠ 70 by decide), putF_ne (show (69 : Nat) ≠ 70 by decide)]
    exact hS
  · rw [putF_ne (show (69 : Nat) ≠ 70 by decide)]
    exact hL
  · rw [putF_ne (show (63 : Nat) ≠ 70 by decide), putF_ne (show (69 : Nat) ≠ 70 by decide)]
    refine mspare_loop (by omega) ⟨by omega, hG, t0, t1, by omega, h14, by decide, by decide⟩ hst hf ⟨hp.1, by omega⟩ (fun f => ?_) f1
    have hqf := hq f
    rwa [mspV, if_neg c] at hqf
  · have hqf := hq f1
    rwa [mspV, if_pos c] at hqf
/-- best and whether one was found -/
def neB (σ : SG) (t st : Int) : Int → Int × Int → Int × Int := fun s b => if band s st = 0 ∧ (b.2 = 0 ∨ popc s < popc b.1) ∧ mhV σ t (bor st s) ≠ 0 then (s, 1) else b
theorem neB_r {σ : SG} {t st b0 : Int} (hb : 0 ≤ b0 ∧ b0 < 16384) {i : Int} (h0 : 0 ≤ i) (h1 : i ≤ 16384) : (0 ≤ (foI (neB σ t st) (b0, 0) i).1 ∧ (foI (neB σ t st) (b0, 0) i).1 < 16384) ∧ ((foI (neB σ t st) (b0, 0) i).2 = 0 ∨ (foI (neB σ t st) (b0, 0) i).2 = 1) := by
  have key : ∀ n : Nat, n ≤ 16384 → (0 ≤ (foI (neB σ t st) (b0, 0) n).1 ∧ (foI (neB σ t st) (b0, 0) n).1 < 16384) ∧ ((foI (neB σ t st) (b0, 0) n).2 = 0 ∨ (foI (neB σ t st) (b0, 0) n).2 = 1) := by
    intro n
    induction n with
    | zero => intro _; exact ⟨hb, Or.inl rfl⟩
    | succ n ih =>
      intro hn
      have ih := ih (by omega)
      rw [show ((n + 1 : Nat) : Int) = (n : Int) + 1 by omega, foI_s _ _ (by omega)]
      generalize foI (neB σ t st) (b0, 0) n = x at ih
      unfold neB
      split
      · exact ⟨⟨by show 0 ≤ (n : Int); omega, by show (n : Int) < 16384; omega⟩, Or.inr rfl⟩
      · exact ih
  have := key i.toNat (by omega)
  rwa [show ((i.toNat : Nat) : Int) = i by omega] at this
theorem mneed_loop {d : Nat} {σ : SG} {Q : Option AV → SG → Prop} {t st al b0 : Int} (hd : 1 ≤ d) (hO : mhO (d - 1) σ t 0) (hst : 0 ≤ st ∧ st < 16384) (hb0 : 0 ≤ b0 ∧ b0 < 16384) (hal : 0 ≤ al ∧ al < 16384) (hq : ∀ f : Int → Int, Q (some (.inl (foI (neB σ t st) (b0, 0) (al + 1)).1)) (putF σ 70 f)) : ∀ f : Int → Int, AW d mX9_needSet 40 [some (.inr (.inr 42)), some (.inl t), some (.inl st), some (.inl al), some (.inl b0), some (.inl 0), some (.inl 0)] [] (putF σ 70 f) Q := by
  refine downInd (P := fun i => ∀ f : Int → Int, AW d mX9_needSet 40 [some (.inr (.inr 42)), some (.inl t), some (.inl st), some (.inl al), some (.inl (foI (neB σ t st) (b0, 0) i).1), some (.inl (foI (neB σ t st) (b0, 0) i).2), some (.inl i)] [] (putF σ 70 f) Q) (lo := 0) (hi := al + 1) (by omega) ?_ ?_
  · intro f
    exact mneedSet_40 ⟨by omega, fun _ => hq f, fun c => by omega⟩
  · intro i h0 h1 ih f
    have hb := neB_r (σ := σ) (t := t) (st := st) hb0 h0 (by omega)
    have h01 := mhV_01 σ t (bor st i)
    rw [foI_s _ _ h0] at ih
    generalize foI (neB σ t st) (b0, 0) i = x at ih hb
    have hor := bor_r (x := st) (y := i) hst ⟨h0, by omega⟩
    refine mneedSet_40 ?_
    rw [mhV_p]
    refine ⟨by omega, fun c => by omega, fun _ => ⟨band_r3 h0 (by omega), fun c => ?_, fun c => ⟨by omega, fun c2 => ⟨hd, mhO_p hO hor, fun f3 => ⟨by omega, fun c3 => ?_, fun c3 => ?_⟩⟩, fun c2 => ⟨hd, ⟨h0, by omega⟩, hd, hb.1, ⟨popc_r3 _, popc_r3 _⟩, fun c3 => ?_, fun c3 => ⟨hd, mhO_p hO hor, fun f3 => ⟨by omega, fun c4 => ?_, fun c4 => ?_⟩⟩⟩⟩⟩⟩
    · have ihf := ih f
      rwa [neB, if_neg (fun z => c z.1)] at ihf
    · have ihf := ih f3
      rw [putF_putF]
      rwa [neB, if_pos ⟨c, Or.inl c2, c3⟩] at ihf
    · have ihf := ih f3
      rw [putF_putF]
      rwa [neB, if_neg (fun z => z.2.2 c3)] at ihf
    · have ihf := ih f
      rwa [neB, if_neg (fun z => by rcases z.2.1 with z | z; exact c2 z; omega)] at ihf
    · have ihf := ih f3
      rw [putF_putF]
      rwa [neB, if_pos ⟨c, Or.inr c3, c4⟩] at ihf
    · have ihf := ih f3
      rw [putF_putF]
      rwa [neB, if_neg (fun z => z.2.2 c4)] at ihf
def mneV (σ : SG) (t : Int) : Int := if mhV σ t (mstV σ t) = 0 then (foI (neB σ t (mstV σ t)) (band (1 * 2 ^ Int.toNat (σ 63 (8 + 2 * t)) - 1) (bxor (mstV σ t) (-1)), 0) (1 * 2 ^ Int.toNat (σ 63 (8 + 2 * t)) - 1 + 1)).1 else 0
theorem pow_r2 {i : Int} (h0 : 0 ≤ i) (h1 : i ≤ 14) : 1 ≤ (1 : Int) * 2 ^ i.toNat ∧ (1 : Int) * 2 ^ i.toNat ≤ 16384 := by
  have h2 : i.toNat < 15 := by omega
  generalize i.toNat = n at h2
  have key : ∀ n : Fin 15, 1 ≤ (1 : Int) * 2 ^ n.val ∧ (1 : Int) * 2 ^ n.val ≤ 16384 := by decide
  exact key ⟨n, h2⟩
theorem mneedSet_ok {d : Nat} {σ : SG} {Q : Option AV → SG → Prop} {t : Int} (h : msO d σ t ∧ ∀ f : Int → Int, Q (some (.inl (mneV σ t))) (putF σ 70 f)) : AW d mX9_needSet 0 [some (.inr (.inr 42)), some (.inl t), none, none, none, none, none] [] σ Q := by
  obtain ⟨⟨hd, hG, hL, t0, t1, h3, h14, hS⟩, hq⟩ := h
  have hw := hwB_r (σ 69) t 0 h14
  have hf := fsB_r hL t
  have hst := bor_r hw hf
  have hp := pow_r2 (i := σ 63 (8 + 2 * t)) (by omega) (by omega)
  refine mneedSet_0 ⟨by omega, by omega, ⟨by omega, t0, t1, by omega, by omega, h14, hS⟩, by omega, ⟨by omega, hL, by omega⟩, by omega, ⟨by omega, hG, t0, t1, by omega, h14, hst.1, hst.2⟩, fun f1 => ⟨mhV_r3 _ _ _, fun c => ⟨by omega, by omega, by omega, ?_⟩, fun c => ?_⟩⟩
  · refine mneed_loop (by omega) ⟨by omega, hG, t0, t1, by omega, h14, by decide, by decide⟩ hst (band_r ⟨by omega, by omega⟩) ⟨by omega, by omega⟩ (fun f => ?_) f1
    have hqf := hq f
    rwa [mneV, if_pos c] at hqf
  · have hqf := hq f1
    rwa [mneV, if_neg c] at hqf
