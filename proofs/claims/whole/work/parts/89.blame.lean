/-! ===== isBlamed of the reference, walked (by hand) ===== -/
def lamF (f : Int → Int) (t : Int) : Int → Int := fun s => fstI (llB f t s) (f 1)
theorem lamF_st {f : Int → Int} {t s : Int} (h : lamF f t s ≠ -1) : (0 ≤ lamF f t s ∧ lamF f t s < f 1) ∧ f (22 + lamF f t s * 8 + 7) ≠ 1 ∧ f (22 + lamF f t s * 8 + 0) = t ∧ f (22 + lamF f t s * 8 + 1) = s := by
  rcases fstI_r (llB f t s) (f 1) with c | ⟨a, b, c⟩
  · exact absurd c h
  · obtain ⟨c1, c2, c3⟩ := of_decide_eq_true c
    exact ⟨⟨a, b⟩, c1, c2, c3⟩
theorem lamF_LI {f : Int → Int} {t : Int} (hL : LR f) : LI (lamF f t) := by
  constructor
  · intro s
    by_cases c : lamF f t s = -1
    · exact Or.inl c
    · have := (lamF_st c).1
      have := hL.1
      omega
  · intro s s' e c
    have h1 := lamF_st c
    have h2 := lamF_st (f := f) (t := t) (s := s') (by rw [← e]; exact c)
    rw [← e] at h2
    omega
theorem lamF_of {tw : Int} {H : Int → Int} {B D : Int} {f g : Int → Int} (h : RS tw H B D f g) {t s k : Int} (k0 : 0 ≤ k) (k1 : k < f 1) (h7 : f (22 + k * 8 + 7) = 0) (h0 : f (22 + k * 8 + 0) = t) (h1 : f (22 + k * 8 + 1) = s) : lamF f t s = k := by
  have hp : llB f t s k = true := decide_eq_true ⟨by omega, h0, h1⟩
  have hn : lamF f t s ≠ -1 := fun c => by
    have := fstI_none c k0 k1
    rw [hp] at this
    cases this
  obtain ⟨a1, a2, a3, a4⟩ := lamF_st hn
  obtain ⟨_, _, _, _, _, hl, hd⟩ := h
  have b7 := (hl _ a1.1 a1.2).2.2.2.2.2.2.2
  have a7 : f (22 + lamF f t s * 8 + 7) = 0 := by
    rcases b7 with b | b
    · exact b.1
    · exact absurd b.1 a2
  by_cases c : lamF f t s < k
  · exact absurd ⟨by omega, by omega⟩ (hd _ _ a1.1 c k1 a7 h7).1
  · by_cases c2 : k < lamF f t s
    · exact absurd ⟨by omega, by omega⟩ (hd _ _ k0 c2 a1.2 h7 a7).1
    · omega
/-- an open loan of tower t -/
def OOk (g : Int → Int) (t k : Int) : Prop := (0 ≤ k ∧ k < g 1) ∧ g (62 + 8 * k + 7) = 0 ∧ g (62 + 8 * k + 0) = t
def OWF (g : Int → Int) (t : Int) (ow : Int → Int) (m n : Int) : Prop := OWN ow m n ∧ (∀ j, 0 ≤ j → j < m → OOk g t (ow j)) ∧ ∀ k, 0 ≤ k → k < n → OOk g t k → ∃ j, (0 ≤ j ∧ j < m) ∧ ow j = k
/-- the sets of owed loans that let a guard up -/
def RRp (g : Int → Int) (t : Int) (A : Int → Bool) (lam : Int → Int) (lg ht : Int) (M : Nat) : Prop := (∀ k : Nat, M.testBit k = true → OOk g t k) ∧ clm (SMt A lam M) lg 0 ht.toNat = ht
theorem OWF.n {g : Int → Int} {t : Int} {ow : Int → Int} {m n : Int} (h : OWF g t ow m n) : (∀ a b : Nat, a < b → b < m.toNat → ow a < ow b) ∧ (∀ a : Nat, a < m.toNat → 0 ≤ ow a) := by
  obtain ⟨⟨h1, h2, h3⟩, _⟩ := h
  exact ⟨fun a b x y => h3 a b (by omega) (by omega) (by omega), fun a x => (h2 a (by omega) (by omega)).1⟩
theorem stB_r {g ow : Int → Int} {t m n s : Int} (h : OWF g t ow m n) (hM : MLR g) (hn : n = g 1) : 0 ≤ stB g ow m s ∧ stB g ow m s < 16384 := by
  have := orF_r (F := fun k x => if tb s k.toNat = true then bor x (1 * 2 ^ Int.toNat (g (62 + 8 * ow k + 1) - 1)) else x) (p := fun k => tb s k.toNat) (v := fun k => 1 * 2 ^ Int.toNat (g (62 + 8 * ow k + 1) - 1)) (x0 := 0) (by omega) m.toNat (fun _ _ _ _ => rfl) (fun a a0 a1 _ => by
    have h2 := h.1.2.1 a a0 (by omega)
    have := hM.2 (ow a) h2.1 (by omega)
    exact pow_r (by omega) (by omega))
  rwa [show ((m.toNat : Nat) : Int) = m by have := h.1.1; omega] at this
theorem rch {tw : Int} {H : Int → Int} {B D : Int} {f g : Int → Int} (hR : RS tw H B D f g) (hL : LR f) (hM : MLR g) {t ht lg st m i : Int} {ow : Int → Int} (hO : OWF g t ow m (g 1)) (hi : 0 ≤ i ∧ i < 16777216) (h0 : 0 ≤ ht) (h14 : ht ≤ 14) (hlg : 0 ≤ lg) : ropV (bor st (stB g ow m i)) ht lg 0 = clm (SMt (sdS st) (lamF f t) (lbN ow m.toNat i.toNat)) lg 0 ht.toNat := by
  rw [ropV_0 h0 hlg]
  unfold climbV
  rw [show (ht - 0).toNat = ht.toNat by omega]
  apply clm_cong
  intro s s1 s2
  have hn := hO.n
  have hm0 := hO.1.1.1
  have hst := orF_tb (F := fun k x => if tb i k.toNat = true then bor x (1 * 2 ^ Int.toNat (g (62 + 8 * ow k + 1) - 1)) else x) (p := fun k => tb i k.toNat) (v := fun k => 1 * 2 ^ Int.toNat (g (62 + 8 * ow k + 1) - 1)) (x0 := 0) m.toNat (fun _ _ _ _ => rfl) (s - 1).toNat
  rw [show ((m.toNat : Nat) : Int) = m by omega, tb_zero] at hst
  have hlb := lbN_tb (ow := ow) i.toNat m.toNat hn.1 hn.2 (lamF f t s).toNat
  have hti : ∀ a : Nat, tb i a = i.toNat.testBit a := fun a => by
    unfold tb
    rw [un_of hi.1 (by omega)]
  unfold SMt
  show tb (bor st (stB g ow m i)) (s - 1).toNat = (tb st (s - 1).toNat || _)
  rw [tb_bor]
  congr 1
  apply Bool.eq_iff_iff.mpr
  rw [Bool.and_eq_true, hlb]
  unfold stB
  rw [hst]
  have hRS := hR
  obtain ⟨_, hc1, _, _, _, hl, _⟩ := hR
  clear hst hlb
  constructor
  · intro z
    rcases z with z | ⟨a, a0, a1, a2⟩
    · cases z
    · have a2' : tb (1 * 2 ^ Int.toNat (g (62 + 8 * ow a + 1) - 1)) (s - 1).toNat = true := a2
      obtain ⟨o1, o2, o3⟩ := hO.2.1 a a0.1 a0.2
      have hg := hM.2 (ow a) o1.1 o1.2
      rw [tb_pow (by omega)] at a2'
      have es := of_decide_eq_true a2'
      have e := (hl (ow a) o1.1 (by omega)).1
      rw [e 7 (by decide) (by decide)] at o2
      rw [e 0 (by decide) (by decide)] at o3
      rw [e 1 (by decide) (by decide)] at hg es
      have hlam := lamF_of hRS (s := s) o1.1 (by omega) o2 o3 (by omega)
      refine ⟨decide_eq_true (by omega), a.toNat, by omega, by rw [← hti]; exact a1, ?_⟩
      rw [show ((a.toNat : Nat) : Int) = a by omega, hlam]
  · intro ⟨z, a, a1, a2, a3⟩
    have hz := of_decide_eq_true z
    obtain ⟨b1, b2, b3, b4⟩ := lamF_st hz
    have ha := hn.2 a a1
    have ea : ow a = lamF f t s := by omega
    right
    refine ⟨a, by omega, by rw [show ((a : Int)).toNat = a by omega, hti]; exact a2, ?_⟩
    show tb (1 * 2 ^ Int.toNat (g (62 + 8 * ow a + 1) - 1)) (s - 1).toNat = true
    rw [ea, (hl _ b1.1 b1.2).1 1 (by decide) (by decide), b4, tb_pow (by omega)]
    exact decide_eq_true rfl
theorem cntP_le (P : Nat → Prop) : ∀ n : Nat, cntP P n ≤ n := by
  intro n
  induction n with
  | zero => exact Nat.le_refl _
  | succ n ih =>
    by_cases c : P n
    · rw [cntP_y c]
      omega
    · rw [cntP_n c]
      omega
/-- what the reference knows of the sets seen so far -/
def RIs (P : Nat → Prop) (many bits sets : Int) : Prop := (sets = 0 ∧ ∀ M, ¬ P M) ∨ (0 < sets ∧ ∃ n x : Nat, (many = n ∧ bits = x) ∧ (P x ∧ pcM x = n) ∧ (∀ M, P M → n ≤ pcM M) ∧ (∀ M, P M → pcM M = n → x ≤ M) ∧ sets = ((cntP (fun M => P M ∧ pcM M = n) 16777216 : Nat) : Int))
theorem RIs.r {P : Nat → Prop} {many bits sets : Int} (h : RIs P many bits sets) : (0 ≤ sets ∧ sets ≤ 16777216) ∧ (0 < sets → 0 ≤ many ∧ many ≤ 24) := by
  rcases h with ⟨h, _⟩ | ⟨h, n, x, h1, ⟨_, h2⟩, _, _, h3⟩
  · omega
  · have := cntP_le (fun M => P M ∧ pcM M = n) 16777216
    have := pcN_le 24 x
    unfold pcM at h2
    exact ⟨by omega, fun _ => by omega⟩
theorem RIs.cong {P R : Nat → Prop} {many bits sets : Int} (h : RIs P many bits sets) (e : ∀ M, P M ↔ R M) : RIs R many bits sets := by
  have : P = R := funext fun M => propext (e M)
  rw [← this]
  exact h
theorem RIs.skip {P : Nat → Prop} {many bits sets : Int} {y : Nat} (h : RIs P many bits sets) (hs : 0 < sets) (hm : many < pcM y) : RIs (fun M => P M ∨ M = y) many bits sets := by
  rcases h with ⟨h, _⟩ | ⟨h, n, x, h1, h2, h3, h4, h5⟩
  · omega
  · refine Or.inr ⟨h, n, x, h1, ⟨Or.inl h2.1, h2.2⟩, fun M z => ?_, fun M z e => ?_, ?_⟩
    · rcases z with z | z
      · exact h3 M z
      · subst z
        omega
    · rcases z with z | z
      · exact h4 M z e
      · subst z
        omega
    · rw [h5]
      refine congrArg Nat.cast (cntP_congr ?_)
      intro i _
      constructor
      · intro z
        exact ⟨Or.inl z.1, z.2⟩
      · intro ⟨z, e⟩
        rcases z with z | z
        · exact ⟨z, e⟩
        · subst z
          omega
theorem RIs.new {P : Nat → Prop} {many bits sets : Int} {y : Nat} (h : RIs P many bits sets) (hy : y < 16777216) (hm : sets = 0 ∨ ((pcM y : Nat) : Int) < many) : RIs (fun M => P M ∨ M = y) ((pcM y : Nat) : Int) (y : Int) 1 := by
  have hgt : ∀ M, P M → pcM y < pcM M := fun M z => by
    rcases h with ⟨_, h⟩ | ⟨h, n, x, h1, h2, h3, _⟩
    · exact absurd z (h M)
    · have := h3 M z
      omega
  refine Or.inr ⟨by decide, pcM y, y, ⟨rfl, rfl⟩, ⟨Or.inr rfl, rfl⟩, fun M z => ?_, fun M z e => ?_, ?_⟩
  · rcases z with z | z
    · have := hgt M z
      omega
    · subst z
      exact Nat.le_refl _
  · rcases z with z | z
    · have := hgt M z
      omega
    · omega
  · have : cntP (fun M => (P M ∨ M = y) ∧ pcM M = pcM y) 16777216 = 1 := by
      rw [cntP_congr (Q := fun M => M = y) (fun i _ => ⟨fun z => by
        rcases z.1 with c | c
        · have := hgt i c
          have := z.2
          omega
        · exact c, fun z => ⟨Or.inr z, by rw [z]⟩⟩), cntP_eq, if_pos hy]
    rw [this]
    rfl
theorem RIs.more {P : Nat → Prop} {many bits sets : Int} {y : Nat} (h : RIs P many bits sets) (hs : 0 < sets) (hy : y < 16777216) (hlt : ∀ M, P M → M < y) (hm : many = ((pcM y : Nat) : Int)) : RIs (fun M => P M ∨ M = y) many bits (sets + 1) := by
  rcases h with ⟨h, _⟩ | ⟨h, n, x, h1, h2, h3, h4, h5⟩
  · omega
  · refine Or.inr ⟨by omega, n, x, h1, ⟨Or.inl h2.1, h2.2⟩, fun M z => ?_, fun M z e => ?_, ?_⟩
    · rcases z with z | z
      · exact h3 M z
      · subst z
        omega
    · rcases z with z | z
      · exact h4 M z e
      · subst z
        have := hlt x h2.1
        omega
    · have e1 : cntP (fun M => (P M ∨ M = y) ∧ pcM M = n) 16777216 = cntP (fun M => P M ∧ pcM M = n) 16777216 + cntP (fun M => M = y) 16777216 := by
        rw [← cntP_or (P := fun M => P M ∧ pcM M = n) (Q := fun M => M = y) (fun i a b => by
          have := hlt i a.1
          omega)]
        apply cntP_congr
        intro i _
        constructor
        · intro ⟨z, e⟩
          rcases z with z | z
          · exact Or.inl ⟨z, e⟩
          · exact Or.inr z
        · intro z
          rcases z with z | z
          · exact ⟨Or.inl z.1, z.2⟩
          · refine ⟨Or.inr z, ?_⟩
            rw [z]
            omega
      rw [e1, h5, cntP_eq, if_pos hy]
      omega
/-- the cells that isBlamed writes -/
def BFR (σ τ : SG) : Prop := (∀ p, p ≠ 42 → p ≠ 70 → p ≠ 75 → τ p = σ p) ∧ ∀ i, i ≠ 46 → i ≠ 47 → i ≠ 48 → i ≠ 49 → τ 42 i = σ 42 i
theorem BFR.up {σ τ : SG} (h : BFR σ τ) {i v : Int} (hi : i = 46 ∨ i = 47 ∨ i = 48 ∨ i = 49) : BFR σ (up τ 42 i v) := by
  refine ⟨fun p a b c => by rw [up_putF, putF_ne a]; exact h.1 p a b c, fun j a b c e => ?_⟩
  rw [up_putF, putF_at, if_neg (by omega)]
  exact h.2 j a b c e
theorem BFR.p70 {σ τ : SG} (h : BFR σ τ) (f : Int → Int) : BFR σ (putF τ 70 f) := by
  refine ⟨fun p a b c => by rw [putF_ne b]; exact h.1 p a b c, fun j a b c e => ?_⟩
  rw [putF_ne (by decide)]
  exact h.2 j a b c e
theorem BFR.sim {n : Int} {σ τ : SG} {r q : Nat} (h : SIM n σ r q) (hF : BFR σ τ) : SIM n τ r q := by
  obtain ⟨hr, _⟩ := h.rr
  refine h.eqv ⟨fun p hp => hF.1 p ?_ ?_ ?_, ?_, ⟨hF.2 1 (by decide) (by decide) (by decide) (by decide), hF.2 7 (by decide) (by decide) (by decide) (by decide), hF.2 8 (by decide) (by decide) (by decide) (by decide), hF.2 40 (by decide) (by decide) (by decide) (by decide), hF.2 41 (by decide) (by decide) (by decide) (by decide), hF.2 81 (by decide) (by decide) (by decide) (by decide)⟩, ?_, ?_, ?_, ?_, ?_, ?_⟩
  · unfold EP at hp
    omega
  · unfold EP at hp
    omega
  · unfold EP at hp
    omega
  · rw [hF.1 2 (by decide) (by decide) (by decide)]
    exact ⟨rfl, rfl, rfl⟩
  · intro i _
    rw [hF.1 61 (by decide) (by decide) (by decide)]
  · intro i _
    rw [hF.1 62 (by decide) (by decide) (by decide)]
  · intro i _
    rw [hF.1 63 (by decide) (by decide) (by decide)]
  · intro i _
    rw [hF.1 64 (by decide) (by decide) (by decide)]
  · intro i _
    rw [hF.1 65 (by decide) (by decide) (by decide)]
  · rw [hF.1 68 (by decide) (by decide) (by decide)]
theorem isBlamed_ok {d : Nat} {n : Int} {σ : SG} {r q : Nat} {t lg : Int} {Q : Option AV → SG → Prop} (h : SIM n σ r q) (t0 : 0 ≤ t) (t1 : t < σ r 0) (hlg : 1 ≤ lg ∧ lg ≤ 6) (hd : 10 ≤ d)
    (hq0 : ∀ τ, BFR σ τ → (∀ M, ¬ RRp (σ 69) t (sdS (mstV σ t)) (lamF (σ 35) t) lg (σ 63 (8 + 2 * t)) M) → Q (some (.inl 0)) τ)
    (hq1 : ∀ τ, BFR σ τ → RIs (RRp (σ 69) t (sdS (mstV σ t)) (lamF (σ 35) t) lg (σ 63 (8 + 2 * t))) (τ 42 48) (τ 42 47) (τ 42 49) → 0 < τ 42 49 → Q (some (.inl 1)) τ) : AW d mX9_isBlamed 0 [some (.inr (.inr 42)), some (.inl t), some (.inl lg), none, none, none] [] σ Q := by
  obtain ⟨hr, _, hx, _⟩ := h.rr
  obtain ⟨hLR, hSR, hML, hMG, hRL, hN, hW⟩ := h.lr
  obtain ⟨⟨hh1, hh2, t4⟩, h63, h63c, hMS, em, hrr⟩ := h.tw t0 t1
  have hRS := h.2.2.2.2.2.1
  generalize hht : σ 63 (8 + 2 * t) = ht at *
  generalize hst : mstV σ t = st at *
  -- the walk over the sets
  have walk : ∀ (ow : Int → Int) (m : Int), OWF (σ 69) t ow m (σ 69 1) → ∀ τ : SG, BFR σ τ → τ 75 = ow → τ 42 46 = m → τ 42 49 = 0 → AW d mX9_isBlamed 73 [some (.inr (.inr 42)), some (.inl t), some (.inl lg), some (.inl st), some (.inl 0), none] [] τ Q := by
    intro ow m hO
    have hm := hO.1.1
    have hn := hO.n
    have hpow : (1 : Int) * 2 ^ m.toNat = ((2 ^ m.toNat : Nat) : Int) := by push_cast; omega
    have h24 : 2 ^ m.toNat ≤ 2 ^ 24 := Nat.pow_le_pow_right (by decide) (by omega)
    have hpos := Nat.two_pow_pos m.toNat
    have how : ∀ a : Nat, a < m.toNat → 0 ≤ ow a ∧ ow a < 24 := fun a x => by
      have := hO.1.2.1 a (by omega) (by omega)
      omega
    have hlt : ∀ i, lbN ow m.toNat i < 16777216 := fun i => lbN_lt (ow := ow) i m.toNat 24 hn.1 (fun a x => how a x)
    generalize hok : (fun i : Nat => clm (SMt (sdS st) (lamF (σ 35) t) (lbN ow m.toNat i)) lg 0 ht.toNat = ht) = ok
    have hRR : ∀ M, (∃ i : Nat, i < 2 ^ m.toNat ∧ M = lbN ow m.toNat i ∧ ok i) ↔ RRp (σ 69) t (sdS st) (lamF (σ 35) t) lg ht M := by
      intro M
      constructor
      · intro ⟨i, i1, i2, i3⟩
        refine ⟨fun k hk => ?_, ?_⟩
        · rw [i2] at hk
          obtain ⟨a, a1, _, a3⟩ := (lbN_tb i m.toNat hn.1 hn.2 k).mp hk
          have := how a a1
          have := hO.2.1 a (by omega) (by omega)
          rwa [show ow a = (k : Int) by omega] at this
        · rw [← hok] at i3
          rw [i2]
          exact i3
      · intro ⟨z1, z2⟩
        obtain ⟨i, i1, i2⟩ := lbN_surj m.toNat M hn.1 hn.2 (fun k hk => by
          obtain ⟨a, a1, a2⟩ := hO.2.2 k (by omega) (z1 k hk).1.2 (z1 k hk)
          refine ⟨a.toNat, by omega, ?_⟩
          rw [show ((a.toNat : Nat) : Int) = a by omega]
          omega)
        refine ⟨i, i1, i2.symm, ?_⟩
        rw [← hok]
        show clm (SMt (sdS st) (lamF (σ 35) t) (lbN ow m.toNat i)) lg 0 ht.toNat = ht
        rw [i2]
        exact z2
    have loop := downInd (P := fun i => ∀ τ : SG, BFR σ τ → τ 75 = ow → τ 42 46 = m → RIs (fun M => ∃ i' : Nat, (i' : Int) < i ∧ M = lbN ow m.toNat i' ∧ ok i') (τ 42 48) (τ 42 47) (τ 42 49) → AW d mX9_isBlamed 73 [some (.inr (.inr 42)), some (.inl t), some (.inl lg), some (.inl st), some (.inl i), none] [] τ Q) (lo := 0) (hi := 1 * 2 ^ m.toNat) (by omega) ?_ ?_
    · intro τ hF h75 h46 h49
      exact loop τ hF h75 h46 (Or.inl ⟨h49, fun M ⟨i', z, _⟩ => by omega⟩)
    · intro τ hF h75 h46 hI
      have hI' := hI.cong (R := RRp (σ 69) t (sdS st) (lamF (σ 35) t) lg ht) (fun M => by
        rw [← hRR M]
        exact ⟨fun ⟨i', z, y⟩ => ⟨i', by omega, y⟩, fun ⟨i', z, y⟩ => ⟨i', by omega, y⟩⟩)
      have hIr := hI.r
      refine mib_73 ?_
      rw [h46]
      refine ⟨by omega, by omega, fun _ => ⟨by omega, fun c => hq0 τ hF ?_, fun c => hq1 τ hF hI' c⟩, fun c => by omega⟩
      rcases hI' with z | z
      · exact z.2
      · omega
    · intro i i0 i1 ih τ hF h75 h46 hI
      obtain ⟨k, rfl⟩ : ∃ k : Nat, i = (k : Int) := ⟨i.toNat, by omega⟩
      have hIr := hI.r
      have e63 : τ 63 (8 + 2 * t) = ht := by rw [hF.1 63 (by decide) (by decide) (by decide)]; exact hht
      have e69 : τ 69 = σ 69 := hF.1 69 (by decide) (by decide) (by decide)
      have hsr := stB_r (s := (k : Int)) hO hML rfl
      have hbr := bor_r hrr hsr
      have hrc := rch hRS hLR hML (t := t) (ht := ht) (lg := lg) (st := st) (i := (k : Int)) hO ⟨by omega, by omega⟩ (by omega) (by omega) (by omega)
      rw [show ((k : Int)).toNat = k by omega] at hrc
      have hokk : ok k ↔ ropV (bor st (stB (σ 69) ow m k)) ht lg 0 = ht := by
        rw [hrc, ← hok]
      have hpc := lbN_popc (ow := ow) (i := k) (j := m.toNat) hn.1 how (by omega) (by omega)
      have hstep : ∀ M, (∃ i' : Nat, (i' : Int) < (k : Int) + 1 ∧ M = lbN ow m.toNat i' ∧ ok i') ↔ ((∃ i' : Nat, (i' : Int) < (k : Int) ∧ M = lbN ow m.toNat i' ∧ ok i') ∨ (ok k ∧ M = lbN ow m.toNat k)) := by
        intro M
        constructor
        · intro ⟨i', z, y1, y2⟩
          by_cases e : i' = k
          · subst e
            exact Or.inr ⟨y2, y1⟩
          · exact Or.inl ⟨i', by omega, y1, y2⟩
        · intro z
          rcases z with ⟨i', z, y⟩ | ⟨z, y⟩
          · exact ⟨i', by omega, y⟩
          · exact ⟨k, by omega, y, z⟩
      have hless : ∀ M, (∃ i' : Nat, (i' : Int) < (k : Int) ∧ M = lbN ow m.toNat i' ∧ ok i') → M < lbN ow m.toNat k := fun M ⟨i', z, y, _⟩ => by
        rw [y]
        exact lbN_mono m.toNat hn.1 hn.2 (by rw [Nat.mod_eq_of_lt (by omega), Nat.mod_eq_of_lt (by omega)]; omega)
      generalize hP : (fun M => ∃ i' : Nat, (i' : Int) < (k : Int) ∧ M = lbN ow m.toNat i' ∧ ok i') = P at hI
      have hPe : ∀ M, P M ↔ ∃ i' : Nat, (i' : Int) < (k : Int) ∧ M = lbN ow m.toNat i' ∧ ok i' := fun M => by rw [← hP]
      -- ends of the ways
      have same : ∀ T : SG, BFR σ T → T 75 = ow → T 42 46 = m → (∀ M, ¬ (ok k ∧ M = lbN ow m.toNat k)) → T 42 48 = τ 42 48 → T 42 47 = τ 42 47 → T 42 49 = τ 42 49 → AW d mX9_isBlamed 73 [some (.inr (.inr 42)), some (.inl t), some (.inl lg), some (.inl st), some (.inl ((k : Int) + 1)), none] [] T Q := by
        intro T hT a b hno c1 c2 c3
        refine ih T hT a b ?_
        rw [c1, c2, c3]
        refine hI.cong (fun M => ?_)
        rw [hstep, hPe]
        exact ⟨Or.inl, fun z => z.elim id (fun y => absurd y (hno M))⟩
      have plus : ∀ (T : SG), BFR σ T → T 75 = ow → T 42 46 = m → ok k → RIs (fun M => P M ∨ M = lbN ow m.toNat k) (T 42 48) (T 42 47) (T 42 49) → AW d mX9_isBlamed 73 [some (.inr (.inr 42)), some (.inl t), some (.inl lg), some (.inl st), some (.inl ((k : Int) + 1)), none] [] T Q := by
        intro T hT a b hk hR
        refine ih T hT a b (hR.cong (fun M => ?_))
        rw [hstep, hPe]
        exact ⟨fun z => z.elim Or.inl (fun y => Or.inr ⟨hk, y⟩), fun z => z.elim Or.inl (fun y => Or.inr y.2)⟩
      have y42 : ∀ (S : SG) (i v j : Int), up S 42 i v 42 j = if j = i then v else S 42 j := fun S i v j => by rw [up_putF, putF_at]
      have z42 : ∀ (S : SG) (i v : Int) (p : Nat), p ≠ 42 → up S 42 i v p = S p := fun S i v p c => by rw [up_putF, putF_ne c]
      have owo : ∀ T : SG, T 75 = ow → T 42 46 = m → T 69 = σ 69 → OWO T := fun T a b c => by
        unfold OWO
        rw [a, b, c]
        exact ⟨hO.1, by omega⟩
      have hl24 := hlt k
      have new : ∀ (f : Int → Int), ok k → (τ 42 49 = 0 ∨ ((pcM (lbN ow m.toNat k) : Nat) : Int) < τ 42 48) → ∀ S10, S10 = up (putF τ 70 f) 42 49 0 → ∀ S11, S11 = up S10 42 48 (popc k) → OWO S11 ∧ ∀ S12, S12 = up S11 42 47 ((lbN (S11 75) (S11 42 46).toNat ((k : Int)).toNat : Nat) : Int) → ∀ S13, S13 = up S12 42 49 (S12 42 49 + 1) → AW d mX9_isBlamed 73 [some (.inr (.inr 42)), some (.inl t), some (.inl lg), some (.inl st), some (.inl ((k : Int) + 1)), none] [] S13 Q := by
        intro f hk hm S10 e10 S11 e11
        have a75 : S11 75 = ow := by rw [e11, z42 _ _ _ _ (by decide), e10, z42 _ _ _ _ (by decide), putF_ne (by decide)]; exact h75
        have a46 : S11 42 46 = m := by rw [e11, y42, if_neg (by decide), e10, y42, if_neg (by decide), putF_ne (by decide)]; exact h46
        have a69 : S11 69 = σ 69 := by rw [e11, z42 _ _ _ _ (by decide), e10, z42 _ _ _ _ (by decide), putF_ne (by decide)]; exact e69
        refine ⟨owo S11 a75 a46 a69, fun S12 e12 S13 e13 => ?_⟩
        rw [a75, a46, show ((k : Int)).toNat = k by omega] at e12
        have hF13 : BFR σ S13 := by
          rw [e13, e12, e11, e10]
          exact ((((hF.p70 f).up (by omega)).up (by omega)).up (by omega)).up (by omega)
        refine plus S13 hF13 ?_ ?_ hk ?_
        · rw [e13, z42 _ _ _ _ (by decide), e12, z42 _ _ _ _ (by decide)]
          exact a75
        · rw [e13, y42, if_neg (by decide), e12, y42, if_neg (by decide)]
          exact a46
        · have v48 : S13 42 48 = ((pcM (lbN ow m.toNat k) : Nat) : Int) := by rw [e13, y42, if_neg (by decide), e12, y42, if_neg (by decide), e11, y42, if_pos rfl]; exact hpc
          have v47 : S13 42 47 = ((lbN ow m.toNat k : Nat) : Int) := by rw [e13, y42, if_neg (by decide), e12, y42, if_pos rfl]
          have v49 : S13 42 49 = 1 := by rw [e13, y42, if_pos rfl, e12, y42, if_neg (by decide), e11, y42, if_neg (by decide), e10, y42, if_pos rfl]; rfl
          rw [v48, v47, v49]
          exact hI.new hl24 hm
      have hrop : r3 (ropV (bor st (stB (σ 69) ow m k)) ht lg 0) := by
        rw [hrc]
        have := clm_in (SMt (sdS st) (lamF (σ 35) t) (lbN ow m.toNat k)) lg 0 ht.toNat
        omega
      have hpcr : pcM (lbN ow m.toNat k) ≤ 24 := pcN_le 24 _
      have hmore : ∀ (f : Int → Int), ok k → 0 < τ 42 49 → τ 42 48 = ((pcM (lbN ow m.toNat k) : Nat) : Int) → ∀ S, S = up (putF τ 70 f) 42 49 (τ 42 49 + 1) → AW d mX9_isBlamed 73 [some (.inr (.inr 42)), some (.inl t), some (.inl lg), some (.inl st), some (.inl ((k : Int) + 1)), none] [] S Q := by
        intro f hk hs hm S eS
        refine plus S (by rw [eS]; exact (hF.p70 f).up (by omega)) (by rw [eS, z42 _ _ _ _ (by decide), putF_ne (by decide)]; exact h75) (by rw [eS, y42, if_neg (by decide), putF_ne (by decide)]; exact h46) hk ?_
        rw [eS, y42, if_neg (by decide), y42, if_neg (by decide), y42, if_pos rfl, putF_ne (by decide)]
        exact hI.more hs hl24 (fun M z => hless M ((hPe M).mp z)) hm
      refine mib_73 ?_
      rw [h46, e63, e69, h75]
      have hno : ∀ f, ropV (bor st (stB (σ 69) ow m k)) ht lg 0 ≠ ht → AW d mX9_isBlamed 73 [some (.inr (.inr 42)), some (.inl t), some (.inl lg), some (.inl st), some (.inl ((k : Int) + 1)), none] [] (putF τ 70 f) Q := fun f c => same _ (hF.p70 f) (by rw [putF_ne (by decide)]; exact h75) (by rw [putF_ne (by decide)]; exact h46) (fun M z => c (hokk.mp z.1)) (by rw [putF_ne (by decide)]) (by rw [putF_ne (by decide)]) (by rw [putF_ne (by decide)])
      have hig : higO (d - 1 - 1) τ t (bor st (stB (σ 69) ow m k)) lg 0 := by
        unfold higO
        rw [e63]
        exact ⟨by omega, by omega, by omega, by omega, by omega, by omega, by omega, by omega, by omega, by omega, by omega⟩
      clear hstep hPe hP hRR
      refine ⟨by omega, by omega, fun c => by omega, fun _ => ⟨by omega, ⟨by omega, by omega⟩, by omega, fun c1 => ⟨by omega, ⟨by omega, owo τ h75 h46 e69, hML, by omega, by omega⟩, by omega, by omega, hig, fun f => ⟨by omega, by omega, ⟨hrop, by omega⟩, fun c2 => hno f c2, fun c2 => ⟨by omega, fun c3 S10 e10 S11 e11 => ?_, fun c3 => absurd (show τ 42 49 = 0 by omega) c3⟩⟩⟩, fun c1 => ⟨⟨by omega, by omega⟩, fun c2 => ?_, fun c2 => ⟨by omega, ⟨by omega, owo τ h75 h46 e69, hML, by omega, by omega⟩, by omega, by omega, hig, fun f => ⟨by omega, by omega, ⟨hrop, by omega⟩, fun c3 => hno f c3, fun c3 => ⟨by omega, fun c4 => absurd c4 (by omega), fun c4 => ⟨⟨by omega, by omega⟩, fun c5 S e => hmore f (hokk.mpr c3) c1 (by omega) S e, fun c5 S10 e10 S11 e11 => ?_⟩⟩⟩⟩⟩⟩⟩
      · obtain ⟨a, b⟩ := new f (hokk.mpr c2) (Or.inl c3) S10 e10 S11 e11
        exact ⟨by omega, ⟨a, by omega, by omega⟩, b⟩
      · by_cases c3 : ok k
        · exact plus τ hF h75 h46 c3 (hI.skip c1 (by omega))
        · exact same τ hF h75 h46 (fun M z => c3 z.1) rfl rfl rfl
      · obtain ⟨a, b⟩ := new f (hokk.mpr c3) (Or.inr (by omega)) S10 e10 S11 e11
        exact ⟨by omega, ⟨a, by omega, by omega⟩, b⟩
  have hst' : bor (foI (hwB (σ 69) t 0) 0 ht) (foI (fsB (σ 69) t) 0 (σ 69 1)) = st := by
    rw [← hst, ← hht]
  refine mib_0 (fun S1 e1 => ?_)
  have own := downInd (P := fun k => ∀ τ : SG, BFR σ τ → OWF (σ 69) t (τ 75) (τ 42 46) k → AW d mX9_isBlamed 7 [some (.inr (.inr 42)), some (.inl t), some (.inl lg), some (.inl k), none, none] [] τ Q) (lo := 0) (hi := σ 69 1) (by omega) ?_ ?_ S1 (by rw [e1]; exact BFR.up ⟨fun _ _ _ _ => rfl, fun _ _ _ _ _ => rfl⟩ (by omega)) ?_
  · exact own
  · intro τ hF hO
    have e69 : τ 69 = σ 69 := hF.1 69 (by decide) (by decide) (by decide)
    refine mib_7 ?_
    rw [e69]
    refine ⟨by omega, by omega, fun _ S2 e2 => ?_, fun c => by omega⟩
    have hF2 : BFR σ S2 := by rw [e2]; exact hF.up (by omega)
    have e69' : S2 69 = σ 69 := hF2.1 69 (by decide) (by decide) (by decide)
    have e63' : S2 63 (8 + 2 * t) = ht := by rw [hF2.1 63 (by decide) (by decide) (by decide)]; exact hht
    rw [e69', e63', hst']
    refine ⟨by omega, by omega, ?_, by omega, ⟨by omega, hML, by omega⟩, ?_⟩
    · unfold mhwO
      rw [e69', e63']
      exact ⟨by omega, by omega, by omega, by decide, by omega, by omega, hMS⟩
    · refine walk (τ 75) (τ 42 46) hO S2 hF2 ?_ ?_ ?_
      · rw [e2, up_putF, putF_ne (by decide)]
      · rw [e2, up_putF, putF_at, if_neg (by decide)]
      · rw [e2, up_putF, putF_at, if_pos rfl]
  · intro k k0 k1 ih τ hF hO
    have e69 : τ 69 = σ 69 := hF.1 69 (by decide) (by decide) (by decide)
    have hl := hML.2 k k0 k1
    have hm := hO.1.1
    have keep : ¬ OOk (σ 69) t k → OWF (σ 69) t (τ 75) (τ 42 46) (k + 1) := fun hno => by
      obtain ⟨⟨a1, a2, a3⟩, b, c⟩ := hO
      exact ⟨⟨by omega, fun j x y => by have := a2 j x y; omega, a3⟩, b, fun k' x y z => c k' x (by
        have : k' ≠ k := fun e => hno (by rw [← e]; exact z)
        omega) z⟩
    refine mib_7 ?_
    rw [e69]
    refine ⟨by omega, by omega, fun c => by omega, fun _ => ⟨by omega, by omega, by omega, by omega, fun c1 => ih τ hF (keep (fun z => c1 z.2.1)), fun c1 => ⟨by omega, by omega, by omega, fun c2 => ih τ hF (keep (fun z => c2 z.2.2)), fun c2 => ⟨by omega, fun S3 e3 S4 e4 => ?_⟩⟩⟩⟩
    have v75 : ∀ j, S4 75 j = if j = τ 42 46 then k else τ 75 j := fun j => by rw [e4, up_putF, putF_ne (by decide), e3, up_putF, putF_at]
    have v46 : S4 42 46 = τ 42 46 + 1 := by rw [e4, up_putF, putF_at, if_pos rfl, e3, up_putF, putF_ne (by decide)]
    refine ih S4 ?_ ?_
    · rw [e4]
      refine BFR.up ?_ (by omega)
      rw [e3]
      exact ⟨fun p a b c => by rw [up_putF, putF_ne c]; exact hF.1 p a b c, fun j a b c e => by rw [up_putF, putF_ne (by decide)]; exact hF.2 j a b c e⟩
    · rw [v46]
      obtain ⟨⟨a1, a2, a3⟩, b, c⟩ := hO
      refine ⟨⟨by omega, fun j x y => ?_, fun i j x y z => ?_⟩, fun j x y => ?_, fun k' x y z => ?_⟩
      · rw [v75]
        by_cases e : j = τ 42 46
        · rw [if_pos e]
          omega
        · rw [if_neg e]
          have := a2 j x (by omega)
          omega
      · rw [v75, v75, if_neg (show ¬ i = τ 42 46 by omega)]
        by_cases e : j = τ 42 46
        · rw [if_pos e]
          exact (a2 i x (by omega)).2
        · rw [if_neg e]
          exact a3 i j x y (by omega)
      · rw [v75]
        by_cases e : j = τ 42 46
        · rw [if_pos e]
          exact ⟨⟨k0, k1⟩, c1, c2⟩
        · rw [if_neg e]
          exact b j x (by omega)
      · by_cases e : k' = k
        · exact ⟨τ 42 46, ⟨by omega, by omega⟩, by rw [v75, if_pos rfl, e]⟩
        · obtain ⟨j, j1, j2⟩ := c k' x (by omega) z
          exact ⟨j, ⟨j1.1, by omega⟩, by rw [v75, if_neg (show ¬ j = τ 42 46 by omega)]; exact j2⟩
  · have v46 : S1 42 46 = 0 := by rw [e1, up_putF, putF_at, if_pos rfl]
    rw [v46]
    exact ⟨⟨⟨Int.le_refl _, Int.le_refl _⟩, fun j x y => by omega, fun i j x y z => by omega⟩, fun j x y => by omega, fun k' x y z => by omega⟩
