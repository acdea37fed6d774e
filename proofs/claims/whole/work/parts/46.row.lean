/-! ===== the rows: how a step is, counts (wip/whole/gen46.py) ===== -/
def kX6_howIs_55 : List BI := [bi (.iconst 1) 1 [] 0, bi (.ireturn) 1 [] 0]
theorem cX6_howIs_55 : chk mX6_howIs 55 kX6_howIs_55 = true := by decide +kernel
def kX6_howIs_56 : List BI := [bi (.ireturn) 1 [] 0]
theorem cX6_howIs_56 : chk mX6_howIs 56 kX6_howIs_56 = true := by decide +kernel
def kX6_howIs_37 : List BI := [bi (.aload_n 0) 1 [] 0, bi (.getfield 11) 3 [6, 0] 0, bi (.bipush (14)) 2 [] 0, bi (.iload_n 1) 1 [] 0, bi (.iadd) 1 [] 0, bi (.iaload) 1 [] 0, bi (.iload_n 3) 1 [] 0, bi (.iand) 1 [] 0, bi (.ifCond .eq (7)) 3 [55] 0, bi (.iconst 3) 1 [] 0, bi (.goto (4)) 3 [56] 0]
theorem cX6_howIs_37 : chk mX6_howIs 37 kX6_howIs_37 = true := by decide +kernel
def kX6_howIs_21 : List BI := [bi (.aload_n 0) 1 [] 0, bi (.getfield 11) 3 [6, 0] 0, bi (.bipush (10)) 2 [] 0, bi (.iload_n 1) 1 [] 0, bi (.iadd) 1 [] 0, bi (.iaload) 1 [] 0, bi (.iload_n 3) 1 [] 0, bi (.iand) 1 [] 0, bi (.ifCond .eq (5)) 3 [37] 0, bi (.iconst 2) 1 [] 0, bi (.ireturn) 1 [] 0]
theorem cX6_howIs_21 : chk mX6_howIs 21 kX6_howIs_21 = true := by decide +kernel
def kX6_howIs_0 : List BI := [bi (.iload_n 2) 1 [] 0, bi (.invokestatic 47) 3 [mX8_bit, 1, 1] 0, bi (.istore_n 3) 1 [] 0, bi (.aload_n 0) 1 [] 0, bi (.getfield 11) 3 [6, 0] 0, bi (.bipush (6)) 2 [] 0, bi (.iload_n 1) 1 [] 0, bi (.iadd) 1 [] 0, bi (.iaload) 1 [] 0, bi (.iload_n 3) 1 [] 0, bi (.iand) 1 [] 0, bi (.ifCond .eq (5)) 3 [21] 0, bi (.iconst 0) 1 [] 0, bi (.ireturn) 1 [] 0]
theorem cX6_howIs_0 : chk mX6_howIs 0 kX6_howIs_0 = true := by decide +kernel
theorem howIs_0 {d : Nat} {σ : SG} {Q : Option AV → SG → Prop} {t s : Int} {p : Nat} (hp : p = 34 ∨ p = 36) (h : (0 < d) ∧ (0 ≤ (s - 1) ∧ (s - 1) < 32) ∧ (0 ≤ (6 + t) ∧ (6 + t) < 214) ∧ (r3 (band (σ (p + 1) (6 + t)) (1 * 2 ^ Int.toNat (s - 1)))) ∧ ((band (σ (p + 1) (6 + t)) (1 * 2 ^ Int.toNat (s - 1))) = 0 → (0 ≤ (10 + t) ∧ (10 + t) < 214) ∧ (r3 (band (σ (p + 1) (10 + t)) (1 * 2 ^ Int.toNat (s - 1)))) ∧ ((band (σ (p + 1) (10 + t)) (1 * 2 ^ Int.toNat (s - 1))) = 0 → (0 ≤ (14 + t) ∧ (14 + t) < 214) ∧ (r3 (band (σ (p + 1) (14 + t)) (1 * 2 ^ Int.toNat (s - 1)))) ∧ ((band (σ (p + 1) (14 + t)) (1 * 2 ^ Int.toNat (s - 1))) = 0 → Q (some (.inl 1)) σ) ∧ ((band (σ (p + 1) (14 + t)) (1 * 2 ^ Int.toNat (s - 1))) ≠ 0 → Q (some (.inl 3)) σ)) ∧ ((band (σ (p + 1) (10 + t)) (1 * 2 ^ Int.toNat (s - 1))) ≠ 0 → Q (some (.inl 2)) σ)) ∧ ((band (σ (p + 1) (6 + t)) (1 * 2 ^ Int.toNat (s - 1))) ≠ 0 → Q (some (.inl 0)) σ)) : AW d mX6_howIs 0 [some (.inr (.inr p)), some (.inl t), some (.inl s), none] [] σ Q := by
  rcases hp with rfl | rfl <;> exact AW.blk kX6_howIs_0 cX6_howIs_0 (⟨(h).1, AW.blk kX8_bit_0 cX8_bit_0 (⟨⟨(((h).2).1).1, (((h).2).1).2⟩, ⟨⟨((((h).2).2).1).1, ((((h).2).2).1).2⟩, ⟨((((h).2).2).2).1, ⟨fun c3 => AW.blk kX6_howIs_21 cX6_howIs_21 (⟨⟨(((((((h).2).2).2).2).1 c3).1).1, (((((((h).2).2).2).2).1 c3).1).2⟩, ⟨(((((((h).2).2).2).2).1 c3).2).1, ⟨fun c2 => AW.blk kX6_howIs_37 cX6_howIs_37 (⟨⟨((((((((((h).2).2).2).2).1 c3).2).2).1 c2).1).1, ((((((((((h).2).2).2).2).1 c3).2).2).1 c2).1).2⟩, ⟨((((((((((h).2).2).2).2).1 c3).2).2).1 c2).2).1, ⟨fun c1 => AW.blk kX6_howIs_55 cX6_howIs_55 ((((((((((((h).2).2).2).2).1 c3).2).2).1 c2).2).2).1 c1), fun c1 => AW.blk kX6_howIs_56 cX6_howIs_56 ((((((((((((h).2).2).2).2).1 c3).2).2).1 c2).2).2).2 c1)⟩⟩⟩), fun c2 => ((((((((h).2).2).2).2).1 c3).2).2).2 c2⟩⟩⟩), fun c3 => (((((h).2).2).2).2).2 c3⟩⟩⟩⟩)⟩)
def hwV (f : Int → Int) (t s : Int) : Int := if band (f (6 + t)) (1 * 2 ^ Int.toNat (s - 1)) ≠ 0 then 0 else if band (f (10 + t)) (1 * 2 ^ Int.toNat (s - 1)) ≠ 0 then 2 else if band (f (14 + t)) (1 * 2 ^ Int.toNat (s - 1)) ≠ 0 then 3 else 1
theorem howIs_ok {d : Nat} {σ : SG} {Q : Option AV → SG → Prop} {t s : Int} {p : Nat} (hp : p = 34 ∨ p = 36) (h : (1 ≤ d ∧ SR (σ (p + 1)) ∧ 0 ≤ t ∧ t < 4 ∧ 1 ≤ s ∧ s ≤ 14) ∧ Q (some (.inl (hwV (σ (p + 1)) t s))) σ) : AW d mX6_howIs 0 [some (.inr (.inr p)), some (.inl t), some (.inl s), none] [] σ Q := by
  obtain ⟨⟨hd, hS, h0, h1, h2, h3⟩, hq⟩ := h
  obtain ⟨a, b, c, e⟩ := hS t h0 h1
  unfold hwV at hq
  refine howIs_0 hp ⟨by omega, by omega, by omega, band_r3 (by omega) (by omega), fun c1 => ⟨by omega, band_r3 (by omega) (by omega), fun c2 => ⟨by omega, band_r3 (by omega) (by omega), fun c3 => ?_, fun c3 => ?_⟩, fun c2 => ?_⟩, fun c1 => ?_⟩
  · rwa [if_neg (fun z => z c1), if_neg (fun z => z c2), if_neg (fun z => z c3)] at hq
  · rwa [if_neg (fun z => z c1), if_neg (fun z => z c2), if_pos c3] at hq
  · rwa [if_neg (fun z => z c1), if_pos c2] at hq
  · rwa [if_pos c1] at hq
theorem tb_hwB (g : Int → Int) (t w : Int) : ∀ n : Nat, n ≤ 14 → ∀ k : Nat, tb (foI (hwB g t w) 0 (n : Int)) k = decide ((k : Int) < n ∧ g (6 + 14 * t + k) = w) := by
  intro n
  induction n with
  | zero =>
    intro _ k
    rw [show foI (hwB g t w) 0 ((0 : Nat) : Int) = 0 from rfl, tb_zero]
    exact (decide_eq_false (by omega)).symm
  | succ n ih =>
    intro hn k
    have ih := ih (by omega) k
    have e : ((n : Nat) : Int).toNat = n := by omega
    rw [show ((n + 1 : Nat) : Int) = (n : Int) + 1 by omega, foI_s _ _ (by omega)]
    generalize foI (hwB g t w) 0 (n : Int) = a at ih ⊢
    unfold hwB
    by_cases hk : k = n
    · subst hk
      split
      · rename_i hw
        rw [tb_bor, e, tb_pow (by omega), decide_eq_true (rfl : k = k), Bool.or_true]
        exact (decide_eq_true ⟨by omega, hw⟩).symm
      · rename_i hw
        rw [ih, decide_eq_false (by omega)]
        exact (decide_eq_false (fun z => hw z.2)).symm
    · have e2 : decide ((k : Int) < (n : Int) + 1 ∧ g (6 + 14 * t + k) = w) = decide ((k : Int) < n ∧ g (6 + 14 * t + k) = w) := by
        apply decide_eq_decide.mpr
        constructor
        · intro z
          exact ⟨by omega, z.2⟩
        · intro z
          exact ⟨by omega, z.2⟩
      rw [e2, ← ih]
      split
      · rw [tb_bor, e, tb_pow (by omega), decide_eq_false (fun z => hk z.symm), Bool.or_false]
      · rfl
theorem hwb (g : Int → Int) {t w ht s : Int} (h1 : 1 ≤ s) (h2 : s ≤ ht) (h3 : ht ≤ 14) : band (foI (hwB g t w) 0 ht) (1 * 2 ^ Int.toNat (s - 1)) = 0 ↔ g (6 + 14 * t + s - 1) ≠ w := by
  have h := tb_hwB g t w ht.toNat (by omega) (s - 1).toNat
  rw [show ((ht.toNat : Nat) : Int) = ht by omega, show (((s - 1).toNat : Nat) : Int) = s - 1 by omega] at h
  rw [band_pow0 (by omega), h, decide_eq_false_iff_not, show 6 + 14 * t + s - 1 = 6 + 14 * t + (s - 1) by omega]
  constructor
  · intro z y
    exact z ⟨by omega, y⟩
  · intro z y
    exact z y.2
theorem RS.how {tw : Int} {H : Int → Int} {B D : Int} {f g : Int → Int} (h : RS tw H B D f g) (hH : ∀ t, 0 ≤ t → t < tw → 3 ≤ H t ∧ H t ≤ 14) {t s : Int} (h0 : 0 ≤ t) (h1 : t < tw) (h2 : 1 ≤ s) (h3 : s ≤ H t) : hwV f t s = g (6 + 14 * t + s - 1) := by
  obtain ⟨m, a, b, c, _⟩ := h.2.2.2.1 t h0 h1
  have hh := hH t h0 h1
  have hm := m (s - 1) (by omega) (by omega)
  rw [show 6 + 14 * t + (s - 1) = 6 + 14 * t + s - 1 by omega] at hm
  have w0 := hwb g (t := t) (w := 0) h2 h3 hh.2
  have w2 := hwb g (t := t) (w := 2) h2 h3 hh.2
  have w3 := hwb g (t := t) (w := 3) h2 h3 hh.2
  unfold hwV
  rw [a, b, c]
  split
  · rename_i z
    by_cases y : g (6 + 14 * t + s - 1) = 0
    · exact y.symm
    · exact absurd (w0.mpr y) z
  · rename_i z
    have z := w0.mp (Decidable.not_not.mp z)
    split
    · rename_i z2
      by_cases y : g (6 + 14 * t + s - 1) = 2
      · exact y.symm
      · exact absurd (w2.mpr y) z2
    · rename_i z2
      have z2 := w2.mp (Decidable.not_not.mp z2)
      split
      · rename_i z3
        by_cases y : g (6 + 14 * t + s - 1) = 3
        · exact y.symm
        · exact absurd (w3.mpr y) z3
      · rename_i z3
        have z3 := w3.mp (Decidable.not_not.mp z3)
        omega
theorem RS.st {σ : SG} {r : Nat} {B D : Int} {f : Int → Int} (h : RS (σ r 0) (σ (r + 2)) B D f (σ 69)) (hL : RLR σ r) {t : Int} (h0 : 0 ≤ t) (h1 : t < σ r 0) : bor (f (6 + t)) (f (18 + t)) = mstV σ t ∧ (0 ≤ mstV σ t ∧ mstV σ t < 16384) := by
  have hr := hL.1.1
  have hS := h.sr hr.2 hL.hH t h0 (by omega)
  obtain ⟨e1, e2, _⟩ := hL.2.2.1 t h0 h1
  obtain ⟨m, a, _, _, e⟩ := h.2.2.2.1 t h0 h1
  have hb := bor_r hS.1 hS.2.2.2
  have em : bor (f (6 + t)) (f (18 + t)) = mstV σ t := by unfold mstV; rw [a, e, e1]
  rw [em] at hb
  exact ⟨em, hb⟩
theorem RS.hld {σ : SG} {r p : Nat} {B D : Int} (h : RS (σ r 0) (σ (r + 2)) B D (σ (p + 1)) (σ 69)) (hL : RLR σ r) {t : Int} (h0 : 0 ≤ t) (h1 : t < σ r 0) : hldC σ p r t = mhV σ t (mstV σ t) := by
  have hG := hL.mgr
  have hh := hL.hH t h0 h1
  have e := (hL.2.2.1 t h0 h1).1
  rw [mhV_hld hG (by omega)]
  unfold hldC
  rw [(h.st hL h0 h1).1, e, hL.le]
theorem foI_id {α : Type} {f : Int → α → α} {a : α} (h : ∀ i x, f i x = x) (n : Int) : foI f a n = a := by
  unfold foI
  generalize n.toNat = k
  induction k with
  | zero => rfl
  | succ k ih =>
    show f (k : Int) (fo f a k) = a
    rw [h, ih]
theorem foI_more {α : Type} {f : Int → α → α} {a : α} {n m : Int} (h0 : 0 ≤ n) (hn : n ≤ m) (h : ∀ i x, n ≤ i → i < m → f i x = x) : foI f a m = foI f a n := by
  have key : ∀ k : Nat, n + k ≤ m → foI f a (n + k) = foI f a n := by
    intro k
    induction k with
    | zero => intro _; rw [show n + ((0 : Nat) : Int) = n by omega]
    | succ k ih =>
      intro hk
      rw [show n + ((k + 1 : Nat) : Int) = n + k + 1 by omega, foI_s _ _ (by omega), h _ _ (by omega) (by omega), ih (by omega)]
  have := key (m - n).toNat (by omega)
  rwa [show n + (((m - n).toNat : Nat) : Int) = m by omega] at this
abbrev bsB (f : Int → Int) : Int → Int → Int := fun i a => a + popc (f (14 + i))
theorem coK_no {g : Int → Int} {w a n : Int} (h3 : w ≠ 3) (h8 : w ≠ 8) : foI (coK g w) a n = a := by
  apply foI_id
  intro i x
  unfold coK
  rw [if_neg (by omega)]
theorem coA_no {σ : SG} {w n : Int} (h3 : w ≠ 6) (h8 : w ≠ 7) : foI (coA σ w) 0 n = 0 := by
  apply foI_id
  intro i x
  unfold coA
  rw [if_neg h3, if_neg h8]
theorem RS.cOpen {tw : Int} {H : Int → Int} {B D : Int} {f g : Int → Int} (h : RS tw H B D f g) : foI (opB f) 0 (f 1) = foI (coK g 3) 0 (g 1) := by
  obtain ⟨_, h1, _, _, _, h5, _⟩ := h
  rw [h1.2.2]
  apply foI_cong
  intro i x a b
  obtain ⟨e, _, _, _, _, _, _, o⟩ := h5 i a b
  unfold opB coK
  rw [e 7 (by decide) (by decide)]
  by_cases hc : f (22 + i * 8 + 7) = 0
  · rw [if_pos (by omega), if_pos ⟨hc, Or.inl rfl⟩]
  · rw [if_neg (by omega), if_neg (fun z => hc z.1)]
theorem RS.cYard {tw : Int} {H : Int → Int} {B D : Int} {f g : Int → Int} (h : RS tw H B D f g) : foI (yaB f) 0 (f 1) = foI (coK g 8) 0 (g 1) := by
  obtain ⟨_, h1, _, _, _, h5, _⟩ := h
  rw [h1.2.2]
  apply foI_cong
  intro i x a b
  obtain ⟨e, _, _, _, _, _, _, o⟩ := h5 i a b
  unfold yaB coK
  rw [e 7 (by decide) (by decide), e 6 (by decide) (by decide)]
  by_cases hc : f (22 + i * 8 + 7) = 0 ∧ f (22 + i * 8 + 6) = 0
  · rw [if_pos (by omega), if_pos (by omega)]
  · rw [if_neg (by omega), if_neg (by omega)]
theorem RS.cHeld {σ : SG} {r p : Nat} {B D : Int} (h : RS (σ r 0) (σ (r + 2)) B D (σ (p + 1)) (σ 69)) (hL : RLR σ r) : foI (htB σ p r) 0 (σ r 0) = foI (coA σ 6) 0 (σ 61 4) := by
  rw [hL.2.1.1]
  apply foI_cong
  intro i x a b
  unfold htB coA
  rw [if_pos (rfl : (6 : Int) = 6), h.hld hL a b]
theorem RS.cBent {σ : SG} {r : Nat} {B D : Int} {f : Int → Int} (h : RS (σ r 0) (σ (r + 2)) B D f (σ 69)) (hL : RLR σ r) : foI (bsB f) 0 4 = foI (coA σ 7) 0 (σ 61 4) := by
  have hr := hL.1.1
  rw [hL.2.1.1, foI_more (n := σ r 0) hr.1 hr.2 (fun i x a b => by
    have := h.2.2.2.2.1 i a (by omega) b
    show x + popc (f (14 + i)) = x
    rw [this.2.2.1]
    show x + 0 = x
    omega)]
  apply foI_cong
  intro i x a b
  obtain ⟨_, _, _, c, _⟩ := h.2.2.2.1 i a b
  unfold bsB coA
  rw [if_neg (by decide), if_pos (rfl : (7 : Int) = 7), c, (hL.2.2.1 i a b).1]
theorem RS.fills {tw : Int} {H : Int → Int} {B D : Int} {f g : Int → Int} (h : RS tw H B D f g) (t s : Int) : fstI (lfB f t s) (f 1) = fstI (mfB g t s) (g 1) := by
  obtain ⟨_, h1, _, _, _, h5, _⟩ := h
  rw [h1.2.2]
  apply fstI_cong
  intro i a b
  obtain ⟨e, _, _, _, _, _, _, o⟩ := h5 i a b
  unfold lfB mfB
  rw [e 7 (by decide) (by decide), e 6 (by decide) (by decide), e 2 (by decide) (by decide)]
  apply decide_eq_decide.mpr
  omega
theorem RS.lends {tw : Int} {H : Int → Int} {B D : Int} {f g : Int → Int} (h : RS tw H B D f g) (t s : Int) : fstI (llB f t s) (f 1) = fstI (mlB g t s) (g 1) := by
  obtain ⟨_, h1, _, _, _, h5, _⟩ := h
  rw [h1.2.2]
  apply fstI_cong
  intro i a b
  obtain ⟨e, _, _, _, _, _, _, o⟩ := h5 i a b
  unfold llB mlB
  rw [e 7 (by decide) (by decide), e 0 (by decide) (by decide), e 1 (by decide) (by decide)]
  apply decide_eq_decide.mpr
  omega
