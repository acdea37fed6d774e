/-! ===== the relation between class and reference ===== -/
theorem aw_rl {d M pc : Nat} {ls : LV} {x r : Nat} {st : List AV} {σ : SG} {Q : Option AV → SG → Prop} (h : x = r) (k : AW d M pc ls (.inr (.inr r) :: st) σ Q) : AW d M pc ls (.inr (.inr x) :: st) σ Q := by
  subst h
  exact k
/-- the tape -/
def TP (σ : SG) : Prop := (0 ≤ σ 2 1 ∧ σ 2 1 ≤ 1600 ∧ σ 42 1 = σ 2 1) ∧ (∀ i, 0 ≤ i → i < 1600 → σ 43 i = σ 3 i ∧ 0 ≤ σ 3 i ∧ σ 3 i ≤ 255) ∧ σ 42 7 = σ 2 2 ∧ σ 42 8 = σ 2 3
/-- refusals -/
def RF (σ : SG) : Prop := ∀ k, 0 ≤ k → k < 4 → σ 44 k = σ 1 k
/-- a name: letters against a number -/
def NM (a : Int → Int) (v : Int) : Prop := ∃ m, (1 ≤ m ∧ m ≤ 6) ∧ (∀ k, 0 ≤ k → k < m → 1 ≤ a k ∧ a k ≤ 26) ∧ (∀ k, m ≤ k → k < 6 → a k = 0) ∧ v = foI (fun k v => 27 * v + a k) 0 m
/-- the realm at place r against the reference's second halves -/
def RLR (σ : SG) (r : Nat) : Prop := RLM σ r ∧ (σ 61 4 = σ r 0 ∧ σ 61 5 = σ r 1) ∧ (∀ t, 0 ≤ t → t < σ r 0 → σ 63 (8 + 2 * t) = σ (r + 2) t ∧ σ 63 (8 + 2 * t + 1) = σ (r + 3) t ∧ NM (fun k => σ (r + 1) (t * 6 + k)) (σ 62 (16 + 8 * 0 + t))) ∧ (∀ g, 0 ≤ g → g < σ r 1 → σ 64 (24 + 3 * g) = σ (r + 6) g ∧ σ 64 (24 + 3 * g + 1) = σ (r + 7) g ∧ σ 64 (24 + 3 * g + 2) = σ (r + 8) g ∧ NM (fun k => σ (r + 1) ((4 + g) * 6 + k)) (σ 62 (16 + 8 * 1 + g))) ∧ (∀ k, 1 ≤ k → k ≤ 6 → σ 65 (7 + k) = σ (r + 9) k) ∧ (σ 68 1 = σ r 4 ∨ σ 68 1 = 0 ∧ σ r 4 = 99 ∧ σ r 0 = 0)
/-- loan i -/
def LN (tw : Int) (H : Int → Int) (D : Int) (f g : Int → Int) (i : Int) : Prop := (∀ k, 0 ≤ k → k < 8 → g (62 + 8 * i + k) = f (22 + i * 8 + k)) ∧ (0 ≤ f (22 + i * 8 + 0) ∧ f (22 + i * 8 + 0) < tw) ∧ (1 ≤ f (22 + i * 8 + 1) ∧ f (22 + i * 8 + 1) ≤ H (f (22 + i * 8 + 0))) ∧ (0 ≤ f (22 + i * 8 + 2) ∧ f (22 + i * 8 + 2) < tw) ∧ (0 ≤ f (22 + i * 8 + 3) ∧ 0 ≤ f (22 + i * 8 + 5) ∧ f (22 + i * 8 + 3) + f (22 + i * 8 + 5) ≤ 99) ∧ (0 ≤ f (22 + i * 8 + 4) ∧ f (22 + i * 8 + 4) ≤ 99) ∧ (0 ≤ f (22 + i * 8 + 6) ∧ f (22 + i * 8 + 6) ≤ H (f (22 + i * 8 + 2))) ∧ ((f (22 + i * 8 + 7) = 0 ∧ (1 ≤ f (22 + i * 8 + 3) ∨ 5000 ≤ D) ∧ g (6 + 14 * f (22 + i * 8 + 0) + (f (22 + i * 8 + 1) - 1)) = 2) ∨ (f (22 + i * 8 + 7) = 1 ∧ f (22 + i * 8 + 6) = 0))
/-- the class's row f against the reference's row g -/
def RS (tw : Int) (H : Int → Int) (B D : Int) (f g : Int → Int) : Prop :=
  (0 ≤ f 0 ∧ f 0 ≤ D ∧ g 0 = f 0) ∧ (0 ≤ f 1 ∧ f 1 ≤ 24 ∧ g 1 = f 1) ∧ (∀ t, 0 ≤ t → t < 4 → g (2 + t) = f (2 + t) ∧ -B ≤ f (2 + t) ∧ f (2 + t) ≤ B)
  ∧ (∀ t, 0 ≤ t → t < tw → MSR g t (H t) ∧ f (6 + t) = foI (hwB g t 0) 0 (H t) ∧ f (10 + t) = foI (hwB g t 2) 0 (H t) ∧ f (14 + t) = foI (hwB g t 3) 0 (H t) ∧ f (18 + t) = foI (fsB g t) 0 (g 1))
  ∧ (∀ t, tw ≤ t → 0 ≤ t → t < 4 → f (6 + t) = 0 ∧ f (10 + t) = 0 ∧ f (14 + t) = 0 ∧ f (18 + t) = 0)
  ∧ (∀ i, 0 ≤ i → i < f 1 → LN tw H D f g i)
  ∧ (∀ i j, 0 ≤ i → i < j → j < f 1 → f (22 + i * 8 + 7) = 0 → f (22 + j * 8 + 7) = 0 → ¬ (f (22 + i * 8 + 0) = f (22 + j * 8 + 0) ∧ f (22 + i * 8 + 1) = f (22 + j * 8 + 1)) ∧ ¬ (f (22 + i * 8 + 2) = f (22 + j * 8 + 2) ∧ f (22 + i * 8 + 6) = f (22 + j * 8 + 6) ∧ f (22 + i * 8 + 6) ≠ 0))
def HI (n : Int) (σ : SG) (r : Nat) : Prop := (0 ≤ σ 38 1 ∧ σ 38 1 < 20 ∧ σ 42 41 = σ 38 1) ∧ (0 ≤ σ 38 2 ∧ σ 38 2 ≤ 20 ∧ σ 42 40 = σ 38 2) ∧ ∀ j, 1 ≤ j → j ≤ σ 38 2 → RS (σ r 0) (σ (r + 2)) (n * 300000) 999 (fun i => σ 39 ((σ 38 1 - j) % 20 * 214 + i)) (fun i => σ 71 (254 * ((σ 38 1 + 1 - j) % 20) + i))
def PI (σ : SG) : Prop := (0 ≤ σ 40 1 ∧ σ 40 1 ≤ 268 ∧ σ 42 81 = σ 40 1) ∧ ∀ k, 0 ≤ k → k < σ 40 1 → σ 99 k = σ 41 k
/-- the reference's words -/
def WC : Nat → List Int
  | 45 => [116, 111, 119, 101, 114]
  | 46 => [115, 116, 101, 112, 115]
  | 47 => [119, 111, 111, 100]
  | 48 => [99, 111, 115, 116, 115]
  | 49 => [103, 97, 112]
  | 50 => [111, 102]
  | 51 => [103, 117, 97, 114, 100]
  | 52 => [108, 101, 103, 115]
  | 53 => [114, 111, 112, 101]
  | 54 => [108, 111, 97, 110]
  | 55 => [116, 111]
  | 56 => [100, 97, 121, 115]
  | 57 => [114, 101, 110, 116]
  | 58 => [98, 101, 110, 100, 115]
  | 59 => [101, 110, 101, 109, 121]
  | 60 => [111, 100, 100, 115]
  | 76 => [102, 105, 114, 115, 116]
  | 77 => [108, 97, 115, 116]
  | 78 => [111, 102, 116, 101, 110]
  | 79 => [116, 111, 116, 97, 108]
  | 80 => [109, 111, 115, 116]
  | 81 => [108, 101, 97, 115, 116]
  | 82 => [110, 111, 116]
  | 83 => [97, 110, 100]
  | 84 => [111, 114]
  | 85 => [97, 108, 108]
  | 86 => [109, 105, 110]
  | 87 => [109, 97, 120]
  | 88 => [100, 97, 121]
  | 89 => [104, 101, 108, 100]
  | 90 => [108, 101, 110, 116]
  | 91 => [98, 101, 110, 116]
  | 92 => [121, 97, 114, 100]
  | 93 => [112, 117, 114, 115, 101]
  | 94 => [115, 116, 97, 110, 100, 115]
  | 95 => [114, 101, 97, 99, 104]
  | _ => []
def WD (σ : SG) : Prop := ∀ p, (45 ≤ p ∧ p ≤ 60 ∨ 76 ≤ p ∧ p ≤ 95) → ∀ i : Nat, i < (WC p).length → σ p (i : Int) = (WC p).getD i 0
def SIM (n : Int) (σ : SG) (r q : Nat) : Prop := ((r = 5 ∧ q = 16) ∨ (r = 16 ∧ q = 5)) ∧ ((σ 0 9).toNat = r ∧ (σ 4 1).toNat = q) ∧ TP σ ∧ RF σ ∧ RLR σ r ∧ RS (σ r 0) (σ (r + 2)) (n * 300000) 999 (σ 35) (σ 69) ∧ HI n σ r ∧ PI σ ∧ WD σ
/-- behind the class's call: the reference's call answers the same -/
def SAME (d : Nat) (n : Int) (r q M : Nat) (ls : LV) : Option AV → SG → Prop := fun v σ => AW d M 0 ls [] σ (fun v' σ' => v' = v ∧ SIM n σ' r q)
/-! the row -/
theorem RS.lr {tw : Int} {H : Int → Int} {B D : Int} {f g : Int → Int} (h : RS tw H B D f g) (ht : tw ≤ 4) (hH : ∀ t, 0 ≤ t → t < tw → 3 ≤ H t ∧ H t ≤ 14) : LR f := by
  obtain ⟨_, h1, _, _, _, hl, _⟩ := h
  refine ⟨⟨h1.1, h1.2.1⟩, fun i i0 i1 => ?_⟩
  obtain ⟨_, a1, a2, a3, a4, a5, a6, a7⟩ := hl i i0 i1
  have b1 := hH _ a1.1 a1.2
  have b2 := hH _ a3.1 a3.2
  refine ⟨⟨a1.1, by omega⟩, ⟨a2.1, by omega⟩, ⟨a3.1, by omega⟩, ⟨a4.1, by omega⟩, a5, ⟨a4.2.1, by omega⟩, ⟨a6.1, by omega⟩, ?_⟩
  rcases a7 with a7 | a7
  · exact Or.inl a7.1
  · exact Or.inr a7.1
theorem RS.mlr {tw : Int} {H : Int → Int} {B D : Int} {f g : Int → Int} (h : RS tw H B D f g) (ht : tw ≤ 4) (hH : ∀ t, 0 ≤ t → t < tw → 3 ≤ H t ∧ H t ≤ 14) : MLR g := by
  have hL := h.lr ht hH
  obtain ⟨_, h1, _, _, _, hl, _⟩ := h
  refine ⟨by rw [h1.2.2]; exact hL.1, fun i i0 i1 => ?_⟩
  rw [h1.2.2] at i1
  have e := (hl i i0 i1).1
  have := hL.2 i i0 i1
  rw [e 0 (by decide) (by decide), e 1 (by decide) (by decide), e 2 (by decide) (by decide), e 3 (by decide) (by decide), e 4 (by decide) (by decide), e 5 (by decide) (by decide), e 6 (by decide) (by decide), e 7 (by decide) (by decide)]
  exact this
theorem RS.sr {tw : Int} {H : Int → Int} {B D : Int} {f g : Int → Int} (h : RS tw H B D f g) (ht : tw ≤ 4) (hH : ∀ t, 0 ≤ t → t < tw → 3 ≤ H t ∧ H t ≤ 14) : SR f := by
  have hM := h.mlr ht hH
  obtain ⟨_, h1, _, h3, h4, _, _⟩ := h
  intro t t0 t4
  by_cases htw : t < tw
  · obtain ⟨_, a, b, c, e⟩ := h3 t t0 htw
    have hh := hH t t0 htw
    rw [a, b, c, e]
    exact ⟨hwB_r g t 0 hh.2, hwB_r g t 2 hh.2, hwB_r g t 3 hh.2, fsB_r hM t⟩
  · obtain ⟨a, b, c, e⟩ := h4 t (by omega) t0 t4
    rw [a, b, c, e]
    omega
theorem RS.mono {tw : Int} {H : Int → Int} {B D B' D' : Int} {f g : Int → Int} (h : RS tw H B D f g) (hB : B ≤ B') (hD : D ≤ D') : RS tw H B' D' f g := by
  obtain ⟨h0, h1, h2, h3, h4, h5, h6⟩ := h
  refine ⟨⟨h0.1, by omega, h0.2.2⟩, h1, fun t a b => ?_, h3, h4, fun i a b => ?_, h6⟩
  · have := h2 t a b
    omega
  · obtain ⟨b0, b1, b2, b3, b4, b5, b6, b7⟩ := h5 i a b
    refine ⟨b0, b1, b2, b3, b4, b5, b6, ?_⟩
    rcases b7 with b7 | b7
    · exact Or.inl ⟨b7.1, by omega, b7.2.2⟩
    · exact Or.inr b7
/-- the day's bound brought down again, if no open loan has come to its end -/
theorem RS.low {tw : Int} {H : Int → Int} {B D D' : Int} {f g : Int → Int} (h : RS tw H B D f g) (hD : f 0 ≤ D') (hL : ∀ i, 0 ≤ i → i < f 1 → f (22 + i * 8 + 7) = 0 → 1 ≤ f (22 + i * 8 + 3)) : RS tw H B D' f g := by
  obtain ⟨h0, h1, h2, h3, h4, h5, h6⟩ := h
  refine ⟨⟨h0.1, by omega, h0.2.2⟩, h1, h2, h3, h4, fun i a b => ?_, h6⟩
  obtain ⟨b0, b1, b2, b3, b4, b5, b6, b7⟩ := h5 i a b
  refine ⟨b0, b1, b2, b3, b4, b5, b6, ?_⟩
  rcases b7 with b7 | b7
  · exact Or.inl ⟨b7.1, Or.inl (hL i a b b7.1), b7.2.2⟩
  · exact Or.inr b7
theorem MSR_cong {g g' : Int → Int} {t ht : Int} (h : ∀ i, 0 ≤ i → i < ht → g' (6 + 14 * t + i) = g (6 + 14 * t + i)) (hm : MSR g t ht) : MSR g' t ht := by
  intro i a b
  rw [h i a b]
  exact hm i a b
theorem hwB_cong {g g' : Int → Int} {t w ht : Int} (h : ∀ i, 0 ≤ i → i < ht → g' (6 + 14 * t + i) = g (6 + 14 * t + i)) : foI (hwB g' t w) 0 ht = foI (hwB g t w) 0 ht := by
  apply foI_cong
  intro i x a b
  unfold hwB
  rw [h i a b]
theorem fsB_cong {g g' : Int → Int} {t n : Int} (h : ∀ i k, 0 ≤ i → i < n → 0 ≤ k → k < 8 → g' (62 + 8 * i + k) = g (62 + 8 * i + k)) : foI (fsB g' t) 0 n = foI (fsB g t) 0 n := by
  apply foI_cong
  intro i x a b
  unfold fsB
  rw [h i 7 a b (by decide) (by decide), h i 2 a b (by decide) (by decide), h i 6 a b (by decide) (by decide)]
theorem RS.cong {tw : Int} {H : Int → Int} {B D : Int} {f g f' g' : Int → Int} (h : RS tw H B D f g) (ht : tw ≤ 4) (hH : ∀ t, 0 ≤ t → t < tw → 3 ≤ H t ∧ H t ≤ 14) (hf : ∀ i, 0 ≤ i → i < 214 → f' i = f i) (hg : ∀ i, 0 ≤ i → i < 254 → g' i = g i) : RS tw H B D f' g' := by
  have hM := h.mlr ht hH
  obtain ⟨h0, h1, h2, h3, h4, h5, h6⟩ := h
  have e1 := hf 1 (by decide) (by decide)
  have k1 := hg 1 (by decide) (by decide)
  have hfl : ∀ i k, 0 ≤ i → i < f 1 → 0 ≤ k → k < 8 → f' (22 + i * 8 + k) = f (22 + i * 8 + k) := fun i k a b c e => hf _ (by omega) (by omega)
  have hgl : ∀ i k, 0 ≤ i → i < f 1 → 0 ≤ k → k < 8 → g' (62 + 8 * i + k) = g (62 + 8 * i + k) := fun i k a b c e => hg _ (by omega) (by omega)
  refine ⟨?_, ?_, ?_, ?_, ?_, ?_, ?_⟩
  · rw [hf 0 (by decide) (by decide), hg 0 (by decide) (by decide)]
    exact h0
  · rw [e1, k1]
    exact h1
  · intro t a b
    rw [hf (2 + t) (by omega) (by omega), hg (2 + t) (by omega) (by omega)]
    exact h2 t a b
  · intro t a b
    have hh := hH t a b
    have hc : ∀ i, 0 ≤ i → i < H t → g' (6 + 14 * t + i) = g (6 + 14 * t + i) := fun i c e => hg _ (by omega) (by omega)
    obtain ⟨m, a1, a2, a3, a4⟩ := h3 t a b
    rw [hf (6 + t) (by omega) (by omega), hf (10 + t) (by omega) (by omega), hf (14 + t) (by omega) (by omega), hf (18 + t) (by omega) (by omega), hwB_cong hc, hwB_cong hc, hwB_cong hc, k1, fsB_cong (g := g) (fun i k x y z w => hgl i k x (by omega) z w)]
    exact ⟨MSR_cong hc m, a1, a2, a3, a4⟩
  · intro t a b c
    rw [hf (6 + t) (by omega) (by omega), hf (10 + t) (by omega) (by omega), hf (14 + t) (by omega) (by omega), hf (18 + t) (by omega) (by omega)]
    exact h4 t a b c
  · intro i a b
    rw [e1] at b
    obtain ⟨b0, b1, b2, b3, b4⟩ := h5 i a b
    have c1 := hH _ b1.1 b1.2
    have r := fun k c e => hfl i k a b c e
    unfold LN
    rw [r 0 (by decide) (by decide), r 1 (by decide) (by decide), r 2 (by decide) (by decide), r 3 (by decide) (by decide), r 4 (by decide) (by decide), r 5 (by decide) (by decide), r 6 (by decide) (by decide), r 7 (by decide) (by decide), hg (6 + 14 * f (22 + i * 8 + 0) + (f (22 + i * 8 + 1) - 1)) (by omega) (by omega)]
    exact ⟨fun k c e => by rw [r k c e, hgl i k a b c e]; exact b0 k c e, b1, b2, b3, b4⟩
  · intro i j a b c
    rw [e1] at c
    have r := fun k c e => hfl i k a (by omega) c e
    have s := fun k x e => hfl j k (by omega) c x e
    rw [r 0 (by decide) (by decide), r 1 (by decide) (by decide), r 2 (by decide) (by decide), r 6 (by decide) (by decide), r 7 (by decide) (by decide), s 0 (by decide) (by decide), s 1 (by decide) (by decide), s 2 (by decide) (by decide), s 6 (by decide) (by decide), s 7 (by decide) (by decide)]
    exact h6 i j a b c
/-! facts out of SIM -/
theorem RLR.hH {σ : SG} {r : Nat} (h : RLR σ r) : ∀ t, 0 ≤ t → t < σ r 0 → 3 ≤ σ (r + 2) t ∧ σ (r + 2) t ≤ 14 := fun t a b => ⟨(h.1.2.2.1 t a b).1, (h.1.2.2.1 t a b).2.1⟩
theorem RLR.mgr {σ : SG} {r : Nat} (h : RLR σ r) : MGR σ := by
  obtain ⟨hR, he, _, hg, _⟩ := h
  have h1 := hR.1
  have h2 := hR.2.1
  refine ⟨by rw [he.2]; exact h2, fun g a b => ?_⟩
  rw [he.2] at b
  obtain ⟨c1, c2, _⟩ := hg g a b
  have := hR.2.2.2.1 g a b
  rw [c1, c2]
  omega
theorem RLR.le {σ : SG} {r : Nat} (h : RLR σ r) (t : Int) : foI (leB σ r t) (-1) (σ r 1) = foI (mlgB (σ 64) t) (-1) (σ 61 5) := by
  obtain ⟨hR, he, _, hg, _⟩ := h
  rw [he.2]
  apply foI_cong
  intro g x a b
  obtain ⟨c1, c2, _⟩ := hg g a b
  unfold leB mlgB
  rw [c1, c2]
theorem RLR.go {σ : SG} {r : Nat} (h : RLR σ r) (t : Int) : foI (goB σ r t) 0 (σ r 1) = foI (mgB (σ 64) t) 0 (σ 61 5) := by
  obtain ⟨hR, he, _, hg, _⟩ := h
  rw [he.2]
  apply foI_cong
  intro g x a b
  obtain ⟨c1, _⟩ := hg g a b
  unfold goB mgB
  rw [c1]
theorem SIM.tw {n : Int} {σ : SG} {r q : Nat} (h : SIM n σ r q) {t : Int} (h0 : 0 ≤ t) (h1 : t < σ r 0) : (3 ≤ σ (r + 2) t ∧ σ (r + 2) t ≤ 14 ∧ t < 4) ∧ σ 63 (8 + 2 * t) = σ (r + 2) t ∧ σ 63 (8 + 2 * t + 1) = σ (r + 3) t ∧ MSR (σ 69) t (σ 63 (8 + 2 * t)) ∧ bor (σ 35 (6 + t)) (σ 35 (18 + t)) = mstV σ t ∧ (0 ≤ mstV σ t ∧ mstV σ t < 16384) := by
  obtain ⟨_, _, _, _, hL, hR, _⟩ := h
  have hH := hL.hH
  have hr := hL.1.1
  have hh := hH t h0 h1
  have hS := hR.sr hr.2 hH t h0 (by omega)
  obtain ⟨_, _, _, h3, _⟩ := hR
  obtain ⟨e1, e2, _⟩ := hL.2.2.1 t h0 h1
  obtain ⟨m, a, _, _, e⟩ := h3 t h0 h1
  have hb := bor_r hS.1 hS.2.2.2
  have em : bor (σ 35 (6 + t)) (σ 35 (18 + t)) = mstV σ t := by unfold mstV; rw [a, e, e1]
  rw [em] at hb
  exact ⟨⟨hh.1, hh.2, by omega⟩, e1, e2, by rw [e1]; exact m, em, hb⟩
theorem SIM.lr {n : Int} {σ : SG} {r q : Nat} (h : SIM n σ r q) : LR (σ 35) ∧ SR (σ 35) ∧ MLR (σ 69) ∧ MGR σ ∧ RLM σ r ∧ (0 ≤ σ r 0 ∧ σ r 0 ≤ 4 ∧ 0 ≤ σ r 1 ∧ σ r 1 ≤ 8 ∧ σ 61 4 = σ r 0 ∧ σ 61 5 = σ r 1) ∧ (0 ≤ σ 35 0 ∧ σ 35 0 ≤ 999 ∧ σ 69 0 = σ 35 0 ∧ 0 ≤ σ 35 1 ∧ σ 35 1 ≤ 24 ∧ σ 69 1 = σ 35 1) := by
  obtain ⟨_, _, _, _, hL, hR, _⟩ := h
  have hH := hL.hH
  have hr := hL.1.1
  exact ⟨hR.lr hr.2 hH, hR.sr hr.2 hH, hR.mlr hr.2 hH, hL.mgr, hL.1, ⟨hr.1, hr.2, hL.1.2.1.1, hL.1.2.1.2, hL.2.1.1, hL.2.1.2⟩, ⟨hR.1.1, hR.1.2.1, hR.1.2.2, hR.2.1.1, hR.2.1.2.1, hR.2.1.2.2⟩⟩
theorem SIM.gd {n : Int} {σ : SG} {r q : Nat} (h : SIM n σ r q) {g : Int} (h0 : 0 ≤ g) (h1 : g < σ r 1) : (0 ≤ σ (r + 6) g ∧ σ (r + 6) g < σ r 0 ∧ 1 ≤ σ (r + 7) g ∧ σ (r + 7) g ≤ 6 ∧ 0 ≤ σ (r + 8) g ∧ σ (r + 8) g ≤ 6) ∧ σ 64 (24 + 3 * g) = σ (r + 6) g ∧ σ 64 (24 + 3 * g + 1) = σ (r + 7) g ∧ σ 64 (24 + 3 * g + 2) = σ (r + 8) g := by
  obtain ⟨_, _, _, _, hL, hR, _⟩ := h
  obtain ⟨a, b, c, _⟩ := hL.2.2.2.1 g h0 h1
  exact ⟨hL.1.2.2.2.1 g h0 h1, a, b, c⟩
theorem SIM.hld {n : Int} {σ : SG} {r q : Nat} (h : SIM n σ r q) {t : Int} (h0 : 0 ≤ t) (h1 : t < σ r 0) : hldC σ 34 r t = mhV σ t (mstV σ t) := by
  obtain ⟨hh, e, _, _, em, _⟩ := h.tw h0 h1
  have hG := h.lr.2.2.2.1
  rw [mhV_hld hG (by omega)]
  unfold hldC
  rw [show (34 : Nat) + 1 = 35 from rfl, em, e, h.2.2.2.2.1.le]
theorem SIM.rr {n : Int} {σ : SG} {r q : Nat} (h : SIM n σ r q) : (r = 5 ∨ r = 16) ∧ (q = 5 ∨ q = 16) ∧ (σ 0 9).toNat = r ∧ (σ 4 1).toNat = q := by
  refine ⟨?_, ?_, h.2.1⟩
  · rcases h.1 with h | h
    · exact Or.inl h.1
    · exact Or.inr h.1
  · rcases h.1 with h | h
    · exact Or.inr h.2
    · exact Or.inl h.2
theorem SIM.mono {n n' : Int} {σ : SG} {r q : Nat} (h : SIM n σ r q) (hn : n ≤ n') : SIM n' σ r q := by
  obtain ⟨h1, h2, h3, h4, h5, h6, h7, h8⟩ := h
  refine ⟨h1, h2, h3, h4, h5, h6.mono (by omega) (by omega), ⟨h7.1, h7.2.1, fun j a b => (h7.2.2 j a b).mono (by omega) (by omega)⟩, h8⟩
/-! what SIM looks at -/
def EP (r p : Nat) : Prop := p = 0 ∨ p = 1 ∨ p = 3 ∨ p = 4 ∨ p = 35 ∨ p = 38 ∨ p = 39 ∨ p = 40 ∨ p = 41 ∨ p = 43 ∨ p = 44 ∨ (45 ≤ p ∧ p ≤ 60) ∨ p = 69 ∨ p = 71 ∨ (76 ≤ p ∧ p ≤ 95) ∨ p = 99 ∨ (r ≤ p ∧ p ≤ r + 10)
def EQV (r : Nat) (σ σ' : SG) : Prop := (∀ p, EP r p → σ' p = σ p) ∧ (σ' 2 1 = σ 2 1 ∧ σ' 2 2 = σ 2 2 ∧ σ' 2 3 = σ 2 3) ∧ (σ' 42 1 = σ 42 1 ∧ σ' 42 7 = σ 42 7 ∧ σ' 42 8 = σ 42 8 ∧ σ' 42 40 = σ 42 40 ∧ σ' 42 41 = σ 42 41 ∧ σ' 42 81 = σ 42 81) ∧ (∀ i, 4 ≤ i → σ' 61 i = σ 61 i) ∧ (∀ i, 16 ≤ i → σ' 62 i = σ 62 i) ∧ (∀ i, 8 ≤ i → σ' 63 i = σ 63 i) ∧ (∀ i, 24 ≤ i → σ' 64 i = σ 64 i) ∧ (∀ i, 7 ≤ i → σ' 65 i = σ 65 i) ∧ σ' 68 1 = σ 68 1
theorem EP.of {r p : Nat} (h : p = 0 ∨ p = 1 ∨ p = 3 ∨ p = 4 ∨ p = 35 ∨ p = 38 ∨ p = 39 ∨ p = 40 ∨ p = 41 ∨ p = 43 ∨ p = 44 ∨ (45 ≤ p ∧ p ≤ 60) ∨ p = 69 ∨ p = 71 ∨ (76 ≤ p ∧ p ≤ 95) ∨ p = 99 ∨ (r ≤ p ∧ p ≤ r + 10)) : EP r p := h
theorem RLM.cong {σ σ' : SG} {r : Nat} (h : ∀ p, EP r p → σ' p = σ p) (hR : RLM σ r) : RLM σ' r := by
  have e : ∀ k, k ≤ 10 → σ' (r + k) = σ (r + k) := fun k hk => h _ (EP.of (by omega))
  have e0 : σ' r = σ r := e 0 (by decide)
  unfold RLM
  rw [e0, e 2 (by decide), e 3 (by decide), e 6 (by decide), e 7 (by decide), e 8 (by decide), e 9 (by decide)]
  exact hR
theorem SIM.eqv {n : Int} {σ σ' : SG} {r q : Nat} (h : SIM n σ r q) (E : EQV r σ σ') : SIM n σ' r q := by
  obtain ⟨E0, E2, E42, E61, E62, E63, E64, E65, E68⟩ := E
  obtain ⟨h1, h2, h3, h4, h5, h6, h7, h8, h9⟩ := h
  have e : ∀ k, k ≤ 10 → σ' (r + k) = σ (r + k) := fun k hk => E0 _ (EP.of (by omega))
  have e0 : σ' r = σ r := e 0 (by decide)
  refine ⟨h1, ?_, ?_, ?_, ?_, ?_, ?_, ?_, ?_⟩
  · rw [E0 0 (EP.of (by omega)), E0 4 (EP.of (by omega))]
    exact h2
  · unfold TP
    rw [E2.1, E2.2.1, E2.2.2, E42.1, E42.2.1, E42.2.2.1, E0 3 (EP.of (by omega)), E0 43 (EP.of (by omega))]
    exact h3
  · unfold RF
    rw [E0 1 (EP.of (by omega)), E0 44 (EP.of (by omega))]
    exact h4
  · obtain ⟨a0, a1, a2, a3, a4, a5⟩ := h5
    refine ⟨a0.cong E0, ?_, ?_, ?_, ?_, ?_⟩
    · rw [E61 4 (by decide), E61 5 (by decide), e0]
      exact a1
    · intro t b c
      rw [e0] at c
      rw [E63 _ (by omega), E63 _ (by omega), e 2 (by decide), e 3 (by decide), e 1 (by decide), E62 _ (by omega)]
      exact a2 t b c
    · intro g b c
      rw [e0] at c
      rw [E64 _ (by omega), E64 _ (by omega), E64 _ (by omega), e 6 (by decide), e 7 (by decide), e 8 (by decide), e 1 (by decide), E62 _ (by omega)]
      exact a3 g b c
    · intro k b c
      rw [E65 _ (by omega), e 9 (by decide)]
      exact a4 k b c
    · rw [E68, e0]
      exact a5
  · rw [e0, e 2 (by decide), E0 35 (EP.of (by omega)), E0 69 (EP.of (by omega))]
    exact h6
  · unfold HI
    rw [e0, e 2 (by decide), E0 38 (EP.of (by omega)), E0 39 (EP.of (by omega)), E0 71 (EP.of (by omega)), E42.2.2.2.2.1, E42.2.2.2.1]
    exact h7
  · unfold PI
    rw [E0 40 (EP.of (by omega)), E0 41 (EP.of (by omega)), E0 99 (EP.of (by omega)), E42.2.2.2.2.2]
    exact h8
  · intro p hp
    rw [E0 p (EP.of (by omega))]
    exact h9 p hp
theorem EQV.rf (r : Nat) (σ : SG) : EQV r σ σ := ⟨fun _ _ => rfl, ⟨rfl, rfl, rfl⟩, ⟨rfl, rfl, rfl, rfl, rfl, rfl⟩, fun _ _ => rfl, fun _ _ => rfl, fun _ _ => rfl, fun _ _ => rfl, fun _ _ => rfl, rfl⟩
theorem EQV.tr {r : Nat} {σ σ' σ'' : SG} (h : EQV r σ σ') (k : EQV r σ' σ'') : EQV r σ σ'' := by
  obtain ⟨a1, ⟨a2, a3, a4⟩, ⟨a5, a6, a7, a8, a9, a10⟩, a11, a12, a13, a14, a15, a16⟩ := h
  obtain ⟨b1, ⟨b2, b3, b4⟩, ⟨b5, b6, b7, b8, b9, b10⟩, b11, b12, b13, b14, b15, b16⟩ := k
  exact ⟨fun p hp => (b1 p hp).trans (a1 p hp), ⟨b2.trans a2, b3.trans a3, b4.trans a4⟩, ⟨b5.trans a5, b6.trans a6, b7.trans a7, b8.trans a8, b9.trans a9, b10.trans a10⟩, fun i hi => (b11 i hi).trans (a11 i hi), fun i hi => (b12 i hi).trans (a12 i hi), fun i hi => (b13 i hi).trans (a13 i hi), fun i hi => (b14 i hi).trans (a14 i hi), fun i hi => (b15 i hi).trans (a15 i hi), b16.trans a16⟩
/-- places that SIM doesn't look at -/
theorem EQV.pf {r : Nat} (hr : r = 5 ∨ r = 16) {σ : SG} {p : Nat} {f : Int → Int} (hp : p = 27 ∨ p = 28 ∨ p = 29 ∨ p = 31 ∨ p = 32 ∨ p = 33 ∨ p = 37 ∨ p = 66 ∨ p = 67 ∨ p = 70 ∨ p = 72 ∨ p = 73 ∨ p = 74 ∨ p = 75 ∨ p = 96 ∨ p = 97 ∨ p = 98) : EQV r σ (putF σ p f) := by
  refine ⟨fun p' hp' => putF_ne ?_, ?_⟩
  · unfold EP at hp'
    omega
  · have h2 : putF σ p f 2 = σ 2 := putF_ne (by omega)
    have h42 : putF σ p f 42 = σ 42 := putF_ne (by omega)
    have h61 : putF σ p f 61 = σ 61 := putF_ne (by omega)
    have h62 : putF σ p f 62 = σ 62 := putF_ne (by omega)
    have h63 : putF σ p f 63 = σ 63 := putF_ne (by omega)
    have h64 : putF σ p f 64 = σ 64 := putF_ne (by omega)
    have h65 : putF σ p f 65 = σ 65 := putF_ne (by omega)
    have h68 : putF σ p f 68 = σ 68 := putF_ne (by omega)
    rw [h2, h42, h61, h62, h63, h64, h65, h68]
    exact ⟨⟨rfl, rfl, rfl⟩, ⟨rfl, rfl, rfl, rfl, rfl, rfl⟩, fun _ _ => rfl, fun _ _ => rfl, fun _ _ => rfl, fun _ _ => rfl, fun _ _ => rfl, rfl⟩
theorem SIM.p70 {n : Int} {σ : SG} {r q : Nat} (h : SIM n σ r q) (f : Int → Int) : SIM n (putF σ 70 f) r q := h.eqv (EQV.pf h.rr.1 (by omega))
