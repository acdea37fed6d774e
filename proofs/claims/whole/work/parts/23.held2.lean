/-! ===== whether a tower is held (class) ===== -/
def kX6_isHeld_41 : List BI := [bi (.ireturn) 1 [1] 0]
theorem cX6_isHeld_41 : chk mX6_isHeld 41 kX6_isHeld_41 = true := by decide +kernel
def kX6_isHeld_36 : List BI := [bi (.iconst 1) 1 [] 0, bi (.goto (4)) 3 [41] 0]
theorem cX6_isHeld_36 : chk mX6_isHeld 36 kX6_isHeld_36 = true := by decide +kernel
def kX6_isHeld_40 : List BI := [bi (.iconst 0) 1 [] 0, bi (.ireturn) 1 [1] 0]
theorem cX6_isHeld_40 : chk mX6_isHeld 40 kX6_isHeld_40 = true := by decide +kernel
def kX6_isHeld_0 : List BI := [bi (.aload_n 1) 1 [] 0, bi (.iload_n 2) 1 [] 0, bi (.invokevirtual 51) 3 [mX4_leastLegs, 2, 4, 4] 0, bi (.istore_n 3) 1 [] 0, bi (.aload_n 1) 1 [] 0, bi (.getfield 27) 3 [4, 6] 0, bi (.iload_n 2) 1 [] 0, bi (.iaload) 1 [] 0, bi (.istore 4) 2 [] 0, bi (.iload_n 3) 1 [] 0, bi (.iconst (-1)) 1 [] 0, bi (.if_icmp .eq (20)) 3 [36] 0, bi (.aload_n 0) 1 [] 0, bi (.iload_n 2) 1 [] 0, bi (.invokevirtual 54) 3 [mX6_standing, 2, 2, 6] 0, bi (.iload 4) 2 [] 0, bi (.iload_n 3) 1 [] 0, bi (.iconst 0) 1 [] 0, bi (.invokestatic 57) 3 [mX8_climb, 4, 6] 0, bi (.iload 4) 2 [] 0, bi (.if_icmp .ne (7)) 3 [40] 0, bi (.iconst 1) 1 [] 0, bi (.goto (4)) 3 [41] 0]
theorem cX6_isHeld_0 : chk mX6_isHeld 0 kX6_isHeld_0 = true := by decide +kernel
theorem isHeld_0 {d : Nat} {σ : SG} {Q : Option AV → SG → Prop} {t : Int} {p : Nat} (hp : p = 34 ∨ p = 36) {r : Nat} (hr : r = 5 ∨ r = 16) (h : (0 < d) ∧ (RLM σ r ∧ r3 t) ∧ (0 ≤ t ∧ t < 4) ∧ (r3 (foI (leB σ r t) (-1) (σ r 1))) ∧ ((foI (leB σ r t) (-1) (σ r 1)) = (-1) → Q (some (.inl 1)) σ) ∧ ((foI (leB σ r t) (-1) (σ r 1)) ≠ (-1) → (0 < d) ∧ (0 ≤ (6 + t) ∧ (6 + t) < 214) ∧ (0 ≤ (18 + t) ∧ (18 + t) < 214) ∧ (0 < d) ∧ (clsO (d - 1) (bor (σ (p + 1) (6 + t)) (σ (p + 1) (18 + t))) (σ (r + 2) t) (foI (leB σ r t) (-1) (σ r 1)) 0) ∧ (r3 (climbV (bor (σ (p + 1) (6 + t)) (σ (p + 1) (18 + t))) (σ (r + 2) t) (foI (leB σ r t) (-1) (σ r 1)) 0) ∧ r3 (σ (r + 2) t)) ∧ ((climbV (bor (σ (p + 1) (6 + t)) (σ (p + 1) (18 + t))) (σ (r + 2) t) (foI (leB σ r t) (-1) (σ r 1)) 0) ≠ (σ (r + 2) t) → Q (some (.inl 0)) σ) ∧ ((climbV (bor (σ (p + 1) (6 + t)) (σ (p + 1) (18 + t))) (σ (r + 2) t) (foI (leB σ r t) (-1) (σ r 1)) 0) = (σ (r + 2) t) → Q (some (.inl 1)) σ))) : AW d mX6_isHeld 0 [some (.inr (.inr p)), some (.inr (.inr r)), some (.inl t), none, none] [] σ Q := by
  rcases hp with rfl | rfl <;> rcases hr with rfl | rfl <;> exact AW.blk kX6_isHeld_0 cX6_isHeld_0 (⟨(h).1, leastLegs_ok (by decide) ⟨((h).2).1, ⟨⟨((((h).2).2).1).1, ((((h).2).2).1).2⟩, ⟨⟨((((h).2).2).2).1, (by decide)⟩, ⟨fun c2 => AW.blk kX6_isHeld_36 cX6_isHeld_36 (AW.blk kX6_isHeld_41 cX6_isHeld_41 (⟨(by decide), (((((h).2).2).2).2).1 c2⟩)), fun c2 => ⟨((((((h).2).2).2).2).2 c2).1, AW.blk kX6_standing_0 cX6_standing_0 (⟨⟨((((((((h).2).2).2).2).2 c2).2).1).1, ((((((((h).2).2).2).2).2 c2).2).1).2⟩, ⟨⟨(((((((((h).2).2).2).2).2 c2).2).2).1).1, (((((((((h).2).2).2).2).2 c2).2).2).1).2⟩, ⟨(((((((((h).2).2).2).2).2 c2).2).2).2).1, climb_ok ⟨((((((((((h).2).2).2).2).2 c2).2).2).2).2).1, ⟨⟨((((((((((((h).2).2).2).2).2 c2).2).2).2).2).2).1).1, ((((((((((((h).2).2).2).2).2 c2).2).2).2).2).2).1).2⟩, ⟨fun c1 => AW.blk kX6_isHeld_40 cX6_isHeld_40 (⟨(by decide), ((((((((((((h).2).2).2).2).2 c2).2).2).2).2).2).2).1 c1⟩), fun c1 => AW.blk kX6_isHeld_41 cX6_isHeld_41 (⟨(by decide), ((((((((((((h).2).2).2).2).2 c2).2).2).2).2).2).2).2 c1⟩)⟩⟩⟩⟩⟩⟩)⟩⟩⟩⟩⟩⟩)
/-- whether a tower of height ht, of which one can stand on sd, is held by guards of least legs lg (-1: none) -/
def hldV (sd ht lg : Int) : Int := if lg = -1 ∨ climbV sd ht lg 0 = ht then 1 else 0
def hldC (σ : SG) (p r : Nat) (t : Int) : Int := hldV (bor (σ (p + 1) (6 + t)) (σ (p + 1) (18 + t))) (σ (r + 2) t) (foI (leB σ r t) (-1) (σ r 1))
theorem climbV_r {sd ht lg fr : Int} (h : fr ≤ ht) : fr ≤ climbV sd ht lg fr ∧ climbV sd ht lg fr ≤ ht := by
  have := clm_in (sdS sd) lg fr (ht - fr).toNat
  unfold climbV
  omega
theorem isHeld_ok {d : Nat} {σ : SG} {Q : Option AV → SG → Prop} {t : Int} {p : Nat} (hp : p = 34 ∨ p = 36) {r : Nat} (hr : r = 5 ∨ r = 16) (h : (2 ≤ d ∧ RLM σ r ∧ SR (σ (p + 1)) ∧ 0 ≤ t ∧ t < σ r 0) ∧ Q (some (.inl (hldC σ p r t))) σ) : AW d mX6_isHeld 0 [some (.inr (.inr p)), some (.inr (.inr r)), some (.inl t), none, none] [] σ Q := by
  obtain ⟨⟨hd, hR, hS, h0, h1⟩, hq⟩ := h
  have hR1 := hR.1
  have hs := hS t h0 (by omega)
  have hb := bor_r hs.1 hs.2.2.2
  have hh := hR.2.2.1 t h0 h1
  have hl := leB_r (t := t) hR (σ r 1) hR.2.1.1 (Int.le_refl _)
  have hcr := climbV_r (sd := bor (σ (p + 1) (6 + t)) (σ (p + 1) (18 + t))) (ht := σ (r + 2) t) (lg := foI (leB σ r t) (-1) (σ r 1)) (fr := 0) (by omega)
  unfold hldC hldV at hq
  refine isHeld_0 hp hr ⟨by omega, ⟨hR, by omega⟩, by omega, by omega, fun c => ?_, fun c => ⟨by omega, by omega, by omega, by omega, by omega, by omega, fun c2 => ?_, fun c2 => ?_⟩⟩
  · rwa [if_pos (Or.inl c)] at hq
  · rwa [if_neg (fun z => by rcases z with z | z; exact c z; exact c2 z)] at hq
  · rwa [if_pos (Or.inr c2)] at hq
