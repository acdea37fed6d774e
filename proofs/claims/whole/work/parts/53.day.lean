/-! ===== a day goes by (wip/whole/gen53.py) ===== -/
def kX6_passDay_0 : List BI := [bi (.iconst 0) 1 [] 0, bi (.istore_n 2) 1 [] 0, bi (.iconst 0) 1 [] 0, bi (.istore_n 3) 1 [] 0]
theorem cX6_passDay_0 : chk mX6_passDay 0 kX6_passDay_0 = true := by decide +kernel
theorem passDay_0 {d : Nat} {σ : SG} {Q : Option AV → SG → Prop} {bn : Int} {p : Nat} (hp : p = 34 ∨ p = 36) (h : AW d mX6_passDay 4 [some (.inr (.inr p)), some (.inl bn), some (.inl 0), some (.inl 0), none] [] σ Q) : AW d mX6_passDay 0 [some (.inr (.inr p)), some (.inl bn), none, none, none] [] σ Q := by
  rcases hp with rfl | rfl <;> exact AW.blk kX6_passDay_0 cX6_passDay_0 (h)
def kX6_passDay_141 : List BI := [bi (.aload_n 0) 1 [] 0, bi (.getfield 11) 3 [6, 0] 0, bi (.iconst 0) 1 [] 0, bi (.dup2) 1 [] 0, bi (.iaload) 1 [] 0, bi (.iconst 1) 1 [] 0, bi (.iadd) 1 [] 0, bi (.iastore) 1 [] 0, bi (.iload_n 2) 1 [] 0, bi (.ireturn) 1 [] 0]
theorem cX6_passDay_141 : chk mX6_passDay 141 kX6_passDay_141 = true := by decide +kernel
def kX6_passDay_135 : List BI := [bi (.iinc 3 (1)) 3 [] 0, bi (.goto (-134)) 3 [4] 0]
theorem cX6_passDay_135 : chk mX6_passDay 135 kX6_passDay_135 = true := by decide +kernel
def kX6_passDay_23 : List BI := [bi (.bipush (22)) 2 [] 0, bi (.iload_n 3) 1 [] 0, bi (.bipush (8)) 2 [] 0, bi (.imul) 1 [] 0, bi (.iadd) 1 [] 0, bi (.istore 4) 2 [] 0, bi (.aload_n 0) 1 [] 0, bi (.getfield 11) 3 [6, 0] 0, bi (.iconst 2) 1 [] 0, bi (.aload_n 0) 1 [] 0, bi (.getfield 11) 3 [6, 0] 0, bi (.iload 4) 2 [] 0, bi (.iconst 2) 1 [] 0, bi (.iadd) 1 [] 0, bi (.iaload) 1 [] 0, bi (.iadd) 1 [] 0, bi (.dup2) 1 [] 0, bi (.iaload) 1 [] 0, bi (.aload_n 0) 1 [] 0, bi (.getfield 11) 3 [6, 0] 0, bi (.iload 4) 2 [] 0, bi (.iconst 4) 1 [] 0, bi (.iadd) 1 [] 0, bi (.iaload) 1 [] 0, bi (.isub) 1 [] 0, bi (.iastore) 1 [] 0, bi (.aload_n 0) 1 [] 0, bi (.getfield 11) 3 [6, 0] 0, bi (.iconst 2) 1 [] 0, bi (.aload_n 0) 1 [] 0, bi (.getfield 11) 3 [6, 0] 0, bi (.iload 4) 2 [] 0, bi (.iconst 0) 1 [] 0, bi (.iadd) 1 [] 0, bi (.iaload) 1 [] 0, bi (.iadd) 1 [] 0, bi (.dup2) 1 [] 0, bi (.iaload) 1 [] 0, bi (.aload_n 0) 1 [] 0, bi (.getfield 11) 3 [6, 0] 0, bi (.iload 4) 2 [] 0, bi (.iconst 4) 1 [] 0, bi (.iadd) 1 [] 0, bi (.iaload) 1 [] 0, bi (.iadd) 1 [] 0, bi (.iastore) 1 [] 0, bi (.aload_n 0) 1 [] 0, bi (.getfield 11) 3 [6, 0] 0, bi (.iload 4) 2 [] 0, bi (.iconst 5) 1 [] 0, bi (.iadd) 1 [] 0, bi (.dup2) 1 [] 0, bi (.iaload) 1 [] 0, bi (.iconst 1) 1 [] 0, bi (.iadd) 1 [] 0, bi (.iastore) 1 [] 0, bi (.aload_n 0) 1 [] 0, bi (.getfield 11) 3 [6, 0] 0, bi (.iload 4) 2 [] 0, bi (.iconst 3) 1 [] 0, bi (.iadd) 1 [] 0, bi (.dup2) 1 [] 0, bi (.iaload) 1 [] 0, bi (.iconst 1) 1 [] 0, bi (.isub) 1 [] 0, bi (.iastore) 1 [] 0, bi (.aload_n 0) 1 [] 0, bi (.getfield 11) 3 [6, 0] 0, bi (.iload 4) 2 [] 0, bi (.iconst 3) 1 [] 0, bi (.iadd) 1 [] 0, bi (.iaload) 1 [] 0, bi (.ifCond .ne (12)) 3 [135] 0, bi (.aload_n 0) 1 [] 0, bi (.iload_n 3) 1 [] 0, bi (.iload_n 1) 1 [] 0, bi (.invokevirtual 85) 3 [mX6_endLoan, 3, 7, 6] 0, bi (.iinc 2 (1)) 3 [] 0, bi (.iinc 3 (1)) 3 [] 0, bi (.goto (-134)) 3 [4] 0]
theorem cX6_passDay_23 : chk mX6_passDay 23 kX6_passDay_23 = true := by decide +kernel
def kX6_passDay_4 : List BI := [bi (.iload_n 3) 1 [] 0, bi (.aload_n 0) 1 [] 0, bi (.invokevirtual 70) 3 [mX6_loans, 1, 1, 6] 0, bi (.if_icmp .ge (132)) 3 [141] 0, bi (.aload_n 0) 1 [] 0, bi (.iload_n 3) 1 [] 0, bi (.invokevirtual 73) 3 [mX6_hasEnded, 2, 2, 6] 0, bi (.ifCond .eq (6)) 3 [23] 0, bi (.goto (115)) 3 [135] 0]
theorem cX6_passDay_4 : chk mX6_passDay 4 kX6_passDay_4 = true := by decide +kernel
theorem passDay_4 {d : Nat} {σ : SG} {Q : Option AV → SG → Prop} {bn l2 l3 : Int} {p : Nat} (hp : p = 34 ∨ p = 36) (h : (0 < d) ∧ (r3 l3 ∧ r3 (σ (p + 1) 1)) ∧ ((σ (p + 1) 1) ≤ l3 → (∀ S1 : SG, S1 = up σ (p + 1) 0 ((σ (p + 1) 0) + 1) → Q (some (.inl l2)) S1)) ∧ (l3 < (σ (p + 1) 1) → (0 < d) ∧ (0 < d - 1) ∧ (0 ≤ ((22 + (l3 * 8)) + 7) ∧ ((22 + (l3 * 8)) + 7) < 214) ∧ (r3 (σ (p + 1) ((22 + (l3 * 8)) + 7))) ∧ ((σ (p + 1) ((22 + (l3 * 8)) + 7)) ≠ 1 → (0 ≤ ((22 + (l3 * 8)) + 2) ∧ ((22 + (l3 * 8)) + 2) < 214) ∧ (0 ≤ (2 + (σ (p + 1) ((22 + (l3 * 8)) + 2))) ∧ (2 + (σ (p + 1) ((22 + (l3 * 8)) + 2))) < 214) ∧ (0 ≤ ((22 + (l3 * 8)) + 4) ∧ ((22 + (l3 * 8)) + 4) < 214) ∧ (0 ≤ (2 + (σ (p + 1) ((22 + (l3 * 8)) + 2))) ∧ (2 + (σ (p + 1) ((22 + (l3 * 8)) + 2))) < 214) ∧ (∀ S2 : SG, S2 = up σ (p + 1) (2 + (σ (p + 1) ((22 + (l3 * 8)) + 2))) ((σ (p + 1) (2 + (σ (p + 1) ((22 + (l3 * 8)) + 2)))) - (σ (p + 1) ((22 + (l3 * 8)) + 4))) → (0 ≤ ((22 + (l3 * 8)) + 0) ∧ ((22 + (l3 * 8)) + 0) < 214) ∧ (0 ≤ (2 + (S2 (p + 1) ((22 + (l3 * 8)) + 0))) ∧ (2 + (S2 (p + 1) ((22 + (l3 * 8)) + 0))) < 214) ∧ (0 ≤ ((22 + (l3 * 8)) + 4) ∧ ((22 + (l3 * 8)) + 4) < 214) ∧ (0 ≤ (2 + (S2 (p + 1) ((22 + (l3 * 8)) + 0))) ∧ (2 + (S2 (p + 1) ((22 + (l3 * 8)) + 0))) < 214) ∧ (∀ S3 : SG, S3 = up S2 (p + 1) (2 + (S2 (p + 1) ((22 + (l3 * 8)) + 0))) ((S2 (p + 1) (2 + (S2 (p + 1) ((22 + (l3 * 8)) + 0)))) + (S2 (p + 1) ((22 + (l3 * 8)) + 4))) → (0 ≤ ((22 + (l3 * 8)) + 5) ∧ ((22 + (l3 * 8)) + 5) < 214) ∧ (0 ≤ ((22 + (l3 * 8)) + 5) ∧ ((22 + (l3 * 8)) + 5) < 214) ∧ (∀ S4 : SG, S4 = up S3 (p + 1) ((22 + (l3 * 8)) + 5) ((S3 (p + 1) ((22 + (l3 * 8)) + 5)) + 1) → (0 ≤ ((22 + (l3 * 8)) + 3) ∧ ((22 + (l3 * 8)) + 3) < 214) ∧ (0 ≤ ((22 + (l3 * 8)) + 3) ∧ ((22 + (l3 * 8)) + 3) < 214) ∧ (∀ S5 : SG, S5 = up S4 (p + 1) ((22 + (l3 * 8)) + 3) ((S4 (p + 1) ((22 + (l3 * 8)) + 3)) - 1) → (0 ≤ ((22 + (l3 * 8)) + 3) ∧ ((22 + (l3 * 8)) + 3) < 214) ∧ (r3 (S5 (p + 1) ((22 + (l3 * 8)) + 3))) ∧ ((S5 (p + 1) ((22 + (l3 * 8)) + 3)) ≠ 0 → AW d mX6_passDay 4 [some (.inr (.inr p)), some (.inl bn), some (.inl l2), some (.inl (l3 + 1)), none] [] S5 Q) ∧ ((S5 (p + 1) ((22 + (l3 * 8)) + 3)) = 0 → (0 < d) ∧ (1 ≤ d - 1 ∧ LR (S5 (p + 1)) ∧ 0 ≤ l3 ∧ l3 < (S5 (p + 1)) 1 ∧ r3 bn) ∧ AW d mX6_passDay 4 [some (.inr (.inr p)), some (.inl bn), some (.inl (l2 + 1)), some (.inl (l3 + 1)), none] [] (putF S5 (p + 1) (enF (S5 (p + 1)) l3 (enH (S5 (p + 1)) l3 bn))) Q)))))) ∧ ((σ (p + 1) ((22 + (l3 * 8)) + 7)) = 1 → AW d mX6_passDay 4 [some (.inr (.inr p)), some (.inl bn), some (.inl l2), some (.inl (l3 + 1)), none] [] σ Q))) : AW d mX6_passDay 4 [some (.inr (.inr p)), some (.inl bn), some (.inl l2), some (.inl l3), none] [] σ Q := by
  rcases hp with rfl | rfl <;> exact AW.blk kX6_passDay_4 cX6_passDay_4 (⟨(h).1, AW.blk kX6_loans_0 cX6_loans_0 (⟨⟨(by decide), (by decide)⟩, ⟨⟨(((h).2).1).1, (((h).2).1).2⟩, ⟨fun c8 => AW.blk kX6_passDay_141 cX6_passDay_141 (⟨⟨(by decide), (by decide)⟩, ⟨⟨(by decide), (by decide)⟩, ((((h).2).2).1 c8) _ rfl⟩⟩), fun c8 => ⟨((((h).2).2).2 c8).1, AW.blk kX6_hasEnded_0 cX6_hasEnded_0 (⟨(((((h).2).2).2 c8).2).1, AW.blk kX6_ofLoan_0 cX6_ofLoan_0 (⟨⟨(((((((h).2).2).2 c8).2).2).1).1, (((((((h).2).2).2 c8).2).2).1).2⟩, ⟨⟨(((((((h).2).2).2 c8).2).2).2).1, (by decide)⟩, ⟨fun c7 => AW.blk kX6_hasEnded_15 cX6_hasEnded_15 (⟨(by decide), ⟨(by decide), ⟨fun _ => AW.blk kX6_passDay_23 cX6_passDay_23 (⟨⟨((((((((((h).2).2).2 c8).2).2).2).2).1 c7).1).1, ((((((((((h).2).2).2 c8).2).2).2).2).1 c7).1).2⟩, ⟨⟨(((((((((((h).2).2).2 c8).2).2).2).2).1 c7).2).1).1, (((((((((((h).2).2).2 c8).2).2).2).2).1 c7).2).1).2⟩, ⟨⟨((((((((((((h).2).2).2 c8).2).2).2).2).1 c7).2).2).1).1, ((((((((((((h).2).2).2 c8).2).2).2).2).1 c7).2).2).1).2⟩, ⟨⟨(((((((((((((h).2).2).2 c8).2).2).2).2).1 c7).2).2).2).1).1, (((((((((((((h).2).2).2 c8).2).2).2).2).1 c7).2).2).2).1).2⟩, ⟨⟨(((((((((((((((h).2).2).2 c8).2).2).2).2).1 c7).2).2).2).2) _ rfl).1).1, (((((((((((((((h).2).2).2 c8).2).2).2).2).1 c7).2).2).2).2) _ rfl).1).2⟩, ⟨⟨((((((((((((((((h).2).2).2 c8).2).2).2).2).1 c7).2).2).2).2) _ rfl).2).1).1, ((((((((((((((((h).2).2).2 c8).2).2).2).2).1 c7).2).2).2).2) _ rfl).2).1).2⟩, ⟨⟨(((((((((((((((((h).2).2).2 c8).2).2).2).2).1 c7).2).2).2).2) _ rfl).2).2).1).1, (((((((((((((((((h).2).2).2 c8).2).2).2).2).1 c7).2).2).2).2) _ rfl).2).2).1).2⟩, ⟨⟨((((((((((((((((((h).2).2).2 c8).2).2).2).2).1 c7).2).2).2).2) _ rfl).2).2).2).1).1, ((((((((((((((((((h).2).2).2 c8).2).2).2).2).1 c7).2).2).2).2) _ rfl).2).2).2).1).2⟩, ⟨⟨((((((((((((((((((((h).2).2).2 c8).2).2).2).2).1 c7).2).2).2).2) _ rfl).2).2).2).2) _ rfl).1).1, ((((((((((((((((((((h).2).2).2 c8).2).2).2).2).1 c7).2).2).2).2) _ rfl).2).2).2).2) _ rfl).1).2⟩, ⟨⟨(((((((((((((((((((((h).2).2).2 c8).2).2).2).2).1 c7).2).2).2).2) _ rfl).2).2).2).2) _ rfl).2).1).1, (((((((((((((((((((((h).2).2).2 c8).2).2).2).2).1 c7).2).2).2).2) _ rfl).2).2).2).2) _ rfl).2).1).2⟩, ⟨⟨(((((((((((((((((((((((h).2).2).2 c8).2).2).2).2).1 c7).2).2).2).2) _ rfl).2).2).2).2) _ rfl).2).2) _ rfl).1).1, (((((((((((((((((((((((h).2).2).2 c8).2).2).2).2).1 c7).2).2).2).2) _ rfl).2).2).2).2) _ rfl).2).2) _ rfl).1).2⟩, ⟨⟨((((((((((((((((((((((((h).2).2).2 c8).2).2).2).2).1 c7).2).2).2).2) _ rfl).2).2).2).2) _ rfl).2).2) _ rfl).2).1).1, ((((((((((((((((((((((((h).2).2).2 c8).2).2).2).2).1 c7).2).2).2).2) _ rfl).2).2).2).2) _ rfl).2).2) _ rfl).2).1).2⟩, ⟨⟨((((((((((((((((((((((((((h).2).2).2 c8).2).2).2).2).1 c7).2).2).2).2) _ rfl).2).2).2).2) _ rfl).2).2) _ rfl).2).2) _ rfl).1).1, ((((((((((((((((((((((((((h).2).2).2 c8).2).2).2).2).1 c7).2).2).2).2) _ rfl).2).2).2).2) _ rfl).2).2) _ rfl).2).2) _ rfl).1).2⟩, ⟨((((((((((((((((((((((((((h).2).2).2 c8).2).2).2).2).1 c7).2).2).2).2) _ rfl).2).2).2).2) _ rfl).2).2) _ rfl).2).2) _ rfl).2).1, ⟨fun c6 => AW.blk kX6_passDay_135 cX6_passDay_135 (AW.drop 4 ((((((((((((((((((((((((((((h).2).2).2 c8).2).2).2).2).1 c7).2).2).2).2) _ rfl).2).2).2).2) _ rfl).2).2) _ rfl).2).2) _ rfl).2).2).1 c6)), fun c6 => ⟨((((((((((((((((((((((((((((h).2).2).2 c8).2).2).2).2).1 c7).2).2).2).2) _ rfl).2).2).2).2) _ rfl).2).2) _ rfl).2).2) _ rfl).2).2).2 c6).1, endLoan_ok (by decide) ⟨(((((((((((((((((((((((((((((h).2).2).2 c8).2).2).2).2).1 c7).2).2).2).2) _ rfl).2).2).2).2) _ rfl).2).2) _ rfl).2).2) _ rfl).2).2).2 c6).2).1, AW.drop 4 ((((((((((((((((((((((((((((((h).2).2).2 c8).2).2).2).2).1 c7).2).2).2).2) _ rfl).2).2).2).2) _ rfl).2).2) _ rfl).2).2) _ rfl).2).2).2 c6).2).2)⟩⟩⟩⟩⟩⟩⟩⟩⟩⟩⟩⟩⟩⟩⟩⟩⟩), fun c => absurd c (by decide)⟩⟩⟩), fun c7 => AW.blk kX6_hasEnded_16 cX6_hasEnded_16 (⟨(by decide), ⟨(by decide), ⟨fun c => absurd c (by decide), fun _ => AW.blk kX6_passDay_135 cX6_passDay_135 (((((((((h).2).2).2 c8).2).2).2).2).2 c7)⟩⟩⟩)⟩⟩⟩)⟩)⟩⟩⟩⟩)⟩)
theorem payF_ne {f : Int → Int} {k j : Int} (b1 : j ≠ 22 + k * 8 + 3) (b2 : j ≠ 22 + k * 8 + 5) (b3 : j ≠ 2 + f (22 + k * 8 + 0)) (b4 : j ≠ 2 + f (22 + k * 8 + 2)) : payF f k j = f j := by
  unfold payF
  rw [if_neg b1, if_neg b2, if_neg b3, if_neg b4]
theorem enF_ne {f : Int → Int} {k hm j : Int} (b1 : j ≠ 22 + k * 8 + 7) (b2 : j ≠ 22 + k * 8 + 6) (b3 : j ≠ 18 + f (22 + k * 8 + 2)) (b4 : j ≠ hm + f (22 + k * 8 + 0)) (b5 : j ≠ 10 + f (22 + k * 8 + 0)) : enF f k hm j = f j := by
  unfold enF
  rw [if_neg b1, if_neg b2, if_neg (fun z => b3 z.2), if_neg b4, if_neg b5]
def dyF (bn : Int) : Int → (Int → Int) × Int → (Int → Int) × Int := fun k q => if q.1 (22 + k * 8 + 7) = 1 then q else if payF q.1 k (22 + k * 8 + 3) = 0 then (enF (payF q.1 k) k (enH (payF q.1 k) k bn), q.2 + 1) else (payF q.1 k, q.2)
def mdyF (b : Int) : Int → (Int → Int) × Int → (Int → Int) × Int := fun k q => if q.1 (62 + 8 * k + 7) ≠ 0 then q else if mpayF q.1 k (62 + 8 * k + 3) ≤ 0 then (menF (mpayF q.1 k) k (if mpayF q.1 k (62 + 8 * k + 5) < b then 6 else 14), q.2 + 1) else (mpayF q.1 k, q.2)
theorem RS.step {tw : Int} {H : Int → Int} {B D : Int} {f g : Int → Int} (h : RS tw H B D f g) (ht : tw ≤ 4) (hH : ∀ t, 0 ≤ t → t < tw → 3 ≤ H t ∧ H t ≤ 14) (hD : D < 5000) {k : Int} (k0 : 0 ≤ k) (k1 : k < f 1) (bn e : Int) : RS tw H (B + 99) D (dyF bn k (f, e)).1 (mdyF bn k (g, e)).1 ∧ (dyF bn k (f, e)).2 = (mdyF bn k (g, e)).2 ∧ (dyF bn k (f, e)).1 1 = f 1 ∧ (dyF bn k (f, e)).1 0 = f 0 ∧ (e ≤ (dyF bn k (f, e)).2 ∧ (dyF bn k (f, e)).2 ≤ e + 1) := by
  have hL := h.2.2.2.2.2.1
  obtain ⟨el, a1, a2, a3, a4, a5, a6, a7⟩ := hL k k0 k1
  have hh := hH _ a1.1 a1.2
  have h0 := h.1
  have h1 := h.2.1
  have e7 := el 7 (by decide) (by decide)
  unfold dyF mdyF
  dsimp only
  by_cases ko : f (22 + k * 8 + 7) = 1
  · rw [if_pos ko, if_pos (show g (62 + 8 * k + 7) ≠ 0 by omega)]
    exact ⟨h.mono (by omega) (Int.le_refl _), rfl, rfl, rfl, by omega⟩
  · have ko0 : f (22 + k * 8 + 7) = 0 := by omega
    rw [if_neg ko, if_neg (show ¬ (g (62 + 8 * k + 7) ≠ 0) by omega)]
    have kl : 1 ≤ f (22 + k * 8 + 3) := by omega
    have P := h.pay ht hH k0 k1 ko0 kl (by omega)
    have F3 : payF f k (22 + k * 8 + 3) = f (22 + k * 8 + 3) - 1 := by unfold payF; rw [if_pos rfl]
    have Fo : ∀ j, 22 ≤ j → j ≠ 22 + k * 8 + 3 → j ≠ 22 + k * 8 + 5 → payF f k j = f j := fun j b1 b2 b3 => payF_ne b2 b3 (by omega) (by omega)
    have F1 : payF f k 1 = f 1 := payF_ne (by omega) (by omega) (by omega) (by omega)
    have F0 : payF f k 0 = f 0 := payF_ne (by omega) (by omega) (by omega) (by omega)
    obtain ⟨pl, p1, p2, p3, p4, p5, p6, p7⟩ := P.2.2.2.2.2.1 k k0 (by omega)
    have p30 := pl 3 (by decide) (by decide)
    have p50 := pl 5 (by decide) (by decide)
    by_cases hz : payF f k (22 + k * 8 + 3) = 0
    · rw [if_pos hz, if_pos (show mpayF g k (62 + 8 * k + 3) ≤ 0 by omega), p50]
      have kp : payF f k (22 + k * 8 + 7) = 0 := by rw [Fo _ (by omega) (by omega) (by omega)]; exact ko0
      have hm : enH (payF f k) k bn = 6 ∨ enH (payF f k) k bn = 14 := by
        unfold enH
        split
        · exact Or.inl rfl
        · exact Or.inr rfl
      have E := P.ends ht hH (k := k) (hm := enH (payF f k) k bn) k0 (by omega) kp hm
      have ee : (if payF f k (22 + k * 8 + 5) < bn then (6 : Int) else 14) = enH (payF f k) k bn := rfl
      rw [ee]
      generalize enH (payF f k) k bn = hh2 at *
      have q0 : payF f k (22 + k * 8 + 0) = f (22 + k * 8 + 0) := Fo _ (by omega) (by omega) (by omega)
      have q2 : payF f k (22 + k * 8 + 2) = f (22 + k * 8 + 2) := Fo _ (by omega) (by omega) (by omega)
      have G1 : enF (payF f k) k hh2 1 = f 1 := by rw [enF_ne (by omega) (by omega) (by omega) (by omega) (by omega), F1]
      have G0 : enF (payF f k) k hh2 0 = f 0 := by rw [enF_ne (by omega) (by omega) (by omega) (by omega) (by omega), F0]
      refine ⟨E.low (by rw [G0]; omega) (fun i i0 i1 io => ?_), rfl, G1, G0, by dsimp only; omega⟩
      rw [G1] at i1
      by_cases hik : i = k
      · subst hik
        unfold enF at io
        rw [if_pos rfl] at io
        cases io
      · rw [enF_ne (by omega) (by omega) (by omega) (by omega) (by omega), Fo _ (by omega) (by omega) (by omega)] at io
        rw [enF_ne (by omega) (by omega) (by omega) (by omega) (by omega), Fo _ (by omega) (by omega) (by omega)]
        have := (hL i i0 i1).2.2.2.2.2.2.2
        omega
    · rw [if_neg hz, if_neg (show ¬ mpayF g k (62 + 8 * k + 3) ≤ 0 by omega)]
      refine ⟨P.low (by rw [F0]; omega) (fun i i0 i1 io => ?_), rfl, F1, F0, by dsimp only; omega⟩
      rw [F1] at i1
      by_cases hik : i = k
      · subst hik
        omega
      · rw [Fo _ (by omega) (by omega) (by omega)] at io
        rw [Fo _ (by omega) (by omega) (by omega)]
        have := (hL i i0 i1).2.2.2.2.2.2.2
        omega
theorem RS.steps {tw : Int} {H : Int → Int} {B D : Int} {f g : Int → Int} (h : RS tw H B D f g) (ht : tw ≤ 4) (hH : ∀ t, 0 ≤ t → t < tw → 3 ≤ H t ∧ H t ≤ 14) (hD : D < 5000) (bn : Int) : ∀ n : Nat, (n : Int) ≤ f 1 → RS tw H (B + 99 * n) D (foI (dyF bn) (f, 0) (n : Int)).1 (foI (mdyF bn) (g, 0) (n : Int)).1 ∧ (foI (dyF bn) (f, 0) (n : Int)).2 = (foI (mdyF bn) (g, 0) (n : Int)).2 ∧ (foI (dyF bn) (f, 0) (n : Int)).1 1 = f 1 ∧ (foI (dyF bn) (f, 0) (n : Int)).1 0 = f 0 ∧ (0 ≤ (foI (dyF bn) (f, 0) (n : Int)).2 ∧ (foI (dyF bn) (f, 0) (n : Int)).2 ≤ n) := by
  intro n
  induction n with
  | zero => intro _; exact ⟨h.mono (by omega) (Int.le_refl _), rfl, rfl, rfl, by show (0 : Int) ≤ 0 ∧ (0 : Int) ≤ _; omega⟩
  | succ n ih =>
    intro hn
    obtain ⟨i1, i2, i3, i4, i5⟩ := ih (by omega)
    rw [show ((n + 1 : Nat) : Int) = (n : Int) + 1 by omega, foI_s _ _ (by omega), foI_s _ _ (by omega)]
    have s := i1.step ht hH hD (k := n) (by omega) (by omega) bn (foI (dyF bn) (f, 0) (n : Int)).2
    have e2 : ((foI (mdyF bn) (g, 0) (n : Int)).1, (foI (dyF bn) (f, 0) (n : Int)).2) = foI (mdyF bn) (g, 0) (n : Int) := by rw [i2]
    have e1 : ((foI (dyF bn) (f, 0) (n : Int)).1, (foI (dyF bn) (f, 0) (n : Int)).2) = foI (dyF bn) (f, 0) (n : Int) := rfl
    rw [e2, e1] at s
    obtain ⟨s1, s2, s3, s4, s5⟩ := s
    exact ⟨s1.mono (by omega) (Int.le_refl _), s2, s3.trans i3, s4.trans i4, by omega⟩
def dayV (f : Int → Int) (bn : Int) : (Int → Int) × Int := foI (dyF bn) (f, 0) (f 1)
def mdayV (g : Int → Int) (b : Int) : (Int → Int) × Int := foI (mdyF b) (g, 0) (g 1)
def dyR (f : Int → Int) (bn : Int) : Int → Int := upf (dayV f bn).1 0 ((dayV f bn).1 0 + 1)
def mdyR (g : Int → Int) (b : Int) : Int → Int := upf (mdayV g b).1 0 ((mdayV g b).1 0 + 1)
/-- a day goes by on both sides -/
theorem RS.day {tw : Int} {H : Int → Int} {B D : Int} {f g : Int → Int} (h : RS tw H B D f g) (ht : tw ≤ 4) (hH : ∀ t, 0 ≤ t → t < tw → 3 ≤ H t ∧ H t ≤ 14) (hD : D < 5000) (bn : Int) : RS tw H (B + 2376) (D + 1) (dyR f bn) (mdyR g bn) ∧ (dayV f bn).2 = (mdayV g bn).2 ∧ dyR f bn 0 = f 0 + 1 ∧ dyR f bn 1 = f 1 ∧ (0 ≤ (dayV f bn).2 ∧ (dayV f bn).2 ≤ 24) := by
  have h1 := h.2.1
  have s := h.steps ht hH hD bn (f 1).toNat (by omega)
  rw [show (((f 1).toNat : Nat) : Int) = f 1 by omega] at s
  obtain ⟨s1, s2, s3, s4, s5⟩ := s
  have eg : foI (mdyF bn) (g, 0) (f 1) = mdayV g bn := by unfold mdayV; rw [h1.2.2]
  rw [eg] at s1 s2
  change RS tw H (B + 99 * f 1) D (dayV f bn).1 (mdayV g bn).1 at s1
  change (dayV f bn).2 = _ at s2
  change (dayV f bn).1 1 = f 1 at s3
  change (dayV f bn).1 0 = f 0 at s4
  change 0 ≤ (dayV f bn).2 ∧ (dayV f bn).2 ≤ f 1 at s5
  have t := s1.tick ht hH
  refine ⟨t.mono (by omega) (Int.le_refl _), s2, ?_, ?_, by omega⟩
  · unfold dyR
    rw [upf_at, s4]
  · unfold dyR
    rw [upf_ne (by decide), s3]
theorem passDay_ok {d : Nat} {σ : SG} {Q : Option AV → SG → Prop} {bn : Int} {p : Nat} (hp : p = 34 ∨ p = 36) {tw : Int} {H : Int → Int} {B D : Int} {g : Int → Int} (hR : RS tw H B D (σ (p + 1)) g) (ht : tw ≤ 4) (hH : ∀ t, 0 ≤ t → t < tw → 3 ≤ H t ∧ H t ≤ 14) (hD : D < 5000) (hd : 2 ≤ d) (hb : r3 bn) (hq : Q (some (.inl (dayV (σ (p + 1)) bn).2)) (putF σ (p + 1) (dyR (σ (p + 1)) bn))) : AW d mX6_passDay 0 [some (.inr (.inr p)), some (.inl bn), none, none, none] [] σ Q := by
  generalize hf : σ (p + 1) = f at *
  have h1 := hR.2.1
  have hP : putF σ (p + 1) f = σ := by rw [← hf]; exact putF_self σ (p + 1)
  refine passDay_0 hp ?_
  have key := downInd (P := fun i => AW d mX6_passDay 4 [some (.inr (.inr p)), some (.inl bn), some (.inl (foI (dyF bn) (f, 0) i).2), some (.inl i), none] [] (putF σ (p + 1) (foI (dyF bn) (f, 0) i).1) Q) (lo := 0) (hi := f 1) h1.1 ?_ ?_
  · change AW d mX6_passDay 4 [some (.inr (.inr p)), some (.inl bn), some (.inl 0), some (.inl 0), none] [] (putF σ (p + 1) f) Q at key
    rwa [hP] at key
  · have s := hR.steps ht hH hD bn (f 1).toNat (by omega)
    rw [show (((f 1).toNat : Nat) : Int) = f 1 by omega] at s
    refine passDay_4 hp ⟨by omega, ?_, fun c S1 e1 => ?_, fun c => ?_⟩
    · rw [putF_at, s.2.2.1]
      omega
    · rw [e1, putF_at, putF_upf]
      exact hq
    · rw [putF_at, s.2.2.1] at c
      omega
  · intro i i0 i1 ih
    have s := hR.steps ht hH hD bn i.toNat (by omega)
    rw [show ((i.toNat : Nat) : Int) = i by omega] at s
    rw [foI_s _ _ i0] at ih
    generalize foI (dyF bn) (f, 0) i = q at s ih ⊢
    obtain ⟨s1, s2, s3, s4, s5⟩ := s
    obtain ⟨fq, eq⟩ := q
    dsimp only at s1 s2 s3 s4 s5 ih ⊢
    have hL := s1.lr ht hH
    obtain ⟨c0, c1, c2, c3, c4, c5, c6, c7⟩ := hL.2 i i0 (by omega)
    unfold dyF at ih
    dsimp only at ih
    have fs := s1.step ht hH hD (k := i) i0 (by omega) bn eq
    unfold dyF at fs
    dsimp only at fs
    refine passDay_4 hp ?_
    rw [putF_at]
    refine ⟨by omega, by omega, fun c => by omega, fun _ => ⟨by omega, by omega, by omega, by omega, fun c => ?_, fun c => ?_⟩⟩
    · rw [if_neg c] at ih fs
      refine ⟨by omega, by omega, by omega, by omega, fun S2 e2 => ?_⟩
      rw [putF_upf] at e2
      have z2 : S2 (p + 1) = upf fq (2 + fq (22 + i * 8 + 2)) (fq (2 + fq (22 + i * 8 + 2)) - fq (22 + i * 8 + 4)) := by rw [e2, putF_at]
      have z20 : S2 (p + 1) (22 + i * 8 + 0) = fq (22 + i * 8 + 0) := by rw [z2, upf_ne (by omega)]
      have z24 : S2 (p + 1) (22 + i * 8 + 4) = fq (22 + i * 8 + 4) := by rw [z2, upf_ne (by omega)]
      rw [z20, z24]
      refine ⟨by omega, by omega, by omega, by omega, fun S3 e3 => ?_⟩
      rw [e2, putF_upf, putF_at] at e3
      have z3 : S3 (p + 1) = upf (upf fq (2 + fq (22 + i * 8 + 2)) (fq (2 + fq (22 + i * 8 + 2)) - fq (22 + i * 8 + 4))) (2 + fq (22 + i * 8 + 0)) (upf fq (2 + fq (22 + i * 8 + 2)) (fq (2 + fq (22 + i * 8 + 2)) - fq (22 + i * 8 + 4)) (2 + fq (22 + i * 8 + 0)) + fq (22 + i * 8 + 4)) := by rw [e3, putF_at]
      have z35 : S3 (p + 1) (22 + i * 8 + 5) = fq (22 + i * 8 + 5) := by rw [z3, upf_ne (by omega), upf_ne (by omega)]
      rw [z35]
      refine ⟨by omega, by omega, fun S4 e4 => ?_⟩
      rw [e3, putF_upf] at e4
      have z43 : S4 (p + 1) (22 + i * 8 + 3) = fq (22 + i * 8 + 3) := by rw [e4, putF_at, upf_ne (by omega), upf_ne (by omega), upf_ne (by omega)]
      rw [z43]
      refine ⟨by omega, by omega, fun S5 e5 => ?_⟩
      have e5' : S5 = putF σ (p + 1) (payF fq i) := by
        rw [e5, e4, putF_upf]
        congr 1
        funext j
        unfold payF
        simp only [upf]
        exact ite2 (fun z => by rw [z]) (fun _ => ite2 (fun z => by rw [z]) (fun _ => ite2 (fun z => by rw [← z]; split <;> simp_all) (fun _ => ite2 (fun z => by rw [z]) (fun _ => rfl))))
      have z5 : S5 (p + 1) = payF fq i := by rw [e5', putF_at]
      have F3 : payF fq i (22 + i * 8 + 3) = fq (22 + i * 8 + 3) - 1 := by unfold payF; rw [if_pos rfl]
      rw [z5]
      refine ⟨by omega, by omega, fun cz => ?_, fun cz => ⟨by omega, ⟨by omega, ?_, i0, ?_, hb⟩, ?_⟩⟩
      · rw [if_neg cz] at ih
        rw [e5']
        exact ih
      · have P := s1.pay ht hH (k := i) i0 (by omega) (by omega) (by have := (s1.2.2.2.2.2.1 i i0 (by omega)).2.2.2.2.2.2.2; omega) (by omega)
        exact P.lr ht hH
      · rw [payF_ne (by omega) (by omega) (by omega) (by omega)]
        omega
      · rw [if_pos cz] at ih
        rw [e5', putF_putF]
        exact ih
    · rw [if_pos c] at ih
      exact ih
