/-! ===== a realm's statements, pure ===== -/
def rUp (ρ : SG) (a : Nat) (i v : Int) : SG := putF ρ a (upf (ρ a) i v)
theorem rUp_at (ρ : SG) (a : Nat) (i v : Int) : rUp ρ a i v a = upf (ρ a) i v := putF_at ..
theorem rUp_ne {ρ : SG} {a b : Nat} {i v : Int} (h : b ≠ a) : rUp ρ a i v b = ρ b := putF_ne h
abbrev SRv : Type := Sum (Int × Int) (SG × Int × Int)
def srm (X : PXv) (F : Int → SG) : SRv := match X with
  | .inl z => .inl z
  | .inr z => .inr (F z.1, z.2.1, z.2.2)
/-- a tower of which a step is taken -/
def pxK (o : Int → Int) (L : Int) (ρ : SG) (st top p e : Int) : PXv := match pxT o L (ρ 1) (ρ 0 0) (-1) p e with
  | .inl z => .inl z
  | .inr z => if ρ 2 z.1 < st ∨ (top = 0 ∧ st = ρ 2 z.1) ∨ tb (bor (ρ 4 z.1) (ρ 5 z.1)) (st - 1).toNat = true then .inl (2, sk o L p) else .inr z
def rTw (o : Int → Int) (L : Int) (ρ : SG) (s h : Int) : SG := rUp (rUp (rUp (rUp (rUp (putF ρ 1 (nmW (ρ 1) o s (te o L s) (ρ 0 0))) 2 (ρ 0 0) h) 3 (ρ 0 0) 1) 4 (ρ 0 0) 0) 5 (ρ 0 0) 0) 0 0 (ρ 0 0 + 1)
def stTw (o : Int → Int) (L : Int) (ρ : SG) (p e : Int) : SRv := srm (pxb (pxb (pxA o L (ρ 1) (ρ 0 0) (ρ 0 1) p e) (pxW o L (WC 46))) (pxN o L 3 14)) (fun h => rTw o L ρ (pxv (pxA o L (ρ 1) (ρ 0 0) (ρ 0 1) p e)) h)
def stWd (o : Int → Int) (L : Int) (ρ : SG) (p e : Int) : SRv := srm (pxb (pxb (pxT o L (ρ 1) (ρ 0 0) (-1) p e) (pxW o L (WC 48))) (pxN o L 0 99)) (fun c => rUp ρ 3 (pxv (pxT o L (ρ 1) (ρ 0 0) (-1) p e)) c)
def rGp (ρ : SG) (s t : Int) : SG := rUp (rUp ρ 4 t (bor (ρ 4 t) (1 * 2 ^ Int.toNat (s - 1)))) 0 2 (ρ 0 2 + 1)
def stGp (o : Int → Int) (L : Int) (ρ : SG) (p e : Int) : SRv := srm (pxb (pxb (pxN o L 1 14 p e) (pxW o L (WC 50))) (pxK o L ρ (pxv (pxN o L 1 14 p e)) 0)) (fun t => rGp ρ (pxv (pxN o L 1 14 p e)) t)
def rGd (o : Int → Int) (L : Int) (ρ : SG) (s t lg rp : Int) : SG := rUp (rUp (rUp (rUp (putF ρ 1 (nmW (ρ 1) o s (te o L s) (4 + ρ 0 1))) 6 (ρ 0 1) t) 7 (ρ 0 1) lg) 8 (ρ 0 1) rp) 0 1 (ρ 0 1 + 1)
def gd1 (o : Int → Int) (L : Int) (ρ : SG) (p e : Int) : PXv := pxA o L (ρ 1) (ρ 0 0) (ρ 0 1) p e
def gd2 (o : Int → Int) (L : Int) (ρ : SG) (p e : Int) : PXv := pxb (pxb (gd1 o L ρ p e) (pxW o L (WC 50))) (pxT o L (ρ 1) (ρ 0 0) (-1))
def gd3 (o : Int → Int) (L : Int) (ρ : SG) (p e : Int) : PXv := pxb (pxb (gd2 o L ρ p e) (pxW o L (WC 52))) (pxN o L 1 6)
def gd4 (o : Int → Int) (L : Int) (ρ : SG) (p e : Int) : PXv := pxb (pxb (gd3 o L ρ p e) (pxW o L (WC 53))) (pxN o L 0 6)
def stGd (o : Int → Int) (L : Int) (ρ : SG) (p e : Int) : SRv := srm (gd4 o L ρ p e) (fun rp => rGd o L ρ (pxv (gd1 o L ρ p e)) (pxv (gd2 o L ρ p e)) (pxv (gd3 o L ρ p e)) rp)
def rLn (ρ : SG) (t s to dy rn : Int) : SG := rUp (rUp (rUp (rUp (rUp (rUp (rUp ρ 10 (ρ 0 3 * 5) t) 10 (ρ 0 3 * 5 + 1) s) 10 (ρ 0 3 * 5 + 2) to) 10 (ρ 0 3 * 5 + 3) dy) 10 (ρ 0 3 * 5 + 4) rn) 5 t (bor (ρ 5 t) (1 * 2 ^ Int.toNat (s - 1)))) 0 3 (ρ 0 3 + 1)
def ln1 (o : Int → Int) (L p e : Int) : PXv := pxN o L 1 14 p e
def ln2 (o : Int → Int) (L : Int) (ρ : SG) (p e : Int) : PXv := pxb (pxb (ln1 o L p e) (pxW o L (WC 50))) (pxK o L ρ (pxv (ln1 o L p e)) 1)
def ln3 (o : Int → Int) (L : Int) (ρ : SG) (p e : Int) : PXv := pxb (pxb (ln2 o L ρ p e) (pxW o L (WC 55))) (pxT o L (ρ 1) (ρ 0 0) (pxv (ln2 o L ρ p e)))
def ln4 (o : Int → Int) (L : Int) (ρ : SG) (p e : Int) : PXv := pxb (pxb (ln3 o L ρ p e) (pxW o L (WC 56))) (pxN o L 1 99)
def ln5 (o : Int → Int) (L : Int) (ρ : SG) (p e : Int) : PXv := pxb (pxb (ln4 o L ρ p e) (pxW o L (WC 57))) (pxN o L 0 99)
def stLn (o : Int → Int) (L : Int) (ρ : SG) (p e : Int) : SRv := srm (ln5 o L ρ p e) (fun rn => rLn ρ (pxv (ln2 o L ρ p e)) (pxv (ln1 o L p e)) (pxv (ln3 o L ρ p e)) (pxv (ln4 o L ρ p e)) rn)
def stBn (o : Int → Int) (L : Int) (ρ : SG) (p e : Int) : SRv := srm (pxN o L 1 99 p e) (fun b => rUp ρ 0 4 b)
def en1 (o : Int → Int) (L : Int) (ρ : SG) (p e : Int) : PXv := pxb (pxN o L 1 6 p e) (fun p' e' => if ρ 9 (pxv (pxN o L 1 6 p e)) ≠ 0 then .inl (2, sk o L p) else .inr (pxv (pxN o L 1 6 p e), p', e'))
def stEn (o : Int → Int) (L : Int) (ρ : SG) (p e : Int) : SRv := srm (pxb (pxb (en1 o L ρ p e) (pxW o L (WC 60))) (pxN o L 1 99)) (fun v => rUp ρ 9 (pxv (en1 o L ρ p e)) v)
def stV (o : Int → Int) (L : Int) (ρ : SG) (w p e s : Int) : SRv :=
  if w = 0 then (if 4 ≤ ρ 0 0 then .inl (5, s) else stTw o L ρ p e) else if w = 2 then stWd o L ρ p e else if w = 4 then (if 20 ≤ ρ 0 2 then .inl (5, s) else stGp o L ρ p e) else if w = 6 then (if 8 ≤ ρ 0 1 then .inl (5, s) else stGd o L ρ p e) else if w = 9 then (if 12 ≤ ρ 0 3 then .inl (5, s) else stLn o L ρ p e) else if w = 13 then stBn o L ρ p e else if w = 14 then stEn o L ρ p e else .inl (1, s)
/-- the word that a statement begins with -/
def stW0 (o : Int → Int) (L p e : Int) : Int := if kd o L e (sk o L p) = 1 then fstW o (sk o L p) (te o L (sk o L p)) (WL 0) 0 else -1
def stAll (o : Int → Int) (L : Int) (ρ : SG) (p e : Int) : SRv := stV o L ρ (stW0 o L p e) (te o L (sk o L p)) (te o L (sk o L p)) (sk o L p)
/-! what holds of a realm told so far -/
def LTd (ρ : SG) (i : Int) : Prop := (0 ≤ ρ 10 (i * 5) ∧ ρ 10 (i * 5) < ρ 0 0) ∧ (1 ≤ ρ 10 (i * 5 + 1) ∧ ρ 10 (i * 5 + 1) ≤ ρ 2 (ρ 10 (i * 5))) ∧ (0 ≤ ρ 10 (i * 5 + 2) ∧ ρ 10 (i * 5 + 2) < ρ 0 0) ∧ ρ 10 (i * 5) ≠ ρ 10 (i * 5 + 2) ∧ (1 ≤ ρ 10 (i * 5 + 3) ∧ ρ 10 (i * 5 + 3) ≤ 99) ∧ (0 ≤ ρ 10 (i * 5 + 4) ∧ ρ 10 (i * 5 + 4) ≤ 99) ∧ tb (ρ 5 (ρ 10 (i * 5))) (ρ 10 (i * 5 + 1) - 1).toNat = true
def TTd (ρ : SG) (t : Int) : Prop := (3 ≤ ρ 2 t ∧ ρ 2 t ≤ 14) ∧ (0 ≤ ρ 3 t ∧ ρ 3 t ≤ 99) ∧ (0 ≤ ρ 4 t ∧ ρ 4 t < 16384) ∧ (0 ≤ ρ 5 t ∧ ρ 5 t < 16384) ∧ (∀ k : Nat, tb (ρ 4 t) k = true → (k : Int) + 1 < ρ 2 t) ∧ (∀ k : Nat, tb (ρ 5 t) k = true → (k : Int) < ρ 2 t ∧ tb (ρ 4 t) k = false)
def GTd (ρ : SG) (g : Int) : Prop := (0 ≤ ρ 6 g ∧ ρ 6 g < ρ 0 0) ∧ (1 ≤ ρ 7 g ∧ ρ 7 g ≤ 6) ∧ (0 ≤ ρ 8 g ∧ ρ 8 g ≤ 6)
def ROk (ρ : SG) : Prop := ((0 ≤ ρ 0 0 ∧ ρ 0 0 ≤ 4) ∧ (0 ≤ ρ 0 1 ∧ ρ 0 1 ≤ 8) ∧ (0 ≤ ρ 0 2 ∧ ρ 0 2 ≤ 20) ∧ (0 ≤ ρ 0 3 ∧ ρ 0 3 ≤ 12) ∧ (1 ≤ ρ 0 4 ∧ ρ 0 4 ≤ 99)) ∧ (∀ t, 0 ≤ t → t < ρ 0 0 → TTd ρ t) ∧ (∀ g, 0 ≤ g → g < ρ 0 1 → GTd ρ g) ∧ (∀ k, 0 ≤ k → k ≤ 6 → 0 ≤ ρ 9 k ∧ ρ 9 k ≤ 99) ∧ (∀ i, 0 ≤ i → i < ρ 0 3 → LTd ρ i) ∧ (∀ i j, 0 ≤ i → i < j → j < ρ 0 3 → ¬ (ρ 10 (i * 5) = ρ 10 (j * 5) ∧ ρ 10 (i * 5 + 1) = ρ 10 (j * 5 + 1))) ∧ (∀ t, 0 ≤ t → t < ρ 0 0 → ∀ j : Nat, j < 6 → r3 (ρ 1 (t * 6 + (j : Int)))) ∧ (∀ g, 0 ≤ g → g < ρ 0 1 → ∀ j : Nat, j < 6 → r3 (ρ 1 ((4 + g) * 6 + (j : Int))))
theorem LTd.cong {ρ ρ' : SG} {i : Int} (h : LTd ρ i) (e0 : ρ 0 0 ≤ ρ' 0 0) (e2 : ∀ t, 0 ≤ t → t < ρ 0 0 → ρ' 2 t = ρ 2 t) (e10 : ∀ k, i * 5 ≤ k → k < i * 5 + 5 → ρ' 10 k = ρ 10 k) (e5 : ∀ t k, 0 ≤ t → t < ρ 0 0 → tb (ρ 5 t) k = true → tb (ρ' 5 t) k = true) : LTd ρ' i := by
  obtain ⟨a, b, c, e, f, g, k⟩ := h
  unfold LTd
  rw [e10 _ (by omega) (by omega), e10 _ (by omega) (by omega), e10 _ (by omega) (by omega), e10 _ (by omega) (by omega), e10 _ (by omega) (by omega), e2 _ a.1 a.2]
  exact ⟨by omega, b, by omega, e, f, g, e5 _ _ a.1 a.2 k⟩
theorem TTd.cong {ρ ρ' : SG} {t : Int} (h : TTd ρ t) (e2 : ρ' 2 t = ρ 2 t) (e3 : ρ' 3 t = ρ 3 t) (e4 : ρ' 4 t = ρ 4 t) (e5 : ρ' 5 t = ρ 5 t) : TTd ρ' t := by
  unfold TTd
  rw [e2, e3, e4, e5]
  exact h
theorem GTd.cong {ρ ρ' : SG} {g : Int} (h : GTd ρ g) (e0 : ρ 0 0 ≤ ρ' 0 0) (e6 : ρ' 6 g = ρ 6 g) (e7 : ρ' 7 g = ρ 7 g) (e8 : ρ' 8 g = ρ 8 g) : GTd ρ' g := by
  unfold GTd
  rw [e6, e7, e8]
  exact ⟨by have := h.1; omega, h.2⟩
theorem nmW_in {nm o : Int → Int} {s t k : Int} {j : Nat} (hj : j < 6) : nmW nm o s t k (k * 6 + (j : Int)) = ltH o s t (j : Int) := by
  unfold nmW
  rw [if_pos (by omega), show k * 6 + (j : Int) - k * 6 = j by omega]
theorem nmW_out {nm o : Int → Int} {s t k k' : Int} {j : Nat} (hj : j < 6) (h : k' ≠ k) : nmW nm o s t k (k' * 6 + (j : Int)) = nm (k' * 6 + (j : Int)) := by
  unfold nmW
  rw [if_neg (by omega)]
theorem ltH_r {o : Int → Int} (ho : OCT o) {s t k : Int} (h0 : 0 ≤ s + k) (h1 : t ≤ 1600) : -96 ≤ ltH o s t k ∧ ltH o s t k ≤ 255 := by
  unfold ltH
  split
  · have := ho (s + k) h0 (by omega)
    omega
  · omega
theorem rTw_e {o : Int → Int} {L : Int} {ρ : SG} {s h : Int} : rTw o L ρ s h 0 = upf (ρ 0) 0 (ρ 0 0 + 1) ∧ rTw o L ρ s h 1 = nmW (ρ 1) o s (te o L s) (ρ 0 0) ∧ rTw o L ρ s h 2 = upf (ρ 2) (ρ 0 0) h ∧ rTw o L ρ s h 3 = upf (ρ 3) (ρ 0 0) 1 ∧ rTw o L ρ s h 4 = upf (ρ 4) (ρ 0 0) 0 ∧ rTw o L ρ s h 5 = upf (ρ 5) (ρ 0 0) 0 ∧ (∀ j, 6 ≤ j → rTw o L ρ s h j = ρ j) := by
  refine ⟨?_, ?_, ?_, ?_, ?_, ?_, fun j hj => ?_⟩
  · simp [rTw, rUp, putF_at, putF_ne]
  · simp [rTw, rUp, putF_at, putF_ne]
  · simp [rTw, rUp, putF_at, putF_ne]
  · simp [rTw, rUp, putF_at, putF_ne]
  · simp [rTw, rUp, putF_at, putF_ne]
  · simp [rTw, rUp, putF_at, putF_ne]
  · unfold rTw rUp
    rw [putF_ne (by omega), putF_ne (by omega), putF_ne (by omega), putF_ne (by omega), putF_ne (by omega), putF_ne (by omega)]
theorem ROk.tw {o : Int → Int} {L : Int} {ρ : SG} {s h : Int} (hO : ROk ρ) (ho : OCT o) (hs : 0 ≤ s) (hL : te o L s ≤ 1600) (h4 : ρ 0 0 < 4) (hh : 3 ≤ h ∧ h ≤ 14) : ROk (rTw o L ρ s h) := by
  obtain ⟨⟨a0, a1, a2, a3, a4⟩, hT, hG, hE, hLo, hD, hN, hM⟩ := hO
  obtain ⟨e0, e1, e2, e3, e4, e5, e6⟩ := @rTw_e o L ρ s h
  have z0 : rTw o L ρ s h 0 0 = ρ 0 0 + 1 := by rw [e0, upf_at]
  have z1 : ∀ i, i ≠ 0 → rTw o L ρ s h 0 i = ρ 0 i := fun i hi => by rw [e0, upf_ne hi]
  unfold ROk
  rw [z0, z1 1 (by decide), z1 2 (by decide), z1 3 (by decide), z1 4 (by decide), e6 9 (by decide), e6 10 (by decide)]
  refine ⟨⟨by omega, a1, a2, a3, a4⟩, fun t t0 t1 => ?_, fun g g0 g1 => (hG g g0 g1).cong (by omega) (by rw [e6 6 (by decide)]) (by rw [e6 7 (by decide)]) (by rw [e6 8 (by decide)]), hE, fun i i0 i1 => (hLo i i0 i1).cong (by omega) (fun t t0 t1 => by rw [e2, upf_ne (by omega)]) (fun k _ _ => by rw [e6 10 (by decide)]) (fun t k t0 t1 hb => by rw [e5, upf_ne (by omega)]; exact hb), hD, fun t t0 t1 j hj => ?_, fun g g0 g1 j hj => ?_⟩
  · by_cases c : t = ρ 0 0
    · subst c
      unfold TTd
      rw [e2, e3, e4, e5, upf_at, upf_at, upf_at, upf_at]
      exact ⟨hh, by decide, by decide, by decide, fun k hk => by rw [tb_zero] at hk; exact absurd hk (by decide), fun k hk => by rw [tb_zero] at hk; exact absurd hk (by decide)⟩
    · exact (hT t t0 (by omega)).cong (by rw [e2, upf_ne c]) (by rw [e3, upf_ne c]) (by rw [e4, upf_ne c]) (by rw [e5, upf_ne c])
  · rw [e1]
    by_cases c : t = ρ 0 0
    · rw [c, nmW_in hj]
      have := ltH_r ho (s := s) (t := te o L s) (k := (j : Int)) (by omega) hL
      omega
    · rw [nmW_out hj c]
      exact hN t t0 (by omega) j hj
  · rw [e1, nmW_out hj (by omega)]
    exact hM g g0 g1 j hj
theorem ROk.wd {ρ : SG} {t c : Int} (hO : ROk ρ) (hc : 0 ≤ c ∧ c ≤ 99) : ROk (rUp ρ 3 t c) := by
  obtain ⟨⟨a0, a1, a2, a3, a4⟩, hT, hG, hE, hLo, hD, hN, hM⟩ := hO
  have e : ∀ j, j ≠ 3 → rUp ρ 3 t c j = ρ j := fun j hj => rUp_ne hj
  unfold ROk
  rw [e 0 (by decide), e 1 (by decide), e 9 (by decide), e 10 (by decide)]
  refine ⟨⟨a0, a1, a2, a3, a4⟩, fun u u0 u1 => ?_, fun g g0 g1 => (hG g g0 g1).cong (by rw [e 0 (by decide)]; omega) (by rw [e 6 (by decide)]) (by rw [e 7 (by decide)]) (by rw [e 8 (by decide)]), hE, fun i i0 i1 => (hLo i i0 i1).cong (by rw [e 0 (by decide)]; omega) (fun t t0 t1 => by rw [e 2 (by decide)]) (fun k _ _ => by rw [e 10 (by decide)]) (fun t k t0 t1 hb => by rw [e 5 (by decide)]; exact hb), hD, hN, hM⟩
  obtain ⟨b1, b2, b3, b4, b5, b6⟩ := hT u u0 u1
  unfold TTd
  rw [e 2 (by decide), e 4 (by decide), e 5 (by decide), rUp_at]
  refine ⟨b1, ?_, b3, b4, b5, b6⟩
  unfold upf
  split
  · exact hc
  · exact b2
theorem ROk.bn {ρ : SG} {b : Int} (hO : ROk ρ) (hb : 1 ≤ b ∧ b ≤ 99) : ROk (rUp ρ 0 4 b) := by
  obtain ⟨⟨a0, a1, a2, a3, a4⟩, hT, hG, hE, hLo, hD, hN, hM⟩ := hO
  have e : ∀ j, j ≠ 0 → rUp ρ 0 4 b j = ρ j := fun j hj => rUp_ne hj
  have z : ∀ i, i ≠ 4 → rUp ρ 0 4 b 0 i = ρ 0 i := fun i hi => by rw [rUp_at, upf_ne hi]
  have z4 : rUp ρ 0 4 b 0 4 = b := by rw [rUp_at, upf_at]
  unfold ROk
  rw [z 0 (by decide), z 1 (by decide), z 2 (by decide), z 3 (by decide), z4, e 1 (by decide), e 9 (by decide), e 10 (by decide)]
  exact ⟨⟨a0, a1, a2, a3, hb⟩, fun t t0 t1 => (hT t t0 t1).cong (by rw [e 2 (by decide)]) (by rw [e 3 (by decide)]) (by rw [e 4 (by decide)]) (by rw [e 5 (by decide)]), fun g g0 g1 => (hG g g0 g1).cong (by rw [z 0 (by decide)]; omega) (by rw [e 6 (by decide)]) (by rw [e 7 (by decide)]) (by rw [e 8 (by decide)]), hE, fun i i0 i1 => (hLo i i0 i1).cong (by rw [z 0 (by decide)]; omega) (fun t t0 t1 => by rw [e 2 (by decide)]) (fun k _ _ => by rw [e 10 (by decide)]) (fun t k t0 t1 hb => by rw [e 5 (by decide)]; exact hb), hD, hN, hM⟩
theorem ROk.en {ρ : SG} {k v : Int} (hO : ROk ρ) (hv : 1 ≤ v ∧ v ≤ 99) : ROk (rUp ρ 9 k v) := by
  obtain ⟨⟨a0, a1, a2, a3, a4⟩, hT, hG, hE, hLo, hD, hN, hM⟩ := hO
  have e : ∀ j, j ≠ 9 → rUp ρ 9 k v j = ρ j := fun j hj => rUp_ne hj
  unfold ROk
  rw [e 0 (by decide), e 1 (by decide), e 10 (by decide), rUp_at]
  refine ⟨⟨a0, a1, a2, a3, a4⟩, fun t t0 t1 => (hT t t0 t1).cong (by rw [e 2 (by decide)]) (by rw [e 3 (by decide)]) (by rw [e 4 (by decide)]) (by rw [e 5 (by decide)]), fun g g0 g1 => (hG g g0 g1).cong (by rw [e 0 (by decide)]; omega) (by rw [e 6 (by decide)]) (by rw [e 7 (by decide)]) (by rw [e 8 (by decide)]), fun j j0 j1 => ?_, fun i i0 i1 => (hLo i i0 i1).cong (by rw [e 0 (by decide)]; omega) (fun t t0 t1 => by rw [e 2 (by decide)]) (fun k _ _ => by rw [e 10 (by decide)]) (fun t k t0 t1 hb => by rw [e 5 (by decide)]; exact hb), hD, hN, hM⟩
  unfold upf
  split
  · omega
  · exact hE j j0 j1
theorem rGp_e {ρ : SG} {s t : Int} : rGp ρ s t 0 = upf (ρ 0) 2 (ρ 0 2 + 1) ∧ rGp ρ s t 4 = upf (ρ 4) t (bor (ρ 4 t) (1 * 2 ^ Int.toNat (s - 1))) ∧ ∀ j, j ≠ 0 → j ≠ 4 → rGp ρ s t j = ρ j := by
  refine ⟨?_, ?_, fun j h0 h4 => ?_⟩
  · unfold rGp
    rw [rUp_at, rUp_ne (by decide)]
  · unfold rGp
    rw [rUp_ne (by decide), rUp_at]
  · unfold rGp
    rw [rUp_ne h0, rUp_ne h4]
theorem ROk.gp {ρ : SG} {s t : Int} (hO : ROk ρ) (ht : 0 ≤ t ∧ t < ρ 0 0) (hs : 1 ≤ s ∧ s < ρ 2 t) (h20 : ρ 0 2 < 20) (hb : tb (bor (ρ 4 t) (ρ 5 t)) (s - 1).toNat = false) : ROk (rGp ρ s t) := by
  obtain ⟨⟨a0, a1, a2, a3, a4⟩, hT, hG, hE, hLo, hD, hN, hM⟩ := hO
  obtain ⟨e0, e4, e⟩ := @rGp_e ρ s t
  have z : ∀ i, i ≠ 2 → rGp ρ s t 0 i = ρ 0 i := fun i hi => by rw [e0, upf_ne hi]
  have z2 : rGp ρ s t 0 2 = ρ 0 2 + 1 := by rw [e0, upf_at]
  rw [tb_bor, Bool.or_eq_false_iff] at hb
  unfold ROk
  rw [z 0 (by decide), z 1 (by decide), z2, z 3 (by decide), z 4 (by decide), e 1 (by decide) (by decide), e 9 (by decide) (by decide), e 10 (by decide) (by decide)]
  refine ⟨⟨a0, a1, by omega, a3, a4⟩, fun u u0 u1 => ?_, fun g g0 g1 => (hG g g0 g1).cong (by rw [z 0 (by decide)]; omega) (by rw [e 6 (by decide) (by decide)]) (by rw [e 7 (by decide) (by decide)]) (by rw [e 8 (by decide) (by decide)]), hE, fun i i0 i1 => (hLo i i0 i1).cong (by rw [z 0 (by decide)]; omega) (fun t t0 t1 => by rw [e 2 (by decide) (by decide)]) (fun k _ _ => by rw [e 10 (by decide) (by decide)]) (fun t k t0 t1 hb => by rw [e 5 (by decide) (by decide)]; exact hb), hD, hN, hM⟩
  by_cases c : u = t
  · subst c
    obtain ⟨b1, b2, b3, b4, b5, b6⟩ := hT u u0 u1
    unfold TTd
    rw [e 2 (by decide) (by decide), e 3 (by decide) (by decide), e 5 (by decide) (by decide), e4, upf_at]
    refine ⟨b1, b2, bor_r b3 (pow_r (by omega) (by omega)), b4, fun k hk => ?_, fun k hk => ⟨(b6 k hk).1, ?_⟩⟩
    · rw [tb_set (by omega), Bool.or_eq_true] at hk
      rcases hk with hk | hk
      · exact b5 k hk
      · have := of_decide_eq_true hk
        omega
    · rw [tb_set (by omega), (b6 k hk).2, Bool.false_or]
      apply decide_eq_false
      intro z
      rw [← z, hb.2] at hk
      exact absurd hk (by decide)
  · exact (hT u u0 u1).cong (by rw [e 2 (by decide) (by decide)]) (by rw [e 3 (by decide) (by decide)]) (by rw [e4, upf_ne c]) (by rw [e 5 (by decide) (by decide)])
theorem rGd_e {o : Int → Int} {L : Int} {ρ : SG} {s t lg rp : Int} : rGd o L ρ s t lg rp 0 = upf (ρ 0) 1 (ρ 0 1 + 1) ∧ rGd o L ρ s t lg rp 1 = nmW (ρ 1) o s (te o L s) (4 + ρ 0 1) ∧ rGd o L ρ s t lg rp 6 = upf (ρ 6) (ρ 0 1) t ∧ rGd o L ρ s t lg rp 7 = upf (ρ 7) (ρ 0 1) lg ∧ rGd o L ρ s t lg rp 8 = upf (ρ 8) (ρ 0 1) rp ∧ (∀ j, j ≠ 0 → j ≠ 1 → j ≠ 6 → j ≠ 7 → j ≠ 8 → rGd o L ρ s t lg rp j = ρ j) := by
  refine ⟨?_, ?_, ?_, ?_, ?_, fun j a b c d f => ?_⟩
  · simp [rGd, rUp, putF_at, putF_ne]
  · simp [rGd, rUp, putF_at, putF_ne]
  · simp [rGd, rUp, putF_at, putF_ne]
  · simp [rGd, rUp, putF_at, putF_ne]
  · simp [rGd, rUp, putF_at, putF_ne]
  · unfold rGd rUp
    rw [putF_ne a, putF_ne f, putF_ne d, putF_ne c, putF_ne b]
theorem ROk.gd {o : Int → Int} {L : Int} {ρ : SG} {s t lg rp : Int} (hO : ROk ρ) (ho : OCT o) (hs : 0 ≤ s) (hL : te o L s ≤ 1600) (h8 : ρ 0 1 < 8) (ht : 0 ≤ t ∧ t < ρ 0 0) (hl : 1 ≤ lg ∧ lg ≤ 6) (hr : 0 ≤ rp ∧ rp ≤ 6) : ROk (rGd o L ρ s t lg rp) := by
  obtain ⟨⟨a0, a1, a2, a3, a4⟩, hT, hG, hE, hLo, hD, hN, hM⟩ := hO
  obtain ⟨e0, e1, e6, e7, e8, e⟩ := @rGd_e o L ρ s t lg rp
  have z1 : rGd o L ρ s t lg rp 0 1 = ρ 0 1 + 1 := by rw [e0, upf_at]
  have z : ∀ i, i ≠ 1 → rGd o L ρ s t lg rp 0 i = ρ 0 i := fun i hi => by rw [e0, upf_ne hi]
  have e' : ∀ j, (j = 2 ∨ j = 3 ∨ j = 4 ∨ j = 5 ∨ j = 9 ∨ j = 10) → rGd o L ρ s t lg rp j = ρ j := fun j hj => e j (by omega) (by omega) (by omega) (by omega) (by omega)
  unfold ROk
  rw [z1, z 0 (by decide), z 2 (by decide), z 3 (by decide), z 4 (by decide), e' 9 (by decide), e' 10 (by decide)]
  refine ⟨⟨a0, by omega, a2, a3, a4⟩, fun t t0 t1 => (hT t t0 t1).cong (by rw [e' 2 (by decide)]) (by rw [e' 3 (by decide)]) (by rw [e' 4 (by decide)]) (by rw [e' 5 (by decide)]), fun g g0 g1 => ?_, hE, fun i i0 i1 => (hLo i i0 i1).cong (by rw [z 0 (by decide)]; omega) (fun t t0 t1 => by rw [e' 2 (by decide)]) (fun k _ _ => by rw [e' 10 (by decide)]) (fun t k t0 t1 hb => by rw [e' 5 (by decide)]; exact hb), hD, fun t t0 t1 j hj => ?_, fun g g0 g1 j hj => ?_⟩
  · by_cases c : g = ρ 0 1
    · subst c
      unfold GTd
      rw [e6, e7, e8, upf_at, upf_at, upf_at, z 0 (by decide)]
      exact ⟨ht, hl, hr⟩
    · exact (hG g g0 (by omega)).cong (by rw [z 0 (by decide)]; omega) (by rw [e6, upf_ne c]) (by rw [e7, upf_ne c]) (by rw [e8, upf_ne c])
  · rw [e1, nmW_out hj (by omega)]
    exact hN t t0 t1 j hj
  · rw [e1]
    by_cases c : g = ρ 0 1
    · rw [c, nmW_in hj]
      have := ltH_r ho (s := s) (t := te o L s) (k := (j : Int)) (by omega) hL
      omega
    · rw [nmW_out hj (by omega)]
      exact hM g g0 (by omega) j hj
theorem rLn_e {ρ : SG} {t s to dy rn : Int} : rLn ρ t s to dy rn 0 = upf (ρ 0) 3 (ρ 0 3 + 1) ∧ rLn ρ t s to dy rn 5 = upf (ρ 5) t (bor (ρ 5 t) (1 * 2 ^ Int.toNat (s - 1))) ∧ rLn ρ t s to dy rn 10 = upf (upf (upf (upf (upf (ρ 10) (ρ 0 3 * 5) t) (ρ 0 3 * 5 + 1) s) (ρ 0 3 * 5 + 2) to) (ρ 0 3 * 5 + 3) dy) (ρ 0 3 * 5 + 4) rn ∧ ∀ j, j ≠ 0 → j ≠ 5 → j ≠ 10 → rLn ρ t s to dy rn j = ρ j := by
  refine ⟨?_, ?_, ?_, fun j a b c => ?_⟩
  · simp [rLn, rUp, putF_at, putF_ne]
  · simp [rLn, rUp, putF_at, putF_ne]
  · simp [rLn, rUp, putF_at, putF_ne]
  · unfold rLn rUp
    rw [putF_ne a, putF_ne b, putF_ne c, putF_ne c, putF_ne c, putF_ne c, putF_ne c]
theorem rLn_10 {ρ : SG} {t s to dy rn : Int} : rLn ρ t s to dy rn 10 (ρ 0 3 * 5) = t ∧ rLn ρ t s to dy rn 10 (ρ 0 3 * 5 + 1) = s ∧ rLn ρ t s to dy rn 10 (ρ 0 3 * 5 + 2) = to ∧ rLn ρ t s to dy rn 10 (ρ 0 3 * 5 + 3) = dy ∧ rLn ρ t s to dy rn 10 (ρ 0 3 * 5 + 4) = rn ∧ ∀ k, (k < ρ 0 3 * 5 ∨ ρ 0 3 * 5 + 5 ≤ k) → rLn ρ t s to dy rn 10 k = ρ 10 k := by
  rw [rLn_e.2.2.1]
  refine ⟨?_, ?_, ?_, ?_, ?_, fun k hk => ?_⟩
  · rw [upf_ne (by omega), upf_ne (by omega), upf_ne (by omega), upf_ne (by omega), upf_at]
  · rw [upf_ne (by omega), upf_ne (by omega), upf_ne (by omega), upf_at]
  · rw [upf_ne (by omega), upf_ne (by omega), upf_at]
  · rw [upf_ne (by omega), upf_at]
  · rw [upf_at]
  · rw [upf_ne (by omega), upf_ne (by omega), upf_ne (by omega), upf_ne (by omega), upf_ne (by omega)]
theorem ROk.ln {ρ : SG} {t s to dy rn : Int} (hO : ROk ρ) (ht : 0 ≤ t ∧ t < ρ 0 0) (hs : 1 ≤ s ∧ s ≤ ρ 2 t) (hto : 0 ≤ to ∧ to < ρ 0 0) (hne : t ≠ to) (hdy : 1 ≤ dy ∧ dy ≤ 99) (hrn : 0 ≤ rn ∧ rn ≤ 99) (h12 : ρ 0 3 < 12) (hb : tb (bor (ρ 4 t) (ρ 5 t)) (s - 1).toNat = false) : ROk (rLn ρ t s to dy rn) := by
  obtain ⟨⟨a0, a1, a2, a3, a4⟩, hT, hG, hE, hLo, hD, hN, hM⟩ := hO
  obtain ⟨e0, e5, _, e⟩ := @rLn_e ρ t s to dy rn
  obtain ⟨y0, y1, y2, y3, y4, y⟩ := @rLn_10 ρ t s to dy rn
  have z : ∀ i, i ≠ 3 → rLn ρ t s to dy rn 0 i = ρ 0 i := fun i hi => by rw [e0, upf_ne hi]
  have z3 : rLn ρ t s to dy rn 0 3 = ρ 0 3 + 1 := by rw [e0, upf_at]
  rw [tb_bor, Bool.or_eq_false_iff] at hb
  have htT := (hT t ht.1 ht.2).1
  have up5 : ∀ u k, tb (ρ 5 u) k = true → tb (rLn ρ t s to dy rn 5 u) k = true := by
    intro u k hk
    rw [e5]
    by_cases c : u = t
    · rw [c, upf_at, tb_set (by omega)]
      rw [c] at hk
      rw [hk, Bool.true_or]
    · rw [upf_ne c]
      exact hk
  have new5 : tb (rLn ρ t s to dy rn 5 t) (s - 1).toNat = true := by
    rw [e5, upf_at, tb_set (by omega), decide_eq_true rfl, Bool.or_true]
  unfold ROk
  rw [z 0 (by decide), z 1 (by decide), z 2 (by decide), z3, z 4 (by decide), e 1 (by decide) (by decide) (by decide), e 9 (by decide) (by decide) (by decide)]
  refine ⟨⟨a0, a1, a2, by omega, a4⟩, fun u u0 u1 => ?_, fun g g0 g1 => (hG g g0 g1).cong (by rw [z 0 (by decide)]; omega) (by rw [e 6 (by decide) (by decide) (by decide)]) (by rw [e 7 (by decide) (by decide) (by decide)]) (by rw [e 8 (by decide) (by decide) (by decide)]), hE, fun i i0 i1 => ?_, fun i j i0 ij j1 => ?_, hN, hM⟩
  · by_cases c : u = t
    · subst c
      obtain ⟨b1, b2, b3, b4, b5, b6⟩ := hT u u0 u1
      unfold TTd
      rw [e 2 (by decide) (by decide) (by decide), e 3 (by decide) (by decide) (by decide), e 4 (by decide) (by decide) (by decide), e5, upf_at]
      refine ⟨b1, b2, b3, bor_r b4 (pow_r (by omega) (by omega)), b5, fun k hk => ?_⟩
      rw [tb_set (by omega), Bool.or_eq_true] at hk
      rcases hk with hk | hk
      · exact b6 k hk
      · have hk := of_decide_eq_true hk
        refine ⟨by omega, ?_⟩
        rw [← hk]
        exact hb.1
    · exact (hT u u0 u1).cong (by rw [e 2 (by decide) (by decide) (by decide)]) (by rw [e 3 (by decide) (by decide) (by decide)]) (by rw [e 4 (by decide) (by decide) (by decide)]) (by rw [e5, upf_ne c])
  · by_cases c : i = ρ 0 3
    · subst c
      unfold LTd
      rw [y0, y1, y2, y3, y4, z 0 (by decide), e 2 (by decide) (by decide) (by decide)]
      exact ⟨ht, hs, hto, hne, hdy, hrn, new5⟩
    · exact (hLo i i0 (by omega)).cong (by rw [z 0 (by decide)]; omega) (fun t t0 t1 => by rw [e 2 (by decide) (by decide) (by decide)]) (fun k k0 k1 => y k (by omega)) (fun u k _ _ hk => up5 u k hk)
  · by_cases c : j = ρ 0 3
    · subst c
      rw [y0, y1, y _ (by omega), y _ (by omega)]
      rintro ⟨q1, q2⟩
      have hl := (hLo i i0 (by omega)).2.2.2.2.2.2
      rw [q1, q2, hb.2] at hl
      exact absurd hl (by decide)
    · rw [y _ (by omega), y _ (by omega), y _ (by omega), y _ (by omega)]
      exact hD i j i0 ij (by omega)
