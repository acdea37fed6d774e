/-! ===== the cells behind both constructors are the store sF (wip/whole/gena6.py) ===== -/
def adF (x : Nat) (qs8 : List Nat) (mm : Nat) (qs9 : List Nat) (adK : Nat → Nat) : Nat → Nat := fun p => if p < 42 then (x :: qs8).getD p 0 else if p < 100 then (mm :: qs9).getD (p - 42) 0 else adK (p - 1000)
theorem mI_app {α β : Type} (f : Nat → α → β) : ∀ (a b : List α) (i : Nat), mI f i (a ++ b) = mI f i a ++ mI f (i + a.length) b
  | [], b, i => rfl
  | x :: a, b, i => by
    show f i x :: mI f (i + 1) (a ++ b) = f i x :: (mI f (i + 1) a ++ mI f (i + (a.length + 1)) b)
    rw [mI_app f a b (i + 1), show i + 1 + a.length = i + (a.length + 1) by omega]
theorem mI_map {α β γ : Type} (f : Nat → α → β) (g : β → γ) : ∀ (l : List α) (i : Nat), (mI f i l).map g = mI (fun j a => g (f j a)) i l
  | [], _ => rfl
  | a :: l, i => by
    show g (f i a) :: (mI f (i + 1) l).map g = _
    rw [mI_map f g l (i + 1)]
    rfl
theorem mI_congr {α β : Type} {f g : Nat → α → β} : ∀ {l : List α} {i : Nat}, (∀ k a, l[k]? = some a → f (i + k) a = g (i + k) a) → mI f i l = mI g i l
  | [], _, _ => rfl
  | a :: l, i, h => by
    show f i a :: mI f (i + 1) l = g i a :: mI g (i + 1) l
    have h0 : f i a = g i a := h 0 a rfl
    have ih : mI f (i + 1) l = mI g (i + 1) l := mI_congr (fun k b hb => by
      have h1 := h (k + 1) b hb
      rw [show i + (k + 1) = i + 1 + k by omega] at h1
      exact h1)
    rw [h0, ih]
abbrev Sy : Type := Nat ⊕ (Nat × Int)
def syI (qs : List Nat) : Sy → Value
  | .inl i => .ref (qs.getD i 0)
  | .inr (0, x) => .int (Int32.ofInt x)
  | .inr (1, x) => .long (Int64.ofInt x)
  | .inr (_, _) => .null
def cuH : List CU → Nat → List Sy → List Sy
  | [], _, fs => fs
  | u :: us, i, fs => if u.2.2.1 = 3 then cuH us i (fs.set u.1 (.inr (0, u.2.2.2.1))) else cuH us (i + 1) (fs.set u.1 (.inl i))
theorem drop_hd (qs : List Nat) (i : Nat) : (qs.drop i).headD 0 = qs.getD i 0 := by
  rw [List.headD_eq_head?_getD, List.head?_drop, List.getD_eq_getElem?_getD]
theorem cuH_s (t1 : Nat) (qs : List Nat) : ∀ (us : List CU) (i : Nat) (fs : List Sy), us.all (fun u => u.2.2.1 != 4) = true → cuF t1 us (qs.drop i) (fs.map (syI qs)) = (cuH us i fs).map (syI qs)
  | [], _, _, _ => rfl
  | u :: us, i, fs, h => by
    rw [List.all_cons, Bool.and_eq_true] at h
    have h4 : ¬ u.2.2.1 = 4 := by
      have := h.1
      simpa using this
    unfold cuF cuH
    by_cases h3 : u.2.2.1 = 3
    · rw [if_pos h3, if_pos h3, ← cuH_s t1 qs us i _ h.2, List.map_set]
      rfl
    · rw [if_neg h3, if_neg h3, if_neg h4, ← cuH_s t1 qs us (i + 1) _ h.2, List.map_set, List.tail_drop, drop_hd]
      rfl
def auL : List CU → List (Nat × Nat × List Int)
  | [] => []
  | u :: us => if u.2.2.1 = 3 then auL us else (u.2.2.1, u.2.2.2.1.toNat, u.2.2.2.2) :: auL us
theorem cuA_s (ty : ClassId × ClassId × ClassId) (qs : List Nat) : ∀ (us : List CU) (i : Nat), us.all (fun u => u.2.2.1 != 4) = true → cuA ty us (qs.drop i) = mI (fun j a => (qs.getD j 0, aE ty a.1 a.2.1 a.2.2)) i (auL us)
  | [], _, _ => rfl
  | u :: us, i, h => by
    rw [List.all_cons, Bool.and_eq_true] at h
    have h4 : ¬ u.2.2.1 = 4 := by
      have := h.1
      simpa using this
    unfold cuA auL
    by_cases h3 : u.2.2.1 = 3
    · rw [if_pos h3, if_pos h3, cuA_s ty qs us i h.2]
    · rw [if_neg h3, if_neg h3, if_neg h4, List.tail_drop, cuA_s ty qs us (i + 1) h.2, drop_hd]
      rfl
def syOf (x : Int) (kd : Nat × Nat) : Sy := match kd.1 with
  | 1 => .inr (1, x)
  | 2 => .inl (kd.2 - 43)
  | _ => .inr (0, x)
theorem fv_syI {ad : Nat → Nat} {qs : List Nat} {x : Int} {kd : Nat × Nat} (h3 : kd.1 ≠ 3) (h2 : kd.1 = 2 → ad kd.2 = qs.getD (kd.2 - 43) 0) : fv ad x kd = syI qs (syOf x kd) := by
  obtain ⟨k, p⟩ := kd
  unfold fv syOf
  match k, h2, h3 with
  | 0, _, _ => rfl
  | 1, _, _ => rfl
  | 2, h2, _ =>
    show Value.ref (ad p) = .ref (qs.getD (p - 43) 0)
    rw [show ad p = qs.getD (p - 43) 0 from h2 rfl]
  | 3, _, h3 => exact absurd rfl h3
  | k + 4, _, _ => rfl
theorem fv_same {ad ad' : Nat → Nat} {x : Int} {kd : Nat × Nat} (h2 : kd.1 = 2 → ad kd.2 = ad' kd.2) (h3 : kd.1 = 3 → ad x.toNat = ad' x.toNat) : fv ad x kd = fv ad' x kd := by
  obtain ⟨k, p⟩ := kd
  unfold fv
  match k, h2, h3 with
  | 0, _, _ => rfl
  | 1, _, _ => rfl
  | 2, h2, _ =>
    show Value.ref (ad p) = .ref (ad' p)
    rw [show ad p = ad' p from h2 rfl]
  | 3, _, h3 =>
    show Value.ref (ad x.toNat) = .ref (ad' x.toNat)
    rw [show ad x.toNat = ad' x.toNat from h3 rfl]
  | k + 4, _, _ => rfl
theorem US9_no4 : US9.all (fun u => u.2.2.1 != 4) = true := by decide
def SY9 : List Sy := [.inr (2, 0), .inr (0, 0), .inr (0, 0), .inr (0, 0), .inr (0, 0), .inr (0, 0), .inr (0, 0), .inr (0, 0), .inr (0, 0), .inr (2, 0), .inr (0, 0), .inr (2, 0), .inr (2, 0), .inr (2, 0), .inr (2, 0), .inr (2, 0), .inr (2, 0), .inr (2, 0), .inr (2, 0), .inr (2, 0), .inr (2, 0), .inr (2, 0), .inr (2, 0), .inr (2, 0), .inr (2, 0), .inr (2, 0), .inr (2, 0), .inr (0, 0), .inr (2, 0), .inr (2, 0), .inr (2, 0), .inr (2, 0), .inr (2, 0), .inr (2, 0), .inr (2, 0), .inr (2, 0), .inr (0, 0), .inr (2, 0), .inr (2, 0), .inr (2, 0), .inr (0, 0), .inr (0, 0), .inr (2, 0), .inr (2, 0), .inr (2, 0), .inr (2, 0), .inr (0, 0), .inr (0, 0), .inr (0, 0), .inr (0, 0), .inr (2, 0), .inr (2, 0), .inr (2, 0), .inr (2, 0), .inr (2, 0), .inr (2, 0), .inr (2, 0), .inr (2, 0), .inr (2, 0), .inr (2, 0), .inr (2, 0), .inr (2, 0), .inr (2, 0), .inr (2, 0), .inr (2, 0), .inr (2, 0), .inr (2, 0), .inr (2, 0), .inr (2, 0), .inr (2, 0), .inr (2, 0), .inr (0, 0), .inr (2, 0), .inr (0, 0), .inr (0, 0), .inr (0, 0), .inr (2, 0), .inr (0, 0), .inr (1, 0), .inr (0, 0), .inr (2, 0), .inr (0, 0)]
theorem SY9_0 (qs : List Nat) : fs0_9 = SY9.map (syI qs) := by
  simp only [fs0_9, SY9, List.map_cons, List.map_nil]
  rfl
def ks9 : List (Nat × Nat) := match SH.getD 42 (.inl (0, 0)) with
  | .inr q => q.2
  | .inl _ => []
theorem SH_parts : SH = SH.take 42 ++ (.inr (9, ks9) :: SH.drop 43) := by decide +kernel
theorem SY9_1 : cuH US9 0 SY9 = mI (fun k kd => syOf (sF 42 (k : Int)) kd) 0 ks9 := by decide +kernel
theorem ks9_ok : ks9.all (fun kd => kd.1 != 3 && (kd.1 != 2 || (decide (43 ≤ kd.2) && decide (kd.2 < 100)))) = true := by decide +kernel
theorem SH9_a : SH.drop 43 = (auL US9).map (fun a => .inl (a.1, a.2.1)) := by decide +kernel
theorem SH9_c : INI.drop 43 = (auL US9).map (fun a => a.2.2) := by decide +kernel
theorem SH8_len : (SH.take 42).length = 42 := by decide +kernel
theorem mI_SH {β : Type} (f : Nat → Shp → β) : mI f 0 SH = mI f 0 (SH.take 42) ++ (f 42 (.inr (9, ks9)) :: mI f 43 (SH.drop 43)) := by
  have h := congrArg (mI f 0) SH_parts
  rw [h, mI_app, SH8_len]
  rfl
theorem au9_len : (auL US9).length = 57 := by decide +kernel
def rokF (p : Nat) (l : List (Nat × Nat)) : Bool := (mI (fun k kd => (kd.1 != 2 || decide (kd.2 < 42)) && (kd.1 != 3 || decide ((sF p (k : Int)).toNat < 42))) 0 l).all id
def rokS (p : Nat) (sh : Shp) : Bool := match sh with
  | .inr (_, ks) => rokF p ks
  | _ => true
theorem SH8_ok : (mI rokS 0 (SH.take 42)).all id = true := by decide +kernel
theorem adF_8 {x mm : Nat} {qs8 qs9 : List Nat} {adK : Nat → Nat} {p : Nat} (h : p < 42) : adF x qs8 mm qs9 adK p = (x :: qs8).getD p 0 := by
  unfold adF
  rw [if_pos h]
theorem adF_9 {x mm : Nat} {qs8 qs9 : List Nat} {adK : Nat → Nat} {i : Nat} (h : i < 57) : adF x qs8 mm qs9 adK (43 + i) = qs9.getD i 0 := by
  unfold adF
  rw [if_neg (by omega), if_pos (by omega), show 43 + i - 42 = i + 1 by omega]
  rfl
theorem sF_at (p k : Nat) : sF p (k : Int) = (INI.getD p []).getD k 0 := rfl
theorem fin_8 (D : va_G) (ty : ClassId × ClassId × ClassId) (x mm : Nat) (qs8 qs9 : List Nat) (adK adV : Nat → Nat) : wdc D ty (fun p => (x :: qs8).getD p 0) = mI (fun p sh => (adF x qs8 mm qs9 adK p, ceI (D, adF x qs8 mm qs9 adK, adV, ty) (sF p) sh)) 0 (SH.take 42) := by
  unfold wdc
  refine mI_congr (fun p sh hp => ?_)
  rw [Nat.zero_add]
  have hp42 : p < 42 := by
    have := (List.getElem?_eq_some_iff.mp hp).1
    rwa [SH8_len] at this
  have had : ∀ p, p < 42 → (x :: qs8).getD p 0 = adF x qs8 mm qs9 adK p := fun p h => (adF_8 h).symm
  have hok : rokS p sh = true := by
    have h1 := List.all_eq_true.mp SH8_ok (rokS p sh) (List.mem_of_getElem? (i := p) (by rw [mI_at, hp, Nat.zero_add]; rfl))
    exact h1
  rw [← had p hp42]
  congr 1
  rcases sh with ⟨kd, n⟩ | ⟨ci, ks⟩
  · match kd with
    | 0 => rfl
    | 1 => rfl
    | k + 2 => rfl
  · show Sum.inr (ci, _) = Sum.inr (ci, _)
    congr 2
    refine mI_congr (fun k kd hk => ?_)
    rw [Nat.zero_add]
    have h2 := List.all_eq_true.mp (show (mI (fun k kd => (kd.1 != 2 || decide (kd.2 < 42)) && (kd.1 != 3 || decide ((sF p (k : Int)).toNat < 42))) 0 ks).all id = true from hok) _ (List.mem_of_getElem? (i := k) (by rw [mI_at, hk, Nat.zero_add]; rfl))
    simp only [id_eq, Bool.and_eq_true, Bool.or_eq_true, bne_iff_ne, decide_eq_true_eq] at h2
    exact fv_same (fun e => had _ (h2.1.resolve_left (fun h => h e))) (fun e => had _ (h2.2.resolve_left (fun h => h e)))
theorem ce_aE {G : WG} {ty : ClassId × ClassId × ClassId} {p : Nat} {cs : List Int} (kd n : Nat) (hG : G.2.2.2 = ty) (hc : INI.getD p [] = cs) : aE ty kd n cs = ceI G (sF p) (.inl (kd, n)) := by
  subst hG
  subst hc
  match kd with
  | 0 => rfl
  | 1 => rfl
  | j + 2 => rfl
theorem fin_cons {a a' : Nat} {e e' : va_E} {l l' : va_W} (h0 : a = a') (h1 : e = e') (h2 : l = l') (w : va_W) : w ++ ((a, e) :: l) = w ++ ((a', e') :: l') := by
  subst h0
  subst h1
  subst h2
  rfl
theorem adF_42 {x mm : Nat} {qs8 qs9 : List Nat} {adK : Nat → Nat} : mm = adF x qs8 mm qs9 adK 42 := by
  unfold adF
  rw [if_neg (by omega), if_pos (by omega)]
  rfl
theorem fin_f (ad : Nat → Nat) (qs9 : List Nat) (had : ∀ i, i < 57 → ad (43 + i) = qs9.getD i 0) : cuF 0 US9 qs9 fs0_9 = mI (fun k kd => fv ad (sF 42 (k : Int)) kd) 0 ks9 := by
  have h1 := cuH_s 0 qs9 US9 0 SY9 US9_no4
  rw [← SY9_0, SY9_1, mI_map] at h1
  refine Eq.trans h1 (mI_congr (fun k kd hk => ?_))
  have h2 := List.all_eq_true.mp ks9_ok kd (List.mem_of_getElem? hk)
  simp only [Bool.and_eq_true, Bool.or_eq_true, bne_iff_ne, decide_eq_true_eq] at h2
  refine (fv_syI h2.1 (fun e => ?_)).symm
  have h3 := h2.2.resolve_left (fun h => h e)
  have h4 := had (kd.2 - 43) (by omega)
  rw [show 43 + (kd.2 - 43) = kd.2 by omega] at h4
  exact h4
theorem fin_a (G : WG) (ty : ClassId × ClassId × ClassId) (hG : G.2.2.2 = ty) (qs9 : List Nat) (had : ∀ i, i < 57 → G.2.1 (43 + i) = qs9.getD i 0) : cuA ty US9 qs9 = mI (fun p sh => (G.2.1 p, ceI G (sF p) sh)) 43 (SH.drop 43) := by
  have h1 := cuA_s ty qs9 US9 0 US9_no4
  refine Eq.trans h1 ?_
  rw [SH9_a]
  apply List.ext_getElem?
  intro k
  rw [mI_at, mI_at, List.getElem?_map]
  cases ha : (auL US9)[k]? with
  | none => rfl
  | some a =>
    have hk : k < 57 := by
      have := (List.getElem?_eq_some_iff.mp ha).1
      rwa [au9_len] at this
    have hc : INI.getD (43 + k) [] = a.2.2 := by
      rw [List.getD_eq_getElem?_getD, ← List.getElem?_drop, SH9_c, List.getElem?_map, ha]
      rfl
    have hz : (qs9.getD (0 + k) 0, aE ty a.1 a.2.1 a.2.2) = (G.2.1 (43 + k), ceI G (sF (43 + k)) (.inl (a.1, a.2.1))) := by
      rw [Nat.zero_add, had k hk, ce_aE a.1 a.2.1 hG hc]
    exact congrArg some hz
theorem fin_eq (D : va_G) (ty : ClassId × ClassId × ClassId) (x mm : Nat) (qs8 qs9 : List Nat) (adK adV : Nat → Nat) : wdc D ty (fun p => (x :: qs8).getD p 0) ++ ((mm, .inr (9, cuF 0 US9 qs9 fs0_9)) :: cuA ty US9 qs9) = wd (D, adF x qs8 mm qs9 adK, adV, ty) sF := by
  have e0 := fin_8 D ty x mm qs8 qs9 adK adV
  have e1 := congrArg (fun z => (Sum.inr (9, z) : va_E)) (fin_f (adF x qs8 mm qs9 adK) qs9 (fun i h => adF_9 h))
  have e2 := fin_a (D, adF x qs8 mm qs9 adK, adV, ty) ty rfl qs9 (fun i h => adF_9 h)
  refine Eq.trans ?_ (wdI_eq (D, adF x qs8 mm qs9 adK, adV, ty) sF).symm
  refine Eq.trans ?_ (mI_SH (fun p sh => (adF x qs8 mm qs9 adK p, ceI (D, adF x qs8 mm qs9 adK, adV, ty) (sF p) sh))).symm
  rw [e0]
  exact fin_cons adF_42 e1 e2 _
