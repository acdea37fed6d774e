/-! ===== a question's answer over the days (wip/whole/9s.py) ===== -/
/-- what the reference keeps -/
def tkV (K a nw v i : Int) : Int := if K = 0 then (if v = 1 ∧ a = -1 then i else a) else if K = 1 then (if v = 1 then i else a) else if K = 2 then (if v = 1 then a + 1 else a) else if K = 3 then a + v else if K = 4 then (if nw ≠ 0 ∨ a < v then v else a) else (if nw ≠ 0 ∨ v < a then v else a)
theorem mqtk {d : Nat} {K v i : Int} {σ : SG} {Q : Option AV → SG → Prop} (hK : 0 ≤ K ∧ K ≤ 5) (hv : QV v) (ha : r6 (σ 42 78)) (hn : r3 (σ 42 79)) (hi : r3 i) (hq : ∀ σ', (∀ p, p ≠ 42 → σ' p = σ p) → (∀ j, j ≠ 78 → j ≠ 79 → σ' 42 j = σ 42 j) → σ' 42 78 = tkV K (σ 42 78) (σ 42 79) v i → σ' 42 79 = 0 → Q none σ') : AW d mX9_qTakes 0 [some (.inr (.inr 42)), some (.inl K), some (.inr (.inl v)), none, some (.inl i), none] [] σ Q := by
  unfold QV at hv
  have no : σ 42 78 = tkV K (σ 42 78) (σ 42 79) v i → ∀ S : SG, S = up σ 42 79 0 → Q none S := by
    intro e S eS
    refine hq S (fun p hp => by rw [eS, up_pf hp]) (fun j _ b => by rw [eS, up_i b]) ?_ (by rw [eS, up_at])
    rw [eS, up_i (by decide)]
    exact e
  have yes : ∀ x, x = tkV K (σ 42 78) (σ 42 79) v i → ∀ S : SG, S = up σ 42 78 x → ∀ S2 : SG, S2 = up S 42 79 0 → Q none S2 := by
    intro x e S eS S2 e2
    refine hq S2 (fun p hp => by rw [e2, up_pf hp, eS, up_pf hp]) (fun j a b => by rw [e2, up_i b, eS, up_i a]) ?_ (by rw [e2, up_at])
    rw [e2, up_i (by decide), eS, up_at]
    exact e
  have hc : K = 0 ∨ K = 1 ∨ K = 2 ∨ K = 3 ∨ K = 4 ∨ K = 5 := by omega
  rcases hc with z | z | z | z | z | z <;> subst z
  · refine aT0_0 ⟨by omega, fun c => no ?_, fun c => ⟨ha, fun c2 => ⟨hi, yes _ ?_⟩, fun c2 => no ?_⟩⟩
    · show _ = if v = 1 ∧ σ 42 78 = -1 then i else σ 42 78
      rw [if_neg (fun z => c z.1)]
    · show _ = if v = 1 ∧ σ 42 78 = -1 then i else σ 42 78
      rw [if_pos ⟨c, c2⟩]
    · show _ = if v = 1 ∧ σ 42 78 = -1 then i else σ 42 78
      rw [if_neg (fun z => c2 z.2)]
  · refine aT1_0 ⟨by omega, fun c => no ?_, fun c => ⟨hi, yes _ ?_⟩⟩
    · show _ = if v = 1 then i else σ 42 78
      rw [if_neg c]
    · show _ = if v = 1 then i else σ 42 78
      rw [if_pos c]
  · refine aT2_0 ⟨by omega, fun c => no ?_, fun c => yes _ ?_⟩
    · show _ = if v = 1 then σ 42 78 + 1 else σ 42 78
      rw [if_neg c]
    · show _ = if v = 1 then σ 42 78 + 1 else σ 42 78
      rw [if_pos c]
  · exact aT3_0 (yes _ rfl)
  · refine aT4_0 ⟨hn, fun c => yes _ ?_, fun c => ⟨⟨by omega, ha⟩, fun c2 => no ?_, fun c2 => yes _ ?_⟩⟩
    · show _ = if σ 42 79 ≠ 0 ∨ σ 42 78 < v then v else σ 42 78
      rw [if_pos (Or.inl c)]
    · show _ = if σ 42 79 ≠ 0 ∨ σ 42 78 < v then v else σ 42 78
      rw [if_neg (by omega)]
    · show _ = if σ 42 79 ≠ 0 ∨ σ 42 78 < v then v else σ 42 78
      rw [if_pos (Or.inr c2)]
  · refine aT5_0 ⟨hn, fun c => yes _ ?_, fun c => ⟨⟨by omega, ha⟩, fun c2 => no ?_, fun c2 => yes _ ?_⟩⟩
    · show _ = if σ 42 79 ≠ 0 ∨ v < σ 42 78 then v else σ 42 78
      rw [if_pos (Or.inl c)]
    · show _ = if σ 42 79 ≠ 0 ∨ v < σ 42 78 then v else σ 42 78
      rw [if_neg (by omega)]
    · show _ = if σ 42 79 ≠ 0 ∨ v < σ 42 78 then v else σ 42 78
      rw [if_pos (Or.inr c2)]
/-- the reference's answer behind m days; the class's three -/
def anF (K : Int) (V : Int → Int) (td : Int) : Int → Int → Int := fun i a => tkV K a (if i = 0 then 1 else 0) (V i) (td + i)
def anV (K : Int) (V : Int → Int) (td m : Int) : Int := foI (anF K V td) (if K < 2 then -1 else 0) m
def fnF (K : Int) (V : Int → Int) (td : Int) : Int → Int → Int := fun i a => if V i ≠ 0 ∧ (K = 1 ∨ a = -1) then td + i else a
def smF (V : Int → Int) : Int → Int → Int := fun i a => a + V i
def bsF (K : Int) (V : Int → Int) : Int → Int → Int := fun i a => if i = 0 ∨ (if K = 4 then a < V i else V i < a) then V i else a
theorem an_fn {K : Int} {V : Int → Int} {td : Int} (hK : K = 0 ∨ K = 1) (hV : ∀ i, 0 ≤ i → QB (V i)) : ∀ m : Nat, foI (anF K V td) (if K < 2 then -1 else 0) (m : Int) = foI (fnF K V td) (-1) (m : Int) := by
  intro m
  induction m with
  | zero =>
    rw [show ((0 : Nat) : Int) = 0 from rfl, foI_0, foI_0, if_pos (by omega)]
  | succ m ih =>
    rw [show ((m + 1 : Nat) : Int) = (m : Int) + 1 by omega, foI_s _ _ (by omega), foI_s _ _ (by omega), ih]
    generalize foI (fnF K V td) (-1) (m : Int) = a
    have hb := hV (m : Int) (by omega)
    unfold QB at hb
    unfold anF fnF tkV
    rcases hK with z | z <;> subst z
    · rw [if_pos rfl]
      by_cases c : V (m : Int) = 1 ∧ a = -1
      · rw [if_pos c, if_pos ⟨by omega, Or.inr c.2⟩]
      · rw [if_neg c, if_neg (fun w => c ⟨by omega, w.2.elim (fun y => absurd y (by decide)) id⟩)]
    · rw [if_neg (by decide), if_pos rfl]
      by_cases c : V (m : Int) = 1
      · rw [if_pos c, if_pos ⟨by omega, Or.inl rfl⟩]
      · rw [if_neg c, if_neg (fun w => w.1 (by omega))]
theorem an_sm {K : Int} {V : Int → Int} {td : Int} (hK : (K = 2 ∧ ∀ i, 0 ≤ i → QB (V i)) ∨ K = 3) : ∀ m : Nat, foI (anF K V td) (if K < 2 then -1 else 0) (m : Int) = foI (smF V) 0 (m : Int) := by
  intro m
  induction m with
  | zero =>
    rw [show ((0 : Nat) : Int) = 0 from rfl, foI_0, foI_0, if_neg (by omega)]
  | succ m ih =>
    rw [show ((m + 1 : Nat) : Int) = (m : Int) + 1 by omega, foI_s _ _ (by omega), foI_s _ _ (by omega), ih]
    generalize foI (smF V) 0 (m : Int) = a
    unfold anF smF tkV
    rcases hK with ⟨z, hV⟩ | z <;> subst z
    · have hb := hV (m : Int) (by omega)
      unfold QB at hb
      rw [if_neg (by decide), if_neg (by decide), if_pos rfl]
      by_cases c : V (m : Int) = 1
      · rw [if_pos c, c]
      · rw [if_neg c, show V (m : Int) = 0 by omega, Int.add_zero]
    · rw [if_neg (by decide), if_neg (by decide), if_neg (by decide), if_pos rfl]
theorem an_bs {K : Int} {V : Int → Int} {td : Int} (hK : K = 4 ∨ K = 5) : ∀ m : Nat, foI (anF K V td) (if K < 2 then -1 else 0) (m : Int) = foI (bsF K V) 0 (m : Int) := by
  intro m
  induction m with
  | zero =>
    rw [show ((0 : Nat) : Int) = 0 from rfl, foI_0, foI_0, if_neg (by omega)]
  | succ m ih =>
    rw [show ((m + 1 : Nat) : Int) = (m : Int) + 1 by omega, foI_s _ _ (by omega), foI_s _ _ (by omega), ih]
    generalize foI (bsF K V) 0 (m : Int) = a
    unfold anF bsF tkV
    have e1 : ((if (m : Int) = 0 then (1 : Int) else 0) ≠ 0) ↔ (m : Int) = 0 := by
      by_cases c : (m : Int) = 0
      · rw [if_pos c]
        exact ⟨fun _ => c, fun _ => by decide⟩
      · rw [if_neg c]
        exact ⟨fun w => absurd rfl w, fun w => absurd w c⟩
    rcases hK with z | z <;> subst z
    · rw [if_neg (by decide), if_neg (by decide), if_neg (by decide), if_neg (by decide), if_pos rfl]
      by_cases c : (m : Int) = 0 ∨ a < V (m : Int)
      · rw [if_pos (c.elim (fun w => Or.inl (e1.mpr w)) Or.inr), if_pos (c.elim Or.inl (fun w => Or.inr (by rw [if_pos rfl]; exact w)))]
      · rw [if_neg (fun w => c (w.elim (fun y => Or.inl (e1.mp y)) Or.inr)), if_neg (fun w => c (w.elim Or.inl (fun y => Or.inr (by rw [if_pos rfl] at y; exact y))))]
    · rw [if_neg (by decide), if_neg (by decide), if_neg (by decide), if_neg (by decide), if_neg (by decide)]
      by_cases c : (m : Int) = 0 ∨ V (m : Int) < a
      · rw [if_pos (c.elim (fun w => Or.inl (e1.mpr w)) Or.inr), if_pos (c.elim Or.inl (fun w => Or.inr (by rw [if_neg (by decide)]; exact w)))]
      · rw [if_neg (fun w => c (w.elim (fun y => Or.inl (e1.mp y)) Or.inr)), if_neg (fun w => c (w.elim Or.inl (fun y => Or.inr (by rw [if_neg (by decide)] at y; exact y))))]
/-- bounds -/
theorem an_r {K : Int} {V : Int → Int} {td : Int} (hV : ∀ i, 0 ≤ i → QV (V i)) (ht : 0 ≤ td ∧ td ≤ 999) : ∀ m : Nat, m ≤ 200 → -(1000000 * ((m : Int) + 1)) ≤ foI (anF K V td) (if K < 2 then -1 else 0) (m : Int) ∧ foI (anF K V td) (if K < 2 then -1 else 0) (m : Int) ≤ 1000000 * ((m : Int) + 1) := by
  intro m
  induction m with
  | zero =>
    intro _
    rw [show ((0 : Nat) : Int) = 0 from rfl, foI_0]
    split <;> omega
  | succ m ih =>
    intro hm
    have ih := ih (by omega)
    rw [show ((m + 1 : Nat) : Int) = (m : Int) + 1 by omega, foI_s _ _ (by omega)]
    generalize foI (anF K V td) (if K < 2 then -1 else 0) (m : Int) = a at *
    have hb := hV (m : Int) (by omega)
    unfold QV at hb
    unfold anF tkV
    repeat' split
    all_goals omega
