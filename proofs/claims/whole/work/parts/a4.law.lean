/-! ===== the law: the script's cells as arguments, a call, a case ===== -/
def lwV (xs : Nat → Int32) (k j n : Nat) : List AV := (List.range' j n).map fun i => .inl (xs (6 * k + i)).toInt
def lcA : Nat → Nat → Nat → Bool
  | _, _, 0 => true
  | pc, j, n + 1 => (decide (decode code pc = .ok (.aload_n 0, 1)) && decide (decode code (pc + 1) = .ok (.iload_n 3, 1)) && decide (decode code (pc + 1 + 1) = .ok (.iconst (j : Int), 1)) && decide (decode code (pc + 1 + 1 + 1) = .ok (.iadd, 1)) && decide (decode code (pc + 1 + 1 + 1 + 1) = .ok (.iaload, 1))) && lcA (pc + 5) (j + 1) n
def lcE (pc na ix1 ix2 : Nat) : Bool := decide (decode code pc = .ok (.aload_n 1, 1)) && lcA (pc + 1) 1 na && decide (decode code (pc + 1 + 5 * na) = .ok (.invokevirtual ix1, 3)) && decide (decode code (pc + 1 + 5 * na + 3) = .ok (.aload_n 2, 1)) && lcA (pc + 1 + 5 * na + 3 + 1) 1 na && decide (decode code (pc + 1 + 5 * na + 3 + 1 + 5 * na) = .ok (.invokevirtual ix2, 3))
def LX (p : Program) (s : State) (m : MethodId) (meth : Method) (c : Code) (b L : Nat) (xs : Nat → Int32) (G : WG) : Prop := lw_At p s m meth c b L xs ∧ L ≤ 3072 ∧ KN G s ∧ ∀ q, AD G q → s.heap.size ≤ q
def lwM (M : Nat) (t : MTE) (ci ix na : Nat) : Prop := MT[M]? = some t ∧ t.2.2.2.2 = ci ∧ Cond.methodLink R_law ix t.1 ∈ lw_tbl ∧ M ∈ VM ∧ M ∈ EM ∧ na + 1 ≤ t.2.2.1 ∧ (parseMethodDescriptor t.1.desc).map (fun d => d.parameters.length) = some na
def LInv (G : WG) (k : Nat) (s : State) (H : Heap) (locs : List Loc) : Prop := ∃ (σ : SG) (n : Int) (r q : Nat), SIM n σ r q ∧ n ≤ (k : Int) ∧ va_P G.1 vwCl (wd G σ) H ∧ va_S (fun q => s.heap.size ≤ q) s.heap H locs
def lwL (b : Nat) (G : WG) (k : Nat) : List (Nat × Value) := [(0, .ref b), (1, .ref (G.2.1 0)), (2, .ref (G.2.1 42)), (3, .int (Int32.ofInt ((6 * k : Nat) : Int)))]
theorem lwV_sl (xs : Nat → Int32) (k : Nat) : ∀ n j : Nat, ((lwV xs k j n).flatMap slt).length = n
  | 0, _ => rfl
  | n + 1, j => by
    have ih := lwV_sl xs k n (j + 1)
    unfold lwV at ih ⊢
    rw [List.range'_succ, List.map_cons, List.flatMap_cons, List.length_append, ih]
    show 1 + n = n + 1
    omega
theorem lwV_len (xs : Nat → Int32) (k j n : Nat) : (lwV xs k j n).length = n := by
  unfold lwV
  rw [List.length_map, List.length_range']
section LAW
variable {p : Program} {l : Launch} {e : Env} {s : State} {m : MethodId} {below : List Frame} {meth : Method} {c : Code} {H : Heap} {locs : List Loc} {cells slots b L k : Nat} {xs : Nat → Int32} {Q : State → Prop} {ls : Array Slot} {G : WG}
theorem lw_arg (C0 : lw_At p s m meth c b L xs) (hL : L ≤ 3072) (hk : 6 * k + 6 ≤ L) (hl : lv_has ls 4 (lwL b G k)) (hS : va_S (fun q => s.heap.size ≤ q) s.heap H locs) : ∀ (n j pc : Nat) (st : List Value), lcA pc j n = true → j + n ≤ 6 →
    W p l e room_1 s m #[Value.ref b] below meth c H locs cells slots Q (F0 m (pc + 5 * n) ls (((lwV xs k j n).map (cv G.2.1)).reverse ++ st)) → W p l e room_1 s m #[Value.ref b] below meth c H locs cells slots Q (F0 m pc ls st) := by
  intro n
  induction n with
  | zero =>
    intro j pc st _ _ h
    exact W.eq rfl h
  | succ n ih =>
    intro j pc st hc hj h
    have C1 := C0
    obtain ⟨hx, hb, hr, hml, hown, hts, hX, hbl, hlocks, hgv⟩ := C1
    unfold lcA at hc
    simp only [Bool.and_eq_true, decide_eq_true_eq] at hc
    obtain ⟨⟨⟨⟨⟨d1, d2⟩, d3⟩, d4⟩, d5⟩, hc⟩ := hc
    refine lv_aload_n hx hb d1 rfl (lv_at hl 0 rfl) ?_
    refine lv_iload_n hx hb d2 rfl (lv_at hl 3 rfl) ?_
    refine lv_iconst hx hb d3 rfl ?_
    refine lv_iadd hx hb d4 ?_
    refine W.eq (g2 := F0 m (pc + 1 + 1 + 1 + 1) ls (.int (Int32.ofInt ((6 * k + j : Nat) : Int)) :: .ref b :: st)) (by rw [← Int32.ofInt_add, ← Int.natCast_add]) ?_
    refine va_sld hx hb hX hbl (A := fun q => s.heap.size ≤ q) (Nat.not_le.mpr hbl) hS (i3_in (x := ((6 * k + j : Nat) : Int)) (by omega) (by omega) (by omega)) d5 ?_
    rw [i3_clamp (by omega) (by omega)]
    refine ih (j + 1) (pc + 5) _ hc (by omega) ?_
    refine W.eq ?_ h
    have e1 : pc + 5 + 5 * n = pc + 5 * (n + 1) := by omega
    have e2 : (((lwV xs k j (n + 1)).map (cv G.2.1)).reverse ++ st) = (((lwV xs k (j + 1) n).map (cv G.2.1)).reverse ++ Value.int (xs (6 * k + j)) :: st) := by
      unfold lwV
      rw [List.range'_succ, List.map_cons, List.map_cons, List.reverse_cons, List.append_assoc]
      show _ ++ ([Value.int (Int32.ofInt (xs (6 * k + j)).toInt)] ++ st) = _
      rw [Int32.ofInt_toInt]
      rfl
    rw [e1, e2]
    rfl
theorem lw_call (X : LX p s m meth c b L xs G) (hcs : cells ≤ 600000 ∧ slots ≤ 7302250) {M ix na ci pl pc : Nat} {t : MTE} {ks : List (Nat × Nat)} (hm : lwM M t ci ix na) (hsh : SH[pl]? = some (.inr (ci, ks))) {σ : SG} {Qa : Option AV → SG → Prop} (h : AW 100 M 0 (ent (.inr (.inr pl) :: lwV xs k 1 na) t.2.2.1) [] σ Qa) {rest : List Value} (hrest : (rest.map fun v => v.category).sum ≤ 8) (hls : ls.size = 4) (hdg : decode code pc = .ok (.invokevirtual ix, 3)) (hP : va_P G.1 vwCl (wd G σ) H) (hS : va_S (fun q => s.heap.size ≤ q) s.heap H locs)
    (kk : ∀ (r : Option AV) (σ' : SG) (H1 : Heap) (locs1 : List Loc), Qa r σ' → rsh t.2.2.2.1 r → va_P G.1 vwCl (wd G σ') H1 → va_S (fun q => s.heap.size ≤ q) s.heap H1 locs1 → W p l e room_1 s m #[Value.ref b] below meth c H1 locs1 cells slots Q (F0 m (pc + 3) ls ((r.map (cv G.2.1)).toList ++ rest))) :
    W p l e room_1 s m #[Value.ref b] below meth c H locs cells slots Q (F0 m pc ls (((lwV xs k 1 na).map (cv G.2.1)).reverse ++ .ref (G.2.1 pl) :: rest)) := by
  obtain ⟨C0, hL, hKN, hAD⟩ := X
  obtain ⟨hx, hb, hr, hml, hown, hts, hX, hbl, hlocks, hgv⟩ := C0
  obtain ⟨ht, hci, hlk, hVM, hEM, hmx, hds⟩ := hm
  obtain ⟨hpl, hcl, hm40, hnn, hic⟩ := mt_ok ht
  obtain ⟨q, hq, hqn⟩ := vw_get (sh_obj hsh).1
  have hqc : q.1 = t.1.cls := by rw [hqn, hcl, hci]
  have hrecv := va_recv hKN.1 hP hq (wd_get G σ pl hsh)
  rw [hqc] at hrecv
  have hins : (Cond.instanceMethod t.1) ∈ TX := by
    have := tx_VM hVM
    unfold swV at this
    rwa [yOf_s ht] at this
  have hsel : (Cond.selects t.1.cls t.1 t.1) ∈ TX := by
    have := tx_EM hEM
    unfold swE at this
    rwa [yOf_s ht] at this
  have hgood : GoodIn lw_tbl (wsV R_law ix t.1.cls t.1 (mw t :: TX)) := by
    intro w hw
    rcases List.mem_append.mp hw with hw | hw
    · simp only [List.mem_cons, List.not_mem_nil, or_false] at hw
      rcases hw with rfl | rfl | rfl | rfl
      · exact ⟨hlk, Or.inl rfl⟩
      · exact ⟨TX_in _ hins, (TX_self _ hins).2⟩
      · exact ⟨TX_in _ hsel, (TX_self _ hsel).2⟩
      · exact ⟨TX_in _ (init_TX ht), (TX_self _ (init_TX ht)).2⟩
    · have hw2 : w ∈ TX := (List.mem_cons.mp hw).elim (fun z => by rw [z]; exact mw_TX ht) id
      exact ⟨TX_in _ hw2, (TX_self _ hw2).2⟩
  have hlt : (sh_obj hsh).1 = (sh_obj hsh).1 := rfl
  have hlen : ((.inr (.inr pl) :: lwV xs k 1 na : List AV).flatMap slt).length ≤ t.2.2.1 := by
    rw [List.flatMap_cons, List.length_append, lwV_sl]
    show 1 + na ≤ t.2.2.1
    omega
  have hM := AW.metS ht (by have := (sh_obj hsh).1; omega) hlen h l G
  have hS0 : va_S (AD G) s.heap H [] := ⟨hS.1, fun q h1 h2 => hS.2.1 q h1 (Nat.not_le.mpr h1), fun q hq => by cases hq⟩
  have hpre : PreV s H t.1.cls (G.2.1 pl) (PC G (.inr (.inr pl) :: lwV xs k 1 na) σ) ((lwV xs k 1 na).map (cv G.2.1)) := ⟨PC.blind _ _ _, hrecv, fun U hU hW => ⟨rfl, by rw [hU]; exact hP, hKN.warm hS0 hU hW⟩⟩
  have hR : (RM 100).frames + 1 ≤ room_1.frames ∧ 8 + (t.2.2.1 + 11) + (RM 100).locals ≤ room_1.locals := by
    refine ⟨Nat.le_of_ble_eq_true rfl, ?_⟩
    show 8 + (t.2.2.1 + 11) + 64 * 100 ≤ 84000
    omega
  refine aw_after (va_runV (As := (lwV xs k 1 na).map (cv G.2.1)) (rest := rest) (g := F0 m pc ls (((lwV xs k 1 na).map (cv G.2.1)).reverse ++ .ref (G.2.1 pl) :: rest)) ⟨hx, hb, hml, hown, hts⟩ hM (cwV na hts hgood rfl rfl rfl ⟨rfl, hnn.1, hnn.2, hds⟩ hR) hpre rfl (by rw [List.length_map, lwV_len]) hls rfl (lv_room hrest) hdg ⟨?_, ?_⟩) hS hAD (fun r σ' H1 locs1 hQ hP1 hS1 _ => kk r σ' H1 locs1 hQ.1 hQ.2 hP1 hS1)
  · exact hcs.1
  · exact hcs.2
/-- a case of the law whose answers are ints -/
theorem lw_case (X : LX p s m meth c b L xs G) (hk : 6 * k + 6 ≤ L) (hcs : cells ≤ 600000 ∧ slots ≤ 7302250) {M1 M2 ix1 ix2 na pc : Nat} {t1 t2 : MTE} {off : Int} (hc : lcE pc na ix1 ix2 = true) (hna : na ≤ 5) (h1 : lwM M1 t1 8 ix1 na) (h2 : lwM M2 t2 9 ix2 na) (hret : t1.2.2.2.1 = some .int ∨ t1.2.2.2.1 = some .boolean) (d9 : decode code (pc + 1 + 5 * na + 3 + 1 + 5 * na + 3) = .ok (.if_icmp .eq off, 3)) (ho : ((pc + 1 + 5 * na + 3 + 1 + 5 * na + 3 : Nat) : Int) + off = ((1110 : Nat) : Int))
    (hcall : ∀ (σ : SG) (n : Int) (r q : Nat), SIM n σ r q → n ≤ (k : Int) → AW 100 M1 0 (ent (.inr (.inr 0) :: lwV xs k 1 na) t1.2.2.1) [] σ (fun v τ => AW 100 M2 0 (ent (.inr (.inr 42) :: lwV xs k 1 na) t2.2.2.1) [] τ (fun v' σ' => v' = v ∧ ∃ (n' : Int) (r' q' : Nat), SIM n' σ' r' q' ∧ n' ≤ ((k + 1 : Nat) : Int))))
    (hl : lv_has ls 4 (lwL b G k)) (hI : LInv G k s H locs) (kk : ∀ (H1 : Heap) (locs1 : List Loc), LInv G (k + 1) s H1 locs1 → W p l e room_1 s m #[Value.ref b] below meth c H1 locs1 cells slots Q (F0 m 1110 ls [])) :
    W p l e room_1 s m #[Value.ref b] below meth c H locs cells slots Q (F0 m pc ls []) := by
  obtain ⟨σ, n, r, q, hs, hn, hP, hS⟩ := hI
  have X' := X
  obtain ⟨C0, hL, hKN, hAD⟩ := X'
  have C1 := C0
  obtain ⟨hx, hb, hr, hml, hown, hts, hX, hbl, hlocks, hgv⟩ := C1
  unfold lcE at hc
  simp only [Bool.and_eq_true, decide_eq_true_eq] at hc
  obtain ⟨⟨⟨⟨⟨d1, a1⟩, d2⟩, d3⟩, a2⟩, d4⟩ := hc
  refine lv_aload_n hx hb d1 rfl (lv_at hl 1 rfl) ?_
  refine lw_arg C0 hL hk hl hS na 1 (pc + 1) _ a1 (by omega) ?_
  refine lw_call X hcs h1 (pl := 0) rfl (hcall σ n r q hs hn) (rest := []) (Nat.zero_le _) hl.1 d2 hP hS (fun v τ H1 locs1 hv hz hP1 hS1 => ?_)
  obtain ⟨x, rfl⟩ : ∃ x, v = some (.inl x) := by
    rcases hret with e | e <;> rw [e] at hz <;> exact hz
  refine lv_aload_n hx hb d3 rfl (lv_at hl 2 rfl) ?_
  refine lw_arg C0 hL hk hl hS1 na 1 (pc + 1 + 5 * na + 3 + 1) _ a2 (by omega) ?_
  refine lw_call X hcs h2 (pl := 42) rfl hv (rest := [.int (Int32.ofInt x)]) (by show 1 + 0 ≤ 8; omega) hl.1 d4 hP1 hS1 (fun v' σ' H2 locs2 hv' _ hP2 hS2 => ?_)
  obtain ⟨rfl, n', r', q', hs', hn'⟩ := hv'
  refine lv_icmp_eq (tgt := 1110) hx hb d9 ho (fun _ => ?_) (fun hne => absurd rfl hne)
  exact kk H2 locs2 ⟨σ', n', r', q', hs', hn', hP2, hS2⟩
/-- the case whose answers are longs -/
theorem lw_caseL (X : LX p s m meth c b L xs G) (hk : 6 * k + 6 ≤ L) (hcs : cells ≤ 600000 ∧ slots ≤ 7302250) {M1 M2 ix1 ix2 na pc : Nat} {t1 t2 : MTE} {off : Int} (hc : lcE pc na ix1 ix2 = true) (hna : na ≤ 5) (h1 : lwM M1 t1 8 ix1 na) (h2 : lwM M2 t2 9 ix2 na) (hret : t1.2.2.2.1 = some .long) (d8 : decode code (pc + 1 + 5 * na + 3 + 1 + 5 * na + 3) = .ok (.lcmp, 1)) (d9 : decode code (pc + 1 + 5 * na + 3 + 1 + 5 * na + 3 + 1) = .ok (.ifCond .eq off, 3)) (ho : ((pc + 1 + 5 * na + 3 + 1 + 5 * na + 3 + 1 : Nat) : Int) + off = ((1110 : Nat) : Int))
    (hcall : ∀ (σ : SG) (n : Int) (r q : Nat), SIM n σ r q → n ≤ (k : Int) → AW 100 M1 0 (ent (.inr (.inr 0) :: lwV xs k 1 na) t1.2.2.1) [] σ (fun v τ => AW 100 M2 0 (ent (.inr (.inr 42) :: lwV xs k 1 na) t2.2.2.1) [] τ (fun v' σ' => v' = v ∧ ∃ (n' : Int) (r' q' : Nat), SIM n' σ' r' q' ∧ n' ≤ ((k + 1 : Nat) : Int))))
    (hl : lv_has ls 4 (lwL b G k)) (hI : LInv G k s H locs) (kk : ∀ (H1 : Heap) (locs1 : List Loc), LInv G (k + 1) s H1 locs1 → W p l e room_1 s m #[Value.ref b] below meth c H1 locs1 cells slots Q (F0 m 1110 ls [])) :
    W p l e room_1 s m #[Value.ref b] below meth c H locs cells slots Q (F0 m pc ls []) := by
  obtain ⟨σ, n, r, q, hs, hn, hP, hS⟩ := hI
  have X' := X
  obtain ⟨C0, hL, hKN, hAD⟩ := X'
  have C1 := C0
  obtain ⟨hx, hb, hr, hml, hown, hts, hX, hbl, hlocks, hgv⟩ := C1
  unfold lcE at hc
  simp only [Bool.and_eq_true, decide_eq_true_eq] at hc
  obtain ⟨⟨⟨⟨⟨d1, a1⟩, d2⟩, d3⟩, a2⟩, d4⟩ := hc
  refine lv_aload_n hx hb d1 rfl (lv_at hl 1 rfl) ?_
  refine lw_arg C0 hL hk hl hS na 1 (pc + 1) _ a1 (by omega) ?_
  refine lw_call X hcs h1 (pl := 0) rfl (hcall σ n r q hs hn) (rest := []) (Nat.zero_le _) hl.1 d2 hP hS (fun v τ H1 locs1 hv hz hP1 hS1 => ?_)
  obtain ⟨x, rfl⟩ : ∃ x, v = some (.inr (.inl x)) := by
    rw [hret] at hz
    exact hz
  refine lv_aload_n hx hb d3 rfl (lv_at hl 2 rfl) ?_
  refine lw_arg C0 hL hk hl hS1 na 1 (pc + 1 + 5 * na + 3 + 1) _ a2 (by omega) ?_
  refine lw_call X hcs h2 (pl := 42) rfl hv (rest := [.long (Int64.ofInt x)]) (by show 2 + 0 ≤ 8; omega) hl.1 d4 hP1 hS1 (fun v' σ' H2 locs2 hv' _ hP2 hS2 => ?_)
  obtain ⟨rfl, n', r', q', hs', hn'⟩ := hv'
  refine W.lcmp hx hb d8 ?_
  have hz : lg_cmp (Int64.ofInt x) (Int64.ofInt x) = 0 := by
    unfold lg_cmp
    rw [if_neg (by simp only [gt_iff_lt, Int64.lt_iff_toInt_lt]; omega), if_pos rfl]
  refine lv_if_eq (tgt := 1110) hx hb d9 ho (fun _ => ?_) (fun hne => absurd hz hne)
  exact kk H2 locs2 ⟨σ', n', r', q', hs', hn', hP2, hS2⟩
end LAW
