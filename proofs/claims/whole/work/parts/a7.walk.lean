/-! ===== the law from its entry; the skeleton's end (wip/whole/gena6.py) ===== -/
theorem cu_callI {p : Program} {l : Launch} {e : Env} {R : Room} {s : State} {m : MethodId} {args : Array Value} {below : List Frame} {meth : Method} {c : Code} {H : Heap} {locs : List Loc} {cells slots : Nat} {Q : State → Prop} {cc : ByteArray} {pc : Nat} {ls : Array Slot} {rest : List Value} {D : va_G} {A : Nat → Prop} {H0 : Heap} {ty : ClassId × ClassId × ClassId} (hx : p.tables.exec = Jvm.exec) (hb : c.code = cc) (hts : ∀ w ∈ lw_tbl, w.before args s = true) {own : String} (hown : s.vm.findClass own = some m.cls) (hKC : KC D ty s)
    {y : MethodName} {cc' : ByteArray} {nL maxL cj n mc ms ix : Nat} {rm : Room} {fs0 : List Value} {w : Nat → List Nat → va_W} (hM : CM l y cc' maxL rm D ty cj fs0 [] n w mc ms) (hml : c.maxLocals = nL) (hls : ls.size = nL) (hcode : Cond.code y cc' maxL none ∈ CT0) (hrc : rm.cells = mc) (hrs : rm.slots = ms) (hlk : Cond.methodLink own ix y ∈ lw_tbl) (hini : Cond.initialized y.cls ∈ lw_tbl) (hins : Cond.instanceMethod y ∈ lw_tbl) (hyn : y.name = "<init>")
    (hd : y.cls ≠ "java/lang/invoke/MethodHandle" ∧ y.cls ≠ "java/lang/invoke/VarHandle" ∧ (parseMethodDescriptor y.desc).map (fun d => d.parameters.length) = some 0) (hR : rm.frames + 1 ≤ R.frames ∧ 8 + (maxL + 11) + rm.locals ≤ R.locals) (hrest : (rest.map fun v => v.category).sum ≤ 8) (hc1 : cells + mc ≤ R.cells) (hc2 : slots + ms ≤ R.slots) (hdg : decode cc pc = .ok (.invokespecial ix, 3))
    {ws : va_W} {q : Nat} (hP : va_P D vwCl (ws ++ [(q, .inr (cj, fs0))]) H) (hD : va_D A (ws ++ [(q, .inr (cj, fs0))])) (hS : va_S A H0 H locs) (hA : ∀ a, H0.size ≤ a → A a)
    (kk : ∀ (qs : List Nat) (H1 : Heap) (locs1 : List Loc), qs.length = n → va_P D vwCl (ws ++ w q qs) H1 → va_D A (ws ++ w q qs) → va_S A H0 H1 locs1 → W p l e R s m args below meth c H1 locs1 (cells + mc) (slots + ms) Q (F0 m (pc + 3) ls rest)) : W p l e R s m args below meth c H locs cells slots Q (F0 m pc ls (.ref q :: rest)) := by
  have hPq : va_P D vwCl [(q, .inr (cj, fs0))] H := fun k x hk => by
    have hz : k < 1 := (List.getElem?_eq_some_iff.mp hk).1
    obtain rfl : k = 0 := by omega
    cases hk
    exact hP ws.length _ (by simp)
  exact cu_after hP hD hS hA (va_runI (As := []) (rest := rest) (g := F0 m pc ls (.ref q :: rest)) ⟨hx, hb, hml, hown, hts⟩ (hM q H.size) (cwI 0 hts (lw_CT0 hcode) rfl hrc hrs (hts _ hini) (hts _ hlk) (hts _ hins) hyn hd hR) ⟨cPre.blind, fun U hU hW => ⟨rfl, by rw [hU], by rw [hU]; exact hPq, KC.warm hKC hW⟩⟩ rfl rfl hls rfl (lv_room hrest) hdg ⟨hc1, hc2⟩) kk
theorem lw_KN {s : State} {D : va_G} {ty : ClassId × ClassId × ClassId} {x mm : Nat} {qs8 qs9 : List Nat} {adK adV : Nat → Nat} {args : Array Value} (hts : ∀ w ∈ lw_tbl, w.before args s = true) (hK : va_K D vwCl (tyC ty) s) (hD : va_D (fun q => s.heap.size ≤ q) (wd (D, adF x qs8 mm qs9 adK, adV, ty) sF))
    (h1 : vk_S 7 sLen sByt adK adV (fun q => s.heap.size ≤ q) s s.heap) (h2 : ∀ e ∈ KS, vk_R (cnm e.1) e.2.1 (STRS.getD e.2.2 "") (adK e.2.2) s) (h3 : va_Z "java/lang/String" "COMPACT_STRINGS" "Z" (.int 1) (fun q => s.heap.size ≤ q) s s.heap) (h4 : ∃ v : Value, v.category = 1 ∧ va_Z "jdk/internal/util/Preconditions" "SIOOBE_FORMATTER" "Ljava/util/function/BiFunction;" v (fun q => s.heap.size ≤ q) s s.heap) :
    KN (D, adF x qs8 mm qs9 adK, adV, ty) s ∧ ∀ q, AD (D, adF x qs8 mm qs9 adK, adV, ty) q → s.heap.size ≤ q := by
  generalize hG : ((D, adF x qs8 mm qs9 adK, adV, ty) : WG) = G at hD ⊢
  have hAD : ∀ q, AD G q → s.heap.size ≤ q := by
    rintro q ⟨p, hp, rfl⟩
    exact hD.2 p _ (wd_get G sF p (List.getElem?_eq_getElem hp))
  have had : ∀ i : Nat, G.2.1 (1000 + i) = adK i := by
    intro i
    rw [← hG]
    show (if 1000 + i < 42 then (x :: qs8).getD (1000 + i) 0 else if 1000 + i < 100 then (mm :: qs9).getD (1000 + i - 42) 0 else adK (1000 + i - 1000)) = adK i
    rw [if_neg (by omega), if_neg (by omega), Nat.add_sub_cancel_left]
  have hadf : (fun i => G.2.1 (1000 + i)) = adK := funext had
  obtain ⟨v, v1, v2⟩ := h4
  refine ⟨⟨?_, lw_NT hts, ⟨?_, fun e he => ?_, h3.narrow hAD, v, v1, v2.narrow hAD⟩, fun i j hi hj e => ?_⟩, hAD⟩
  · rw [← hG]
    exact hK
  · rw [hadf, ← hG]
    rw [← hG] at hAD
    exact h1.narrow hAD
  · rw [had]
    exact h2 e he
  · exact hD.1 i j _ _ (wd_get G sF i (List.getElem?_eq_getElem hi)) (wd_get G sF j (List.getElem?_eq_getElem hj)) e
set_option maxHeartbeats 4000000 in
set_option maxRecDepth 100000 in
theorem whole_start {p : Program} {e : Env} {s : State} {m : MethodId} {below : List Frame} {meth : Method} {c : Code} (l : Launch) (hflags : l.flags = flags0) {b L : Nat} {xs : Nat → Int32} (hL : L ≤ 3072) (C0 : lw_At p s m meth c b L xs) : W p l e room_1 s m #[Value.ref b] below meth c s.heap [] 0 0 (lw_Z below #[Value.ref b] s) (entryFrame m ([Value.ref b] : List Value).toArray 4) := by
  have C1 := C0
  obtain ⟨hx, hb, hr, hml, hown, hts, hX, hbl, hlocks, hgv⟩ := C1
  obtain ⟨D, ty, hK⟩ := lw_known hts
  have hKC : KC D ty s := ⟨hK, lw_NC hts⟩
  obtain ⟨adK, adV, hT1, hT2, hT3, hT4⟩ := lw_texts hgv hts
  have hA : ∀ q : Nat, s.heap.size ≤ q → (fun q : Nat => s.heap.size ≤ q) q := fun _ h => h
  have hS : va_S (fun q : Nat => s.heap.size ≤ q) s.heap s.heap [] := va_S.rf
  have hP : va_P D vwCl [] s.heap := fun k q h => by cases h
  have hD : va_D (fun q : Nat => s.heap.size ≤ q) [] := ⟨fun i j p q h => (by cases h), fun k q h => (by cases h)⟩
  have hl := lv_entry ([.ref b]) (n := 4) (Nat.le_of_ble_eq_true rfl)
  rw [lg_entry_eq]
  generalize (lg_sl ([.ref b]) ++ List.replicate (4 - (lg_sl ([.ref b])).length) Slot.unset).toArray = ls at hl ⊢
  have hl : lv_has ls 4 [(0, .ref b)] := hl
  refine cu_new (Ts := lw_tbl) hx hb hts CT0_in hown hK (cj := 8) (ix := 7) (qv := (RX8, TX8, 10)) (fs0 := fs0_8) tyX8 rfl rfl tyX8_ok (LWD_in _ (List.mem_of_getElem? (i := 0) rfl)) (CT0_in _ (CT0_CW 0 rfl)) (TX_in _ (tx_IC (e := 8) (by decide +kernel))) fs0_8_ok hP hD hS hA (Nat.le_of_ble_eq_true rfl) (Nat.le_of_ble_eq_true rfl) (pc := 0) (by decide +kernel) (by decide +kernel) (fun x H hP hD hS => ?_)
  refine cu_callI hx hb hts hown hKC (met8 l D ty) hml hl.1 (CT0_CW 2 rfl) rfl rfl (ix := 9) (LWD_in _ (List.mem_of_getElem? (i := 1) rfl)) (TX_in _ (tx_IC (e := 8) (by decide +kernel))) (CT0_in _ (CT0_CW 1 rfl)) rfl (by decide +kernel) ⟨Nat.le_of_ble_eq_true rfl, Nat.le_of_ble_eq_true rfl⟩ (rest := [.ref x]) (by show 1 + 0 ≤ 8; omega) (Nat.le_of_ble_eq_true rfl) (Nat.le_of_ble_eq_true rfl) (pc := 4) (by decide +kernel) hP hD hS hA (fun qs8 H locs hq8 hP hD hS => ?_)
  refine lv_astore_n (k := 1) (lv' := [(1, .ref x), (0, .ref b)]) hx hb (pc := 7) (by decide +kernel) rfl hl (by decide) rfl (fun ls hl => ?_)
  refine cu_new (Ts := lw_tbl) hx hb hts CT0_in hown hK (cj := 9) (ix := 10) (qv := (RX9, TX9, 82)) (fs0 := fs0_9) tyX9 rfl rfl tyX9_ok (LWD_in _ (List.mem_of_getElem? (i := 35) rfl)) (CT0_in _ (CT0_CW 48 rfl)) (TX_in _ (tx_IC (e := 9) (by decide +kernel))) fs0_9_ok hP hD hS hA (Nat.le_of_ble_eq_true rfl) (Nat.le_of_ble_eq_true rfl) (pc := 8) (by decide +kernel) (by decide +kernel) (fun mm H hP hD hS => ?_)
  refine cu_callI hx hb hts hown hKC (met9 l D ty) hml hl.1 (CT0_CW 50 rfl) rfl rfl (ix := 12) (LWD_in _ (List.mem_of_getElem? (i := 36) rfl)) (TX_in _ (tx_IC (e := 9) (by decide +kernel))) (CT0_in _ (CT0_CW 49 rfl)) rfl (by decide +kernel) ⟨Nat.le_of_ble_eq_true rfl, Nat.le_of_ble_eq_true rfl⟩ (rest := [.ref mm]) (by show 1 + 0 ≤ 8; omega) (Nat.le_of_ble_eq_true rfl) (Nat.le_of_ble_eq_true rfl) (pc := 12) (by decide +kernel) hP hD hS hA (fun qs9 H locs hq9 hP hD hS => ?_)
  refine lv_astore_n (k := 2) (lv' := [(2, .ref mm), (1, .ref x), (0, .ref b)]) hx hb (pc := 15) (by decide +kernel) rfl hl (by decide) rfl (fun ls hl => ?_)
  refine lv_iconst (n := 0) (v := Int32.ofInt ((6 * 0 : Nat) : Int)) hx hb (pc := 16) (by decide +kernel) rfl ?_
  refine lv_istore_n (k := 3) (lv' := [(3, .int (Int32.ofInt ((6 * 0 : Nat) : Int))), (2, .ref mm), (1, .ref x), (0, .ref b)]) hx hb (pc := 17) (by decide +kernel) rfl hl (by decide) rfl (fun ls hl => ?_)
  have hfe := fin_eq D ty x mm qs8 qs9 adK adV
  have hP9 : va_P D vwCl (wd (D, adF x qs8 mm qs9 adK, adV, ty) sF) H := by
    rw [← hfe]
    exact hP
  have hD9 : va_D (fun q : Nat => s.heap.size ≤ q) (wd (D, adF x qs8 mm qs9 adK, adV, ty) sF) := by
    rw [← hfe]
    exact hD
  obtain ⟨hKN, hAD⟩ := lw_KN hts hK hD9 hT1 hT2 hT3 hT4
  refine W.widen (k := 100) (n := 30000) (Nat.le_of_ble_eq_true rfl) (Nat.le_of_ble_eq_true rfl) ?_
  exact lw_loop (G := (D, adF x qs8 mm qs9 adK, adV, ty)) ⟨C0, hL, hKN, hAD⟩ ⟨Nat.le_of_ble_eq_true rfl, Nat.le_of_ble_eq_true rfl⟩ L 0 H locs ls (by omega) (Nat.zero_le _) (lv_sub hl [3, 2, 1, 0] rfl) ⟨sF, 0, 5, 16, SIM.start sF_st, Int.le_refl 0, hP9, hS⟩
