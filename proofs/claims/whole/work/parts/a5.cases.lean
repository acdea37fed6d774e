/-! ===== the law's 33 cases, its switch, its loop (wip/whole/gena5.py) ===== -/
/-- from the case at pc to the loop's end -/
def LCase (pc : Nat) : Prop := ∀ (p : Program) (l : Launch) (e : Env) (s : State) (m : MethodId) (below : List Frame) (meth : Method) (c : Code) (H : Heap) (locs : List Loc) (cells slots b L k : Nat) (xs : Nat → Int32) (Q : State → Prop) (ls : Array Slot) (G : WG), LX p s m meth c b L xs G → 6 * k + 6 ≤ L → cells ≤ 600000 ∧ slots ≤ 7302250 → lv_has ls 4 (lwL b G k) → LInv G k s H locs →
  (∀ (H1 : Heap) (locs1 : List Loc), LInv G (k + 1) s H1 locs1 → W p l e room_1 s m #[Value.ref b] below meth c H1 locs1 cells slots Q (F0 m 1110 ls [])) → W p l e room_1 s m #[Value.ref b] below meth c H locs cells slots Q (F0 m pc ls [])
theorem i3_r (x : Int32) : r3 x.toInt := by
  have h1 := Int32.le_toInt x
  have h2 := Int32.toInt_lt x
  exact ⟨by omega, by omega⟩
theorem lwc_feed : LCase 180 := by
  intro p l e s m below meth c H locs cells slots b L k xs Q ls G X hk hcs hl hI kk
  have hL := X.2.1
  exact lw_case X hk hcs (M1 := mX8_feed) (M2 := mX9_feed) (ix1 := 13) (ix2 := 17) (na := 5) (pc := 180) (t1 := (yX8_feed, cX8_feed, 6, (some .int), 8)) (t2 := (yX9_feed, cX9_feed, 8, (some .int), 9)) (off := 872) (by decide +kernel) (by decide) ⟨rfl, rfl, LWD_in _ (List.mem_of_getElem? (i := 2) rfl), by decide +kernel, by decide +kernel, by decide, by decide +kernel⟩ ⟨rfl, rfl, LWD_in _ (List.mem_of_getElem? (i := 37) rfl), by decide +kernel, by decide +kernel, by decide, by decide +kernel⟩ (by decide) (by decide +kernel) (by decide) (fun σ n r q hs hn => AW.mono (call_feed (by decide) hs (i3_r _) (i3_r _) (i3_r _) (i3_r _) (i3_r _)) (fun v τ h => AW.mono h (fun v' σ' h' => ⟨h'.1, n, r, q, h'.2, by omega⟩))) hl hI kk
theorem lwc_end : LCase 243 := by
  intro p l e s m below meth c H locs cells slots b L k xs Q ls G X hk hcs hl hI kk
  have hL := X.2.1
  exact lw_case X hk hcs (M1 := mX8_end) (M2 := mX9_end) (ix1 := 18) (ix2 := 22) (na := 1) (pc := 243) (t1 := (yX8_end, cX8_end, 2, (some .boolean), 8)) (t2 := (yX9_end, cX9_end, 2, (some .boolean), 9)) (off := 849) (by decide +kernel) (by decide) ⟨rfl, rfl, LWD_in _ (List.mem_of_getElem? (i := 3) rfl), by decide +kernel, by decide +kernel, by decide, by decide +kernel⟩ ⟨rfl, rfl, LWD_in _ (List.mem_of_getElem? (i := 38) rfl), by decide +kernel, by decide +kernel, by decide, by decide +kernel⟩ (by decide) (by decide +kernel) (by decide) (fun σ n r q hs hn => AW.mono (call_end (by decide) hs (i3_r _)) (fun v τ h => AW.mono h (fun v' σ' h' => ⟨h'.1, n, r, q, h'.2, by omega⟩))) hl hI kk
theorem lwc_realm : LCase 266 := by
  intro p l e s m below meth c H locs cells slots b L k xs Q ls G X hk hcs hl hI kk
  have hL := X.2.1
  exact lw_case X hk hcs (M1 := mX8_realm) (M2 := mX9_realm) (ix1 := 23) (ix2 := 27) (na := 0) (pc := 266) (t1 := (yX8_realm, cX8_realm, 3, (some .int), 8)) (t2 := (yX9_realm, cX9_realm, 2, (some .int), 9)) (off := 836) (by decide +kernel) (by decide) ⟨rfl, rfl, LWD_in _ (List.mem_of_getElem? (i := 4) rfl), by decide +kernel, by decide +kernel, by decide, by decide +kernel⟩ ⟨rfl, rfl, LWD_in _ (List.mem_of_getElem? (i := 39) rfl), by decide +kernel, by decide +kernel, by decide, by decide +kernel⟩ (by decide) (by decide +kernel) (by decide) (fun σ n r q hs hn => AW.mono (call_realm (by decide) hs) (fun v τ h => AW.mono h (fun v' σ' h' => ⟨h'.1, h'.2.elim (fun z => ⟨n, r, q, z, by omega⟩) (fun z => ⟨n, q, r, z, by omega⟩)⟩))) hl hI kk
theorem lwc_fault : LCase 279 := by
  intro p l e s m below meth c H locs cells slots b L k xs Q ls G X hk hcs hl hI kk
  have hL := X.2.1
  exact lw_case X hk hcs (M1 := mX8_fault) (M2 := mX9_fault) (ix1 := 28) (ix2 := 32) (na := 1) (pc := 279) (t1 := (yX8_fault, cX8_fault, 2, (some .int), 8)) (t2 := (yX9_fault, cX9_fault, 2, (some .int), 9)) (off := 813) (by decide +kernel) (by decide) ⟨rfl, rfl, LWD_in _ (List.mem_of_getElem? (i := 5) rfl), by decide +kernel, by decide +kernel, by decide, by decide +kernel⟩ ⟨rfl, rfl, LWD_in _ (List.mem_of_getElem? (i := 40) rfl), by decide +kernel, by decide +kernel, by decide, by decide +kernel⟩ (by decide) (by decide +kernel) (by decide) (fun σ n r q hs hn => AW.mono (call_fault (by decide) hs (i3_r _)) (fun v τ h => AW.mono h (fun v' σ' h' => ⟨h'.1, n, r, q, h'.2, by omega⟩))) hl hI kk
theorem lwc_has : LCase 302 := by
  intro p l e s m below meth c H locs cells slots b L k xs Q ls G X hk hcs hl hI kk
  have hL := X.2.1
  exact lw_case X hk hcs (M1 := mX8_has) (M2 := mX9_has) (ix1 := 33) (ix2 := 36) (na := 1) (pc := 302) (t1 := (yX8_has, cX8_has, 2, (some .int), 8)) (t2 := (yX9_has, cX9_has, 2, (some .int), 9)) (off := 790) (by decide +kernel) (by decide) ⟨rfl, rfl, LWD_in _ (List.mem_of_getElem? (i := 6) rfl), by decide +kernel, by decide +kernel, by decide, by decide +kernel⟩ ⟨rfl, rfl, LWD_in _ (List.mem_of_getElem? (i := 41) rfl), by decide +kernel, by decide +kernel, by decide, by decide +kernel⟩ (by decide) (by decide +kernel) (by decide) (fun σ n r q hs hn => AW.mono (call_has (by decide) hs (i3_r _)) (fun v τ h => AW.mono h (fun v' σ' h' => ⟨h'.1, n, r, q, h'.2, by omega⟩))) hl hI kk
theorem lwc_letter : LCase 325 := by
  intro p l e s m below meth c H locs cells slots b L k xs Q ls G X hk hcs hl hI kk
  have hL := X.2.1
  exact lw_case X hk hcs (M1 := mX8_letter) (M2 := mX9_letter) (ix1 := 37) (ix2 := 41) (na := 3) (pc := 325) (t1 := (yX8_letter, cX8_letter, 4, (some .int), 8)) (t2 := (yX9_letter, cX9_letter, 9, (some .int), 9)) (off := 747) (by decide +kernel) (by decide) ⟨rfl, rfl, LWD_in _ (List.mem_of_getElem? (i := 7) rfl), by decide +kernel, by decide +kernel, by decide, by decide +kernel⟩ ⟨rfl, rfl, LWD_in _ (List.mem_of_getElem? (i := 42) rfl), by decide +kernel, by decide +kernel, by decide, by decide +kernel⟩ (by decide) (by decide +kernel) (by decide) (fun σ n r q hs hn => AW.mono (call_letter (by decide) hs (i3_r _) (i3_r _) (i3_r _)) (fun v τ h => AW.mono h (fun v' σ' h' => ⟨h'.1, n, r, q, h'.2, by omega⟩))) hl hI kk
theorem lwc_tower : LCase 368 := by
  intro p l e s m below meth c H locs cells slots b L k xs Q ls G X hk hcs hl hI kk
  have hL := X.2.1
  exact lw_case X hk hcs (M1 := mX8_tower) (M2 := mX9_tower) (ix1 := 42) (ix2 := 46) (na := 2) (pc := 368) (t1 := (yX8_tower, cX8_tower, 3, (some .int), 8)) (t2 := (yX9_tower, cX9_tower, 3, (some .int), 9)) (off := 714) (by decide +kernel) (by decide) ⟨rfl, rfl, LWD_in _ (List.mem_of_getElem? (i := 8) rfl), by decide +kernel, by decide +kernel, by decide, by decide +kernel⟩ ⟨rfl, rfl, LWD_in _ (List.mem_of_getElem? (i := 43) rfl), by decide +kernel, by decide +kernel, by decide, by decide +kernel⟩ (by decide) (by decide +kernel) (by decide) (fun σ n r q hs hn => AW.mono (call_tower (by decide) hs (i3_r _) (i3_r _)) (fun v τ h => AW.mono h (fun v' σ' h' => ⟨h'.1, n, r, q, h'.2, by omega⟩))) hl hI kk
theorem lwc_purse : LCase 401 := by
  intro p l e s m below meth c H locs cells slots b L k xs Q ls G X hk hcs hl hI kk
  have hL := X.2.1
  exact lw_case X hk hcs (M1 := mX8_purse) (M2 := mX9_purse) (ix1 := 47) (ix2 := 50) (na := 1) (pc := 401) (t1 := (yX8_purse, cX8_purse, 2, (some .int), 8)) (t2 := (yX9_purse, cX9_purse, 2, (some .int), 9)) (off := 691) (by decide +kernel) (by decide) ⟨rfl, rfl, LWD_in _ (List.mem_of_getElem? (i := 9) rfl), by decide +kernel, by decide +kernel, by decide, by decide +kernel⟩ ⟨rfl, rfl, LWD_in _ (List.mem_of_getElem? (i := 44) rfl), by decide +kernel, by decide +kernel, by decide, by decide +kernel⟩ (by decide) (by decide +kernel) (by decide) (fun σ n r q hs hn => AW.mono (call_purse (by decide) hs (i3_r _)) (fun v τ h => AW.mono h (fun v' σ' h' => ⟨h'.1, n, r, q, h'.2, by omega⟩))) hl hI kk
theorem lwc_step : LCase 424 := by
  intro p l e s m below meth c H locs cells slots b L k xs Q ls G X hk hcs hl hI kk
  have hL := X.2.1
  exact lw_case X hk hcs (M1 := mX8_step) (M2 := mX9_step) (ix1 := 51) (ix2 := 54) (na := 3) (pc := 424) (t1 := (yX8_step, cX8_step, 4, (some .int), 8)) (t2 := (yX9_step, cX9_step, 4, (some .int), 9)) (off := 648) (by decide +kernel) (by decide) ⟨rfl, rfl, LWD_in _ (List.mem_of_getElem? (i := 10) rfl), by decide +kernel, by decide +kernel, by decide, by decide +kernel⟩ ⟨rfl, rfl, LWD_in _ (List.mem_of_getElem? (i := 45) rfl), by decide +kernel, by decide +kernel, by decide, by decide +kernel⟩ (by decide) (by decide +kernel) (by decide) (fun σ n r q hs hn => AW.mono (call_step (by decide) hs (i3_r _) (i3_r _) (i3_r _)) (fun v τ h => AW.mono h (fun v' σ' h' => ⟨h'.1, n, r, q, h'.2, by omega⟩))) hl hI kk
theorem lwc_loan : LCase 467 := by
  intro p l e s m below meth c H locs cells slots b L k xs Q ls G X hk hcs hl hI kk
  have hL := X.2.1
  exact lw_case X hk hcs (M1 := mX8_loan) (M2 := mX9_loan) (ix1 := 55) (ix2 := 58) (na := 2) (pc := 467) (t1 := (yX8_loan, cX8_loan, 3, (some .int), 8)) (t2 := (yX9_loan, cX9_loan, 3, (some .int), 9)) (off := 615) (by decide +kernel) (by decide) ⟨rfl, rfl, LWD_in _ (List.mem_of_getElem? (i := 11) rfl), by decide +kernel, by decide +kernel, by decide, by decide +kernel⟩ ⟨rfl, rfl, LWD_in _ (List.mem_of_getElem? (i := 46) rfl), by decide +kernel, by decide +kernel, by decide, by decide +kernel⟩ (by decide) (by decide +kernel) (by decide) (fun σ n r q hs hn => AW.mono (call_loan (by decide) hs (i3_r _) (i3_r _)) (fun v τ h => AW.mono h (fun v' σ' h' => ⟨h'.1, n, r, q, h'.2, by omega⟩))) hl hI kk
theorem lwc_guard : LCase 500 := by
  intro p l e s m below meth c H locs cells slots b L k xs Q ls G X hk hcs hl hI kk
  have hL := X.2.1
  exact lw_case X hk hcs (M1 := mX8_guard) (M2 := mX9_guard) (ix1 := 59) (ix2 := 62) (na := 2) (pc := 500) (t1 := (yX8_guard, cX8_guard, 3, (some .int), 8)) (t2 := (yX9_guard, cX9_guard, 3, (some .int), 9)) (off := 582) (by decide +kernel) (by decide) ⟨rfl, rfl, LWD_in _ (List.mem_of_getElem? (i := 12) rfl), by decide +kernel, by decide +kernel, by decide, by decide +kernel⟩ ⟨rfl, rfl, LWD_in _ (List.mem_of_getElem? (i := 47) rfl), by decide +kernel, by decide +kernel, by decide, by decide +kernel⟩ (by decide) (by decide +kernel) (by decide) (fun σ n r q hs hn => AW.mono (call_guard (by decide) hs (i3_r _) (i3_r _)) (fun v τ h => AW.mono h (fun v' σ' h' => ⟨h'.1, n, r, q, h'.2, by omega⟩))) hl hI kk
theorem lwc_lend : LCase 533 := by
  intro p l e s m below meth c H locs cells slots b L k xs Q ls G X hk hcs hl hI kk
  have hL := X.2.1
  exact lw_case X hk hcs (M1 := mX8_lend) (M2 := mX9_lend) (ix1 := 63) (ix2 := 66) (na := 5) (pc := 533) (t1 := (yX8_lend, cX8_lend, 7, (some .int), 8)) (t2 := (yX9_lend, cX9_lend, 7, (some .int), 9)) (off := 519) (by decide +kernel) (by decide) ⟨rfl, rfl, LWD_in _ (List.mem_of_getElem? (i := 13) rfl), by decide +kernel, by decide +kernel, by decide, by decide +kernel⟩ ⟨rfl, rfl, LWD_in _ (List.mem_of_getElem? (i := 49) rfl), by decide +kernel, by decide +kernel, by decide, by decide +kernel⟩ (by decide) (by decide +kernel) (by decide) (fun σ n r q hs hn => AW.mono (call_lend (by decide) hs (i3_r _) (i3_r _) (i3_r _) (i3_r _) (i3_r _)) (fun v τ h => AW.mono h (fun v' σ' h' => ⟨h'.1, n + 1, r, q, h'.2, by omega⟩))) hl hI kk
theorem lwc_back : LCase 596 := by
  intro p l e s m below meth c H locs cells slots b L k xs Q ls G X hk hcs hl hI kk
  have hL := X.2.1
  exact lw_case X hk hcs (M1 := mX8_back) (M2 := mX9_back) (ix1 := 67) (ix2 := 70) (na := 1) (pc := 596) (t1 := (yX8_back, cX8_back, 2, (some .boolean), 8)) (t2 := (yX9_back, cX9_back, 2, (some .boolean), 9)) (off := 496) (by decide +kernel) (by decide) ⟨rfl, rfl, LWD_in _ (List.mem_of_getElem? (i := 14) rfl), by decide +kernel, by decide +kernel, by decide, by decide +kernel⟩ ⟨rfl, rfl, LWD_in _ (List.mem_of_getElem? (i := 50) rfl), by decide +kernel, by decide +kernel, by decide, by decide +kernel⟩ (by decide) (by decide +kernel) (by decide) (fun σ n r q hs hn => AW.mono (call_back (by decide) hs (i3_r _)) (fun v τ h => AW.mono h (fun v' σ' h' => ⟨h'.1, n + 1, r, q, h'.2, by omega⟩))) hl hI kk
theorem lwc_refit : LCase 619 := by
  intro p l e s m below meth c H locs cells slots b L k xs Q ls G X hk hcs hl hI kk
  have hL := X.2.1
  exact lw_case X hk hcs (M1 := mX8_refit) (M2 := mX9_refit) (ix1 := 71) (ix2 := 75) (na := 2) (pc := 619) (t1 := (yX8_refit, cX8_refit, 3, (some .boolean), 8)) (t2 := (yX9_refit, cX9_refit, 3, (some .boolean), 9)) (off := 463) (by decide +kernel) (by decide) ⟨rfl, rfl, LWD_in _ (List.mem_of_getElem? (i := 15) rfl), by decide +kernel, by decide +kernel, by decide, by decide +kernel⟩ ⟨rfl, rfl, LWD_in _ (List.mem_of_getElem? (i := 51) rfl), by decide +kernel, by decide +kernel, by decide, by decide +kernel⟩ (by decide) (by decide +kernel) (by decide) (fun σ n r q hs hn => AW.mono (call_refit (by decide) hs (i3_r _) (i3_r _)) (fun v τ h => AW.mono h (fun v' σ' h' => ⟨h'.1, n + 1, r, q, h'.2, by omega⟩))) hl hI kk
theorem lwc_go : LCase 652 := by
  intro p l e s m below meth c H locs cells slots b L k xs Q ls G X hk hcs hl hI kk
  have hL := X.2.1
  exact lw_case X hk hcs (M1 := mX8_go) (M2 := mX9_go) (ix1 := 76) (ix2 := 79) (na := 1) (pc := 652) (t1 := (yX8_go, cX8_go, 4, (some .int), 8)) (t2 := (yX9_go, cX9_go, 4, (some .int), 9)) (off := 440) (by decide +kernel) (by decide) ⟨rfl, rfl, LWD_in _ (List.mem_of_getElem? (i := 16) rfl), by decide +kernel, by decide +kernel, by decide, by decide +kernel⟩ ⟨rfl, rfl, LWD_in _ (List.mem_of_getElem? (i := 52) rfl), by decide +kernel, by decide +kernel, by decide, by decide +kernel⟩ (by decide) (by decide +kernel) (by decide) (fun σ n r q hs hn => AW.mono (call_go (by decide) hs (i3_r _)) (fun v τ h => AW.mono h (fun v' σ' h' => ⟨h'.1, n + 1, r, q, h'.2, by omega⟩))) hl hI kk
theorem lwc_undo : LCase 675 := by
  intro p l e s m below meth c H locs cells slots b L k xs Q ls G X hk hcs hl hI kk
  have hL := X.2.1
  exact lw_case X hk hcs (M1 := mX8_undo) (M2 := mX9_undo) (ix1 := 80) (ix2 := 84) (na := 0) (pc := 675) (t1 := (yX8_undo, cX8_undo, 1, (some .boolean), 8)) (t2 := (yX9_undo, cX9_undo, 2, (some .boolean), 9)) (off := 427) (by decide +kernel) (by decide) ⟨rfl, rfl, LWD_in _ (List.mem_of_getElem? (i := 17) rfl), by decide +kernel, by decide +kernel, by decide, by decide +kernel⟩ ⟨rfl, rfl, LWD_in _ (List.mem_of_getElem? (i := 48) rfl), by decide +kernel, by decide +kernel, by decide, by decide +kernel⟩ (by decide) (by decide +kernel) (by decide) (fun σ n r q hs hn => AW.mono (call_undo (by decide) hs ) (fun v τ h => AW.mono h (fun v' σ' h' => ⟨h'.1, n, r, q, h'.2, by omega⟩))) hl hI kk
theorem lwc_reaches : LCase 688 := by
  intro p l e s m below meth c H locs cells slots b L k xs Q ls G X hk hcs hl hI kk
  have hL := X.2.1
  exact lw_case X hk hcs (M1 := mX8_reaches) (M2 := mX9_reaches) (ix1 := 85) (ix2 := 88) (na := 2) (pc := 688) (t1 := (yX8_reaches, cX8_reaches, 9, (some .int), 8)) (t2 := (yX9_reaches, cX9_reaches, 5, (some .int), 9)) (off := 394) (by decide +kernel) (by decide) ⟨rfl, rfl, LWD_in _ (List.mem_of_getElem? (i := 18) rfl), by decide +kernel, by decide +kernel, by decide, by decide +kernel⟩ ⟨rfl, rfl, LWD_in _ (List.mem_of_getElem? (i := 53) rfl), by decide +kernel, by decide +kernel, by decide, by decide +kernel⟩ (by decide) (by decide +kernel) (by decide) (fun σ n r q hs hn => AW.mono (call_reaches (by decide) hs (i3_r _) (i3_r _)) (fun v τ h => AW.mono h (fun v' σ' h' => ⟨h'.1, n, r, q, h'.2, by omega⟩))) hl hI kk
theorem lwc_hops : LCase 721 := by
  intro p l e s m below meth c H locs cells slots b L k xs Q ls G X hk hcs hl hI kk
  have hL := X.2.1
  exact lw_case X hk hcs (M1 := mX8_hops) (M2 := mX9_hops) (ix1 := 89) (ix2 := 92) (na := 1) (pc := 721) (t1 := (yX8_hops, cX8_hops, 3, (some .int), 8)) (t2 := (yX9_hops, cX9_hops, 7, (some .int), 9)) (off := 371) (by decide +kernel) (by decide) ⟨rfl, rfl, LWD_in _ (List.mem_of_getElem? (i := 19) rfl), by decide +kernel, by decide +kernel, by decide, by decide +kernel⟩ ⟨rfl, rfl, LWD_in _ (List.mem_of_getElem? (i := 54) rfl), by decide +kernel, by decide +kernel, by decide, by decide +kernel⟩ (by decide) (by decide +kernel) (by decide) (fun σ n r q hs hn => AW.mono (call_hops (by decide) hs (i3_r _)) (fun v τ h => AW.mono h (fun v' σ' h' => ⟨h'.1, n, r, q, h'.2, by omega⟩))) hl hI kk
theorem lwc_spare : LCase 744 := by
  intro p l e s m below meth c H locs cells slots b L k xs Q ls G X hk hcs hl hI kk
  have hL := X.2.1
  exact lw_case X hk hcs (M1 := mX8_spare) (M2 := mX9_spare) (ix1 := 93) (ix2 := 96) (na := 2) (pc := 744) (t1 := (yX8_spare, cX8_spare, 3, (some .int), 8)) (t2 := (yX9_spare, cX9_spare, 3, (some .int), 9)) (off := 338) (by decide +kernel) (by decide) ⟨rfl, rfl, LWD_in _ (List.mem_of_getElem? (i := 20) rfl), by decide +kernel, by decide +kernel, by decide, by decide +kernel⟩ ⟨rfl, rfl, LWD_in _ (List.mem_of_getElem? (i := 55) rfl), by decide +kernel, by decide +kernel, by decide, by decide +kernel⟩ (by decide) (by decide +kernel) (by decide) (fun σ n r q hs hn => AW.mono (call_spare (by decide) hs (i3_r _) (i3_r _)) (fun v τ h => AW.mono h (fun v' σ' h' => ⟨h'.1, n, r, q, h'.2, by omega⟩))) hl hI kk
theorem lwc_need : LCase 777 := by
  intro p l e s m below meth c H locs cells slots b L k xs Q ls G X hk hcs hl hI kk
  have hL := X.2.1
  exact lw_case X hk hcs (M1 := mX8_need) (M2 := mX9_need) (ix1 := 97) (ix2 := 100) (na := 2) (pc := 777) (t1 := (yX8_need, cX8_need, 3, (some .int), 8)) (t2 := (yX9_need, cX9_need, 3, (some .int), 9)) (off := 305) (by decide +kernel) (by decide) ⟨rfl, rfl, LWD_in _ (List.mem_of_getElem? (i := 21) rfl), by decide +kernel, by decide +kernel, by decide, by decide +kernel⟩ ⟨rfl, rfl, LWD_in _ (List.mem_of_getElem? (i := 56) rfl), by decide +kernel, by decide +kernel, by decide, by decide +kernel⟩ (by decide) (by decide +kernel) (by decide) (fun σ n r q hs hn => AW.mono (call_need (by decide) hs (i3_r _) (i3_r _)) (fun v τ h => AW.mono h (fun v' σ' h' => ⟨h'.1, n, r, q, h'.2, by omega⟩))) hl hI kk
theorem lwc_rescue : LCase 810 := by
  intro p l e s m below meth c H locs cells slots b L k xs Q ls G X hk hcs hl hI kk
  have hL := X.2.1
  exact lw_case X hk hcs (M1 := mX8_rescue) (M2 := mX9_rescue) (ix1 := 101) (ix2 := 104) (na := 2) (pc := 810) (t1 := (yX8_rescue, cX8_rescue, 6, (some .int), 8)) (t2 := (yX9_rescue, cX9_rescue, 4, (some .int), 9)) (off := 272) (by decide +kernel) (by decide) ⟨rfl, rfl, LWD_in _ (List.mem_of_getElem? (i := 22) rfl), by decide +kernel, by decide +kernel, by decide, by decide +kernel⟩ ⟨rfl, rfl, LWD_in _ (List.mem_of_getElem? (i := 57) rfl), by decide +kernel, by decide +kernel, by decide, by decide +kernel⟩ (by decide) (by decide +kernel) (by decide) (fun σ n r q hs hn => AW.mono (call_rescue (by decide) hs (i3_r _) (i3_r _)) (fun v τ h => AW.mono h (fun v' σ' h' => ⟨h'.1, n, r, q, h'.2, by omega⟩))) hl hI kk
theorem lwc_falls : LCase 843 := by
  intro p l e s m below meth c H locs cells slots b L k xs Q ls G X hk hcs hl hI kk
  have hL := X.2.1
  exact lw_case X hk hcs (M1 := mX8_falls) (M2 := mX9_falls) (ix1 := 105) (ix2 := 108) (na := 2) (pc := 843) (t1 := (yX8_falls, cX8_falls, 5, (some .int), 8)) (t2 := (yX9_falls, cX9_falls, 4, (some .int), 9)) (off := 239) (by decide +kernel) (by decide) ⟨rfl, rfl, LWD_in _ (List.mem_of_getElem? (i := 23) rfl), by decide +kernel, by decide +kernel, by decide, by decide +kernel⟩ ⟨rfl, rfl, LWD_in _ (List.mem_of_getElem? (i := 58) rfl), by decide +kernel, by decide +kernel, by decide, by decide +kernel⟩ (by decide) (by decide +kernel) (by decide) (fun σ n r q hs hn => AW.mono (call_falls (by decide) hs (i3_r _) (i3_r _)) (fun v τ h => AW.mono h (fun v' σ' h' => ⟨h'.1, n, r, q, h'.2, by omega⟩))) hl hI kk
theorem lwc_odds : LCase 876 := by
  intro p l e s m below meth c H locs cells slots b L k xs Q ls G X hk hcs hl hI kk
  have hL := X.2.1
  exact lw_case X hk hcs (M1 := mX8_odds) (M2 := mX9_odds) (ix1 := 109) (ix2 := 112) (na := 1) (pc := 876) (t1 := (yX8_odds, cX8_odds, 6, (some .int), 8)) (t2 := (yX9_odds, cX9_odds, 5, (some .int), 9)) (off := 216) (by decide +kernel) (by decide) ⟨rfl, rfl, LWD_in _ (List.mem_of_getElem? (i := 24) rfl), by decide +kernel, by decide +kernel, by decide, by decide +kernel⟩ ⟨rfl, rfl, LWD_in _ (List.mem_of_getElem? (i := 59) rfl), by decide +kernel, by decide +kernel, by decide, by decide +kernel⟩ (by decide) (by decide +kernel) (by decide) (fun σ n r q hs hn => AW.mono (call_odds (by decide) hs (i3_r _)) (fun v τ h => AW.mono h (fun v' σ' h' => ⟨h'.1, n, r, q, h'.2, by omega⟩))) hl hI kk
theorem lwc_blame : LCase 899 := by
  intro p l e s m below meth c H locs cells slots b L k xs Q ls G X hk hcs hl hI kk
  have hL := X.2.1
  exact lw_case X hk hcs (M1 := mX8_blame) (M2 := mX9_blame) (ix1 := 113) (ix2 := 116) (na := 2) (pc := 899) (t1 := (yX8_blame, cX8_blame, 7, (some .int), 8)) (t2 := (yX9_blame, cX9_blame, 5, (some .int), 9)) (off := 183) (by decide +kernel) (by decide) ⟨rfl, rfl, LWD_in _ (List.mem_of_getElem? (i := 25) rfl), by decide +kernel, by decide +kernel, by decide, by decide +kernel⟩ ⟨rfl, rfl, LWD_in _ (List.mem_of_getElem? (i := 60) rfl), by decide +kernel, by decide +kernel, by decide, by decide +kernel⟩ (by decide) (by decide +kernel) (by decide) (fun σ n r q hs hn => AW.mono (call_blame (by decide) hs (i3_r _) (i3_r _)) (fun v τ h => AW.mono h (fun v' σ' h' => ⟨h'.1, n, r, q, h'.2, by omega⟩))) hl hI kk
theorem lwc_netted : LCase 932 := by
  intro p l e s m below meth c H locs cells slots b L k xs Q ls G X hk hcs hl hI kk
  have hL := X.2.1
  exact lw_case X hk hcs (M1 := mX8_netted) (M2 := mX9_netted) (ix1 := 117) (ix2 := 120) (na := 0) (pc := 932) (t1 := (yX8_netted, cX8_netted, 3, (some .int), 8)) (t2 := (yX9_netted, cX9_netted, 5, (some .int), 9)) (off := 170) (by decide +kernel) (by decide) ⟨rfl, rfl, LWD_in _ (List.mem_of_getElem? (i := 26) rfl), by decide +kernel, by decide +kernel, by decide, by decide +kernel⟩ ⟨rfl, rfl, LWD_in _ (List.mem_of_getElem? (i := 61) rfl), by decide +kernel, by decide +kernel, by decide, by decide +kernel⟩ (by decide) (by decide +kernel) (by decide) (fun σ n r q hs hn => AW.mono (call_netted (by decide) hs ) (fun v τ h => AW.mono h (fun v' σ' h' => ⟨h'.1, n, r, q, h'.2, by omega⟩))) hl hI kk
theorem lwc_ring : LCase 945 := by
  intro p l e s m below meth c H locs cells slots b L k xs Q ls G X hk hcs hl hI kk
  have hL := X.2.1
  exact lw_case X hk hcs (M1 := mX8_ring) (M2 := mX9_ring) (ix1 := 121) (ix2 := 124) (na := 0) (pc := 945) (t1 := (yX8_ring, cX8_ring, 4, (some .int), 8)) (t2 := (yX9_ring, cX9_ring, 9, (some .int), 9)) (off := 157) (by decide +kernel) (by decide) ⟨rfl, rfl, LWD_in _ (List.mem_of_getElem? (i := 27) rfl), by decide +kernel, by decide +kernel, by decide, by decide +kernel⟩ ⟨rfl, rfl, LWD_in _ (List.mem_of_getElem? (i := 62) rfl), by decide +kernel, by decide +kernel, by decide, by decide +kernel⟩ (by decide) (by decide +kernel) (by decide) (fun σ n r q hs hn => AW.mono (call_ring (by decide) hs ) (fun v τ h => AW.mono h (fun v' σ' h' => ⟨h'.1, n, r, q, h'.2, by omega⟩))) hl hI kk
theorem lwc_wood : LCase 958 := by
  intro p l e s m below meth c H locs cells slots b L k xs Q ls G X hk hcs hl hI kk
  have hL := X.2.1
  exact lw_case X hk hcs (M1 := mX8_wood) (M2 := mX9_wood) (ix1 := 125) (ix2 := 128) (na := 1) (pc := 958) (t1 := (yX8_wood, cX8_wood, 5, (some .int), 8)) (t2 := (yX9_wood, cX9_wood, 4, (some .int), 9)) (off := 134) (by decide +kernel) (by decide) ⟨rfl, rfl, LWD_in _ (List.mem_of_getElem? (i := 28) rfl), by decide +kernel, by decide +kernel, by decide, by decide +kernel⟩ ⟨rfl, rfl, LWD_in _ (List.mem_of_getElem? (i := 63) rfl), by decide +kernel, by decide +kernel, by decide, by decide +kernel⟩ (by decide) (by decide +kernel) (by decide) (fun σ n r q hs hn => AW.mono (call_wood (by decide) hs (i3_r _)) (fun v τ h => AW.mono h (fun v' σ' h' => ⟨h'.1, n, r, q, h'.2, by omega⟩))) hl hI kk
theorem lwc_rents : LCase 981 := by
  intro p l e s m below meth c H locs cells slots b L k xs Q ls G X hk hcs hl hI kk
  have hL := X.2.1
  exact lw_case X hk hcs (M1 := mX8_rents) (M2 := mX9_rents) (ix1 := 129) (ix2 := 132) (na := 2) (pc := 981) (t1 := (yX8_rents, cX8_rents, 3, (some .int), 8)) (t2 := (yX9_rents, cX9_rents, 5, (some .int), 9)) (off := 101) (by decide +kernel) (by decide) ⟨rfl, rfl, LWD_in _ (List.mem_of_getElem? (i := 29) rfl), by decide +kernel, by decide +kernel, by decide, by decide +kernel⟩ ⟨rfl, rfl, LWD_in _ (List.mem_of_getElem? (i := 64) rfl), by decide +kernel, by decide +kernel, by decide, by decide +kernel⟩ (by decide) (by decide +kernel) (by decide) (fun σ n r q hs hn => AW.mono (call_rents (by decide) hs (i3_r _) (i3_r _)) (fun v τ h => AW.mono h (fun v' σ' h' => ⟨h'.1, n, r, q, h'.2, by omega⟩))) hl hI kk
theorem lwc_lost : LCase 1014 := by
  intro p l e s m below meth c H locs cells slots b L k xs Q ls G X hk hcs hl hI kk
  have hL := X.2.1
  exact lw_case X hk hcs (M1 := mX8_lost) (M2 := mX9_lost) (ix1 := 133) (ix2 := 136) (na := 1) (pc := 1014) (t1 := (yX8_lost, cX8_lost, 5, (some .int), 8)) (t2 := (yX9_lost, cX9_lost, 4, (some .int), 9)) (off := 78) (by decide +kernel) (by decide) ⟨rfl, rfl, LWD_in _ (List.mem_of_getElem? (i := 30) rfl), by decide +kernel, by decide +kernel, by decide, by decide +kernel⟩ ⟨rfl, rfl, LWD_in _ (List.mem_of_getElem? (i := 65) rfl), by decide +kernel, by decide +kernel, by decide, by decide +kernel⟩ (by decide) (by decide +kernel) (by decide) (fun σ n r q hs hn => AW.mono (call_lost (by decide) hs (i3_r _)) (fun v τ h => AW.mono h (fun v' σ' h' => ⟨h'.1, n, r, q, h'.2, by omega⟩))) hl hI kk
theorem lwc_ask : LCase 1037 := by
  intro p l e s m below meth c H locs cells slots b L k xs Q ls G X hk hcs hl hI kk
  have hL := X.2.1
  exact lw_caseL X hk hcs (M1 := mX8_ask) (M2 := mX9_ask) (ix1 := 137) (ix2 := 141) (na := 0) (pc := 1037) (t1 := (yX8_ask, cX8_ask, 2, (some .long), 8)) (t2 := (yX9_ask, cX9_ask, 3, (some .long), 9)) (off := 64) (by decide +kernel) (by decide) ⟨rfl, rfl, LWD_in _ (List.mem_of_getElem? (i := 31) rfl), by decide +kernel, by decide +kernel, by decide, by decide +kernel⟩ ⟨rfl, rfl, LWD_in _ (List.mem_of_getElem? (i := 66) rfl), by decide +kernel, by decide +kernel, by decide, by decide +kernel⟩ rfl (by decide +kernel) (by decide +kernel) (by decide) (fun σ n r q hs hn => AW.mono (call_ask (by decide) (by omega) hs) (fun v τ h => AW.mono h (fun v' σ' h' => ⟨h'.1, n, r, q, h'.2, by omega⟩))) hl hI kk
theorem lwc_image : LCase 1051 := by
  intro p l e s m below meth c H locs cells slots b L k xs Q ls G X hk hcs hl hI kk
  have hL := X.2.1
  exact lw_case X hk hcs (M1 := mX8_image) (M2 := mX9_image) (ix1 := 142) (ix2 := 145) (na := 0) (pc := 1051) (t1 := (yX8_image, cX8_image, 1, (some .int), 8)) (t2 := (yX9_image, cX9_image, 3, (some .int), 9)) (off := 51) (by decide +kernel) (by decide) ⟨rfl, rfl, LWD_in _ (List.mem_of_getElem? (i := 32) rfl), by decide +kernel, by decide +kernel, by decide, by decide +kernel⟩ ⟨rfl, rfl, LWD_in _ (List.mem_of_getElem? (i := 67) rfl), by decide +kernel, by decide +kernel, by decide, by decide +kernel⟩ (by decide) (by decide +kernel) (by decide) (fun σ n r q hs hn => AW.mono (call_image (by decide) hs (by omega)) (fun v τ h => AW.mono h (fun v' σ' h' => ⟨h'.1, n, r, q, h'.2, by omega⟩))) hl hI kk
theorem lwc_octet : LCase 1064 := by
  intro p l e s m below meth c H locs cells slots b L k xs Q ls G X hk hcs hl hI kk
  have hL := X.2.1
  exact lw_case X hk hcs (M1 := mX8_octet) (M2 := mX9_octet) (ix1 := 146) (ix2 := 149) (na := 1) (pc := 1064) (t1 := (yX8_octet, cX8_octet, 2, (some .int), 8)) (t2 := (yX9_octet, cX9_octet, 2, (some .int), 9)) (off := 28) (by decide +kernel) (by decide) ⟨rfl, rfl, LWD_in _ (List.mem_of_getElem? (i := 33) rfl), by decide +kernel, by decide +kernel, by decide, by decide +kernel⟩ ⟨rfl, rfl, LWD_in _ (List.mem_of_getElem? (i := 68) rfl), by decide +kernel, by decide +kernel, by decide, by decide +kernel⟩ (by decide) (by decide +kernel) (by decide) (fun σ n r q hs hn => AW.mono (call_octet (by decide) hs (i3_r _)) (fun v τ h => AW.mono h (fun v' σ' h' => ⟨h'.1, n, r, q, h'.2, by omega⟩))) hl hI kk
theorem lwc_status : LCase 1087 := by
  intro p l e s m below meth c H locs cells slots b L k xs Q ls G X hk hcs hl hI kk
  have hL := X.2.1
  exact lw_case X hk hcs (M1 := mX8_status) (M2 := mX9_status) (ix1 := 150) (ix2 := 153) (na := 1) (pc := 1087) (t1 := (yX8_status, cX8_status, 2, (some .int), 8)) (t2 := (yX9_status, cX9_status, 2, (some .int), 9)) (off := 5) (by decide +kernel) (by decide) ⟨rfl, rfl, LWD_in _ (List.mem_of_getElem? (i := 34) rfl), by decide +kernel, by decide +kernel, by decide, by decide +kernel⟩ ⟨rfl, rfl, LWD_in _ (List.mem_of_getElem? (i := 69) rfl), by decide +kernel, by decide +kernel, by decide, by decide +kernel⟩ (by decide) (by decide +kernel) (by decide) (fun σ n r q hs hn => AW.mono (call_status (by decide) hs (i3_r _)) (fun v τ h => AW.mono h (fun v' σ' h' => ⟨h'.1, n, r, q, h'.2, by omega⟩))) hl hI kk
def OFFS : Array Int := #[147, 210, 233, 246, 269, 292, 335, 368, 391, 434, 467, 500, 563, 586, 619, 642, 655, 688, 711, 744, 777, 810, 843, 866, 899, 912, 925, 948, 981, 1004, 1018, 1031, 1054]
set_option maxRecDepth 100000 in
theorem d_law_33 : decode code 33 = .ok (.tableswitch 1077 0 32 OFFS, 147) := by decide +kernel
theorem lw_tab {p : Program} {l : Launch} {e : Env} {s : State} {m : MethodId} {below : List Frame} {meth : Method} {c : Code} {H : Heap} {locs : List Loc} {cells slots : Nat} {args : Array Value} {R : Room} {Q : State → Prop} {ls : Array Slot} (hx : p.tables.exec = Jvm.exec) (hb : c.code = code) {v : Int32} {z : Int} (hz : v.toInt = z) (j : Nat) {off : Int} (tgt : Nat) (hj : z = (j : Int)) (hj2 : j ≤ 32) (ho : OFFS[j]? = some off) (ht : ((33 : Nat) : Int) + off = (tgt : Int)) (k : W p l e R s m args below meth c H locs cells slots Q (F0 m tgt ls [])) : W p l e R s m args below meth c H locs cells slots Q (F0 m 33 ls [.int v]) := by
  subst hj
  refine lv_tableIn (tgt := tgt) (off := off) hx hb d_law_33 (by omega) (by omega) ?_ ht k
  rw [hz, show ((j : Int) - 0).toNat = j by omega]
  exact ho
theorem lw_body : LCase 27 := by
  intro p l e s m below meth c H locs cells slots b L k xs Q ls G X hk hcs hl hI kk
  have hI' := hI
  obtain ⟨σ, n, r, q, hs, hn, hP, hS⟩ := hI'
  have X' := X
  obtain ⟨C0, hL, hKN, hAD⟩ := X'
  obtain ⟨hx, hb, hr, hml, hown, hts, hX, hbl, hlocks, hgv⟩ := C0
  refine lv_aload_n hx hb (k := 0) (pc := 27) (by decide +kernel) rfl (lv_at hl 0 rfl) ?_
  refine lv_iload_n hx hb (k := 3) (pc := 28) (by decide +kernel) rfl (lv_at hl 3 rfl) ?_
  refine va_sld hx hb hX hbl (A := fun q => s.heap.size ≤ q) (Nat.not_le.mpr hbl) hS (i3_in (x := ((6 * k : Nat) : Int)) (by omega) (by omega) (by omega)) (pc := 29) (by decide +kernel) ?_
  refine lv_bipush (n := 63) (v := Int32.ofInt 63) hx hb (pc := 30) (by decide +kernel) (i3_bip (by decide) (by decide)) ?_
  refine lv_iand hx hb (pc := 32) (by decide +kernel) ?_
  generalize xs (Int32.ofInt ((6 * k : Nat) : Int)).toNatClampNeg = x
  have hv : x &&& Int32.ofInt 63 = Int32.ofInt (band x.toInt 63) := by rw [← i3_and, Int32.ofInt_toInt]
  rw [hv]
  have z0 := band_nn x.toInt 63
  have z1 := band_le_r (x := x.toInt) (y := 63) (by decide) (by decide)
  have hz : (Int32.ofInt (band x.toInt 63)).toInt = band x.toInt 63 := i3_toInt (by omega) (by omega)
  generalize Int32.ofInt (band x.toInt 63) = v at hz ⊢
  generalize band x.toInt 63 = z at hz z0 z1
  rcases (show z = 0 ∨ z = 1 ∨ z = 2 ∨ z = 3 ∨ z = 4 ∨ z = 5 ∨ z = 6 ∨ z = 7 ∨ z = 8 ∨ z = 9 ∨ z = 10 ∨ z = 11 ∨ z = 12 ∨ z = 13 ∨ z = 14 ∨ z = 15 ∨ z = 16 ∨ z = 17 ∨ z = 18 ∨ z = 19 ∨ z = 20 ∨ z = 21 ∨ z = 22 ∨ z = 23 ∨ z = 24 ∨ z = 25 ∨ z = 26 ∨ z = 27 ∨ z = 28 ∨ z = 29 ∨ z = 30 ∨ z = 31 ∨ z = 32 ∨ 32 < z by omega) with hj | hj | hj | hj | hj | hj | hj | hj | hj | hj | hj | hj | hj | hj | hj | hj | hj | hj | hj | hj | hj | hj | hj | hj | hj | hj | hj | hj | hj | hj | hj | hj | hj | h32
  · exact lw_tab hx hb hz 0 180 hj (by decide) rfl (by decide) (lwc_feed p l e s m below meth c H locs cells slots b L k xs Q ls G X hk hcs hl hI kk)
  · exact lw_tab hx hb hz 1 243 hj (by decide) rfl (by decide) (lwc_end p l e s m below meth c H locs cells slots b L k xs Q ls G X hk hcs hl hI kk)
  · exact lw_tab hx hb hz 2 266 hj (by decide) rfl (by decide) (lwc_realm p l e s m below meth c H locs cells slots b L k xs Q ls G X hk hcs hl hI kk)
  · exact lw_tab hx hb hz 3 279 hj (by decide) rfl (by decide) (lwc_fault p l e s m below meth c H locs cells slots b L k xs Q ls G X hk hcs hl hI kk)
  · exact lw_tab hx hb hz 4 302 hj (by decide) rfl (by decide) (lwc_has p l e s m below meth c H locs cells slots b L k xs Q ls G X hk hcs hl hI kk)
  · exact lw_tab hx hb hz 5 325 hj (by decide) rfl (by decide) (lwc_letter p l e s m below meth c H locs cells slots b L k xs Q ls G X hk hcs hl hI kk)
  · exact lw_tab hx hb hz 6 368 hj (by decide) rfl (by decide) (lwc_tower p l e s m below meth c H locs cells slots b L k xs Q ls G X hk hcs hl hI kk)
  · exact lw_tab hx hb hz 7 401 hj (by decide) rfl (by decide) (lwc_purse p l e s m below meth c H locs cells slots b L k xs Q ls G X hk hcs hl hI kk)
  · exact lw_tab hx hb hz 8 424 hj (by decide) rfl (by decide) (lwc_step p l e s m below meth c H locs cells slots b L k xs Q ls G X hk hcs hl hI kk)
  · exact lw_tab hx hb hz 9 467 hj (by decide) rfl (by decide) (lwc_loan p l e s m below meth c H locs cells slots b L k xs Q ls G X hk hcs hl hI kk)
  · exact lw_tab hx hb hz 10 500 hj (by decide) rfl (by decide) (lwc_guard p l e s m below meth c H locs cells slots b L k xs Q ls G X hk hcs hl hI kk)
  · exact lw_tab hx hb hz 11 533 hj (by decide) rfl (by decide) (lwc_lend p l e s m below meth c H locs cells slots b L k xs Q ls G X hk hcs hl hI kk)
  · exact lw_tab hx hb hz 12 596 hj (by decide) rfl (by decide) (lwc_back p l e s m below meth c H locs cells slots b L k xs Q ls G X hk hcs hl hI kk)
  · exact lw_tab hx hb hz 13 619 hj (by decide) rfl (by decide) (lwc_refit p l e s m below meth c H locs cells slots b L k xs Q ls G X hk hcs hl hI kk)
  · exact lw_tab hx hb hz 14 652 hj (by decide) rfl (by decide) (lwc_go p l e s m below meth c H locs cells slots b L k xs Q ls G X hk hcs hl hI kk)
  · exact lw_tab hx hb hz 15 675 hj (by decide) rfl (by decide) (lwc_undo p l e s m below meth c H locs cells slots b L k xs Q ls G X hk hcs hl hI kk)
  · exact lw_tab hx hb hz 16 688 hj (by decide) rfl (by decide) (lwc_reaches p l e s m below meth c H locs cells slots b L k xs Q ls G X hk hcs hl hI kk)
  · exact lw_tab hx hb hz 17 721 hj (by decide) rfl (by decide) (lwc_hops p l e s m below meth c H locs cells slots b L k xs Q ls G X hk hcs hl hI kk)
  · exact lw_tab hx hb hz 18 744 hj (by decide) rfl (by decide) (lwc_spare p l e s m below meth c H locs cells slots b L k xs Q ls G X hk hcs hl hI kk)
  · exact lw_tab hx hb hz 19 777 hj (by decide) rfl (by decide) (lwc_need p l e s m below meth c H locs cells slots b L k xs Q ls G X hk hcs hl hI kk)
  · exact lw_tab hx hb hz 20 810 hj (by decide) rfl (by decide) (lwc_rescue p l e s m below meth c H locs cells slots b L k xs Q ls G X hk hcs hl hI kk)
  · exact lw_tab hx hb hz 21 843 hj (by decide) rfl (by decide) (lwc_falls p l e s m below meth c H locs cells slots b L k xs Q ls G X hk hcs hl hI kk)
  · exact lw_tab hx hb hz 22 876 hj (by decide) rfl (by decide) (lwc_odds p l e s m below meth c H locs cells slots b L k xs Q ls G X hk hcs hl hI kk)
  · exact lw_tab hx hb hz 23 899 hj (by decide) rfl (by decide) (lwc_blame p l e s m below meth c H locs cells slots b L k xs Q ls G X hk hcs hl hI kk)
  · exact lw_tab hx hb hz 24 932 hj (by decide) rfl (by decide) (lwc_netted p l e s m below meth c H locs cells slots b L k xs Q ls G X hk hcs hl hI kk)
  · exact lw_tab hx hb hz 25 945 hj (by decide) rfl (by decide) (lwc_ring p l e s m below meth c H locs cells slots b L k xs Q ls G X hk hcs hl hI kk)
  · exact lw_tab hx hb hz 26 958 hj (by decide) rfl (by decide) (lwc_wood p l e s m below meth c H locs cells slots b L k xs Q ls G X hk hcs hl hI kk)
  · exact lw_tab hx hb hz 27 981 hj (by decide) rfl (by decide) (lwc_rents p l e s m below meth c H locs cells slots b L k xs Q ls G X hk hcs hl hI kk)
  · exact lw_tab hx hb hz 28 1014 hj (by decide) rfl (by decide) (lwc_lost p l e s m below meth c H locs cells slots b L k xs Q ls G X hk hcs hl hI kk)
  · exact lw_tab hx hb hz 29 1037 hj (by decide) rfl (by decide) (lwc_ask p l e s m below meth c H locs cells slots b L k xs Q ls G X hk hcs hl hI kk)
  · exact lw_tab hx hb hz 30 1051 hj (by decide) rfl (by decide) (lwc_image p l e s m below meth c H locs cells slots b L k xs Q ls G X hk hcs hl hI kk)
  · exact lw_tab hx hb hz 31 1064 hj (by decide) rfl (by decide) (lwc_octet p l e s m below meth c H locs cells slots b L k xs Q ls G X hk hcs hl hI kk)
  · exact lw_tab hx hb hz 32 1087 hj (by decide) rfl (by decide) (lwc_status p l e s m below meth c H locs cells slots b L k xs Q ls G X hk hcs hl hI kk)
  · refine lv_tableOut (tgt := 1110) hx hb d_law_33 (Or.inr (by omega)) (by decide) ?_
    exact kk H locs ⟨σ, n, r, q, hs, by omega, hP, hS⟩
theorem lw_loop {p : Program} {l : Launch} {e : Env} {s : State} {m : MethodId} {below : List Frame} {meth : Method} {c : Code} {cells slots b L : Nat} {xs : Nat → Int32} {G : WG} (X : LX p s m meth c b L xs G) (hcs : cells ≤ 600000 ∧ slots ≤ 7302250) : ∀ (f k : Nat) (H : Heap) (locs : List Loc) (ls : Array Slot), L < 6 * k + 6 * f + 6 → 6 * k ≤ L → lv_has ls 4 (lwL b G k) → LInv G k s H locs → W p l e room_1 s m #[Value.ref b] below meth c H locs cells slots (lw_Z below #[Value.ref b] s) (F0 m 18 ls []) := by
  intro f
  induction f with
  | zero =>
    intro k H locs ls hf hkL hl hI
    have X' := X
    obtain ⟨C0, hL, hKN, hAD⟩ := X'
    obtain ⟨hx, hb, hr, hml, hown, hts, hX, hbl, hlocks, hgv⟩ := C0
    have hI' := hI
    obtain ⟨σ, n, r, q, hs, hn, hP, hS⟩ := hI'
    refine lv_iload_n hx hb (k := 3) (pc := 18) (by decide +kernel) rfl (lv_at hl 3 rfl) ?_
    refine lv_aload_n hx hb (k := 0) (pc := 19) (by decide +kernel) rfl (lv_at hl 0 rfl) ?_
    refine va_slen hx hb hX hbl (A := fun q => s.heap.size ≤ q) (Nat.not_le.mpr hbl) hS (pc := 20) (by decide +kernel) ?_
    refine lv_bipush (n := 6) (v := Int32.ofInt 6) hx hb (pc := 21) (by decide +kernel) (i3_bip (by decide) (by decide)) ?_
    refine lv_isub hx hb (pc := 23) (by decide +kernel) ?_
    rw [← Int32.ofInt_eq_ofNat, ← Int32.ofInt_sub]
    refine lv_icmp_gt (tgt := 1116) hx hb (pc := 24) (off := 1092) (by decide +kernel) (by decide) (fun _ => ?_) (fun hne => ?_)
    · refine lv_iconst (n := 1) (v := 1) hx hb (pc := 1116) (by decide +kernel) (by decide) ?_
      refine va_forget hS.2.2 ?_
      refine W.widen (k := 600000) (n := 7302250) hcs.1 hcs.2 ?_
      exact lw_ret hx hb hr hlocks (by decide +kernel)
    · exact absurd ((i3_lt (by omega) (by omega) (by omega) (by omega)).mpr (by omega)) hne
  | succ f ih =>
    intro k H locs ls hf hkL hl hI
    have X' := X
    obtain ⟨C0, hL, hKN, hAD⟩ := X'
    obtain ⟨hx, hb, hr, hml, hown, hts, hX, hbl, hlocks, hgv⟩ := C0
    have hI' := hI
    obtain ⟨σ, n, r, q, hs, hn, hP, hS⟩ := hI'
    refine lv_iload_n hx hb (k := 3) (pc := 18) (by decide +kernel) rfl (lv_at hl 3 rfl) ?_
    refine lv_aload_n hx hb (k := 0) (pc := 19) (by decide +kernel) rfl (lv_at hl 0 rfl) ?_
    refine va_slen hx hb hX hbl (A := fun q => s.heap.size ≤ q) (Nat.not_le.mpr hbl) hS (pc := 20) (by decide +kernel) ?_
    refine lv_bipush (n := 6) (v := Int32.ofInt 6) hx hb (pc := 21) (by decide +kernel) (i3_bip (by decide) (by decide)) ?_
    refine lv_isub hx hb (pc := 23) (by decide +kernel) ?_
    rw [← Int32.ofInt_eq_ofNat, ← Int32.ofInt_sub]
    refine lv_icmp_gt (tgt := 1116) hx hb (pc := 24) (off := 1092) (by decide +kernel) (by decide) (fun _ => ?_) (fun hne => ?_)
    · refine lv_iconst (n := 1) (v := 1) hx hb (pc := 1116) (by decide +kernel) (by decide) ?_
      refine va_forget hS.2.2 ?_
      refine W.widen (k := 600000) (n := 7302250) hcs.1 hcs.2 ?_
      exact lw_ret hx hb hr hlocks (by decide +kernel)
    · have hk6 : 6 * k + 6 ≤ L := by
        rcases Nat.lt_or_ge L (6 * k + 6) with h | h
        · exact absurd ((i3_lt (by omega) (by omega) (by omega) (by omega)).mpr (by omega)) hne
        · exact h
      refine lw_body p l e s m below meth c H locs cells slots b L k xs _ ls G X hk6 hcs hl hI (fun H1 locs1 hI1 => ?_)
      refine lv_iinc (v := Int32.ofInt ((6 * (k + 1) : Nat) : Int)) (lv' := [(3, .int (Int32.ofInt ((6 * (k + 1) : Nat) : Int))), (0, .ref b), (1, .ref (G.2.1 0)), (2, .ref (G.2.1 42))]) hx hb (pc := 1110) (i := 3) (n := 6) (by decide +kernel) hl (k := 3) rfl (by rw [← Int32.ofInt_add]; rfl) (by decide) rfl (fun ls1 hl1 => ?_)
      refine lv_goto (tgt := 18) hx hb (pc := 1113) (off := -1095) (by decide +kernel) (by decide) ?_
      exact ih (k + 1) H1 locs1 ls1 (by omega) (by omega) (lv_sub hl1 [1, 2, 3, 0] rfl) hI1
