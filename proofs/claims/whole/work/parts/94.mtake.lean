/-! ===== what the reference takes off the tape (wip/whole/gen94.py) ===== -/
def WP (w : Nat) : Prop := 45 ≤ w ∧ w ≤ 60 ∨ 76 ≤ w ∧ w ≤ 95
theorem wp_cases {w : Nat} (h : WP w) : w = 45 ∨ w = 46 ∨ w = 47 ∨ w = 48 ∨ w = 49 ∨ w = 50 ∨ w = 51 ∨ w = 52 ∨ w = 53 ∨ w = 54 ∨ w = 55 ∨ w = 56 ∨ w = 57 ∨ w = 58 ∨ w = 59 ∨ w = 60 ∨ w = 76 ∨ w = 77 ∨ w = 78 ∨ w = 79 ∨ w = 80 ∨ w = 81 ∨ w = 82 ∨ w = 83 ∨ w = 84 ∨ w = 85 ∨ w = 86 ∨ w = 87 ∨ w = 88 ∨ w = 89 ∨ w = 90 ∨ w = 91 ∨ w = 92 ∨ w = 93 ∨ w = 94 ∨ w = 95 := by
  unfold WP at h
  omega

def kX9_look_75 : List BI := [bi (.iconst (-1)) 1 [] 0, bi (.ireturn) 1 [] 0]
theorem cX9_look_75 : chk mX9_look 75 kX9_look_75 = true := by decide +kernel
def kX9_look_76 : List BI := [bi (.ireturn) 1 [] 0]
theorem cX9_look_76 : chk mX9_look 76 kX9_look_76 = true := by decide +kernel
def kX9_look_52 : List BI := [bi (.aload_n 0) 1 [] 0, bi (.getfield 196) 3 [9, 2] 0, bi (.aload_n 0) 1 [] 0, bi (.getfield 199) 3 [9, 3] 0, bi (.if_icmp .ge (15)) 3 [75] 0, bi (.aload_n 0) 1 [] 0, bi (.getfield 7) 3 [9, 0] 0, bi (.aload_n 0) 1 [] 0, bi (.getfield 196) 3 [9, 2] 0, bi (.iaload) 1 [] 0, bi (.goto (4)) 3 [76] 0]
theorem cX9_look_52 : chk mX9_look 52 kX9_look_52 = true := by decide +kernel
def kX9_look_39 : List BI := [bi (.aload_n 0) 1 [] 0, bi (.dup) 1 [] 0, bi (.getfield 196) 3 [9, 2] 0, bi (.iconst 1) 1 [] 0, bi (.iadd) 1 [] 0, bi (.putfield 196) 3 [9, 2] 0, bi (.goto (-49)) 3 [0] 0]
theorem cX9_look_39 : chk mX9_look 39 kX9_look_39 = true := by decide +kernel
def kX9_look_0 : List BI := [bi (.aload_n 0) 1 [] 0, bi (.getfield 196) 3 [9, 2] 0, bi (.aload_n 0) 1 [] 0, bi (.getfield 199) 3 [9, 3] 0, bi (.if_icmp .ge (44)) 3 [52] 0, bi (.aload_n 0) 1 [] 0, bi (.getfield 7) 3 [9, 0] 0, bi (.aload_n 0) 1 [] 0, bi (.getfield 196) 3 [9, 2] 0, bi (.iaload) 1 [] 0, bi (.bipush (10)) 2 [] 0, bi (.if_icmp .eq (17)) 3 [39] 0, bi (.aload_n 0) 1 [] 0, bi (.getfield 7) 3 [9, 0] 0, bi (.aload_n 0) 1 [] 0, bi (.getfield 196) 3 [9, 2] 0, bi (.iaload) 1 [] 0, bi (.bipush (32)) 2 [] 0, bi (.if_icmp .ne (16)) 3 [52] 0, bi (.aload_n 0) 1 [] 0, bi (.dup) 1 [] 0, bi (.getfield 196) 3 [9, 2] 0, bi (.iconst 1) 1 [] 0, bi (.iadd) 1 [] 0, bi (.putfield 196) 3 [9, 2] 0, bi (.goto (-49)) 3 [0] 0]
theorem cX9_look_0 : chk mX9_look 0 kX9_look_0 = true := by decide +kernel
theorem mlk_0 {d : Nat} {σ : SG} {Q : Option AV → SG → Prop} (h : (r3 (σ 42 2) ∧ r3 (σ 42 3)) ∧ ((σ 42 3) ≤ (σ 42 2) → (r3 (σ 42 2) ∧ r3 (σ 42 3)) ∧ ((σ 42 3) ≤ (σ 42 2) → Q (some (.inl ((-1)))) σ) ∧ ((σ 42 2) < (σ 42 3) → (0 ≤ (σ 42 2) ∧ (σ 42 2) < 1600) ∧ Q (some (.inl (σ 43 (σ 42 2)))) σ)) ∧ ((σ 42 2) < (σ 42 3) → (0 ≤ (σ 42 2) ∧ (σ 42 2) < 1600) ∧ (r3 (σ 43 (σ 42 2))) ∧ ((σ 43 (σ 42 2)) = 10 → (∀ S2 : SG, S2 = up σ 42 2 ((σ 42 2) + 1) → AW d mX9_look 0 [some (.inr (.inr 42))] [] S2 Q)) ∧ ((σ 43 (σ 42 2)) ≠ 10 → (0 ≤ (σ 42 2) ∧ (σ 42 2) < 1600) ∧ (r3 (σ 43 (σ 42 2))) ∧ ((σ 43 (σ 42 2)) ≠ 32 → (r3 (σ 42 2) ∧ r3 (σ 42 3)) ∧ ((σ 42 3) ≤ (σ 42 2) → Q (some (.inl ((-1)))) σ) ∧ ((σ 42 2) < (σ 42 3) → (0 ≤ (σ 42 2) ∧ (σ 42 2) < 1600) ∧ Q (some (.inl (σ 43 (σ 42 2)))) σ)) ∧ ((σ 43 (σ 42 2)) = 32 → (∀ S4 : SG, S4 = up σ 42 2 ((σ 42 2) + 1) → AW d mX9_look 0 [some (.inr (.inr 42))] [] S4 Q))))) : AW d mX9_look 0 [some (.inr (.inr 42))] [] σ Q := AW.blk kX9_look_0 cX9_look_0 (⟨⟨((h).1).1, ((h).1).2⟩, ⟨fun c7 => AW.blk kX9_look_52 cX9_look_52 (⟨⟨((((h).2).1 c7).1).1, ((((h).2).1 c7).1).2⟩, ⟨fun c1 => AW.blk kX9_look_75 cX9_look_75 (((((h).2).1 c7).2).1 c1), fun c1 => ⟨⟨((((((h).2).1 c7).2).2 c1).1).1, ((((((h).2).1 c7).2).2 c1).1).2⟩, AW.blk kX9_look_76 cX9_look_76 ((((((h).2).1 c7).2).2 c1).2)⟩⟩⟩), fun c7 => ⟨⟨((((h).2).2 c7).1).1, ((((h).2).2 c7).1).2⟩, ⟨⟨((((h).2).2 c7).2).1, (by decide)⟩, ⟨fun c6 => AW.blk kX9_look_39 cX9_look_39 (((((((h).2).2 c7).2).2).1 c6) _ rfl), fun c6 => ⟨⟨(((((((h).2).2 c7).2).2).2 c6).1).1, (((((((h).2).2 c7).2).2).2 c6).1).2⟩, ⟨⟨(((((((h).2).2 c7).2).2).2 c6).2).1, (by decide)⟩, ⟨fun c5 => AW.blk kX9_look_52 cX9_look_52 (⟨⟨((((((((((h).2).2 c7).2).2).2 c6).2).2).1 c5).1).1, ((((((((((h).2).2 c7).2).2).2 c6).2).2).1 c5).1).2⟩, ⟨fun c3 => AW.blk kX9_look_75 cX9_look_75 (((((((((((h).2).2 c7).2).2).2 c6).2).2).1 c5).2).1 c3), fun c3 => ⟨⟨((((((((((((h).2).2 c7).2).2).2 c6).2).2).1 c5).2).2 c3).1).1, ((((((((((((h).2).2 c7).2).2).2 c6).2).2).1 c5).2).2 c3).1).2⟩, AW.blk kX9_look_76 cX9_look_76 ((((((((((((h).2).2 c7).2).2).2 c6).2).2).1 c5).2).2 c3).2)⟩⟩⟩), fun c5 => (((((((((h).2).2 c7).2).2).2 c6).2).2).2 c5) _ rfl⟩⟩⟩⟩⟩⟩⟩⟩)
def kX9_isHere_28 : List BI := [bi (.iconst 0) 1 [] 0, bi (.ireturn) 1 [1] 0]
theorem cX9_isHere_28 : chk mX9_isHere 28 kX9_isHere_28 = true := by decide +kernel
def kX9_isHere_0 : List BI := [bi (.aload_n 0) 1 [] 0, bi (.getfield 190) 3 [9, 5] 0, bi (.ifCond .ne (24)) 3 [28] 0, bi (.aload_n 0) 1 [] 0, bi (.invokevirtual 202) 3 [mX9_look, 1, 1, 9] 0]
theorem cX9_isHere_0 : chk mX9_isHere 0 kX9_isHere_0 = true := by decide +kernel
theorem mih_0 {d : Nat} {σ : SG} {Q : Option AV → SG → Prop} {w : Nat} (hw : WP w) (h : (r3 (σ 42 5)) ∧ ((σ 42 5) ≠ 0 → Q (some (.inl 0)) σ) ∧ ((σ 42 5) = 0 → (0 < d) ∧ AW (d - 1) mX9_look 0 [some (.inr (.inr 42))] [] σ (fun rr σ' => AW d mX9_isHere 11 [some (.inr (.inr 42)), some (.inr (.inr w)), none, none] (rtS rr []) σ' Q))) : AW d mX9_isHere 0 [some (.inr (.inr 42)), some (.inr (.inr w)), none, none] [] σ Q := by
  (rcases wp_cases hw with rfl | rfl | rfl | rfl | rfl | rfl | rfl | rfl | rfl | rfl | rfl | rfl | rfl | rfl | rfl | rfl | rfl | rfl | rfl | rfl | rfl | rfl | rfl | rfl | rfl | rfl | rfl | rfl | rfl | rfl | rfl | rfl | rfl | rfl | rfl | rfl) <;> exact AW.blk kX9_isHere_0 cX9_isHere_0 (⟨(h).1, ⟨fun c8 => AW.blk kX9_isHere_28 cX9_isHere_28 (⟨(by decide), ((h).2).1 c8⟩), fun c8 => ⟨(((h).2).2 c8).1, (((h).2).2 c8).2⟩⟩⟩)
def kX9_isHere_30 : List BI := [bi (.aload_n 0) 1 [] 0, bi (.getfield 196) 3 [9, 2] 0, bi (.istore_n 2) 1 [] 0]
theorem cX9_isHere_30 : chk mX9_isHere 30 kX9_isHere_30 = true := by decide +kernel
def kX9_isHere_11 : List BI := [bi (.invokestatic 206) 3 [mX9_isLetter, 1, 1] 0, bi (.ifCond .eq (14)) 3 [28] 0, bi (.aload_n 0) 1 [] 0, bi (.getfield 196) 3 [9, 2] 0, bi (.aload_n 0) 1 [] 0, bi (.getfield 210) 3 [9, 4] 0, bi (.if_icmp .ne (5)) 3 [30] 0, bi (.iconst 0) 1 [] 0, bi (.ireturn) 1 [1] 0]
theorem cX9_isHere_11 : chk mX9_isHere 11 kX9_isHere_11 = true := by decide +kernel
theorem mih_11 {d : Nat} {σ : SG} {Q : Option AV → SG → Prop} {s0 : Int} {w : Nat} (hw : WP w) (h : (0 < d) ∧ (r3 s0) ∧ (r3 (chL s0)) ∧ ((chL s0) = 0 → Q (some (.inl 0)) σ) ∧ ((chL s0) ≠ 0 → (r3 (σ 42 2) ∧ r3 (σ 42 4)) ∧ ((σ 42 2) ≠ (σ 42 4) → AW d mX9_isHere 35 [some (.inr (.inr 42)), some (.inr (.inr w)), some (.inl (σ 42 2)), none] [] σ Q) ∧ ((σ 42 2) = (σ 42 4) → Q (some (.inl 0)) σ))) : AW d mX9_isHere 11 [some (.inr (.inr 42)), some (.inr (.inr w)), none, none] [.inl s0] σ Q := by
  (rcases wp_cases hw with rfl | rfl | rfl | rfl | rfl | rfl | rfl | rfl | rfl | rfl | rfl | rfl | rfl | rfl | rfl | rfl | rfl | rfl | rfl | rfl | rfl | rfl | rfl | rfl | rfl | rfl | rfl | rfl | rfl | rfl | rfl | rfl | rfl | rfl | rfl | rfl) <;> exact AW.blk kX9_isHere_11 cX9_isHere_11 (⟨(h).1, misLetter_ok ⟨((h).2).1, ⟨(((h).2).2).1, ⟨fun c10 => AW.blk kX9_isHere_28 cX9_isHere_28 (⟨(by decide), ((((h).2).2).2).1 c10⟩), fun c10 => ⟨⟨((((((h).2).2).2).2 c10).1).1, ((((((h).2).2).2).2 c10).1).2⟩, ⟨fun c9 => AW.blk kX9_isHere_30 cX9_isHere_30 (((((((h).2).2).2).2 c10).2).1 c9), fun c9 => ⟨(by decide), ((((((h).2).2).2).2 c10).2).2 c9⟩⟩⟩⟩⟩⟩⟩)
def kX9_isHere_74 : List BI := [bi (.iconst 0) 1 [] 0, bi (.istore_n 3) 1 [] 0]
theorem cX9_isHere_74 : chk mX9_isHere 74 kX9_isHere_74 = true := by decide +kernel
def kX9_isHere_61 : List BI := [bi (.iload_n 2) 1 [] 0, bi (.aload_n 0) 1 [] 0, bi (.getfield 196) 3 [9, 2] 0, bi (.isub) 1 [] 0, bi (.aload_n 1) 1 [] 0, bi (.arraylength) 1 [] 0, bi (.if_icmp .eq (5)) 3 [74] 0, bi (.iconst 0) 1 [] 0, bi (.ireturn) 1 [1] 0]
theorem cX9_isHere_61 : chk mX9_isHere 61 kX9_isHere_61 = true := by decide +kernel
def kX9_isHere_35 : List BI := [bi (.iload_n 2) 1 [] 0, bi (.aload_n 0) 1 [] 0, bi (.getfield 199) 3 [9, 3] 0, bi (.if_icmp .ge (21)) 3 [61] 0, bi (.aload_n 0) 1 [] 0, bi (.getfield 7) 3 [9, 0] 0, bi (.iload_n 2) 1 [] 0, bi (.iaload) 1 [] 0, bi (.invokestatic 206) 3 [mX9_isLetter, 1, 1] 0, bi (.ifCond .eq (9)) 3 [61] 0, bi (.iinc 2 (1)) 3 [] 0, bi (.goto (-23)) 3 [35] 0]
theorem cX9_isHere_35 : chk mX9_isHere 35 kX9_isHere_35 = true := by decide +kernel
theorem mih_35 {d : Nat} {σ : SG} {Q : Option AV → SG → Prop} {l2 : Int} {w : Nat} (hw : WP w) (h : (r3 l2 ∧ r3 (σ 42 3)) ∧ ((σ 42 3) ≤ l2 → (r3 (l2 - (σ 42 2)) ∧ r3 ((WC w).length : Int)) ∧ ((l2 - (σ 42 2)) = ((WC w).length : Int) → AW d mX9_isHere 76 [some (.inr (.inr 42)), some (.inr (.inr w)), none, some (.inl 0)] [] σ Q) ∧ ((l2 - (σ 42 2)) ≠ ((WC w).length : Int) → Q (some (.inl 0)) σ)) ∧ (l2 < (σ 42 3) → (0 ≤ l2 ∧ l2 < 1600) ∧ (0 < d) ∧ (r3 (σ 43 l2)) ∧ (r3 (chL (σ 43 l2))) ∧ ((chL (σ 43 l2)) = 0 → (r3 (l2 - (σ 42 2)) ∧ r3 ((WC w).length : Int)) ∧ ((l2 - (σ 42 2)) = ((WC w).length : Int) → AW d mX9_isHere 76 [some (.inr (.inr 42)), some (.inr (.inr w)), none, some (.inl 0)] [] σ Q) ∧ ((l2 - (σ 42 2)) ≠ ((WC w).length : Int) → Q (some (.inl 0)) σ)) ∧ ((chL (σ 43 l2)) ≠ 0 → AW d mX9_isHere 35 [some (.inr (.inr 42)), some (.inr (.inr w)), some (.inl (l2 + 1)), none] [] σ Q))) : AW d mX9_isHere 35 [some (.inr (.inr 42)), some (.inr (.inr w)), some (.inl l2), none] [] σ Q := by
  (rcases wp_cases hw with rfl | rfl | rfl | rfl | rfl | rfl | rfl | rfl | rfl | rfl | rfl | rfl | rfl | rfl | rfl | rfl | rfl | rfl | rfl | rfl | rfl | rfl | rfl | rfl | rfl | rfl | rfl | rfl | rfl | rfl | rfl | rfl | rfl | rfl | rfl | rfl) <;> exact AW.blk kX9_isHere_35 cX9_isHere_35 (⟨⟨((h).1).1, ((h).1).2⟩, ⟨fun c14 => AW.blk kX9_isHere_61 cX9_isHere_61 (⟨⟨((((h).2).1 c14).1).1, ((((h).2).1 c14).1).2⟩, ⟨fun c11 => AW.blk kX9_isHere_74 cX9_isHere_74 (AW.drop 2 (((((h).2).1 c14).2).1 c11)), fun c11 => ⟨(by decide), ((((h).2).1 c14).2).2 c11⟩⟩⟩), fun c14 => ⟨⟨((((h).2).2 c14).1).1, ((((h).2).2 c14).1).2⟩, ⟨((((h).2).2 c14).2).1, misLetter_ok ⟨(((((h).2).2 c14).2).2).1, ⟨((((((h).2).2 c14).2).2).2).1, ⟨fun c13 => AW.blk kX9_isHere_61 cX9_isHere_61 (⟨⟨(((((((((h).2).2 c14).2).2).2).2).1 c13).1).1, (((((((((h).2).2 c14).2).2).2).2).1 c13).1).2⟩, ⟨fun c12 => AW.blk kX9_isHere_74 cX9_isHere_74 (AW.drop 2 ((((((((((h).2).2 c14).2).2).2).2).1 c13).2).1 c12)), fun c12 => ⟨(by decide), (((((((((h).2).2 c14).2).2).2).2).1 c13).2).2 c12⟩⟩⟩), fun c13 => (((((((h).2).2 c14).2).2).2).2).2 c13⟩⟩⟩⟩⟩⟩⟩)
def kX9_isHere_107 : List BI := [bi (.iconst 1) 1 [] 0, bi (.ireturn) 1 [1] 0]
theorem cX9_isHere_107 : chk mX9_isHere 107 kX9_isHere_107 = true := by decide +kernel
def kX9_isHere_101 : List BI := [bi (.iinc 3 (1)) 3 [] 0, bi (.goto (-28)) 3 [76] 0]
theorem cX9_isHere_101 : chk mX9_isHere 101 kX9_isHere_101 = true := by decide +kernel
def kX9_isHere_76 : List BI := [bi (.iload_n 3) 1 [] 0, bi (.aload_n 1) 1 [] 0, bi (.arraylength) 1 [] 0, bi (.if_icmp .ge (28)) 3 [107] 0, bi (.aload_n 0) 1 [] 0, bi (.getfield 7) 3 [9, 0] 0, bi (.aload_n 0) 1 [] 0, bi (.getfield 196) 3 [9, 2] 0, bi (.iload_n 3) 1 [] 0, bi (.iadd) 1 [] 0, bi (.iaload) 1 [] 0, bi (.aload_n 1) 1 [] 0, bi (.iload_n 3) 1 [] 0, bi (.caload) 1 [] 0, bi (.if_icmp .eq (5)) 3 [101] 0, bi (.iconst 0) 1 [] 0, bi (.ireturn) 1 [1] 0]
theorem cX9_isHere_76 : chk mX9_isHere 76 kX9_isHere_76 = true := by decide +kernel
theorem mih_76 {d : Nat} {σ : SG} {Q : Option AV → SG → Prop} {l3 : Int} {w : Nat} (hw : WP w) (h : (r3 l3 ∧ r3 ((WC w).length : Int)) ∧ (((WC w).length : Int) ≤ l3 → Q (some (.inl 1)) σ) ∧ (l3 < ((WC w).length : Int) → (0 ≤ ((σ 42 2) + l3) ∧ ((σ 42 2) + l3) < 1600) ∧ (0 ≤ l3 ∧ l3 < ((WC w).length : Int)) ∧ (r3 (σ 43 ((σ 42 2) + l3)) ∧ r3 (σ w l3)) ∧ ((σ 43 ((σ 42 2) + l3)) = (σ w l3) → AW d mX9_isHere 76 [some (.inr (.inr 42)), some (.inr (.inr w)), none, some (.inl (l3 + 1))] [] σ Q) ∧ ((σ 43 ((σ 42 2) + l3)) ≠ (σ w l3) → Q (some (.inl 0)) σ))) : AW d mX9_isHere 76 [some (.inr (.inr 42)), some (.inr (.inr w)), none, some (.inl l3)] [] σ Q := by
  (rcases wp_cases hw with rfl | rfl | rfl | rfl | rfl | rfl | rfl | rfl | rfl | rfl | rfl | rfl | rfl | rfl | rfl | rfl | rfl | rfl | rfl | rfl | rfl | rfl | rfl | rfl | rfl | rfl | rfl | rfl | rfl | rfl | rfl | rfl | rfl | rfl | rfl | rfl) <;> exact AW.blk kX9_isHere_76 cX9_isHere_76 (⟨⟨((h).1).1, ((h).1).2⟩, ⟨fun c16 => AW.blk kX9_isHere_107 cX9_isHere_107 (⟨(by decide), ((h).2).1 c16⟩), fun c16 => ⟨⟨((((h).2).2 c16).1).1, ((((h).2).2 c16).1).2⟩, ⟨⟨(((((h).2).2 c16).2).1).1, (((((h).2).2 c16).2).1).2⟩, ⟨⟨((((((h).2).2 c16).2).2).1).1, ((((((h).2).2 c16).2).2).1).2⟩, ⟨fun c15 => AW.blk kX9_isHere_101 cX9_isHere_101 (((((((h).2).2 c16).2).2).2).1 c15), fun c15 => ⟨(by decide), ((((((h).2).2 c16).2).2).2).2 c15⟩⟩⟩⟩⟩⟩⟩)
def kX9_takes_0 : List BI := [bi (.aload_n 0) 1 [] 0, bi (.aload_n 1) 1 [] 0, bi (.invokevirtual 213) 3 [mX9_isHere, 2, 4, 9] 0]
theorem cX9_takes_0 : chk mX9_takes 0 kX9_takes_0 = true := by decide +kernel
theorem mtk_0 {d : Nat} {σ : SG} {Q : Option AV → SG → Prop} {w : Nat} (hw : WP w) (h : (0 < d) ∧ AW (d - 1) mX9_isHere 0 [some (.inr (.inr 42)), some (.inr (.inr w)), none, none] [] σ (fun rr σ' => AW d mX9_takes 5 [some (.inr (.inr 42)), some (.inr (.inr w))] (rtS rr []) σ' Q)) : AW d mX9_takes 0 [some (.inr (.inr 42)), some (.inr (.inr w))] [] σ Q := by
  (rcases wp_cases hw with rfl | rfl | rfl | rfl | rfl | rfl | rfl | rfl | rfl | rfl | rfl | rfl | rfl | rfl | rfl | rfl | rfl | rfl | rfl | rfl | rfl | rfl | rfl | rfl | rfl | rfl | rfl | rfl | rfl | rfl | rfl | rfl | rfl | rfl | rfl | rfl) <;> exact AW.blk kX9_takes_0 cX9_takes_0 (⟨(h).1, (h).2⟩)
def kX9_takes_10 : List BI := [bi (.aload_n 0) 1 [] 0, bi (.dup) 1 [] 0, bi (.getfield 196) 3 [9, 2] 0, bi (.aload_n 1) 1 [] 0, bi (.arraylength) 1 [] 0, bi (.iadd) 1 [] 0, bi (.putfield 196) 3 [9, 2] 0, bi (.aload_n 0) 1 [] 0, bi (.aload_n 0) 1 [] 0, bi (.getfield 196) 3 [9, 2] 0, bi (.putfield 210) 3 [9, 4] 0, bi (.iconst 1) 1 [] 0, bi (.ireturn) 1 [1] 0]
theorem cX9_takes_10 : chk mX9_takes 10 kX9_takes_10 = true := by decide +kernel
def kX9_takes_5 : List BI := [bi (.ifCond .ne (5)) 3 [10] 0, bi (.iconst 0) 1 [] 0, bi (.ireturn) 1 [1] 0]
theorem cX9_takes_5 : chk mX9_takes 5 kX9_takes_5 = true := by decide +kernel
theorem mtk_5 {d : Nat} {σ : SG} {Q : Option AV → SG → Prop} {s0 : Int} {w : Nat} (hw : WP w) (h : (r3 s0) ∧ (s0 ≠ 0 → (∀ S17 : SG, S17 = up σ 42 2 ((σ 42 2) + ((WC w).length : Int)) → (∀ S18 : SG, S18 = up S17 42 4 (S17 42 2) → Q (some (.inl 1)) S18))) ∧ (s0 = 0 → Q (some (.inl 0)) σ)) : AW d mX9_takes 5 [some (.inr (.inr 42)), some (.inr (.inr w))] [.inl s0] σ Q := by
  (rcases wp_cases hw with rfl | rfl | rfl | rfl | rfl | rfl | rfl | rfl | rfl | rfl | rfl | rfl | rfl | rfl | rfl | rfl | rfl | rfl | rfl | rfl | rfl | rfl | rfl | rfl | rfl | rfl | rfl | rfl | rfl | rfl | rfl | rfl | rfl | rfl | rfl | rfl) <;> exact AW.blk kX9_takes_5 cX9_takes_5 (⟨(h).1, ⟨fun c19 => AW.blk kX9_takes_10 cX9_takes_10 (⟨(by decide), ((((h).2).1 c19) _ rfl) _ rfl⟩), fun c19 => ⟨(by decide), ((h).2).2 c19⟩⟩⟩)
def kX9_asks_24 : List BI := [bi (.return_) 1 [] 0]
theorem cX9_asks_24 : chk mX9_asks 24 kX9_asks_24 = true := by decide +kernel
def kX9_asks_0 : List BI := [bi (.aload_n 0) 1 [] 0, bi (.getfield 190) 3 [9, 5] 0, bi (.ifCond .ne (20)) 3 [24] 0, bi (.aload_n 0) 1 [] 0, bi (.aload_n 1) 1 [] 0, bi (.invokevirtual 217) 3 [mX9_takes, 2, 2, 9] 0]
theorem cX9_asks_0 : chk mX9_asks 0 kX9_asks_0 = true := by decide +kernel
theorem mas_0 {d : Nat} {σ : SG} {Q : Option AV → SG → Prop} {w : Nat} (hw : WP w) (h : (r3 (σ 42 5)) ∧ ((σ 42 5) ≠ 0 → Q none σ) ∧ ((σ 42 5) = 0 → (0 < d) ∧ AW (d - 1) mX9_takes 0 [some (.inr (.inr 42)), some (.inr (.inr w))] [] σ (fun rr σ' => AW d mX9_asks 12 [some (.inr (.inr 42)), some (.inr (.inr w))] (rtS rr []) σ' Q))) : AW d mX9_asks 0 [some (.inr (.inr 42)), some (.inr (.inr w))] [] σ Q := by
  (rcases wp_cases hw with rfl | rfl | rfl | rfl | rfl | rfl | rfl | rfl | rfl | rfl | rfl | rfl | rfl | rfl | rfl | rfl | rfl | rfl | rfl | rfl | rfl | rfl | rfl | rfl | rfl | rfl | rfl | rfl | rfl | rfl | rfl | rfl | rfl | rfl | rfl | rfl) <;> exact AW.blk kX9_asks_0 cX9_asks_0 (⟨(h).1, ⟨fun c20 => AW.blk kX9_asks_24 cX9_asks_24 (((h).2).1 c20), fun c20 => ⟨(((h).2).2 c20).1, (((h).2).2 c20).2⟩⟩⟩)
def kX9_fail_8 : List BI := [bi (.aload_n 0) 1 [] 0, bi (.iload_n 1) 1 [] 0, bi (.putfield 190) 3 [9, 5] 0, bi (.aload_n 0) 1 [] 0, bi (.iload_n 2) 1 [] 0, bi (.putfield 193) 3 [9, 6] 0, bi (.return_) 1 [] 0]
theorem cX9_fail_8 : chk mX9_fail 8 kX9_fail_8 = true := by decide +kernel
def kX9_fail_0 : List BI := [bi (.aload_n 0) 1 [] 0, bi (.getfield 190) 3 [9, 5] 0, bi (.ifCond .eq (4)) 3 [8] 0, bi (.return_) 1 [] 0]
theorem cX9_fail_0 : chk mX9_fail 0 kX9_fail_0 = true := by decide +kernel
def kX9_asks_12 : List BI := [bi (.ifCond .ne (12)) 3 [24] 0, bi (.aload_n 0) 1 [] 0, bi (.iconst 1) 1 [] 0, bi (.aload_n 0) 1 [] 0, bi (.getfield 196) 3 [9, 2] 0, bi (.invokevirtual 220) 3 [mX9_fail, 3, 3, 9] 0, bi (.return_) 1 [] 0]
theorem cX9_asks_12 : chk mX9_asks 12 kX9_asks_12 = true := by decide +kernel
theorem mas_12 {d : Nat} {σ : SG} {Q : Option AV → SG → Prop} {s0 : Int} {w : Nat} (hw : WP w) (h : (r3 s0) ∧ (s0 ≠ 0 → Q none σ) ∧ (s0 = 0 → (0 < d) ∧ (r3 (σ 42 5)) ∧ ((σ 42 5) = 0 → (∀ S21 : SG, S21 = up σ 42 5 1 → (∀ S22 : SG, S22 = up S21 42 6 (σ 42 2) → Q none S22))) ∧ ((σ 42 5) ≠ 0 → Q none σ))) : AW d mX9_asks 12 [some (.inr (.inr 42)), some (.inr (.inr w))] [.inl s0] σ Q := by
  (rcases wp_cases hw with rfl | rfl | rfl | rfl | rfl | rfl | rfl | rfl | rfl | rfl | rfl | rfl | rfl | rfl | rfl | rfl | rfl | rfl | rfl | rfl | rfl | rfl | rfl | rfl | rfl | rfl | rfl | rfl | rfl | rfl | rfl | rfl | rfl | rfl | rfl | rfl) <;> exact AW.blk kX9_asks_12 cX9_asks_12 (⟨(h).1, ⟨fun c24 => AW.blk kX9_asks_24 cX9_asks_24 (((h).2).1 c24), fun c24 => ⟨(((h).2).2 c24).1, AW.blk kX9_fail_0 cX9_fail_0 (⟨((((h).2).2 c24).2).1, ⟨fun c23 => AW.blk kX9_fail_8 cX9_fail_8 ((((((((h).2).2 c24).2).2).1 c23) _ rfl) _ rfl), fun c23 => (((((h).2).2 c24).2).2).2 c23⟩⟩)⟩⟩⟩)
def kX9_takesSign_15 : List BI := [bi (.iconst 0) 1 [] 0, bi (.ireturn) 1 [1] 0]
theorem cX9_takesSign_15 : chk mX9_takesSign 15 kX9_takesSign_15 = true := by decide +kernel
def kX9_takesSign_0 : List BI := [bi (.aload_n 0) 1 [] 0, bi (.getfield 190) 3 [9, 5] 0, bi (.ifCond .ne (11)) 3 [15] 0, bi (.aload_n 0) 1 [] 0, bi (.invokevirtual 202) 3 [mX9_look, 1, 1, 9] 0]
theorem cX9_takesSign_0 : chk mX9_takesSign 0 kX9_takesSign_0 = true := by decide +kernel
theorem mtg_0 {d : Nat} {σ : SG} {Q : Option AV → SG → Prop} {c : Int} (h : (r3 (σ 42 5)) ∧ ((σ 42 5) ≠ 0 → Q (some (.inl 0)) σ) ∧ ((σ 42 5) = 0 → (0 < d) ∧ AW (d - 1) mX9_look 0 [some (.inr (.inr 42))] [] σ (fun rr σ' => AW d mX9_takesSign 11 [some (.inr (.inr 42)), some (.inl c)] (rtS rr []) σ' Q))) : AW d mX9_takesSign 0 [some (.inr (.inr 42)), some (.inl c)] [] σ Q := AW.blk kX9_takesSign_0 cX9_takesSign_0 (⟨(h).1, ⟨fun c25 => AW.blk kX9_takesSign_15 cX9_takesSign_15 (⟨(by decide), ((h).2).1 c25⟩), fun c25 => ⟨(((h).2).2 c25).1, (((h).2).2 c25).2⟩⟩⟩)
def kX9_takesSign_17 : List BI := [bi (.aload_n 0) 1 [] 0, bi (.dup) 1 [] 0, bi (.getfield 196) 3 [9, 2] 0, bi (.iconst 1) 1 [] 0, bi (.iadd) 1 [] 0, bi (.putfield 196) 3 [9, 2] 0, bi (.iconst 1) 1 [] 0, bi (.ireturn) 1 [1] 0]
theorem cX9_takesSign_17 : chk mX9_takesSign 17 kX9_takesSign_17 = true := by decide +kernel
def kX9_takesSign_11 : List BI := [bi (.iload_n 1) 1 [] 0, bi (.if_icmp .eq (5)) 3 [17] 0, bi (.iconst 0) 1 [] 0, bi (.ireturn) 1 [1] 0]
theorem cX9_takesSign_11 : chk mX9_takesSign 11 kX9_takesSign_11 = true := by decide +kernel
theorem mtg_11 {d : Nat} {σ : SG} {Q : Option AV → SG → Prop} {c s0 : Int} (h : (r3 s0 ∧ r3 c) ∧ (s0 = c → (∀ S26 : SG, S26 = up σ 42 2 ((σ 42 2) + 1) → Q (some (.inl 1)) S26)) ∧ (s0 ≠ c → Q (some (.inl 0)) σ)) : AW d mX9_takesSign 11 [some (.inr (.inr 42)), some (.inl c)] [.inl s0] σ Q := AW.blk kX9_takesSign_11 cX9_takesSign_11 (⟨⟨((h).1).1, ((h).1).2⟩, ⟨fun c27 => AW.blk kX9_takesSign_17 cX9_takesSign_17 (⟨(by decide), (((h).2).1 c27) _ rfl⟩), fun c27 => ⟨(by decide), ((h).2).2 c27⟩⟩⟩)
def kX9_asksSign_24 : List BI := [bi (.return_) 1 [] 0]
theorem cX9_asksSign_24 : chk mX9_asksSign 24 kX9_asksSign_24 = true := by decide +kernel
def kX9_asksSign_0 : List BI := [bi (.aload_n 0) 1 [] 0, bi (.getfield 190) 3 [9, 5] 0, bi (.ifCond .ne (20)) 3 [24] 0, bi (.aload_n 0) 1 [] 0, bi (.iload_n 1) 1 [] 0, bi (.invokevirtual 224) 3 [mX9_takesSign, 2, 2, 9] 0]
theorem cX9_asksSign_0 : chk mX9_asksSign 0 kX9_asksSign_0 = true := by decide +kernel
theorem mag_0 {d : Nat} {σ : SG} {Q : Option AV → SG → Prop} {c : Int} (h : (r3 (σ 42 5)) ∧ ((σ 42 5) ≠ 0 → Q none σ) ∧ ((σ 42 5) = 0 → (0 < d) ∧ AW (d - 1) mX9_takesSign 0 [some (.inr (.inr 42)), some (.inl c)] [] σ (fun rr σ' => AW d mX9_asksSign 12 [some (.inr (.inr 42)), some (.inl c)] (rtS rr []) σ' Q))) : AW d mX9_asksSign 0 [some (.inr (.inr 42)), some (.inl c)] [] σ Q := AW.blk kX9_asksSign_0 cX9_asksSign_0 (⟨(h).1, ⟨fun c28 => AW.blk kX9_asksSign_24 cX9_asksSign_24 (((h).2).1 c28), fun c28 => ⟨(((h).2).2 c28).1, (((h).2).2 c28).2⟩⟩⟩)
def kX9_asksSign_12 : List BI := [bi (.ifCond .ne (12)) 3 [24] 0, bi (.aload_n 0) 1 [] 0, bi (.iconst 1) 1 [] 0, bi (.aload_n 0) 1 [] 0, bi (.getfield 196) 3 [9, 2] 0, bi (.invokevirtual 220) 3 [mX9_fail, 3, 3, 9] 0, bi (.return_) 1 [] 0]
theorem cX9_asksSign_12 : chk mX9_asksSign 12 kX9_asksSign_12 = true := by decide +kernel
theorem mag_12 {d : Nat} {σ : SG} {Q : Option AV → SG → Prop} {c s0 : Int} (h : (r3 s0) ∧ (s0 ≠ 0 → Q none σ) ∧ (s0 = 0 → (0 < d) ∧ (r3 (σ 42 5)) ∧ ((σ 42 5) = 0 → (∀ S29 : SG, S29 = up σ 42 5 1 → (∀ S30 : SG, S30 = up S29 42 6 (σ 42 2) → Q none S30))) ∧ ((σ 42 5) ≠ 0 → Q none σ))) : AW d mX9_asksSign 12 [some (.inr (.inr 42)), some (.inl c)] [.inl s0] σ Q := AW.blk kX9_asksSign_12 cX9_asksSign_12 (⟨(h).1, ⟨fun c32 => AW.blk kX9_asksSign_24 cX9_asksSign_24 (((h).2).1 c32), fun c32 => ⟨(((h).2).2 c32).1, AW.blk kX9_fail_0 cX9_fail_0 (⟨((((h).2).2 c32).2).1, ⟨fun c31 => AW.blk kX9_fail_8 cX9_fail_8 ((((((((h).2).2 c32).2).2).1 c31) _ rfl) _ rfl), fun c31 => (((((h).2).2 c32).2).2).2 c31⟩⟩)⟩⟩⟩)
def kX9_number_9 : List BI := [bi (.aload_n 0) 1 [] 0, bi (.invokevirtual 202) 3 [mX9_look, 1, 1, 9] 0]
theorem cX9_number_9 : chk mX9_number 9 kX9_number_9 = true := by decide +kernel
def kX9_number_0 : List BI := [bi (.aload_n 0) 1 [] 0, bi (.getfield 190) 3 [9, 5] 0, bi (.ifCond .eq (5)) 3 [9] 0, bi (.iconst 0) 1 [] 0, bi (.ireturn) 1 [] 0]
theorem cX9_number_0 : chk mX9_number 0 kX9_number_0 = true := by decide +kernel
theorem mnu_0 {d : Nat} {σ : SG} {Q : Option AV → SG → Prop} {lo hi : Int} (h : (r3 (σ 42 5)) ∧ ((σ 42 5) = 0 → (0 < d) ∧ AW (d - 1) mX9_look 0 [some (.inr (.inr 42))] [] σ (fun rr σ' => AW d mX9_number 13 [some (.inr (.inr 42)), some (.inl lo), some (.inl hi), none, none] (rtS rr []) σ' Q)) ∧ ((σ 42 5) ≠ 0 → Q (some (.inl 0)) σ)) : AW d mX9_number 0 [some (.inr (.inr 42)), some (.inl lo), some (.inl hi), none, none] [] σ Q := AW.blk kX9_number_0 cX9_number_0 (⟨(h).1, ⟨fun c33 => AW.blk kX9_number_9 cX9_number_9 (⟨(((h).2).1 c33).1, (((h).2).1 c33).2⟩), fun c33 => ((h).2).2 c33⟩⟩)
def kX9_number_30 : List BI := [bi (.aload_n 0) 1 [] 0, bi (.iconst 1) 1 [] 0, bi (.aload_n 0) 1 [] 0, bi (.getfield 196) 3 [9, 2] 0, bi (.invokevirtual 220) 3 [mX9_fail, 3, 3, 9] 0, bi (.iconst 0) 1 [] 0, bi (.ireturn) 1 [] 0]
theorem cX9_number_30 : chk mX9_number 30 kX9_number_30 = true := by decide +kernel
def kX9_number_41 : List BI := [bi (.aload_n 0) 1 [] 0, bi (.getfield 196) 3 [9, 2] 0, bi (.istore_n 3) 1 [] 0, bi (.iconst 0) 1 [] 0, bi (.istore 4) 2 [] 0]
theorem cX9_number_41 : chk mX9_number 41 kX9_number_41 = true := by decide +kernel
def kX9_number_13 : List BI := [bi (.invokestatic 227) 3 [mX9_isDigit, 1, 1] 0, bi (.ifCond .eq (14)) 3 [30] 0, bi (.aload_n 0) 1 [] 0, bi (.getfield 196) 3 [9, 2] 0, bi (.aload_n 0) 1 [] 0, bi (.getfield 210) 3 [9, 4] 0, bi (.if_icmp .ne (14)) 3 [41] 0, bi (.aload_n 0) 1 [] 0, bi (.iconst 1) 1 [] 0, bi (.aload_n 0) 1 [] 0, bi (.getfield 196) 3 [9, 2] 0, bi (.invokevirtual 220) 3 [mX9_fail, 3, 3, 9] 0, bi (.iconst 0) 1 [] 0, bi (.ireturn) 1 [] 0]
theorem cX9_number_13 : chk mX9_number 13 kX9_number_13 = true := by decide +kernel
theorem mnu_13 {d : Nat} {σ : SG} {Q : Option AV → SG → Prop} {lo hi s0 : Int} (h : (0 < d) ∧ (r3 s0) ∧ (r3 (chD s0)) ∧ ((chD s0) = 0 → (0 < d) ∧ (r3 (σ 42 5)) ∧ ((σ 42 5) = 0 → (∀ S34 : SG, S34 = up σ 42 5 1 → (∀ S35 : SG, S35 = up S34 42 6 (σ 42 2) → Q (some (.inl 0)) S35))) ∧ ((σ 42 5) ≠ 0 → Q (some (.inl 0)) σ)) ∧ ((chD s0) ≠ 0 → (r3 (σ 42 2) ∧ r3 (σ 42 4)) ∧ ((σ 42 2) ≠ (σ 42 4) → AW d mX9_number 49 [some (.inr (.inr 42)), some (.inl lo), some (.inl hi), some (.inl (σ 42 2)), some (.inl 0)] [] σ Q) ∧ ((σ 42 2) = (σ 42 4) → (0 < d) ∧ (r3 (σ 42 5)) ∧ ((σ 42 5) = 0 → (∀ S37 : SG, S37 = up σ 42 5 1 → (∀ S38 : SG, S38 = up S37 42 6 (σ 42 2) → Q (some (.inl 0)) S38))) ∧ ((σ 42 5) ≠ 0 → Q (some (.inl 0)) σ)))) : AW d mX9_number 13 [some (.inr (.inr 42)), some (.inl lo), some (.inl hi), none, none] [.inl s0] σ Q := AW.blk kX9_number_13 cX9_number_13 (⟨(h).1, misDigit_ok ⟨((h).2).1, ⟨(((h).2).2).1, ⟨fun c41 => AW.blk kX9_number_30 cX9_number_30 (⟨(((((h).2).2).2).1 c41).1, AW.blk kX9_fail_0 cX9_fail_0 (⟨((((((h).2).2).2).1 c41).2).1, ⟨fun c36 => AW.blk kX9_fail_8 cX9_fail_8 ((((((((((h).2).2).2).1 c41).2).2).1 c36) _ rfl) _ rfl), fun c36 => (((((((h).2).2).2).1 c41).2).2).2 c36⟩⟩)⟩), fun c41 => ⟨⟨((((((h).2).2).2).2 c41).1).1, ((((((h).2).2).2).2 c41).1).2⟩, ⟨fun c40 => AW.blk kX9_number_41 cX9_number_41 (((((((h).2).2).2).2 c41).2).1 c40), fun c40 => ⟨(((((((h).2).2).2).2 c41).2).2 c40).1, AW.blk kX9_fail_0 cX9_fail_0 (⟨((((((((h).2).2).2).2 c41).2).2 c40).2).1, ⟨fun c39 => AW.blk kX9_fail_8 cX9_fail_8 ((((((((((((h).2).2).2).2 c41).2).2 c40).2).2).1 c39) _ rfl) _ rfl), fun c39 => (((((((((h).2).2).2).2 c41).2).2 c40).2).2).2 c39⟩⟩)⟩⟩⟩⟩⟩⟩⟩)
def kX9_number_161 : List BI := [bi (.iload 4) 2 [] 0, bi (.ireturn) 1 [] 0]
theorem cX9_number_161 : chk mX9_number 161 kX9_number_161 = true := by decide +kernel
def kX9_number_129 : List BI := [bi (.aload_n 0) 1 [] 0, bi (.aload_n 0) 1 [] 0, bi (.getfield 196) 3 [9, 2] 0, bi (.putfield 210) 3 [9, 4] 0, bi (.aload_n 0) 1 [] 0, bi (.iload_n 3) 1 [] 0, bi (.putfield 230) 3 [9, 10] 0, bi (.iload 4) 2 [] 0, bi (.i2l) 1 [] 0, bi (.iload_n 1) 1 [] 0, bi (.i2l) 1 [] 0, bi (.iload_n 2) 1 [] 0, bi (.i2l) 1 [] 0, bi (.invokestatic 233) 3 [mX9_isIn, 3, 6] 0, bi (.ifCond .ne (9)) 3 [161] 0, bi (.aload_n 0) 1 [] 0, bi (.iconst 2) 1 [] 0, bi (.iload_n 3) 1 [] 0, bi (.invokevirtual 220) 3 [mX9_fail, 3, 3, 9] 0, bi (.iload 4) 2 [] 0, bi (.ireturn) 1 [] 0]
theorem cX9_number_129 : chk mX9_number 129 kX9_number_129 = true := by decide +kernel
def kX9_number_96 : List BI := [bi (.bipush (10)) 2 [] 0, bi (.iload 4) 2 [] 0, bi (.imul) 1 [] 0, bi (.aload_n 0) 1 [] 0, bi (.getfield 7) 3 [9, 0] 0, bi (.aload_n 0) 1 [] 0, bi (.getfield 196) 3 [9, 2] 0, bi (.iaload) 1 [] 0, bi (.iadd) 1 [] 0, bi (.bipush (48)) 2 [] 0, bi (.isub) 1 [] 0, bi (.istore 4) 2 [] 0, bi (.aload_n 0) 1 [] 0, bi (.dup) 1 [] 0, bi (.getfield 196) 3 [9, 2] 0, bi (.iconst 1) 1 [] 0, bi (.iadd) 1 [] 0, bi (.putfield 196) 3 [9, 2] 0, bi (.goto (-77)) 3 [49] 0]
theorem cX9_number_96 : chk mX9_number 96 kX9_number_96 = true := by decide +kernel
def kX9_number_49 : List BI := [bi (.aload_n 0) 1 [] 0, bi (.getfield 196) 3 [9, 2] 0, bi (.aload_n 0) 1 [] 0, bi (.getfield 199) 3 [9, 3] 0, bi (.if_icmp .ge (72)) 3 [129] 0, bi (.aload_n 0) 1 [] 0, bi (.getfield 7) 3 [9, 0] 0, bi (.aload_n 0) 1 [] 0, bi (.getfield 196) 3 [9, 2] 0, bi (.iaload) 1 [] 0, bi (.invokestatic 227) 3 [mX9_isDigit, 1, 1] 0, bi (.ifCond .eq (57)) 3 [129] 0, bi (.aload_n 0) 1 [] 0, bi (.getfield 196) 3 [9, 2] 0, bi (.iload_n 3) 1 [] 0, bi (.isub) 1 [] 0, bi (.iconst 4) 1 [] 0, bi (.if_icmp .ne (14)) 3 [96] 0, bi (.aload_n 0) 1 [] 0, bi (.iconst 1) 1 [] 0, bi (.aload_n 0) 1 [] 0, bi (.getfield 196) 3 [9, 2] 0, bi (.invokevirtual 220) 3 [mX9_fail, 3, 3, 9] 0, bi (.iconst 0) 1 [] 0, bi (.ireturn) 1 [] 0]
theorem cX9_number_49 : chk mX9_number 49 kX9_number_49 = true := by decide +kernel
theorem mnu_49 {d : Nat} {σ : SG} {Q : Option AV → SG → Prop} {lo hi l3 l4 : Int} (h : (r3 (σ 42 2) ∧ r3 (σ 42 3)) ∧ ((σ 42 3) ≤ (σ 42 2) → (∀ S42 : SG, S42 = up σ 42 4 (σ 42 2) → (∀ S43 : SG, S43 = up S42 42 10 l3 → (r3 l4) ∧ (r3 lo) ∧ (r3 hi) ∧ (0 < d) ∧ (r6 l4 ∧ r6 lo) ∧ (l4 < lo → (0 < d) ∧ (r3 (S43 42 5)) ∧ ((S43 42 5) = 0 → (∀ S44 : SG, S44 = up S43 42 5 2 → (∀ S45 : SG, S45 = up S44 42 6 l3 → Q (some (.inl l4)) S45))) ∧ ((S43 42 5) ≠ 0 → Q (some (.inl l4)) S43)) ∧ (lo ≤ l4 → (r6 l4 ∧ r6 hi) ∧ (hi < l4 → (0 < d) ∧ (r3 (S43 42 5)) ∧ ((S43 42 5) = 0 → (∀ S47 : SG, S47 = up S43 42 5 2 → (∀ S48 : SG, S48 = up S47 42 6 l3 → Q (some (.inl l4)) S48))) ∧ ((S43 42 5) ≠ 0 → Q (some (.inl l4)) S43)) ∧ (l4 ≤ hi → Q (some (.inl l4)) S43))))) ∧ ((σ 42 2) < (σ 42 3) → (0 ≤ (σ 42 2) ∧ (σ 42 2) < 1600) ∧ (0 < d) ∧ (r3 (σ 43 (σ 42 2))) ∧ (r3 (chD (σ 43 (σ 42 2)))) ∧ ((chD (σ 43 (σ 42 2))) = 0 → (∀ S52 : SG, S52 = up σ 42 4 (σ 42 2) → (∀ S53 : SG, S53 = up S52 42 10 l3 → (r3 l4) ∧ (r3 lo) ∧ (r3 hi) ∧ (0 < d) ∧ (r6 l4 ∧ r6 lo) ∧ (l4 < lo → (0 < d) ∧ (r3 (S53 42 5)) ∧ ((S53 42 5) = 0 → (∀ S54 : SG, S54 = up S53 42 5 2 → (∀ S55 : SG, S55 = up S54 42 6 l3 → Q (some (.inl l4)) S55))) ∧ ((S53 42 5) ≠ 0 → Q (some (.inl l4)) S53)) ∧ (lo ≤ l4 → (r6 l4 ∧ r6 hi) ∧ (hi < l4 → (0 < d) ∧ (r3 (S53 42 5)) ∧ ((S53 42 5) = 0 → (∀ S57 : SG, S57 = up S53 42 5 2 → (∀ S58 : SG, S58 = up S57 42 6 l3 → Q (some (.inl l4)) S58))) ∧ ((S53 42 5) ≠ 0 → Q (some (.inl l4)) S53)) ∧ (l4 ≤ hi → Q (some (.inl l4)) S53))))) ∧ ((chD (σ 43 (σ 42 2))) ≠ 0 → (r3 ((σ 42 2) - l3)) ∧ (((σ 42 2) - l3) ≠ 4 → (0 ≤ (σ 42 2) ∧ (σ 42 2) < 1600) ∧ (∀ S62 : SG, S62 = up σ 42 2 ((σ 42 2) + 1) → AW d mX9_number 49 [some (.inr (.inr 42)), some (.inl lo), some (.inl hi), some (.inl l3), some (.inl (((10 * l4) + (σ 43 (σ 42 2))) - 48))] [] S62 Q)) ∧ (((σ 42 2) - l3) = 4 → (0 < d) ∧ (r3 (σ 42 5)) ∧ ((σ 42 5) = 0 → (∀ S63 : SG, S63 = up σ 42 5 1 → (∀ S64 : SG, S64 = up S63 42 6 (σ 42 2) → Q (some (.inl 0)) S64))) ∧ ((σ 42 5) ≠ 0 → Q (some (.inl 0)) σ))))) : AW d mX9_number 49 [some (.inr (.inr 42)), some (.inl lo), some (.inl hi), some (.inl l3), some (.inl l4)] [] σ Q := AW.blk kX9_number_49 cX9_number_49 (⟨⟨((h).1).1, ((h).1).2⟩, ⟨fun c68 => AW.blk kX9_number_129 cX9_number_129 (⟨(((((h).2).1 c68) _ rfl) _ rfl).1, ⟨((((((h).2).1 c68) _ rfl) _ rfl).2).1, ⟨(((((((h).2).1 c68) _ rfl) _ rfl).2).2).1, ⟨((((((((h).2).1 c68) _ rfl) _ rfl).2).2).2).1, AW.blk kX9_isIn_0 cX9_isIn_0 (⟨⟨((((((((((h).2).1 c68) _ rfl) _ rfl).2).2).2).2).1).1, ((((((((((h).2).1 c68) _ rfl) _ rfl).2).2).2).2).1).2⟩, ⟨fun c51 => AW.blk kX9_isIn_17 cX9_isIn_17 (⟨(by decide), ⟨(by decide), ⟨fun c => absurd c (by decide), fun _ => ⟨(((((((((((h).2).1 c68) _ rfl) _ rfl).2).2).2).2).2).1 c51).1, AW.blk kX9_fail_0 cX9_fail_0 (⟨((((((((((((h).2).1 c68) _ rfl) _ rfl).2).2).2).2).2).1 c51).2).1, ⟨fun c46 => AW.blk kX9_fail_8 cX9_fail_8 ((((((((((((((((h).2).1 c68) _ rfl) _ rfl).2).2).2).2).2).1 c51).2).2).1 c46) _ rfl) _ rfl), fun c46 => (((((((((((((h).2).1 c68) _ rfl) _ rfl).2).2).2).2).2).1 c51).2).2).2 c46⟩⟩)⟩⟩⟩⟩), fun c51 => ⟨⟨((((((((((((h).2).1 c68) _ rfl) _ rfl).2).2).2).2).2).2 c51).1).1, ((((((((((((h).2).1 c68) _ rfl) _ rfl).2).2).2).2).2).2 c51).1).2⟩, ⟨fun c50 => AW.blk kX9_isIn_17 cX9_isIn_17 (⟨(by decide), ⟨(by decide), ⟨fun c => absurd c (by decide), fun _ => ⟨(((((((((((((h).2).1 c68) _ rfl) _ rfl).2).2).2).2).2).2 c51).2).1 c50).1, AW.blk kX9_fail_0 cX9_fail_0 (⟨((((((((((((((h).2).1 c68) _ rfl) _ rfl).2).2).2).2).2).2 c51).2).1 c50).2).1, ⟨fun c49 => AW.blk kX9_fail_8 cX9_fail_8 ((((((((((((((((((h).2).1 c68) _ rfl) _ rfl).2).2).2).2).2).2 c51).2).1 c50).2).2).1 c49) _ rfl) _ rfl), fun c49 => (((((((((((((((h).2).1 c68) _ rfl) _ rfl).2).2).2).2).2).2 c51).2).1 c50).2).2).2 c49⟩⟩)⟩⟩⟩⟩), fun c50 => AW.blk kX9_isIn_18 cX9_isIn_18 (⟨(by decide), ⟨(by decide), ⟨fun _ => AW.blk kX9_number_161 cX9_number_161 (((((((((((((h).2).1 c68) _ rfl) _ rfl).2).2).2).2).2).2 c51).2).2 c50), fun c => absurd c (by decide)⟩⟩⟩)⟩⟩⟩⟩)⟩⟩⟩⟩), fun c68 => ⟨⟨((((h).2).2 c68).1).1, ((((h).2).2 c68).1).2⟩, ⟨((((h).2).2 c68).2).1, misDigit_ok ⟨(((((h).2).2 c68).2).2).1, ⟨((((((h).2).2 c68).2).2).2).1, ⟨fun c67 => AW.blk kX9_number_129 cX9_number_129 (⟨((((((((((h).2).2 c68).2).2).2).2).1 c67) _ rfl) _ rfl).1, ⟨(((((((((((h).2).2 c68).2).2).2).2).1 c67) _ rfl) _ rfl).2).1, ⟨((((((((((((h).2).2 c68).2).2).2).2).1 c67) _ rfl) _ rfl).2).2).1, ⟨(((((((((((((h).2).2 c68).2).2).2).2).1 c67) _ rfl) _ rfl).2).2).2).1, AW.blk kX9_isIn_0 cX9_isIn_0 (⟨⟨(((((((((((((((h).2).2 c68).2).2).2).2).1 c67) _ rfl) _ rfl).2).2).2).2).1).1, (((((((((((((((h).2).2 c68).2).2).2).2).1 c67) _ rfl) _ rfl).2).2).2).2).1).2⟩, ⟨fun c61 => AW.blk kX9_isIn_17 cX9_isIn_17 (⟨(by decide), ⟨(by decide), ⟨fun c => absurd c (by decide), fun _ => ⟨((((((((((((((((h).2).2 c68).2).2).2).2).1 c67) _ rfl) _ rfl).2).2).2).2).2).1 c61).1, AW.blk kX9_fail_0 cX9_fail_0 (⟨(((((((((((((((((h).2).2 c68).2).2).2).2).1 c67) _ rfl) _ rfl).2).2).2).2).2).1 c61).2).1, ⟨fun c56 => AW.blk kX9_fail_8 cX9_fail_8 (((((((((((((((((((((h).2).2 c68).2).2).2).2).1 c67) _ rfl) _ rfl).2).2).2).2).2).1 c61).2).2).1 c56) _ rfl) _ rfl), fun c56 => ((((((((((((((((((h).2).2 c68).2).2).2).2).1 c67) _ rfl) _ rfl).2).2).2).2).2).1 c61).2).2).2 c56⟩⟩)⟩⟩⟩⟩), fun c61 => ⟨⟨(((((((((((((((((h).2).2 c68).2).2).2).2).1 c67) _ rfl) _ rfl).2).2).2).2).2).2 c61).1).1, (((((((((((((((((h).2).2 c68).2).2).2).2).1 c67) _ rfl) _ rfl).2).2).2).2).2).2 c61).1).2⟩, ⟨fun c60 => AW.blk kX9_isIn_17 cX9_isIn_17 (⟨(by decide), ⟨(by decide), ⟨fun c => absurd c (by decide), fun _ => ⟨((((((((((((((((((h).2).2 c68).2).2).2).2).1 c67) _ rfl) _ rfl).2).2).2).2).2).2 c61).2).1 c60).1, AW.blk kX9_fail_0 cX9_fail_0 (⟨(((((((((((((((((((h).2).2 c68).2).2).2).2).1 c67) _ rfl) _ rfl).2).2).2).2).2).2 c61).2).1 c60).2).1, ⟨fun c59 => AW.blk kX9_fail_8 cX9_fail_8 (((((((((((((((((((((((h).2).2 c68).2).2).2).2).1 c67) _ rfl) _ rfl).2).2).2).2).2).2 c61).2).1 c60).2).2).1 c59) _ rfl) _ rfl), fun c59 => ((((((((((((((((((((h).2).2 c68).2).2).2).2).1 c67) _ rfl) _ rfl).2).2).2).2).2).2 c61).2).1 c60).2).2).2 c59⟩⟩)⟩⟩⟩⟩), fun c60 => AW.blk kX9_isIn_18 cX9_isIn_18 (⟨(by decide), ⟨(by decide), ⟨fun _ => AW.blk kX9_number_161 cX9_number_161 ((((((((((((((((((h).2).2 c68).2).2).2).2).1 c67) _ rfl) _ rfl).2).2).2).2).2).2 c61).2).2 c60), fun c => absurd c (by decide)⟩⟩⟩)⟩⟩⟩⟩)⟩⟩⟩⟩), fun c67 => ⟨⟨((((((((h).2).2 c68).2).2).2).2).2 c67).1, (by decide)⟩, ⟨fun c66 => AW.blk kX9_number_96 cX9_number_96 (⟨⟨(((((((((((h).2).2 c68).2).2).2).2).2 c67).2).1 c66).1).1, (((((((((((h).2).2 c68).2).2).2).2).2 c67).2).1 c66).1).2⟩, (((((((((((h).2).2 c68).2).2).2).2).2 c67).2).1 c66).2) _ rfl⟩), fun c66 => ⟨((((((((((h).2).2 c68).2).2).2).2).2 c67).2).2 c66).1, AW.blk kX9_fail_0 cX9_fail_0 (⟨(((((((((((h).2).2 c68).2).2).2).2).2 c67).2).2 c66).2).1, ⟨fun c65 => AW.blk kX9_fail_8 cX9_fail_8 (((((((((((((((h).2).2 c68).2).2).2).2).2 c67).2).2 c66).2).2).1 c65) _ rfl) _ rfl), fun c65 => ((((((((((((h).2).2 c68).2).2).2).2).2 c67).2).2 c66).2).2).2 c65⟩⟩)⟩⟩⟩⟩⟩⟩⟩⟩⟩⟩)
def kX9_isOwnHere_0 : List BI := [bi (.aload_n 0) 1 [] 0, bi (.aload_n 0) 1 [] 0, bi (.getfield 20) 3 [9, 11] 0, bi (.invokevirtual 213) 3 [mX9_isHere, 2, 4, 9] 0]
theorem cX9_isOwnHere_0 : chk mX9_isOwnHere 0 kX9_isOwnHere_0 = true := by decide +kernel
theorem moh_0 {d : Nat} {σ : SG} {Q : Option AV → SG → Prop} (h : (0 < d) ∧ AW (d - 1) mX9_isHere 0 [some (.inr (.inr 42)), some (.inr (.inr 45)), none, none] [] σ (fun rr σ' => AW d mX9_isOwnHere 8 [some (.inr (.inr 42)), none] (rtS rr []) σ' Q)) : AW d mX9_isOwnHere 0 [some (.inr (.inr 42)), none] [] σ Q := AW.blk kX9_isOwnHere_0 cX9_isOwnHere_0 (⟨(h).1, (h).2⟩)
def kX9_isOwnHere_201 : List BI := [bi (.istore_n 1) 1 [] 0, bi (.iload_n 1) 1 [] 0, bi (.ireturn) 1 [1] 0]
theorem cX9_isOwnHere_201 : chk mX9_isOwnHere 201 kX9_isOwnHere_201 = true := by decide +kernel
def kX9_isOwnHere_196 : List BI := [bi (.iconst 1) 1 [] 0, bi (.goto (4)) 3 [201] 0]
theorem cX9_isOwnHere_196 : chk mX9_isOwnHere 196 kX9_isOwnHere_196 = true := by decide +kernel
def kX9_isOwnHere_147 : List BI := [bi (.istore_n 1) 1 [] 0, bi (.iload_n 1) 1 [] 0, bi (.ifCond .ne (47)) 3 [196] 0, bi (.aload_n 0) 1 [] 0, bi (.aload_n 0) 1 [] 0, bi (.getfield 57) 3 [9, 23] 0, bi (.invokevirtual 213) 3 [mX9_isHere, 2, 4, 9] 0]
theorem cX9_isOwnHere_147 : chk mX9_isOwnHere 147 kX9_isOwnHere_147 = true := by decide +kernel
def kX9_isOwnHere_142 : List BI := [bi (.iconst 1) 1 [] 0, bi (.goto (4)) 3 [147] 0]
theorem cX9_isOwnHere_142 : chk mX9_isOwnHere 142 kX9_isOwnHere_142 = true := by decide +kernel
def kX9_isOwnHere_71 : List BI := [bi (.istore_n 1) 1 [] 0, bi (.iload_n 1) 1 [] 0, bi (.ifCond .ne (69)) 3 [142] 0, bi (.aload_n 0) 1 [] 0, bi (.aload_n 0) 1 [] 0, bi (.getfield 39) 3 [9, 17] 0, bi (.invokevirtual 213) 3 [mX9_isHere, 2, 4, 9] 0]
theorem cX9_isOwnHere_71 : chk mX9_isOwnHere 71 kX9_isOwnHere_71 = true := by decide +kernel
def kX9_isOwnHere_66 : List BI := [bi (.iconst 1) 1 [] 0, bi (.goto (4)) 3 [71] 0]
theorem cX9_isOwnHere_66 : chk mX9_isOwnHere 66 kX9_isOwnHere_66 = true := by decide +kernel
def kX9_isOwnHere_8 : List BI := [bi (.ifCond .ne (58)) 3 [66] 0, bi (.aload_n 0) 1 [] 0, bi (.aload_n 0) 1 [] 0, bi (.getfield 24) 3 [9, 12] 0, bi (.invokevirtual 213) 3 [mX9_isHere, 2, 4, 9] 0]
theorem cX9_isOwnHere_8 : chk mX9_isOwnHere 8 kX9_isOwnHere_8 = true := by decide +kernel
theorem moh_8 {d : Nat} {σ : SG} {Q : Option AV → SG → Prop} {s0 : Int} (h : (r3 s0) ∧ (s0 ≠ 0 → Q (some (.inl 1)) σ) ∧ (s0 = 0 → (0 < d) ∧ AW (d - 1) mX9_isHere 0 [some (.inr (.inr 42)), some (.inr (.inr 46)), none, none] [] σ (fun rr σ' => AW d mX9_isOwnHere 19 [some (.inr (.inr 42)), none] (rtS rr []) σ' Q))) : AW d mX9_isOwnHere 8 [some (.inr (.inr 42)), none] [.inl s0] σ Q := AW.blk kX9_isOwnHere_8 cX9_isOwnHere_8 (⟨(h).1, ⟨fun c69 => AW.blk kX9_isOwnHere_66 cX9_isOwnHere_66 (AW.blk kX9_isOwnHere_71 cX9_isOwnHere_71 (⟨(by decide), ⟨fun _ => AW.blk kX9_isOwnHere_142 cX9_isOwnHere_142 (AW.blk kX9_isOwnHere_147 cX9_isOwnHere_147 (⟨(by decide), ⟨fun _ => AW.blk kX9_isOwnHere_196 cX9_isOwnHere_196 (AW.blk kX9_isOwnHere_201 cX9_isOwnHere_201 (⟨(by decide), ((h).2).1 c69⟩)), fun c => absurd c (by decide)⟩⟩)), fun c => absurd c (by decide)⟩⟩)), fun c69 => ⟨(((h).2).2 c69).1, (((h).2).2 c69).2⟩⟩⟩)
def kX9_isOwnHere_19 : List BI := [bi (.ifCond .ne (47)) 3 [66] 0, bi (.aload_n 0) 1 [] 0, bi (.aload_n 0) 1 [] 0, bi (.getfield 27) 3 [9, 13] 0, bi (.invokevirtual 213) 3 [mX9_isHere, 2, 4, 9] 0]
theorem cX9_isOwnHere_19 : chk mX9_isOwnHere 19 kX9_isOwnHere_19 = true := by decide +kernel
theorem moh_19 {d : Nat} {σ : SG} {Q : Option AV → SG → Prop} {s0 : Int} (h : (r3 s0) ∧ (s0 ≠ 0 → Q (some (.inl 1)) σ) ∧ (s0 = 0 → (0 < d) ∧ AW (d - 1) mX9_isHere 0 [some (.inr (.inr 42)), some (.inr (.inr 47)), none, none] [] σ (fun rr σ' => AW d mX9_isOwnHere 30 [some (.inr (.inr 42)), none] (rtS rr []) σ' Q))) : AW d mX9_isOwnHere 19 [some (.inr (.inr 42)), none] [.inl s0] σ Q := AW.blk kX9_isOwnHere_19 cX9_isOwnHere_19 (⟨(h).1, ⟨fun c70 => AW.blk kX9_isOwnHere_66 cX9_isOwnHere_66 (AW.blk kX9_isOwnHere_71 cX9_isOwnHere_71 (⟨(by decide), ⟨fun _ => AW.blk kX9_isOwnHere_142 cX9_isOwnHere_142 (AW.blk kX9_isOwnHere_147 cX9_isOwnHere_147 (⟨(by decide), ⟨fun _ => AW.blk kX9_isOwnHere_196 cX9_isOwnHere_196 (AW.blk kX9_isOwnHere_201 cX9_isOwnHere_201 (⟨(by decide), ((h).2).1 c70⟩)), fun c => absurd c (by decide)⟩⟩)), fun c => absurd c (by decide)⟩⟩)), fun c70 => ⟨(((h).2).2 c70).1, (((h).2).2 c70).2⟩⟩⟩)
def kX9_isOwnHere_30 : List BI := [bi (.ifCond .ne (36)) 3 [66] 0, bi (.aload_n 0) 1 [] 0, bi (.aload_n 0) 1 [] 0, bi (.getfield 30) 3 [9, 14] 0, bi (.invokevirtual 213) 3 [mX9_isHere, 2, 4, 9] 0]
theorem cX9_isOwnHere_30 : chk mX9_isOwnHere 30 kX9_isOwnHere_30 = true := by decide +kernel
theorem moh_30 {d : Nat} {σ : SG} {Q : Option AV → SG → Prop} {s0 : Int} (h : (r3 s0) ∧ (s0 ≠ 0 → Q (some (.inl 1)) σ) ∧ (s0 = 0 → (0 < d) ∧ AW (d - 1) mX9_isHere 0 [some (.inr (.inr 42)), some (.inr (.inr 48)), none, none] [] σ (fun rr σ' => AW d mX9_isOwnHere 41 [some (.inr (.inr 42)), none] (rtS rr []) σ' Q))) : AW d mX9_isOwnHere 30 [some (.inr (.inr 42)), none] [.inl s0] σ Q := AW.blk kX9_isOwnHere_30 cX9_isOwnHere_30 (⟨(h).1, ⟨fun c71 => AW.blk kX9_isOwnHere_66 cX9_isOwnHere_66 (AW.blk kX9_isOwnHere_71 cX9_isOwnHere_71 (⟨(by decide), ⟨fun _ => AW.blk kX9_isOwnHere_142 cX9_isOwnHere_142 (AW.blk kX9_isOwnHere_147 cX9_isOwnHere_147 (⟨(by decide), ⟨fun _ => AW.blk kX9_isOwnHere_196 cX9_isOwnHere_196 (AW.blk kX9_isOwnHere_201 cX9_isOwnHere_201 (⟨(by decide), ((h).2).1 c71⟩)), fun c => absurd c (by decide)⟩⟩)), fun c => absurd c (by decide)⟩⟩)), fun c71 => ⟨(((h).2).2 c71).1, (((h).2).2 c71).2⟩⟩⟩)
def kX9_isOwnHere_41 : List BI := [bi (.ifCond .ne (25)) 3 [66] 0, bi (.aload_n 0) 1 [] 0, bi (.aload_n 0) 1 [] 0, bi (.getfield 33) 3 [9, 15] 0, bi (.invokevirtual 213) 3 [mX9_isHere, 2, 4, 9] 0]
theorem cX9_isOwnHere_41 : chk mX9_isOwnHere 41 kX9_isOwnHere_41 = true := by decide +kernel
theorem moh_41 {d : Nat} {σ : SG} {Q : Option AV → SG → Prop} {s0 : Int} (h : (r3 s0) ∧ (s0 ≠ 0 → Q (some (.inl 1)) σ) ∧ (s0 = 0 → (0 < d) ∧ AW (d - 1) mX9_isHere 0 [some (.inr (.inr 42)), some (.inr (.inr 49)), none, none] [] σ (fun rr σ' => AW d mX9_isOwnHere 52 [some (.inr (.inr 42)), none] (rtS rr []) σ' Q))) : AW d mX9_isOwnHere 41 [some (.inr (.inr 42)), none] [.inl s0] σ Q := AW.blk kX9_isOwnHere_41 cX9_isOwnHere_41 (⟨(h).1, ⟨fun c72 => AW.blk kX9_isOwnHere_66 cX9_isOwnHere_66 (AW.blk kX9_isOwnHere_71 cX9_isOwnHere_71 (⟨(by decide), ⟨fun _ => AW.blk kX9_isOwnHere_142 cX9_isOwnHere_142 (AW.blk kX9_isOwnHere_147 cX9_isOwnHere_147 (⟨(by decide), ⟨fun _ => AW.blk kX9_isOwnHere_196 cX9_isOwnHere_196 (AW.blk kX9_isOwnHere_201 cX9_isOwnHere_201 (⟨(by decide), ((h).2).1 c72⟩)), fun c => absurd c (by decide)⟩⟩)), fun c => absurd c (by decide)⟩⟩)), fun c72 => ⟨(((h).2).2 c72).1, (((h).2).2 c72).2⟩⟩⟩)
def kX9_isOwnHere_52 : List BI := [bi (.ifCond .ne (14)) 3 [66] 0, bi (.aload_n 0) 1 [] 0, bi (.aload_n 0) 1 [] 0, bi (.getfield 36) 3 [9, 16] 0, bi (.invokevirtual 213) 3 [mX9_isHere, 2, 4, 9] 0]
theorem cX9_isOwnHere_52 : chk mX9_isOwnHere 52 kX9_isOwnHere_52 = true := by decide +kernel
theorem moh_52 {d : Nat} {σ : SG} {Q : Option AV → SG → Prop} {s0 : Int} (h : (r3 s0) ∧ (s0 ≠ 0 → Q (some (.inl 1)) σ) ∧ (s0 = 0 → (0 < d) ∧ AW (d - 1) mX9_isHere 0 [some (.inr (.inr 42)), some (.inr (.inr 50)), none, none] [] σ (fun rr σ' => AW d mX9_isOwnHere 63 [some (.inr (.inr 42)), none] (rtS rr []) σ' Q))) : AW d mX9_isOwnHere 52 [some (.inr (.inr 42)), none] [.inl s0] σ Q := AW.blk kX9_isOwnHere_52 cX9_isOwnHere_52 (⟨(h).1, ⟨fun c73 => AW.blk kX9_isOwnHere_66 cX9_isOwnHere_66 (AW.blk kX9_isOwnHere_71 cX9_isOwnHere_71 (⟨(by decide), ⟨fun _ => AW.blk kX9_isOwnHere_142 cX9_isOwnHere_142 (AW.blk kX9_isOwnHere_147 cX9_isOwnHere_147 (⟨(by decide), ⟨fun _ => AW.blk kX9_isOwnHere_196 cX9_isOwnHere_196 (AW.blk kX9_isOwnHere_201 cX9_isOwnHere_201 (⟨(by decide), ((h).2).1 c73⟩)), fun c => absurd c (by decide)⟩⟩)), fun c => absurd c (by decide)⟩⟩)), fun c73 => ⟨(((h).2).2 c73).1, (((h).2).2 c73).2⟩⟩⟩)
def kX9_isOwnHere_70 : List BI := [bi (.iconst 0) 1 [] 0, bi (.istore_n 1) 1 [] 0, bi (.iload_n 1) 1 [] 0, bi (.ifCond .ne (69)) 3 [142] 0, bi (.aload_n 0) 1 [] 0, bi (.aload_n 0) 1 [] 0, bi (.getfield 39) 3 [9, 17] 0, bi (.invokevirtual 213) 3 [mX9_isHere, 2, 4, 9] 0]
theorem cX9_isOwnHere_70 : chk mX9_isOwnHere 70 kX9_isOwnHere_70 = true := by decide +kernel
def kX9_isOwnHere_63 : List BI := [bi (.ifCond .eq (7)) 3 [70] 0, bi (.iconst 1) 1 [] 0, bi (.goto (4)) 3 [71] 0]
theorem cX9_isOwnHere_63 : chk mX9_isOwnHere 63 kX9_isOwnHere_63 = true := by decide +kernel
theorem moh_63 {d : Nat} {σ : SG} {Q : Option AV → SG → Prop} {s0 : Int} (h : (r3 s0) ∧ (s0 = 0 → (0 < d) ∧ AW (d - 1) mX9_isHere 0 [some (.inr (.inr 42)), some (.inr (.inr 51)), none, none] [] σ (fun rr σ' => AW d mX9_isOwnHere 84 [some (.inr (.inr 42)), some (.inl 0)] (rtS rr []) σ' Q)) ∧ (s0 ≠ 0 → Q (some (.inl 1)) σ)) : AW d mX9_isOwnHere 63 [some (.inr (.inr 42)), none] [.inl s0] σ Q := AW.blk kX9_isOwnHere_63 cX9_isOwnHere_63 (⟨(h).1, ⟨fun c74 => AW.blk kX9_isOwnHere_70 cX9_isOwnHere_70 (⟨(by decide), ⟨fun c => absurd c (by decide), fun _ => ⟨(((h).2).1 c74).1, (((h).2).1 c74).2⟩⟩⟩), fun c74 => AW.blk kX9_isOwnHere_71 cX9_isOwnHere_71 (⟨(by decide), ⟨fun _ => AW.blk kX9_isOwnHere_142 cX9_isOwnHere_142 (AW.blk kX9_isOwnHere_147 cX9_isOwnHere_147 (⟨(by decide), ⟨fun _ => AW.blk kX9_isOwnHere_196 cX9_isOwnHere_196 (AW.blk kX9_isOwnHere_201 cX9_isOwnHere_201 (⟨(by decide), ((h).2).2 c74⟩)), fun c => absurd c (by decide)⟩⟩)), fun c => absurd c (by decide)⟩⟩)⟩⟩)
def kX9_isOwnHere_84 : List BI := [bi (.ifCond .ne (58)) 3 [142] 0, bi (.aload_n 0) 1 [] 0, bi (.aload_n 0) 1 [] 0, bi (.getfield 42) 3 [9, 18] 0, bi (.invokevirtual 213) 3 [mX9_isHere, 2, 4, 9] 0]
theorem cX9_isOwnHere_84 : chk mX9_isOwnHere 84 kX9_isOwnHere_84 = true := by decide +kernel
theorem moh_84 {d : Nat} {σ : SG} {Q : Option AV → SG → Prop} {l1 s0 : Int} (h : (r3 s0) ∧ (s0 ≠ 0 → Q (some (.inl 1)) σ) ∧ (s0 = 0 → (0 < d) ∧ AW (d - 1) mX9_isHere 0 [some (.inr (.inr 42)), some (.inr (.inr 52)), none, none] [] σ (fun rr σ' => AW d mX9_isOwnHere 95 [some (.inr (.inr 42)), some (.inl l1)] (rtS rr []) σ' Q))) : AW d mX9_isOwnHere 84 [some (.inr (.inr 42)), some (.inl l1)] [.inl s0] σ Q := AW.blk kX9_isOwnHere_84 cX9_isOwnHere_84 (⟨(h).1, ⟨fun c75 => AW.blk kX9_isOwnHere_142 cX9_isOwnHere_142 (AW.blk kX9_isOwnHere_147 cX9_isOwnHere_147 (⟨(by decide), ⟨fun _ => AW.blk kX9_isOwnHere_196 cX9_isOwnHere_196 (AW.blk kX9_isOwnHere_201 cX9_isOwnHere_201 (⟨(by decide), ((h).2).1 c75⟩)), fun c => absurd c (by decide)⟩⟩)), fun c75 => ⟨(((h).2).2 c75).1, (((h).2).2 c75).2⟩⟩⟩)
def kX9_isOwnHere_95 : List BI := [bi (.ifCond .ne (47)) 3 [142] 0, bi (.aload_n 0) 1 [] 0, bi (.aload_n 0) 1 [] 0, bi (.getfield 45) 3 [9, 19] 0, bi (.invokevirtual 213) 3 [mX9_isHere, 2, 4, 9] 0]
theorem cX9_isOwnHere_95 : chk mX9_isOwnHere 95 kX9_isOwnHere_95 = true := by decide +kernel
theorem moh_95 {d : Nat} {σ : SG} {Q : Option AV → SG → Prop} {l1 s0 : Int} (h : (r3 s0) ∧ (s0 ≠ 0 → Q (some (.inl 1)) σ) ∧ (s0 = 0 → (0 < d) ∧ AW (d - 1) mX9_isHere 0 [some (.inr (.inr 42)), some (.inr (.inr 53)), none, none] [] σ (fun rr σ' => AW d mX9_isOwnHere 106 [some (.inr (.inr 42)), some (.inl l1)] (rtS rr []) σ' Q))) : AW d mX9_isOwnHere 95 [some (.inr (.inr 42)), some (.inl l1)] [.inl s0] σ Q := AW.blk kX9_isOwnHere_95 cX9_isOwnHere_95 (⟨(h).1, ⟨fun c76 => AW.blk kX9_isOwnHere_142 cX9_isOwnHere_142 (AW.blk kX9_isOwnHere_147 cX9_isOwnHere_147 (⟨(by decide), ⟨fun _ => AW.blk kX9_isOwnHere_196 cX9_isOwnHere_196 (AW.blk kX9_isOwnHere_201 cX9_isOwnHere_201 (⟨(by decide), ((h).2).1 c76⟩)), fun c => absurd c (by decide)⟩⟩)), fun c76 => ⟨(((h).2).2 c76).1, (((h).2).2 c76).2⟩⟩⟩)
def kX9_isOwnHere_106 : List BI := [bi (.ifCond .ne (36)) 3 [142] 0, bi (.aload_n 0) 1 [] 0, bi (.aload_n 0) 1 [] 0, bi (.getfield 48) 3 [9, 20] 0, bi (.invokevirtual 213) 3 [mX9_isHere, 2, 4, 9] 0]
theorem cX9_isOwnHere_106 : chk mX9_isOwnHere 106 kX9_isOwnHere_106 = true := by decide +kernel
theorem moh_106 {d : Nat} {σ : SG} {Q : Option AV → SG → Prop} {l1 s0 : Int} (h : (r3 s0) ∧ (s0 ≠ 0 → Q (some (.inl 1)) σ) ∧ (s0 = 0 → (0 < d) ∧ AW (d - 1) mX9_isHere 0 [some (.inr (.inr 42)), some (.inr (.inr 54)), none, none] [] σ (fun rr σ' => AW d mX9_isOwnHere 117 [some (.inr (.inr 42)), some (.inl l1)] (rtS rr []) σ' Q))) : AW d mX9_isOwnHere 106 [some (.inr (.inr 42)), some (.inl l1)] [.inl s0] σ Q := AW.blk kX9_isOwnHere_106 cX9_isOwnHere_106 (⟨(h).1, ⟨fun c77 => AW.blk kX9_isOwnHere_142 cX9_isOwnHere_142 (AW.blk kX9_isOwnHere_147 cX9_isOwnHere_147 (⟨(by decide), ⟨fun _ => AW.blk kX9_isOwnHere_196 cX9_isOwnHere_196 (AW.blk kX9_isOwnHere_201 cX9_isOwnHere_201 (⟨(by decide), ((h).2).1 c77⟩)), fun c => absurd c (by decide)⟩⟩)), fun c77 => ⟨(((h).2).2 c77).1, (((h).2).2 c77).2⟩⟩⟩)
def kX9_isOwnHere_117 : List BI := [bi (.ifCond .ne (25)) 3 [142] 0, bi (.aload_n 0) 1 [] 0, bi (.aload_n 0) 1 [] 0, bi (.getfield 51) 3 [9, 21] 0, bi (.invokevirtual 213) 3 [mX9_isHere, 2, 4, 9] 0]
theorem cX9_isOwnHere_117 : chk mX9_isOwnHere 117 kX9_isOwnHere_117 = true := by decide +kernel
theorem moh_117 {d : Nat} {σ : SG} {Q : Option AV → SG → Prop} {l1 s0 : Int} (h : (r3 s0) ∧ (s0 ≠ 0 → Q (some (.inl 1)) σ) ∧ (s0 = 0 → (0 < d) ∧ AW (d - 1) mX9_isHere 0 [some (.inr (.inr 42)), some (.inr (.inr 55)), none, none] [] σ (fun rr σ' => AW d mX9_isOwnHere 128 [some (.inr (.inr 42)), some (.inl l1)] (rtS rr []) σ' Q))) : AW d mX9_isOwnHere 117 [some (.inr (.inr 42)), some (.inl l1)] [.inl s0] σ Q := AW.blk kX9_isOwnHere_117 cX9_isOwnHere_117 (⟨(h).1, ⟨fun c78 => AW.blk kX9_isOwnHere_142 cX9_isOwnHere_142 (AW.blk kX9_isOwnHere_147 cX9_isOwnHere_147 (⟨(by decide), ⟨fun _ => AW.blk kX9_isOwnHere_196 cX9_isOwnHere_196 (AW.blk kX9_isOwnHere_201 cX9_isOwnHere_201 (⟨(by decide), ((h).2).1 c78⟩)), fun c => absurd c (by decide)⟩⟩)), fun c78 => ⟨(((h).2).2 c78).1, (((h).2).2 c78).2⟩⟩⟩)
def kX9_isOwnHere_128 : List BI := [bi (.ifCond .ne (14)) 3 [142] 0, bi (.aload_n 0) 1 [] 0, bi (.aload_n 0) 1 [] 0, bi (.getfield 54) 3 [9, 22] 0, bi (.invokevirtual 213) 3 [mX9_isHere, 2, 4, 9] 0]
theorem cX9_isOwnHere_128 : chk mX9_isOwnHere 128 kX9_isOwnHere_128 = true := by decide +kernel
theorem moh_128 {d : Nat} {σ : SG} {Q : Option AV → SG → Prop} {l1 s0 : Int} (h : (r3 s0) ∧ (s0 ≠ 0 → Q (some (.inl 1)) σ) ∧ (s0 = 0 → (0 < d) ∧ AW (d - 1) mX9_isHere 0 [some (.inr (.inr 42)), some (.inr (.inr 56)), none, none] [] σ (fun rr σ' => AW d mX9_isOwnHere 139 [some (.inr (.inr 42)), some (.inl l1)] (rtS rr []) σ' Q))) : AW d mX9_isOwnHere 128 [some (.inr (.inr 42)), some (.inl l1)] [.inl s0] σ Q := AW.blk kX9_isOwnHere_128 cX9_isOwnHere_128 (⟨(h).1, ⟨fun c79 => AW.blk kX9_isOwnHere_142 cX9_isOwnHere_142 (AW.blk kX9_isOwnHere_147 cX9_isOwnHere_147 (⟨(by decide), ⟨fun _ => AW.blk kX9_isOwnHere_196 cX9_isOwnHere_196 (AW.blk kX9_isOwnHere_201 cX9_isOwnHere_201 (⟨(by decide), ((h).2).1 c79⟩)), fun c => absurd c (by decide)⟩⟩)), fun c79 => ⟨(((h).2).2 c79).1, (((h).2).2 c79).2⟩⟩⟩)
def kX9_isOwnHere_146 : List BI := [bi (.iconst 0) 1 [] 0, bi (.istore_n 1) 1 [] 0, bi (.iload_n 1) 1 [] 0, bi (.ifCond .ne (47)) 3 [196] 0, bi (.aload_n 0) 1 [] 0, bi (.aload_n 0) 1 [] 0, bi (.getfield 57) 3 [9, 23] 0, bi (.invokevirtual 213) 3 [mX9_isHere, 2, 4, 9] 0]
theorem cX9_isOwnHere_146 : chk mX9_isOwnHere 146 kX9_isOwnHere_146 = true := by decide +kernel
def kX9_isOwnHere_139 : List BI := [bi (.ifCond .eq (7)) 3 [146] 0, bi (.iconst 1) 1 [] 0, bi (.goto (4)) 3 [147] 0]
theorem cX9_isOwnHere_139 : chk mX9_isOwnHere 139 kX9_isOwnHere_139 = true := by decide +kernel
theorem moh_139 {d : Nat} {σ : SG} {Q : Option AV → SG → Prop} {l1 s0 : Int} (h : (r3 s0) ∧ (s0 = 0 → (0 < d) ∧ AW (d - 1) mX9_isHere 0 [some (.inr (.inr 42)), some (.inr (.inr 57)), none, none] [] σ (fun rr σ' => AW d mX9_isOwnHere 160 [some (.inr (.inr 42)), some (.inl 0)] (rtS rr []) σ' Q)) ∧ (s0 ≠ 0 → Q (some (.inl 1)) σ)) : AW d mX9_isOwnHere 139 [some (.inr (.inr 42)), some (.inl l1)] [.inl s0] σ Q := AW.blk kX9_isOwnHere_139 cX9_isOwnHere_139 (⟨(h).1, ⟨fun c80 => AW.blk kX9_isOwnHere_146 cX9_isOwnHere_146 (⟨(by decide), ⟨fun c => absurd c (by decide), fun _ => ⟨(((h).2).1 c80).1, (((h).2).1 c80).2⟩⟩⟩), fun c80 => AW.blk kX9_isOwnHere_147 cX9_isOwnHere_147 (⟨(by decide), ⟨fun _ => AW.blk kX9_isOwnHere_196 cX9_isOwnHere_196 (AW.blk kX9_isOwnHere_201 cX9_isOwnHere_201 (⟨(by decide), ((h).2).2 c80⟩)), fun c => absurd c (by decide)⟩⟩)⟩⟩)
def kX9_isOwnHere_160 : List BI := [bi (.ifCond .ne (36)) 3 [196] 0, bi (.aload_n 0) 1 [] 0, bi (.aload_n 0) 1 [] 0, bi (.getfield 60) 3 [9, 24] 0, bi (.invokevirtual 213) 3 [mX9_isHere, 2, 4, 9] 0]
theorem cX9_isOwnHere_160 : chk mX9_isOwnHere 160 kX9_isOwnHere_160 = true := by decide +kernel
theorem moh_160 {d : Nat} {σ : SG} {Q : Option AV → SG → Prop} {l1 s0 : Int} (h : (r3 s0) ∧ (s0 ≠ 0 → Q (some (.inl 1)) σ) ∧ (s0 = 0 → (0 < d) ∧ AW (d - 1) mX9_isHere 0 [some (.inr (.inr 42)), some (.inr (.inr 58)), none, none] [] σ (fun rr σ' => AW d mX9_isOwnHere 171 [some (.inr (.inr 42)), some (.inl l1)] (rtS rr []) σ' Q))) : AW d mX9_isOwnHere 160 [some (.inr (.inr 42)), some (.inl l1)] [.inl s0] σ Q := AW.blk kX9_isOwnHere_160 cX9_isOwnHere_160 (⟨(h).1, ⟨fun c81 => AW.blk kX9_isOwnHere_196 cX9_isOwnHere_196 (AW.blk kX9_isOwnHere_201 cX9_isOwnHere_201 (⟨(by decide), ((h).2).1 c81⟩)), fun c81 => ⟨(((h).2).2 c81).1, (((h).2).2 c81).2⟩⟩⟩)
def kX9_isOwnHere_171 : List BI := [bi (.ifCond .ne (25)) 3 [196] 0, bi (.aload_n 0) 1 [] 0, bi (.aload_n 0) 1 [] 0, bi (.getfield 63) 3 [9, 25] 0, bi (.invokevirtual 213) 3 [mX9_isHere, 2, 4, 9] 0]
theorem cX9_isOwnHere_171 : chk mX9_isOwnHere 171 kX9_isOwnHere_171 = true := by decide +kernel
theorem moh_171 {d : Nat} {σ : SG} {Q : Option AV → SG → Prop} {l1 s0 : Int} (h : (r3 s0) ∧ (s0 ≠ 0 → Q (some (.inl 1)) σ) ∧ (s0 = 0 → (0 < d) ∧ AW (d - 1) mX9_isHere 0 [some (.inr (.inr 42)), some (.inr (.inr 59)), none, none] [] σ (fun rr σ' => AW d mX9_isOwnHere 182 [some (.inr (.inr 42)), some (.inl l1)] (rtS rr []) σ' Q))) : AW d mX9_isOwnHere 171 [some (.inr (.inr 42)), some (.inl l1)] [.inl s0] σ Q := AW.blk kX9_isOwnHere_171 cX9_isOwnHere_171 (⟨(h).1, ⟨fun c82 => AW.blk kX9_isOwnHere_196 cX9_isOwnHere_196 (AW.blk kX9_isOwnHere_201 cX9_isOwnHere_201 (⟨(by decide), ((h).2).1 c82⟩)), fun c82 => ⟨(((h).2).2 c82).1, (((h).2).2 c82).2⟩⟩⟩)
def kX9_isOwnHere_182 : List BI := [bi (.ifCond .ne (14)) 3 [196] 0, bi (.aload_n 0) 1 [] 0, bi (.aload_n 0) 1 [] 0, bi (.getfield 66) 3 [9, 26] 0, bi (.invokevirtual 213) 3 [mX9_isHere, 2, 4, 9] 0]
theorem cX9_isOwnHere_182 : chk mX9_isOwnHere 182 kX9_isOwnHere_182 = true := by decide +kernel
theorem moh_182 {d : Nat} {σ : SG} {Q : Option AV → SG → Prop} {l1 s0 : Int} (h : (r3 s0) ∧ (s0 ≠ 0 → Q (some (.inl 1)) σ) ∧ (s0 = 0 → (0 < d) ∧ AW (d - 1) mX9_isHere 0 [some (.inr (.inr 42)), some (.inr (.inr 60)), none, none] [] σ (fun rr σ' => AW d mX9_isOwnHere 193 [some (.inr (.inr 42)), some (.inl l1)] (rtS rr []) σ' Q))) : AW d mX9_isOwnHere 182 [some (.inr (.inr 42)), some (.inl l1)] [.inl s0] σ Q := AW.blk kX9_isOwnHere_182 cX9_isOwnHere_182 (⟨(h).1, ⟨fun c83 => AW.blk kX9_isOwnHere_196 cX9_isOwnHere_196 (AW.blk kX9_isOwnHere_201 cX9_isOwnHere_201 (⟨(by decide), ((h).2).1 c83⟩)), fun c83 => ⟨(((h).2).2 c83).1, (((h).2).2 c83).2⟩⟩⟩)
def kX9_isOwnHere_200 : List BI := [bi (.iconst 0) 1 [] 0, bi (.istore_n 1) 1 [] 0, bi (.iload_n 1) 1 [] 0, bi (.ireturn) 1 [1] 0]
theorem cX9_isOwnHere_200 : chk mX9_isOwnHere 200 kX9_isOwnHere_200 = true := by decide +kernel
def kX9_isOwnHere_193 : List BI := [bi (.ifCond .eq (7)) 3 [200] 0, bi (.iconst 1) 1 [] 0, bi (.goto (4)) 3 [201] 0]
theorem cX9_isOwnHere_193 : chk mX9_isOwnHere 193 kX9_isOwnHere_193 = true := by decide +kernel
theorem moh_193 {d : Nat} {σ : SG} {Q : Option AV → SG → Prop} {l1 s0 : Int} (h : (r3 s0) ∧ (s0 = 0 → Q (some (.inl 0)) σ) ∧ (s0 ≠ 0 → Q (some (.inl 1)) σ)) : AW d mX9_isOwnHere 193 [some (.inr (.inr 42)), some (.inl l1)] [.inl s0] σ Q := AW.blk kX9_isOwnHere_193 cX9_isOwnHere_193 (⟨(h).1, ⟨fun c84 => AW.blk kX9_isOwnHere_200 cX9_isOwnHere_200 (⟨(by decide), ((h).2).1 c84⟩), fun c84 => AW.blk kX9_isOwnHere_201 cX9_isOwnHere_201 (⟨(by decide), ((h).2).2 c84⟩)⟩⟩)
def kX9_name_9 : List BI := [bi (.aload_n 0) 1 [] 0, bi (.invokevirtual 202) 3 [mX9_look, 1, 1, 9] 0]
theorem cX9_name_9 : chk mX9_name 9 kX9_name_9 = true := by decide +kernel
def kX9_name_0 : List BI := [bi (.aload_n 0) 1 [] 0, bi (.getfield 190) 3 [9, 5] 0, bi (.ifCond .eq (5)) 3 [9] 0, bi (.lconst 0) 1 [] 0, bi (.lreturn) 1 [] 0]
theorem cX9_name_0 : chk mX9_name 0 kX9_name_0 = true := by decide +kernel
theorem mna_0 {d : Nat} {σ : SG} {Q : Option AV → SG → Prop} (h : (r3 (σ 42 5)) ∧ ((σ 42 5) = 0 → (0 < d) ∧ AW (d - 1) mX9_look 0 [some (.inr (.inr 42))] [] σ (fun rr σ' => AW d mX9_name 13 [some (.inr (.inr 42)), none, none] (rtS rr []) σ' Q)) ∧ ((σ 42 5) ≠ 0 → Q (some (.inr (.inl 0))) σ)) : AW d mX9_name 0 [some (.inr (.inr 42)), none, none] [] σ Q := AW.blk kX9_name_0 cX9_name_0 (⟨(h).1, ⟨fun c85 => AW.blk kX9_name_9 cX9_name_9 (⟨(((h).2).1 c85).1, (((h).2).1 c85).2⟩), fun c85 => ((h).2).2 c85⟩⟩)
def kX9_name_37 : List BI := [bi (.aload_n 0) 1 [] 0, bi (.iconst 1) 1 [] 0, bi (.aload_n 0) 1 [] 0, bi (.getfield 196) 3 [9, 2] 0, bi (.invokevirtual 220) 3 [mX9_fail, 3, 3, 9] 0, bi (.lconst 0) 1 [] 0, bi (.lreturn) 1 [] 0]
theorem cX9_name_37 : chk mX9_name 37 kX9_name_37 = true := by decide +kernel
def kX9_name_13 : List BI := [bi (.invokestatic 206) 3 [mX9_isLetter, 1, 1] 0, bi (.ifCond .eq (21)) 3 [37] 0, bi (.aload_n 0) 1 [] 0, bi (.getfield 196) 3 [9, 2] 0, bi (.aload_n 0) 1 [] 0, bi (.getfield 210) 3 [9, 4] 0, bi (.if_icmp .eq (10)) 3 [37] 0, bi (.aload_n 0) 1 [] 0, bi (.invokevirtual 237) 3 [mX9_isOwnHere, 1, 2, 9] 0]
theorem cX9_name_13 : chk mX9_name 13 kX9_name_13 = true := by decide +kernel
theorem mna_13 {d : Nat} {σ : SG} {Q : Option AV → SG → Prop} {s0 : Int} (h : (0 < d) ∧ (r3 s0) ∧ (r3 (chL s0)) ∧ ((chL s0) = 0 → (0 < d) ∧ (r3 (σ 42 5)) ∧ ((σ 42 5) = 0 → (∀ S86 : SG, S86 = up σ 42 5 1 → (∀ S87 : SG, S87 = up S86 42 6 (σ 42 2) → Q (some (.inr (.inl 0))) S87))) ∧ ((σ 42 5) ≠ 0 → Q (some (.inr (.inl 0))) σ)) ∧ ((chL s0) ≠ 0 → (r3 (σ 42 2) ∧ r3 (σ 42 4)) ∧ ((σ 42 2) = (σ 42 4) → (0 < d) ∧ (r3 (σ 42 5)) ∧ ((σ 42 5) = 0 → (∀ S89 : SG, S89 = up σ 42 5 1 → (∀ S90 : SG, S90 = up S89 42 6 (σ 42 2) → Q (some (.inr (.inl 0))) S90))) ∧ ((σ 42 5) ≠ 0 → Q (some (.inr (.inl 0))) σ)) ∧ ((σ 42 2) ≠ (σ 42 4) → (0 < d) ∧ AW (d - 1) mX9_isOwnHere 0 [some (.inr (.inr 42)), none] [] σ (fun rr σ' => AW d mX9_name 34 [some (.inr (.inr 42)), none, none] (rtS rr []) σ' Q)))) : AW d mX9_name 13 [some (.inr (.inr 42)), none, none] [.inl s0] σ Q := AW.blk kX9_name_13 cX9_name_13 (⟨(h).1, misLetter_ok ⟨((h).2).1, ⟨(((h).2).2).1, ⟨fun c93 => AW.blk kX9_name_37 cX9_name_37 (⟨(((((h).2).2).2).1 c93).1, AW.blk kX9_fail_0 cX9_fail_0 (⟨((((((h).2).2).2).1 c93).2).1, ⟨fun c88 => AW.blk kX9_fail_8 cX9_fail_8 ((((((((((h).2).2).2).1 c93).2).2).1 c88) _ rfl) _ rfl), fun c88 => (((((((h).2).2).2).1 c93).2).2).2 c88⟩⟩)⟩), fun c93 => ⟨⟨((((((h).2).2).2).2 c93).1).1, ((((((h).2).2).2).2 c93).1).2⟩, ⟨fun c92 => AW.blk kX9_name_37 cX9_name_37 (⟨(((((((h).2).2).2).2 c93).2).1 c92).1, AW.blk kX9_fail_0 cX9_fail_0 (⟨((((((((h).2).2).2).2 c93).2).1 c92).2).1, ⟨fun c91 => AW.blk kX9_fail_8 cX9_fail_8 ((((((((((((h).2).2).2).2 c93).2).1 c92).2).2).1 c91) _ rfl) _ rfl), fun c91 => (((((((((h).2).2).2).2 c93).2).1 c92).2).2).2 c91⟩⟩)⟩), fun c92 => ⟨(((((((h).2).2).2).2 c93).2).2 c92).1, (((((((h).2).2).2).2 c93).2).2 c92).2⟩⟩⟩⟩⟩⟩⟩)
def kX9_name_48 : List BI := [bi (.aload_n 0) 1 [] 0, bi (.aload_n 0) 1 [] 0, bi (.getfield 196) 3 [9, 2] 0, bi (.putfield 241) 3 [9, 27] 0, bi (.lconst 0) 1 [] 0, bi (.lstore_n 1) 1 [] 0]
theorem cX9_name_48 : chk mX9_name 48 kX9_name_48 = true := by decide +kernel
def kX9_name_34 : List BI := [bi (.ifCond .eq (14)) 3 [48] 0, bi (.aload_n 0) 1 [] 0, bi (.iconst 1) 1 [] 0, bi (.aload_n 0) 1 [] 0, bi (.getfield 196) 3 [9, 2] 0, bi (.invokevirtual 220) 3 [mX9_fail, 3, 3, 9] 0, bi (.lconst 0) 1 [] 0, bi (.lreturn) 1 [] 0]
theorem cX9_name_34 : chk mX9_name 34 kX9_name_34 = true := by decide +kernel
theorem mna_34 {d : Nat} {σ : SG} {Q : Option AV → SG → Prop} {s0 : Int} (h : (r3 s0) ∧ (s0 = 0 → (∀ S94 : SG, S94 = up σ 42 27 (σ 42 2) → AW d mX9_name 58 [some (.inr (.inr 42)), some (.inr (.inl 0)), none] [] S94 Q)) ∧ (s0 ≠ 0 → (0 < d) ∧ (r3 (σ 42 5)) ∧ ((σ 42 5) = 0 → (∀ S95 : SG, S95 = up σ 42 5 1 → (∀ S96 : SG, S96 = up S95 42 6 (σ 42 2) → Q (some (.inr (.inl 0))) S96))) ∧ ((σ 42 5) ≠ 0 → Q (some (.inr (.inl 0))) σ))) : AW d mX9_name 34 [some (.inr (.inr 42)), none, none] [.inl s0] σ Q := AW.blk kX9_name_34 cX9_name_34 (⟨(h).1, ⟨fun c98 => AW.blk kX9_name_48 cX9_name_48 ((((h).2).1 c98) _ rfl), fun c98 => ⟨(((h).2).2 c98).1, AW.blk kX9_fail_0 cX9_fail_0 (⟨((((h).2).2 c98).2).1, ⟨fun c97 => AW.blk kX9_fail_8 cX9_fail_8 ((((((((h).2).2 c98).2).2).1 c97) _ rfl) _ rfl), fun c97 => (((((h).2).2 c98).2).2).2 c97⟩⟩)⟩⟩⟩)
def kX9_name_145 : List BI := [bi (.aload_n 0) 1 [] 0, bi (.aload_n 0) 1 [] 0, bi (.getfield 196) 3 [9, 2] 0, bi (.putfield 210) 3 [9, 4] 0, bi (.lload_n 1) 1 [] 0, bi (.lreturn) 1 [] 0]
theorem cX9_name_145 : chk mX9_name 145 kX9_name_145 = true := by decide +kernel
def kX9_name_109 : List BI := [bi (.ldc2_w 244) 3 [] 27, bi (.lload_n 1) 1 [] 0, bi (.lmul) 1 [] 0, bi (.aload_n 0) 1 [] 0, bi (.getfield 7) 3 [9, 0] 0, bi (.aload_n 0) 1 [] 0, bi (.getfield 196) 3 [9, 2] 0, bi (.iaload) 1 [] 0, bi (.i2l) 1 [] 0, bi (.ladd) 1 [] 0, bi (.ldc2_w 246) 3 [] 97, bi (.lsub) 1 [] 0, bi (.lconst 1) 1 [] 0, bi (.ladd) 1 [] 0, bi (.lstore_n 1) 1 [] 0, bi (.aload_n 0) 1 [] 0, bi (.dup) 1 [] 0, bi (.getfield 196) 3 [9, 2] 0, bi (.iconst 1) 1 [] 0, bi (.iadd) 1 [] 0, bi (.putfield 196) 3 [9, 2] 0, bi (.goto (-84)) 3 [58] 0]
theorem cX9_name_109 : chk mX9_name 109 kX9_name_109 = true := by decide +kernel
def kX9_name_58 : List BI := [bi (.aload_n 0) 1 [] 0, bi (.getfield 196) 3 [9, 2] 0, bi (.aload_n 0) 1 [] 0, bi (.getfield 199) 3 [9, 3] 0, bi (.if_icmp .ge (79)) 3 [145] 0, bi (.aload_n 0) 1 [] 0, bi (.getfield 7) 3 [9, 0] 0, bi (.aload_n 0) 1 [] 0, bi (.getfield 196) 3 [9, 2] 0, bi (.iaload) 1 [] 0, bi (.invokestatic 206) 3 [mX9_isLetter, 1, 1] 0, bi (.ifCond .eq (64)) 3 [145] 0, bi (.aload_n 0) 1 [] 0, bi (.getfield 196) 3 [9, 2] 0, bi (.aload_n 0) 1 [] 0, bi (.getfield 241) 3 [9, 27] 0, bi (.isub) 1 [] 0, bi (.bipush (6)) 2 [] 0, bi (.if_icmp .ne (14)) 3 [109] 0, bi (.aload_n 0) 1 [] 0, bi (.iconst 1) 1 [] 0, bi (.aload_n 0) 1 [] 0, bi (.getfield 196) 3 [9, 2] 0, bi (.invokevirtual 220) 3 [mX9_fail, 3, 3, 9] 0, bi (.lconst 0) 1 [] 0, bi (.lreturn) 1 [] 0]
theorem cX9_name_58 : chk mX9_name 58 kX9_name_58 = true := by decide +kernel
theorem mna_58 {d : Nat} {σ : SG} {Q : Option AV → SG → Prop} {l1 : Int} (h : (r3 (σ 42 2) ∧ r3 (σ 42 3)) ∧ ((σ 42 3) ≤ (σ 42 2) → (∀ S99 : SG, S99 = up σ 42 4 (σ 42 2) → Q (some (.inr (.inl l1))) S99)) ∧ ((σ 42 2) < (σ 42 3) → (0 ≤ (σ 42 2) ∧ (σ 42 2) < 1600) ∧ (0 < d) ∧ (r3 (σ 43 (σ 42 2))) ∧ (r3 (chL (σ 43 (σ 42 2)))) ∧ ((chL (σ 43 (σ 42 2))) = 0 → (∀ S100 : SG, S100 = up σ 42 4 (σ 42 2) → Q (some (.inr (.inl l1))) S100)) ∧ ((chL (σ 43 (σ 42 2))) ≠ 0 → (r3 ((σ 42 2) - (σ 42 27))) ∧ (((σ 42 2) - (σ 42 27)) ≠ 6 → (0 ≤ (σ 42 2) ∧ (σ 42 2) < 1600) ∧ (r3 (σ 43 (σ 42 2))) ∧ (∀ S101 : SG, S101 = up σ 42 2 ((σ 42 2) + 1) → AW d mX9_name 58 [some (.inr (.inr 42)), some (.inr (.inl ((((27 * l1) + (σ 43 (σ 42 2))) - 97) + 1))), none] [] S101 Q)) ∧ (((σ 42 2) - (σ 42 27)) = 6 → (0 < d) ∧ (r3 (σ 42 5)) ∧ ((σ 42 5) = 0 → (∀ S102 : SG, S102 = up σ 42 5 1 → (∀ S103 : SG, S103 = up S102 42 6 (σ 42 2) → Q (some (.inr (.inl 0))) S103))) ∧ ((σ 42 5) ≠ 0 → Q (some (.inr (.inl 0))) σ))))) : AW d mX9_name 58 [some (.inr (.inr 42)), some (.inr (.inl l1)), none] [] σ Q := AW.blk kX9_name_58 cX9_name_58 (⟨⟨((h).1).1, ((h).1).2⟩, ⟨fun c107 => AW.blk kX9_name_145 cX9_name_145 ((((h).2).1 c107) _ rfl), fun c107 => ⟨⟨((((h).2).2 c107).1).1, ((((h).2).2 c107).1).2⟩, ⟨((((h).2).2 c107).2).1, misLetter_ok ⟨(((((h).2).2 c107).2).2).1, ⟨((((((h).2).2 c107).2).2).2).1, ⟨fun c106 => AW.blk kX9_name_145 cX9_name_145 (((((((((h).2).2 c107).2).2).2).2).1 c106) _ rfl), fun c106 => ⟨⟨((((((((h).2).2 c107).2).2).2).2).2 c106).1, (by decide)⟩, ⟨fun c105 => AW.blk kX9_name_109 cX9_name_109 (⟨⟨(((((((((((h).2).2 c107).2).2).2).2).2 c106).2).1 c105).1).1, (((((((((((h).2).2 c107).2).2).2).2).2 c106).2).1 c105).1).2⟩, ⟨(((((((((((h).2).2 c107).2).2).2).2).2 c106).2).1 c105).2).1, ((((((((((((h).2).2 c107).2).2).2).2).2 c106).2).1 c105).2).2) _ rfl⟩⟩), fun c105 => ⟨((((((((((h).2).2 c107).2).2).2).2).2 c106).2).2 c105).1, AW.blk kX9_fail_0 cX9_fail_0 (⟨(((((((((((h).2).2 c107).2).2).2).2).2 c106).2).2 c105).2).1, ⟨fun c104 => AW.blk kX9_fail_8 cX9_fail_8 (((((((((((((((h).2).2 c107).2).2).2).2).2 c106).2).2 c105).2).2).1 c104) _ rfl) _ rfl), fun c104 => ((((((((((((h).2).2 c107).2).2).2).2).2 c106).2).2 c105).2).2).2 c104⟩⟩)⟩⟩⟩⟩⟩⟩⟩⟩⟩⟩)
def kX9_nameOf_0 : List BI := [bi (.iconst 0) 1 [] 0, bi (.istore 4) 2 [] 0]
theorem cX9_nameOf_0 : chk mX9_nameOf 0 kX9_nameOf_0 = true := by decide +kernel
theorem mno_0 {d : Nat} {σ : SG} {Q : Option AV → SG → Prop} {k v : Int} (h : AW d mX9_nameOf 3 [some (.inr (.inr 42)), some (.inl k), some (.inr (.inl v)), none, some (.inl 0)] [] σ Q) : AW d mX9_nameOf 0 [some (.inr (.inr 42)), some (.inl k), some (.inr (.inl v)), none, none] [] σ Q := AW.blk kX9_nameOf_0 cX9_nameOf_0 (h)
def kX9_nameOf_40 : List BI := [bi (.iconst (-1)) 1 [] 0, bi (.ireturn) 1 [] 0]
theorem cX9_nameOf_40 : chk mX9_nameOf 40 kX9_nameOf_40 = true := by decide +kernel
def kX9_nameOf_34 : List BI := [bi (.iinc 4 (1)) 3 [] 0, bi (.goto (-34)) 3 [3] 0]
theorem cX9_nameOf_34 : chk mX9_nameOf 34 kX9_nameOf_34 = true := by decide +kernel
def kX9_nameOf_3 : List BI := [bi (.iload 4) 2 [] 0, bi (.aload_n 0) 1 [] 0, bi (.getfield 69) 3 [9, 28] 0, bi (.iload_n 1) 1 [] 0, bi (.iaload) 1 [] 0, bi (.if_icmp .ge (29)) 3 [40] 0, bi (.aload_n 0) 1 [] 0, bi (.getfield 72) 3 [9, 29] 0, bi (.bipush (8)) 2 [] 0, bi (.iload_n 1) 1 [] 0, bi (.imul) 1 [] 0, bi (.iload 4) 2 [] 0, bi (.iadd) 1 [] 0, bi (.laload) 1 [] 0, bi (.lload_n 2) 1 [] 0, bi (.lcmp) 4 [1, 34] 6, bi (.iload 4) 2 [] 0, bi (.ireturn) 1 [] 0]
theorem cX9_nameOf_3 : chk mX9_nameOf 3 kX9_nameOf_3 = true := by decide +kernel
theorem mno_3 {d : Nat} {σ : SG} {Q : Option AV → SG → Prop} {k v l4 : Int} (h : (0 ≤ k ∧ k < 8) ∧ (r3 l4 ∧ r3 (σ 61 k)) ∧ ((σ 61 k) ≤ l4 → Q (some (.inl ((-1)))) σ) ∧ (l4 < (σ 61 k) → (0 ≤ ((8 * k) + l4) ∧ ((8 * k) + l4) < 32) ∧ (r6 (σ 62 ((8 * k) + l4)) ∧ r6 v) ∧ ((σ 62 ((8 * k) + l4)) ≠ v → AW d mX9_nameOf 3 [some (.inr (.inr 42)), some (.inl k), some (.inr (.inl v)), none, some (.inl (l4 + 1))] [] σ Q) ∧ ((σ 62 ((8 * k) + l4)) = v → Q (some (.inl l4)) σ))) : AW d mX9_nameOf 3 [some (.inr (.inr 42)), some (.inl k), some (.inr (.inl v)), none, some (.inl l4)] [] σ Q := AW.blk kX9_nameOf_3 cX9_nameOf_3 (⟨⟨((h).1).1, ((h).1).2⟩, ⟨⟨(((h).2).1).1, (((h).2).1).2⟩, ⟨fun c109 => AW.blk kX9_nameOf_40 cX9_nameOf_40 ((((h).2).2).1 c109), fun c109 => ⟨⟨(((((h).2).2).2 c109).1).1, (((((h).2).2).2 c109).1).2⟩, ⟨⟨((((((h).2).2).2 c109).2).1).1, ((((((h).2).2).2 c109).2).1).2⟩, ⟨fun c108 => AW.blk kX9_nameOf_34 cX9_nameOf_34 (((((((h).2).2).2 c109).2).2).1 c108), fun c108 => ((((((h).2).2).2 c109).2).2).2 c108⟩⟩⟩⟩⟩⟩)
def kX9_newName_0 : List BI := [bi (.aload_n 0) 1 [] 0, bi (.invokevirtual 248) 3 [mX9_name, 1, 3, 9] 0]
theorem cX9_newName_0 : chk mX9_newName 0 kX9_newName_0 = true := by decide +kernel
theorem mnn_0 {d : Nat} {σ : SG} {Q : Option AV → SG → Prop} (h : (0 < d) ∧ AW (d - 1) mX9_name 0 [some (.inr (.inr 42)), none, none] [] σ (fun rr σ' => AW d mX9_newName 4 [some (.inr (.inr 42)), none, none] (rtS rr []) σ' Q)) : AW d mX9_newName 0 [some (.inr (.inr 42)), none, none] [] σ Q := AW.blk kX9_newName_0 cX9_newName_0 (⟨(h).1, (h).2⟩)
def kX9_newName_41 : List BI := [bi (.lload_n 1) 1 [] 0, bi (.lreturn) 1 [] 0]
theorem cX9_newName_41 : chk mX9_newName 41 kX9_newName_41 = true := by decide +kernel
def kX9_newName_4 : List BI := [bi (.lstore_n 1) 1 [] 0, bi (.aload_n 0) 1 [] 0, bi (.getfield 190) 3 [9, 5] 0, bi (.ifCond .ne (32)) 3 [41] 0, bi (.aload_n 0) 1 [] 0, bi (.iconst 0) 1 [] 0, bi (.lload_n 1) 1 [] 0, bi (.invokevirtual 252) 3 [mX9_nameOf, 3, 5, 9] 0]
theorem cX9_newName_4 : chk mX9_newName 4 kX9_newName_4 = true := by decide +kernel
theorem mnn_4 {d : Nat} {σ : SG} {Q : Option AV → SG → Prop} {s0 : Int} (h : (r3 (σ 42 5)) ∧ ((σ 42 5) ≠ 0 → Q (some (.inr (.inl s0))) σ) ∧ ((σ 42 5) = 0 → (0 < d) ∧ AW (d - 1) mX9_nameOf 0 [some (.inr (.inr 42)), some (.inl 0), some (.inr (.inl s0)), none, none] [] σ (fun rr σ' => AW d mX9_newName 18 [some (.inr (.inr 42)), some (.inr (.inl s0)), none] (rtS rr []) σ' Q))) : AW d mX9_newName 4 [some (.inr (.inr 42)), none, none] [.inr (.inl s0)] σ Q := AW.blk kX9_newName_4 cX9_newName_4 (⟨(h).1, ⟨fun c110 => AW.blk kX9_newName_41 cX9_newName_41 (((h).2).1 c110), fun c110 => ⟨(((h).2).2 c110).1, (((h).2).2 c110).2⟩⟩⟩)
def kX9_newName_32 : List BI := [bi (.aload_n 0) 1 [] 0, bi (.iconst 3) 1 [] 0, bi (.aload_n 0) 1 [] 0, bi (.getfield 241) 3 [9, 27] 0, bi (.invokevirtual 220) 3 [mX9_fail, 3, 3, 9] 0, bi (.lload_n 1) 1 [] 0, bi (.lreturn) 1 [] 0]
theorem cX9_newName_32 : chk mX9_newName 32 kX9_newName_32 = true := by decide +kernel
def kX9_newName_18 : List BI := [bi (.iconst (-1)) 1 [] 0, bi (.if_icmp .ne (13)) 3 [32] 0, bi (.aload_n 0) 1 [] 0, bi (.iconst 1) 1 [] 0, bi (.lload_n 1) 1 [] 0, bi (.invokevirtual 252) 3 [mX9_nameOf, 3, 5, 9] 0]
theorem cX9_newName_18 : chk mX9_newName 18 kX9_newName_18 = true := by decide +kernel
theorem mnn_18 {d : Nat} {σ : SG} {Q : Option AV → SG → Prop} {l1 s0 : Int} (h : (r3 s0) ∧ (s0 ≠ (-1) → (0 < d) ∧ (r3 (σ 42 5)) ∧ ((σ 42 5) = 0 → (∀ S111 : SG, S111 = up σ 42 5 3 → (∀ S112 : SG, S112 = up S111 42 6 (σ 42 27) → Q (some (.inr (.inl l1))) S112))) ∧ ((σ 42 5) ≠ 0 → Q (some (.inr (.inl l1))) σ)) ∧ (s0 = (-1) → (0 < d) ∧ AW (d - 1) mX9_nameOf 0 [some (.inr (.inr 42)), some (.inl 1), some (.inr (.inl l1)), none, none] [] σ (fun rr σ' => AW d mX9_newName 28 [some (.inr (.inr 42)), some (.inr (.inl l1)), none] (rtS rr []) σ' Q))) : AW d mX9_newName 18 [some (.inr (.inr 42)), some (.inr (.inl l1)), none] [.inl s0] σ Q := AW.blk kX9_newName_18 cX9_newName_18 (⟨⟨(h).1, (by decide)⟩, ⟨fun c114 => AW.blk kX9_newName_32 cX9_newName_32 (⟨(((h).2).1 c114).1, AW.blk kX9_fail_0 cX9_fail_0 (⟨((((h).2).1 c114).2).1, ⟨fun c113 => AW.blk kX9_fail_8 cX9_fail_8 ((((((((h).2).1 c114).2).2).1 c113) _ rfl) _ rfl), fun c113 => (((((h).2).1 c114).2).2).2 c113⟩⟩)⟩), fun c114 => ⟨(((h).2).2 c114).1, (((h).2).2 c114).2⟩⟩⟩)
def kX9_newName_28 : List BI := [bi (.iconst (-1)) 1 [] 0, bi (.if_icmp .eq (12)) 3 [41] 0, bi (.aload_n 0) 1 [] 0, bi (.iconst 3) 1 [] 0, bi (.aload_n 0) 1 [] 0, bi (.getfield 241) 3 [9, 27] 0, bi (.invokevirtual 220) 3 [mX9_fail, 3, 3, 9] 0, bi (.lload_n 1) 1 [] 0, bi (.lreturn) 1 [] 0]
theorem cX9_newName_28 : chk mX9_newName 28 kX9_newName_28 = true := by decide +kernel
theorem mnn_28 {d : Nat} {σ : SG} {Q : Option AV → SG → Prop} {l1 s0 : Int} (h : (r3 s0) ∧ (s0 = (-1) → Q (some (.inr (.inl l1))) σ) ∧ (s0 ≠ (-1) → (0 < d) ∧ (r3 (σ 42 5)) ∧ ((σ 42 5) = 0 → (∀ S115 : SG, S115 = up σ 42 5 3 → (∀ S116 : SG, S116 = up S115 42 6 (σ 42 27) → Q (some (.inr (.inl l1))) S116))) ∧ ((σ 42 5) ≠ 0 → Q (some (.inr (.inl l1))) σ))) : AW d mX9_newName 28 [some (.inr (.inr 42)), some (.inr (.inl l1)), none] [.inl s0] σ Q := AW.blk kX9_newName_28 cX9_newName_28 (⟨⟨(h).1, (by decide)⟩, ⟨fun c118 => AW.blk kX9_newName_41 cX9_newName_41 (((h).2).1 c118), fun c118 => ⟨(((h).2).2 c118).1, AW.blk kX9_fail_0 cX9_fail_0 (⟨((((h).2).2 c118).2).1, ⟨fun c117 => AW.blk kX9_fail_8 cX9_fail_8 ((((((((h).2).2 c118).2).2).1 c117) _ rfl) _ rfl), fun c117 => (((((h).2).2 c118).2).2).2 c117⟩⟩)⟩⟩⟩)
def kX9_towerTold_0 : List BI := [bi (.aload_n 0) 1 [] 0, bi (.invokevirtual 248) 3 [mX9_name, 1, 3, 9] 0]
theorem cX9_towerTold_0 : chk mX9_towerTold 0 kX9_towerTold_0 = true := by decide +kernel
theorem mtt_0 {d : Nat} {σ : SG} {Q : Option AV → SG → Prop} (h : (0 < d) ∧ AW (d - 1) mX9_name 0 [some (.inr (.inr 42)), none, none] [] σ (fun rr σ' => AW d mX9_towerTold 4 [some (.inr (.inr 42)), none, none, none] (rtS rr []) σ' Q)) : AW d mX9_towerTold 0 [some (.inr (.inr 42)), none, none, none] [] σ Q := AW.blk kX9_towerTold_0 cX9_towerTold_0 (⟨(h).1, (h).2⟩)
def kX9_towerTold_4 : List BI := [bi (.lstore_n 1) 1 [] 0, bi (.aload_n 0) 1 [] 0, bi (.iconst 0) 1 [] 0, bi (.lload_n 1) 1 [] 0, bi (.invokevirtual 252) 3 [mX9_nameOf, 3, 5, 9] 0]
theorem cX9_towerTold_4 : chk mX9_towerTold 4 kX9_towerTold_4 = true := by decide +kernel
theorem mtt_4 {d : Nat} {σ : SG} {Q : Option AV → SG → Prop} {s0 : Int} (h : (0 < d) ∧ AW (d - 1) mX9_nameOf 0 [some (.inr (.inr 42)), some (.inl 0), some (.inr (.inl s0)), none, none] [] σ (fun rr σ' => AW d mX9_towerTold 11 [some (.inr (.inr 42)), some (.inr (.inl s0)), none, none] (rtS rr []) σ' Q)) : AW d mX9_towerTold 4 [some (.inr (.inr 42)), none, none, none] [.inr (.inl s0)] σ Q := AW.blk kX9_towerTold_4 cX9_towerTold_4 (⟨(h).1, (h).2⟩)
def kX9_towerTold_44 : List BI := [bi (.iconst 0) 1 [] 0, bi (.ireturn) 1 [] 0]
theorem cX9_towerTold_44 : chk mX9_towerTold 44 kX9_towerTold_44 = true := by decide +kernel
def kX9_towerTold_45 : List BI := [bi (.ireturn) 1 [] 0]
theorem cX9_towerTold_45 : chk mX9_towerTold 45 kX9_towerTold_45 = true := by decide +kernel
def kX9_towerTold_33 : List BI := [bi (.aload_n 0) 1 [] 0, bi (.getfield 190) 3 [9, 5] 0, bi (.ifCond .ne (7)) 3 [44] 0, bi (.iload_n 3) 1 [] 0, bi (.goto (4)) 3 [45] 0]
theorem cX9_towerTold_33 : chk mX9_towerTold 33 kX9_towerTold_33 = true := by decide +kernel
def kX9_towerTold_11 : List BI := [bi (.istore_n 3) 1 [] 0, bi (.aload_n 0) 1 [] 0, bi (.getfield 190) 3 [9, 5] 0, bi (.ifCond .ne (17)) 3 [33] 0, bi (.iload_n 3) 1 [] 0, bi (.iconst (-1)) 1 [] 0, bi (.if_icmp .ne (12)) 3 [33] 0, bi (.aload_n 0) 1 [] 0, bi (.iconst 3) 1 [] 0, bi (.aload_n 0) 1 [] 0, bi (.getfield 241) 3 [9, 27] 0, bi (.invokevirtual 220) 3 [mX9_fail, 3, 3, 9] 0, bi (.aload_n 0) 1 [] 0, bi (.getfield 190) 3 [9, 5] 0, bi (.ifCond .ne (7)) 3 [44] 0, bi (.iload_n 3) 1 [] 0, bi (.goto (4)) 3 [45] 0]
theorem cX9_towerTold_11 : chk mX9_towerTold 11 kX9_towerTold_11 = true := by decide +kernel
theorem mtt_11 {d : Nat} {σ : SG} {Q : Option AV → SG → Prop} {l1 s0 : Int} (h : (r3 (σ 42 5)) ∧ ((σ 42 5) ≠ 0 → (r3 (σ 42 5)) ∧ ((σ 42 5) ≠ 0 → Q (some (.inl 0)) σ) ∧ ((σ 42 5) = 0 → Q (some (.inl s0)) σ)) ∧ ((σ 42 5) = 0 → (r3 s0) ∧ (s0 ≠ (-1) → (r3 (σ 42 5)) ∧ ((σ 42 5) ≠ 0 → Q (some (.inl 0)) σ) ∧ ((σ 42 5) = 0 → Q (some (.inl s0)) σ)) ∧ (s0 = (-1) → (0 < d) ∧ (r3 (σ 42 5)) ∧ ((σ 42 5) = 0 → (∀ S121 : SG, S121 = up σ 42 5 3 → (∀ S122 : SG, S122 = up S121 42 6 (σ 42 27) → (r3 (S122 42 5)) ∧ ((S122 42 5) ≠ 0 → Q (some (.inl 0)) S122) ∧ ((S122 42 5) = 0 → Q (some (.inl s0)) S122)))) ∧ ((σ 42 5) ≠ 0 → (r3 (σ 42 5)) ∧ ((σ 42 5) ≠ 0 → Q (some (.inl 0)) σ) ∧ ((σ 42 5) = 0 → Q (some (.inl s0)) σ))))) : AW d mX9_towerTold 11 [some (.inr (.inr 42)), some (.inr (.inl l1)), none, none] [.inl s0] σ Q := AW.blk kX9_towerTold_11 cX9_towerTold_11 (⟨(h).1, ⟨fun c127 => AW.blk kX9_towerTold_33 cX9_towerTold_33 (⟨(((h).2).1 c127).1, ⟨fun c119 => AW.blk kX9_towerTold_44 cX9_towerTold_44 (((((h).2).1 c127).2).1 c119), fun c119 => AW.blk kX9_towerTold_45 cX9_towerTold_45 (((((h).2).1 c127).2).2 c119)⟩⟩), fun c127 => ⟨⟨(((h).2).2 c127).1, (by decide)⟩, ⟨fun c126 => AW.blk kX9_towerTold_33 cX9_towerTold_33 (⟨(((((h).2).2 c127).2).1 c126).1, ⟨fun c120 => AW.blk kX9_towerTold_44 cX9_towerTold_44 (((((((h).2).2 c127).2).1 c126).2).1 c120), fun c120 => AW.blk kX9_towerTold_45 cX9_towerTold_45 (((((((h).2).2 c127).2).1 c126).2).2 c120)⟩⟩), fun c126 => ⟨(((((h).2).2 c127).2).2 c126).1, AW.blk kX9_fail_0 cX9_fail_0 (⟨((((((h).2).2 c127).2).2 c126).2).1, ⟨fun c125 => AW.blk kX9_fail_8 cX9_fail_8 (⟨((((((((((h).2).2 c127).2).2 c126).2).2).1 c125) _ rfl) _ rfl).1, ⟨fun c123 => AW.blk kX9_towerTold_44 cX9_towerTold_44 ((((((((((((h).2).2 c127).2).2 c126).2).2).1 c125) _ rfl) _ rfl).2).1 c123), fun c123 => AW.blk kX9_towerTold_45 cX9_towerTold_45 ((((((((((((h).2).2 c127).2).2 c126).2).2).1 c125) _ rfl) _ rfl).2).2 c123)⟩⟩), fun c125 => ⟨((((((((h).2).2 c127).2).2 c126).2).2).2 c125).1, ⟨fun c124 => AW.blk kX9_towerTold_44 cX9_towerTold_44 ((((((((((h).2).2 c127).2).2 c126).2).2).2 c125).2).1 c124), fun c124 => AW.blk kX9_towerTold_45 cX9_towerTold_45 ((((((((((h).2).2 c127).2).2 c126).2).2).2 c125).2).2 c124)⟩⟩⟩⟩)⟩⟩⟩⟩⟩)
/-! the reference's tape -/
def RTp (o : Int → Int) (L : Int) (X : PXv) (σ : SG) : Prop := ((∀ i, 0 ≤ i → i < 1600 → σ 43 i = o i) ∧ σ 42 3 = L ∧ (0 ≤ L ∧ L ≤ 1600) ∧ OCT o ∧ WD σ) ∧ (match X with
  | .inl z => σ 42 5 = z.1 ∧ σ 42 6 = z.2 ∧ (1 ≤ z.1 ∧ z.1 ≤ 5)
  | .inr z => (σ 42 5 = 0 ∧ σ 42 6 = -1) ∧ (z.2.1 ≤ σ 42 2 ∧ σ 42 2 ≤ L ∧ sk o L (σ 42 2) = sk o L z.2.1) ∧ 0 ≤ z.2.1 ∧ (-1 ≤ σ 42 4 ∧ σ 42 4 ≤ z.2.1) ∧ ∀ s, z.2.1 ≤ s → (s = σ 42 4 ↔ s = z.2.2))
def MFr (σ σ' : SG) : Prop := (∀ p, p ≠ 42 → σ' p = σ p) ∧ ∀ i, i ≠ 2 → i ≠ 4 → i ≠ 5 → i ≠ 6 → i ≠ 10 → i ≠ 27 → σ' 42 i = σ 42 i
theorem MFr.rf (σ : SG) : MFr σ σ := ⟨fun _ _ => rfl, fun _ _ _ _ _ _ _ => rfl⟩
theorem MFr.tr {σ σ' σ'' : SG} (h : MFr σ σ') (k : MFr σ' σ'') : MFr σ σ'' := ⟨fun p hp => (k.1 p hp).trans (h.1 p hp), fun i a b c e f g => (k.2 i a b c e f g).trans (h.2 i a b c e f g)⟩
theorem MFr.up {σ σ' : SG} (h : MFr σ σ') {i v : Int} (hi : i = 2 ∨ i = 4 ∨ i = 5 ∨ i = 6 ∨ i = 10 ∨ i = 27) : MFr σ (up σ' 42 i v) := ⟨fun p hp => by rw [up_pf hp]; exact h.1 p hp, fun j a b c e f g => by rw [up_i (by omega)]; exact h.2 j a b c e f g⟩
theorem WD.cong {σ σ' : SG} (h : WD σ) (e : ∀ p, WP p → σ' p = σ p) : WD σ' := by
  intro p hp
  rw [e p hp]
  exact h p hp
theorem RTp.b {o : Int → Int} {L : Int} {X : PXv} {σ σ' : SG} (h : RTp o L X σ) (hp : ∀ p, p ≠ 42 → σ' p = σ p) (h3 : σ' 42 3 = σ 42 3) : (∀ i, 0 ≤ i → i < 1600 → σ' 43 i = o i) ∧ σ' 42 3 = L ∧ (0 ≤ L ∧ L ≤ 1600) ∧ OCT o ∧ WD σ' := by
  obtain ⟨⟨a, b, c, e, f⟩, _⟩ := h
  refine ⟨fun i x y => by rw [hp 43 (by decide)]; exact a i x y, h3.trans b, c, e, f.cong (fun p hw => hp p ?_)⟩
  unfold WP at hw
  omega
theorem RTp.mk {o : Int → Int} {L v p e : Int} {σ : SG} (h1 : (∀ i, 0 ≤ i → i < 1600 → σ 43 i = o i) ∧ σ 42 3 = L ∧ (0 ≤ L ∧ L ≤ 1600) ∧ OCT o ∧ WD σ) (h2 : σ 42 5 = 0 ∧ σ 42 6 = -1) (h3 : p ≤ σ 42 2 ∧ σ 42 2 ≤ L ∧ sk o L (σ 42 2) = sk o L p) (h4 : 0 ≤ p) (h5 : -1 ≤ σ 42 4 ∧ σ 42 4 ≤ p) (h6 : ∀ s, p ≤ s → (s = σ 42 4 ↔ s = e)) : RTp o L (.inr (v, p, e)) σ := ⟨h1, h2, h3, h4, h5, h6⟩
theorem RTp.f {o : Int → Int} {L v p e : Int} {σ : SG} (h : RTp o L (.inr (v, p, e)) σ) : ((∀ i, 0 ≤ i → i < 1600 → σ 43 i = o i) ∧ σ 42 3 = L ∧ (0 ≤ L ∧ L ≤ 1600) ∧ OCT o ∧ WD σ) ∧ (σ 42 5 = 0 ∧ σ 42 6 = -1) ∧ (p ≤ σ 42 2 ∧ σ 42 2 ≤ L ∧ sk o L (σ 42 2) = sk o L p) ∧ 0 ≤ p ∧ (-1 ≤ σ 42 4 ∧ σ 42 4 ≤ p) ∧ ∀ s, p ≤ s → (s = σ 42 4 ↔ s = e) := ⟨h.1, h.2.1, h.2.2.1, h.2.2.2.1, h.2.2.2.2.1, h.2.2.2.2.2⟩
theorem RTp.v {o : Int → Int} {L v v' p e : Int} {σ : SG} (h : RTp o L (.inr (v, p, e)) σ) : RTp o L (.inr (v', p, e)) σ := h
theorem RTp.g {o : Int → Int} {L k pl : Int} {σ : SG} (h : RTp o L (.inl (k, pl)) σ) : σ 42 5 = k ∧ σ 42 6 = pl ∧ (1 ≤ k ∧ k ≤ 5) := h.2
theorem RTp.bad {o : Int → Int} {L : Int} {X : PXv} {σ : SG} (h : RTp o L X σ) : (0 ≤ σ 42 5 ∧ σ 42 5 ≤ 5) ∧ (σ 42 5 = 0 ↔ ∃ z, X = .inr z) := by
  rcases X with ⟨k, pl⟩ | ⟨v, p, e⟩
  · have := h.g
    exact ⟨by omega, ⟨fun z => by omega, fun ⟨z, hz⟩ => by cases hz⟩⟩
  · have := h.f.2.1
    exact ⟨by omega, ⟨fun _ => ⟨_, rfl⟩, fun _ => this.1⟩⟩
theorem mfail {o : Int → Int} {L v p e k pl : Int} {σ : SG} (h : RTp o L (.inr (v, p, e)) σ) (hk : 1 ≤ k ∧ k ≤ 5) : RTp o L (.inl (k, pl)) (up (up σ 42 5 k) 42 6 pl) ∧ MFr σ (up (up σ 42 5 k) 42 6 pl) := by
  have hM : MFr σ (up (up σ 42 5 k) 42 6 pl) := ((MFr.rf σ).up (by omega)).up (by omega)
  refine ⟨⟨h.b hM.1 (hM.2 3 (by decide) (by decide) (by decide) (by decide) (by decide) (by decide)), ?_, ?_, hk⟩, hM⟩
  · rw [up_i (by decide), up_at]
  · rw [up_at]
theorem mfail2 {o : Int → Int} {L k pl : Int} {X : PXv} {σ σ1 : SG} (h : RTp o L X σ) (h1 : MFr σ σ1) (hk : 1 ≤ k ∧ k ≤ 5) : RTp o L (.inl (k, pl)) (up (up σ1 42 5 k) 42 6 pl) ∧ MFr σ (up (up σ1 42 5 k) 42 6 pl) := by
  have hM : MFr σ (up (up σ1 42 5 k) 42 6 pl) := (h1.up (by omega)).up (by omega)
  refine ⟨⟨h.b hM.1 (hM.2 3 (by decide) (by decide) (by decide) (by decide) (by decide) (by decide)), ?_, ?_, hk⟩, hM⟩
  · rw [up_i (by decide), up_at]
  · rw [up_at]
theorem kdP_c (o : Int → Int) (L s : Int) : (L ≤ s ∧ kdP o L s = 0) ∨ (s < L ∧ chL (o s) ≠ 0 ∧ kdP o L s = 1) ∨ (s < L ∧ chL (o s) = 0 ∧ chD (o s) ≠ 0 ∧ kdP o L s = 2) ∨ (s < L ∧ chL (o s) = 0 ∧ chD (o s) = 0 ∧ kdP o L s = 3) := by
  unfold kdP ltB dgB
  by_cases c : L ≤ s
  · rw [if_pos c]
    exact Or.inl ⟨c, rfl⟩
  · rw [if_neg c]
    by_cases c1 : chL (o s) = 0
    · rw [decide_eq_false (fun z => z c1), if_neg (by decide)]
      by_cases c2 : chD (o s) = 0
      · rw [decide_eq_false (fun z => z c2), if_neg (by decide)]
        exact Or.inr (Or.inr (Or.inr ⟨by omega, c1, c2, rfl⟩))
      · rw [decide_eq_true c2, if_pos rfl]
        exact Or.inr (Or.inr (Or.inl ⟨by omega, c1, c2, rfl⟩))
    · rw [decide_eq_true c1, if_pos rfl]
      exact Or.inr (Or.inl ⟨by omega, c1, rfl⟩)
theorem chLD {c : Int} (h : chL c ≠ 0) : chD c = 0 := by
  unfold chL at h
  unfold chD
  split at h
  · rw [if_neg (by omega)]
  · exact absurd rfl h
theorem kd_1 {o : Int → Int} {L e s : Int} : kd o L e s = 1 ↔ (s < L ∧ chL (o s) ≠ 0 ∧ s ≠ e) := by
  unfold kd
  rcases kdP_c o L s with ⟨a, b⟩ | ⟨a, b, c⟩ | ⟨a, b, c, f⟩ | ⟨a, b, c, f⟩
  · rw [b, if_neg (by omega)]
    exact ⟨fun z => by omega, fun z => by omega⟩
  · rw [c]
    by_cases z : s = e
    · rw [if_pos ⟨Or.inl rfl, z⟩]
      exact ⟨fun y => by omega, fun y => absurd z y.2.2⟩
    · rw [if_neg (fun y => z y.2)]
      exact ⟨fun _ => ⟨a, b, z⟩, fun _ => rfl⟩
  · rw [f]
    exact ⟨fun y => by split at y <;> omega, fun y => absurd b y.2.1⟩
  · rw [f, if_neg (by omega)]
    exact ⟨fun y => by omega, fun y => absurd b y.2.1⟩
theorem kd_2 {o : Int → Int} {L e s : Int} : kd o L e s = 2 ↔ (s < L ∧ chD (o s) ≠ 0 ∧ s ≠ e) := by
  unfold kd
  rcases kdP_c o L s with ⟨a, b⟩ | ⟨a, b, c⟩ | ⟨a, b, c, f⟩ | ⟨a, b, c, f⟩
  · rw [b, if_neg (by omega)]
    exact ⟨fun z => by omega, fun z => by omega⟩
  · rw [c]
    exact ⟨fun y => by split at y <;> omega, fun y => absurd (chLD b) y.2.1⟩
  · rw [f]
    by_cases z : s = e
    · rw [if_pos ⟨Or.inr rfl, z⟩]
      exact ⟨fun y => by omega, fun y => absurd z y.2.2⟩
    · rw [if_neg (fun y => z y.2)]
      exact ⟨fun _ => ⟨a, c, z⟩, fun _ => rfl⟩
  · rw [f, if_neg (by omega)]
    exact ⟨fun y => by omega, fun y => absurd c y.2.1⟩
theorem kd_3 {o : Int → Int} {L e s : Int} : kd o L e s = 3 ↔ (s < L ∧ chL (o s) = 0 ∧ chD (o s) = 0) := by
  unfold kd
  rcases kdP_c o L s with ⟨a, b⟩ | ⟨a, b, c⟩ | ⟨a, b, c, f⟩ | ⟨a, b, c, f⟩
  · rw [b, if_neg (by omega)]
    exact ⟨fun z => by omega, fun z => by omega⟩
  · rw [c]
    exact ⟨fun y => by split at y <;> omega, fun y => absurd y.2.1 b⟩
  · rw [f]
    exact ⟨fun y => by split at y <;> omega, fun y => absurd y.2.2 c⟩
  · rw [f, if_neg (by omega)]
    exact ⟨fun y => ⟨a, b, c⟩, fun y => rfl⟩
def lkV (o : Int → Int) (L s : Int) : Int := if s < L then o s else -1
theorem mlook {d : Nat} {o : Int → Int} {L v p e : Int} {σ : SG} {Q : Option AV → SG → Prop} (h : RTp o L (.inr (v, p, e)) σ) (hq : ∀ σ', σ' = up σ 42 2 (sk o L p) → MFr σ σ' → RTp o L (.inr (v, p, e)) σ' → σ' 42 2 = sk o L p → Q (some (.inl (lkV o L (sk o L p)))) σ') : AW d mX9_look 0 [some (.inr (.inr 42))] [] σ Q := by
  obtain ⟨⟨ht, hL, hL0, ho, hw⟩, ⟨h5, h6⟩, ⟨hp1, hp2, hp3⟩, hp0, he0, he⟩ := h.f
  have hk := tok (o := o) (L := L) e hp0 (by omega)
  generalize hs : sk o L p = s at *
  have hr : rn (bkB o) L (σ 42 2) = s := hp3
  have hM : MFr σ (up σ 42 2 s) := (MFr.rf σ).up (by omega)
  have hss : sk o L s = s := by
    have := (rn_all (P := bkB o) (L := L) (p := σ 42 2)).2.2.2.2 s (by rw [← hr]; exact (rn_all (P := bkB o) (L := L) (p := σ 42 2)).1) (by rw [hr]; omega)
    rw [hr] at this
    exact this
  have hR : RTp o L (.inr (v, p, e)) (up σ 42 2 s) := by
    refine RTp.mk (h.b hM.1 (hM.2 3 (by decide) (by decide) (by decide) (by decide) (by decide) (by decide))) ⟨?_, ?_⟩ ⟨?_, ?_, ?_⟩ hp0 ?_ ?_
    · rw [up_i (by decide)]
      exact h5
    · rw [up_i (by decide)]
      exact h6
    · rw [up_at]
      omega
    · rw [up_at]
      omega
    · rw [up_at, hs]
      exact hss
    · rw [up_i (by decide)]
      exact he0
    · rw [up_i (by decide)]
      exact he
  have hQ := hq _ rfl hM hR (up_at ..)
  have loop := downInd (P := fun t => rn (bkB o) L t = s → AW d mX9_look 0 [some (.inr (.inr 42))] [] (up σ 42 2 t) Q) (lo := σ 42 2) (hi := L) hp2 ?_ ?_ hr
  · rw [up_self] at loop
    exact loop
  · intro hx
    rw [rn_e (Int.le_refl _)] at hx
    refine mlk_0 ?_
    rw [up_at, up_i (by decide), hL, hx]
    unfold lkV at hQ
    rw [if_neg (by omega)] at hQ
    exact ⟨by omega, fun _ => ⟨by omega, fun _ => hQ, fun z => by omega⟩, fun z => by omega⟩
  · intro t t0 t1 ih hx
    have hot := ho t (by omega) (by omega)
    refine mlk_0 ?_
    rw [up_at, up_i (by decide), hL, up_p (by decide), ht t (by omega) (by omega)]
    have hb : bkB o t = decide (chB (o t) ≠ 0) := rfl
    refine ⟨by omega, fun z => by omega, fun _ => ⟨by omega, by omega, fun c S eS => ?_, fun c => ⟨by omega, by omega, fun c2 => ?_, fun c2 S eS => ?_⟩⟩⟩
    · rw [eS, up_up]
      refine ih ?_
      rw [← hx, rn_y t1 (decide_eq_true (by unfold chB; rw [if_pos (by omega)]; decide))]
    · have hn : bkB o t = false := decide_eq_false (by unfold chB; rw [if_neg (by omega)]; exact fun z => z rfl)
      rw [rn_n hn] at hx
      unfold lkV at hQ
      rw [hx]
      rw [hx] at t1
      rw [if_pos t1] at hQ
      exact ⟨by omega, fun z => by omega, fun _ => ⟨by omega, hQ⟩⟩
    · rw [eS, up_up]
      refine ih ?_
      rw [← hx, rn_y t1 (decide_eq_true (by unfold chB; rw [if_pos (by omega)]; decide))]
theorem weq_iff {o : Int → Int} : ∀ (w : List Int) (s t : Int), weq o w s t = true ↔ (t = s + (w.length : Int) ∧ ∀ i : Nat, i < w.length → o (s + (i : Int)) = w.getD i 0) := by
  intro w
  induction w with
  | nil =>
    intro s t
    have e : weq o [] s t = decide (s = t) := rfl
    rw [e]
    exact ⟨fun z => ⟨by have := of_decide_eq_true z; simp; omega, fun i hi => absurd hi (Nat.not_lt_zero i)⟩, fun z => decide_eq_true (by have := z.1; simp at this; omega)⟩
  | cons c w ih =>
    intro s t
    have e : weq o (c :: w) s t = (decide (s < t) && (decide (o s = c) && weq o w (s + 1) t)) := rfl
    rw [e, Bool.and_eq_true, Bool.and_eq_true, ih (s + 1) t, List.length_cons]
    constructor
    · rintro ⟨a, b, c1, c2⟩
      have a := of_decide_eq_true a
      have b := of_decide_eq_true b
      refine ⟨by omega, fun i hi => ?_⟩
      cases i with
      | zero =>
        rw [show s + ((0 : Nat) : Int) = s by omega]
        exact b
      | succ i =>
        rw [show s + ((i + 1 : Nat) : Int) = s + 1 + (i : Int) by omega]
        exact c2 i (by omega)
    · rintro ⟨a, b⟩
      refine ⟨decide_eq_true (by omega), decide_eq_true ?_, by omega, fun i hi => ?_⟩
      · have := b 0 (by omega)
        rw [show s + ((0 : Nat) : Int) = s by omega] at this
        exact this
      · have := b (i + 1) (by omega)
        rw [show s + ((i + 1 : Nat) : Int) = s + 1 + (i : Int) by omega] at this
        exact this
theorem chL_lk {o : Int → Int} {L s : Int} : chL (lkV o L s) ≠ 0 ↔ (s < L ∧ chL (o s) ≠ 0) := by
  unfold lkV
  by_cases c : s < L
  · rw [if_pos c]
    exact ⟨fun z => ⟨c, z⟩, fun z => z.2⟩
  · rw [if_neg c]
    exact ⟨fun z => absurd (by decide : chL (-1) = 0) z, fun z => absurd z.1 c⟩
theorem chD_lk {o : Int → Int} {L s : Int} : chD (lkV o L s) ≠ 0 ↔ (s < L ∧ chD (o s) ≠ 0) := by
  unfold lkV
  by_cases c : s < L
  · rw [if_pos c]
    exact ⟨fun z => ⟨c, z⟩, fun z => z.2⟩
  · rw [if_neg c]
    exact ⟨fun z => absurd (by decide : chD (-1) = 0) z, fun z => absurd z.1 c⟩
theorem lkV_r {o : Int → Int} {L s : Int} (ho : OCT o) (h0 : 0 ≤ s) (h1 : L ≤ 1600) : -1 ≤ lkV o L s ∧ lkV o L s ≤ 255 := by
  unfold lkV
  split
  · have := ho s h0 (by omega)
    omega
  · omega
theorem misH0 {d w : Nat} {σ : SG} {Q : Option AV → SG → Prop} (hw : WP w) (h : σ 42 5 ≠ 0) (hr : r3 (σ 42 5)) (hq : Q (some (.inl 0)) σ) : AW d mX9_isHere 0 [some (.inr (.inr 42)), some (.inr (.inr w)), none, none] [] σ Q :=
  mih_0 hw ⟨hr, fun _ => hq, fun z => absurd z h⟩
theorem WC_len : ∀ w, w < 96 → (WC w).length ≤ 6 := by decide
theorem misH {d w : Nat} {o : Int → Int} {L v p e : Int} {σ : SG} {Q : Option AV → SG → Prop} (hw : WP w) (hd : 2 ≤ d) (h : RTp o L (.inr (v, p, e)) σ) (hq : ∀ σ', MFr σ σ' → RTp o L (.inr (v, p, e)) σ' → σ' 42 2 = sk o L p → Q (some (.inl (if kd o L e (sk o L p) = 1 ∧ weq o (WC w) (sk o L p) (te o L (sk o L p)) = true then 1 else 0))) σ') : AW d mX9_isHere 0 [some (.inr (.inr 42)), some (.inr (.inr w)), none, none] [] σ Q := by
  obtain ⟨⟨_, _, hL0, ho, _⟩, ⟨h5, _⟩, hp1, hp0, _, _⟩ := h.f
  have hk := tok (o := o) (L := L) e hp0 (by omega)
  have hwl := WC_len w (by unfold WP at hw; omega)
  refine mih_0 hw ⟨by omega, fun z => absurd h5 z, fun _ => ⟨by omega, mlook h (fun S _ hM hR hS => ?_)⟩⟩
  have hQ := hq S hM hR hS
  obtain ⟨⟨ht, hL, _, _, hwd⟩, ⟨h5, h6⟩, ⟨hp1, hp2, hp3⟩, hp0, he0, he⟩ := hR.f
  have hlk := chL_lk (o := o) (L := L) (s := sk o L p)
  have hlr := lkV_r (o := o) (L := L) (s := sk o L p) ho (by omega) hL0.2
  have hee := he (sk o L p) (by omega)
  generalize hs : sk o L p = s at *
  have k1 := kd_1 (o := o) (L := L) (e := e) (s := s)
  refine mih_11 hw ?_
  rw [hS]
  refine ⟨by omega, by omega, chL_r _, fun c => ?_, fun c => ⟨by omega, fun c2 => ?_, fun c2 => ?_⟩⟩
  · rw [if_neg (fun z => absurd c (hlk.mpr ⟨(k1.mp z.1).1, (k1.mp z.1).2.1⟩))] at hQ
    exact hQ
  · have hl := hlk.mp c
    have hk1 : kd o L e s = 1 := k1.mpr ⟨hl.1, hl.2, fun z => c2 (hee.mpr z)⟩
    obtain ⟨_, _, et⟩ := hk.2.2.2.2.1 hk1
    have hrn := rn_all (P := ltB o) (L := L) (p := s)
    generalize htt : te o L s = t at *
    have hwq := weq_iff (o := o) (WC w) s t
    -- the letters compared
    have cmp : t = s + ((WC w).length : Int) → AW d mX9_isHere 76 [some (.inr (.inr 42)), some (.inr (.inr w)), none, some (.inl 0)] [] S Q := by
      intro hlen
      have loop := downInd (P := fun i => (∀ j : Nat, (j : Int) < i → o (s + (j : Int)) = (WC w).getD j 0) → AW d mX9_isHere 76 [some (.inr (.inr 42)), some (.inr (.inr w)), none, some (.inl i)] [] S Q) (lo := 0) (hi := ((WC w).length : Int)) (by omega) ?_ ?_ (fun j hj => by omega)
      · exact loop
      · intro hj
        rw [if_pos ⟨hk1, hwq.mpr ⟨hlen, fun i hi => hj i (by omega)⟩⟩] at hQ
        exact mih_76 hw ⟨by omega, fun _ => hQ, fun z => by omega⟩
      · intro i i0 i1 ih hj
        obtain ⟨n, rfl⟩ := Int.eq_ofNat_of_zero_le i0
        have hoo := ho (s + n) (by omega) (by omega)
        have e43 := ht (s + n) (by omega) (by omega)
        have ew := hwd w hw n (by omega)
        refine mih_76 hw ?_
        rw [hS, e43]
        refine ⟨by omega, fun z => by omega, fun _ => ⟨by omega, by omega, ?_, fun c3 => ?_, fun c3 => ?_⟩⟩
        · rw [ew]
          have hwr : ∀ w, w < 96 → (WC w).all (fun c => decide (0 ≤ c ∧ c ≤ 255)) = true := by decide
          have h1 := List.all_eq_true.mp (hwr w (by unfold WP at hw; omega))
          have h2 : (WC w).getD n 0 ∈ WC w := by
            rw [List.getD_eq_getElem?_getD, List.getElem?_eq_getElem (by omega)]
            exact List.getElem_mem _
          have := of_decide_eq_true (h1 _ h2)
          omega
        · refine ih (fun j hj2 => ?_)
          by_cases cj : j = n
          · rw [cj, c3, ew]
          · exact hj j (by omega)
        · rw [if_neg (fun z => c3 (by rw [ew]; exact (hwq.mp z.2).2 n (by omega)))] at hQ
          exact hQ
    have nq : t ≠ s + ((WC w).length : Int) → Q (some (.inl 0)) S := by
      intro hlen
      rw [if_neg (fun z => hlen (hwq.mp z.2).1)] at hQ
      exact hQ
    have loop := downInd (P := fun i => rn (ltB o) L i = t → AW d mX9_isHere 35 [some (.inr (.inr 42)), some (.inr (.inr w)), some (.inl i), none] [] S Q) (lo := s) (hi := L) (by omega) ?_ ?_ et.symm
    · exact loop
    · intro hx
      rw [rn_e (Int.le_refl _)] at hx
      refine mih_35 hw ?_
      rw [hS, hL]
      exact ⟨by omega, fun _ => ⟨by omega, fun c3 => cmp (by omega), fun c3 => nq (by omega)⟩, fun z => by omega⟩
    · intro i i0 i1 ih hx
      have hoo := ho i (by omega) (by omega)
      refine mih_35 hw ?_
      rw [hS, hL, ht i (by omega) (by omega)]
      refine ⟨by omega, fun z => by omega, fun _ => ⟨by omega, by omega, by omega, chL_r _, fun c3 => ?_, fun c3 => ?_⟩⟩
      · rw [rn_n (decide_eq_false (fun z => z c3))] at hx
        exact ⟨by omega, fun c4 => cmp (by omega), fun c4 => nq (by omega)⟩
      · rw [rn_y i1 (decide_eq_true c3)] at hx
        exact ih hx
  · rw [if_neg (fun z => (k1.mp z.1).2.2 (hee.mp c2))] at hQ
    exact hQ
theorem mtakesW {d w : Nat} {o : Int → Int} {L v p e : Int} {σ : SG} {Q : Option AV → SG → Prop} (hw : WP w) (hd : 3 ≤ d) (h : RTp o L (.inr (v, p, e)) σ) (hq1 : ∀ σ' z, pxW o L (WC w) p e = .inr z → MFr σ σ' → RTp o L (.inr z) σ' → Q (some (.inl 1)) σ') (hq0 : ∀ σ', pxW o L (WC w) p e = .inl (1, sk o L p) → MFr σ σ' → RTp o L (.inr (v, p, e)) σ' → σ' 42 2 = sk o L p → Q (some (.inl 0)) σ') : AW d mX9_takes 0 [some (.inr (.inr 42)), some (.inr (.inr w))] [] σ Q := by
  have hp0 := h.f.2.2.2.1
  have hp1 := h.f.2.2.1
  have hL0 := h.f.1.2.2.1
  have hk := tok (o := o) (L := L) e hp0 (by omega)
  refine mtk_0 hw ⟨by omega, misH hw (by omega) h (fun S hM hR hS => ?_)⟩
  by_cases c : kd o L e (sk o L p) = 1 ∧ weq o (WC w) (sk o L p) (te o L (sk o L p)) = true
  · rw [if_pos c]
    have hX : pxW o L (WC w) p e = .inr (0, te o L (sk o L p), te o L (sk o L p)) := if_pos c
    have hlen := ((weq_iff (WC w) _ _).mp c.2).1
    refine mtk_5 hw ⟨by decide, fun _ S1 e1 S2 e2 => ?_, fun z => absurd z (by decide)⟩
    have hat : S1 42 2 = te o L (sk o L p) := by rw [e1, up_at, hS]; omega
    have hM2 : MFr S S2 := by rw [e2, e1]; exact ((MFr.rf S).up (by omega)).up (by omega)
    refine hq1 S2 _ hX (hM.tr hM2) ?_
    obtain ⟨_, ⟨h5, h6⟩, _, _, he0, he⟩ := hR.f
    have y2 : S2 42 2 = te o L (sk o L p) := by rw [e2, up_i (by decide)]; exact hat
    have y4 : S2 42 4 = te o L (sk o L p) := by rw [e2, up_at]; exact hat
    refine RTp.mk (hR.b hM2.1 (hM2.2 3 (by decide) (by decide) (by decide) (by decide) (by decide) (by decide))) ⟨?_, ?_⟩ ⟨?_, ?_, ?_⟩ (by omega) ?_ ?_
    · rw [e2, up_i (by decide), e1, up_i (by decide)]
      exact h5
    · rw [e2, up_i (by decide), e1, up_i (by decide)]
      exact h6
    · omega
    · omega
    · rw [y2]
    · omega
    · intro s _
      rw [y4]
  · rw [if_neg c]
    exact mtk_5 hw ⟨by decide, fun z => absurd rfl z, fun _ => hq0 S (if_neg c) hM hR hS⟩
theorem masksW {d w : Nat} {o : Int → Int} {L : Int} {X : PXv} {σ : SG} {Q : Option AV → SG → Prop} (hw : WP w) (hd : 4 ≤ d) (h : RTp o L X σ) (hq : ∀ σ', MFr σ σ' → RTp o L (pxb X (pxW o L (WC w))) σ' → Q none σ') : AW d mX9_asks 0 [some (.inr (.inr 42)), some (.inr (.inr w))] [] σ Q := by
  rcases X with ⟨k, pl⟩ | ⟨v, p, e⟩
  · have hg := h.g
    exact mas_0 hw ⟨by omega, fun _ => hq σ (MFr.rf σ) h, fun z => by omega⟩
  · have h5 := h.f.2.1
    refine mas_0 hw ⟨by omega, fun z => absurd h5.1 z, fun _ => ⟨by omega, mtakesW hw (by omega) h (fun S z hz hM hR => ?_) (fun S hz hM hR hS => ?_)⟩⟩
    · refine mas_12 hw ⟨by decide, fun _ => ?_, fun z => absurd z (by decide)⟩
      refine hq S hM ?_
      show RTp o L (pxW o L (WC w) p e) S
      rw [hz]
      exact hR
    · have h5' := hR.f.2.1
      refine mas_12 hw ⟨by decide, fun z => absurd rfl z, fun _ => ⟨by omega, by omega, fun _ S1 e1 S2 e2 => ?_, fun z => absurd h5'.1 z⟩⟩
      rw [e2, e1, hS]
      have hf := mfail (k := 1) (pl := sk o L p) hR (by decide)
      refine hq _ (hM.tr hf.2) ?_
      show RTp o L (pxW o L (WC w) p e) _
      rw [hz]
      exact hf.1
theorem mtakesS {d : Nat} {o : Int → Int} {L v p e c : Int} {σ : SG} {Q : Option AV → SG → Prop} (hc : 0 ≤ c ∧ c ≤ 255) (hcl : chL c = 0 ∧ chD c = 0) (hd : 2 ≤ d) (h : RTp o L (.inr (v, p, e)) σ) (hq1 : ∀ σ' z, pxS o L c p e = .inr z → MFr σ σ' → RTp o L (.inr z) σ' → σ' 42 2 = sk o L p + 1 → Q (some (.inl 1)) σ') (hq0 : ∀ σ', pxS o L c p e = .inl (1, sk o L p) → MFr σ σ' → RTp o L (.inr (v, p, e)) σ' → σ' 42 2 = sk o L p → Q (some (.inl 0)) σ') : AW d mX9_takesSign 0 [some (.inr (.inr 42)), some (.inl c)] [] σ Q := by
  have hp0 := h.f.2.2.2.1
  have hp1 := h.f.2.2.1
  have hL0 := h.f.1.2.2.1
  have ho := h.f.1.2.2.2.1
  have h5 := h.f.2.1
  have hk := tok (o := o) (L := L) e hp0 (by omega)
  have hlr := lkV_r (o := o) (L := L) (s := sk o L p) ho (by omega) hL0.2
  have k3 := kd_3 (o := o) (L := L) (e := e) (s := sk o L p)
  refine mtg_0 ⟨by omega, fun z => absurd h5.1 z, fun _ => ⟨by omega, mlook h (fun S _ hM hR hS => ?_)⟩⟩
  refine mtg_11 ⟨by omega, fun c1 S1 e1 => ?_, fun c1 => ?_⟩
  · have hc1 : sk o L p < L ∧ o (sk o L p) = c := by
      unfold lkV at c1
      split at c1
      · rename_i z
        exact ⟨z, c1⟩
      · omega
    have hX : pxS o L c p e = .inr (0, sk o L p + 1, -1) := if_pos ⟨k3.mpr ⟨hc1.1, by rw [hc1.2]; exact hcl.1, by rw [hc1.2]; exact hcl.2⟩, hc1.2⟩
    have hM2 : MFr S S1 := by rw [e1]; exact (MFr.rf S).up (by omega)
    have y2 : S1 42 2 = sk o L p + 1 := by rw [e1, up_at, hS]
    refine hq1 S1 _ hX (hM.tr hM2) ?_ y2
    obtain ⟨_, ⟨h5, h6⟩, _, _, he0, he⟩ := hR.f
    have y4 : S1 42 4 = S 42 4 := by rw [e1, up_i (by decide)]
    refine RTp.mk (hR.b hM2.1 (hM2.2 3 (by decide) (by decide) (by decide) (by decide) (by decide) (by decide))) ⟨?_, ?_⟩ ⟨?_, ?_, ?_⟩ (by omega) ?_ ?_
    · rw [e1, up_i (by decide)]
      exact h5
    · rw [e1, up_i (by decide)]
      exact h6
    · omega
    · omega
    · rw [y2]
    · omega
    · intro s hs
      rw [y4]
      exact ⟨fun z => by omega, fun z => by omega⟩
  · refine hq0 S (if_neg (fun z => c1 ?_)) hM hR hS
    unfold lkV
    rw [if_pos (k3.mp z.1).1]
    exact z.2
theorem masksS {d : Nat} {o : Int → Int} {L c : Int} {X : PXv} {σ : SG} {Q : Option AV → SG → Prop} (hc : 0 ≤ c ∧ c ≤ 255) (hcl : chL c = 0 ∧ chD c = 0) (hd : 3 ≤ d) (h : RTp o L X σ) (hq : ∀ σ', MFr σ σ' → RTp o L (pxb X (pxS o L c)) σ' → Q none σ') : AW d mX9_asksSign 0 [some (.inr (.inr 42)), some (.inl c)] [] σ Q := by
  rcases X with ⟨k, pl⟩ | ⟨v, p, e⟩
  · have hg := h.g
    exact mag_0 ⟨by omega, fun _ => hq σ (MFr.rf σ) h, fun z => by omega⟩
  · have h5 := h.f.2.1
    refine mag_0 ⟨by omega, fun z => absurd h5.1 z, fun _ => ⟨by omega, mtakesS hc hcl (by omega) h (fun S z hz hM hR _ => ?_) (fun S hz hM hR hS => ?_)⟩⟩
    · refine mag_12 ⟨by decide, fun _ => ?_, fun z => absurd z (by decide)⟩
      refine hq S hM ?_
      show RTp o L (pxS o L c p e) S
      rw [hz]
      exact hR
    · have h5' := hR.f.2.1
      refine mag_12 ⟨by decide, fun z => absurd rfl z, fun _ => ⟨by omega, by omega, fun _ S1 e1 S2 e2 => ?_, fun z => absurd h5'.1 z⟩⟩
      rw [e2, e1, hS]
      have hf := mfail (k := 1) (pl := sk o L p) hR (by decide)
      refine hq _ (hM.tr hf.2) ?_
      show RTp o L (pxS o L c p e) _
      rw [hz]
      exact hf.1
theorem mnumW {d : Nat} {o : Int → Int} {L lo hi : Int} {X : PXv} {σ : SG} {Q : Option AV → SG → Prop} (hlo : r3 lo) (hhi : r3 hi) (hd : 4 ≤ d) (h : RTp o L X σ) (hq : ∀ σ' v, MFr σ σ' → RTp o L (pxb X (pxN o L lo hi)) σ' → (0 ≤ v ∧ v ≤ 9999) → (∀ z0 z, X = .inr z0 → pxb X (pxN o L lo hi) = .inr z → v = z.1 ∧ σ' 42 10 = sk o L z0.2.1) → Q (some (.inl v)) σ') : AW d mX9_number 0 [some (.inr (.inr 42)), some (.inl lo), some (.inl hi), none, none] [] σ Q := by
  rcases X with ⟨k, pl⟩ | ⟨v, p, e⟩
  · have hg := h.g
    exact mnu_0 ⟨by omega, fun z => by omega, fun _ => hq σ 0 (MFr.rf σ) h (by decide) (fun z0 z hz => by cases hz)⟩
  · have h5 := h.f.2.1
    have hp0 := h.f.2.2.2.1
    have hp1 := h.f.2.2.1
    have hL0 := h.f.1.2.2.1
    have ho := h.f.1.2.2.2.1
    have hk := tok (o := o) (L := L) e hp0 (by omega)
    have hlr := lkV_r (o := o) (L := L) (s := sk o L p) ho (by omega) hL0.2
    have hlk := chD_lk (o := o) (L := L) (s := sk o L p)
    have k2 := kd_2 (o := o) (L := L) (e := e) (s := sk o L p)
    have hbr := fun (a : kd o L e (sk o L p) = 2) b => nb_r (o := o) (L := L) (e := e) hp0 (by omega) a b
    have hq : ∀ σ' v', MFr σ σ' → RTp o L (pxN o L lo hi p e) σ' → (0 ≤ v' ∧ v' ≤ 9999) → (∀ z, pxN o L lo hi p e = .inr z → v' = z.1 ∧ σ' 42 10 = sk o L p) → Q (some (.inl v')) σ' := fun σ' v' a b c e => hq σ' v' a b c (fun z0 z h0 h1 => by cases h0; exact e z h1)
    refine mnu_0 ⟨by omega, fun _ => ⟨by omega, mlook h (fun S _ hM hR hS => ?_)⟩, fun z => absurd h5.1 z⟩
    obtain ⟨⟨ht, hL, _, _, _⟩, ⟨h5', h6'⟩, _, _, he0, he⟩ := hR.f
    have hee := he (sk o L p) (by omega)
    have bad : ∀ v, v = 0 → pxN o L lo hi p e = .inl (1, sk o L p) → Q (some (.inl v)) (up (up S 42 5 1) 42 6 (sk o L p)) := by
      intro v hv hz
      have hf := mfail (k := 1) (pl := sk o L p) hR (by decide)
      refine hq _ v (hM.tr hf.2) ?_ (by omega) (fun z h1 => by rw [hz] at h1; cases h1)
      rw [hz]
      exact hf.1
    refine mnu_13 ?_
    rw [hS]
    refine ⟨by omega, by omega, chD_r _, fun c => ⟨by omega, by omega, fun _ S1 e1 S2 e2 => ?_, fun z => absurd h5' z⟩, fun c => ⟨by omega, fun c2 => ?_, fun c2 => ⟨by omega, by omega, fun _ S1 e1 S2 e2 => ?_, fun z => absurd h5' z⟩⟩⟩
    · rw [e2, e1]
      refine bad 0 rfl ?_
      unfold pxN
      rw [if_neg (fun z => absurd c (hlk.mpr ⟨(k2.mp z).1, (k2.mp z).2.1⟩))]
    · have hl := hlk.mp c
      have hk1 : kd o L e (sk o L p) = 2 := k2.mpr ⟨hl.1, hl.2, fun z => c2 (hee.mpr z)⟩
      obtain ⟨_, _, et⟩ := hk.2.2.2.2.2.1 hk1
      have hrn := rn_all (P := dgB o) (L := L) (p := sk o L p)
      generalize hs : sk o L p = s at *
      generalize htt : te o L s = t at *
      have e1 : pxN o L lo hi p e = if t - s ≤ 4 then (if lo ≤ nbV o s (t - s) ∧ nbV o s (t - s) ≤ hi then .inr (nbV o s (t - s), t, t) else .inl (2, s)) else .inl (1, s + 4) := by
        unfold pxN
        rw [hs, htt, if_pos hk1]
      rw [e1] at hq
      -- at the end of the digits
      have fin : t - s ≤ 4 → ∀ S42 S43, S42 = up (up S 42 2 t) 42 4 t → S43 = up S42 42 10 s → (∀ z, (lo ≤ nbV o s (t - s) ∧ nbV o s (t - s) ≤ hi) → Q z S43 ∨ z ≠ some (.inl (nbV o s (t - s)))) ∧ (¬ (lo ≤ nbV o s (t - s) ∧ nbV o s (t - s) ≤ hi) → Q (some (.inl (nbV o s (t - s)))) (up (up S43 42 5 2) 42 6 s)) ∧ S43 42 5 = 0 := by
        intro h4 S42 S43 e42 e43
        have hb := hbr hk1 h4
        rw [if_pos h4] at hq
        have hM2 : MFr S S43 := by rw [e43, e42]; exact (((MFr.rf S).up (by omega)).up (by omega)).up (by omega)
        have y2 : S43 42 2 = t := by rw [e43, up_i (by decide), e42, up_i (by decide), up_at]
        have y4 : S43 42 4 = t := by rw [e43, up_i (by decide), e42, up_at]
        have y5 : S43 42 5 = 0 := by rw [e43, up_i (by decide), e42, up_i (by decide), up_i (by decide)]; exact h5'
        have y6 : S43 42 6 = -1 := by rw [e43, up_i (by decide), e42, up_i (by decide), up_i (by decide)]; exact h6'
        have hR2 : RTp o L (.inr (nbV o s (t - s), t, t)) S43 := by
          refine RTp.mk (hR.b hM2.1 (hM2.2 3 (by decide) (by decide) (by decide) (by decide) (by decide) (by decide))) ⟨y5, y6⟩ ⟨by omega, by omega, by rw [y2]⟩ (by omega) (by omega) ?_
          intro s' _
          rw [y4]
        refine ⟨fun z hz => ?_, fun hz => ?_, y5⟩
        · by_cases cz : z = some (.inl (nbV o s (t - s)))
          · left
            rw [cz]
            rw [if_pos hz] at hq
            refine hq S43 _ (hM.tr hM2) hR2 hb (fun z h1 => ?_)
            cases h1
            exact ⟨rfl, by rw [e43, up_at]⟩
          · exact Or.inr cz
        · rw [if_neg hz] at hq
          have hf := mfail (k := 2) (pl := s) hR2 (by decide)
          exact hq _ _ ((hM.tr hM2).tr hf.2) hf.1 hb (fun z h1 => by cases h1)
      have loop := downInd (P := fun i => rn (dgB o) L i = t → i - s ≤ 4 → AW d mX9_number 49 [some (.inr (.inr 42)), some (.inl lo), some (.inl hi), some (.inl s), some (.inl (nbV o s (i - s)))] [] (up S 42 2 i) Q) (lo := s) (hi := L) (by omega) ?_ ?_ et.symm (by omega)
      · rw [show s - s = 0 by omega, show nbV o s 0 = 0 from rfl] at loop
        have eS : up S 42 2 s = S := by
          have := up_self S 42 2
          rw [hS] at this
          exact this
        rw [eS] at loop
        exact loop
      · intro hx hx4
        rw [rn_e (Int.le_refl _)] at hx
        have hb := hbr hk1 (by omega)
        refine mnu_49 ?_
        rw [up_at, up_i (by decide), hL, hx]
        refine ⟨by omega, fun _ S42 e42 S43 e43 => ?_, fun z => by omega⟩
        obtain ⟨f1, f2, f3⟩ := fin (by omega) S42 S43 e42 e43
        refine ⟨by omega, by omega, by omega, by omega, by omega, fun c3 => ⟨by omega, by omega, fun _ S1 e1 S2 e2 => ?_, fun z => absurd f3 z⟩, fun c3 => ⟨by omega, fun c4 => ⟨by omega, by omega, fun _ S1 e1 S2 e2 => ?_, fun z => absurd f3 z⟩, fun c4 => ?_⟩⟩
        · rw [e2, e1]
          exact f2 (by omega)
        · rw [e2, e1]
          exact f2 (by omega)
        · exact (f1 _ ⟨c3, c4⟩).resolve_right (fun z => z rfl)
      · intro i i0 i1 ih hx hx4
        have hoo := ho i (by omega) (by omega)
        refine mnu_49 ?_
        rw [up_at, up_i (by decide), hL, up_p (by decide), ht i (by omega) (by omega)]
        refine ⟨by omega, fun z => by omega, fun _ => ⟨by omega, by omega, by omega, chD_r _, fun c3 S42 e42 S43 e43 => ?_, fun c3 => ⟨by omega, fun c4 => ⟨by omega, fun S1 e1 => ?_⟩, fun c4 => ⟨by omega, by rw [up_i (by decide)]; omega, fun _ S1 e1 S2 e2 => ?_, fun z => ?_⟩⟩⟩⟩
        · rw [rn_n (decide_eq_false (fun z => z c3))] at hx
          have hb := hbr hk1 (by omega)
          rw [hx] at e42 ⊢
          obtain ⟨f1, f2, f3⟩ := fin (by omega) S42 S43 e42 e43
          refine ⟨by omega, by omega, by omega, by omega, by omega, fun c3 => ⟨by omega, by omega, fun _ S1 e1 S2 e2 => ?_, fun z => absurd f3 z⟩, fun c3 => ⟨by omega, fun c4 => ⟨by omega, by omega, fun _ S1 e1 S2 e2 => ?_, fun z => absurd f3 z⟩, fun c4 => ?_⟩⟩
          · rw [e2, e1]
            exact f2 (by omega)
          · rw [e2, e1]
            exact f2 (by omega)
          · exact (f1 _ ⟨c3, c4⟩).resolve_right (fun z => z rfl)
        · rw [rn_y i1 (decide_eq_true c3)] at hx
          have ihh := ih hx (by omega)
          have en : nbV o s (i + 1 - s) = 10 * nbV o s (i - s) + o i - 48 := by
            rw [show i + 1 - s = (i - s) + 1 by omega]
            have := foI_s (fun i v => 10 * v + o (s + i) - 48) 0 (show 0 ≤ i - s by omega)
            unfold nbV
            rw [this, show s + (i - s) = i by omega]
          rw [en] at ihh
          rw [e1, up_up]
          exact ihh
        · -- too many digits
          have h5i : t - s > 4 := by
            rw [rn_y i1 (decide_eq_true c3)] at hx
            have := (rn_all (P := dgB o) (L := L) (p := i + 1)).1
            omega
          have hf := mfail2 (k := 1) (pl := i) hR ((MFr.rf S).up (i := 2) (v := i) (by omega)) (by decide)
          rw [if_neg (by omega)] at hq
          rw [e2, e1]
          refine hq _ 0 (hM.tr hf.2) ?_ (by decide) (fun z h1 => by cases h1)
          rw [show s + 4 = i by omega]
          exact hf.1
        · rw [up_i (by decide)] at z
          exact absurd h5' z
    · rw [e2, e1]
      refine bad 0 rfl ?_
      unfold pxN
      rw [if_neg (fun z => (k2.mp z).2.2 (hee.mp c2))]
/-! names -/
theorem mown {d : Nat} {o : Int → Int} {L v p e : Int} {σ : SG} {Q : Option AV → SG → Prop} (hd : 3 ≤ d) (h : RTp o L (.inr (v, p, e)) σ) (hk : kd o L e (sk o L p) = 1) (hq : ∀ σ', MFr σ σ' → RTp o L (.inr (v, p, e)) σ' → σ' 42 2 = sk o L p → Q (some (.inl (if fstW o (sk o L p) (te o L (sk o L p)) (WL 0) 0 = -1 then 0 else 1))) σ') : AW d mX9_isOwnHere 0 [some (.inr (.inr 42)), none] [] σ Q := by
  have hit : ∀ (w : Nat), WC w ∈ WL 0 → weq o (WC w) (sk o L p) (te o L (sk o L p)) = true → ∀ σ', MFr σ σ' → RTp o L (.inr (v, p, e)) σ' → σ' 42 2 = sk o L p → Q (some (.inl 1)) σ' := by
    intro w hm hw σ' a b c
    have := hq σ' a b c
    rw [if_neg (fun z => by have := fstW_n (WL 0) 0 (by decide) z _ hm; rw [this] at hw; exact absurd hw (by decide))] at this
    exact this
  refine moh_0 ⟨by omega, misH (w := 45) (Or.inl (by decide)) (by omega) h (fun S0 hM0 hR0 hS0 => ?_)⟩
  by_cases c0 : weq o (WC 45) (sk o L p) (te o L (sk o L p)) = true
  · rw [if_pos ⟨hk, c0⟩]
    exact moh_8 ⟨by decide, fun _ => hit 45 (by decide) c0 S0 hM0 hR0 hS0, fun z => absurd z (by decide)⟩
  rw [if_neg (fun z => c0 z.2)]
  refine moh_8 ⟨by decide, fun z => absurd rfl z, fun _ => ⟨by omega, misH (w := 46) (Or.inl (by decide)) (by omega) hR0 (fun S1 hN1 hR1 hS1 => ?_)⟩⟩
  have hM1 := hM0.tr hN1
  by_cases c1 : weq o (WC 46) (sk o L p) (te o L (sk o L p)) = true
  · rw [if_pos ⟨hk, c1⟩]
    exact moh_19 ⟨by decide, fun _ => hit 46 (by decide) c1 S1 hM1 hR1 hS1, fun z => absurd z (by decide)⟩
  rw [if_neg (fun z => c1 z.2)]
  refine moh_19 ⟨by decide, fun z => absurd rfl z, fun _ => ⟨by omega, misH (w := 47) (Or.inl (by decide)) (by omega) hR1 (fun S2 hN2 hR2 hS2 => ?_)⟩⟩
  have hM2 := hM1.tr hN2
  by_cases c2 : weq o (WC 47) (sk o L p) (te o L (sk o L p)) = true
  · rw [if_pos ⟨hk, c2⟩]
    exact moh_30 ⟨by decide, fun _ => hit 47 (by decide) c2 S2 hM2 hR2 hS2, fun z => absurd z (by decide)⟩
  rw [if_neg (fun z => c2 z.2)]
  refine moh_30 ⟨by decide, fun z => absurd rfl z, fun _ => ⟨by omega, misH (w := 48) (Or.inl (by decide)) (by omega) hR2 (fun S3 hN3 hR3 hS3 => ?_)⟩⟩
  have hM3 := hM2.tr hN3
  by_cases c3 : weq o (WC 48) (sk o L p) (te o L (sk o L p)) = true
  · rw [if_pos ⟨hk, c3⟩]
    exact moh_41 ⟨by decide, fun _ => hit 48 (by decide) c3 S3 hM3 hR3 hS3, fun z => absurd z (by decide)⟩
  rw [if_neg (fun z => c3 z.2)]
  refine moh_41 ⟨by decide, fun z => absurd rfl z, fun _ => ⟨by omega, misH (w := 49) (Or.inl (by decide)) (by omega) hR3 (fun S4 hN4 hR4 hS4 => ?_)⟩⟩
  have hM4 := hM3.tr hN4
  by_cases c4 : weq o (WC 49) (sk o L p) (te o L (sk o L p)) = true
  · rw [if_pos ⟨hk, c4⟩]
    exact moh_52 ⟨by decide, fun _ => hit 49 (by decide) c4 S4 hM4 hR4 hS4, fun z => absurd z (by decide)⟩
  rw [if_neg (fun z => c4 z.2)]
  refine moh_52 ⟨by decide, fun z => absurd rfl z, fun _ => ⟨by omega, misH (w := 50) (Or.inl (by decide)) (by omega) hR4 (fun S5 hN5 hR5 hS5 => ?_)⟩⟩
  have hM5 := hM4.tr hN5
  by_cases c5 : weq o (WC 50) (sk o L p) (te o L (sk o L p)) = true
  · rw [if_pos ⟨hk, c5⟩]
    exact moh_63 ⟨by decide, fun z => absurd z (by decide), fun _ => hit 50 (by decide) c5 S5 hM5 hR5 hS5⟩
  rw [if_neg (fun z => c5 z.2)]
  refine moh_63 ⟨by decide, fun _ => ⟨by omega, misH (w := 51) (Or.inl (by decide)) (by omega) hR5 (fun S6 hN6 hR6 hS6 => ?_)⟩, fun z => absurd rfl z⟩
  have hM6 := hM5.tr hN6
  by_cases c6 : weq o (WC 51) (sk o L p) (te o L (sk o L p)) = true
  · rw [if_pos ⟨hk, c6⟩]
    exact moh_84 ⟨by decide, fun _ => hit 51 (by decide) c6 S6 hM6 hR6 hS6, fun z => absurd z (by decide)⟩
  rw [if_neg (fun z => c6 z.2)]
  refine moh_84 ⟨by decide, fun z => absurd rfl z, fun _ => ⟨by omega, misH (w := 52) (Or.inl (by decide)) (by omega) hR6 (fun S7 hN7 hR7 hS7 => ?_)⟩⟩
  have hM7 := hM6.tr hN7
  by_cases c7 : weq o (WC 52) (sk o L p) (te o L (sk o L p)) = true
  · rw [if_pos ⟨hk, c7⟩]
    exact moh_95 ⟨by decide, fun _ => hit 52 (by decide) c7 S7 hM7 hR7 hS7, fun z => absurd z (by decide)⟩
  rw [if_neg (fun z => c7 z.2)]
  refine moh_95 ⟨by decide, fun z => absurd rfl z, fun _ => ⟨by omega, misH (w := 53) (Or.inl (by decide)) (by omega) hR7 (fun S8 hN8 hR8 hS8 => ?_)⟩⟩
  have hM8 := hM7.tr hN8
  by_cases c8 : weq o (WC 53) (sk o L p) (te o L (sk o L p)) = true
  · rw [if_pos ⟨hk, c8⟩]
    exact moh_106 ⟨by decide, fun _ => hit 53 (by decide) c8 S8 hM8 hR8 hS8, fun z => absurd z (by decide)⟩
  rw [if_neg (fun z => c8 z.2)]
  refine moh_106 ⟨by decide, fun z => absurd rfl z, fun _ => ⟨by omega, misH (w := 54) (Or.inl (by decide)) (by omega) hR8 (fun S9 hN9 hR9 hS9 => ?_)⟩⟩
  have hM9 := hM8.tr hN9
  by_cases c9 : weq o (WC 54) (sk o L p) (te o L (sk o L p)) = true
  · rw [if_pos ⟨hk, c9⟩]
    exact moh_117 ⟨by decide, fun _ => hit 54 (by decide) c9 S9 hM9 hR9 hS9, fun z => absurd z (by decide)⟩
  rw [if_neg (fun z => c9 z.2)]
  refine moh_117 ⟨by decide, fun z => absurd rfl z, fun _ => ⟨by omega, misH (w := 55) (Or.inl (by decide)) (by omega) hR9 (fun S10 hN10 hR10 hS10 => ?_)⟩⟩
  have hM10 := hM9.tr hN10
  by_cases c10 : weq o (WC 55) (sk o L p) (te o L (sk o L p)) = true
  · rw [if_pos ⟨hk, c10⟩]
    exact moh_128 ⟨by decide, fun _ => hit 55 (by decide) c10 S10 hM10 hR10 hS10, fun z => absurd z (by decide)⟩
  rw [if_neg (fun z => c10 z.2)]
  refine moh_128 ⟨by decide, fun z => absurd rfl z, fun _ => ⟨by omega, misH (w := 56) (Or.inl (by decide)) (by omega) hR10 (fun S11 hN11 hR11 hS11 => ?_)⟩⟩
  have hM11 := hM10.tr hN11
  by_cases c11 : weq o (WC 56) (sk o L p) (te o L (sk o L p)) = true
  · rw [if_pos ⟨hk, c11⟩]
    exact moh_139 ⟨by decide, fun z => absurd z (by decide), fun _ => hit 56 (by decide) c11 S11 hM11 hR11 hS11⟩
  rw [if_neg (fun z => c11 z.2)]
  refine moh_139 ⟨by decide, fun _ => ⟨by omega, misH (w := 57) (Or.inl (by decide)) (by omega) hR11 (fun S12 hN12 hR12 hS12 => ?_)⟩, fun z => absurd rfl z⟩
  have hM12 := hM11.tr hN12
  by_cases c12 : weq o (WC 57) (sk o L p) (te o L (sk o L p)) = true
  · rw [if_pos ⟨hk, c12⟩]
    exact moh_160 ⟨by decide, fun _ => hit 57 (by decide) c12 S12 hM12 hR12 hS12, fun z => absurd z (by decide)⟩
  rw [if_neg (fun z => c12 z.2)]
  refine moh_160 ⟨by decide, fun z => absurd rfl z, fun _ => ⟨by omega, misH (w := 58) (Or.inl (by decide)) (by omega) hR12 (fun S13 hN13 hR13 hS13 => ?_)⟩⟩
  have hM13 := hM12.tr hN13
  by_cases c13 : weq o (WC 58) (sk o L p) (te o L (sk o L p)) = true
  · rw [if_pos ⟨hk, c13⟩]
    exact moh_171 ⟨by decide, fun _ => hit 58 (by decide) c13 S13 hM13 hR13 hS13, fun z => absurd z (by decide)⟩
  rw [if_neg (fun z => c13 z.2)]
  refine moh_171 ⟨by decide, fun z => absurd rfl z, fun _ => ⟨by omega, misH (w := 59) (Or.inl (by decide)) (by omega) hR13 (fun S14 hN14 hR14 hS14 => ?_)⟩⟩
  have hM14 := hM13.tr hN14
  by_cases c14 : weq o (WC 59) (sk o L p) (te o L (sk o L p)) = true
  · rw [if_pos ⟨hk, c14⟩]
    exact moh_182 ⟨by decide, fun _ => hit 59 (by decide) c14 S14 hM14 hR14 hS14, fun z => absurd z (by decide)⟩
  rw [if_neg (fun z => c14 z.2)]
  refine moh_182 ⟨by decide, fun z => absurd rfl z, fun _ => ⟨by omega, misH (w := 60) (Or.inl (by decide)) (by omega) hR14 (fun S15 hN15 hR15 hS15 => ?_)⟩⟩
  have hM15 := hM14.tr hN15
  by_cases c15 : weq o (WC 60) (sk o L p) (te o L (sk o L p)) = true
  · rw [if_pos ⟨hk, c15⟩]
    exact moh_193 ⟨by decide, fun z => absurd z (by decide), fun _ => hit 60 (by decide) c15 S15 hM15 hR15 hS15⟩
  rw [if_neg (fun z => c15 z.2)]
  have hQ := hq S15 hM15 hR15 hS15
  have hno : fstW o (sk o L p) (te o L (sk o L p)) (WL 0) 0 = -1 := by
    show (if _ then _ else _) = _
    rw [if_neg c0]
    show (if _ then _ else _) = _
    rw [if_neg c1]
    show (if _ then _ else _) = _
    rw [if_neg c2]
    show (if _ then _ else _) = _
    rw [if_neg c3]
    show (if _ then _ else _) = _
    rw [if_neg c4]
    show (if _ then _ else _) = _
    rw [if_neg c5]
    show (if _ then _ else _) = _
    rw [if_neg c6]
    show (if _ then _ else _) = _
    rw [if_neg c7]
    show (if _ then _ else _) = _
    rw [if_neg c8]
    show (if _ then _ else _) = _
    rw [if_neg c9]
    show (if _ then _ else _) = _
    rw [if_neg c10]
    show (if _ then _ else _) = _
    rw [if_neg c11]
    show (if _ then _ else _) = _
    rw [if_neg c12]
    show (if _ then _ else _) = _
    rw [if_neg c13]
    show (if _ then _ else _) = _
    rw [if_neg c14]
    show (if _ then _ else _) = _
    rw [if_neg c15]
    rfl
  rw [if_pos hno] at hQ
  exact moh_193 ⟨by decide, fun _ => hQ, fun z => absurd rfl z⟩
theorem nameV_r {o : Int → Int} {s : Int} : ∀ n : Nat, n ≤ 6 → (∀ i, 0 ≤ i → i < (n : Int) → 1 ≤ o (s + i) - 97 + 1 ∧ o (s + i) - 97 + 1 ≤ 26) → 0 ≤ foI (fun k v => 27 * v + (o (s + k) - 97 + 1)) 0 (n : Int) ∧ foI (fun k v => 27 * v + (o (s + k) - 97 + 1)) 0 (n : Int) + 1 ≤ 27 ^ n := by
  intro n
  induction n with
  | zero => intro _ _; exact ⟨Int.le_refl _, Int.le_refl _⟩
  | succ n ih =>
    intro hn h
    have h1 := ih (by omega) (fun i a b => h i a (by omega))
    have h2 := h n (by omega) (by omega)
    rw [show ((n + 1 : Nat) : Int) = (n : Int) + 1 by omega, foI_s _ _ (by omega)]
    have e2 : (27 : Int) ^ (n + 1) = 27 ^ n * 27 := Int.pow_succ 27 n
    omega
def nameV (o : Int → Int) (s t : Int) : Int := foI (fun k v => 27 * v + (o (s + k) - 97 + 1)) 0 (t - s)
theorem name_lt {o : Int → Int} {L p e : Int} (h0 : 0 ≤ p) (h1 : p ≤ L) (hk : kd o L e (sk o L p) = 1) : sk o L p < te o L (sk o L p) ∧ ∀ i, 0 ≤ i → sk o L p + i < te o L (sk o L p) → 1 ≤ o (sk o L p + i) - 97 + 1 ∧ o (sk o L p + i) - 97 + 1 ≤ 26 := by
  have ht := tok (o := o) e h0 h1
  obtain ⟨hl, hb, et⟩ := ht.2.2.2.2.1 hk
  have hr := rn_all (P := ltB o) (L := L) (p := sk o L p)
  have hy := rn_y hl hb
  have hr1 := (rn_all (P := ltB o) (L := L) (p := sk o L p + 1)).1
  refine ⟨by rw [et, hy]; omega, fun i i0 i1 => ?_⟩
  have := hr.2.2.2.1 (sk o L p + i) (by omega) (by rw [← et]; omega)
  have hd := of_decide_eq_true this
  unfold chL at hd
  by_cases c : 97 ≤ o (sk o L p + i) ∧ o (sk o L p + i) ≤ 122
  · omega
  · rw [if_neg c] at hd
    exact absurd rfl hd
theorem nameV_r6 {o : Int → Int} {L p e : Int} (h0 : 0 ≤ p) (h1 : p ≤ L) (hk : kd o L e (sk o L p) = 1) {t : Int} (ht0 : sk o L p ≤ t) (ht1 : t ≤ te o L (sk o L p)) (h6 : t - sk o L p ≤ 6) : 0 ≤ nameV o (sk o L p) t ∧ nameV o (sk o L p) t < 387420489 := by
  have hn := name_lt h0 h1 hk
  have h := nameV_r (o := o) (s := sk o L p) (t - sk o L p).toNat (by omega) (fun i i0 i1 => hn.2 i i0 (by omega))
  rw [show (((t - sk o L p).toNat : Nat) : Int) = t - sk o L p by omega] at h
  have hp : (27 : Int) ^ (t - sk o L p).toNat ≤ 387420489 := by
    have : ∀ n : Nat, n ≤ 6 → (27 : Int) ^ n ≤ 387420489 := by decide
    exact this _ (by omega)
  unfold nameV
  omega
theorem mnameW {d : Nat} {o : Int → Int} {L : Int} {X : PXv} {σ : SG} {Q : Option AV → SG → Prop} (hd : 5 ≤ d) (h : RTp o L X σ) (hq : ∀ σ' v, MFr σ σ' → RTp o L (pxb X (pxM o L)) σ' → (0 ≤ v ∧ v < 387420489) → (∀ z, pxb X (pxM o L) = .inr z → v = nameV o z.1 z.2.1 ∧ σ' 42 27 = z.1) → Q (some (.inr (.inl v))) σ') : AW d mX9_name 0 [some (.inr (.inr 42)), none, none] [] σ Q := by
  rcases X with ⟨k, pl⟩ | ⟨v, p, e⟩
  · have hg := h.g
    exact mna_0 ⟨by omega, fun z => by omega, fun _ => hq σ 0 (MFr.rf σ) h (by decide) (fun z hz => by cases hz)⟩
  · have h5 := h.f.2.1
    have hp0 := h.f.2.2.2.1
    have hp1 := h.f.2.2.1
    have hL0 := h.f.1.2.2.1
    have ho := h.f.1.2.2.2.1
    have hk := tok (o := o) (L := L) e hp0 (by omega)
    have hlr := lkV_r (o := o) (L := L) (s := sk o L p) ho (by omega) hL0.2
    have hlk := chL_lk (o := o) (L := L) (s := sk o L p)
    have k1 := kd_1 (o := o) (L := L) (e := e) (s := sk o L p)
    have hq : ∀ σ' v', MFr σ σ' → RTp o L (pxM o L p e) σ' → (0 ≤ v' ∧ v' < 387420489) → (∀ z, pxM o L p e = .inr z → v' = nameV o z.1 z.2.1 ∧ σ' 42 27 = z.1) → Q (some (.inr (.inl v'))) σ' := hq
    refine mna_0 ⟨by omega, fun _ => ⟨by omega, mlook h (fun S _ hM hR hS => ?_)⟩, fun z => absurd h5.1 z⟩
    obtain ⟨_, ⟨h5', h6'⟩, _, _, he0, he⟩ := hR.f
    have hee := he (sk o L p) (by omega)
    have bad : ∀ S, MFr σ S → RTp o L (.inr (v, p, e)) S → pxM o L p e = .inl (1, sk o L p) → Q (some (.inr (.inl 0))) (up (up S 42 5 1) 42 6 (sk o L p)) := by
      intro S hM hR hz
      have hf := mfail (k := 1) (pl := sk o L p) hR (by decide)
      refine hq _ 0 (hM.tr hf.2) ?_ (by decide) (fun z h1 => by rw [hz] at h1; cases h1)
      rw [hz]
      exact hf.1
    refine mna_13 ?_
    rw [hS]
    refine ⟨by omega, by omega, chL_r _, fun c => ⟨by omega, by omega, fun _ S1 e1 S2 e2 => ?_, fun z => absurd h5' z⟩, fun c => ⟨by omega, fun c2 => ⟨by omega, by omega, fun _ S1 e1 S2 e2 => ?_, fun z => absurd h5' z⟩, fun c2 => ⟨by omega, ?_⟩⟩⟩
    · rw [e2, e1]
      refine bad S hM hR ?_
      unfold pxM
      rw [if_neg (fun z => absurd c (hlk.mpr ⟨(k1.mp z.1).1, (k1.mp z.1).2.1⟩))]
    · rw [e2, e1]
      refine bad S hM hR ?_
      unfold pxM
      rw [if_neg (fun z => (k1.mp z.1).2.2 (hee.mp c2))]
    · have hl := hlk.mp c
      have hk1 : kd o L e (sk o L p) = 1 := k1.mpr ⟨hl.1, hl.2, fun z => c2 (hee.mpr z)⟩
      obtain ⟨_, _, et⟩ := hk.2.2.2.2.1 hk1
      have hnl := name_lt (o := o) (L := L) (e := e) hp0 (by omega) hk1
      have hnr := fun (t : Int) a b c => nameV_r6 (o := o) (L := L) (e := e) hp0 (by omega) hk1 (t := t) a b c
      refine mown (by omega) hR hk1 (fun T hMT hRT hT => ?_)
      obtain ⟨⟨ht, hL, _, _, _⟩, ⟨h5t, h6t⟩, _, _, _, _⟩ := hRT.f
      by_cases cw : fstW o (sk o L p) (te o L (sk o L p)) (WL 0) 0 = -1
      · rw [if_pos cw]
        refine mna_34 ⟨by decide, fun _ U eU => ?_, fun z => absurd rfl z⟩
        have e1 : pxM o L p e = if te o L (sk o L p) - sk o L p ≤ 6 then .inr (sk o L p, te o L (sk o L p), te o L (sk o L p)) else .inl (1, sk o L p + 6) := by
          unfold pxM
          rw [if_pos ⟨hk1, cw⟩]
        rw [e1] at hq
        generalize hs : sk o L p = s at *
        generalize htt : te o L s = t at *
        rw [hT] at eU
        have hMU : MFr T U := by rw [eU]; exact (MFr.rf T).up (by omega)
        have u2 : U 42 2 = s := by rw [eU, up_i (by decide)]; exact hT
        have u3 : U 42 3 = L := by rw [eU, up_i (by decide)]; exact hL
        have u5 : U 42 5 = 0 := by rw [eU, up_i (by decide)]; exact h5t
        have u6 : U 42 6 = -1 := by rw [eU, up_i (by decide)]; exact h6t
        have u27 : U 42 27 = s := by rw [eU, up_at]
        have u43 : ∀ i, 0 ≤ i → i < 1600 → U 43 i = o i := fun i a b => by rw [hMU.1 43 (by decide)]; exact ht i a b
        have fin : t - s ≤ 6 → ∀ V, V = up (up U 42 2 t) 42 4 t → Q (some (.inr (.inl (nameV o s t)))) V := by
          intro h6 V eV
          rw [if_pos h6] at hq
          have hMV : MFr T V := by rw [eV]; exact (hMU.up (by omega)).up (by omega)
          have y2 : V 42 2 = t := by rw [eV, up_i (by decide), up_at]
          have y4 : V 42 4 = t := by rw [eV, up_at]
          have y5 : V 42 5 = 0 := by rw [eV, up_i (by decide), up_i (by decide)]; exact u5
          have y6 : V 42 6 = -1 := by rw [eV, up_i (by decide), up_i (by decide)]; exact u6
          refine hq V _ ((hM.tr hMT).tr hMV) ?_ (hnr t (by omega) (by omega) h6) (fun z h1 => ?_)
          · refine RTp.mk (hRT.b hMV.1 (hMV.2 3 (by decide) (by decide) (by decide) (by decide) (by decide) (by decide))) ⟨y5, y6⟩ ⟨by omega, by omega, by rw [y2]⟩ (by omega) (by omega) ?_
            intro s' _
            rw [y4]
          · cases h1
            exact ⟨rfl, by rw [eV, up_i (by decide), up_i (by decide)]; exact u27⟩
        have loop := downInd (P := fun i => rn (ltB o) L i = t → i - s ≤ 6 → AW d mX9_name 58 [some (.inr (.inr 42)), some (.inr (.inl (nameV o s i))), none] [] (up U 42 2 i) Q) (lo := s) (hi := L) (by omega) ?_ ?_ et.symm (by omega)
        · have e0 : nameV o s s = 0 := by unfold nameV; rw [show s - s = 0 by omega]; rfl
          rw [e0] at loop
          have eS : up U 42 2 s = U := by
            have := up_self U 42 2
            rw [u2] at this
            exact this
          rw [eS] at loop
          exact loop
        · intro hx hx6
          rw [rn_e (Int.le_refl _)] at hx
          refine mna_58 ?_
          rw [up_at, up_i (by decide), u3, hx]
          exact ⟨by omega, fun _ V eV => fin (by omega) V eV, fun z => by omega⟩
        · intro i i0 i1 ih hx hx6
          have hoo := ho i (by omega) (by omega)
          refine mna_58 ?_
          rw [up_at, up_i (by decide), u3, up_p (by decide), u43 i (by omega) (by omega), up_i (by decide), u27, up_i (by decide), u5]
          refine ⟨by omega, fun z => by omega, fun _ => ⟨by omega, by omega, by omega, chL_r _, fun c3 V eV => ?_, fun c3 => ⟨by omega, fun c4 => ⟨by omega, by omega, fun V eV => ?_⟩, fun c4 => ⟨by omega, by omega, fun _ S1 e1 S2 e2 => ?_, fun z => absurd rfl z⟩⟩⟩⟩
          · rw [rn_n (decide_eq_false (fun z => z c3))] at hx
            rw [hx] at eV hx6 ⊢
            exact fin hx6 V eV
          · rw [rn_y i1 (decide_eq_true c3)] at hx
            have ihh := ih hx (by omega)
            have en : nameV o s (i + 1) = 27 * nameV o s i + o i - 97 + 1 := by
              unfold nameV
              rw [show i + 1 - s = (i - s) + 1 by omega]
              rw [foI_s _ _ (show 0 ≤ i - s by omega), show s + (i - s) = i by omega]
              omega
            rw [en] at ihh
            rw [eV, up_up]
            exact ihh
          · have h7 : ¬ t - s ≤ 6 := by
              rw [rn_y i1 (decide_eq_true c3)] at hx
              have := (rn_all (P := ltB o) (L := L) (p := i + 1)).1
              omega
            have hf := mfail2 (k := 1) (pl := i) hRT (hMU.up (i := 2) (v := i) (by omega)) (by decide)
            rw [if_neg h7] at hq
            rw [e2, e1]
            refine hq _ 0 ((hM.tr hMT).tr hf.2) ?_ (by decide) (fun z h1 => by cases h1)
            rw [show s + 6 = i by omega]
            exact hf.1
      · rw [if_neg cw]
        refine mna_34 ?_
        rw [hT]
        refine ⟨by decide, fun z => absurd z (by decide), fun _ => ⟨by omega, by omega, fun _ S1 e1 S2 e2 => ?_, fun z => absurd h5t z⟩⟩
        rw [e2, e1]
        refine bad T (hM.tr hMT) hRT ?_
        unfold pxM
        rw [if_neg (fun z => cw z.2)]
theorem mnmo {d : Nat} {k v : Int} {σ : SG} {Q : Option AV → SG → Prop} (hk : 0 ≤ k ∧ k < 4) (hv : r6 v) (hm : 0 ≤ σ 61 k ∧ σ 61 k ≤ 8) (hn : ∀ i, 0 ≤ i → i < σ 61 k → r6 (σ 62 (8 * k + i))) (hq : Q (some (.inl (fstI (fun i => decide (σ 62 (8 * k + i) = v)) (σ 61 k)))) σ) : AW d mX9_nameOf 0 [some (.inr (.inr 42)), some (.inl k), some (.inr (.inl v)), none, none] [] σ Q := by
  refine mno_0 ?_
  have key := downInd (P := fun i => fstI (fun i => decide (σ 62 (8 * k + i) = v)) i = -1 → AW d mX9_nameOf 3 [some (.inr (.inr 42)), some (.inl k), some (.inr (.inl v)), none, some (.inl i)] [] σ Q) (lo := 0) (hi := σ 61 k) hm.1 ?_ ?_ rfl
  · exact key
  · intro hf
    rw [hf] at hq
    exact mno_3 ⟨by omega, by omega, fun _ => hq, fun z => by omega⟩
  · intro i i0 i1 ih hf
    have hni := hn i i0 i1
    have hs := fstI_s (fun i => decide (σ 62 (8 * k + i) = v)) i0
    rw [if_pos hf] at hs
    refine mno_3 ⟨by omega, by omega, fun z => by omega, fun _ => ⟨by omega, ⟨hni, hv⟩, fun c => ih ?_, fun c => ?_⟩⟩
    · rw [if_neg (fun z => c (of_decide_eq_true z))] at hs
      exact hs
    · have := fstI_hit (fun i => decide (σ 62 (8 * k + i) = v)) i0 i1 hf (decide_eq_true c)
      rw [this] at hq
      exact hq
theorem nm_inj {a b : Int → Int} : ∀ m n : Nat, (∀ k, 0 ≤ k → k < (m : Int) → 1 ≤ a k ∧ a k ≤ 26) → (∀ k, 0 ≤ k → k < (n : Int) → 1 ≤ b k ∧ b k ≤ 26) → foI (fun k v => 27 * v + a k) 0 (m : Int) = foI (fun k v => 27 * v + b k) 0 (n : Int) → m = n ∧ ∀ k, 0 ≤ k → k < (m : Int) → a k = b k := by
  have pos : ∀ (b : Int → Int) (n : Nat), (∀ k, 0 ≤ k → k < (n : Int) → 1 ≤ b k ∧ b k ≤ 26) → 0 ≤ foI (fun k v => 27 * v + b k) 0 (n : Int) := by
    intro b n
    induction n with
    | zero => intro _; exact Int.le_refl _
    | succ n ih =>
      intro h
      have h1 := ih (fun k x y => h k x (by omega))
      have h2 := h n (by omega) (by omega)
      rw [show ((n + 1 : Nat) : Int) = (n : Int) + 1 by omega, foI_s _ _ (by omega)]
      omega
  intro m
  induction m with
  | zero =>
    intro n _ hb h
    cases n with
    | zero => exact ⟨rfl, fun k x y => by omega⟩
    | succ n =>
      have h1 := pos b n (fun k x y => hb k x (by omega))
      have h2 := hb n (by omega) (by omega)
      rw [show ((n + 1 : Nat) : Int) = (n : Int) + 1 by omega, foI_s _ _ (by omega)] at h
      have h0 : foI (fun k v => 27 * v + a k) 0 ((0 : Nat) : Int) = 0 := rfl
      omega
  | succ m ih =>
    intro n ha hb h
    have p1 := pos a m (fun k x y => ha k x (by omega))
    have p2 := ha m (by omega) (by omega)
    cases n with
    | zero =>
      rw [show ((m + 1 : Nat) : Int) = (m : Int) + 1 by omega, foI_s _ _ (by omega)] at h
      have h0 : foI (fun k v => 27 * v + b k) 0 ((0 : Nat) : Int) = 0 := rfl
      omega
    | succ n =>
      have q1 := pos b n (fun k x y => hb k x (by omega))
      have q2 := hb n (by omega) (by omega)
      rw [show ((m + 1 : Nat) : Int) = (m : Int) + 1 by omega, foI_s _ _ (by omega), show ((n + 1 : Nat) : Int) = (n : Int) + 1 by omega, foI_s _ _ (by omega)] at h
      obtain ⟨e1, e2⟩ := ih n (fun k x y => ha k x (by omega)) (fun k x y => hb k x (by omega)) (by omega)
      subst e1
      refine ⟨rfl, fun k k0 k1 => ?_⟩
      by_cases c : k < (m : Int)
      · exact e2 k k0 c
      · obtain rfl : k = (m : Int) := by omega
        have := ih m (fun k x y => ha k x (by omega)) (fun k x y => hb k x (by omega))
        omega
theorem NM_inj {a b : Int → Int} {v w : Int} (ha : NM a v) (hb : NM b w) : v = w ↔ ∀ k : Nat, k < 6 → a (k : Int) = b (k : Int) := by
  obtain ⟨m, m0, ma, mz, mv⟩ := ha
  obtain ⟨n, n0, nb, nz, nv⟩ := hb
  have em : m = ((m.toNat : Nat) : Int) := by omega
  have en : n = ((n.toNat : Nat) : Int) := by omega
  constructor
  · intro h
    rw [mv, nv, em, en] at h
    obtain ⟨e1, e2⟩ := nm_inj m.toNat n.toNat (fun k x y => ma k x (by omega)) (fun k x y => nb k x (by omega)) h
    intro k hk
    by_cases c : (k : Int) < m
    · exact e2 k (by omega) (by omega)
    · rw [mz k (by omega) (by omega), nz k (by omega) (by omega)]
  · intro h
    have emn : m = n := by
      rcases Int.lt_trichotomy m n with c | c | c
      · have h1 := nb m (by omega) c
        have h2 := h m.toNat (by omega)
        rw [← em, mz m (Int.le_refl _) (by omega)] at h2
        omega
      · exact c
      · have h1 := ma n (by omega) c
        have h2 := h n.toNat (by omega)
        rw [← en, nz n (Int.le_refl _) (by omega)] at h2
        omega
    subst emn
    rw [mv, nv]
    apply foI_cong
    intro i x i0 i1
    have := h i.toNat (by omega)
    rw [show ((i.toNat : Nat) : Int) = i by omega] at this
    rw [this]
theorem NM_here {o : Int → Int} {L p e : Int} (h0 : 0 ≤ p) (h1 : p ≤ L) (hk : kd o L e (sk o L p) = 1) (h6 : te o L (sk o L p) - sk o L p ≤ 6) : NM (fun k => ltH o (sk o L p) (te o L (sk o L p)) k) (nameV o (sk o L p) (te o L (sk o L p))) := by
  have hn := name_lt h0 h1 hk
  refine ⟨te o L (sk o L p) - sk o L p, by omega, fun k k0 k1 => ?_, fun k k0 k1 => ?_, ?_⟩
  · show 1 ≤ ltH o _ _ k ∧ ltH o _ _ k ≤ 26
    unfold ltH
    rw [if_pos (by omega)]
    exact hn.2 k k0 (by omega)
  · show ltH o _ _ k = 0
    unfold ltH
    rw [if_neg (by omega)]
  · unfold nameV
    apply foI_cong
    intro k x k0 k1
    show _ = 27 * x + ltH o (sk o L p) (te o L (sk o L p)) k
    unfold ltH
    rw [if_pos (by omega)]
theorem NM_r {a : Int → Int} {v : Int} (h : NM a v) : 0 ≤ v ∧ v < 387420489 := by
  obtain ⟨m, m0, ma, mz, mv⟩ := h
  have h := nameV_r (o := fun i => a i + 97 - 1) (s := 0) m.toNat (by omega) (fun i i0 i1 => by
    have := ma i i0 (by omega)
    show 1 ≤ a (0 + i) + 97 - 1 - 97 + 1 ∧ _ ≤ _
    rw [show (0 : Int) + i = i by omega]
    omega)
  have e : foI (fun k v => 27 * v + ((fun i => a i + 97 - 1) (0 + k) - 97 + 1)) 0 ((m.toNat : Nat) : Int) = v := by
    rw [mv, show ((m.toNat : Nat) : Int) = m by omega]
    apply foI_cong
    intro i x i0 i1
    show 27 * x + (a (0 + i) + 97 - 1 - 97 + 1) = _
    rw [show (0 : Int) + i = i by omega]
    omega
  rw [e] at h
  have hp : (27 : Int) ^ m.toNat ≤ 387420489 := by
    have : ∀ n : Nat, n ≤ 6 → (27 : Int) ^ n ≤ 387420489 := by decide
    exact this _ (by omega)
  omega
/-- the reference's names against the class's -/
def NRl (nm : Int → Int) (tw gd : Int) (σ : SG) : Prop := (σ 61 0 = tw ∧ 0 ≤ tw ∧ tw ≤ 4) ∧ (σ 61 1 = gd ∧ 0 ≤ gd ∧ gd ≤ 8) ∧ (∀ t, 0 ≤ t → t < tw → NM (fun k => nm (t * 6 + k)) (σ 62 t)) ∧ (∀ g, 0 ≤ g → g < gd → NM (fun k => nm ((4 + g) * 6 + k)) (σ 62 (8 + g)))
theorem NRl.tw {nm : Int → Int} {tw gd : Int} {σ : SG} (h : NRl nm tw gd σ) {o : Int → Int} {s t v : Int} (hn : NM (fun k => ltH o s t k) v) : fstI (fun i => decide (σ 62 (8 * 0 + i) = v)) (σ 61 0) = twN nm tw o s t := by
  rw [h.1.1]
  unfold twN
  apply fstI_cong
  intro i i0 i1
  unfold nmH
  rw [show (8 : Int) * 0 + i = i by omega]
  apply decide_eq_decide.mpr
  exact NM_inj (h.2.2.1 i i0 i1) hn
theorem NRl.gd {nm : Int → Int} {tw gd : Int} {σ : SG} (h : NRl nm tw gd σ) {o : Int → Int} {s t v : Int} (hn : NM (fun k => ltH o s t k) v) : fstI (fun i => decide (σ 62 (8 * 1 + i) = v)) (σ 61 1) = gdN nm gd o s t := by
  rw [h.2.1.1]
  unfold gdN
  apply fstI_cong
  intro i i0 i1
  unfold nmH
  rw [show (8 : Int) * 1 + i = 8 + i by omega]
  apply decide_eq_decide.mpr
  exact NM_inj (h.2.2.2 i i0 i1) hn
theorem NRl.cong {nm : Int → Int} {tw gd : Int} {σ σ' : SG} (h : NRl nm tw gd σ) (e1 : σ' 61 = σ 61) (e2 : σ' 62 = σ 62) : NRl nm tw gd σ' := by
  unfold NRl
  rw [e1, e2]
  exact h
theorem NRl.r0 {nm : Int → Int} {tw gd : Int} {σ : SG} (h : NRl nm tw gd σ) : ∀ i, 0 ≤ i → i < σ 61 0 → r6 (σ 62 (8 * 0 + i)) := fun i a b => by
  have := NM_r (h.2.2.1 i a (by have := h.1.1; omega))
  rw [show (8 : Int) * 0 + i = i by omega]
  omega
theorem NRl.r1 {nm : Int → Int} {tw gd : Int} {σ : SG} (h : NRl nm tw gd σ) : ∀ i, 0 ≤ i → i < σ 61 1 → r6 (σ 62 (8 * 1 + i)) := fun i a b => by
  have := NM_r (h.2.2.2 i a (by have := h.2.1.1; omega))
  rw [show (8 : Int) * 1 + i = 8 + i by omega]
  omega
theorem mnewW {d : Nat} {o : Int → Int} {L : Int} {X : PXv} {nm : Int → Int} {tw gd : Int} {σ : SG} {Q : Option AV → SG → Prop} (hN : NRl nm tw gd σ) (hd : 6 ≤ d) (h : RTp o L X σ) (hq : ∀ σ' v, MFr σ σ' → RTp o L (pxb X (pxA o L nm tw gd)) σ' → (0 ≤ v ∧ v < 387420489) → (∀ z, pxb X (pxA o L nm tw gd) = .inr z → NM (fun k => ltH o z.1 z.2.1 k) v) → Q (some (.inr (.inl v))) σ') : AW d mX9_newName 0 [some (.inr (.inr 42)), none, none] [] σ Q := by
  refine mnn_0 ⟨by omega, mnameW (by omega) h (fun S v hM hR hv hz => ?_)⟩
  rcases X with ⟨k, pl⟩ | ⟨v0, p, e⟩
  · have hg := hR.g
    exact mnn_4 ⟨by omega, fun _ => hq S v hM hR hv (fun z hz => by cases hz), fun z => by omega⟩
  · have hp0 := h.f.2.2.2.1
    have hp1 := h.f.2.2.1
    change RTp o L (pxM o L p e) S at hR
    have hz : ∀ z, pxM o L p e = .inr z → v = nameV o z.1 z.2.1 ∧ S 42 27 = z.1 := hz
    have hq : ∀ σ' v, MFr σ σ' → RTp o L (pxA o L nm tw gd p e) σ' → (0 ≤ v ∧ v < 387420489) → (∀ z, pxA o L nm tw gd p e = .inr z → NM (fun k => ltH o z.1 z.2.1 k) v) → Q (some (.inr (.inl v))) σ' := hq
    rcases hx : pxM o L p e with ⟨k, pl⟩ | z
    · have hX : pxA o L nm tw gd p e = .inl (k, pl) := by unfold pxA; rw [hx]
      rw [hx] at hR
      have hg := hR.g
      refine mnn_4 ⟨by omega, fun _ => hq S v hM (by rw [hX]; exact hR) hv (fun z hz => by rw [hX] at hz; cases hz), fun z => by omega⟩
    · obtain ⟨hz1, hz2, hz3, _⟩ := pxM_r hx
      obtain ⟨e1, e27⟩ := hz z hx
      rw [hx] at hR
      subst hz1
      have hNM := NM_here hp0 (by omega) hz2 hz3
      dsimp only at e1 e27
      rw [← e1] at hNM
      have hNS := hN.cong (hM.1 61 (by decide)) (hM.1 62 (by decide))
      have h5 := hR.f.2.1
      have hX : pxA o L nm tw gd p e = if twN nm tw o (sk o L p) (te o L (sk o L p)) = -1 ∧ gdN nm gd o (sk o L p) (te o L (sk o L p)) = -1 then .inr (sk o L p, te o L (sk o L p), te o L (sk o L p)) else .inl (3, sk o L p) := by
        unfold pxA
        rw [hx]
      rw [hX] at hq
      have bad : ¬ (twN nm tw o (sk o L p) (te o L (sk o L p)) = -1 ∧ gdN nm gd o (sk o L p) (te o L (sk o L p)) = -1) → Q (some (.inr (.inl v))) (up (up S 42 5 3) 42 6 (sk o L p)) := by
        intro z
        have hf := mfail (k := 3) (pl := sk o L p) hR (by decide)
        rw [if_neg z] at hq
        exact hq _ v (hM.tr hf.2) hf.1 hv (fun z hz => by cases hz)
      have hm0 := hNS.1
      have hm1 := hNS.2.1
      refine mnn_4 ⟨by omega, fun z => absurd h5.1 z, fun _ => ⟨by omega, mnmo (k := 0) (by decide) (by omega) (by omega) hNS.r0 ?_⟩⟩
      rw [hNS.tw hNM]
      have hb : -1 ≤ twN nm tw o (sk o L p) (te o L (sk o L p)) ∧ twN nm tw o (sk o L p) (te o L (sk o L p)) ≤ 4 := by
        rcases fstI_r (fun i => nmH nm o (sk o L p) (te o L (sk o L p)) i) tw with z | z
        · unfold twN
          omega
        · unfold twN
          omega
      refine mnn_18 ?_
      rw [e27]
      refine ⟨by omega, fun c => ⟨by omega, by omega, fun _ S1 e1 S2 e2 => ?_, fun z => absurd h5.1 z⟩, fun c => ⟨by omega, mnmo (k := 1) (by decide) (by omega) (by omega) hNS.r1 ?_⟩⟩
      · rw [e2, e1]
        exact bad (fun z => c z.1)
      · rw [hNS.gd hNM]
        have hb : -1 ≤ gdN nm gd o (sk o L p) (te o L (sk o L p)) ∧ gdN nm gd o (sk o L p) (te o L (sk o L p)) ≤ 8 := by
          rcases fstI_r (fun i => nmH nm o (sk o L p) (te o L (sk o L p)) (4 + i)) gd with z | z
          · unfold gdN
            omega
          · unfold gdN
            omega
        refine mnn_28 ?_
        rw [e27]
        refine ⟨by omega, fun c2 => ?_, fun c2 => ⟨by omega, by omega, fun _ S1 e1 S2 e2 => ?_, fun z => absurd h5.1 z⟩⟩
        · rw [if_pos ⟨c, c2⟩] at hq
          exact hq S v hM hR hv (fun z hz => by cases hz; exact hNM)
        · rw [e2, e1]
          exact bad (fun z => c2 z.2)
theorem mtowW {d : Nat} {o : Int → Int} {L : Int} {X : PXv} {nm : Int → Int} {tw gd : Int} {σ : SG} {Q : Option AV → SG → Prop} (hN : NRl nm tw gd σ) (hd : 6 ≤ d) (h : RTp o L X σ) (hq : ∀ σ' k, MFr σ σ' → RTp o L (pxb X (pxT o L nm tw (-1))) σ' → (0 ≤ k ∧ k ≤ 3) → (∀ z0 z, X = .inr z0 → pxb X (pxT o L nm tw (-1)) = .inr z → k = z.1 ∧ σ' 42 27 = sk o L z0.2.1) → Q (some (.inl k)) σ') : AW d mX9_towerTold 0 [some (.inr (.inr 42)), none, none, none] [] σ Q := by
  refine mtt_0 ⟨by omega, mnameW (by omega) h (fun S v hM hR hv hz => ?_)⟩
  have hNS := hN.cong (hM.1 61 (by decide)) (hM.1 62 (by decide))
  have hm0 := hNS.1
  refine mtt_4 ⟨by omega, mnmo (k := 0) (by decide) (by omega) (by omega) hNS.r0 ?_⟩
  have hb : -1 ≤ fstI (fun i => decide (S 62 (8 * 0 + i) = v)) (S 61 0) ∧ fstI (fun i => decide (S 62 (8 * 0 + i) = v)) (S 61 0) ≤ 3 := by
    rcases fstI_r (fun i => decide (S 62 (8 * 0 + i) = v)) (S 61 0) with z | z
    · omega
    · omega
  have badm : ∀ k pl, RTp o L (.inl (k, pl)) S → pxb X (pxT o L nm tw (-1)) = .inl (k, pl) → AW d mX9_towerTold 11 [some (.inr (.inr 42)), some (.inr (.inl v)), none, none] [.inl (fstI (fun i => decide (S 62 (8 * 0 + i) = v)) (S 61 0))] S Q := by
    intro k pl hR' hX
    have hg := hR'.g
    have hQ := hq S 0 hM (by rw [hX]; exact hR') (by decide) (fun z0 z _ hz => by rw [hX] at hz; cases hz)
    exact mtt_11 ⟨by omega, fun _ => ⟨by omega, fun _ => hQ, fun z => by omega⟩, fun z => by omega⟩
  rcases X with ⟨k, pl⟩ | ⟨v0, p, e⟩
  · exact badm k pl hR rfl
  · have hp0 := h.f.2.2.2.1
    have hp1 := h.f.2.2.1
    change RTp o L (pxM o L p e) S at hR
    have hz : ∀ z, pxM o L p e = .inr z → v = nameV o z.1 z.2.1 ∧ S 42 27 = z.1 := hz
    have hq : ∀ σ' k, MFr σ σ' → RTp o L (pxT o L nm tw (-1) p e) σ' → (0 ≤ k ∧ k ≤ 3) → (∀ z, pxT o L nm tw (-1) p e = .inr z → k = z.1 ∧ σ' 42 27 = sk o L p) → Q (some (.inl k)) σ' := fun σ' k a b c f => hq σ' k a b c (fun z0 z h0 h1 => by cases h0; exact f z h1)
    rcases hx : pxM o L p e with ⟨k, pl⟩ | z
    · have hX : pxT o L nm tw (-1) p e = .inl (k, pl) := by unfold pxT; rw [hx]
      rw [hx] at hR
      exact badm k pl hR hX
    · obtain ⟨hz1, hz2, hz3, _⟩ := pxM_r hx
      obtain ⟨e1, e27⟩ := hz z hx
      rw [hx] at hR
      subst hz1
      have hNM := NM_here hp0 (by omega) hz2 hz3
      dsimp only at e1 e27
      rw [← e1] at hNM
      have h5 := hR.f.2.1
      have hX : pxT o L nm tw (-1) p e = if twN nm tw o (sk o L p) (te o L (sk o L p)) = -1 ∨ twN nm tw o (sk o L p) (te o L (sk o L p)) = -1 then .inl (3, sk o L p) else .inr (twN nm tw o (sk o L p) (te o L (sk o L p)), te o L (sk o L p), te o L (sk o L p)) := by
        unfold pxT
        rw [hx]
      rw [hX] at hq
      rw [hNS.tw hNM] at hb ⊢
      generalize twN nm tw o (sk o L p) (te o L (sk o L p)) = w at *
      refine mtt_11 ?_
      rw [e27]
      refine ⟨by omega, fun z => absurd h5.1 z, fun _ => ⟨by omega, fun c => ⟨by omega, fun z => absurd h5.1 z, fun _ => ?_⟩, fun c => ⟨by omega, by omega, fun _ S1 e1 S2 e2 => ?_, fun z => absurd h5.1 z⟩⟩⟩
      · rw [if_neg (fun z => c (z.elim id id))] at hq
        exact hq S w hM hR.v (by omega) (fun z hz => by cases hz; exact ⟨rfl, e27⟩)
      · have hf := mfail (k := 3) (pl := sk o L p) hR (by decide)
        rw [e1] at e2
        have y5 : up (up S 42 5 3) 42 6 (sk o L p) 42 5 = 3 := by rw [up_i (by decide), up_at]
        rw [if_pos (Or.inl c)] at hq
        rw [e2, y5]
        exact ⟨by decide, fun _ => hq _ 0 (hM.tr hf.2) hf.1 (by decide) (fun z hz => by cases hz), fun z => absurd z (by decide)⟩
