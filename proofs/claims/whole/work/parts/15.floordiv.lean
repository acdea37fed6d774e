/-! ===== Math.floorDiv of two ints: its contract, and its row over AW ===== -/
abbrev fdC : ByteArray := cJ9_floorDiv_7cf53
abbrev fdY : MethodName := ⟨"java/lang/Math", "floorDiv", "(II)I"⟩
theorem fd_0 : decode fdC 0 = .ok (.iload_n 0, 1) := by decide +kernel
theorem fd_1 : decode fdC 1 = .ok (.iload_n 1, 1) := by decide +kernel
theorem fd_2 : decode fdC 2 = .ok (.idiv, 1) := by decide +kernel
theorem fd_3 : decode fdC 3 = .ok (.istore_n 2, 1) := by decide +kernel
theorem fd_4 : decode fdC 4 = .ok (.iload_n 0, 1) := by decide +kernel
theorem fd_5 : decode fdC 5 = .ok (.iload_n 1, 1) := by decide +kernel
theorem fd_6 : decode fdC 6 = .ok (.ixor, 1) := by decide +kernel
theorem fd_7 : decode fdC 7 = .ok (.ifCond .ge 14, 3) := by decide +kernel
theorem fd_10 : decode fdC 10 = .ok (.iload_n 2, 1) := by decide +kernel
theorem fd_11 : decode fdC 11 = .ok (.iload_n 1, 1) := by decide +kernel
theorem fd_12 : decode fdC 12 = .ok (.imul, 1) := by decide +kernel
theorem fd_13 : decode fdC 13 = .ok (.iload_n 0, 1) := by decide +kernel
theorem fd_14 : decode fdC 14 = .ok (.if_icmp .eq 7, 3) := by decide +kernel
theorem fd_17 : decode fdC 17 = .ok (.iload_n 2, 1) := by decide +kernel
theorem fd_18 : decode fdC 18 = .ok (.iconst 1, 1) := by decide +kernel
theorem fd_19 : decode fdC 19 = .ok (.isub, 1) := by decide +kernel
theorem fd_20 : decode fdC 20 = .ok (.ireturn, 1) := by decide +kernel
theorem fd_21 : decode fdC 21 = .ok (.iload_n 2, 1) := by decide +kernel
theorem fd_22 : decode fdC 22 = .ok (.ireturn, 1) := by decide +kernel
theorem fd_noRow0 : (NativeRow.find? natives fdY.cls fdY.name fdY.desc).isNone = true := by decide +kernel
theorem fd_noRow (p : Program) : NativeRow.find? p.tables.natives fdY.cls fdY.name fdY.desc = none := by
  cases p <;> exact Option.isNone_iff_eq_none.mp fd_noRow0
def fdV (a b : Int32) : Int32 := if (a ^^^ b) < 0 then if a / b * b = a then a / b else a / b - 1 else a / b
def fdS (a b : Int32) : Spec where
  pre := .and (.code fdY fdC 3 (some .int)) (.and (.count 2) (.and (.isInt (.arg 0)) (.and (.isInt (.arg 1)) (.and (.eq (.arg 0) (.int a)) (.eq (.arg 1) (.int b))))))
  post := .and .returned (.eq .result (.int (fdV a b)))
  changes := some []
theorem fd_meets (l : Launch) (a b : Int32) (hb : ¬ b = 0) : MeetsLoose l fdY (fdS a b) := by
  refine MeetsLoose.of_body_ov (code := fdC) (maxLocals := 3) (ret := some .int) fd_noRow ?_ ?_
  · intro args s h
    simp only [fdS, Cond.before_and, Bool.and_eq_true] at h
    exact h.1
  · intro p e s m args below meth c s₁ B
    have hpre := B.pre
    simp only [fdS, Cond.before_and, Bool.and_eq_true] at hpre
    obtain ⟨x, y, rfl⟩ := Cond.two_ints hpre.2.1 hpre.2.2.1 hpre.2.2.2.1
    obtain rfl : x = a := by
      have := hpre.2.2.2.2.1
      simpa [Cond.before, Cond.holds, Cond.value, Term.eval] using this
    obtain rfl : y = b := by
      have := hpre.2.2.2.2.2
      simpa [Cond.before, Cond.holds, Cond.value, Term.eval] using this
    have hloc : argsToLocals #[.int x, .int y] 3 = #[.val (.int x), .val (.int y), .unset] := rfl
    have fin : ∀ r : Int32, (∀ fs, Steps p.tables e below (s₁.setTop (entryFrame m #[.int x, .int y] 3)) (s₁.setFrames fs) ∨ handOver s₁ (some (.int r)) below ≠ some fs) →
        ((fdS x y).post.after #[.int x, .int y] s (.returned (some (.int r))) = fun _ => true) →
        ∃ s₂ o, Steps p.tables e below (s₁.setTop (entryFrame m #[.int x, .int y] 3)) s₂ ∧ s₂.status = .running ∧ Ended s₂ below o ∧
          (fdS x y).ensures #[.int x, .int y] s o s₂ := by
      intro r hwalk hpost
      obtain ⟨fs, hfs⟩ := handOver_isSome (s := s₁) (some (.int r)) B.hears₁
      refine ⟨s₁.setFrames fs, .returned (some (.int r)), (hwalk fs).resolve_right (fun h => h hfs), B.here.running, B.ended hfs (by intro h; cases h), ?_, State.sameBut_nil.mpr ?_⟩
      · rw [hpost]
      · rw [State.frames_setFrames _ B.cur₁, B.back]
    by_cases h1 : (x ^^^ y) < 0
    · have h1' : ¬ 0 ≤ x ^^^ y := by
        rw [Int32.not_le]
        exact h1
      by_cases h2 : x / y * y = x
      · refine fin (x / y) (fun fs => ?_) (by funext s'; simp [fdS, fdV, h1, h2, Cond.after, Cond.holds, Cond.value, Term.eval])
        by_cases hfs : handOver s₁ (some (.int (x / y))) below = some fs
        · left
          unfold entryFrame; rw [hloc]
          refine Steps.instrAtOv (c := _) (by simpa using B.here) ?_
          simp [jvm, wpRun, exec, B.here.top, B.exec, B.bytes, fd_0]
          refine Steps.instrAtOv (c := _) (by simpa using B.here) ?_
          simp [jvm, wpRun, exec, B.here.top, B.exec, B.bytes, fd_1]
          refine Steps.instrAtOv (c := _) (by simpa using B.here) ?_
          simp [jvm, wpRun, exec, B.here.top, B.exec, B.bytes, fd_2, hb]
          refine Steps.instrAtOv (c := _) (by simpa using B.here) ?_
          simp [jvm, wpRun, exec, B.here.top, B.exec, B.bytes, fd_3]
          refine ⟨#[.val (.int x), .val (.int y), .val (.int (x / y))], rfl, ?_⟩
          refine Steps.instrAtOv (c := _) (by simpa using B.here) ?_
          simp [jvm, wpRun, exec, B.here.top, B.exec, B.bytes, fd_4]
          refine Steps.instrAtOv (c := _) (by simpa using B.here) ?_
          simp [jvm, wpRun, exec, B.here.top, B.exec, B.bytes, fd_5]
          refine Steps.instrAtOv (c := _) (by simpa using B.here) ?_
          simp [jvm, wpRun, exec, B.here.top, B.exec, B.bytes, fd_6]
          refine Steps.instrAtOv (c := _) (by simpa using B.here) ?_
          simp [jvm, wpRun, exec, B.here.top, B.exec, B.bytes, fd_7, ifCond.holds, h1']
          refine Steps.instrAtOv (c := _) (by simpa using B.here) ?_
          simp [jvm, wpRun, exec, B.here.top, B.exec, B.bytes, fd_10]
          refine Steps.instrAtOv (c := _) (by simpa using B.here) ?_
          simp [jvm, wpRun, exec, B.here.top, B.exec, B.bytes, fd_11]
          refine Steps.instrAtOv (c := _) (by simpa using B.here) ?_
          simp [jvm, wpRun, exec, B.here.top, B.exec, B.bytes, fd_12]
          refine Steps.instrAtOv (c := _) (by simpa using B.here) ?_
          simp [jvm, wpRun, exec, B.here.top, B.exec, B.bytes, fd_13]
          refine Steps.instrAtOv (c := _) (by simpa using B.here) ?_
          simp [jvm, wpRun, exec, B.here.top, B.exec, B.bytes, fd_14, h2, if_icmp.holds]
          refine Steps.instrAtOv (c := _) (by simpa using B.here) ?_
          simp [jvm, wpRun, exec, B.here.top, B.exec, B.bytes, fd_21]
          refine Steps.instrAtOv (c := _) (by simpa using B.here) ?_
          simp [jvm, wpRun, exec, B.here.top, B.exec, B.bytes, fd_22, B.method₁, B.returns, narrow]
          intro acts
          rw [ret_to B.frames₁ B.method₁ B.notSynchronized rfl rfl hfs]
          exact Steps.refl _
        · exact Or.inr hfs
      · refine fin (x / y - 1) (fun fs => ?_) (by funext s'; simp [fdS, fdV, h1, h2, Cond.after, Cond.holds, Cond.value, Term.eval])
        by_cases hfs : handOver s₁ (some (.int (x / y - 1))) below = some fs
        · left
          unfold entryFrame; rw [hloc]
          refine Steps.instrAtOv (c := _) (by simpa using B.here) ?_
          simp [jvm, wpRun, exec, B.here.top, B.exec, B.bytes, fd_0]
          refine Steps.instrAtOv (c := _) (by simpa using B.here) ?_
          simp [jvm, wpRun, exec, B.here.top, B.exec, B.bytes, fd_1]
          refine Steps.instrAtOv (c := _) (by simpa using B.here) ?_
          simp [jvm, wpRun, exec, B.here.top, B.exec, B.bytes, fd_2, hb]
          refine Steps.instrAtOv (c := _) (by simpa using B.here) ?_
          simp [jvm, wpRun, exec, B.here.top, B.exec, B.bytes, fd_3]
          refine ⟨#[.val (.int x), .val (.int y), .val (.int (x / y))], rfl, ?_⟩
          refine Steps.instrAtOv (c := _) (by simpa using B.here) ?_
          simp [jvm, wpRun, exec, B.here.top, B.exec, B.bytes, fd_4]
          refine Steps.instrAtOv (c := _) (by simpa using B.here) ?_
          simp [jvm, wpRun, exec, B.here.top, B.exec, B.bytes, fd_5]
          refine Steps.instrAtOv (c := _) (by simpa using B.here) ?_
          simp [jvm, wpRun, exec, B.here.top, B.exec, B.bytes, fd_6]
          refine Steps.instrAtOv (c := _) (by simpa using B.here) ?_
          simp [jvm, wpRun, exec, B.here.top, B.exec, B.bytes, fd_7, ifCond.holds, h1']
          refine Steps.instrAtOv (c := _) (by simpa using B.here) ?_
          simp [jvm, wpRun, exec, B.here.top, B.exec, B.bytes, fd_10]
          refine Steps.instrAtOv (c := _) (by simpa using B.here) ?_
          simp [jvm, wpRun, exec, B.here.top, B.exec, B.bytes, fd_11]
          refine Steps.instrAtOv (c := _) (by simpa using B.here) ?_
          simp [jvm, wpRun, exec, B.here.top, B.exec, B.bytes, fd_12]
          refine Steps.instrAtOv (c := _) (by simpa using B.here) ?_
          simp [jvm, wpRun, exec, B.here.top, B.exec, B.bytes, fd_13]
          refine Steps.instrAtOv (c := _) (by simpa using B.here) ?_
          simp [jvm, wpRun, exec, B.here.top, B.exec, B.bytes, fd_14, h2, if_icmp.holds]
          refine Steps.instrAtOv (c := _) (by simpa using B.here) ?_
          simp [jvm, wpRun, exec, B.here.top, B.exec, B.bytes, fd_17]
          refine Steps.instrAtOv (c := _) (by simpa using B.here) ?_
          simp [jvm, wpRun, exec, B.here.top, B.exec, B.bytes, fd_18]
          refine Steps.instrAtOv (c := _) (by simpa using B.here) ?_
          simp [jvm, wpRun, exec, B.here.top, B.exec, B.bytes, fd_19]
          refine Steps.instrAtOv (c := _) (by simpa using B.here) ?_
          simp [jvm, wpRun, exec, B.here.top, B.exec, B.bytes, fd_20, B.method₁, B.returns, narrow]
          intro acts
          rw [ret_to B.frames₁ B.method₁ B.notSynchronized rfl rfl hfs]
          exact Steps.refl _
        · exact Or.inr hfs
    · have h1' : 0 ≤ x ^^^ y := by
        rw [← Int32.not_lt]
        exact h1
      refine fin (x / y) (fun fs => ?_) (by funext s'; simp [fdS, fdV, h1, Cond.after, Cond.holds, Cond.value, Term.eval])
      by_cases hfs : handOver s₁ (some (.int (x / y))) below = some fs
      · left
        unfold entryFrame; rw [hloc]
        refine Steps.instrAtOv (c := _) (by simpa using B.here) ?_
        simp [jvm, wpRun, exec, B.here.top, B.exec, B.bytes, fd_0]
        refine Steps.instrAtOv (c := _) (by simpa using B.here) ?_
        simp [jvm, wpRun, exec, B.here.top, B.exec, B.bytes, fd_1]
        refine Steps.instrAtOv (c := _) (by simpa using B.here) ?_
        simp [jvm, wpRun, exec, B.here.top, B.exec, B.bytes, fd_2, hb]
        refine Steps.instrAtOv (c := _) (by simpa using B.here) ?_
        simp [jvm, wpRun, exec, B.here.top, B.exec, B.bytes, fd_3]
        refine ⟨#[.val (.int x), .val (.int y), .val (.int (x / y))], rfl, ?_⟩
        refine Steps.instrAtOv (c := _) (by simpa using B.here) ?_
        simp [jvm, wpRun, exec, B.here.top, B.exec, B.bytes, fd_4]
        refine Steps.instrAtOv (c := _) (by simpa using B.here) ?_
        simp [jvm, wpRun, exec, B.here.top, B.exec, B.bytes, fd_5]
        refine Steps.instrAtOv (c := _) (by simpa using B.here) ?_
        simp [jvm, wpRun, exec, B.here.top, B.exec, B.bytes, fd_6]
        refine Steps.instrAtOv (c := _) (by simpa using B.here) ?_
        simp [jvm, wpRun, exec, B.here.top, B.exec, B.bytes, fd_7, ifCond.holds, h1']
        refine Steps.instrAtOv (c := _) (by simpa using B.here) ?_
        simp [jvm, wpRun, exec, B.here.top, B.exec, B.bytes, fd_21]
        refine Steps.instrAtOv (c := _) (by simpa using B.here) ?_
        simp [jvm, wpRun, exec, B.here.top, B.exec, B.bytes, fd_22, B.method₁, B.returns, narrow]
        intro acts
        rw [ret_to B.frames₁ B.method₁ B.notSynchronized rfl rfl hfs]
        exact Steps.refl _
      · exact Or.inr hfs
