section
-- ===== PART A: goes FIRST, ahead of the names: the tables' words, and 'selects' of the private methods out of them =====
/-- a private method of a class that the tables say can be made, by its rows of tables_1 -/
def lw_okq (q : MethodName × Nat) : Prop := (q.1.cls ≠ "java/lang/invoke/MethodHandle" ∧ q.1.cls ≠ "java/lang/invoke/VarHandle") ∧ Cond.instantiable q.1.cls q.2 ∈ tables_1 ∧ Cond.privateMethod q.1 ∈ tables_1 ∧ Cond.instanceMethod q.1 ∈ tables_1
theorem lw_p0 : lw_okq (⟨"LentStairs$Tape", "put", "(I)V"⟩, 7) := ⟨⟨by decide +kernel, by decide +kernel⟩, List.mem_of_getElem? (i := 27) (by decide +kernel), List.mem_of_getElem? (i := 297) (by decide +kernel), List.mem_of_getElem? (i := 298) (by decide +kernel)⟩
theorem lw_p1 : lw_okq (⟨"LentStairs$RealmReader", "read", "()I"⟩, 2) := ⟨⟨by decide +kernel, by decide +kernel⟩, List.mem_of_getElem? (i := 64) (by decide +kernel), List.mem_of_getElem? (i := 309) (by decide +kernel), List.mem_of_getElem? (i := 310) (by decide +kernel)⟩
theorem lw_p2 : lw_okq (⟨"LentStairs$Realm", "clear", "()V"⟩, 15) := ⟨⟨by decide +kernel, by decide +kernel⟩, List.mem_of_getElem? (i := 70) (by decide +kernel), List.mem_of_getElem? (i := 313) (by decide +kernel), List.mem_of_getElem? (i := 314) (by decide +kernel)⟩
theorem lw_p3 : lw_okq (⟨"LentStairs$Tape", "rewind", "()V"⟩, 7) := ⟨⟨by decide +kernel, by decide +kernel⟩, List.mem_of_getElem? (i := 27) (by decide +kernel), List.mem_of_getElem? (i := 317) (by decide +kernel), List.mem_of_getElem? (i := 318) (by decide +kernel)⟩
theorem lw_p4 : lw_okq (⟨"LentStairs$Tape", "advance", "()V"⟩, 7) := ⟨⟨by decide +kernel, by decide +kernel⟩, List.mem_of_getElem? (i := 27) (by decide +kernel), List.mem_of_getElem? (i := 321) (by decide +kernel), List.mem_of_getElem? (i := 322) (by decide +kernel)⟩
theorem lw_p5 : lw_okq (⟨"LentStairs$Tape", "fail", "(II)Z"⟩, 7) := ⟨⟨by decide +kernel, by decide +kernel⟩, List.mem_of_getElem? (i := 27) (by decide +kernel), List.mem_of_getElem? (i := 334) (by decide +kernel), List.mem_of_getElem? (i := 335) (by decide +kernel)⟩
theorem lw_p6 : lw_okq (⟨"LentStairs$RealmReader", "readStatement", "()Z"⟩, 2) := ⟨⟨by decide +kernel, by decide +kernel⟩, List.mem_of_getElem? (i := 64) (by decide +kernel), List.mem_of_getElem? (i := 338) (by decide +kernel), List.mem_of_getElem? (i := 339) (by decide +kernel)⟩
theorem lw_p7 : lw_okq (⟨"LentStairs$Tape", "wordAmong", "(Ljava/lang/String;)I"⟩, 7) := ⟨⟨by decide +kernel, by decide +kernel⟩, List.mem_of_getElem? (i := 27) (by decide +kernel), List.mem_of_getElem? (i := 343) (by decide +kernel), List.mem_of_getElem? (i := 344) (by decide +kernel)⟩
theorem lw_p8 : lw_okq (⟨"LentStairs$RealmReader", "tooMany", "(I)Z"⟩, 2) := ⟨⟨by decide +kernel, by decide +kernel⟩, List.mem_of_getElem? (i := 64) (by decide +kernel), List.mem_of_getElem? (i := 395) (by decide +kernel), List.mem_of_getElem? (i := 396) (by decide +kernel)⟩
theorem lw_p9 : lw_okq (⟨"LentStairs$RealmReader", "readTower", "()Z"⟩, 2) := ⟨⟨by decide +kernel, by decide +kernel⟩, List.mem_of_getElem? (i := 64) (by decide +kernel), List.mem_of_getElem? (i := 399) (by decide +kernel), List.mem_of_getElem? (i := 400) (by decide +kernel)⟩
theorem lw_p10 : lw_okq (⟨"LentStairs$RealmReader", "takeNewName", "(I)Z"⟩, 2) := ⟨⟨by decide +kernel, by decide +kernel⟩, List.mem_of_getElem? (i := 64) (by decide +kernel), List.mem_of_getElem? (i := 404) (by decide +kernel), List.mem_of_getElem? (i := 405) (by decide +kernel)⟩
theorem lw_p11 : lw_okq (⟨"LentStairs$RealmReader", "canBeName", "()Z"⟩, 2) := ⟨⟨by decide +kernel, by decide +kernel⟩, List.mem_of_getElem? (i := 64) (by decide +kernel), List.mem_of_getElem? (i := 408) (by decide +kernel), List.mem_of_getElem? (i := 409) (by decide +kernel)⟩
theorem lw_p12 : lw_okq (⟨"LentStairs$Tape", "failHere", "()Z"⟩, 7) := ⟨⟨by decide +kernel, by decide +kernel⟩, List.mem_of_getElem? (i := 27) (by decide +kernel), List.mem_of_getElem? (i := 412) (by decide +kernel), List.mem_of_getElem? (i := 413) (by decide +kernel)⟩
theorem lw_p13 : lw_okq (⟨"LentStairs$RealmReader", "towerNamedHere", "()I"⟩, 2) := ⟨⟨by decide +kernel, by decide +kernel⟩, List.mem_of_getElem? (i := 64) (by decide +kernel), List.mem_of_getElem? (i := 417) (by decide +kernel), List.mem_of_getElem? (i := 418) (by decide +kernel)⟩
theorem lw_p14 : lw_okq (⟨"LentStairs$RealmReader", "isNameHere", "(I)Z"⟩, 2) := ⟨⟨by decide +kernel, by decide +kernel⟩, List.mem_of_getElem? (i := 64) (by decide +kernel), List.mem_of_getElem? (i := 421) (by decide +kernel), List.mem_of_getElem? (i := 422) (by decide +kernel)⟩
theorem lw_p15 : lw_okq (⟨"LentStairs$Realm", "letterOf", "(II)I"⟩, 15) := ⟨⟨by decide +kernel, by decide +kernel⟩, List.mem_of_getElem? (i := 70) (by decide +kernel), List.mem_of_getElem? (i := 425) (by decide +kernel), List.mem_of_getElem? (i := 426) (by decide +kernel)⟩
def lw_privs_1 : List (MethodName × Nat) := [(⟨"LentStairs$Tape", "put", "(I)V"⟩, 7), (⟨"LentStairs$RealmReader", "read", "()I"⟩, 2), (⟨"LentStairs$Realm", "clear", "()V"⟩, 15), (⟨"LentStairs$Tape", "rewind", "()V"⟩, 7), (⟨"LentStairs$Tape", "advance", "()V"⟩, 7), (⟨"LentStairs$Tape", "fail", "(II)Z"⟩, 7), (⟨"LentStairs$RealmReader", "readStatement", "()Z"⟩, 2), (⟨"LentStairs$Tape", "wordAmong", "(Ljava/lang/String;)I"⟩, 7), (⟨"LentStairs$RealmReader", "tooMany", "(I)Z"⟩, 2), (⟨"LentStairs$RealmReader", "readTower", "()Z"⟩, 2), (⟨"LentStairs$RealmReader", "takeNewName", "(I)Z"⟩, 2), (⟨"LentStairs$RealmReader", "canBeName", "()Z"⟩, 2), (⟨"LentStairs$Tape", "failHere", "()Z"⟩, 7), (⟨"LentStairs$RealmReader", "towerNamedHere", "()I"⟩, 2), (⟨"LentStairs$RealmReader", "isNameHere", "(I)Z"⟩, 2), (⟨"LentStairs$Realm", "letterOf", "(II)I"⟩, 15)]
theorem lw_r1 : ∀ q ∈ lw_privs_1, lw_okq q := List.forall_mem_cons.mpr ⟨lw_p0, List.forall_mem_cons.mpr ⟨lw_p1, List.forall_mem_cons.mpr ⟨lw_p2, List.forall_mem_cons.mpr ⟨lw_p3, List.forall_mem_cons.mpr ⟨lw_p4, List.forall_mem_cons.mpr ⟨lw_p5, List.forall_mem_cons.mpr ⟨lw_p6, List.forall_mem_cons.mpr ⟨lw_p7, List.forall_mem_cons.mpr ⟨lw_p8, List.forall_mem_cons.mpr ⟨lw_p9, List.forall_mem_cons.mpr ⟨lw_p10, List.forall_mem_cons.mpr ⟨lw_p11, List.forall_mem_cons.mpr ⟨lw_p12, List.forall_mem_cons.mpr ⟨lw_p13, List.forall_mem_cons.mpr ⟨lw_p14, List.forall_mem_cons.mpr ⟨lw_p15, fun _ h => absurd h List.not_mem_nil⟩⟩⟩⟩⟩⟩⟩⟩⟩⟩⟩⟩⟩⟩⟩⟩
theorem lw_p16 : lw_okq (⟨"LentStairs$Tape", "letterHere", "(I)I"⟩, 7) := ⟨⟨by decide +kernel, by decide +kernel⟩, List.mem_of_getElem? (i := 27) (by decide +kernel), List.mem_of_getElem? (i := 429) (by decide +kernel), List.mem_of_getElem? (i := 430) (by decide +kernel)⟩
theorem lw_p17 : lw_okq (⟨"LentStairs$RealmReader", "guardNamedHere", "()Z"⟩, 2) := ⟨⟨by decide +kernel, by decide +kernel⟩, List.mem_of_getElem? (i := 64) (by decide +kernel), List.mem_of_getElem? (i := 433) (by decide +kernel), List.mem_of_getElem? (i := 434) (by decide +kernel)⟩
theorem lw_p18 : lw_okq (⟨"LentStairs$RealmReader", "takeWord", "(I)Z"⟩, 2) := ⟨⟨by decide +kernel, by decide +kernel⟩, List.mem_of_getElem? (i := 64) (by decide +kernel), List.mem_of_getElem? (i := 437) (by decide +kernel), List.mem_of_getElem? (i := 438) (by decide +kernel)⟩
theorem lw_p19 : lw_okq (⟨"LentStairs$RealmReader", "takeNumber", "(II)I"⟩, 2) := ⟨⟨by decide +kernel, by decide +kernel⟩, List.mem_of_getElem? (i := 64) (by decide +kernel), List.mem_of_getElem? (i := 441) (by decide +kernel), List.mem_of_getElem? (i := 442) (by decide +kernel)⟩
theorem lw_p20 : lw_okq (⟨"LentStairs$Tape", "numberHere", "()I"⟩, 7) := ⟨⟨by decide +kernel, by decide +kernel⟩, List.mem_of_getElem? (i := 27) (by decide +kernel), List.mem_of_getElem? (i := 445) (by decide +kernel), List.mem_of_getElem? (i := 446) (by decide +kernel)⟩
theorem lw_p21 : lw_okq (⟨"LentStairs$Realm", "addTower", "(I)V"⟩, 15) := ⟨⟨by decide +kernel, by decide +kernel⟩, List.mem_of_getElem? (i := 70) (by decide +kernel), List.mem_of_getElem? (i := 449) (by decide +kernel), List.mem_of_getElem? (i := 450) (by decide +kernel)⟩
theorem lw_p22 : lw_okq (⟨"LentStairs$RealmReader", "readWood", "()Z"⟩, 2) := ⟨⟨by decide +kernel, by decide +kernel⟩, List.mem_of_getElem? (i := 64) (by decide +kernel), List.mem_of_getElem? (i := 453) (by decide +kernel), List.mem_of_getElem? (i := 454) (by decide +kernel)⟩
theorem lw_p23 : lw_okq (⟨"LentStairs$RealmReader", "takeTower", "(I)I"⟩, 2) := ⟨⟨by decide +kernel, by decide +kernel⟩, List.mem_of_getElem? (i := 64) (by decide +kernel), List.mem_of_getElem? (i := 457) (by decide +kernel), List.mem_of_getElem? (i := 458) (by decide +kernel)⟩
theorem lw_p24 : lw_okq (⟨"LentStairs$RealmReader", "readGap", "()Z"⟩, 2) := ⟨⟨by decide +kernel, by decide +kernel⟩, List.mem_of_getElem? (i := 64) (by decide +kernel), List.mem_of_getElem? (i := 461) (by decide +kernel), List.mem_of_getElem? (i := 462) (by decide +kernel)⟩
theorem lw_p25 : lw_okq (⟨"LentStairs$RealmReader", "canTake", "(II)Z"⟩, 2) := ⟨⟨by decide +kernel, by decide +kernel⟩, List.mem_of_getElem? (i := 64) (by decide +kernel), List.mem_of_getElem? (i := 465) (by decide +kernel), List.mem_of_getElem? (i := 466) (by decide +kernel)⟩
theorem lw_p26 : lw_okq (⟨"LentStairs$RealmReader", "readGuard", "()Z"⟩, 2) := ⟨⟨by decide +kernel, by decide +kernel⟩, List.mem_of_getElem? (i := 64) (by decide +kernel), List.mem_of_getElem? (i := 472) (by decide +kernel), List.mem_of_getElem? (i := 473) (by decide +kernel)⟩
theorem lw_p27 : lw_okq (⟨"LentStairs$Realm", "addGuard", "(III)V"⟩, 15) := ⟨⟨by decide +kernel, by decide +kernel⟩, List.mem_of_getElem? (i := 70) (by decide +kernel), List.mem_of_getElem? (i := 476) (by decide +kernel), List.mem_of_getElem? (i := 477) (by decide +kernel)⟩
theorem lw_p28 : lw_okq (⟨"LentStairs$RealmReader", "readLoan", "()Z"⟩, 2) := ⟨⟨by decide +kernel, by decide +kernel⟩, List.mem_of_getElem? (i := 64) (by decide +kernel), List.mem_of_getElem? (i := 480) (by decide +kernel), List.mem_of_getElem? (i := 481) (by decide +kernel)⟩
theorem lw_p29 : lw_okq (⟨"LentStairs$Realm", "addLoan", "(IIIII)V"⟩, 15) := ⟨⟨by decide +kernel, by decide +kernel⟩, List.mem_of_getElem? (i := 70) (by decide +kernel), List.mem_of_getElem? (i := 484) (by decide +kernel), List.mem_of_getElem? (i := 485) (by decide +kernel)⟩
theorem lw_p30 : lw_okq (⟨"LentStairs$RealmReader", "readBends", "()Z"⟩, 2) := ⟨⟨by decide +kernel, by decide +kernel⟩, List.mem_of_getElem? (i := 64) (by decide +kernel), List.mem_of_getElem? (i := 489) (by decide +kernel), List.mem_of_getElem? (i := 490) (by decide +kernel)⟩
theorem lw_p31 : lw_okq (⟨"LentStairs$RealmReader", "readEnemy", "()Z"⟩, 2) := ⟨⟨by decide +kernel, by decide +kernel⟩, List.mem_of_getElem? (i := 64) (by decide +kernel), List.mem_of_getElem? (i := 493) (by decide +kernel), List.mem_of_getElem? (i := 494) (by decide +kernel)⟩
def lw_privs_2 : List (MethodName × Nat) := [(⟨"LentStairs$Tape", "letterHere", "(I)I"⟩, 7), (⟨"LentStairs$RealmReader", "guardNamedHere", "()Z"⟩, 2), (⟨"LentStairs$RealmReader", "takeWord", "(I)Z"⟩, 2), (⟨"LentStairs$RealmReader", "takeNumber", "(II)I"⟩, 2), (⟨"LentStairs$Tape", "numberHere", "()I"⟩, 7), (⟨"LentStairs$Realm", "addTower", "(I)V"⟩, 15), (⟨"LentStairs$RealmReader", "readWood", "()Z"⟩, 2), (⟨"LentStairs$RealmReader", "takeTower", "(I)I"⟩, 2), (⟨"LentStairs$RealmReader", "readGap", "()Z"⟩, 2), (⟨"LentStairs$RealmReader", "canTake", "(II)Z"⟩, 2), (⟨"LentStairs$RealmReader", "readGuard", "()Z"⟩, 2), (⟨"LentStairs$Realm", "addGuard", "(III)V"⟩, 15), (⟨"LentStairs$RealmReader", "readLoan", "()Z"⟩, 2), (⟨"LentStairs$Realm", "addLoan", "(IIIII)V"⟩, 15), (⟨"LentStairs$RealmReader", "readBends", "()Z"⟩, 2), (⟨"LentStairs$RealmReader", "readEnemy", "()Z"⟩, 2)]
theorem lw_r2 : ∀ q ∈ lw_privs_2, lw_okq q := List.forall_mem_cons.mpr ⟨lw_p16, List.forall_mem_cons.mpr ⟨lw_p17, List.forall_mem_cons.mpr ⟨lw_p18, List.forall_mem_cons.mpr ⟨lw_p19, List.forall_mem_cons.mpr ⟨lw_p20, List.forall_mem_cons.mpr ⟨lw_p21, List.forall_mem_cons.mpr ⟨lw_p22, List.forall_mem_cons.mpr ⟨lw_p23, List.forall_mem_cons.mpr ⟨lw_p24, List.forall_mem_cons.mpr ⟨lw_p25, List.forall_mem_cons.mpr ⟨lw_p26, List.forall_mem_cons.mpr ⟨lw_p27, List.forall_mem_cons.mpr ⟨lw_p28, List.forall_mem_cons.mpr ⟨lw_p29, List.forall_mem_cons.mpr ⟨lw_p30, List.forall_mem_cons.mpr ⟨lw_p31, fun _ h => absurd h List.not_mem_nil⟩⟩⟩⟩⟩⟩⟩⟩⟩⟩⟩⟩⟩⟩⟩⟩
theorem lw_p32 : lw_okq (⟨"LentStairs$Tape", "takeSign", "(C)Z"⟩, 7) := ⟨⟨by decide +kernel, by decide +kernel⟩, List.mem_of_getElem? (i := 27) (by decide +kernel), List.mem_of_getElem? (i := 497) (by decide +kernel), List.mem_of_getElem? (i := 498) (by decide +kernel)⟩
theorem lw_p33 : lw_okq (⟨"LentStairs$Tape", "isSign", "(C)Z"⟩, 7) := ⟨⟨by decide +kernel, by decide +kernel⟩, List.mem_of_getElem? (i := 27) (by decide +kernel), List.mem_of_getElem? (i := 501) (by decide +kernel), List.mem_of_getElem? (i := 502) (by decide +kernel)⟩
theorem lw_p34 : lw_okq (⟨"LentStairs$State", "beginWith", "(LLentStairs$Realm;)V"⟩, 1) := ⟨⟨by decide +kernel, by decide +kernel⟩, List.mem_of_getElem? (i := 217) (by decide +kernel), List.mem_of_getElem? (i := 506) (by decide +kernel), List.mem_of_getElem? (i := 507) (by decide +kernel)⟩
theorem lw_p35 : lw_okq (⟨"LentStairs$State", "startLoan", "(LLentStairs$Realm;IIIII)I"⟩, 1) := ⟨⟨by decide +kernel, by decide +kernel⟩, List.mem_of_getElem? (i := 217) (by decide +kernel), List.mem_of_getElem? (i := 510) (by decide +kernel), List.mem_of_getElem? (i := 511) (by decide +kernel)⟩
theorem lw_p36 : lw_okq (⟨"LentStairs$State", "loans", "()I"⟩, 1) := ⟨⟨by decide +kernel, by decide +kernel⟩, List.mem_of_getElem? (i := 217) (by decide +kernel), List.mem_of_getElem? (i := 514) (by decide +kernel), List.mem_of_getElem? (i := 515) (by decide +kernel)⟩
theorem lw_p37 : lw_okq (⟨"LentStairs$State", "lowestOpen", "(II)I"⟩, 1) := ⟨⟨by decide +kernel, by decide +kernel⟩, List.mem_of_getElem? (i := 217) (by decide +kernel), List.mem_of_getElem? (i := 519) (by decide +kernel), List.mem_of_getElem? (i := 520) (by decide +kernel)⟩
theorem lw_p38 : lw_okq (⟨"LentStairs$State", "standing", "(I)I"⟩, 1) := ⟨⟨by decide +kernel, by decide +kernel⟩, List.mem_of_getElem? (i := 217) (by decide +kernel), List.mem_of_getElem? (i := 523) (by decide +kernel), List.mem_of_getElem? (i := 524) (by decide +kernel)⟩
theorem lw_p39 : lw_okq (⟨"LentStairs$History", "forget", "()V"⟩, 3) := ⟨⟨by decide +kernel, by decide +kernel⟩, List.mem_of_getElem? (i := 228) (by decide +kernel), List.mem_of_getElem? (i := 527) (by decide +kernel), List.mem_of_getElem? (i := 528) (by decide +kernel)⟩
theorem lw_p40 : lw_okq (⟨"LentStairs$State", "openLoans", "()I"⟩, 1) := ⟨⟨by decide +kernel, by decide +kernel⟩, List.mem_of_getElem? (i := 217) (by decide +kernel), List.mem_of_getElem? (i := 541) (by decide +kernel), List.mem_of_getElem? (i := 542) (by decide +kernel)⟩
theorem lw_p41 : lw_okq (⟨"LentStairs$State", "hasEnded", "(I)Z"⟩, 1) := ⟨⟨by decide +kernel, by decide +kernel⟩, List.mem_of_getElem? (i := 217) (by decide +kernel), List.mem_of_getElem? (i := 545) (by decide +kernel), List.mem_of_getElem? (i := 546) (by decide +kernel)⟩
theorem lw_p42 : lw_okq (⟨"LentStairs$State", "ofLoan", "(II)I"⟩, 1) := ⟨⟨by decide +kernel, by decide +kernel⟩, List.mem_of_getElem? (i := 217) (by decide +kernel), List.mem_of_getElem? (i := 549) (by decide +kernel), List.mem_of_getElem? (i := 550) (by decide +kernel)⟩
theorem lw_p43 : lw_okq (⟨"LentStairs$State", "today", "()I"⟩, 1) := ⟨⟨by decide +kernel, by decide +kernel⟩, List.mem_of_getElem? (i := 217) (by decide +kernel), List.mem_of_getElem? (i := 553) (by decide +kernel), List.mem_of_getElem? (i := 554) (by decide +kernel)⟩
theorem lw_p44 : lw_okq (⟨"LentStairs$State", "heldTowers", "(LLentStairs$Realm;)I"⟩, 1) := ⟨⟨by decide +kernel, by decide +kernel⟩, List.mem_of_getElem? (i := 217) (by decide +kernel), List.mem_of_getElem? (i := 557) (by decide +kernel), List.mem_of_getElem? (i := 558) (by decide +kernel)⟩
theorem lw_p45 : lw_okq (⟨"LentStairs$State", "isHeld", "(LLentStairs$Realm;I)Z"⟩, 1) := ⟨⟨by decide +kernel, by decide +kernel⟩, List.mem_of_getElem? (i := 217) (by decide +kernel), List.mem_of_getElem? (i := 561) (by decide +kernel), List.mem_of_getElem? (i := 562) (by decide +kernel)⟩
theorem lw_p46 : lw_okq (⟨"LentStairs$Realm", "leastLegs", "(I)I"⟩, 15) := ⟨⟨by decide +kernel, by decide +kernel⟩, List.mem_of_getElem? (i := 70) (by decide +kernel), List.mem_of_getElem? (i := 565) (by decide +kernel), List.mem_of_getElem? (i := 566) (by decide +kernel)⟩
theorem lw_p47 : lw_okq (⟨"LentStairs$State", "bentSteps", "()I"⟩, 1) := ⟨⟨by decide +kernel, by decide +kernel⟩, List.mem_of_getElem? (i := 217) (by decide +kernel), List.mem_of_getElem? (i := 573) (by decide +kernel), List.mem_of_getElem? (i := 574) (by decide +kernel)⟩
def lw_privs_3 : List (MethodName × Nat) := [(⟨"LentStairs$Tape", "takeSign", "(C)Z"⟩, 7), (⟨"LentStairs$Tape", "isSign", "(C)Z"⟩, 7), (⟨"LentStairs$State", "beginWith", "(LLentStairs$Realm;)V"⟩, 1), (⟨"LentStairs$State", "startLoan", "(LLentStairs$Realm;IIIII)I"⟩, 1), (⟨"LentStairs$State", "loans", "()I"⟩, 1), (⟨"LentStairs$State", "lowestOpen", "(II)I"⟩, 1), (⟨"LentStairs$State", "standing", "(I)I"⟩, 1), (⟨"LentStairs$History", "forget", "()V"⟩, 3), (⟨"LentStairs$State", "openLoans", "()I"⟩, 1), (⟨"LentStairs$State", "hasEnded", "(I)Z"⟩, 1), (⟨"LentStairs$State", "ofLoan", "(II)I"⟩, 1), (⟨"LentStairs$State", "today", "()I"⟩, 1), (⟨"LentStairs$State", "heldTowers", "(LLentStairs$Realm;)I"⟩, 1), (⟨"LentStairs$State", "isHeld", "(LLentStairs$Realm;I)Z"⟩, 1), (⟨"LentStairs$Realm", "leastLegs", "(I)I"⟩, 15), (⟨"LentStairs$State", "bentSteps", "()I"⟩, 1)]
theorem lw_r3 : ∀ q ∈ lw_privs_3, lw_okq q := List.forall_mem_cons.mpr ⟨lw_p32, List.forall_mem_cons.mpr ⟨lw_p33, List.forall_mem_cons.mpr ⟨lw_p34, List.forall_mem_cons.mpr ⟨lw_p35, List.forall_mem_cons.mpr ⟨lw_p36, List.forall_mem_cons.mpr ⟨lw_p37, List.forall_mem_cons.mpr ⟨lw_p38, List.forall_mem_cons.mpr ⟨lw_p39, List.forall_mem_cons.mpr ⟨lw_p40, List.forall_mem_cons.mpr ⟨lw_p41, List.forall_mem_cons.mpr ⟨lw_p42, List.forall_mem_cons.mpr ⟨lw_p43, List.forall_mem_cons.mpr ⟨lw_p44, List.forall_mem_cons.mpr ⟨lw_p45, List.forall_mem_cons.mpr ⟨lw_p46, List.forall_mem_cons.mpr ⟨lw_p47, fun _ h => absurd h List.not_mem_nil⟩⟩⟩⟩⟩⟩⟩⟩⟩⟩⟩⟩⟩⟩⟩⟩
theorem lw_p48 : lw_okq (⟨"LentStairs$State", "stepsInYards", "()I"⟩, 1) := ⟨⟨by decide +kernel, by decide +kernel⟩, List.mem_of_getElem? (i := 217) (by decide +kernel), List.mem_of_getElem? (i := 583) (by decide +kernel), List.mem_of_getElem? (i := 584) (by decide +kernel)⟩
theorem lw_p49 : lw_okq (⟨"LentStairs", "isTower", "(I)Z"⟩, 10) := ⟨⟨by decide +kernel, by decide +kernel⟩, List.mem_of_getElem? (i := 19) (by decide +kernel), List.mem_of_getElem? (i := 591) (by decide +kernel), List.mem_of_getElem? (i := 592) (by decide +kernel)⟩
theorem lw_p50 : lw_okq (⟨"LentStairs", "isGuard", "(I)Z"⟩, 10) := ⟨⟨by decide +kernel, by decide +kernel⟩, List.mem_of_getElem? (i := 19) (by decide +kernel), List.mem_of_getElem? (i := 596) (by decide +kernel), List.mem_of_getElem? (i := 597) (by decide +kernel)⟩
theorem lw_p51 : lw_okq (⟨"LentStairs$Realm", "guardsOf", "(I)I"⟩, 15) := ⟨⟨by decide +kernel, by decide +kernel⟩, List.mem_of_getElem? (i := 70) (by decide +kernel), List.mem_of_getElem? (i := 607) (by decide +kernel), List.mem_of_getElem? (i := 608) (by decide +kernel)⟩
theorem lw_p52 : lw_okq (⟨"LentStairs$State", "inPurse", "(I)I"⟩, 1) := ⟨⟨by decide +kernel, by decide +kernel⟩, List.mem_of_getElem? (i := 217) (by decide +kernel), List.mem_of_getElem? (i := 616) (by decide +kernel), List.mem_of_getElem? (i := 617) (by decide +kernel)⟩
theorem lw_p53 : lw_okq (⟨"LentStairs", "isStep", "(II)Z"⟩, 10) := ⟨⟨by decide +kernel, by decide +kernel⟩, List.mem_of_getElem? (i := 19) (by decide +kernel), List.mem_of_getElem? (i := 625) (by decide +kernel), List.mem_of_getElem? (i := 626) (by decide +kernel)⟩
theorem lw_p54 : lw_okq (⟨"LentStairs$State", "howIs", "(II)I"⟩, 1) := ⟨⟨by decide +kernel, by decide +kernel⟩, List.mem_of_getElem? (i := 217) (by decide +kernel), List.mem_of_getElem? (i := 629) (by decide +kernel), List.mem_of_getElem? (i := 630) (by decide +kernel)⟩
theorem lw_p55 : lw_okq (⟨"LentStairs$State", "loanThatFills", "(II)I"⟩, 1) := ⟨⟨by decide +kernel, by decide +kernel⟩, List.mem_of_getElem? (i := 217) (by decide +kernel), List.mem_of_getElem? (i := 633) (by decide +kernel), List.mem_of_getElem? (i := 634) (by decide +kernel)⟩
theorem lw_p56 : lw_okq (⟨"LentStairs$State", "loanThatLends", "(II)I"⟩, 1) := ⟨⟨by decide +kernel, by decide +kernel⟩, List.mem_of_getElem? (i := 217) (by decide +kernel), List.mem_of_getElem? (i := 637) (by decide +kernel), List.mem_of_getElem? (i := 638) (by decide +kernel)⟩
theorem lw_p57 : lw_okq (⟨"LentStairs", "isLoan", "(I)Z"⟩, 10) := ⟨⟨by decide +kernel, by decide +kernel⟩, List.mem_of_getElem? (i := 19) (by decide +kernel), List.mem_of_getElem? (i := 645) (by decide +kernel), List.mem_of_getElem? (i := 646) (by decide +kernel)⟩
theorem lw_p58 : lw_okq (⟨"LentStairs$History", "keep", "(LLentStairs$State;)V"⟩, 3) := ⟨⟨by decide +kernel, by decide +kernel⟩, List.mem_of_getElem? (i := 228) (by decide +kernel), List.mem_of_getElem? (i := 658) (by decide +kernel), List.mem_of_getElem? (i := 659) (by decide +kernel)⟩
theorem lw_p59 : lw_okq (⟨"LentStairs$State", "endLoan", "(II)V"⟩, 1) := ⟨⟨by decide +kernel, by decide +kernel⟩, List.mem_of_getElem? (i := 217) (by decide +kernel), List.mem_of_getElem? (i := 674) (by decide +kernel), List.mem_of_getElem? (i := 675) (by decide +kernel)⟩
theorem lw_p60 : lw_okq (⟨"LentStairs$State", "straighten", "(III)V"⟩, 1) := ⟨⟨by decide +kernel, by decide +kernel⟩, List.mem_of_getElem? (i := 217) (by decide +kernel), List.mem_of_getElem? (i := 682) (by decide +kernel), List.mem_of_getElem? (i := 683) (by decide +kernel)⟩
theorem lw_p61 : lw_okq (⟨"LentStairs$State", "passDay", "(I)I"⟩, 1) := ⟨⟨by decide +kernel, by decide +kernel⟩, List.mem_of_getElem? (i := 217) (by decide +kernel), List.mem_of_getElem? (i := 690) (by decide +kernel), List.mem_of_getElem? (i := 691) (by decide +kernel)⟩
theorem lw_p62 : lw_okq (⟨"LentStairs$History", "takeBack", "(LLentStairs$State;)Z"⟩, 3) := ⟨⟨by decide +kernel, by decide +kernel⟩, List.mem_of_getElem? (i := 228) (by decide +kernel), List.mem_of_getElem? (i := 699) (by decide +kernel), List.mem_of_getElem? (i := 700) (by decide +kernel)⟩
theorem lw_p63 : lw_okq (⟨"LentStairs", "spareOf", "(I)I"⟩, 10) := ⟨⟨by decide +kernel, by decide +kernel⟩, List.mem_of_getElem? (i := 19) (by decide +kernel), List.mem_of_getElem? (i := 726) (by decide +kernel), List.mem_of_getElem? (i := 727) (by decide +kernel)⟩
def lw_privs_4 : List (MethodName × Nat) := [(⟨"LentStairs$State", "stepsInYards", "()I"⟩, 1), (⟨"LentStairs", "isTower", "(I)Z"⟩, 10), (⟨"LentStairs", "isGuard", "(I)Z"⟩, 10), (⟨"LentStairs$Realm", "guardsOf", "(I)I"⟩, 15), (⟨"LentStairs$State", "inPurse", "(I)I"⟩, 1), (⟨"LentStairs", "isStep", "(II)Z"⟩, 10), (⟨"LentStairs$State", "howIs", "(II)I"⟩, 1), (⟨"LentStairs$State", "loanThatFills", "(II)I"⟩, 1), (⟨"LentStairs$State", "loanThatLends", "(II)I"⟩, 1), (⟨"LentStairs", "isLoan", "(I)Z"⟩, 10), (⟨"LentStairs$History", "keep", "(LLentStairs$State;)V"⟩, 3), (⟨"LentStairs$State", "endLoan", "(II)V"⟩, 1), (⟨"LentStairs$State", "straighten", "(III)V"⟩, 1), (⟨"LentStairs$State", "passDay", "(I)I"⟩, 1), (⟨"LentStairs$History", "takeBack", "(LLentStairs$State;)Z"⟩, 3), (⟨"LentStairs", "spareOf", "(I)I"⟩, 10)]
theorem lw_r4 : ∀ q ∈ lw_privs_4, lw_okq q := List.forall_mem_cons.mpr ⟨lw_p48, List.forall_mem_cons.mpr ⟨lw_p49, List.forall_mem_cons.mpr ⟨lw_p50, List.forall_mem_cons.mpr ⟨lw_p51, List.forall_mem_cons.mpr ⟨lw_p52, List.forall_mem_cons.mpr ⟨lw_p53, List.forall_mem_cons.mpr ⟨lw_p54, List.forall_mem_cons.mpr ⟨lw_p55, List.forall_mem_cons.mpr ⟨lw_p56, List.forall_mem_cons.mpr ⟨lw_p57, List.forall_mem_cons.mpr ⟨lw_p58, List.forall_mem_cons.mpr ⟨lw_p59, List.forall_mem_cons.mpr ⟨lw_p60, List.forall_mem_cons.mpr ⟨lw_p61, List.forall_mem_cons.mpr ⟨lw_p62, List.forall_mem_cons.mpr ⟨lw_p63, fun _ h => absurd h List.not_mem_nil⟩⟩⟩⟩⟩⟩⟩⟩⟩⟩⟩⟩⟩⟩⟩⟩
theorem lw_p64 : lw_okq (⟨"LentStairs$State", "thereIn", "(I)I"⟩, 1) := ⟨⟨by decide +kernel, by decide +kernel⟩, List.mem_of_getElem? (i := 217) (by decide +kernel), List.mem_of_getElem? (i := 730) (by decide +kernel), List.mem_of_getElem? (i := 731) (by decide +kernel)⟩
theorem lw_p65 : lw_okq (⟨"LentStairs$Prices", "forKeeping", "(LLentStairs$State;II)V"⟩, 3) := ⟨⟨by decide +kernel, by decide +kernel⟩, List.mem_of_getElem? (i := 200) (by decide +kernel), List.mem_of_getElem? (i := 734) (by decide +kernel), List.mem_of_getElem? (i := 735) (by decide +kernel)⟩
theorem lw_p66 : lw_okq (⟨"LentStairs$State", "filledIn", "(I)I"⟩, 1) := ⟨⟨by decide +kernel, by decide +kernel⟩, List.mem_of_getElem? (i := 217) (by decide +kernel), List.mem_of_getElem? (i := 739) (by decide +kernel), List.mem_of_getElem? (i := 740) (by decide +kernel)⟩
theorem lw_p67 : lw_okq (⟨"LentStairs$Prices", "cheapest", "(II)I"⟩, 3) := ⟨⟨by decide +kernel, by decide +kernel⟩, List.mem_of_getElem? (i := 200) (by decide +kernel), List.mem_of_getElem? (i := 745) (by decide +kernel), List.mem_of_getElem? (i := 746) (by decide +kernel)⟩
theorem lw_p68 : lw_okq (⟨"LentStairs", "needOf", "(I)I"⟩, 10) := ⟨⟨by decide +kernel, by decide +kernel⟩, List.mem_of_getElem? (i := 19) (by decide +kernel), List.mem_of_getElem? (i := 758) (by decide +kernel), List.mem_of_getElem? (i := 759) (by decide +kernel)⟩
theorem lw_p69 : lw_okq (⟨"LentStairs$Prices", "forFilling", "(LLentStairs$State;II)V"⟩, 3) := ⟨⟨by decide +kernel, by decide +kernel⟩, List.mem_of_getElem? (i := 200) (by decide +kernel), List.mem_of_getElem? (i := 762) (by decide +kernel), List.mem_of_getElem? (i := 763) (by decide +kernel)⟩
theorem lw_p70 : lw_okq (⟨"LentStairs", "towerOfKth", "(IZ)I"⟩, 10) := ⟨⟨by decide +kernel, by decide +kernel⟩, List.mem_of_getElem? (i := 19) (by decide +kernel), List.mem_of_getElem? (i := 771) (by decide +kernel), List.mem_of_getElem? (i := 772) (by decide +kernel)⟩
theorem lw_p71 : lw_okq (⟨"LentStairs", "stepOfKth", "(IZ)I"⟩, 10) := ⟨⟨by decide +kernel, by decide +kernel⟩, List.mem_of_getElem? (i := 19) (by decide +kernel), List.mem_of_getElem? (i := 775) (by decide +kernel), List.mem_of_getElem? (i := 776) (by decide +kernel)⟩
theorem lw_p72 : lw_okq (⟨"LentStairs$Prices", "forLoansBack", "(LLentStairs$State;II)V"⟩, 3) := ⟨⟨by decide +kernel, by decide +kernel⟩, List.mem_of_getElem? (i := 200) (by decide +kernel), List.mem_of_getElem? (i := 791) (by decide +kernel), List.mem_of_getElem? (i := 792) (by decide +kernel)⟩
theorem lw_p73 : lw_okq (⟨"LentStairs$Prices", "fewestSets", "(II)I"⟩, 3) := ⟨⟨by decide +kernel, by decide +kernel⟩, List.mem_of_getElem? (i := 200) (by decide +kernel), List.mem_of_getElem? (i := 796) (by decide +kernel), List.mem_of_getElem? (i := 797) (by decide +kernel)⟩
theorem lw_p74 : lw_okq (⟨"LentStairs$Prices", "join", "(II)V"⟩, 3) := ⟨⟨by decide +kernel, by decide +kernel⟩, List.mem_of_getElem? (i := 200) (by decide +kernel), List.mem_of_getElem? (i := 800) (by decide +kernel), List.mem_of_getElem? (i := 801) (by decide +kernel)⟩
theorem lw_p75 : lw_okq (⟨"LentStairs$Prices", "closeBelow", "(I)V"⟩, 3) := ⟨⟨by decide +kernel, by decide +kernel⟩, List.mem_of_getElem? (i := 200) (by decide +kernel), List.mem_of_getElem? (i := 805) (by decide +kernel), List.mem_of_getElem? (i := 806) (by decide +kernel)⟩
theorem lw_p76 : lw_okq (⟨"LentStairs$State", "lentMoreThanBorrowed", "(I)I"⟩, 1) := ⟨⟨by decide +kernel, by decide +kernel⟩, List.mem_of_getElem? (i := 217) (by decide +kernel), List.mem_of_getElem? (i := 814) (by decide +kernel), List.mem_of_getElem? (i := 815) (by decide +kernel)⟩
theorem lw_p77 : lw_okq (⟨"LentStairs", "ringThrough", "(I)I"⟩, 10) := ⟨⟨by decide +kernel, by decide +kernel⟩, List.mem_of_getElem? (i := 19) (by decide +kernel), List.mem_of_getElem? (i := 822) (by decide +kernel), List.mem_of_getElem? (i := 823) (by decide +kernel)⟩
theorem lw_p78 : lw_okq (⟨"LentStairs$State", "borrowersOf", "(I)I"⟩, 1) := ⟨⟨by decide +kernel, by decide +kernel⟩, List.mem_of_getElem? (i := 217) (by decide +kernel), List.mem_of_getElem? (i := 826) (by decide +kernel), List.mem_of_getElem? (i := 827) (by decide +kernel)⟩
theorem lw_p79 : lw_okq (⟨"LentStairs$Prices", "forRefits", "(LLentStairs$State;II)V"⟩, 3) := ⟨⟨by decide +kernel, by decide +kernel⟩, List.mem_of_getElem? (i := 200) (by decide +kernel), List.mem_of_getElem? (i := 834) (by decide +kernel), List.mem_of_getElem? (i := 835) (by decide +kernel)⟩
def lw_privs_5 : List (MethodName × Nat) := [(⟨"LentStairs$State", "thereIn", "(I)I"⟩, 1), (⟨"LentStairs$Prices", "forKeeping", "(LLentStairs$State;II)V"⟩, 3), (⟨"LentStairs$State", "filledIn", "(I)I"⟩, 1), (⟨"LentStairs$Prices", "cheapest", "(II)I"⟩, 3), (⟨"LentStairs", "needOf", "(I)I"⟩, 10), (⟨"LentStairs$Prices", "forFilling", "(LLentStairs$State;II)V"⟩, 3), (⟨"LentStairs", "towerOfKth", "(IZ)I"⟩, 10), (⟨"LentStairs", "stepOfKth", "(IZ)I"⟩, 10), (⟨"LentStairs$Prices", "forLoansBack", "(LLentStairs$State;II)V"⟩, 3), (⟨"LentStairs$Prices", "fewestSets", "(II)I"⟩, 3), (⟨"LentStairs$Prices", "join", "(II)V"⟩, 3), (⟨"LentStairs$Prices", "closeBelow", "(I)V"⟩, 3), (⟨"LentStairs$State", "lentMoreThanBorrowed", "(I)I"⟩, 1), (⟨"LentStairs", "ringThrough", "(I)I"⟩, 10), (⟨"LentStairs$State", "borrowersOf", "(I)I"⟩, 1), (⟨"LentStairs$Prices", "forRefits", "(LLentStairs$State;II)V"⟩, 3)]
theorem lw_r5 : ∀ q ∈ lw_privs_5, lw_okq q := List.forall_mem_cons.mpr ⟨lw_p64, List.forall_mem_cons.mpr ⟨lw_p65, List.forall_mem_cons.mpr ⟨lw_p66, List.forall_mem_cons.mpr ⟨lw_p67, List.forall_mem_cons.mpr ⟨lw_p68, List.forall_mem_cons.mpr ⟨lw_p69, List.forall_mem_cons.mpr ⟨lw_p70, List.forall_mem_cons.mpr ⟨lw_p71, List.forall_mem_cons.mpr ⟨lw_p72, List.forall_mem_cons.mpr ⟨lw_p73, List.forall_mem_cons.mpr ⟨lw_p74, List.forall_mem_cons.mpr ⟨lw_p75, List.forall_mem_cons.mpr ⟨lw_p76, List.forall_mem_cons.mpr ⟨lw_p77, List.forall_mem_cons.mpr ⟨lw_p78, List.forall_mem_cons.mpr ⟨lw_p79, fun _ h => absurd h List.not_mem_nil⟩⟩⟩⟩⟩⟩⟩⟩⟩⟩⟩⟩⟩⟩⟩⟩
theorem lw_p80 : lw_okq (⟨"LentStairs$State", "bentIn", "(I)I"⟩, 1) := ⟨⟨by decide +kernel, by decide +kernel⟩, List.mem_of_getElem? (i := 217) (by decide +kernel), List.mem_of_getElem? (i := 838) (by decide +kernel), List.mem_of_getElem? (i := 839) (by decide +kernel)⟩
theorem lw_p81 : lw_okq (⟨"LentStairs$State", "rentsWithin", "(II)I"⟩, 1) := ⟨⟨by decide +kernel, by decide +kernel⟩, List.mem_of_getElem? (i := 217) (by decide +kernel), List.mem_of_getElem? (i := 846) (by decide +kernel), List.mem_of_getElem? (i := 847) (by decide +kernel)⟩
theorem lw_p82 : lw_okq (⟨"LentStairs$State", "copy", "(LLentStairs$State;)V"⟩, 1) := ⟨⟨by decide +kernel, by decide +kernel⟩, List.mem_of_getElem? (i := 217) (by decide +kernel), List.mem_of_getElem? (i := 855) (by decide +kernel), List.mem_of_getElem? (i := 856) (by decide +kernel)⟩
theorem lw_p83 : lw_okq (⟨"LentStairs", "lastDayAhead", "()I"⟩, 10) := ⟨⟨by decide +kernel, by decide +kernel⟩, List.mem_of_getElem? (i := 19) (by decide +kernel), List.mem_of_getElem? (i := 860) (by decide +kernel), List.mem_of_getElem? (i := 861) (by decide +kernel)⟩
theorem lw_p84 : lw_okq (⟨"LentStairs$Question", "read", "()Z"⟩, 10) := ⟨⟨by decide +kernel, by decide +kernel⟩, List.mem_of_getElem? (i := 163) (by decide +kernel), List.mem_of_getElem? (i := 868) (by decide +kernel), List.mem_of_getElem? (i := 869) (by decide +kernel)⟩
theorem lw_p85 : lw_okq (⟨"LentStairs$Question", "readTest", "()Z"⟩, 10) := ⟨⟨by decide +kernel, by decide +kernel⟩, List.mem_of_getElem? (i := 163) (by decide +kernel), List.mem_of_getElem? (i := 877) (by decide +kernel), List.mem_of_getElem? (i := 878) (by decide +kernel)⟩
theorem lw_p86 : lw_okq (⟨"LentStairs$Question", "readBoth", "()Z"⟩, 10) := ⟨⟨by decide +kernel, by decide +kernel⟩, List.mem_of_getElem? (i := 163) (by decide +kernel), List.mem_of_getElem? (i := 881) (by decide +kernel), List.mem_of_getElem? (i := 882) (by decide +kernel)⟩
theorem lw_p87 : lw_okq (⟨"LentStairs$Question", "readFact", "()Z"⟩, 10) := ⟨⟨by decide +kernel, by decide +kernel⟩, List.mem_of_getElem? (i := 163) (by decide +kernel), List.mem_of_getElem? (i := 885) (by decide +kernel), List.mem_of_getElem? (i := 886) (by decide +kernel)⟩
theorem lw_p88 : lw_okq (⟨"LentStairs$Question", "write", "(I)Z"⟩, 10) := ⟨⟨by decide +kernel, by decide +kernel⟩, List.mem_of_getElem? (i := 163) (by decide +kernel), List.mem_of_getElem? (i := 890) (by decide +kernel), List.mem_of_getElem? (i := 891) (by decide +kernel)⟩
theorem lw_p89 : lw_okq (⟨"LentStairs$Question", "openOne", "()Z"⟩, 10) := ⟨⟨by decide +kernel, by decide +kernel⟩, List.mem_of_getElem? (i := 163) (by decide +kernel), List.mem_of_getElem? (i := 895) (by decide +kernel), List.mem_of_getElem? (i := 896) (by decide +kernel)⟩
theorem lw_p90 : lw_okq (⟨"LentStairs$Question", "writeSign", "(I)Z"⟩, 10) := ⟨⟨by decide +kernel, by decide +kernel⟩, List.mem_of_getElem? (i := 163) (by decide +kernel), List.mem_of_getElem? (i := 900) (by decide +kernel), List.mem_of_getElem? (i := 901) (by decide +kernel)⟩
theorem lw_p91 : lw_okq (⟨"LentStairs$Question", "closeWith", "(C)Z"⟩, 10) := ⟨⟨by decide +kernel, by decide +kernel⟩, List.mem_of_getElem? (i := 163) (by decide +kernel), List.mem_of_getElem? (i := 905) (by decide +kernel), List.mem_of_getElem? (i := 906) (by decide +kernel)⟩
theorem lw_p92 : lw_okq (⟨"LentStairs$Question", "readComparison", "()Z"⟩, 10) := ⟨⟨by decide +kernel, by decide +kernel⟩, List.mem_of_getElem? (i := 163) (by decide +kernel), List.mem_of_getElem? (i := 910) (by decide +kernel), List.mem_of_getElem? (i := 911) (by decide +kernel)⟩
theorem lw_p93 : lw_okq (⟨"LentStairs$Question", "readSum", "()Z"⟩, 10) := ⟨⟨by decide +kernel, by decide +kernel⟩, List.mem_of_getElem? (i := 163) (by decide +kernel), List.mem_of_getElem? (i := 914) (by decide +kernel), List.mem_of_getElem? (i := 915) (by decide +kernel)⟩
theorem lw_p94 : lw_okq (⟨"LentStairs$Question", "readProduct", "()Z"⟩, 10) := ⟨⟨by decide +kernel, by decide +kernel⟩, List.mem_of_getElem? (i := 163) (by decide +kernel), List.mem_of_getElem? (i := 918) (by decide +kernel), List.mem_of_getElem? (i := 919) (by decide +kernel)⟩
theorem lw_p95 : lw_okq (⟨"LentStairs$Question", "readPart", "()Z"⟩, 10) := ⟨⟨by decide +kernel, by decide +kernel⟩, List.mem_of_getElem? (i := 163) (by decide +kernel), List.mem_of_getElem? (i := 922) (by decide +kernel), List.mem_of_getElem? (i := 923) (by decide +kernel)⟩
def lw_privs_6 : List (MethodName × Nat) := [(⟨"LentStairs$State", "bentIn", "(I)I"⟩, 1), (⟨"LentStairs$State", "rentsWithin", "(II)I"⟩, 1), (⟨"LentStairs$State", "copy", "(LLentStairs$State;)V"⟩, 1), (⟨"LentStairs", "lastDayAhead", "()I"⟩, 10), (⟨"LentStairs$Question", "read", "()Z"⟩, 10), (⟨"LentStairs$Question", "readTest", "()Z"⟩, 10), (⟨"LentStairs$Question", "readBoth", "()Z"⟩, 10), (⟨"LentStairs$Question", "readFact", "()Z"⟩, 10), (⟨"LentStairs$Question", "write", "(I)Z"⟩, 10), (⟨"LentStairs$Question", "openOne", "()Z"⟩, 10), (⟨"LentStairs$Question", "writeSign", "(I)Z"⟩, 10), (⟨"LentStairs$Question", "closeWith", "(C)Z"⟩, 10), (⟨"LentStairs$Question", "readComparison", "()Z"⟩, 10), (⟨"LentStairs$Question", "readSum", "()Z"⟩, 10), (⟨"LentStairs$Question", "readProduct", "()Z"⟩, 10), (⟨"LentStairs$Question", "readPart", "()Z"⟩, 10)]
theorem lw_r6 : ∀ q ∈ lw_privs_6, lw_okq q := List.forall_mem_cons.mpr ⟨lw_p80, List.forall_mem_cons.mpr ⟨lw_p81, List.forall_mem_cons.mpr ⟨lw_p82, List.forall_mem_cons.mpr ⟨lw_p83, List.forall_mem_cons.mpr ⟨lw_p84, List.forall_mem_cons.mpr ⟨lw_p85, List.forall_mem_cons.mpr ⟨lw_p86, List.forall_mem_cons.mpr ⟨lw_p87, List.forall_mem_cons.mpr ⟨lw_p88, List.forall_mem_cons.mpr ⟨lw_p89, List.forall_mem_cons.mpr ⟨lw_p90, List.forall_mem_cons.mpr ⟨lw_p91, List.forall_mem_cons.mpr ⟨lw_p92, List.forall_mem_cons.mpr ⟨lw_p93, List.forall_mem_cons.mpr ⟨lw_p94, List.forall_mem_cons.mpr ⟨lw_p95, fun _ h => absurd h List.not_mem_nil⟩⟩⟩⟩⟩⟩⟩⟩⟩⟩⟩⟩⟩⟩⟩⟩
theorem lw_p96 : lw_okq (⟨"LentStairs$Question", "readNumber", "()Z"⟩, 10) := ⟨⟨by decide +kernel, by decide +kernel⟩, List.mem_of_getElem? (i := 163) (by decide +kernel), List.mem_of_getElem? (i := 926) (by decide +kernel), List.mem_of_getElem? (i := 927) (by decide +kernel)⟩
theorem lw_p97 : lw_okq (⟨"LentStairs$Question", "readPair", "()Z"⟩, 10) := ⟨⟨by decide +kernel, by decide +kernel⟩, List.mem_of_getElem? (i := 163) (by decide +kernel), List.mem_of_getElem? (i := 932) (by decide +kernel), List.mem_of_getElem? (i := 933) (by decide +kernel)⟩
theorem lw_p98 : lw_okq (⟨"LentStairs$Question", "answer", "(LLentStairs$Realm;LLentStairs$State;I)J"⟩, 10) := ⟨⟨by decide +kernel, by decide +kernel⟩, List.mem_of_getElem? (i := 163) (by decide +kernel), List.mem_of_getElem? (i := 939) (by decide +kernel), List.mem_of_getElem? (i := 940) (by decide +kernel)⟩
theorem lw_p99 : lw_okq (⟨"LentStairs$Question", "countAll", "(LLentStairs$Realm;LLentStairs$State;)V"⟩, 10) := ⟨⟨by decide +kernel, by decide +kernel⟩, List.mem_of_getElem? (i := 163) (by decide +kernel), List.mem_of_getElem? (i := 945) (by decide +kernel), List.mem_of_getElem? (i := 946) (by decide +kernel)⟩
theorem lw_p100 : lw_okq (⟨"LentStairs$Question", "valueThen", "(LLentStairs$Realm;LLentStairs$State;)I"⟩, 10) := ⟨⟨by decide +kernel, by decide +kernel⟩, List.mem_of_getElem? (i := 163) (by decide +kernel), List.mem_of_getElem? (i := 953) (by decide +kernel), List.mem_of_getElem? (i := 954) (by decide +kernel)⟩
theorem lw_p101 : lw_okq (⟨"LentStairs$Question", "plainPart", "(II)I"⟩, 10) := ⟨⟨by decide +kernel, by decide +kernel⟩, List.mem_of_getElem? (i := 163) (by decide +kernel), List.mem_of_getElem? (i := 957) (by decide +kernel), List.mem_of_getElem? (i := 958) (by decide +kernel)⟩
theorem lw_p102 : lw_okq (⟨"LentStairs$Picture", "draw", "(LLentStairs$Realm;LLentStairs$State;)I"⟩, 2) := ⟨⟨by decide +kernel, by decide +kernel⟩, List.mem_of_getElem? (i := 245) (by decide +kernel), List.mem_of_getElem? (i := 996) (by decide +kernel), List.mem_of_getElem? (i := 997) (by decide +kernel)⟩
theorem lw_p103 : lw_okq (⟨"LentStairs$Picture", "putBytes", "(II)V"⟩, 2) := ⟨⟨by decide +kernel, by decide +kernel⟩, List.mem_of_getElem? (i := 245) (by decide +kernel), List.mem_of_getElem? (i := 1001) (by decide +kernel), List.mem_of_getElem? (i := 1002) (by decide +kernel)⟩
theorem lw_p104 : lw_okq (⟨"LentStairs$Picture", "check", "()I"⟩, 2) := ⟨⟨by decide +kernel, by decide +kernel⟩, List.mem_of_getElem? (i := 245) (by decide +kernel), List.mem_of_getElem? (i := 1009) (by decide +kernel), List.mem_of_getElem? (i := 1010) (by decide +kernel)⟩
theorem lw_p105 : lw_okq (⟨"LentStairsModel", "look", "()I"⟩, 82) := ⟨⟨by decide +kernel, by decide +kernel⟩, List.mem_of_getElem? (i := 1021) (by decide +kernel), List.mem_of_getElem? (i := 1288) (by decide +kernel), List.mem_of_getElem? (i := 1289) (by decide +kernel)⟩
theorem lw_p106 : lw_okq (⟨"LentStairsModel", "statementTold", "()V"⟩, 82) := ⟨⟨by decide +kernel, by decide +kernel⟩, List.mem_of_getElem? (i := 1021) (by decide +kernel), List.mem_of_getElem? (i := 1292) (by decide +kernel), List.mem_of_getElem? (i := 1293) (by decide +kernel)⟩
theorem lw_p107 : lw_okq (⟨"LentStairsModel", "fail", "(II)V"⟩, 82) := ⟨⟨by decide +kernel, by decide +kernel⟩, List.mem_of_getElem? (i := 1021) (by decide +kernel), List.mem_of_getElem? (i := 1296) (by decide +kernel), List.mem_of_getElem? (i := 1297) (by decide +kernel)⟩
theorem lw_p108 : lw_okq (⟨"LentStairsModel", "takes", "([C)Z"⟩, 82) := ⟨⟨by decide +kernel, by decide +kernel⟩, List.mem_of_getElem? (i := 1021) (by decide +kernel), List.mem_of_getElem? (i := 1300) (by decide +kernel), List.mem_of_getElem? (i := 1301) (by decide +kernel)⟩
theorem lw_p109 : lw_okq (⟨"LentStairsModel", "isHere", "([C)Z"⟩, 82) := ⟨⟨by decide +kernel, by decide +kernel⟩, List.mem_of_getElem? (i := 1021) (by decide +kernel), List.mem_of_getElem? (i := 1304) (by decide +kernel), List.mem_of_getElem? (i := 1305) (by decide +kernel)⟩
theorem lw_p110 : lw_okq (⟨"LentStairsModel", "newTower", "(I)V"⟩, 82) := ⟨⟨by decide +kernel, by decide +kernel⟩, List.mem_of_getElem? (i := 1021) (by decide +kernel), List.mem_of_getElem? (i := 1311) (by decide +kernel), List.mem_of_getElem? (i := 1312) (by decide +kernel)⟩
theorem lw_p111 : lw_okq (⟨"LentStairsModel", "isFull", "(III)Z"⟩, 82) := ⟨⟨by decide +kernel, by decide +kernel⟩, List.mem_of_getElem? (i := 1021) (by decide +kernel), List.mem_of_getElem? (i := 1315) (by decide +kernel), List.mem_of_getElem? (i := 1316) (by decide +kernel)⟩
def lw_privs_7 : List (MethodName × Nat) := [(⟨"LentStairs$Question", "readNumber", "()Z"⟩, 10), (⟨"LentStairs$Question", "readPair", "()Z"⟩, 10), (⟨"LentStairs$Question", "answer", "(LLentStairs$Realm;LLentStairs$State;I)J"⟩, 10), (⟨"LentStairs$Question", "countAll", "(LLentStairs$Realm;LLentStairs$State;)V"⟩, 10), (⟨"LentStairs$Question", "valueThen", "(LLentStairs$Realm;LLentStairs$State;)I"⟩, 10), (⟨"LentStairs$Question", "plainPart", "(II)I"⟩, 10), (⟨"LentStairs$Picture", "draw", "(LLentStairs$Realm;LLentStairs$State;)I"⟩, 2), (⟨"LentStairs$Picture", "putBytes", "(II)V"⟩, 2), (⟨"LentStairs$Picture", "check", "()I"⟩, 2), (⟨"LentStairsModel", "look", "()I"⟩, 82), (⟨"LentStairsModel", "statementTold", "()V"⟩, 82), (⟨"LentStairsModel", "fail", "(II)V"⟩, 82), (⟨"LentStairsModel", "takes", "([C)Z"⟩, 82), (⟨"LentStairsModel", "isHere", "([C)Z"⟩, 82), (⟨"LentStairsModel", "newTower", "(I)V"⟩, 82), (⟨"LentStairsModel", "isFull", "(III)Z"⟩, 82)]
theorem lw_r7 : ∀ q ∈ lw_privs_7, lw_okq q := List.forall_mem_cons.mpr ⟨lw_p96, List.forall_mem_cons.mpr ⟨lw_p97, List.forall_mem_cons.mpr ⟨lw_p98, List.forall_mem_cons.mpr ⟨lw_p99, List.forall_mem_cons.mpr ⟨lw_p100, List.forall_mem_cons.mpr ⟨lw_p101, List.forall_mem_cons.mpr ⟨lw_p102, List.forall_mem_cons.mpr ⟨lw_p103, List.forall_mem_cons.mpr ⟨lw_p104, List.forall_mem_cons.mpr ⟨lw_p105, List.forall_mem_cons.mpr ⟨lw_p106, List.forall_mem_cons.mpr ⟨lw_p107, List.forall_mem_cons.mpr ⟨lw_p108, List.forall_mem_cons.mpr ⟨lw_p109, List.forall_mem_cons.mpr ⟨lw_p110, List.forall_mem_cons.mpr ⟨lw_p111, fun _ h => absurd h List.not_mem_nil⟩⟩⟩⟩⟩⟩⟩⟩⟩⟩⟩⟩⟩⟩⟩⟩
theorem lw_p112 : lw_okq (⟨"LentStairsModel", "newName", "()J"⟩, 82) := ⟨⟨by decide +kernel, by decide +kernel⟩, List.mem_of_getElem? (i := 1021) (by decide +kernel), List.mem_of_getElem? (i := 1319) (by decide +kernel), List.mem_of_getElem? (i := 1320) (by decide +kernel)⟩
theorem lw_p113 : lw_okq (⟨"LentStairsModel", "name", "()J"⟩, 82) := ⟨⟨by decide +kernel, by decide +kernel⟩, List.mem_of_getElem? (i := 1021) (by decide +kernel), List.mem_of_getElem? (i := 1323) (by decide +kernel), List.mem_of_getElem? (i := 1324) (by decide +kernel)⟩
theorem lw_p114 : lw_okq (⟨"LentStairsModel", "isOwnHere", "()Z"⟩, 82) := ⟨⟨by decide +kernel, by decide +kernel⟩, List.mem_of_getElem? (i := 1021) (by decide +kernel), List.mem_of_getElem? (i := 1327) (by decide +kernel), List.mem_of_getElem? (i := 1328) (by decide +kernel)⟩
theorem lw_p115 : lw_okq (⟨"LentStairsModel", "nameOf", "(IJ)I"⟩, 82) := ⟨⟨by decide +kernel, by decide +kernel⟩, List.mem_of_getElem? (i := 1021) (by decide +kernel), List.mem_of_getElem? (i := 1333) (by decide +kernel), List.mem_of_getElem? (i := 1334) (by decide +kernel)⟩
theorem lw_p116 : lw_okq (⟨"LentStairsModel", "asks", "([C)V"⟩, 82) := ⟨⟨by decide +kernel, by decide +kernel⟩, List.mem_of_getElem? (i := 1021) (by decide +kernel), List.mem_of_getElem? (i := 1337) (by decide +kernel), List.mem_of_getElem? (i := 1338) (by decide +kernel)⟩
theorem lw_p117 : lw_okq (⟨"LentStairsModel", "number", "(II)I"⟩, 82) := ⟨⟨by decide +kernel, by decide +kernel⟩, List.mem_of_getElem? (i := 1021) (by decide +kernel), List.mem_of_getElem? (i := 1341) (by decide +kernel), List.mem_of_getElem? (i := 1342) (by decide +kernel)⟩
theorem lw_p118 : lw_okq (⟨"LentStairsModel", "woodTold", "()V"⟩, 82) := ⟨⟨by decide +kernel, by decide +kernel⟩, List.mem_of_getElem? (i := 1021) (by decide +kernel), List.mem_of_getElem? (i := 1351) (by decide +kernel), List.mem_of_getElem? (i := 1352) (by decide +kernel)⟩
theorem lw_p119 : lw_okq (⟨"LentStairsModel", "towerTold", "()I"⟩, 82) := ⟨⟨by decide +kernel, by decide +kernel⟩, List.mem_of_getElem? (i := 1021) (by decide +kernel), List.mem_of_getElem? (i := 1355) (by decide +kernel), List.mem_of_getElem? (i := 1356) (by decide +kernel)⟩
theorem lw_p120 : lw_okq (⟨"LentStairsModel", "gapTold", "(I)V"⟩, 82) := ⟨⟨by decide +kernel, by decide +kernel⟩, List.mem_of_getElem? (i := 1021) (by decide +kernel), List.mem_of_getElem? (i := 1359) (by decide +kernel), List.mem_of_getElem? (i := 1360) (by decide +kernel)⟩
theorem lw_p121 : lw_okq (⟨"LentStairsModel", "takenOf", "(IZ)I"⟩, 82) := ⟨⟨by decide +kernel, by decide +kernel⟩, List.mem_of_getElem? (i := 1021) (by decide +kernel), List.mem_of_getElem? (i := 1363) (by decide +kernel), List.mem_of_getElem? (i := 1364) (by decide +kernel)⟩
theorem lw_p122 : lw_okq (⟨"LentStairsModel", "guardTold", "(I)V"⟩, 82) := ⟨⟨by decide +kernel, by decide +kernel⟩, List.mem_of_getElem? (i := 1021) (by decide +kernel), List.mem_of_getElem? (i := 1367) (by decide +kernel), List.mem_of_getElem? (i := 1368) (by decide +kernel)⟩
theorem lw_p123 : lw_okq (⟨"LentStairsModel", "loanIsTold", "(I)V"⟩, 82) := ⟨⟨by decide +kernel, by decide +kernel⟩, List.mem_of_getElem? (i := 1021) (by decide +kernel), List.mem_of_getElem? (i := 1371) (by decide +kernel), List.mem_of_getElem? (i := 1372) (by decide +kernel)⟩
theorem lw_p124 : lw_okq (⟨"LentStairsModel", "enemyTold", "()V"⟩, 82) := ⟨⟨by decide +kernel, by decide +kernel⟩, List.mem_of_getElem? (i := 1021) (by decide +kernel), List.mem_of_getElem? (i := 1375) (by decide +kernel), List.mem_of_getElem? (i := 1376) (by decide +kernel)⟩
theorem lw_p125 : lw_okq (⟨"LentStairsModel", "asksSign", "(I)V"⟩, 82) := ⟨⟨by decide +kernel, by decide +kernel⟩, List.mem_of_getElem? (i := 1021) (by decide +kernel), List.mem_of_getElem? (i := 1379) (by decide +kernel), List.mem_of_getElem? (i := 1380) (by decide +kernel)⟩
theorem lw_p126 : lw_okq (⟨"LentStairsModel", "takesSign", "(I)Z"⟩, 82) := ⟨⟨by decide +kernel, by decide +kernel⟩, List.mem_of_getElem? (i := 1021) (by decide +kernel), List.mem_of_getElem? (i := 1383) (by decide +kernel), List.mem_of_getElem? (i := 1384) (by decide +kernel)⟩
theorem lw_p127 : lw_okq (⟨"LentStairsModel", "stands", "()V"⟩, 82) := ⟨⟨by decide +kernel, by decide +kernel⟩, List.mem_of_getElem? (i := 1021) (by decide +kernel), List.mem_of_getElem? (i := 1387) (by decide +kernel), List.mem_of_getElem? (i := 1388) (by decide +kernel)⟩
def lw_privs_8 : List (MethodName × Nat) := [(⟨"LentStairsModel", "newName", "()J"⟩, 82), (⟨"LentStairsModel", "name", "()J"⟩, 82), (⟨"LentStairsModel", "isOwnHere", "()Z"⟩, 82), (⟨"LentStairsModel", "nameOf", "(IJ)I"⟩, 82), (⟨"LentStairsModel", "asks", "([C)V"⟩, 82), (⟨"LentStairsModel", "number", "(II)I"⟩, 82), (⟨"LentStairsModel", "woodTold", "()V"⟩, 82), (⟨"LentStairsModel", "towerTold", "()I"⟩, 82), (⟨"LentStairsModel", "gapTold", "(I)V"⟩, 82), (⟨"LentStairsModel", "takenOf", "(IZ)I"⟩, 82), (⟨"LentStairsModel", "guardTold", "(I)V"⟩, 82), (⟨"LentStairsModel", "loanIsTold", "(I)V"⟩, 82), (⟨"LentStairsModel", "enemyTold", "()V"⟩, 82), (⟨"LentStairsModel", "asksSign", "(I)V"⟩, 82), (⟨"LentStairsModel", "takesSign", "(I)Z"⟩, 82), (⟨"LentStairsModel", "stands", "()V"⟩, 82)]
theorem lw_r8 : ∀ q ∈ lw_privs_8, lw_okq q := List.forall_mem_cons.mpr ⟨lw_p112, List.forall_mem_cons.mpr ⟨lw_p113, List.forall_mem_cons.mpr ⟨lw_p114, List.forall_mem_cons.mpr ⟨lw_p115, List.forall_mem_cons.mpr ⟨lw_p116, List.forall_mem_cons.mpr ⟨lw_p117, List.forall_mem_cons.mpr ⟨lw_p118, List.forall_mem_cons.mpr ⟨lw_p119, List.forall_mem_cons.mpr ⟨lw_p120, List.forall_mem_cons.mpr ⟨lw_p121, List.forall_mem_cons.mpr ⟨lw_p122, List.forall_mem_cons.mpr ⟨lw_p123, List.forall_mem_cons.mpr ⟨lw_p124, List.forall_mem_cons.mpr ⟨lw_p125, List.forall_mem_cons.mpr ⟨lw_p126, List.forall_mem_cons.mpr ⟨lw_p127, fun _ h => absurd h List.not_mem_nil⟩⟩⟩⟩⟩⟩⟩⟩⟩⟩⟩⟩⟩⟩⟩⟩
theorem lw_p128 : lw_okq (⟨"LentStairsModel", "lends", "(IIIII)I"⟩, 82) := ⟨⟨by decide +kernel, by decide +kernel⟩, List.mem_of_getElem? (i := 1021) (by decide +kernel), List.mem_of_getElem? (i := 1391) (by decide +kernel), List.mem_of_getElem? (i := 1392) (by decide +kernel)⟩
theorem lw_p129 : lw_okq (⟨"LentStairsModel", "loanMany", "()I"⟩, 82) := ⟨⟨by decide +kernel, by decide +kernel⟩, List.mem_of_getElem? (i := 1021) (by decide +kernel), List.mem_of_getElem? (i := 1395) (by decide +kernel), List.mem_of_getElem? (i := 1396) (by decide +kernel)⟩
theorem lw_p130 : lw_okq (⟨"LentStairsModel", "standSet", "(I)I"⟩, 82) := ⟨⟨by decide +kernel, by decide +kernel⟩, List.mem_of_getElem? (i := 1021) (by decide +kernel), List.mem_of_getElem? (i := 1399) (by decide +kernel), List.mem_of_getElem? (i := 1400) (by decide +kernel)⟩
theorem lw_p131 : lw_okq (⟨"LentStairsModel", "howSet", "(II)I"⟩, 82) := ⟨⟨by decide +kernel, by decide +kernel⟩, List.mem_of_getElem? (i := 1021) (by decide +kernel), List.mem_of_getElem? (i := 1403) (by decide +kernel), List.mem_of_getElem? (i := 1404) (by decide +kernel)⟩
theorem lw_p132 : lw_okq (⟨"LentStairsModel", "stepsOf", "(I)I"⟩, 82) := ⟨⟨by decide +kernel, by decide +kernel⟩, List.mem_of_getElem? (i := 1021) (by decide +kernel), List.mem_of_getElem? (i := 1407) (by decide +kernel), List.mem_of_getElem? (i := 1408) (by decide +kernel)⟩
theorem lw_p133 : lw_okq (⟨"LentStairsModel", "howIs", "(II)I"⟩, 82) := ⟨⟨by decide +kernel, by decide +kernel⟩, List.mem_of_getElem? (i := 1021) (by decide +kernel), List.mem_of_getElem? (i := 1411) (by decide +kernel), List.mem_of_getElem? (i := 1412) (by decide +kernel)⟩
theorem lw_p134 : lw_okq (⟨"LentStairsModel", "filledSet", "(I)I"⟩, 82) := ⟨⟨by decide +kernel, by decide +kernel⟩, List.mem_of_getElem? (i := 1021) (by decide +kernel), List.mem_of_getElem? (i := 1415) (by decide +kernel), List.mem_of_getElem? (i := 1416) (by decide +kernel)⟩
theorem lw_p135 : lw_okq (⟨"LentStairsModel", "lasts", "(I)Z"⟩, 82) := ⟨⟨by decide +kernel, by decide +kernel⟩, List.mem_of_getElem? (i := 1021) (by decide +kernel), List.mem_of_getElem? (i := 1419) (by decide +kernel), List.mem_of_getElem? (i := 1420) (by decide +kernel)⟩
theorem lw_p136 : lw_okq (⟨"LentStairsModel", "loanOf", "(II)I"⟩, 82) := ⟨⟨by decide +kernel, by decide +kernel⟩, List.mem_of_getElem? (i := 1021) (by decide +kernel), List.mem_of_getElem? (i := 1423) (by decide +kernel), List.mem_of_getElem? (i := 1424) (by decide +kernel)⟩
theorem lw_p137 : lw_okq (⟨"LentStairsModel", "makes", "(III)V"⟩, 82) := ⟨⟨by decide +kernel, by decide +kernel⟩, List.mem_of_getElem? (i := 1021) (by decide +kernel), List.mem_of_getElem? (i := 1427) (by decide +kernel), List.mem_of_getElem? (i := 1428) (by decide +kernel)⟩
theorem lw_p138 : lw_okq (⟨"LentStairsModel", "towerMany", "()I"⟩, 82) := ⟨⟨by decide +kernel, by decide +kernel⟩, List.mem_of_getElem? (i := 1021) (by decide +kernel), List.mem_of_getElem? (i := 1439) (by decide +kernel), List.mem_of_getElem? (i := 1440) (by decide +kernel)⟩
theorem lw_p139 : lw_okq (⟨"LentStairsModel", "guardMany", "()I"⟩, 82) := ⟨⟨by decide +kernel, by decide +kernel⟩, List.mem_of_getElem? (i := 1021) (by decide +kernel), List.mem_of_getElem? (i := 1443) (by decide +kernel), List.mem_of_getElem? (i := 1444) (by decide +kernel)⟩
theorem lw_p140 : lw_okq (⟨"LentStairsModel", "countOf", "(I)I"⟩, 82) := ⟨⟨by decide +kernel, by decide +kernel⟩, List.mem_of_getElem? (i := 1021) (by decide +kernel), List.mem_of_getElem? (i := 1447) (by decide +kernel), List.mem_of_getElem? (i := 1448) (by decide +kernel)⟩
theorem lw_p141 : lw_okq (⟨"LentStairsModel", "isHeld", "(I)Z"⟩, 82) := ⟨⟨by decide +kernel, by decide +kernel⟩, List.mem_of_getElem? (i := 1021) (by decide +kernel), List.mem_of_getElem? (i := 1451) (by decide +kernel), List.mem_of_getElem? (i := 1452) (by decide +kernel)⟩
theorem lw_p142 : lw_okq (⟨"LentStairsModel", "isHeldBy", "(II)Z"⟩, 82) := ⟨⟨by decide +kernel, by decide +kernel⟩, List.mem_of_getElem? (i := 1021) (by decide +kernel), List.mem_of_getElem? (i := 1455) (by decide +kernel), List.mem_of_getElem? (i := 1456) (by decide +kernel)⟩
theorem lw_p143 : lw_okq (⟨"LentStairsModel", "reachesTop", "(III)Z"⟩, 82) := ⟨⟨by decide +kernel, by decide +kernel⟩, List.mem_of_getElem? (i := 1021) (by decide +kernel), List.mem_of_getElem? (i := 1459) (by decide +kernel), List.mem_of_getElem? (i := 1460) (by decide +kernel)⟩
def lw_privs_9 : List (MethodName × Nat) := [(⟨"LentStairsModel", "lends", "(IIIII)I"⟩, 82), (⟨"LentStairsModel", "loanMany", "()I"⟩, 82), (⟨"LentStairsModel", "standSet", "(I)I"⟩, 82), (⟨"LentStairsModel", "howSet", "(II)I"⟩, 82), (⟨"LentStairsModel", "stepsOf", "(I)I"⟩, 82), (⟨"LentStairsModel", "howIs", "(II)I"⟩, 82), (⟨"LentStairsModel", "filledSet", "(I)I"⟩, 82), (⟨"LentStairsModel", "lasts", "(I)Z"⟩, 82), (⟨"LentStairsModel", "loanOf", "(II)I"⟩, 82), (⟨"LentStairsModel", "makes", "(III)V"⟩, 82), (⟨"LentStairsModel", "towerMany", "()I"⟩, 82), (⟨"LentStairsModel", "guardMany", "()I"⟩, 82), (⟨"LentStairsModel", "countOf", "(I)I"⟩, 82), (⟨"LentStairsModel", "isHeld", "(I)Z"⟩, 82), (⟨"LentStairsModel", "isHeldBy", "(II)Z"⟩, 82), (⟨"LentStairsModel", "reachesTop", "(III)Z"⟩, 82)]
theorem lw_r9 : ∀ q ∈ lw_privs_9, lw_okq q := List.forall_mem_cons.mpr ⟨lw_p128, List.forall_mem_cons.mpr ⟨lw_p129, List.forall_mem_cons.mpr ⟨lw_p130, List.forall_mem_cons.mpr ⟨lw_p131, List.forall_mem_cons.mpr ⟨lw_p132, List.forall_mem_cons.mpr ⟨lw_p133, List.forall_mem_cons.mpr ⟨lw_p134, List.forall_mem_cons.mpr ⟨lw_p135, List.forall_mem_cons.mpr ⟨lw_p136, List.forall_mem_cons.mpr ⟨lw_p137, List.forall_mem_cons.mpr ⟨lw_p138, List.forall_mem_cons.mpr ⟨lw_p139, List.forall_mem_cons.mpr ⟨lw_p140, List.forall_mem_cons.mpr ⟨lw_p141, List.forall_mem_cons.mpr ⟨lw_p142, List.forall_mem_cons.mpr ⟨lw_p143, fun _ h => absurd h List.not_mem_nil⟩⟩⟩⟩⟩⟩⟩⟩⟩⟩⟩⟩⟩⟩⟩⟩
theorem lw_p144 : lw_okq (⟨"LentStairsModel", "highest", "(IIII)I"⟩, 82) := ⟨⟨by decide +kernel, by decide +kernel⟩, List.mem_of_getElem? (i := 1021) (by decide +kernel), List.mem_of_getElem? (i := 1463) (by decide +kernel), List.mem_of_getElem? (i := 1464) (by decide +kernel)⟩
theorem lw_p145 : lw_okq (⟨"LentStairsModel", "isTower", "(I)Z"⟩, 82) := ⟨⟨by decide +kernel, by decide +kernel⟩, List.mem_of_getElem? (i := 1021) (by decide +kernel), List.mem_of_getElem? (i := 1479) (by decide +kernel), List.mem_of_getElem? (i := 1480) (by decide +kernel)⟩
theorem lw_p146 : lw_okq (⟨"LentStairsModel", "woodOf", "(I)I"⟩, 82) := ⟨⟨by decide +kernel, by decide +kernel⟩, List.mem_of_getElem? (i := 1021) (by decide +kernel), List.mem_of_getElem? (i := 1483) (by decide +kernel), List.mem_of_getElem? (i := 1484) (by decide +kernel)⟩
theorem lw_p147 : lw_okq (⟨"LentStairsModel", "guardsOf", "(IZ)I"⟩, 82) := ⟨⟨by decide +kernel, by decide +kernel⟩, List.mem_of_getElem? (i := 1021) (by decide +kernel), List.mem_of_getElem? (i := 1487) (by decide +kernel), List.mem_of_getElem? (i := 1488) (by decide +kernel)⟩
theorem lw_p148 : lw_okq (⟨"LentStairsModel", "isStep", "(II)Z"⟩, 82) := ⟨⟨by decide +kernel, by decide +kernel⟩, List.mem_of_getElem? (i := 1021) (by decide +kernel), List.mem_of_getElem? (i := 1500) (by decide +kernel), List.mem_of_getElem? (i := 1501) (by decide +kernel)⟩
theorem lw_p149 : lw_okq (⟨"LentStairsModel", "filledBy", "(II)I"⟩, 82) := ⟨⟨by decide +kernel, by decide +kernel⟩, List.mem_of_getElem? (i := 1021) (by decide +kernel), List.mem_of_getElem? (i := 1504) (by decide +kernel), List.mem_of_getElem? (i := 1505) (by decide +kernel)⟩
theorem lw_p150 : lw_okq (⟨"LentStairsModel", "lentBy", "(II)I"⟩, 82) := ⟨⟨by decide +kernel, by decide +kernel⟩, List.mem_of_getElem? (i := 1021) (by decide +kernel), List.mem_of_getElem? (i := 1508) (by decide +kernel), List.mem_of_getElem? (i := 1509) (by decide +kernel)⟩
theorem lw_p151 : lw_okq (⟨"LentStairsModel", "isLoan", "(I)Z"⟩, 82) := ⟨⟨by decide +kernel, by decide +kernel⟩, List.mem_of_getElem? (i := 1021) (by decide +kernel), List.mem_of_getElem? (i := 1516) (by decide +kernel), List.mem_of_getElem? (i := 1517) (by decide +kernel)⟩
theorem lw_p152 : lw_okq (⟨"LentStairsModel", "isGuard", "(I)Z"⟩, 82) := ⟨⟨by decide +kernel, by decide +kernel⟩, List.mem_of_getElem? (i := 1021) (by decide +kernel), List.mem_of_getElem? (i := 1525) (by decide +kernel), List.mem_of_getElem? (i := 1526) (by decide +kernel)⟩
theorem lw_p153 : lw_okq (⟨"LentStairsModel", "keeps", "()V"⟩, 82) := ⟨⟨by decide +kernel, by decide +kernel⟩, List.mem_of_getElem? (i := 1021) (by decide +kernel), List.mem_of_getElem? (i := 1539) (by decide +kernel), List.mem_of_getElem? (i := 1540) (by decide +kernel)⟩
theorem lw_p154 : lw_okq (⟨"LentStairsModel", "ends", "(I)V"⟩, 82) := ⟨⟨by decide +kernel, by decide +kernel⟩, List.mem_of_getElem? (i := 1021) (by decide +kernel), List.mem_of_getElem? (i := 1547) (by decide +kernel), List.mem_of_getElem? (i := 1548) (by decide +kernel)⟩
theorem lw_p155 : lw_okq (⟨"LentStairsModel", "dayGoes", "()I"⟩, 82) := ⟨⟨by decide +kernel, by decide +kernel⟩, List.mem_of_getElem? (i := 1021) (by decide +kernel), List.mem_of_getElem? (i := 1560) (by decide +kernel), List.mem_of_getElem? (i := 1561) (by decide +kernel)⟩
theorem lw_p156 : lw_okq (⟨"LentStairsModel", "spareSet", "(I)I"⟩, 82) := ⟨⟨by decide +kernel, by decide +kernel⟩, List.mem_of_getElem? (i := 1021) (by decide +kernel), List.mem_of_getElem? (i := 1577) (by decide +kernel), List.mem_of_getElem? (i := 1578) (by decide +kernel)⟩
theorem lw_p157 : lw_okq (⟨"LentStairsModel", "needSet", "(I)I"⟩, 82) := ⟨⟨by decide +kernel, by decide +kernel⟩, List.mem_of_getElem? (i := 1021) (by decide +kernel), List.mem_of_getElem? (i := 1591) (by decide +kernel), List.mem_of_getElem? (i := 1592) (by decide +kernel)⟩
theorem lw_p158 : lw_okq (⟨"LentStairsModel", "rescueMany", "()I"⟩, 82) := ⟨⟨by decide +kernel, by decide +kernel⟩, List.mem_of_getElem? (i := 1021) (by decide +kernel), List.mem_of_getElem? (i := 1599) (by decide +kernel), List.mem_of_getElem? (i := 1600) (by decide +kernel)⟩
theorem lw_p159 : lw_okq (⟨"LentStairsModel", "spareLeft", "()I"⟩, 82) := ⟨⟨by decide +kernel, by decide +kernel⟩, List.mem_of_getElem? (i := 1021) (by decide +kernel), List.mem_of_getElem? (i := 1603) (by decide +kernel), List.mem_of_getElem? (i := 1604) (by decide +kernel)⟩
def lw_privs_10 : List (MethodName × Nat) := [(⟨"LentStairsModel", "highest", "(IIII)I"⟩, 82), (⟨"LentStairsModel", "isTower", "(I)Z"⟩, 82), (⟨"LentStairsModel", "woodOf", "(I)I"⟩, 82), (⟨"LentStairsModel", "guardsOf", "(IZ)I"⟩, 82), (⟨"LentStairsModel", "isStep", "(II)Z"⟩, 82), (⟨"LentStairsModel", "filledBy", "(II)I"⟩, 82), (⟨"LentStairsModel", "lentBy", "(II)I"⟩, 82), (⟨"LentStairsModel", "isLoan", "(I)Z"⟩, 82), (⟨"LentStairsModel", "isGuard", "(I)Z"⟩, 82), (⟨"LentStairsModel", "keeps", "()V"⟩, 82), (⟨"LentStairsModel", "ends", "(I)V"⟩, 82), (⟨"LentStairsModel", "dayGoes", "()I"⟩, 82), (⟨"LentStairsModel", "spareSet", "(I)I"⟩, 82), (⟨"LentStairsModel", "needSet", "(I)I"⟩, 82), (⟨"LentStairsModel", "rescueMany", "()I"⟩, 82), (⟨"LentStairsModel", "spareLeft", "()I"⟩, 82)]
theorem lw_r10 : ∀ q ∈ lw_privs_10, lw_okq q := List.forall_mem_cons.mpr ⟨lw_p144, List.forall_mem_cons.mpr ⟨lw_p145, List.forall_mem_cons.mpr ⟨lw_p146, List.forall_mem_cons.mpr ⟨lw_p147, List.forall_mem_cons.mpr ⟨lw_p148, List.forall_mem_cons.mpr ⟨lw_p149, List.forall_mem_cons.mpr ⟨lw_p150, List.forall_mem_cons.mpr ⟨lw_p151, List.forall_mem_cons.mpr ⟨lw_p152, List.forall_mem_cons.mpr ⟨lw_p153, List.forall_mem_cons.mpr ⟨lw_p154, List.forall_mem_cons.mpr ⟨lw_p155, List.forall_mem_cons.mpr ⟨lw_p156, List.forall_mem_cons.mpr ⟨lw_p157, List.forall_mem_cons.mpr ⟨lw_p158, List.forall_mem_cons.mpr ⟨lw_p159, fun _ h => absurd h List.not_mem_nil⟩⟩⟩⟩⟩⟩⟩⟩⟩⟩⟩⟩⟩⟩⟩⟩
theorem lw_p160 : lw_okq (⟨"LentStairsModel", "isBlamed", "(II)Z"⟩, 82) := ⟨⟨by decide +kernel, by decide +kernel⟩, List.mem_of_getElem? (i := 1021) (by decide +kernel), List.mem_of_getElem? (i := 1620) (by decide +kernel), List.mem_of_getElem? (i := 1621) (by decide +kernel)⟩
theorem lw_p161 : lw_okq (⟨"LentStairsModel", "stepsBy", "(I)I"⟩, 82) := ⟨⟨by decide +kernel, by decide +kernel⟩, List.mem_of_getElem? (i := 1021) (by decide +kernel), List.mem_of_getElem? (i := 1624) (by decide +kernel), List.mem_of_getElem? (i := 1625) (by decide +kernel)⟩
theorem lw_p162 : lw_okq (⟨"LentStairsModel", "loansBy", "(I)I"⟩, 82) := ⟨⟨by decide +kernel, by decide +kernel⟩, List.mem_of_getElem? (i := 1021) (by decide +kernel), List.mem_of_getElem? (i := 1628) (by decide +kernel), List.mem_of_getElem? (i := 1629) (by decide +kernel)⟩
theorem lw_p163 : lw_okq (⟨"LentStairsModel", "hasLent", "(II)Z"⟩, 82) := ⟨⟨by decide +kernel, by decide +kernel⟩, List.mem_of_getElem? (i := 1021) (by decide +kernel), List.mem_of_getElem? (i := 1640) (by decide +kernel), List.mem_of_getElem? (i := 1641) (by decide +kernel)⟩
theorem lw_p164 : lw_okq (⟨"LentStairsModel", "bentUp", "(II)I"⟩, 82) := ⟨⟨by decide +kernel, by decide +kernel⟩, List.mem_of_getElem? (i := 1021) (by decide +kernel), List.mem_of_getElem? (i := 1648) (by decide +kernel), List.mem_of_getElem? (i := 1649) (by decide +kernel)⟩
theorem lw_p165 : lw_okq (⟨"LentStairsModel", "putsAside", "()V"⟩, 82) := ⟨⟨by decide +kernel, by decide +kernel⟩, List.mem_of_getElem? (i := 1021) (by decide +kernel), List.mem_of_getElem? (i := 1656) (by decide +kernel), List.mem_of_getElem? (i := 1657) (by decide +kernel)⟩
theorem lw_p166 : lw_okq (⟨"LentStairsModel", "takesBack", "()V"⟩, 82) := ⟨⟨by decide +kernel, by decide +kernel⟩, List.mem_of_getElem? (i := 1021) (by decide +kernel), List.mem_of_getElem? (i := 1660) (by decide +kernel), List.mem_of_getElem? (i := 1661) (by decide +kernel)⟩
theorem lw_p167 : lw_okq (⟨"LentStairsModel", "qKind", "()I"⟩, 82) := ⟨⟨by decide +kernel, by decide +kernel⟩, List.mem_of_getElem? (i := 1021) (by decide +kernel), List.mem_of_getElem? (i := 1672) (by decide +kernel), List.mem_of_getElem? (i := 1673) (by decide +kernel)⟩
theorem lw_p168 : lw_okq (⟨"LentStairsModel", "qTest", "()V"⟩, 82) := ⟨⟨by decide +kernel, by decide +kernel⟩, List.mem_of_getElem? (i := 1021) (by decide +kernel), List.mem_of_getElem? (i := 1676) (by decide +kernel), List.mem_of_getElem? (i := 1677) (by decide +kernel)⟩
theorem lw_p169 : lw_okq (⟨"LentStairsModel", "qOpens", "(II)V"⟩, 82) := ⟨⟨by decide +kernel, by decide +kernel⟩, List.mem_of_getElem? (i := 1021) (by decide +kernel), List.mem_of_getElem? (i := 1680) (by decide +kernel), List.mem_of_getElem? (i := 1681) (by decide +kernel)⟩
theorem lw_p170 : lw_okq (⟨"LentStairsModel", "qFact", "()V"⟩, 82) := ⟨⟨by decide +kernel, by decide +kernel⟩, List.mem_of_getElem? (i := 1021) (by decide +kernel), List.mem_of_getElem? (i := 1684) (by decide +kernel), List.mem_of_getElem? (i := 1685) (by decide +kernel)⟩
theorem lw_p171 : lw_okq (⟨"LentStairsModel", "qCode", "(I)V"⟩, 82) := ⟨⟨by decide +kernel, by decide +kernel⟩, List.mem_of_getElem? (i := 1021) (by decide +kernel), List.mem_of_getElem? (i := 1688) (by decide +kernel), List.mem_of_getElem? (i := 1689) (by decide +kernel)⟩
theorem lw_p172 : lw_okq (⟨"LentStairsModel", "qSums", "()V"⟩, 82) := ⟨⟨by decide +kernel, by decide +kernel⟩, List.mem_of_getElem? (i := 1021) (by decide +kernel), List.mem_of_getElem? (i := 1692) (by decide +kernel), List.mem_of_getElem? (i := 1693) (by decide +kernel)⟩
theorem lw_p173 : lw_okq (⟨"LentStairsModel", "qPartTold", "()V"⟩, 82) := ⟨⟨by decide +kernel, by decide +kernel⟩, List.mem_of_getElem? (i := 1021) (by decide +kernel), List.mem_of_getElem? (i := 1696) (by decide +kernel), List.mem_of_getElem? (i := 1697) (by decide +kernel)⟩
theorem lw_p174 : lw_okq (⟨"LentStairsModel", "qWordOf", "(II)I"⟩, 82) := ⟨⟨by decide +kernel, by decide +kernel⟩, List.mem_of_getElem? (i := 1021) (by decide +kernel), List.mem_of_getElem? (i := 1700) (by decide +kernel), List.mem_of_getElem? (i := 1701) (by decide +kernel)⟩
theorem lw_p175 : lw_okq (⟨"LentStairsModel", "qWordHere", "()I"⟩, 82) := ⟨⟨by decide +kernel, by decide +kernel⟩, List.mem_of_getElem? (i := 1021) (by decide +kernel), List.mem_of_getElem? (i := 1704) (by decide +kernel), List.mem_of_getElem? (i := 1705) (by decide +kernel)⟩
def lw_privs_11 : List (MethodName × Nat) := [(⟨"LentStairsModel", "isBlamed", "(II)Z"⟩, 82), (⟨"LentStairsModel", "stepsBy", "(I)I"⟩, 82), (⟨"LentStairsModel", "loansBy", "(I)I"⟩, 82), (⟨"LentStairsModel", "hasLent", "(II)Z"⟩, 82), (⟨"LentStairsModel", "bentUp", "(II)I"⟩, 82), (⟨"LentStairsModel", "putsAside", "()V"⟩, 82), (⟨"LentStairsModel", "takesBack", "()V"⟩, 82), (⟨"LentStairsModel", "qKind", "()I"⟩, 82), (⟨"LentStairsModel", "qTest", "()V"⟩, 82), (⟨"LentStairsModel", "qOpens", "(II)V"⟩, 82), (⟨"LentStairsModel", "qFact", "()V"⟩, 82), (⟨"LentStairsModel", "qCode", "(I)V"⟩, 82), (⟨"LentStairsModel", "qSums", "()V"⟩, 82), (⟨"LentStairsModel", "qPartTold", "()V"⟩, 82), (⟨"LentStairsModel", "qWordOf", "(II)I"⟩, 82), (⟨"LentStairsModel", "qWordHere", "()I"⟩, 82)]
theorem lw_r11 : ∀ q ∈ lw_privs_11, lw_okq q := List.forall_mem_cons.mpr ⟨lw_p160, List.forall_mem_cons.mpr ⟨lw_p161, List.forall_mem_cons.mpr ⟨lw_p162, List.forall_mem_cons.mpr ⟨lw_p163, List.forall_mem_cons.mpr ⟨lw_p164, List.forall_mem_cons.mpr ⟨lw_p165, List.forall_mem_cons.mpr ⟨lw_p166, List.forall_mem_cons.mpr ⟨lw_p167, List.forall_mem_cons.mpr ⟨lw_p168, List.forall_mem_cons.mpr ⟨lw_p169, List.forall_mem_cons.mpr ⟨lw_p170, List.forall_mem_cons.mpr ⟨lw_p171, List.forall_mem_cons.mpr ⟨lw_p172, List.forall_mem_cons.mpr ⟨lw_p173, List.forall_mem_cons.mpr ⟨lw_p174, List.forall_mem_cons.mpr ⟨lw_p175, fun _ h => absurd h List.not_mem_nil⟩⟩⟩⟩⟩⟩⟩⟩⟩⟩⟩⟩⟩⟩⟩⟩
theorem lw_p176 : lw_okq (⟨"LentStairsModel", "qAsksWord", "(I)V"⟩, 82) := ⟨⟨by decide +kernel, by decide +kernel⟩, List.mem_of_getElem? (i := 1021) (by decide +kernel), List.mem_of_getElem? (i := 1708) (by decide +kernel), List.mem_of_getElem? (i := 1709) (by decide +kernel)⟩
theorem lw_p177 : lw_okq (⟨"LentStairsModel", "qEndsPart", "()V"⟩, 82) := ⟨⟨by decide +kernel, by decide +kernel⟩, List.mem_of_getElem? (i := 1021) (by decide +kernel), List.mem_of_getElem? (i := 1712) (by decide +kernel), List.mem_of_getElem? (i := 1713) (by decide +kernel)⟩
theorem lw_p178 : lw_okq (⟨"LentStairsModel", "qDrops", "()V"⟩, 82) := ⟨⟨by decide +kernel, by decide +kernel⟩, List.mem_of_getElem? (i := 1021) (by decide +kernel), List.mem_of_getElem? (i := 1716) (by decide +kernel), List.mem_of_getElem? (i := 1717) (by decide +kernel)⟩
theorem lw_p179 : lw_okq (⟨"LentStairsModel", "qGoesOn", "()Z"⟩, 82) := ⟨⟨by decide +kernel, by decide +kernel⟩, List.mem_of_getElem? (i := 1021) (by decide +kernel), List.mem_of_getElem? (i := 1720) (by decide +kernel), List.mem_of_getElem? (i := 1721) (by decide +kernel)⟩
theorem lw_p180 : lw_okq (⟨"LentStairsModel", "qBracket", "()I"⟩, 82) := ⟨⟨by decide +kernel, by decide +kernel⟩, List.mem_of_getElem? (i := 1021) (by decide +kernel), List.mem_of_getElem? (i := 1724) (by decide +kernel), List.mem_of_getElem? (i := 1725) (by decide +kernel)⟩
theorem lw_p181 : lw_okq (⟨"LentStairsModel", "qDropsToBracket", "()V"⟩, 82) := ⟨⟨by decide +kernel, by decide +kernel⟩, List.mem_of_getElem? (i := 1021) (by decide +kernel), List.mem_of_getElem? (i := 1731) (by decide +kernel), List.mem_of_getElem? (i := 1732) (by decide +kernel)⟩
theorem lw_p182 : lw_okq (⟨"LentStairsModel", "qIsOn", "(I)Z"⟩, 82) := ⟨⟨by decide +kernel, by decide +kernel⟩, List.mem_of_getElem? (i := 1021) (by decide +kernel), List.mem_of_getElem? (i := 1735) (by decide +kernel), List.mem_of_getElem? (i := 1736) (by decide +kernel)⟩
theorem lw_p183 : lw_okq (⟨"LentStairsModel", "qDropsNots", "()V"⟩, 82) := ⟨⟨by decide +kernel, by decide +kernel⟩, List.mem_of_getElem? (i := 1021) (by decide +kernel), List.mem_of_getElem? (i := 1739) (by decide +kernel), List.mem_of_getElem? (i := 1740) (by decide +kernel)⟩
theorem lw_p184 : lw_okq (⟨"LentStairsModel", "qGoesOnTest", "()Z"⟩, 82) := ⟨⟨by decide +kernel, by decide +kernel⟩, List.mem_of_getElem? (i := 1021) (by decide +kernel), List.mem_of_getElem? (i := 1743) (by decide +kernel), List.mem_of_getElem? (i := 1744) (by decide +kernel)⟩
theorem lw_p185 : lw_okq (⟨"LentStairsModel", "qHasSquare", "()Z"⟩, 82) := ⟨⟨by decide +kernel, by decide +kernel⟩, List.mem_of_getElem? (i := 1021) (by decide +kernel), List.mem_of_getElem? (i := 1747) (by decide +kernel), List.mem_of_getElem? (i := 1748) (by decide +kernel)⟩
theorem lw_p186 : lw_okq (⟨"LentStairsModel", "qTold", "(I)J"⟩, 82) := ⟨⟨by decide +kernel, by decide +kernel⟩, List.mem_of_getElem? (i := 1021) (by decide +kernel), List.mem_of_getElem? (i := 1753) (by decide +kernel), List.mem_of_getElem? (i := 1754) (by decide +kernel)⟩
theorem lw_p187 : lw_okq (⟨"LentStairsModel", "qPuts", "(J)V"⟩, 82) := ⟨⟨by decide +kernel, by decide +kernel⟩, List.mem_of_getElem? (i := 1021) (by decide +kernel), List.mem_of_getElem? (i := 1757) (by decide +kernel), List.mem_of_getElem? (i := 1758) (by decide +kernel)⟩
theorem lw_p188 : lw_okq (⟨"LentStairsModel", "qOf", "(IJI)J"⟩, 82) := ⟨⟨by decide +kernel, by decide +kernel⟩, List.mem_of_getElem? (i := 1021) (by decide +kernel), List.mem_of_getElem? (i := 1761) (by decide +kernel), List.mem_of_getElem? (i := 1762) (by decide +kernel)⟩
theorem lw_p189 : lw_okq (⟨"LentStairsModel", "qPartOf", "(II)J"⟩, 82) := ⟨⟨by decide +kernel, by decide +kernel⟩, List.mem_of_getElem? (i := 1021) (by decide +kernel), List.mem_of_getElem? (i := 1771) (by decide +kernel), List.mem_of_getElem? (i := 1772) (by decide +kernel)⟩
theorem lw_p190 : lw_okq (⟨"LentStairsModel", "qJoins", "(I)V"⟩, 82) := ⟨⟨by decide +kernel, by decide +kernel⟩, List.mem_of_getElem? (i := 1021) (by decide +kernel), List.mem_of_getElem? (i := 1775) (by decide +kernel), List.mem_of_getElem? (i := 1776) (by decide +kernel)⟩
theorem lw_p191 : lw_okq (⟨"LentStairsModel", "qTakes", "(IJI)V"⟩, 82) := ⟨⟨by decide +kernel, by decide +kernel⟩, List.mem_of_getElem? (i := 1021) (by decide +kernel), List.mem_of_getElem? (i := 1782) (by decide +kernel), List.mem_of_getElem? (i := 1783) (by decide +kernel)⟩
def lw_privs_12 : List (MethodName × Nat) := [(⟨"LentStairsModel", "qAsksWord", "(I)V"⟩, 82), (⟨"LentStairsModel", "qEndsPart", "()V"⟩, 82), (⟨"LentStairsModel", "qDrops", "()V"⟩, 82), (⟨"LentStairsModel", "qGoesOn", "()Z"⟩, 82), (⟨"LentStairsModel", "qBracket", "()I"⟩, 82), (⟨"LentStairsModel", "qDropsToBracket", "()V"⟩, 82), (⟨"LentStairsModel", "qIsOn", "(I)Z"⟩, 82), (⟨"LentStairsModel", "qDropsNots", "()V"⟩, 82), (⟨"LentStairsModel", "qGoesOnTest", "()Z"⟩, 82), (⟨"LentStairsModel", "qHasSquare", "()Z"⟩, 82), (⟨"LentStairsModel", "qTold", "(I)J"⟩, 82), (⟨"LentStairsModel", "qPuts", "(J)V"⟩, 82), (⟨"LentStairsModel", "qOf", "(IJI)J"⟩, 82), (⟨"LentStairsModel", "qPartOf", "(II)J"⟩, 82), (⟨"LentStairsModel", "qJoins", "(I)V"⟩, 82), (⟨"LentStairsModel", "qTakes", "(IJI)V"⟩, 82)]
theorem lw_r12 : ∀ q ∈ lw_privs_12, lw_okq q := List.forall_mem_cons.mpr ⟨lw_p176, List.forall_mem_cons.mpr ⟨lw_p177, List.forall_mem_cons.mpr ⟨lw_p178, List.forall_mem_cons.mpr ⟨lw_p179, List.forall_mem_cons.mpr ⟨lw_p180, List.forall_mem_cons.mpr ⟨lw_p181, List.forall_mem_cons.mpr ⟨lw_p182, List.forall_mem_cons.mpr ⟨lw_p183, List.forall_mem_cons.mpr ⟨lw_p184, List.forall_mem_cons.mpr ⟨lw_p185, List.forall_mem_cons.mpr ⟨lw_p186, List.forall_mem_cons.mpr ⟨lw_p187, List.forall_mem_cons.mpr ⟨lw_p188, List.forall_mem_cons.mpr ⟨lw_p189, List.forall_mem_cons.mpr ⟨lw_p190, List.forall_mem_cons.mpr ⟨lw_p191, fun _ h => absurd h List.not_mem_nil⟩⟩⟩⟩⟩⟩⟩⟩⟩⟩⟩⟩⟩⟩⟩⟩
theorem lw_p192 : lw_okq (⟨"LentStairsModel", "writes", "(I)V"⟩, 82) := ⟨⟨by decide +kernel, by decide +kernel⟩, List.mem_of_getElem? (i := 1021) (by decide +kernel), List.mem_of_getElem? (i := 1790) (by decide +kernel), List.mem_of_getElem? (i := 1791) (by decide +kernel)⟩
def lw_privs_13 : List (MethodName × Nat) := [(⟨"LentStairsModel", "writes", "(I)V"⟩, 82)]
theorem lw_r13 : ∀ q ∈ lw_privs_13, lw_okq q := List.forall_mem_cons.mpr ⟨lw_p192, fun _ h => absurd h List.not_mem_nil⟩
def lw_privs : List (MethodName × Nat) := lw_privs_1 ++ (lw_privs_2 ++ (lw_privs_3 ++ (lw_privs_4 ++ (lw_privs_5 ++ (lw_privs_6 ++ (lw_privs_7 ++ (lw_privs_8 ++ (lw_privs_9 ++ (lw_privs_10 ++ (lw_privs_11 ++ (lw_privs_12 ++ (lw_privs_13))))))))))))
def lw_tbl : List Cond := k2_sels lw_privs ++ tables_1
theorem lw_privs_ok : ∀ q ∈ lw_privs, lw_okq q := by
  show ∀ q ∈ lw_privs_1 ++ (lw_privs_2 ++ (lw_privs_3 ++ (lw_privs_4 ++ (lw_privs_5 ++ (lw_privs_6 ++ (lw_privs_7 ++ (lw_privs_8 ++ (lw_privs_9 ++ (lw_privs_10 ++ (lw_privs_11 ++ (lw_privs_12 ++ (lw_privs_13)))))))))))), lw_okq q
  exact List.forall_mem_append.mpr ⟨lw_r1, List.forall_mem_append.mpr ⟨lw_r2, List.forall_mem_append.mpr ⟨lw_r3, List.forall_mem_append.mpr ⟨lw_r4, List.forall_mem_append.mpr ⟨lw_r5, List.forall_mem_append.mpr ⟨lw_r6, List.forall_mem_append.mpr ⟨lw_r7, List.forall_mem_append.mpr ⟨lw_r8, List.forall_mem_append.mpr ⟨lw_r9, List.forall_mem_append.mpr ⟨lw_r10, List.forall_mem_append.mpr ⟨lw_r11, List.forall_mem_append.mpr ⟨lw_r12, lw_r13⟩⟩⟩⟩⟩⟩⟩⟩⟩⟩⟩⟩
-- ===== end of PART A; then your names; then what follows =====
end
section
/-! ===== BEGIN words of one list among another's, by their places ===== -/
theorem goodIn_r {big : List Cond} (ws : List Cond) (ps : List Nat) (hp : ws = ps.filterMap (fun i => big[i]?)) (h : ws.all goodWord = true) : GoodIn big ws := by
  intro w hw
  have h1 := List.all_eq_true.mp h w hw
  rw [hp] at hw
  obtain ⟨i, -, hi⟩ := List.mem_filterMap.mp hw
  have hm : w ∈ big := by first | exact List.mem_of_getElem? hi | exact List.getElem?_mem hi
  exact ⟨hm, good_of_word h1⟩
theorem goodIn_app {big a b : List Cond} (ha : GoodIn big a) (hb : GoodIn big b) : GoodIn big (a ++ b) := fun w h => (List.mem_append.mp h).elim (ha w) (hb w)
theorem goodIn_ca {big a b : List Cond} {c : Cond} (ha : GoodIn big (c :: a)) (hb : GoodIn big b) : GoodIn big (c :: (a ++ b)) := fun w h => (List.mem_cons.mp h).elim (fun e => ha w (List.mem_cons.mpr (Or.inl e))) (fun h => (List.mem_append.mp h).elim (fun h => ha w (List.mem_cons.mpr (Or.inr h))) (hb w))
theorem goodIn_sub {big ws : List Cond} (hm : ∀ w ∈ ws, w ∈ big) (h : ws.all goodWord = true) : GoodIn big ws := fun w hw => ⟨hm w hw, good_of_word (List.all_eq_true.mp h w hw)⟩
/-! ===== END ===== -/

/-! ===== BEGIN printed: names, fields, word lists, decode rows ===== -/
def RX0 : String := "LentStairs$History"
def TX0 : u_T := fun k => match k with
  | 0 => ("LentStairs$History", "rows", "[I", true)
  | 1 => ("LentStairs$History", "next", "I", false)
  | _ => ("LentStairs$History", "kept", "I", false)
def tyX0 : Nat → FieldType := fun k => match k with
  | 0 => .array .int
  | 1 => .int
  | _ => .int
abbrev wsX00 : List Cond := u_ws RX0 TX0 3
theorem nmX0 : ∀ a, a < 3 → ∀ b, b < 3 → a ≠ b → (TX0 a).2.1 ≠ (TX0 b).2.1 := by decide +kernel
theorem tyX0_ok : ∀ k, k < 3 → parseFieldDescriptor (TX0 k).2.2.1 = some (tyX0 k) := by decide +kernel
abbrev cX0_init : ByteArray := prog_2_method_1_code
def yX0_init : MethodName := ⟨RX0, "<init>", "()V"⟩
abbrev cX0_forget : ByteArray := prog_2_method_2_code
def yX0_forget : MethodName := ⟨RX0, "forget", "()V"⟩
abbrev cX0_keep : ByteArray := prog_2_method_3_code
def yX0_keep : MethodName := ⟨RX0, "keep", "(LLentStairs$State;)V"⟩
abbrev cX0_takeBack : ByteArray := prog_2_method_4_code
def yX0_takeBack : MethodName := ⟨RX0, "takeBack", "(LLentStairs$State;)Z"⟩
def RX1 : String := "LentStairs$Picture"
def TX1 : u_T := fun k => match k with
  | 0 => ("LentStairs$Picture", "octets", "[I", true)
  | _ => ("LentStairs$Picture", "size", "I", false)
def tyX1 : Nat → FieldType := fun k => match k with
  | 0 => .array .int
  | _ => .int
abbrev wsX10 : List Cond := u_ws RX1 TX1 2
theorem nmX1 : ∀ a, a < 2 → ∀ b, b < 2 → a ≠ b → (TX1 a).2.1 ≠ (TX1 b).2.1 := by decide +kernel
theorem tyX1_ok : ∀ k, k < 2 → parseFieldDescriptor (TX1 k).2.2.1 = some (tyX1 k) := by decide +kernel
abbrev cX1_init : ByteArray := prog_3_method_1_code
def yX1_init : MethodName := ⟨RX1, "<init>", "()V"⟩
abbrev cX1_draw : ByteArray := prog_3_method_2_code
def yX1_draw : MethodName := ⟨RX1, "draw", "(LLentStairs$Realm;LLentStairs$State;)I"⟩
abbrev cX1_check : ByteArray := prog_3_method_3_code
def yX1_check : MethodName := ⟨RX1, "check", "()I"⟩
abbrev cX1_putBytes : ByteArray := prog_3_method_4_code
def yX1_putBytes : MethodName := ⟨RX1, "putBytes", "(II)V"⟩
def RX2 : String := "LentStairs$Prices"
def TX2 : u_T := fun k => match k with
  | 0 => ("LentStairs$Prices", "price", "[I", true)
  | 1 => ("LentStairs$Prices", "best", "[I", true)
  | _ => ("LentStairs$Prices", "ways", "[I", true)
def tyX2 : Nat → FieldType := fun k => match k with
  | 0 => .array .int
  | 1 => .array .int
  | _ => .array .int
abbrev wsX20 : List Cond := u_ws RX2 TX2 3
theorem nmX2 : ∀ a, a < 3 → ∀ b, b < 3 → a ≠ b → (TX2 a).2.1 ≠ (TX2 b).2.1 := by decide +kernel
theorem tyX2_ok : ∀ k, k < 3 → parseFieldDescriptor (TX2 k).2.2.1 = some (tyX2 k) := by decide +kernel
abbrev cX2_init : ByteArray := prog_4_method_1_code
def yX2_init : MethodName := ⟨RX2, "<init>", "()V"⟩
abbrev cX2_forFilling : ByteArray := prog_4_method_2_code
def yX2_forFilling : MethodName := ⟨RX2, "forFilling", "(LLentStairs$State;II)V"⟩
abbrev cX2_forKeeping : ByteArray := prog_4_method_3_code
def yX2_forKeeping : MethodName := ⟨RX2, "forKeeping", "(LLentStairs$State;II)V"⟩
abbrev cX2_forRefits : ByteArray := prog_4_method_4_code
def yX2_forRefits : MethodName := ⟨RX2, "forRefits", "(LLentStairs$State;II)V"⟩
abbrev cX2_forLoansBack : ByteArray := prog_4_method_5_code
def yX2_forLoansBack : MethodName := ⟨RX2, "forLoansBack", "(LLentStairs$State;II)V"⟩
abbrev cX2_cheapest : ByteArray := prog_4_method_6_code
def yX2_cheapest : MethodName := ⟨RX2, "cheapest", "(II)I"⟩
abbrev cX2_fewestSets : ByteArray := prog_4_method_7_code
def yX2_fewestSets : MethodName := ⟨RX2, "fewestSets", "(II)I"⟩
abbrev cX2_closeBelow : ByteArray := prog_4_method_8_code
def yX2_closeBelow : MethodName := ⟨RX2, "closeBelow", "(I)V"⟩
abbrev cX2_join : ByteArray := prog_4_method_9_code
def yX2_join : MethodName := ⟨RX2, "join", "(II)V"⟩
def RX3 : String := "LentStairs$Question"
def TX3 : u_T := fun k => match k with
  | 0 => ("LentStairs$Question", "tape", "LLentStairs$Tape;", true)
  | 1 => ("LentStairs$Question", "code", "[I", true)
  | 2 => ("LentStairs$Question", "stack", "[I", true)
  | 3 => ("LentStairs$Question", "size", "I", false)
  | 4 => ("LentStairs$Question", "verb", "I", false)
  | 5 => ("LentStairs$Question", "open", "I", false)
  | 6 => ("LentStairs$Question", "heldThen", "I", false)
  | 7 => ("LentStairs$Question", "lentThen", "I", false)
  | 8 => ("LentStairs$Question", "bentThen", "I", false)
  | _ => ("LentStairs$Question", "yardThen", "I", false)
def tyX3 : Nat → FieldType := fun k => match k with
  | 0 => .object "LentStairs$Tape"
  | 1 => .array .int
  | 2 => .array .int
  | 3 => .int
  | 4 => .int
  | 5 => .int
  | 6 => .int
  | 7 => .int
  | 8 => .int
  | _ => .int
abbrev wsX30 : List Cond := u_ws RX3 TX3 10
theorem nmX3 : ∀ a, a < 10 → ∀ b, b < 10 → a ≠ b → (TX3 a).2.1 ≠ (TX3 b).2.1 := by decide +kernel
theorem tyX3_ok : ∀ k, k < 10 → parseFieldDescriptor (TX3 k).2.2.1 = some (tyX3 k) := by decide +kernel
abbrev cX3_init : ByteArray := prog_5_method_1_code
def yX3_init : MethodName := ⟨RX3, "<init>", "(LLentStairs$Tape;)V"⟩
abbrev cX3_read : ByteArray := prog_5_method_2_code
def yX3_read : MethodName := ⟨RX3, "read", "()Z"⟩
abbrev cX3_write : ByteArray := prog_5_method_3_code
def yX3_write : MethodName := ⟨RX3, "write", "(I)Z"⟩
abbrev cX3_writeSign : ByteArray := prog_5_method_4_code
def yX3_writeSign : MethodName := ⟨RX3, "writeSign", "(I)Z"⟩
abbrev cX3_openOne : ByteArray := prog_5_method_5_code
def yX3_openOne : MethodName := ⟨RX3, "openOne", "()Z"⟩
abbrev cX3_closeWith : ByteArray := prog_5_method_6_code
def yX3_closeWith : MethodName := ⟨RX3, "closeWith", "(C)Z"⟩
abbrev cX3_readTest : ByteArray := prog_5_method_7_code
def yX3_readTest : MethodName := ⟨RX3, "readTest", "()Z"⟩
abbrev cX3_readBoth : ByteArray := prog_5_method_8_code
def yX3_readBoth : MethodName := ⟨RX3, "readBoth", "()Z"⟩
abbrev cX3_readFact : ByteArray := prog_5_method_9_code
def yX3_readFact : MethodName := ⟨RX3, "readFact", "()Z"⟩
abbrev cX3_readComparison : ByteArray := prog_5_method_10_code
def yX3_readComparison : MethodName := ⟨RX3, "readComparison", "()Z"⟩
abbrev cX3_readSum : ByteArray := prog_5_method_11_code
def yX3_readSum : MethodName := ⟨RX3, "readSum", "()Z"⟩
abbrev cX3_readProduct : ByteArray := prog_5_method_12_code
def yX3_readProduct : MethodName := ⟨RX3, "readProduct", "()Z"⟩
abbrev cX3_readPart : ByteArray := prog_5_method_13_code
def yX3_readPart : MethodName := ⟨RX3, "readPart", "()Z"⟩
abbrev cX3_readNumber : ByteArray := prog_5_method_14_code
def yX3_readNumber : MethodName := ⟨RX3, "readNumber", "()Z"⟩
abbrev cX3_readPair : ByteArray := prog_5_method_15_code
def yX3_readPair : MethodName := ⟨RX3, "readPair", "()Z"⟩
abbrev cX3_answer : ByteArray := prog_5_method_16_code
def yX3_answer : MethodName := ⟨RX3, "answer", "(LLentStairs$Realm;LLentStairs$State;I)J"⟩
abbrev cX3_countAll : ByteArray := prog_5_method_17_code
def yX3_countAll : MethodName := ⟨RX3, "countAll", "(LLentStairs$Realm;LLentStairs$State;)V"⟩
abbrev cX3_valueThen : ByteArray := prog_5_method_18_code
def yX3_valueThen : MethodName := ⟨RX3, "valueThen", "(LLentStairs$Realm;LLentStairs$State;)I"⟩
abbrev cX3_plainPart : ByteArray := prog_5_method_19_code
def yX3_plainPart : MethodName := ⟨RX3, "plainPart", "(II)I"⟩
abbrev cX3_ofOne : ByteArray := prog_5_method_20_code
def yX3_ofOne : MethodName := ⟨RX3, "ofOne", "(IILLentStairs$Realm;LLentStairs$State;)I"⟩
abbrev cX3_reachThen : ByteArray := prog_5_method_21_code
def yX3_reachThen : MethodName := ⟨RX3, "reachThen", "(ILLentStairs$Realm;LLentStairs$State;)I"⟩
abbrev cX3_ofTwo : ByteArray := prog_5_method_22_code
def yX3_ofTwo : MethodName := ⟨RX3, "ofTwo", "(III)I"⟩
abbrev cX3_bounded : ByteArray := prog_5_method_23_code
def yX3_bounded : MethodName := ⟨RX3, "bounded", "(J)I"⟩
def RX4 : String := "LentStairs$Realm"
def TX4 : u_T := fun k => match k with
  | 0 => ("LentStairs$Realm", "towers", "I", false)
  | 1 => ("LentStairs$Realm", "guards", "I", false)
  | 2 => ("LentStairs$Realm", "gaps", "I", false)
  | 3 => ("LentStairs$Realm", "loans", "I", false)
  | 4 => ("LentStairs$Realm", "bends", "I", false)
  | 5 => ("LentStairs$Realm", "names", "[I", true)
  | 6 => ("LentStairs$Realm", "heights", "[I", true)
  | 7 => ("LentStairs$Realm", "costs", "[I", true)
  | 8 => ("LentStairs$Realm", "gapBits", "[I", true)
  | 9 => ("LentStairs$Realm", "toldBits", "[I", true)
  | 10 => ("LentStairs$Realm", "guardTowers", "[I", true)
  | 11 => ("LentStairs$Realm", "legs", "[I", true)
  | 12 => ("LentStairs$Realm", "ropes", "[I", true)
  | 13 => ("LentStairs$Realm", "odds", "[I", true)
  | _ => ("LentStairs$Realm", "told", "[I", true)
def tyX4 : Nat → FieldType := fun k => match k with
  | 0 => .int
  | 1 => .int
  | 2 => .int
  | 3 => .int
  | 4 => .int
  | 5 => .array .int
  | 6 => .array .int
  | 7 => .array .int
  | 8 => .array .int
  | 9 => .array .int
  | 10 => .array .int
  | 11 => .array .int
  | 12 => .array .int
  | 13 => .array .int
  | _ => .array .int
abbrev wsX40 : List Cond := u_ws RX4 TX4 15
theorem nmX4 : ∀ a, a < 15 → ∀ b, b < 15 → a ≠ b → (TX4 a).2.1 ≠ (TX4 b).2.1 := by decide +kernel
theorem tyX4_ok : ∀ k, k < 15 → parseFieldDescriptor (TX4 k).2.2.1 = some (tyX4 k) := by decide +kernel
abbrev cX4_init : ByteArray := prog_6_method_1_code
def yX4_init : MethodName := ⟨RX4, "<init>", "()V"⟩
abbrev cX4_clear : ByteArray := prog_6_method_2_code
def yX4_clear : MethodName := ⟨RX4, "clear", "()V"⟩
abbrev cX4_letterOf : ByteArray := prog_6_method_3_code
def yX4_letterOf : MethodName := ⟨RX4, "letterOf", "(II)I"⟩
abbrev cX4_guardsOf : ByteArray := prog_6_method_4_code
def yX4_guardsOf : MethodName := ⟨RX4, "guardsOf", "(I)I"⟩
abbrev cX4_leastLegs : ByteArray := prog_6_method_5_code
def yX4_leastLegs : MethodName := ⟨RX4, "leastLegs", "(I)I"⟩
abbrev cX4_addTower : ByteArray := prog_6_method_6_code
def yX4_addTower : MethodName := ⟨RX4, "addTower", "(I)V"⟩
abbrev cX4_addGuard : ByteArray := prog_6_method_7_code
def yX4_addGuard : MethodName := ⟨RX4, "addGuard", "(III)V"⟩
abbrev cX4_addLoan : ByteArray := prog_6_method_8_code
def yX4_addLoan : MethodName := ⟨RX4, "addLoan", "(IIIII)V"⟩
def RX5 : String := "LentStairs$RealmReader"
def TX5 : u_T := fun k => match k with
  | 0 => ("LentStairs$RealmReader", "tape", "LLentStairs$Tape;", true)
  | _ => ("LentStairs$RealmReader", "realm", "LLentStairs$Realm;", false)
def tyX5 : Nat → FieldType := fun k => match k with
  | 0 => .object "LentStairs$Tape"
  | _ => .object "LentStairs$Realm"
abbrev wsX50 : List Cond := u_ws RX5 TX5 2
theorem nmX5 : ∀ a, a < 2 → ∀ b, b < 2 → a ≠ b → (TX5 a).2.1 ≠ (TX5 b).2.1 := by decide +kernel
theorem tyX5_ok : ∀ k, k < 2 → parseFieldDescriptor (TX5 k).2.2.1 = some (tyX5 k) := by decide +kernel
abbrev cX5_init : ByteArray := prog_7_method_1_code
def yX5_init : MethodName := ⟨RX5, "<init>", "(LLentStairs$Tape;)V"⟩
abbrev cX5_read : ByteArray := prog_7_method_2_code
def yX5_read : MethodName := ⟨RX5, "read", "()I"⟩
abbrev cX5_readStatement : ByteArray := prog_7_method_3_code
def yX5_readStatement : MethodName := ⟨RX5, "readStatement", "()Z"⟩
abbrev cX5_tooMany : ByteArray := prog_7_method_4_code
def yX5_tooMany : MethodName := ⟨RX5, "tooMany", "(I)Z"⟩
abbrev cX5_readTower : ByteArray := prog_7_method_5_code
def yX5_readTower : MethodName := ⟨RX5, "readTower", "()Z"⟩
abbrev cX5_readWood : ByteArray := prog_7_method_6_code
def yX5_readWood : MethodName := ⟨RX5, "readWood", "()Z"⟩
abbrev cX5_readGap : ByteArray := prog_7_method_7_code
def yX5_readGap : MethodName := ⟨RX5, "readGap", "()Z"⟩
abbrev cX5_readGuard : ByteArray := prog_7_method_8_code
def yX5_readGuard : MethodName := ⟨RX5, "readGuard", "()Z"⟩
abbrev cX5_readLoan : ByteArray := prog_7_method_9_code
def yX5_readLoan : MethodName := ⟨RX5, "readLoan", "()Z"⟩
abbrev cX5_readBends : ByteArray := prog_7_method_10_code
def yX5_readBends : MethodName := ⟨RX5, "readBends", "()Z"⟩
abbrev cX5_readEnemy : ByteArray := prog_7_method_11_code
def yX5_readEnemy : MethodName := ⟨RX5, "readEnemy", "()Z"⟩
abbrev cX5_canTake : ByteArray := prog_7_method_12_code
def yX5_canTake : MethodName := ⟨RX5, "canTake", "(II)Z"⟩
abbrev cX5_takeWord : ByteArray := prog_7_method_13_code
def yX5_takeWord : MethodName := ⟨RX5, "takeWord", "(I)Z"⟩
abbrev cX5_takeNumber : ByteArray := prog_7_method_14_code
def yX5_takeNumber : MethodName := ⟨RX5, "takeNumber", "(II)I"⟩
abbrev cX5_canBeName : ByteArray := prog_7_method_15_code
def yX5_canBeName : MethodName := ⟨RX5, "canBeName", "()Z"⟩
abbrev cX5_takeNewName : ByteArray := prog_7_method_16_code
def yX5_takeNewName : MethodName := ⟨RX5, "takeNewName", "(I)Z"⟩
abbrev cX5_takeTower : ByteArray := prog_7_method_17_code
def yX5_takeTower : MethodName := ⟨RX5, "takeTower", "(I)I"⟩
abbrev cX5_towerNamedHere : ByteArray := prog_7_method_18_code
def yX5_towerNamedHere : MethodName := ⟨RX5, "towerNamedHere", "()I"⟩
abbrev cX5_guardNamedHere : ByteArray := prog_7_method_19_code
def yX5_guardNamedHere : MethodName := ⟨RX5, "guardNamedHere", "()Z"⟩
abbrev cX5_isNameHere : ByteArray := prog_7_method_20_code
def yX5_isNameHere : MethodName := ⟨RX5, "isNameHere", "(I)Z"⟩
def RX6 : String := "LentStairs$State"
def TX6 : u_T := fun k => match k with
  | _ => ("LentStairs$State", "row", "[I", true)
def tyX6 : Nat → FieldType := fun k => match k with
  | _ => .array .int
abbrev wsX60 : List Cond := u_ws RX6 TX6 1
theorem nmX6 : ∀ a, a < 1 → ∀ b, b < 1 → a ≠ b → (TX6 a).2.1 ≠ (TX6 b).2.1 := by decide +kernel
theorem tyX6_ok : ∀ k, k < 1 → parseFieldDescriptor (TX6 k).2.2.1 = some (tyX6 k) := by decide +kernel
abbrev cX6_init : ByteArray := prog_8_method_1_code
def yX6_init : MethodName := ⟨RX6, "<init>", "()V"⟩
abbrev cX6_copy : ByteArray := prog_8_method_2_code
def yX6_copy : MethodName := ⟨RX6, "copy", "(LLentStairs$State;)V"⟩
abbrev cX6_beginWith : ByteArray := prog_8_method_3_code
def yX6_beginWith : MethodName := ⟨RX6, "beginWith", "(LLentStairs$Realm;)V"⟩
abbrev cX6_today : ByteArray := prog_8_method_4_code
def yX6_today : MethodName := ⟨RX6, "today", "()I"⟩
abbrev cX6_loans : ByteArray := prog_8_method_5_code
def yX6_loans : MethodName := ⟨RX6, "loans", "()I"⟩
abbrev cX6_inPurse : ByteArray := prog_8_method_6_code
def yX6_inPurse : MethodName := ⟨RX6, "inPurse", "(I)I"⟩
abbrev cX6_thereIn : ByteArray := prog_8_method_7_code
def yX6_thereIn : MethodName := ⟨RX6, "thereIn", "(I)I"⟩
abbrev cX6_bentIn : ByteArray := prog_8_method_8_code
def yX6_bentIn : MethodName := ⟨RX6, "bentIn", "(I)I"⟩
abbrev cX6_filledIn : ByteArray := prog_8_method_9_code
def yX6_filledIn : MethodName := ⟨RX6, "filledIn", "(I)I"⟩
abbrev cX6_standing : ByteArray := prog_8_method_10_code
def yX6_standing : MethodName := ⟨RX6, "standing", "(I)I"⟩
abbrev cX6_ofLoan : ByteArray := prog_8_method_11_code
def yX6_ofLoan : MethodName := ⟨RX6, "ofLoan", "(II)I"⟩
abbrev cX6_hasEnded : ByteArray := prog_8_method_12_code
def yX6_hasEnded : MethodName := ⟨RX6, "hasEnded", "(I)Z"⟩
abbrev cX6_howIs : ByteArray := prog_8_method_13_code
def yX6_howIs : MethodName := ⟨RX6, "howIs", "(II)I"⟩
abbrev cX6_isHeld : ByteArray := prog_8_method_14_code
def yX6_isHeld : MethodName := ⟨RX6, "isHeld", "(LLentStairs$Realm;I)Z"⟩
abbrev cX6_heldTowers : ByteArray := prog_8_method_15_code
def yX6_heldTowers : MethodName := ⟨RX6, "heldTowers", "(LLentStairs$Realm;)I"⟩
abbrev cX6_bentSteps : ByteArray := prog_8_method_16_code
def yX6_bentSteps : MethodName := ⟨RX6, "bentSteps", "()I"⟩
abbrev cX6_openLoans : ByteArray := prog_8_method_17_code
def yX6_openLoans : MethodName := ⟨RX6, "openLoans", "()I"⟩
abbrev cX6_stepsInYards : ByteArray := prog_8_method_18_code
def yX6_stepsInYards : MethodName := ⟨RX6, "stepsInYards", "()I"⟩
abbrev cX6_loanThatFills : ByteArray := prog_8_method_19_code
def yX6_loanThatFills : MethodName := ⟨RX6, "loanThatFills", "(II)I"⟩
abbrev cX6_loanThatLends : ByteArray := prog_8_method_20_code
def yX6_loanThatLends : MethodName := ⟨RX6, "loanThatLends", "(II)I"⟩
abbrev cX6_lentMoreThanBorrowed : ByteArray := prog_8_method_21_code
def yX6_lentMoreThanBorrowed : MethodName := ⟨RX6, "lentMoreThanBorrowed", "(I)I"⟩
abbrev cX6_borrowersOf : ByteArray := prog_8_method_22_code
def yX6_borrowersOf : MethodName := ⟨RX6, "borrowersOf", "(I)I"⟩
abbrev cX6_rentsWithin : ByteArray := prog_8_method_23_code
def yX6_rentsWithin : MethodName := ⟨RX6, "rentsWithin", "(II)I"⟩
abbrev cX6_startLoan : ByteArray := prog_8_method_24_code
def yX6_startLoan : MethodName := ⟨RX6, "startLoan", "(LLentStairs$Realm;IIIII)I"⟩
abbrev cX6_lowestOpen : ByteArray := prog_8_method_25_code
def yX6_lowestOpen : MethodName := ⟨RX6, "lowestOpen", "(II)I"⟩
abbrev cX6_endLoan : ByteArray := prog_8_method_26_code
def yX6_endLoan : MethodName := ⟨RX6, "endLoan", "(II)V"⟩
abbrev cX6_straighten : ByteArray := prog_8_method_27_code
def yX6_straighten : MethodName := ⟨RX6, "straighten", "(III)V"⟩
abbrev cX6_passDay : ByteArray := prog_8_method_28_code
def yX6_passDay : MethodName := ⟨RX6, "passDay", "(I)I"⟩
def RX7 : String := "LentStairs$Tape"
def TX7 : u_T := fun k => match k with
  | 0 => ("LentStairs$Tape", "octets", "[I", true)
  | 1 => ("LentStairs$Tape", "length", "I", false)
  | 2 => ("LentStairs$Tape", "fault", "I", false)
  | 3 => ("LentStairs$Tape", "faultPlace", "I", false)
  | 4 => ("LentStairs$Tape", "kind", "I", false)
  | 5 => ("LentStairs$Tape", "start", "I", false)
  | _ => ("LentStairs$Tape", "stop", "I", false)
def tyX7 : Nat → FieldType := fun k => match k with
  | 0 => .array .int
  | 1 => .int
  | 2 => .int
  | 3 => .int
  | 4 => .int
  | 5 => .int
  | _ => .int
abbrev wsX70 : List Cond := u_ws RX7 TX7 7
theorem nmX7 : ∀ a, a < 7 → ∀ b, b < 7 → a ≠ b → (TX7 a).2.1 ≠ (TX7 b).2.1 := by decide +kernel
theorem tyX7_ok : ∀ k, k < 7 → parseFieldDescriptor (TX7 k).2.2.1 = some (tyX7 k) := by decide +kernel
abbrev cX7_init : ByteArray := prog_9_method_1_code
def yX7_init : MethodName := ⟨RX7, "<init>", "()V"⟩
abbrev cX7_put : ByteArray := prog_9_method_2_code
def yX7_put : MethodName := ⟨RX7, "put", "(I)V"⟩
abbrev cX7_rewind : ByteArray := prog_9_method_3_code
def yX7_rewind : MethodName := ⟨RX7, "rewind", "()V"⟩
abbrev cX7_advance : ByteArray := prog_9_method_4_code
def yX7_advance : MethodName := ⟨RX7, "advance", "()V"⟩
abbrev cX7_fail : ByteArray := prog_9_method_5_code
def yX7_fail : MethodName := ⟨RX7, "fail", "(II)Z"⟩
abbrev cX7_failHere : ByteArray := prog_9_method_6_code
def yX7_failHere : MethodName := ⟨RX7, "failHere", "()Z"⟩
abbrev cX7_isSign : ByteArray := prog_9_method_7_code
def yX7_isSign : MethodName := ⟨RX7, "isSign", "(C)Z"⟩
abbrev cX7_takeSign : ByteArray := prog_9_method_8_code
def yX7_takeSign : MethodName := ⟨RX7, "takeSign", "(C)Z"⟩
abbrev cX7_wordAmong : ByteArray := prog_9_method_9_code
def yX7_wordAmong : MethodName := ⟨RX7, "wordAmong", "(Ljava/lang/String;)I"⟩
abbrev cX7_numberHere : ByteArray := prog_9_method_10_code
def yX7_numberHere : MethodName := ⟨RX7, "numberHere", "()I"⟩
abbrev cX7_letterHere : ByteArray := prog_9_method_11_code
def yX7_letterHere : MethodName := ⟨RX7, "letterHere", "(I)I"⟩
abbrev cX7_isBlank : ByteArray := prog_9_method_12_code
def yX7_isBlank : MethodName := ⟨RX7, "isBlank", "(I)Z"⟩
abbrev cX7_isLetter : ByteArray := prog_9_method_13_code
def yX7_isLetter : MethodName := ⟨RX7, "isLetter", "(I)Z"⟩
abbrev cX7_isDigit : ByteArray := prog_9_method_14_code
def yX7_isDigit : MethodName := ⟨RX7, "isDigit", "(I)Z"⟩
def RX8 : String := "LentStairs"
def TX8 : u_T := fun k => match k with
  | 0 => ("LentStairs", "tape", "LLentStairs$Tape;", true)
  | 1 => ("LentStairs", "reader", "LLentStairs$RealmReader;", true)
  | 2 => ("LentStairs", "question", "LLentStairs$Question;", true)
  | 3 => ("LentStairs", "prices", "LLentStairs$Prices;", true)
  | 4 => ("LentStairs", "state", "LLentStairs$State;", true)
  | 5 => ("LentStairs", "ahead", "LLentStairs$State;", true)
  | 6 => ("LentStairs", "history", "LLentStairs$History;", true)
  | 7 => ("LentStairs", "picture", "LLentStairs$Picture;", true)
  | 8 => ("LentStairs", "refused", "[I", true)
  | _ => ("LentStairs", "realm", "LLentStairs$Realm;", false)
def tyX8 : Nat → FieldType := fun k => match k with
  | 0 => .object "LentStairs$Tape"
  | 1 => .object "LentStairs$RealmReader"
  | 2 => .object "LentStairs$Question"
  | 3 => .object "LentStairs$Prices"
  | 4 => .object "LentStairs$State"
  | 5 => .object "LentStairs$State"
  | 6 => .object "LentStairs$History"
  | 7 => .object "LentStairs$Picture"
  | 8 => .array .int
  | _ => .object "LentStairs$Realm"
abbrev wsX80 : List Cond := u_ws RX8 TX8 10
theorem nmX8 : ∀ a, a < 10 → ∀ b, b < 10 → a ≠ b → (TX8 a).2.1 ≠ (TX8 b).2.1 := by decide +kernel
theorem tyX8_ok : ∀ k, k < 10 → parseFieldDescriptor (TX8 k).2.2.1 = some (tyX8 k) := by decide +kernel
abbrev cX8_init : ByteArray := prog_1_method_1_code
def yX8_init : MethodName := ⟨RX8, "<init>", "()V"⟩
abbrev cX8_feed : ByteArray := prog_1_method_2_code
def yX8_feed : MethodName := ⟨RX8, "feed", "(IIIII)I"⟩
abbrev cX8_end : ByteArray := prog_1_method_3_code
def yX8_end : MethodName := ⟨RX8, "end", "(I)Z"⟩
abbrev cX8_realm : ByteArray := prog_1_method_4_code
def yX8_realm : MethodName := ⟨RX8, "realm", "()I"⟩
abbrev cX8_fault : ByteArray := prog_1_method_5_code
def yX8_fault : MethodName := ⟨RX8, "fault", "(I)I"⟩
abbrev cX8_has : ByteArray := prog_1_method_6_code
def yX8_has : MethodName := ⟨RX8, "has", "(I)I"⟩
abbrev cX8_letter : ByteArray := prog_1_method_7_code
def yX8_letter : MethodName := ⟨RX8, "letter", "(III)I"⟩
abbrev cX8_tower : ByteArray := prog_1_method_8_code
def yX8_tower : MethodName := ⟨RX8, "tower", "(II)I"⟩
abbrev cX8_purse : ByteArray := prog_1_method_9_code
def yX8_purse : MethodName := ⟨RX8, "purse", "(I)I"⟩
abbrev cX8_step : ByteArray := prog_1_method_10_code
def yX8_step : MethodName := ⟨RX8, "step", "(III)I"⟩
abbrev cX8_loan : ByteArray := prog_1_method_11_code
def yX8_loan : MethodName := ⟨RX8, "loan", "(II)I"⟩
abbrev cX8_guard : ByteArray := prog_1_method_12_code
def yX8_guard : MethodName := ⟨RX8, "guard", "(II)I"⟩
abbrev cX8_lend : ByteArray := prog_1_method_13_code
def yX8_lend : MethodName := ⟨RX8, "lend", "(IIIII)I"⟩
abbrev cX8_back : ByteArray := prog_1_method_14_code
def yX8_back : MethodName := ⟨RX8, "back", "(I)Z"⟩
abbrev cX8_refit : ByteArray := prog_1_method_15_code
def yX8_refit : MethodName := ⟨RX8, "refit", "(II)Z"⟩
abbrev cX8_go : ByteArray := prog_1_method_16_code
def yX8_go : MethodName := ⟨RX8, "go", "(I)I"⟩
abbrev cX8_undo : ByteArray := prog_1_method_17_code
def yX8_undo : MethodName := ⟨RX8, "undo", "()Z"⟩
abbrev cX8_reaches : ByteArray := prog_1_method_18_code
def yX8_reaches : MethodName := ⟨RX8, "reaches", "(II)I"⟩
abbrev cX8_hops : ByteArray := prog_1_method_19_code
def yX8_hops : MethodName := ⟨RX8, "hops", "(I)I"⟩
abbrev cX8_spare : ByteArray := prog_1_method_20_code
def yX8_spare : MethodName := ⟨RX8, "spare", "(II)I"⟩
abbrev cX8_need : ByteArray := prog_1_method_21_code
def yX8_need : MethodName := ⟨RX8, "need", "(II)I"⟩
abbrev cX8_rescue : ByteArray := prog_1_method_22_code
def yX8_rescue : MethodName := ⟨RX8, "rescue", "(II)I"⟩
abbrev cX8_falls : ByteArray := prog_1_method_23_code
def yX8_falls : MethodName := ⟨RX8, "falls", "(II)I"⟩
abbrev cX8_odds : ByteArray := prog_1_method_24_code
def yX8_odds : MethodName := ⟨RX8, "odds", "(I)I"⟩
abbrev cX8_blame : ByteArray := prog_1_method_25_code
def yX8_blame : MethodName := ⟨RX8, "blame", "(II)I"⟩
abbrev cX8_netted : ByteArray := prog_1_method_26_code
def yX8_netted : MethodName := ⟨RX8, "netted", "()I"⟩
abbrev cX8_ring : ByteArray := prog_1_method_27_code
def yX8_ring : MethodName := ⟨RX8, "ring", "()I"⟩
abbrev cX8_wood : ByteArray := prog_1_method_28_code
def yX8_wood : MethodName := ⟨RX8, "wood", "(I)I"⟩
abbrev cX8_rents : ByteArray := prog_1_method_29_code
def yX8_rents : MethodName := ⟨RX8, "rents", "(II)I"⟩
abbrev cX8_lost : ByteArray := prog_1_method_30_code
def yX8_lost : MethodName := ⟨RX8, "lost", "(I)I"⟩
abbrev cX8_ask : ByteArray := prog_1_method_31_code
def yX8_ask : MethodName := ⟨RX8, "ask", "()J"⟩
abbrev cX8_image : ByteArray := prog_1_method_32_code
def yX8_image : MethodName := ⟨RX8, "image", "()I"⟩
abbrev cX8_octet : ByteArray := prog_1_method_33_code
def yX8_octet : MethodName := ⟨RX8, "octet", "(I)I"⟩
abbrev cX8_status : ByteArray := prog_1_method_34_code
def yX8_status : MethodName := ⟨RX8, "status", "(I)I"⟩
abbrev cX8_isTower : ByteArray := prog_1_method_35_code
def yX8_isTower : MethodName := ⟨RX8, "isTower", "(I)Z"⟩
abbrev cX8_isGuard : ByteArray := prog_1_method_36_code
def yX8_isGuard : MethodName := ⟨RX8, "isGuard", "(I)Z"⟩
abbrev cX8_isLoan : ByteArray := prog_1_method_37_code
def yX8_isLoan : MethodName := ⟨RX8, "isLoan", "(I)Z"⟩
abbrev cX8_isStep : ByteArray := prog_1_method_38_code
def yX8_isStep : MethodName := ⟨RX8, "isStep", "(II)Z"⟩
abbrev cX8_lastDayAhead : ByteArray := prog_1_method_39_code
def yX8_lastDayAhead : MethodName := ⟨RX8, "lastDayAhead", "()I"⟩
abbrev cX8_spareOf : ByteArray := prog_1_method_40_code
def yX8_spareOf : MethodName := ⟨RX8, "spareOf", "(I)I"⟩
abbrev cX8_needOf : ByteArray := prog_1_method_41_code
def yX8_needOf : MethodName := ⟨RX8, "needOf", "(I)I"⟩
abbrev cX8_towerOfKth : ByteArray := prog_1_method_42_code
def yX8_towerOfKth : MethodName := ⟨RX8, "towerOfKth", "(IZ)I"⟩
abbrev cX8_stepOfKth : ByteArray := prog_1_method_43_code
def yX8_stepOfKth : MethodName := ⟨RX8, "stepOfKth", "(IZ)I"⟩
abbrev cX8_ringThrough : ByteArray := prog_1_method_44_code
def yX8_ringThrough : MethodName := ⟨RX8, "ringThrough", "(I)I"⟩
abbrev cX8_bit : ByteArray := prog_1_method_45_code
def yX8_bit : MethodName := ⟨RX8, "bit", "(I)I"⟩
abbrev cX8_countOrStep : ByteArray := prog_1_method_46_code
def yX8_countOrStep : MethodName := ⟨RX8, "countOrStep", "(II)I"⟩
abbrev cX8_climb : ByteArray := prog_1_method_47_code
def yX8_climb : MethodName := ⟨RX8, "climb", "(IIII)I"⟩
abbrev cX8_climbRoped : ByteArray := prog_1_method_48_code
def yX8_climbRoped : MethodName := ⟨RX8, "climbRoped", "(IIII)I"⟩
abbrev cX8_fewestHops : ByteArray := prog_1_method_49_code
def yX8_fewestHops : MethodName := ⟨RX8, "fewestHops", "(III)I"⟩
def RX9 : String := "LentStairsModel"
def TX9 : u_T := fun k => match k with
  | 0 => ("LentStairsModel", "tape", "[I", true)
  | 1 => ("LentStairsModel", "taped", "I", false)
  | 2 => ("LentStairsModel", "at", "I", false)
  | 3 => ("LentStairsModel", "end", "I", false)
  | 4 => ("LentStairsModel", "ended", "I", false)
  | 5 => ("LentStairsModel", "bad", "I", false)
  | 6 => ("LentStairsModel", "badPlace", "I", false)
  | 7 => ("LentStairsModel", "fault", "I", false)
  | 8 => ("LentStairsModel", "faultPlace", "I", false)
  | 9 => ("LentStairsModel", "refused", "[I", true)
  | 10 => ("LentStairsModel", "numberPlace", "I", false)
  | 11 => ("LentStairsModel", "towerWord", "[C", true)
  | 12 => ("LentStairsModel", "stepsWord", "[C", true)
  | 13 => ("LentStairsModel", "woodWord", "[C", true)
  | 14 => ("LentStairsModel", "costsWord", "[C", true)
  | 15 => ("LentStairsModel", "gapWord", "[C", true)
  | 16 => ("LentStairsModel", "ofWord", "[C", true)
  | 17 => ("LentStairsModel", "guardWord", "[C", true)
  | 18 => ("LentStairsModel", "legsWord", "[C", true)
  | 19 => ("LentStairsModel", "ropeWord", "[C", true)
  | 20 => ("LentStairsModel", "loanWord", "[C", true)
  | 21 => ("LentStairsModel", "toWord", "[C", true)
  | 22 => ("LentStairsModel", "daysWord", "[C", true)
  | 23 => ("LentStairsModel", "rentWord", "[C", true)
  | 24 => ("LentStairsModel", "bendsWord", "[C", true)
  | 25 => ("LentStairsModel", "enemyWord", "[C", true)
  | 26 => ("LentStairsModel", "oddsWord", "[C", true)
  | 27 => ("LentStairsModel", "namePlace", "I", false)
  | 28 => ("LentStairsModel", "many", "[I", true)
  | 29 => ("LentStairsModel", "names", "[J", true)
  | 30 => ("LentStairsModel", "towers", "[I", true)
  | 31 => ("LentStairsModel", "guards", "[I", true)
  | 32 => ("LentStairsModel", "enemies", "[I", true)
  | 33 => ("LentStairsModel", "stepTold", "[I", true)
  | 34 => ("LentStairsModel", "loanTold", "[I", true)
  | 35 => ("LentStairsModel", "bendsOf", "[I", true)
  | 36 => ("LentStairsModel", "statements", "I", false)
  | 37 => ("LentStairsModel", "now", "[I", true)
  | 38 => ("LentStairsModel", "reached", "[I", true)
  | 39 => ("LentStairsModel", "kept", "[I", true)
  | 40 => ("LentStairsModel", "undoable", "I", false)
  | 41 => ("LentStairsModel", "newest", "I", false)
  | 42 => ("LentStairsModel", "aside", "[I", true)
  | 43 => ("LentStairsModel", "spares", "[I", true)
  | 44 => ("LentStairsModel", "rescues", "[I", true)
  | 45 => ("LentStairsModel", "owed", "[I", true)
  | 46 => ("LentStairsModel", "owedMany", "I", false)
  | 47 => ("LentStairsModel", "blameBits", "I", false)
  | 48 => ("LentStairsModel", "blameMany", "I", false)
  | 49 => ("LentStairsModel", "blameSets", "I", false)
  | 50 => ("LentStairsModel", "firstAsked", "[C", true)
  | 51 => ("LentStairsModel", "lastAsked", "[C", true)
  | 52 => ("LentStairsModel", "oftenAsked", "[C", true)
  | 53 => ("LentStairsModel", "totalAsked", "[C", true)
  | 54 => ("LentStairsModel", "mostAsked", "[C", true)
  | 55 => ("LentStairsModel", "leastAsked", "[C", true)
  | 56 => ("LentStairsModel", "notAsked", "[C", true)
  | 57 => ("LentStairsModel", "andAsked", "[C", true)
  | 58 => ("LentStairsModel", "orAsked", "[C", true)
  | 59 => ("LentStairsModel", "allAsked", "[C", true)
  | 60 => ("LentStairsModel", "minAsked", "[C", true)
  | 61 => ("LentStairsModel", "maxAsked", "[C", true)
  | 62 => ("LentStairsModel", "dayAsked", "[C", true)
  | 63 => ("LentStairsModel", "heldAsked", "[C", true)
  | 64 => ("LentStairsModel", "lentAsked", "[C", true)
  | 65 => ("LentStairsModel", "bentAsked", "[C", true)
  | 66 => ("LentStairsModel", "yardAsked", "[C", true)
  | 67 => ("LentStairsModel", "purseAsked", "[C", true)
  | 68 => ("LentStairsModel", "standsAsked", "[C", true)
  | 69 => ("LentStairsModel", "reachAsked", "[C", true)
  | 70 => ("LentStairsModel", "qCodes", "[I", true)
  | 71 => ("LentStairsModel", "qCoded", "I", false)
  | 72 => ("LentStairsModel", "qWait", "[I", true)
  | 73 => ("LentStairsModel", "qWaits", "I", false)
  | 74 => ("LentStairsModel", "qOpened", "I", false)
  | 75 => ("LentStairsModel", "qBase", "I", false)
  | 76 => ("LentStairsModel", "qPile", "[J", true)
  | 77 => ("LentStairsModel", "qPiled", "I", false)
  | 78 => ("LentStairsModel", "qAnswer", "J", false)
  | 79 => ("LentStairsModel", "qIsNew", "Z", false)
  | 80 => ("LentStairsModel", "octet", "[I", true)
  | _ => ("LentStairsModel", "octets", "I", false)
def tyX9 : Nat → FieldType := fun k => match k with
  | 0 => .array .int
  | 1 => .int
  | 2 => .int
  | 3 => .int
  | 4 => .int
  | 5 => .int
  | 6 => .int
  | 7 => .int
  | 8 => .int
  | 9 => .array .int
  | 10 => .int
  | 11 => .array .char
  | 12 => .array .char
  | 13 => .array .char
  | 14 => .array .char
  | 15 => .array .char
  | 16 => .array .char
  | 17 => .array .char
  | 18 => .array .char
  | 19 => .array .char
  | 20 => .array .char
  | 21 => .array .char
  | 22 => .array .char
  | 23 => .array .char
  | 24 => .array .char
  | 25 => .array .char
  | 26 => .array .char
  | 27 => .int
  | 28 => .array .int
  | 29 => .array .long
  | 30 => .array .int
  | 31 => .array .int
  | 32 => .array .int
  | 33 => .array .int
  | 34 => .array .int
  | 35 => .array .int
  | 36 => .int
  | 37 => .array .int
  | 38 => .array .int
  | 39 => .array .int
  | 40 => .int
  | 41 => .int
  | 42 => .array .int
  | 43 => .array .int
  | 44 => .array .int
  | 45 => .array .int
  | 46 => .int
  | 47 => .int
  | 48 => .int
  | 49 => .int
  | 50 => .array .char
  | 51 => .array .char
  | 52 => .array .char
  | 53 => .array .char
  | 54 => .array .char
  | 55 => .array .char
  | 56 => .array .char
  | 57 => .array .char
  | 58 => .array .char
  | 59 => .array .char
  | 60 => .array .char
  | 61 => .array .char
  | 62 => .array .char
  | 63 => .array .char
  | 64 => .array .char
  | 65 => .array .char
  | 66 => .array .char
  | 67 => .array .char
  | 68 => .array .char
  | 69 => .array .char
  | 70 => .array .int
  | 71 => .int
  | 72 => .array .int
  | 73 => .int
  | 74 => .int
  | 75 => .int
  | 76 => .array .long
  | 77 => .int
  | 78 => .long
  | 79 => .boolean
  | 80 => .array .int
  | _ => .int
abbrev wsX90 : List Cond := u_ws RX9 TX9 82
theorem nmX9 : ∀ a, a < 82 → ∀ b, b < 82 → a ≠ b → (TX9 a).2.1 ≠ (TX9 b).2.1 := by decide +kernel
theorem tyX9_ok : ∀ k, k < 82 → parseFieldDescriptor (TX9 k).2.2.1 = some (tyX9 k) := by decide +kernel
abbrev cX9_init : ByteArray := prog_11_method_1_code
def yX9_init : MethodName := ⟨RX9, "<init>", "()V"⟩
abbrev cX9_isIn : ByteArray := prog_11_method_2_code
def yX9_isIn : MethodName := ⟨RX9, "isIn", "(JJJ)Z"⟩
abbrev cX9_feed : ByteArray := prog_11_method_3_code
def yX9_feed : MethodName := ⟨RX9, "feed", "(IIIII)I"⟩
abbrev cX9_end : ByteArray := prog_11_method_4_code
def yX9_end : MethodName := ⟨RX9, "end", "(I)Z"⟩
abbrev cX9_fail : ByteArray := prog_11_method_5_code
def yX9_fail : MethodName := ⟨RX9, "fail", "(II)V"⟩
abbrev cX9_isLetter : ByteArray := prog_11_method_6_code
def yX9_isLetter : MethodName := ⟨RX9, "isLetter", "(I)Z"⟩
abbrev cX9_isDigit : ByteArray := prog_11_method_7_code
def yX9_isDigit : MethodName := ⟨RX9, "isDigit", "(I)Z"⟩
abbrev cX9_look : ByteArray := prog_11_method_8_code
def yX9_look : MethodName := ⟨RX9, "look", "()I"⟩
abbrev cX9_isHere : ByteArray := prog_11_method_9_code
def yX9_isHere : MethodName := ⟨RX9, "isHere", "([C)Z"⟩
abbrev cX9_takes : ByteArray := prog_11_method_10_code
def yX9_takes : MethodName := ⟨RX9, "takes", "([C)Z"⟩
abbrev cX9_asks : ByteArray := prog_11_method_11_code
def yX9_asks : MethodName := ⟨RX9, "asks", "([C)V"⟩
abbrev cX9_takesSign : ByteArray := prog_11_method_12_code
def yX9_takesSign : MethodName := ⟨RX9, "takesSign", "(I)Z"⟩
abbrev cX9_asksSign : ByteArray := prog_11_method_13_code
def yX9_asksSign : MethodName := ⟨RX9, "asksSign", "(I)V"⟩
abbrev cX9_number : ByteArray := prog_11_method_14_code
def yX9_number : MethodName := ⟨RX9, "number", "(II)I"⟩
abbrev cX9_isOwnHere : ByteArray := prog_11_method_15_code
def yX9_isOwnHere : MethodName := ⟨RX9, "isOwnHere", "()Z"⟩
abbrev cX9_name : ByteArray := prog_11_method_16_code
def yX9_name : MethodName := ⟨RX9, "name", "()J"⟩
abbrev cX9_isFull : ByteArray := prog_11_method_17_code
def yX9_isFull : MethodName := ⟨RX9, "isFull", "(III)Z"⟩
abbrev cX9_nameOf : ByteArray := prog_11_method_18_code
def yX9_nameOf : MethodName := ⟨RX9, "nameOf", "(IJ)I"⟩
abbrev cX9_newName : ByteArray := prog_11_method_19_code
def yX9_newName : MethodName := ⟨RX9, "newName", "()J"⟩
abbrev cX9_towerTold : ByteArray := prog_11_method_20_code
def yX9_towerTold : MethodName := ⟨RX9, "towerTold", "()I"⟩
abbrev cX9_newTower : ByteArray := prog_11_method_21_code
def yX9_newTower : MethodName := ⟨RX9, "newTower", "(I)V"⟩
abbrev cX9_woodTold : ByteArray := prog_11_method_22_code
def yX9_woodTold : MethodName := ⟨RX9, "woodTold", "()V"⟩
abbrev cX9_takenOf : ByteArray := prog_11_method_23_code
def yX9_takenOf : MethodName := ⟨RX9, "takenOf", "(IZ)I"⟩
abbrev cX9_gapTold : ByteArray := prog_11_method_24_code
def yX9_gapTold : MethodName := ⟨RX9, "gapTold", "(I)V"⟩
abbrev cX9_guardTold : ByteArray := prog_11_method_25_code
def yX9_guardTold : MethodName := ⟨RX9, "guardTold", "(I)V"⟩
abbrev cX9_loanIsTold : ByteArray := prog_11_method_26_code
def yX9_loanIsTold : MethodName := ⟨RX9, "loanIsTold", "(I)V"⟩
abbrev cX9_enemyTold : ByteArray := prog_11_method_27_code
def yX9_enemyTold : MethodName := ⟨RX9, "enemyTold", "()V"⟩
abbrev cX9_statementTold : ByteArray := prog_11_method_28_code
def yX9_statementTold : MethodName := ⟨RX9, "statementTold", "()V"⟩
abbrev cX9_realm : ByteArray := prog_11_method_29_code
def yX9_realm : MethodName := ⟨RX9, "realm", "()I"⟩
abbrev cX9_stands : ByteArray := prog_11_method_30_code
def yX9_stands : MethodName := ⟨RX9, "stands", "()V"⟩
abbrev cX9_fault : ByteArray := prog_11_method_31_code
def yX9_fault : MethodName := ⟨RX9, "fault", "(I)I"⟩
abbrev cX9_towerMany : ByteArray := prog_11_method_32_code
def yX9_towerMany : MethodName := ⟨RX9, "towerMany", "()I"⟩
abbrev cX9_guardMany : ByteArray := prog_11_method_33_code
def yX9_guardMany : MethodName := ⟨RX9, "guardMany", "()I"⟩
abbrev cX9_isTower : ByteArray := prog_11_method_34_code
def yX9_isTower : MethodName := ⟨RX9, "isTower", "(I)Z"⟩
abbrev cX9_isGuard : ByteArray := prog_11_method_35_code
def yX9_isGuard : MethodName := ⟨RX9, "isGuard", "(I)Z"⟩
abbrev cX9_stepsOf : ByteArray := prog_11_method_36_code
def yX9_stepsOf : MethodName := ⟨RX9, "stepsOf", "(I)I"⟩
abbrev cX9_woodOf : ByteArray := prog_11_method_37_code
def yX9_woodOf : MethodName := ⟨RX9, "woodOf", "(I)I"⟩
abbrev cX9_isStep : ByteArray := prog_11_method_38_code
def yX9_isStep : MethodName := ⟨RX9, "isStep", "(II)Z"⟩
abbrev cX9_howIs : ByteArray := prog_11_method_39_code
def yX9_howIs : MethodName := ⟨RX9, "howIs", "(II)I"⟩
abbrev cX9_makes : ByteArray := prog_11_method_40_code
def yX9_makes : MethodName := ⟨RX9, "makes", "(III)V"⟩
abbrev cX9_loanOf : ByteArray := prog_11_method_41_code
def yX9_loanOf : MethodName := ⟨RX9, "loanOf", "(II)I"⟩
abbrev cX9_lasts : ByteArray := prog_11_method_42_code
def yX9_lasts : MethodName := ⟨RX9, "lasts", "(I)Z"⟩
abbrev cX9_loanMany : ByteArray := prog_11_method_43_code
def yX9_loanMany : MethodName := ⟨RX9, "loanMany", "()I"⟩
abbrev cX9_filledBy : ByteArray := prog_11_method_44_code
def yX9_filledBy : MethodName := ⟨RX9, "filledBy", "(II)I"⟩
abbrev cX9_lentBy : ByteArray := prog_11_method_45_code
def yX9_lentBy : MethodName := ⟨RX9, "lentBy", "(II)I"⟩
abbrev cX9_filledSet : ByteArray := prog_11_method_46_code
def yX9_filledSet : MethodName := ⟨RX9, "filledSet", "(I)I"⟩
abbrev cX9_howSet : ByteArray := prog_11_method_47_code
def yX9_howSet : MethodName := ⟨RX9, "howSet", "(II)I"⟩
abbrev cX9_standSet : ByteArray := prog_11_method_48_code
def yX9_standSet : MethodName := ⟨RX9, "standSet", "(I)I"⟩
abbrev cX9_lends : ByteArray := prog_11_method_49_code
def yX9_lends : MethodName := ⟨RX9, "lends", "(IIIII)I"⟩
abbrev cX9_ends : ByteArray := prog_11_method_50_code
def yX9_ends : MethodName := ⟨RX9, "ends", "(I)V"⟩
abbrev cX9_dayGoes : ByteArray := prog_11_method_51_code
def yX9_dayGoes : MethodName := ⟨RX9, "dayGoes", "()I"⟩
abbrev cX9_highest : ByteArray := prog_11_method_52_code
def yX9_highest : MethodName := ⟨RX9, "highest", "(IIII)I"⟩
abbrev cX9_reachesTop : ByteArray := prog_11_method_53_code
def yX9_reachesTop : MethodName := ⟨RX9, "reachesTop", "(III)Z"⟩
abbrev cX9_isHeldBy : ByteArray := prog_11_method_54_code
def yX9_isHeldBy : MethodName := ⟨RX9, "isHeldBy", "(II)Z"⟩
abbrev cX9_isHeld : ByteArray := prog_11_method_55_code
def yX9_isHeld : MethodName := ⟨RX9, "isHeld", "(I)Z"⟩
abbrev cX9_bits : ByteArray := prog_11_method_56_code
def yX9_bits : MethodName := ⟨RX9, "bits", "(I)I"⟩
abbrev cX9_bitAt : ByteArray := prog_11_method_57_code
def yX9_bitAt : MethodName := ⟨RX9, "bitAt", "(II)I"⟩
abbrev cX9_countOf : ByteArray := prog_11_method_58_code
def yX9_countOf : MethodName := ⟨RX9, "countOf", "(I)I"⟩
abbrev cX9_has : ByteArray := prog_11_method_59_code
def yX9_has : MethodName := ⟨RX9, "has", "(I)I"⟩
abbrev cX9_letter : ByteArray := prog_11_method_60_code
def yX9_letter : MethodName := ⟨RX9, "letter", "(III)I"⟩
abbrev cX9_guardsOf : ByteArray := prog_11_method_61_code
def yX9_guardsOf : MethodName := ⟨RX9, "guardsOf", "(IZ)I"⟩
abbrev cX9_tower : ByteArray := prog_11_method_62_code
def yX9_tower : MethodName := ⟨RX9, "tower", "(II)I"⟩
abbrev cX9_purse : ByteArray := prog_11_method_63_code
def yX9_purse : MethodName := ⟨RX9, "purse", "(I)I"⟩
abbrev cX9_step : ByteArray := prog_11_method_64_code
def yX9_step : MethodName := ⟨RX9, "step", "(III)I"⟩
abbrev cX9_isLoan : ByteArray := prog_11_method_65_code
def yX9_isLoan : MethodName := ⟨RX9, "isLoan", "(I)Z"⟩
abbrev cX9_loan : ByteArray := prog_11_method_66_code
def yX9_loan : MethodName := ⟨RX9, "loan", "(II)I"⟩
abbrev cX9_guard : ByteArray := prog_11_method_67_code
def yX9_guard : MethodName := ⟨RX9, "guard", "(II)I"⟩
abbrev cX9_keeps : ByteArray := prog_11_method_68_code
def yX9_keeps : MethodName := ⟨RX9, "keeps", "()V"⟩
abbrev cX9_undo : ByteArray := prog_11_method_69_code
def yX9_undo : MethodName := ⟨RX9, "undo", "()Z"⟩
abbrev cX9_putsAside : ByteArray := prog_11_method_70_code
def yX9_putsAside : MethodName := ⟨RX9, "putsAside", "()V"⟩
abbrev cX9_takesBack : ByteArray := prog_11_method_71_code
def yX9_takesBack : MethodName := ⟨RX9, "takesBack", "()V"⟩
abbrev cX9_lend : ByteArray := prog_11_method_72_code
def yX9_lend : MethodName := ⟨RX9, "lend", "(IIIII)I"⟩
abbrev cX9_back : ByteArray := prog_11_method_73_code
def yX9_back : MethodName := ⟨RX9, "back", "(I)Z"⟩
abbrev cX9_refit : ByteArray := prog_11_method_74_code
def yX9_refit : MethodName := ⟨RX9, "refit", "(II)Z"⟩
abbrev cX9_go : ByteArray := prog_11_method_75_code
def yX9_go : MethodName := ⟨RX9, "go", "(I)I"⟩
abbrev cX9_reaches : ByteArray := prog_11_method_76_code
def yX9_reaches : MethodName := ⟨RX9, "reaches", "(II)I"⟩
abbrev cX9_hops : ByteArray := prog_11_method_77_code
def yX9_hops : MethodName := ⟨RX9, "hops", "(I)I"⟩
abbrev cX9_spareSet : ByteArray := prog_11_method_78_code
def yX9_spareSet : MethodName := ⟨RX9, "spareSet", "(I)I"⟩
abbrev cX9_needSet : ByteArray := prog_11_method_79_code
def yX9_needSet : MethodName := ⟨RX9, "needSet", "(I)I"⟩
abbrev cX9_told : ByteArray := prog_11_method_80_code
def yX9_told : MethodName := ⟨RX9, "told", "(II)I"⟩
abbrev cX9_spare : ByteArray := prog_11_method_81_code
def yX9_spare : MethodName := ⟨RX9, "spare", "(II)I"⟩
abbrev cX9_need : ByteArray := prog_11_method_82_code
def yX9_need : MethodName := ⟨RX9, "need", "(II)I"⟩
abbrev cX9_spareLeft : ByteArray := prog_11_method_83_code
def yX9_spareLeft : MethodName := ⟨RX9, "spareLeft", "()I"⟩
abbrev cX9_rescueMany : ByteArray := prog_11_method_84_code
def yX9_rescueMany : MethodName := ⟨RX9, "rescueMany", "()I"⟩
abbrev cX9_rescue : ByteArray := prog_11_method_85_code
def yX9_rescue : MethodName := ⟨RX9, "rescue", "(II)I"⟩
abbrev cX9_falls : ByteArray := prog_11_method_86_code
def yX9_falls : MethodName := ⟨RX9, "falls", "(II)I"⟩
abbrev cX9_odds : ByteArray := prog_11_method_87_code
def yX9_odds : MethodName := ⟨RX9, "odds", "(I)I"⟩
abbrev cX9_loansBy : ByteArray := prog_11_method_88_code
def yX9_loansBy : MethodName := ⟨RX9, "loansBy", "(I)I"⟩
abbrev cX9_stepsBy : ByteArray := prog_11_method_89_code
def yX9_stepsBy : MethodName := ⟨RX9, "stepsBy", "(I)I"⟩
abbrev cX9_isBlamed : ByteArray := prog_11_method_90_code
def yX9_isBlamed : MethodName := ⟨RX9, "isBlamed", "(II)Z"⟩
abbrev cX9_blame : ByteArray := prog_11_method_91_code
def yX9_blame : MethodName := ⟨RX9, "blame", "(II)I"⟩
abbrev cX9_netted : ByteArray := prog_11_method_92_code
def yX9_netted : MethodName := ⟨RX9, "netted", "()I"⟩
abbrev cX9_hasLent : ByteArray := prog_11_method_93_code
def yX9_hasLent : MethodName := ⟨RX9, "hasLent", "(II)Z"⟩
abbrev cX9_ring : ByteArray := prog_11_method_94_code
def yX9_ring : MethodName := ⟨RX9, "ring", "()I"⟩
abbrev cX9_bentUp : ByteArray := prog_11_method_95_code
def yX9_bentUp : MethodName := ⟨RX9, "bentUp", "(II)I"⟩
abbrev cX9_wood : ByteArray := prog_11_method_96_code
def yX9_wood : MethodName := ⟨RX9, "wood", "(I)I"⟩
abbrev cX9_rents : ByteArray := prog_11_method_97_code
def yX9_rents : MethodName := ⟨RX9, "rents", "(II)I"⟩
abbrev cX9_lost : ByteArray := prog_11_method_98_code
def yX9_lost : MethodName := ⟨RX9, "lost", "(I)I"⟩
abbrev cX9_qCode : ByteArray := prog_11_method_99_code
def yX9_qCode : MethodName := ⟨RX9, "qCode", "(I)V"⟩
abbrev cX9_qOpens : ByteArray := prog_11_method_100_code
def yX9_qOpens : MethodName := ⟨RX9, "qOpens", "(II)V"⟩
abbrev cX9_qIsOn : ByteArray := prog_11_method_101_code
def yX9_qIsOn : MethodName := ⟨RX9, "qIsOn", "(I)Z"⟩
abbrev cX9_qDrops : ByteArray := prog_11_method_102_code
def yX9_qDrops : MethodName := ⟨RX9, "qDrops", "()V"⟩
abbrev cX9_qIsBracket : ByteArray := prog_11_method_103_code
def yX9_qIsBracket : MethodName := ⟨RX9, "qIsBracket", "(I)Z"⟩
abbrev cX9_qBracket : ByteArray := prog_11_method_104_code
def yX9_qBracket : MethodName := ⟨RX9, "qBracket", "()I"⟩
abbrev cX9_qDropsToBracket : ByteArray := prog_11_method_105_code
def yX9_qDropsToBracket : MethodName := ⟨RX9, "qDropsToBracket", "()V"⟩
abbrev cX9_qWordHere : ByteArray := prog_11_method_106_code
def yX9_qWordHere : MethodName := ⟨RX9, "qWordHere", "()I"⟩
abbrev cX9_qWordOf : ByteArray := prog_11_method_107_code
def yX9_qWordOf : MethodName := ⟨RX9, "qWordOf", "(II)I"⟩
abbrev cX9_qAsksWord : ByteArray := prog_11_method_108_code
def yX9_qAsksWord : MethodName := ⟨RX9, "qAsksWord", "(I)V"⟩
abbrev cX9_qEndsPart : ByteArray := prog_11_method_109_code
def yX9_qEndsPart : MethodName := ⟨RX9, "qEndsPart", "()V"⟩
abbrev cX9_qPartTold : ByteArray := prog_11_method_110_code
def yX9_qPartTold : MethodName := ⟨RX9, "qPartTold", "()V"⟩
abbrev cX9_qGoesOn : ByteArray := prog_11_method_111_code
def yX9_qGoesOn : MethodName := ⟨RX9, "qGoesOn", "()Z"⟩
abbrev cX9_qSums : ByteArray := prog_11_method_112_code
def yX9_qSums : MethodName := ⟨RX9, "qSums", "()V"⟩
abbrev cX9_qFact : ByteArray := prog_11_method_113_code
def yX9_qFact : MethodName := ⟨RX9, "qFact", "()V"⟩
abbrev cX9_qHasSquare : ByteArray := prog_11_method_114_code
def yX9_qHasSquare : MethodName := ⟨RX9, "qHasSquare", "()Z"⟩
abbrev cX9_qDropsNots : ByteArray := prog_11_method_115_code
def yX9_qDropsNots : MethodName := ⟨RX9, "qDropsNots", "()V"⟩
abbrev cX9_qTest : ByteArray := prog_11_method_116_code
def yX9_qTest : MethodName := ⟨RX9, "qTest", "()V"⟩
abbrev cX9_qGoesOnTest : ByteArray := prog_11_method_117_code
def yX9_qGoesOnTest : MethodName := ⟨RX9, "qGoesOnTest", "()Z"⟩
abbrev cX9_qClip : ByteArray := prog_11_method_118_code
def yX9_qClip : MethodName := ⟨RX9, "qClip", "(J)J"⟩
abbrev cX9_qFloor : ByteArray := prog_11_method_119_code
def yX9_qFloor : MethodName := ⟨RX9, "qFloor", "(JJ)J"⟩
abbrev cX9_qPuts : ByteArray := prog_11_method_120_code
def yX9_qPuts : MethodName := ⟨RX9, "qPuts", "(J)V"⟩
abbrev cX9_qJoins : ByteArray := prog_11_method_121_code
def yX9_qJoins : MethodName := ⟨RX9, "qJoins", "(I)V"⟩
abbrev cX9_qPartOf : ByteArray := prog_11_method_122_code
def yX9_qPartOf : MethodName := ⟨RX9, "qPartOf", "(II)J"⟩
abbrev cX9_qOf : ByteArray := prog_11_method_123_code
def yX9_qOf : MethodName := ⟨RX9, "qOf", "(IJI)J"⟩
abbrev cX9_qTold : ByteArray := prog_11_method_124_code
def yX9_qTold : MethodName := ⟨RX9, "qTold", "(I)J"⟩
abbrev cX9_qKind : ByteArray := prog_11_method_125_code
def yX9_qKind : MethodName := ⟨RX9, "qKind", "()I"⟩
abbrev cX9_qTakes : ByteArray := prog_11_method_126_code
def yX9_qTakes : MethodName := ⟨RX9, "qTakes", "(IJI)V"⟩
abbrev cX9_ask : ByteArray := prog_11_method_127_code
def yX9_ask : MethodName := ⟨RX9, "ask", "()J"⟩
abbrev cX9_writes : ByteArray := prog_11_method_128_code
def yX9_writes : MethodName := ⟨RX9, "writes", "(I)V"⟩
abbrev cX9_image : ByteArray := prog_11_method_129_code
def yX9_image : MethodName := ⟨RX9, "image", "()I"⟩
abbrev cX9_octet : ByteArray := prog_11_method_130_code
def yX9_octet : MethodName := ⟨RX9, "octet", "(I)I"⟩
abbrev cX9_status : ByteArray := prog_11_method_131_code
def yX9_status : MethodName := ⟨RX9, "status", "(I)I"⟩
def RJ6 : String := "java/lang/Integer"
def TJ6 : u_T := fun k => match k with
  | _ => ("", "", "", false)
def tyJ6 : Nat → FieldType := fun k => match k with
  | _ => .int
abbrev wsJ60 : List Cond := u_ws RJ6 TJ6 0
theorem nmJ6 : ∀ a, a < 0 → ∀ b, b < 0 → a ≠ b → (TJ6 a).2.1 ≠ (TJ6 b).2.1 := by decide +kernel
theorem tyJ6_ok : ∀ k, k < 0 → parseFieldDescriptor (TJ6 k).2.2.1 = some (tyJ6 k) := by decide +kernel
abbrev cJ6_bitCount_0f7a4 : ByteArray := prog_12_method_49_code
def yJ6_bitCount_0f7a4 : MethodName := ⟨RJ6, "bitCount", "(I)I"⟩
def RJ9 : String := "java/lang/Math"
def TJ9 : u_T := fun k => match k with
  | _ => ("", "", "", false)
def tyJ9 : Nat → FieldType := fun k => match k with
  | _ => .int
abbrev wsJ90 : List Cond := u_ws RJ9 TJ9 0
theorem nmJ9 : ∀ a, a < 0 → ∀ b, b < 0 → a ≠ b → (TJ9 a).2.1 ≠ (TJ9 b).2.1 := by decide +kernel
theorem tyJ9_ok : ∀ k, k < 0 → parseFieldDescriptor (TJ9 k).2.2.1 = some (tyJ9 k) := by decide +kernel
abbrev cJ9_floorDiv_7cf53 : ByteArray := prog_13_method_47_code
def yJ9_floorDiv_7cf53 : MethodName := ⟨RJ9, "floorDiv", "(II)I"⟩
abbrev cJ9_max_7cf53 : ByteArray := prog_13_method_65_code
def yJ9_max_7cf53 : MethodName := ⟨RJ9, "max", "(II)I"⟩
abbrev cJ9_max_f86c9 : ByteArray := prog_13_method_66_code
def yJ9_max_f86c9 : MethodName := ⟨RJ9, "max", "(JJ)J"⟩
abbrev cJ9_min_7cf53 : ByteArray := prog_13_method_69_code
def yJ9_min_7cf53 : MethodName := ⟨RJ9, "min", "(II)I"⟩
abbrev cJ9_min_f86c9 : ByteArray := prog_13_method_70_code
def yJ9_min_f86c9 : MethodName := ⟨RJ9, "min", "(JJ)J"⟩
def RJ0 : String := "java/lang/String"
def TJ0 : u_T := fun k => match k with
  | _ => ("", "", "", false)
def tyJ0 : Nat → FieldType := fun k => match k with
  | _ => .int
abbrev wsJ00 : List Cond := u_ws RJ0 TJ0 0
theorem nmJ0 : ∀ a, a < 0 → ∀ b, b < 0 → a ≠ b → (TJ0 a).2.1 ≠ (TJ0 b).2.1 := by decide +kernel
theorem tyJ0_ok : ∀ k, k < 0 → parseFieldDescriptor (TJ0 k).2.2.1 = some (tyJ0 k) := by decide +kernel
abbrev cJ0_length_8abf5 : ByteArray := prog_14_method_54_code
def yJ0_length_8abf5 : MethodName := ⟨RJ0, "length", "()I"⟩
abbrev cJ0_charAt_5068e : ByteArray := prog_14_method_56_code
def yJ0_charAt_5068e : MethodName := ⟨RJ0, "charAt", "(I)C"⟩
abbrev cJ0_coder_7d493 : ByteArray := prog_14_method_152_code
def yJ0_coder_7d493 : MethodName := ⟨RJ0, "coder", "()B"⟩
abbrev cJ0_isLatin1_aae02 : ByteArray := prog_14_method_154_code
def yJ0_isLatin1_aae02 : MethodName := ⟨RJ0, "isLatin1", "()Z"⟩
abbrev cJ0_checkIndex_df160 : ByteArray := prog_14_method_155_code
def yJ0_checkIndex_df160 : MethodName := ⟨RJ0, "checkIndex", "(II)V"⟩
def RJ1 : String := "java/lang/StringLatin1"
def TJ1 : u_T := fun k => match k with
  | _ => ("", "", "", false)
def tyJ1 : Nat → FieldType := fun k => match k with
  | _ => .int
abbrev wsJ10 : List Cond := u_ws RJ1 TJ1 0
theorem nmJ1 : ∀ a, a < 0 → ∀ b, b < 0 → a ≠ b → (TJ1 a).2.1 ≠ (TJ1 b).2.1 := by decide +kernel
theorem tyJ1_ok : ∀ k, k < 0 → parseFieldDescriptor (TJ1 k).2.2.1 = some (tyJ1 k) := by decide +kernel
abbrev cJ1_charAt_3b067 : ByteArray := prog_15_method_2_code
def yJ1_charAt_3b067 : MethodName := ⟨RJ1, "charAt", "([BI)C"⟩
def RJ2 : String := "java/lang/StringUTF16"
def TJ2 : u_T := fun k => match k with
  | _ => ("", "", "", false)
def tyJ2 : Nat → FieldType := fun k => match k with
  | _ => .int
abbrev wsJ20 : List Cond := u_ws RJ2 TJ2 0
theorem nmJ2 : ∀ a, a < 0 → ∀ b, b < 0 → a ≠ b → (TJ2 a).2.1 ≠ (TJ2 b).2.1 := by decide +kernel
theorem tyJ2_ok : ∀ k, k < 0 → parseFieldDescriptor (TJ2 k).2.2.1 = some (tyJ2 k) := by decide +kernel
abbrev cJ2_getChar_3b067 : ByteArray := prog_16_method_5_code
def yJ2_getChar_3b067 : MethodName := ⟨RJ2, "getChar", "([BI)C"⟩
abbrev cJ2_length_9d52b : ByteArray := prog_16_method_6_code
def yJ2_length_9d52b : MethodName := ⟨RJ2, "length", "([B)I"⟩
abbrev cJ2_charAt_3b067 : ByteArray := prog_16_method_83_code
def yJ2_charAt_3b067 : MethodName := ⟨RJ2, "charAt", "([BI)C"⟩
abbrev cJ2_checkIndex_2214a : ByteArray := prog_16_method_91_code
def yJ2_checkIndex_2214a : MethodName := ⟨RJ2, "checkIndex", "(I[B)V"⟩
def RJ10 : String := "java/lang/System"
def TJ10 : u_T := fun k => match k with
  | _ => ("", "", "", false)
def tyJ10 : Nat → FieldType := fun k => match k with
  | _ => .int
abbrev wsJ100 : List Cond := u_ws RJ10 TJ10 0
theorem nmJ10 : ∀ a, a < 0 → ∀ b, b < 0 → a ≠ b → (TJ10 a).2.1 ≠ (TJ10 b).2.1 := by decide +kernel
theorem tyJ10_ok : ∀ k, k < 0 → parseFieldDescriptor (TJ10 k).2.2.1 = some (tyJ10 k) := by decide +kernel
def RJ3 : String := "jdk/internal/util/Preconditions"
def TJ3 : u_T := fun k => match k with
  | _ => ("", "", "", false)
def tyJ3 : Nat → FieldType := fun k => match k with
  | _ => .int
abbrev wsJ30 : List Cond := u_ws RJ3 TJ3 0
theorem nmJ3 : ∀ a, a < 0 → ∀ b, b < 0 → a ≠ b → (TJ3 a).2.1 ≠ (TJ3 b).2.1 := by decide +kernel
theorem tyJ3_ok : ∀ k, k < 0 → parseFieldDescriptor (TJ3 k).2.2.1 = some (tyJ3 k) := by decide +kernel
abbrev cJ3_checkIndex_8e157 : ByteArray := prog_18_method_11_code
def yJ3_checkIndex_8e157 : MethodName := ⟨RJ3, "checkIndex", "(IILjava/util/function/BiFunction;)I"⟩
def RL : String := "LentStairsLaw"
abbrev cL_law : ByteArray := code
def yL_law : MethodName := ⟨RL, "law", "([I)Z"⟩
abbrev vwCl : List vw_C := [(RX0, TX0, 3), (RX1, TX1, 2), (RX2, TX2, 3), (RX3, TX3, 10), (RX4, TX4, 15), (RX5, TX5, 2), (RX6, TX6, 1), (RX7, TX7, 7), (RX8, TX8, 10), (RX9, TX9, 82)]
end
section
/-! ===== whole numbers as representatives of ints and longs ===== -/
theorem i3_toInt {x : Int} (h1 : -2147483648 ≤ x) (h2 : x ≤ 2147483647) : (Int32.ofInt x).toInt = x := Int32.toInt_ofInt_of_le (by omega) (by omega)
theorem i6_toInt {x : Int} (h1 : -9223372036854775808 ≤ x) (h2 : x ≤ 9223372036854775807) : (Int64.ofInt x).toInt = x := Int64.toInt_ofInt_of_le (by omega) (by omega)
theorem i3_eq {x y : Int} (h1 : -2147483648 ≤ x) (h2 : x ≤ 2147483647) (h3 : -2147483648 ≤ y) (h4 : y ≤ 2147483647) : Int32.ofInt x = Int32.ofInt y ↔ x = y := by
  rw [← Int32.toInt_inj, i3_toInt h1 h2, i3_toInt h3 h4]
theorem i3_lt {x y : Int} (h1 : -2147483648 ≤ x) (h2 : x ≤ 2147483647) (h3 : -2147483648 ≤ y) (h4 : y ≤ 2147483647) : Int32.ofInt x < Int32.ofInt y ↔ x < y := by
  rw [Int32.lt_iff_toInt_lt, i3_toInt h1 h2, i3_toInt h3 h4]
theorem i3_le {x y : Int} (h1 : -2147483648 ≤ x) (h2 : x ≤ 2147483647) (h3 : -2147483648 ≤ y) (h4 : y ≤ 2147483647) : Int32.ofInt x ≤ Int32.ofInt y ↔ x ≤ y := by
  rw [Int32.le_iff_toInt_le, i3_toInt h1 h2, i3_toInt h3 h4]
theorem i6_eq {x y : Int} (h1 : -9223372036854775808 ≤ x) (h2 : x ≤ 9223372036854775807) (h3 : -9223372036854775808 ≤ y) (h4 : y ≤ 9223372036854775807) : Int64.ofInt x = Int64.ofInt y ↔ x = y := by
  rw [← Int64.toInt_inj, i6_toInt h1 h2, i6_toInt h3 h4]
theorem i6_lt {x y : Int} (h1 : -9223372036854775808 ≤ x) (h2 : x ≤ 9223372036854775807) (h3 : -9223372036854775808 ≤ y) (h4 : y ≤ 9223372036854775807) : Int64.ofInt x < Int64.ofInt y ↔ x < y := by
  rw [Int64.lt_iff_toInt_lt, i6_toInt h1 h2, i6_toInt h3 h4]
theorem i3_inj {a b : Int32} (h : a.toInt = b.toInt) : a = b := Int32.toInt_inj.mp h
theorem i6_inj {a b : Int64} (h : a.toInt = b.toInt) : a = b := Int64.toInt_inj.mp h
theorem i3_div {x y : Int} (h1 : -2147483648 ≤ x) (h2 : x ≤ 2147483647) (h3 : -2147483648 ≤ y) (h4 : y ≤ 2147483647) : Int32.ofInt x / Int32.ofInt y = Int32.ofInt (x.tdiv y) := by
  apply i3_inj
  rw [Int32.toInt_div, i3_toInt h1 h2, i3_toInt h3 h4, Int32.toInt_ofInt]
theorem i3_rem {x y : Int} (h1 : -2147483648 ≤ x) (h2 : x ≤ 2147483647) (h3 : -2147483648 ≤ y) (h4 : y ≤ 2147483647) : Int32.ofInt x - Int32.ofInt x / Int32.ofInt y * Int32.ofInt y = Int32.ofInt (x.tmod y) := by
  rw [i3_div h1 h2 h3 h4, ← Int32.ofInt_mul, ← Int32.ofInt_sub]
  congr 1
  have := Int.tmod_add_tdiv_mul x y
  omega
theorem i6_div {x y : Int} (h1 : -9223372036854775808 ≤ x) (h2 : x ≤ 9223372036854775807) (h3 : -9223372036854775808 ≤ y) (h4 : y ≤ 9223372036854775807) : Int64.ofInt x / Int64.ofInt y = Int64.ofInt (x.tdiv y) := by
  apply i6_inj
  rw [Int64.toInt_div, i6_toInt h1 h2, i6_toInt h3 h4, Int64.toInt_ofInt]
theorem i6_rem {x y : Int} (h1 : -9223372036854775808 ≤ x) (h2 : x ≤ 9223372036854775807) (h3 : -9223372036854775808 ≤ y) (h4 : y ≤ 9223372036854775807) : Int64.ofInt x - Int64.ofInt x / Int64.ofInt y * Int64.ofInt y = Int64.ofInt (x.tmod y) := by
  rw [i6_div h1 h2 h3 h4, ← Int64.ofInt_mul, ← Int64.ofInt_sub]
  congr 1
  have := Int.tmod_add_tdiv_mul x y
  omega
theorem i3_clamp {x : Int} (h1 : 0 ≤ x) (h2 : x ≤ 2147483647) : (Int32.ofInt x).toNatClampNeg = x.toNat := Int32.toNatClampNeg_ofInt_of_le (by omega) (by omega)
theorem i3_nneg {x : Int} (h1 : 0 ≤ x) (h2 : x ≤ 2147483647) : ¬ Int32.ofInt x < 0 := by
  rw [Int32.lt_iff_toInt_lt, i3_toInt (by omega) h2]
  show ¬ x < 0
  omega
theorem i3_in {x : Int} {n : Nat} (h1 : 0 ≤ x) (h2 : x < n) (hn : n ≤ 2147483647) : vp_in (Int32.ofInt x) n := by
  intro h
  rcases h with h | h
  · exact i3_nneg h1 (by omega) h
  · rw [i3_clamp h1 (by omega)] at h
    omega
/-- the 32 bits of a representative -/
def un (x : Int) : Nat := (x % 4294967296).toNat
theorem un_lt (x : Int) : un x < 4294967296 := by unfold un; omega
theorem un_of {x : Int} (h1 : 0 ≤ x) (h2 : x < 4294967296) : un x = x.toNat := by unfold un; rw [Int.emod_eq_of_lt h1 h2]
theorem i3_bv (x : Int) : (Int32.ofInt x).toBitVec.toNat = un x := by
  rw [Int32.toBitVec_ofInt, BitVec.toNat_ofInt]
  rfl
theorem i3_unat {n : Nat} (h : n < 4294967296) : (Int32.ofInt (n : Int)).toBitVec.toNat = n := by
  rw [i3_bv, un_of (by omega) (by omega)]
  omega
theorem i3_bvinj {a b : Int32} (h : a.toBitVec.toNat = b.toBitVec.toNat) : a = b := Int32.toBitVec.inj (BitVec.eq_of_toNat_eq h)
def band (x y : Int) : Int := ((un x &&& un y : Nat) : Int)
def bor (x y : Int) : Int := ((un x ||| un y : Nat) : Int)
def bxor (x y : Int) : Int := ((un x ^^^ un y : Nat) : Int)
theorem i3_and (x y : Int) : Int32.ofInt x &&& Int32.ofInt y = Int32.ofInt (band x y) := by
  apply i3_bvinj
  rw [Int32.toBitVec_and, BitVec.toNat_and, i3_bv, i3_bv, band, i3_unat (Nat.lt_of_le_of_lt Nat.and_le_left (un_lt x))]
theorem i3_or (x y : Int) : Int32.ofInt x ||| Int32.ofInt y = Int32.ofInt (bor x y) := by
  apply i3_bvinj
  rw [Int32.toBitVec_or, BitVec.toNat_or, i3_bv, i3_bv, bor, i3_unat (Nat.or_lt_two_pow (n := 32) (un_lt x) (un_lt y))]
theorem i3_xor (x y : Int) : Int32.ofInt x ^^^ Int32.ofInt y = Int32.ofInt (bxor x y) := by
  apply i3_bvinj
  rw [Int32.toBitVec_xor, BitVec.toNat_xor, i3_bv, i3_bv, bxor, i3_unat (Nat.xor_lt_two_pow (n := 32) (un_lt x) (un_lt y))]
theorem i3_cnt : ∀ n, n < 32 → ((Int32.ofInt (n : Nat) &&& 31).toBitVec.smod 32).toNat = n := by decide
theorem i3_cntU : ∀ n, n < 32 → (((Int32.ofInt (n : Nat)).toUInt32 &&& Int32.toUInt32 31).toBitVec % 32).toNat = n := by decide
theorem un_cast (x : Int) : (un x : Int) = x % 4294967296 := by unfold un; omega
theorem un_mul (x : Int) (k : Nat) : un (x * 2 ^ k) = un x * 2 ^ k % 2 ^ 32 := by
  have h : ((un (x * 2 ^ k) : Nat) : Int) = ((un x * 2 ^ k % 2 ^ 32 : Nat) : Int) := by
    rw [un_cast, Int.natCast_emod, Int.natCast_mul, un_cast, Int.natCast_pow]
    show x * 2 ^ k % 4294967296 = x % 4294967296 * 2 ^ k % 4294967296
    rw [Int.mul_emod x, Int.mul_emod (x % 4294967296) (2 ^ k), Int.emod_emod]
  exact Int.ofNat.inj h
theorem i3_shl {x s : Int} (h1 : 0 ≤ s) (h2 : s < 32) : Int32.ofInt x <<< (Int32.ofInt s &&& 31) = Int32.ofInt (x * 2 ^ s.toNat) := by
  obtain ⟨n, rfl⟩ : ∃ n : Nat, s = (n : Int) := ⟨s.toNat, by omega⟩
  apply i3_bvinj
  rw [pk_shl _ _ n (i3_cnt n (by omega)), i3_bv, i3_bv, Int.toNat_natCast, un_mul]
theorem i3_shr {x s : Int} (h1 : 0 ≤ s) (h2 : s < 32) (h3 : -2147483648 ≤ x) (h4 : x ≤ 2147483647) : Int32.ofInt x >>> (Int32.ofInt s &&& 31) = Int32.ofInt (x / 2 ^ s.toNat) := by
  obtain ⟨n, rfl⟩ : ∃ n : Nat, s = (n : Int) := ⟨s.toNat, by omega⟩
  apply i3_inj
  rw [pk_shr _ _ n (i3_cnt n (by omega)), i3_toInt h3 h4, Int.toNat_natCast, Int.shiftRight_eq_div_pow]
  have hp : (0 : Int) < 2 ^ n := Int.pow_pos (by decide)
  have hl : -2147483648 ≤ x / 2 ^ n := by
    rw [Int.le_ediv_iff_mul_le hp]
    have : (1 : Int) ≤ 2 ^ n := hp
    have := Int.mul_le_mul_of_nonneg_left (c := (2147483648 : Int)) this (by decide)
    omega
  have hu : x / 2 ^ n ≤ 2147483647 := by
    rcases Int.lt_or_le x 0 with h | h
    · have := Int.ediv_neg_of_neg_of_pos h hp
      omega
    · exact Int.le_trans (Int.ediv_le_self _ h) h4
  have e : ((2 ^ n : Nat) : Int) = (2 : Int) ^ n := by push_cast; rfl
  rw [e, i3_toInt hl hu]
theorem i3_ushr {x s : Int} (h1 : 0 ≤ s) (h2 : s < 32) : ((Int32.ofInt x).toUInt32 >>> ((Int32.ofInt s).toUInt32 &&& Int32.toUInt32 31)).toInt32 = Int32.ofInt ((un x / 2 ^ s.toNat : Nat) : Int) := by
  obtain ⟨n, rfl⟩ : ∃ n : Nat, s = (n : Int) := ⟨s.toNat, by omega⟩
  apply i3_bvinj
  rw [pk_ushr _ _ n (i3_cntU n (by omega)), i3_bv, Int.toNat_natCast, i3_unat (Nat.lt_of_le_of_lt (Nat.div_le_self _ _) (un_lt x))]
theorem i3_i2l {x : Int} (h1 : -2147483648 ≤ x) (h2 : x ≤ 2147483647) : (Int32.ofInt x).toInt64 = Int64.ofInt x := by
  apply i6_inj
  rw [Int32.toInt_toInt64, i3_toInt h1 h2, i6_toInt (by omega) (by omega)]
theorem i6_l2i (x : Int) : (Int64.ofInt x).toInt32 = Int32.ofInt x := Int64.toInt32_ofInt
theorem i3_bip {n : Int} (h1 : -128 ≤ n) (h2 : n ≤ 127) : (Int8.ofInt n).toInt32 = Int32.ofInt n := by
  apply i3_inj
  rw [Int8.toInt_toInt32, Int8.toInt_ofInt_of_le (by omega) (by omega), i3_toInt (by omega) (by omega)]
theorem i3_sip {n : Int} (h1 : -32768 ≤ n) (h2 : n ≤ 32767) : (Int16.ofInt n).toInt32 = Int32.ofInt n := by
  apply i3_inj
  rw [Int16.toInt_toInt32, Int16.toInt_ofInt_of_le (by omega) (by omega), i3_toInt (by omega) (by omega)]
end
