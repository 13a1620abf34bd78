section
-- ===== PART A: goes FIRST, ahead of the names: the tables' words, and 'selects' of the private methods out of them =====
/-- a private method of a class that the tables say can be made, by its rows of tables_1 -/
def lw_okq (q : MethodName × Nat) : Prop := (q.1.cls ≠ "java/lang/invoke/MethodHandle" ∧ q.1.cls ≠ "java/lang/invoke/VarHandle") ∧ Cond.instantiable q.1.cls q.2 ∈ tables_1 ∧ Cond.privateMethod q.1 ∈ tables_1 ∧ Cond.instanceMethod q.1 ∈ tables_1
theorem lw_p0 : lw_okq (⟨"FairFolio", "pavilionAt", "(I)LFairFolio$Pavilion;"⟩, 3) := ⟨⟨by decide +kernel, by decide +kernel⟩, List.mem_of_getElem? (i := 21) (by decide +kernel), List.mem_of_getElem? (i := 159) (by decide +kernel), List.mem_of_getElem? (i := 160) (by decide +kernel)⟩
theorem lw_p1 : lw_okq (⟨"java/lang/Throwable", "fillInStackTrace", "(I)Ljava/lang/Throwable;"⟩, 6) := ⟨⟨by decide +kernel, by decide +kernel⟩, List.mem_of_getElem? (i := 201) (by decide +kernel), List.mem_of_getElem? (i := 199) (by decide +kernel), List.mem_of_getElem? (i := 200) (by decide +kernel)⟩
theorem lw_p2 : lw_okq (⟨"FairFolio", "emptyQueue", "(LFairFolio$Pavilion;)I"⟩, 3) := ⟨⟨by decide +kernel, by decide +kernel⟩, List.mem_of_getElem? (i := 21) (by decide +kernel), List.mem_of_getElem? (i := 254) (by decide +kernel), List.mem_of_getElem? (i := 255) (by decide +kernel)⟩
theorem lw_p3 : lw_okq (⟨"FairFolio", "isAt", "(LFairFolio$Visitor;ILFairFolio$Pavilion;)Z"⟩, 3) := ⟨⟨by decide +kernel, by decide +kernel⟩, List.mem_of_getElem? (i := 21) (by decide +kernel), List.mem_of_getElem? (i := 258) (by decide +kernel), List.mem_of_getElem? (i := 259) (by decide +kernel)⟩
theorem lw_p4 : lw_okq (⟨"FairFolio", "leaveQueue", "(LFairFolio$Visitor;)V"⟩, 3) := ⟨⟨by decide +kernel, by decide +kernel⟩, List.mem_of_getElem? (i := 21) (by decide +kernel), List.mem_of_getElem? (i := 262) (by decide +kernel), List.mem_of_getElem? (i := 263) (by decide +kernel)⟩
theorem lw_p5 : lw_okq (⟨"FairFolio", "loseTurn", "(LFairFolio$Visitor;)V"⟩, 3) := ⟨⟨by decide +kernel, by decide +kernel⟩, List.mem_of_getElem? (i := 21) (by decide +kernel), List.mem_of_getElem? (i := 266) (by decide +kernel), List.mem_of_getElem? (i := 267) (by decide +kernel)⟩
theorem lw_p6 : lw_okq (⟨"FairFolio", "becomeIdle", "(LFairFolio$Visitor;)V"⟩, 3) := ⟨⟨by decide +kernel, by decide +kernel⟩, List.mem_of_getElem? (i := 21) (by decide +kernel), List.mem_of_getElem? (i := 270) (by decide +kernel), List.mem_of_getElem? (i := 271) (by decide +kernel)⟩
theorem lw_p7 : lw_okq (⟨"FairFolio", "visitorAt", "(I)LFairFolio$Visitor;"⟩, 3) := ⟨⟨by decide +kernel, by decide +kernel⟩, List.mem_of_getElem? (i := 21) (by decide +kernel), List.mem_of_getElem? (i := 282) (by decide +kernel), List.mem_of_getElem? (i := 283) (by decide +kernel)⟩
theorem lw_p8 : lw_okq (⟨"FairFolio", "indexInPlan", "(LFairFolio$Visitor;LFairFolio$Pavilion;)I"⟩, 3) := ⟨⟨by decide +kernel, by decide +kernel⟩, List.mem_of_getElem? (i := 21) (by decide +kernel), List.mem_of_getElem? (i := 287) (by decide +kernel), List.mem_of_getElem? (i := 288) (by decide +kernel)⟩
theorem lw_p9 : lw_okq (⟨"java/util/ArrayList", "add", "(Ljava/lang/Object;[Ljava/lang/Object;I)V"⟩, 3) := ⟨⟨by decide +kernel, by decide +kernel⟩, List.mem_of_getElem? (i := 68) (by decide +kernel), List.mem_of_getElem? (i := 329) (by decide +kernel), List.mem_of_getElem? (i := 330) (by decide +kernel)⟩
theorem lw_p10 : lw_okq (⟨"java/util/ArrayList", "grow", "()[Ljava/lang/Object;"⟩, 3) := ⟨⟨by decide +kernel, by decide +kernel⟩, List.mem_of_getElem? (i := 68) (by decide +kernel), List.mem_of_getElem? (i := 333) (by decide +kernel), List.mem_of_getElem? (i := 334) (by decide +kernel)⟩
theorem lw_p11 : lw_okq (⟨"java/util/ArrayList", "grow", "(I)[Ljava/lang/Object;"⟩, 3) := ⟨⟨by decide +kernel, by decide +kernel⟩, List.mem_of_getElem? (i := 68) (by decide +kernel), List.mem_of_getElem? (i := 337) (by decide +kernel), List.mem_of_getElem? (i := 338) (by decide +kernel)⟩
theorem lw_p12 : lw_okq (⟨"java/util/ArrayList", "fastRemove", "([Ljava/lang/Object;I)V"⟩, 3) := ⟨⟨by decide +kernel, by decide +kernel⟩, List.mem_of_getElem? (i := 68) (by decide +kernel), List.mem_of_getElem? (i := 392) (by decide +kernel), List.mem_of_getElem? (i := 393) (by decide +kernel)⟩
theorem lw_p13 : lw_okq (⟨"FairFolio", "firstFreeTurn", "(LFairFolio$Pavilion;)I"⟩, 3) := ⟨⟨by decide +kernel, by decide +kernel⟩, List.mem_of_getElem? (i := 21) (by decide +kernel), List.mem_of_getElem? (i := 405) (by decide +kernel), List.mem_of_getElem? (i := 406) (by decide +kernel)⟩
theorem lw_p14 : lw_okq (⟨"FairFolio", "isTurnTaken", "(LFairFolio$Pavilion;I)Z"⟩, 3) := ⟨⟨by decide +kernel, by decide +kernel⟩, List.mem_of_getElem? (i := 21) (by decide +kernel), List.mem_of_getElem? (i := 409) (by decide +kernel), List.mem_of_getElem? (i := 410) (by decide +kernel)⟩
theorem lw_p15 : lw_okq (⟨"FairFolio", "passMinute", "()V"⟩, 3) := ⟨⟨by decide +kernel, by decide +kernel⟩, List.mem_of_getElem? (i := 21) (by decide +kernel), List.mem_of_getElem? (i := 422) (by decide +kernel), List.mem_of_getElem? (i := 423) (by decide +kernel)⟩
def lw_privs_1 : List (MethodName × Nat) := [(⟨"FairFolio", "pavilionAt", "(I)LFairFolio$Pavilion;"⟩, 3), (⟨"java/lang/Throwable", "fillInStackTrace", "(I)Ljava/lang/Throwable;"⟩, 6), (⟨"FairFolio", "emptyQueue", "(LFairFolio$Pavilion;)I"⟩, 3), (⟨"FairFolio", "isAt", "(LFairFolio$Visitor;ILFairFolio$Pavilion;)Z"⟩, 3), (⟨"FairFolio", "leaveQueue", "(LFairFolio$Visitor;)V"⟩, 3), (⟨"FairFolio", "loseTurn", "(LFairFolio$Visitor;)V"⟩, 3), (⟨"FairFolio", "becomeIdle", "(LFairFolio$Visitor;)V"⟩, 3), (⟨"FairFolio", "visitorAt", "(I)LFairFolio$Visitor;"⟩, 3), (⟨"FairFolio", "indexInPlan", "(LFairFolio$Visitor;LFairFolio$Pavilion;)I"⟩, 3), (⟨"java/util/ArrayList", "add", "(Ljava/lang/Object;[Ljava/lang/Object;I)V"⟩, 3), (⟨"java/util/ArrayList", "grow", "()[Ljava/lang/Object;"⟩, 3), (⟨"java/util/ArrayList", "grow", "(I)[Ljava/lang/Object;"⟩, 3), (⟨"java/util/ArrayList", "fastRemove", "([Ljava/lang/Object;I)V"⟩, 3), (⟨"FairFolio", "firstFreeTurn", "(LFairFolio$Pavilion;)I"⟩, 3), (⟨"FairFolio", "isTurnTaken", "(LFairFolio$Pavilion;I)Z"⟩, 3), (⟨"FairFolio", "passMinute", "()V"⟩, 3)]
theorem lw_r1 : ∀ q ∈ lw_privs_1, lw_okq q := List.forall_mem_cons.mpr ⟨lw_p0, List.forall_mem_cons.mpr ⟨lw_p1, List.forall_mem_cons.mpr ⟨lw_p2, List.forall_mem_cons.mpr ⟨lw_p3, List.forall_mem_cons.mpr ⟨lw_p4, List.forall_mem_cons.mpr ⟨lw_p5, List.forall_mem_cons.mpr ⟨lw_p6, List.forall_mem_cons.mpr ⟨lw_p7, List.forall_mem_cons.mpr ⟨lw_p8, List.forall_mem_cons.mpr ⟨lw_p9, List.forall_mem_cons.mpr ⟨lw_p10, List.forall_mem_cons.mpr ⟨lw_p11, List.forall_mem_cons.mpr ⟨lw_p12, List.forall_mem_cons.mpr ⟨lw_p13, List.forall_mem_cons.mpr ⟨lw_p14, List.forall_mem_cons.mpr ⟨lw_p15, fun _ h => absurd h List.not_mem_nil⟩⟩⟩⟩⟩⟩⟩⟩⟩⟩⟩⟩⟩⟩⟩⟩
theorem lw_p16 : lw_okq (⟨"FairFolio", "endVisits", "()V"⟩, 3) := ⟨⟨by decide +kernel, by decide +kernel⟩, List.mem_of_getElem? (i := 21) (by decide +kernel), List.mem_of_getElem? (i := 426) (by decide +kernel), List.mem_of_getElem? (i := 427) (by decide +kernel)⟩
theorem lw_p17 : lw_okq (⟨"FairFolio", "takeTurns", "()V"⟩, 3) := ⟨⟨by decide +kernel, by decide +kernel⟩, List.mem_of_getElem? (i := 21) (by decide +kernel), List.mem_of_getElem? (i := 430) (by decide +kernel), List.mem_of_getElem? (i := 431) (by decide +kernel)⟩
theorem lw_p18 : lw_okq (⟨"FairFolio", "takeTurn", "(LFairFolio$Visitor;)V"⟩, 3) := ⟨⟨by decide +kernel, by decide +kernel⟩, List.mem_of_getElem? (i := 21) (by decide +kernel), List.mem_of_getElem? (i := 434) (by decide +kernel), List.mem_of_getElem? (i := 435) (by decide +kernel)⟩
theorem lw_p19 : lw_okq (⟨"FairFolio", "countByTurn", "(LFairFolio$Pavilion;)I"⟩, 3) := ⟨⟨by decide +kernel, by decide +kernel⟩, List.mem_of_getElem? (i := 21) (by decide +kernel), List.mem_of_getElem? (i := 438) (by decide +kernel), List.mem_of_getElem? (i := 439) (by decide +kernel)⟩
theorem lw_p20 : lw_okq (⟨"FairFolio", "joinQueue", "(LFairFolio$Visitor;LFairFolio$Pavilion;I)V"⟩, 3) := ⟨⟨by decide +kernel, by decide +kernel⟩, List.mem_of_getElem? (i := 21) (by decide +kernel), List.mem_of_getElem? (i := 442) (by decide +kernel), List.mem_of_getElem? (i := 443) (by decide +kernel)⟩
theorem lw_p21 : lw_okq (⟨"FairFolio", "followPlans", "()V"⟩, 3) := ⟨⟨by decide +kernel, by decide +kernel⟩, List.mem_of_getElem? (i := 21) (by decide +kernel), List.mem_of_getElem? (i := 446) (by decide +kernel), List.mem_of_getElem? (i := 447) (by decide +kernel)⟩
theorem lw_p22 : lw_okq (⟨"FairFolio", "followPlan", "(LFairFolio$Visitor;)V"⟩, 3) := ⟨⟨by decide +kernel, by decide +kernel⟩, List.mem_of_getElem? (i := 21) (by decide +kernel), List.mem_of_getElem? (i := 450) (by decide +kernel), List.mem_of_getElem? (i := 451) (by decide +kernel)⟩
theorem lw_p23 : lw_okq (⟨"FairFolio", "hasStamp", "(LFairFolio$Visitor;LFairFolio$Pavilion;)Z"⟩, 3) := ⟨⟨by decide +kernel, by decide +kernel⟩, List.mem_of_getElem? (i := 21) (by decide +kernel), List.mem_of_getElem? (i := 454) (by decide +kernel), List.mem_of_getElem? (i := 455) (by decide +kernel)⟩
theorem lw_p24 : lw_okq (⟨"FairFolio", "countAt", "(ILFairFolio$Pavilion;)I"⟩, 3) := ⟨⟨by decide +kernel, by decide +kernel⟩, List.mem_of_getElem? (i := 21) (by decide +kernel), List.mem_of_getElem? (i := 458) (by decide +kernel), List.mem_of_getElem? (i := 459) (by decide +kernel)⟩
theorem lw_p25 : lw_okq (⟨"FairFolio", "letIn", "()V"⟩, 3) := ⟨⟨by decide +kernel, by decide +kernel⟩, List.mem_of_getElem? (i := 21) (by decide +kernel), List.mem_of_getElem? (i := 462) (by decide +kernel), List.mem_of_getElem? (i := 463) (by decide +kernel)⟩
theorem lw_p26 : lw_okq (⟨"FairFolio", "fillRoom", "(LFairFolio$Pavilion;)V"⟩, 3) := ⟨⟨by decide +kernel, by decide +kernel⟩, List.mem_of_getElem? (i := 21) (by decide +kernel), List.mem_of_getElem? (i := 466) (by decide +kernel), List.mem_of_getElem? (i := 467) (by decide +kernel)⟩
theorem lw_p27 : lw_okq (⟨"FairFolio", "firstInQueue", "(LFairFolio$Pavilion;)LFairFolio$Visitor;"⟩, 3) := ⟨⟨by decide +kernel, by decide +kernel⟩, List.mem_of_getElem? (i := 21) (by decide +kernel), List.mem_of_getElem? (i := 470) (by decide +kernel), List.mem_of_getElem? (i := 471) (by decide +kernel)⟩
theorem lw_p28 : lw_okq (⟨"FairFolio", "goInside", "(LFairFolio$Visitor;LFairFolio$Pavilion;)V"⟩, 3) := ⟨⟨by decide +kernel, by decide +kernel⟩, List.mem_of_getElem? (i := 21) (by decide +kernel), List.mem_of_getElem? (i := 474) (by decide +kernel), List.mem_of_getElem? (i := 475) (by decide +kernel)⟩
theorem lw_p29 : lw_okq (⟨"FairFolioModel", "goes", "(ZZ)Z"⟩, 19) := ⟨⟨by decide +kernel, by decide +kernel⟩, List.mem_of_getElem? (i := 564) (by decide +kernel), List.mem_of_getElem? (i := 640) (by decide +kernel), List.mem_of_getElem? (i := 641) (by decide +kernel)⟩
theorem lw_p30 : lw_okq (⟨"FairFolioModel", "leaves", "(I)V"⟩, 19) := ⟨⟨by decide +kernel, by decide +kernel⟩, List.mem_of_getElem? (i := 564) (by decide +kernel), List.mem_of_getElem? (i := 648) (by decide +kernel), List.mem_of_getElem? (i := 649) (by decide +kernel)⟩
theorem lw_p31 : lw_okq (⟨"FairFolioModel", "placeIn", "(II)I"⟩, 19) := ⟨⟨by decide +kernel, by decide +kernel⟩, List.mem_of_getElem? (i := 564) (by decide +kernel), List.mem_of_getElem? (i := 652) (by decide +kernel), List.mem_of_getElem? (i := 653) (by decide +kernel)⟩
def lw_privs_2 : List (MethodName × Nat) := [(⟨"FairFolio", "endVisits", "()V"⟩, 3), (⟨"FairFolio", "takeTurns", "()V"⟩, 3), (⟨"FairFolio", "takeTurn", "(LFairFolio$Visitor;)V"⟩, 3), (⟨"FairFolio", "countByTurn", "(LFairFolio$Pavilion;)I"⟩, 3), (⟨"FairFolio", "joinQueue", "(LFairFolio$Visitor;LFairFolio$Pavilion;I)V"⟩, 3), (⟨"FairFolio", "followPlans", "()V"⟩, 3), (⟨"FairFolio", "followPlan", "(LFairFolio$Visitor;)V"⟩, 3), (⟨"FairFolio", "hasStamp", "(LFairFolio$Visitor;LFairFolio$Pavilion;)Z"⟩, 3), (⟨"FairFolio", "countAt", "(ILFairFolio$Pavilion;)I"⟩, 3), (⟨"FairFolio", "letIn", "()V"⟩, 3), (⟨"FairFolio", "fillRoom", "(LFairFolio$Pavilion;)V"⟩, 3), (⟨"FairFolio", "firstInQueue", "(LFairFolio$Pavilion;)LFairFolio$Visitor;"⟩, 3), (⟨"FairFolio", "goInside", "(LFairFolio$Visitor;LFairFolio$Pavilion;)V"⟩, 3), (⟨"FairFolioModel", "goes", "(ZZ)Z"⟩, 19), (⟨"FairFolioModel", "leaves", "(I)V"⟩, 19), (⟨"FairFolioModel", "placeIn", "(II)I"⟩, 19)]
theorem lw_r2 : ∀ q ∈ lw_privs_2, lw_okq q := List.forall_mem_cons.mpr ⟨lw_p16, List.forall_mem_cons.mpr ⟨lw_p17, List.forall_mem_cons.mpr ⟨lw_p18, List.forall_mem_cons.mpr ⟨lw_p19, List.forall_mem_cons.mpr ⟨lw_p20, List.forall_mem_cons.mpr ⟨lw_p21, List.forall_mem_cons.mpr ⟨lw_p22, List.forall_mem_cons.mpr ⟨lw_p23, List.forall_mem_cons.mpr ⟨lw_p24, List.forall_mem_cons.mpr ⟨lw_p25, List.forall_mem_cons.mpr ⟨lw_p26, List.forall_mem_cons.mpr ⟨lw_p27, List.forall_mem_cons.mpr ⟨lw_p28, List.forall_mem_cons.mpr ⟨lw_p29, List.forall_mem_cons.mpr ⟨lw_p30, List.forall_mem_cons.mpr ⟨lw_p31, fun _ h => absurd h List.not_mem_nil⟩⟩⟩⟩⟩⟩⟩⟩⟩⟩⟩⟩⟩⟩⟩⟩
theorem lw_p32 : lw_okq (⟨"FairFolioModel", "loses", "(I)V"⟩, 19) := ⟨⟨by decide +kernel, by decide +kernel⟩, List.mem_of_getElem? (i := 564) (by decide +kernel), List.mem_of_getElem? (i := 656) (by decide +kernel), List.mem_of_getElem? (i := 657) (by decide +kernel)⟩
theorem lw_p33 : lw_okq (⟨"FairFolioModel", "placeInPlan", "(II)I"⟩, 19) := ⟨⟨by decide +kernel, by decide +kernel⟩, List.mem_of_getElem? (i := 564) (by decide +kernel), List.mem_of_getElem? (i := 667) (by decide +kernel), List.mem_of_getElem? (i := 668) (by decide +kernel)⟩
theorem lw_p34 : lw_okq (⟨"FairFolioModel", "comeOut", "()V"⟩, 19) := ⟨⟨by decide +kernel, by decide +kernel⟩, List.mem_of_getElem? (i := 564) (by decide +kernel), List.mem_of_getElem? (i := 683) (by decide +kernel), List.mem_of_getElem? (i := 684) (by decide +kernel)⟩
theorem lw_p35 : lw_okq (⟨"FairFolioModel", "takeTurns", "()V"⟩, 19) := ⟨⟨by decide +kernel, by decide +kernel⟩, List.mem_of_getElem? (i := 564) (by decide +kernel), List.mem_of_getElem? (i := 687) (by decide +kernel), List.mem_of_getElem? (i := 688) (by decide +kernel)⟩
theorem lw_p36 : lw_okq (⟨"FairFolioModel", "puts", "(III)V"⟩, 19) := ⟨⟨by decide +kernel, by decide +kernel⟩, List.mem_of_getElem? (i := 564) (by decide +kernel), List.mem_of_getElem? (i := 691) (by decide +kernel), List.mem_of_getElem? (i := 692) (by decide +kernel)⟩
theorem lw_p37 : lw_okq (⟨"FairFolioModel", "goOn", "(I)V"⟩, 19) := ⟨⟨by decide +kernel, by decide +kernel⟩, List.mem_of_getElem? (i := 564) (by decide +kernel), List.mem_of_getElem? (i := 695) (by decide +kernel), List.mem_of_getElem? (i := 696) (by decide +kernel)⟩
theorem lw_p38 : lw_okq (⟨"FairFolioModel", "goIn", "(I)V"⟩, 19) := ⟨⟨by decide +kernel, by decide +kernel⟩, List.mem_of_getElem? (i := 564) (by decide +kernel), List.mem_of_getElem? (i := 699) (by decide +kernel), List.mem_of_getElem? (i := 700) (by decide +kernel)⟩
theorem lw_p39 : lw_okq (⟨"FairFolioModel", "insideOf", "(I)I"⟩, 19) := ⟨⟨by decide +kernel, by decide +kernel⟩, List.mem_of_getElem? (i := 564) (by decide +kernel), List.mem_of_getElem? (i := 703) (by decide +kernel), List.mem_of_getElem? (i := 704) (by decide +kernel)⟩
def lw_privs_3 : List (MethodName × Nat) := [(⟨"FairFolioModel", "loses", "(I)V"⟩, 19), (⟨"FairFolioModel", "placeInPlan", "(II)I"⟩, 19), (⟨"FairFolioModel", "comeOut", "()V"⟩, 19), (⟨"FairFolioModel", "takeTurns", "()V"⟩, 19), (⟨"FairFolioModel", "puts", "(III)V"⟩, 19), (⟨"FairFolioModel", "goOn", "(I)V"⟩, 19), (⟨"FairFolioModel", "goIn", "(I)V"⟩, 19), (⟨"FairFolioModel", "insideOf", "(I)I"⟩, 19)]
theorem lw_r3 : ∀ q ∈ lw_privs_3, lw_okq q := List.forall_mem_cons.mpr ⟨lw_p32, List.forall_mem_cons.mpr ⟨lw_p33, List.forall_mem_cons.mpr ⟨lw_p34, List.forall_mem_cons.mpr ⟨lw_p35, List.forall_mem_cons.mpr ⟨lw_p36, List.forall_mem_cons.mpr ⟨lw_p37, List.forall_mem_cons.mpr ⟨lw_p38, List.forall_mem_cons.mpr ⟨lw_p39, fun _ h => absurd h List.not_mem_nil⟩⟩⟩⟩⟩⟩⟩⟩
def lw_privs : List (MethodName × Nat) := lw_privs_1 ++ (lw_privs_2 ++ (lw_privs_3))
def lw_tbl : List Cond := k2_sels lw_privs ++ tables_1
theorem lw_privs_ok : ∀ q ∈ lw_privs, lw_okq q := by
  show ∀ q ∈ lw_privs_1 ++ (lw_privs_2 ++ (lw_privs_3)), lw_okq q
  exact List.forall_mem_append.mpr ⟨lw_r1, List.forall_mem_append.mpr ⟨lw_r2, lw_r3⟩⟩
end
section
/-! ===== BEGIN words of one list among another's, by their places ===== -/
theorem goodIn_r {big : List Cond} (ws : List Cond) (ps : List Nat) (hp : ws = ps.filterMap (fun i => big[i]?)) (h : ws.all goodWord = true) : GoodIn big ws := by
  intro w hw
  have h1 := List.all_eq_true.mp h w hw
  rw [hp] at hw
  obtain ⟨i, -, hi⟩ := List.mem_filterMap.mp hw
  have hm : w ∈ big := by first | exact List.mem_of_getElem? hi | exact List.getElem?_mem hi
  exact ⟨hm, good_of_word h1⟩
theorem goodIn_app {big a b : List Cond} (ha : GoodIn big a) (hb : GoodIn big b) : GoodIn big (a ++ b) := fun w h => (List.mem_append.mp h).elim (ha w) (hb w)
theorem goodIn_ca {big a b : List Cond} {c : Cond} (ha : GoodIn big (c :: a)) (hb : GoodIn big b) : GoodIn big (c :: (a ++ b)) := fun w h => (List.mem_cons.mp h).elim (fun e => ha w (List.mem_cons.mpr (Or.inl e))) (fun h => (List.mem_append.mp h).elim (fun h => ha w (List.mem_cons.mpr (Or.inr h))) (hb w))
theorem goodIn_sub {big ws : List Cond} (hm : ∀ w ∈ ws, w ∈ big) (h : ws.all goodWord = true) : GoodIn big ws := fun w hw => ⟨hm w hw, good_of_word (List.all_eq_true.mp h w hw)⟩
/-! ===== END ===== -/

/-! ===== BEGIN exceptions that leave a method, and their catching by the caller (launches without stack traces) ===== -/
section VXA
/-! The laws vx_back, vx_callV, vx_callS, vx_callSW, vx_throw0, vx_throwS follow proofs of the library, with one case more: JvmDerived/Free/Laws.lean (Back.of_free), Shelf42/LK1.lean (callV, callS), Shelf/KitTraced.lean (throwNew0V, throwNewS). -/
/-- where a method has thrown q: the class by its name, the cell, what was written, the world -/
def vx_T (XC : String → State → State → Prop) (st : State) (q : Addr) (t : State) (mc ms : Nat) (free : Addr → Prop) : Prop :=
  ∃ (E : String) (ce : Cell) (L : List Loc), XC E st t ∧ t.heap[q]? = some ce ∧ ce.vm = .none ∧ st.vm.findClass E = some ce.cls ∧ st.WarmedH t.vm ∧ st.sameButNew ({ t with vm := st.vm } : State) L mc ms ∧ ∀ z ∈ L, free z.base
def vx_Q (Qc : Array Value → State → Outcome → State → Prop) (XC : String → State → State → Prop) (mc ms : Nat) (free : Addr → Prop) : Array Value → State → Outcome → State → Prop := fun a st o t =>
  (Qc a st o t ∧ ∃ L, FrameEnd st o t L mc ms ∧ ∀ q ∈ L, free q.base) ∨ ∃ q, o = .threw q ∧ vx_T XC st q t mc ms free
/-- a callee that returns or throws -/
def vx_Met (l : Launch) (y : MethodName) (ws : List Cond) (rm : Room) (Pc : Array Value → State → Prop) (Qc : Array Value → State → Outcome → State → Prop) (XC : String → State → State → Prop) (mc ms : Nat) (free : Addr → Prop) : Prop :=
  MetFree l y (headSpec ws rm) Pc (fun _ _ _ _ _ => True) (vx_Q Qc XC mc ms free)
def vx_Post (XC : String → State → State → Prop) (mc ms : Nat) (free : Addr → Prop) : Pt → Array Value → Addr → Pt → Prop := fun A a q B =>
  ∃ (g : JFrame) (mk : MethodId) (t : State) (L : List Loc) (E : String) (ce : Cell), B.U.heap = t.heap ∧ B.U.vm = t.vm ∧ XC E (A.U.calling g mk a) t ∧ t.heap[q]? = some ce ∧ ce.vm = .none ∧ A.U.vm.findClass E = some ce.cls ∧ B.locs = A.locs ++ L ∧ (∀ z ∈ L, free z.base) ∧ B.cells = A.cells + mc ∧ B.slots = A.slots + ms
def vx_Back (l : Launch) (R : Room) (p : Program) (e : Env) (below : List Frame) (s : State) (sargs : Array Value) (y : MethodName) (len W9 : Nat)
    (Pre : Pt → Array Value → Prop) (Post : Pt → Array Value → Option Value → Pt → Prop) (PostX : Pt → Array Value → Addr → Pt → Prop) : Prop :=
  ∀ (m : MethodId) (meth : Method) (c : Code) (A : Pt) (g : JFrame) (ig : Instr) (mk : MethodId) (a : Array Value),
    Stand p l e R s m sargs below meth c A.U A.locs A.cells A.slots → g.method = m → g.locals.size = c.maxLocals → decode c.code g.pc = .ok (ig, len) →
    2 * g.monitorRoom + (g.stack.map fun v => v.category).sum ≤ W9 → A.U.methodNamed? y = some mk → Pre A a →
    (∃ (v : Option Value) (B : Pt), Stand p l e R s m sargs below meth c B.U B.locs B.cells B.slots ∧ Post A a v B ∧
      Steps p.tables e below (doInvoke e (A.U.setTop g) [] mk a).1 (B.U.setTop { g with pc := g.pc + len, stack := v.toList ++ g.stack })) ∨
    (∃ (q : Addr) (B : Pt), Stand p l e R s m sargs below meth c B.U B.locs B.cells B.slots ∧ PostX A a q B ∧
      Steps p.tables e below (doInvoke e (A.U.setTop g) [] mk a).1 ((B.U.setTop g).pushFrame (.throwing q)))
section Payer
variable {l : Launch} {R : Room} {p : Program} {e : Env} {below : List Frame} {s : State} {sargs : Array Value} {y : MethodName} {len W9 : Nat}
theorem vx_back {ws : List Cond} {rm : Room} {Pc : Array Value → State → Prop} {Qc : Array Value → State → Outcome → State → Prop} {XC : String → State → State → Prop} {mc ms : Nat} {free : Addr → Prop} {bytes : ByteArray} {maxL : Nat} {ret : Option FieldType}
    (hM : vx_Met l y ws rm Pc Qc XC mc ms free) (hblind : FrameBlind Pc) (hrc : rm.cells = mc) (hrs : rm.slots = ms)
    (hframes : rm.frames + 1 ≤ R.frames) (hlocals : W9 + (maxL + 11) + rm.locals ≤ R.locals)
    (hws : ∀ w ∈ ws, ∀ a' U, s.WarmedH U.vm → w.before a' U = true) (hcode : Cond.code y bytes maxL ret ∈ ws) (hinit : ∀ a' U, s.WarmedH U.vm → (Cond.initialized y.cls).before a' U = true) :
    vx_Back l R p e below s sargs y len W9 (PreOf R mc ms Pc) (PostOf Qc mc ms free) (vx_Post XC mc ms free) := by
  intro m meth c A g ig mk a X hg hsize hdg hW hn hp
  have h1 : (headSpec ws rm).pre.before a A.U = true := atoms_intro fun w hw => hws w hw _ _ X.warmed
  have h2 : (Cond.code y bytes maxL ret).before a A.U = true := hws _ hcode _ _ X.warmed
  have h3 : (Cond.initialized y.cls).before a A.U = true := hinit _ _ X.warmed
  have h4 : A.cells + (headSpec ws rm).room.cells ≤ R.cells := by rw [show (headSpec ws rm).room.cells = mc from hrc]; exact hp.1
  have h5 : A.slots + (headSpec ws rm).room.slots ≤ R.slots := by rw [show (headSpec ws rm).room.slots = ms from hrs]; exact hp.2.1
  have hPc : Pc a (A.U.calling g mk a) := hblind _ _ _ _ hp.2.2
  obtain ⟨U, Ls, c0, s0⟩ := A
  dsimp only [Pt.U, Pt.locs, Pt.cells, Pt.slots] at h1 h2 h3 h4 h5 X hn hPc ⊢
  obtain ⟨methY, cY, hmY, hcY, -, hlY, -, -, -, -⟩ := Cond.code_spec hn h2
  obtain ⟨kY, hkY, -⟩ := className_of_methodNamed hn
  have hinitY : kY.init = .initialized := Cond.initialized_spec (findClass_of_methodNamed hn) hkY h3
  have h : At U g.method c below := by rw [hg]; exact X.here
  have hlocals9 : W9 + (maxL + 11) + (headSpec ws rm).room.locals ≤ R.locals := hlocals
  have happ : (headSpec ws rm).appliesLoose y e.platform (U.calling g mk a) = true :=
    Spec.appliesLoose_calling (g := g) h hdg hn hkY hinitY
      (X.room_calling (g := g) (R' := (headSpec ws rm).room) hsize hmY hcY hframes (by rw [hlY]; omega) h4 h5) h1
  obtain ⟨mid, hmid⟩ := h.above
  have hfr : (U.setTop g).frames = (.java g :: mid) ++ below := by rw [State.frames_setTop' g h.top, hmid]; rfl
  obtain ⟨o, s₂, hsteps, -, hend, hq⟩ := Steps.callFree hM p X.admits X.cas X.clock (acts := []) hfr happ hPc trivial
  have hq' : vx_Q Qc XC mc ms free a (U.calling g mk a) o s₂ := hq
  rw [State.frames_setTop' g h.top] at hend
  obtain ⟨g₀, hg0⟩ := Option.isSome_iff_exists.mp h.top
  obtain ⟨r, hr⟩ := State.topJava?_eq_some.mp hg0
  have hr' : (({ U with heap := s₂.heap, slotsUsed := s₂.slotsUsed } : State).setVm s₂.vm).frames = .java g₀ :: r := hr
  rcases hq' with ⟨hqc, L, hfe, hL⟩ | ⟨q, rfl, E, ce, L, hx, hce, hcv, hcl, hW₂, hsm, hL⟩
  · obtain ⟨⟨v, rfl⟩, hW₂, e2, q2, q3, q4, q5, q6⟩ := id hfe
    have e3 : s₂ = ({ (U.calling g mk a).setFrames s₂.frames with heap := s₂.heap, slotsUsed := s₂.slotsUsed } : State).setVm s₂.vm := by
      have : s₂ = ({ s₂ with vm := (U.calling g mk a).vm } : State).setVm s₂.vm := rfl
      rw [e2] at this
      exact this
    obtain ⟨c₂, i₂, len₂, hc₂, hd₂, hf₂⟩ := hend
    have hW' : U.WarmedH s₂.vm := hW₂
    have hcc : c₂ = c := by
      have h1 : s₂.code? g.method = U.code? g.method := by
        rw [State.code?_eq, State.code?_eq, hW'.alike.method?]
      exact Option.some.inj (hc₂.symm.trans (h1.trans h.code))
    subst hcc
    have hlen : len₂ = len := by rw [hdg] at hd₂; cases hd₂; rfl
    subst hlen
    have hs₂ : s₂ = (({ U with heap := s₂.heap, slotsUsed := s₂.slotsUsed } : State).setVm s₂.vm).setTop { g with pc := g.pc + len₂, stack := v.toList ++ g.stack } := by
      refine e3.trans ?_
      rw [hf₂, State.calling_eq h.top, State.setFrames_setFrames, State.setTop_of_frames _ hr', hr]
      rfl
    have hsame : U.sameButNew ({ U with heap := s₂.heap, slotsUsed := s₂.slotsUsed } : State) L mc ms := by
      refine ⟨?_, q2, q3, q4, q5, q6⟩
      obtain ⟨t, ht, -⟩ := State.frames_cons hr
      show ({ U with heap := s₂.heap, slotsUsed := s₂.slotsUsed } : State) = { U.setFrames U.frames with heap := s₂.heap, slotsUsed := s₂.slotsUsed }
      rw [State.setFrames_self ht]
    subst hg
    refine Or.inl ⟨v, ⟨(({ U with heap := s₂.heap, slotsUsed := s₂.slotsUsed } : State).setVm s₂.vm), Ls ++ L, c0 + mc, s0 + ms⟩,
      ⟨X.admits, X.cas, X.clock, X.frames, X.room, X.hears, X.method, X.code, (X.here.setHeapUsed s₂.heap s₂.slotsUsed).setVm hW'.alike, X.tail, State.WarmedH.trans X.warmed hW', X.limits, X.bytes, X.same.trans (hsame.setVm s.vm)⟩,
      ⟨g, mk, s₂, L, rfl, rfl, hqc, rfl, hL, rfl, rfl⟩, ?_⟩
    show Steps p.tables e below _ ((({ U with heap := s₂.heap, slotsUsed := s₂.slotsUsed } : State).setVm s₂.vm).setTop { g with pc := g.pc + len₂, stack := v.toList ++ g.stack })
    rw [← hs₂]
    exact hsteps
  · obtain ⟨e2, q2, q3, q4, q5, q6⟩ := id hsm
    have e3 : s₂ = ({ (U.calling g mk a).setFrames s₂.frames with heap := s₂.heap, slotsUsed := s₂.slotsUsed } : State).setVm s₂.vm := by
      have : s₂ = ({ s₂ with vm := (U.calling g mk a).vm } : State).setVm s₂.vm := rfl
      rw [e2] at this
      exact this
    have hf₂ : s₂.frames = .throwing q :: .java g :: U.frames.tail := hend
    have hW' : U.WarmedH s₂.vm := hW₂
    have hs₂ : s₂ = ((({ U with heap := s₂.heap, slotsUsed := s₂.slotsUsed } : State).setVm s₂.vm).setTop g).pushFrame (.throwing q) := by
      refine e3.trans ?_
      rw [hf₂, State.calling_eq h.top, State.setFrames_setFrames, State.pushFrame, State.frames_setTop _ hr', State.setTop_of_frames _ hr', State.setFrames_setFrames, hr]
      rfl
    have hsame : U.sameButNew ({ U with heap := s₂.heap, slotsUsed := s₂.slotsUsed } : State) L mc ms := by
      refine ⟨?_, q2, q3, q4, q5, q6⟩
      obtain ⟨t, ht, -⟩ := State.frames_cons hr
      show ({ U with heap := s₂.heap, slotsUsed := s₂.slotsUsed } : State) = { U.setFrames U.frames with heap := s₂.heap, slotsUsed := s₂.slotsUsed }
      rw [State.setFrames_self ht]
    subst hg
    refine Or.inr ⟨q, ⟨(({ U with heap := s₂.heap, slotsUsed := s₂.slotsUsed } : State).setVm s₂.vm), Ls ++ L, c0 + mc, s0 + ms⟩,
      ⟨X.admits, X.cas, X.clock, X.frames, X.room, X.hears, X.method, X.code, (X.here.setHeapUsed s₂.heap s₂.slotsUsed).setVm hW'.alike, X.tail, State.WarmedH.trans X.warmed hW', X.limits, X.bytes, X.same.trans (hsame.setVm s.vm)⟩,
      ⟨g, mk, s₂, L, E, ce, rfl, rfl, hx, hce, hcv, hcl, rfl, hL, rfl, rfl⟩, ?_⟩
    show Steps p.tables e below _ (((({ U with heap := s₂.heap, slotsUsed := s₂.slotsUsed } : State).setVm s₂.vm).setTop g).pushFrame (.throwing q))
    rw [← hs₂]
    exact hsteps
end Payer
section Calls
variable {p : Program} {l : Launch} {e : Env} {R : Room} {s : State} {m : MethodId} {args : Array Value} {below : List Frame} {meth : Method} {c : Code} {T : State} {locs : List Loc} {cells slots : Nat}
theorem vx_callV (X : Stand p l e R s m args below meth c T locs cells slots) (hexec : p.tables.exec = Jvm.exec) {own C : String} {index : Nat} {y : MethodName} {bytes : ByteArray} {maxL : Nat} {ret : Option FieldType}
    (hown : s.vm.findClass own = some m.cls) (hlink : (Cond.methodLink own index y).before args s = true) (hinst : (Cond.instanceMethod y).before args s = true) (hsel : (Cond.selects C y y).before args s = true)
    (hcode : (Cond.code y bytes maxL ret).before args s = true) (hy : y.cls ≠ "java/lang/invoke/MethodHandle" ∧ y.cls ≠ "java/lang/invoke/VarHandle")
    {W9 : Nat} {Pre : Pt → Array Value → Prop} {Post : Pt → Array Value → Option Value → Pt → Prop} {PostX : Pt → Array Value → Addr → Pt → Prop} (hK : vx_Back l R p e below s args y 3 W9 Pre Post PostX)
    {b : Addr} {cellB : Cell} (hcell : T.heap[b]? = some cellB) (hobj : cellB.vm.isStatics = false) (hcls : s.vm.findClass C = some cellB.cls)
    {g : JFrame} (hg : g.method = m) (hsize : g.locals.size = c.maxLocals) {argsL rest : List Value} (hlen : ∀ sig, parseMethodDescriptor y.desc = some sig → argsL.length = sig.parameters.length)
    (hstack : g.stack = argsL.reverse ++ .ref b :: rest) (hW : 2 * g.monitorRoom + (rest.map fun v => v.category).sum ≤ W9) (hdg : decode c.code g.pc = .ok (.invokevirtual index, 3))
    (hpre : ∀ vm₁, s.WarmedH vm₁ → Pre ⟨T.setVm vm₁, locs, cells, slots⟩ (Value.ref b :: argsL).toArray) :
    (∃ (v : Option Value) (vm₁ : Vm) (B : Pt), s.WarmedH vm₁ ∧ Stand p l e R s m args below meth c B.U B.locs B.cells B.slots ∧ Post ⟨T.setVm vm₁, locs, cells, slots⟩ (Value.ref b :: argsL).toArray v B ∧
      ∀ target, Steps p.tables e below (B.U.setTop { g with pc := g.pc + 3, stack := v.toList ++ rest }) target → Steps p.tables e below (T.setTop g) target) ∨
    (∃ (q : Addr) (vm₁ : Vm) (B : Pt), s.WarmedH vm₁ ∧ Stand p l e R s m args below meth c B.U B.locs B.cells B.slots ∧ PostX ⟨T.setVm vm₁, locs, cells, slots⟩ (Value.ref b :: argsL).toArray q B ∧
      Steps p.tables e below (T.setTop g) ((B.U.setTop { g with stack := rest }).pushFrame (.throwing q))) := by
  obtain ⟨mk, methM, hnamed, hmethM, hstM, habM⟩ := Cond.instanceMethod_spec hinst
  obtain ⟨methM', cM, hmethM', -, -, -, -, -, -, hsigM⟩ := Cond.code_spec hnamed hcode
  cases hmethM.symm.trans hmethM'
  obtain ⟨c2, r2, m2, q1, q2, q3, q4, kP, hkP, hkPi⟩ := Cond.selects_spec hsel
  cases hcls.symm.trans q1
  cases (State.methodFound?_of_named hnamed hy).symm.trans q2
  cases hnamed.symm.trans q3
  have hselP : selectMethod e.platform s.vm cellB.cls mk = .method mk := by rw [Launch.admits_selectMethod X.admits]; exact q4
  obtain ⟨vm₁, X₁, hstep₁⟩ := X.invokevirtual hexec hown hlink hnamed hmethM hstM hkP hkPi hy (a := b) (cell := cellB) hcell
    (fun z h => by rw [h] at hobj; cases hobj) hselP hmethM habM hkP hkPi (g := g) hg (argsL := argsL) (rest := rest) (hlen _ hsigM) hstack hdg
  rcases hK m meth c ⟨T.setVm vm₁, locs, cells, slots⟩ { g with stack := rest } (.invokevirtual index) mk (Value.ref b :: argsL).toArray X₁ hg hsize hdg hW (X₁.named hnamed) (hpre vm₁ X₁.warmed) with ⟨v, B, X', hpost, hsteps⟩ | ⟨q, B, X', hpost, hsteps⟩
  · exact Or.inl ⟨v, vm₁, B, X₁.warmed, X', hpost, fun target h => hstep₁ _ fun acts => by rw [doInvoke_state]; exact hsteps.trans h⟩
  · exact Or.inr ⟨q, vm₁, B, X₁.warmed, X', hpost, hstep₁ _ fun acts => by rw [doInvoke_state]; exact hsteps⟩
theorem vx_callS (X : Stand p l e R s m args below meth c T locs cells slots) (hexec : p.tables.exec = Jvm.exec) {own : String} {index : Nat} {y : MethodName} {bytes : ByteArray} {maxL : Nat} {ret : Option FieldType}
    (hown : s.vm.findClass own = some m.cls) (hlink : (Cond.methodLink own index y).before args s = true) (hstat : (Cond.static y).before args s = true) (hinit : (Cond.initialized y.cls).before args s = true)
    (hcode : (Cond.code y bytes maxL ret).before args s = true) (hy : y.cls ≠ "java/lang/invoke/MethodHandle" ∧ y.cls ≠ "java/lang/invoke/VarHandle")
    {W9 : Nat} {Pre : Pt → Array Value → Prop} {Post : Pt → Array Value → Option Value → Pt → Prop} {PostX : Pt → Array Value → Addr → Pt → Prop} (hK : vx_Back l R p e below s args y 3 W9 Pre Post PostX)
    {g : JFrame} (hg : g.method = m) (hsize : g.locals.size = c.maxLocals) {argsL rest : List Value} (hlen : ∀ sig, parseMethodDescriptor y.desc = some sig → argsL.length = sig.parameters.length)
    (hstack : g.stack = argsL.reverse ++ rest) (hW : 2 * g.monitorRoom + (rest.map fun v => v.category).sum ≤ W9) (hdg : decode c.code g.pc = .ok (.invokestatic index, 3))
    (hpre : ∀ vm₁, s.WarmedH vm₁ → Pre ⟨T.setVm vm₁, locs, cells, slots⟩ argsL.toArray) :
    (∃ (v : Option Value) (vm₁ : Vm) (B : Pt), s.WarmedH vm₁ ∧ Stand p l e R s m args below meth c B.U B.locs B.cells B.slots ∧ Post ⟨T.setVm vm₁, locs, cells, slots⟩ argsL.toArray v B ∧
      ∀ target, Steps p.tables e below (B.U.setTop { g with pc := g.pc + 3, stack := v.toList ++ rest }) target → Steps p.tables e below (T.setTop g) target) ∨
    (∃ (q : Addr) (vm₁ : Vm) (B : Pt), s.WarmedH vm₁ ∧ Stand p l e R s m args below meth c B.U B.locs B.cells B.slots ∧ PostX ⟨T.setVm vm₁, locs, cells, slots⟩ argsL.toArray q B ∧
      Steps p.tables e below (T.setTop g) ((B.U.setTop { g with stack := rest }).pushFrame (.throwing q))) := by
  obtain ⟨mk, hnamed⟩ := Cond.code_named hcode
  obtain ⟨methM, cM, hmethM, -, -, -, -, -, -, hsigM⟩ := Cond.code_spec hnamed hcode
  have hstatic : methM.isStatic = true := Cond.static_spec hnamed hmethM hstat
  obtain ⟨kP, hkP, -⟩ := className_of_methodNamed hnamed
  have hinitP : kP.init = .initialized := Cond.initialized_spec (findClass_of_methodNamed hnamed) hkP hinit
  obtain ⟨vm₁, X₁, hstep₁⟩ := X.invokestatic hexec hown hlink hnamed hmethM hstatic hkP hinitP hy (g := g) hg (argsL := argsL) (rest := rest) (hlen _ hsigM) hstack hdg
  rcases hK m meth c ⟨T.setVm vm₁, locs, cells, slots⟩ { g with stack := rest } (.invokestatic index) mk argsL.toArray X₁ hg hsize hdg hW (X₁.named hnamed) (hpre vm₁ X₁.warmed) with ⟨v, B, X', hpost, hsteps⟩ | ⟨q, B, X', hpost, hsteps⟩
  · exact Or.inl ⟨v, vm₁, B, X₁.warmed, X', hpost, fun target h => hstep₁ _ fun acts => by rw [doInvoke_state]; exact hsteps.trans h⟩
  · exact Or.inr ⟨q, vm₁, B, X₁.warmed, X', hpost, hstep₁ _ fun acts => by rw [doInvoke_state]; exact hsteps⟩
end Calls
theorem vx_cls {s : State} {T : State} {vm₁ : Vm} {E : String} {k : ClassId} (hW : s.WarmedH vm₁) (h : (T.setVm vm₁).vm.findClass E = some k) : s.vm.findClass E = some k := by
  have h1 : vm₁.findClass E = some k := h
  rw [hW.alike.findClass] at h1
  exact h1
/-- the method's frame g, with q thrown over it -/
def vx_W (p : Program) (l : Launch) (e : Env) (R : Room) (s : State) (m : MethodId) (args : Array Value) (below : List Frame) (meth : Method) (c : Code) (H : Heap) (locs : List Loc) (cells slots : Nat) (Q : State → Prop) (g : JFrame) (q : Addr) : Prop :=
  ∀ T : State, T.heap = H → Stand p l e R s m args below meth c T locs cells slots → ∃ t, Steps p.tables e below ((T.setTop g).pushFrame (.throwing q)) t ∧ Q t
def vx_Run (p : Program) (l : Launch) (e : Env) (R : Room) (s : State) (m : MethodId) (args : Array Value) (below : List Frame) (meth : Method) (c : Code) (H : Heap) (locs : List Loc) (cells slots mc ms : Nat) (g : JFrame) (rest : List Value) (Qa : State → Outcome → State → Prop) (XC : String → State → State → Prop) (free : Addr → Prop) : Prop :=
  ∀ T : State, T.heap = H → Stand p l e R s m args below meth c T locs cells slots →
    (∃ (v : Option Value) (st₀ t T' : State) (L : List Loc), st₀.heap = H ∧ Stand p l e R s m args below meth c T' (locs ++ L) (cells + mc) (slots + ms) ∧ (∀ q ∈ L, free q.base) ∧ T'.heap = t.heap ∧ T'.vm = t.vm ∧ Qa st₀ (.returned v) t ∧
      Goes p e below T g T' { g with pc := g.pc + 3, stack := v.toList ++ rest }) ∨
    (∃ (q : Addr) (st₀ t T' : State) (L : List Loc) (E : String) (ce : Cell), st₀.heap = H ∧ Stand p l e R s m args below meth c T' (locs ++ L) (cells + mc) (slots + ms) ∧ (∀ z ∈ L, free z.base) ∧ T'.heap = t.heap ∧ T'.vm = t.vm ∧ XC E st₀ t ∧ t.heap[q]? = some ce ∧ ce.vm = .none ∧ s.vm.findClass E = some ce.cls ∧
      Steps p.tables e below (T.setTop g) ((T'.setTop { g with stack := rest }).pushFrame (.throwing q)))
def vx_X {S : Type} (px : S → Prop) (B : String → S → State → Prop) (A : Nat → Prop) : String → State → State → Prop := fun E st t => ∃ u : S, px u ∧ B E u t ∧ va_F A st t
section Runs
variable {p : Program} {l : Launch} {e : Env} {R : Room} {s : State} {m : MethodId} {args : Array Value} {below : List Frame} {meth : Method} {c : Code} {H : Heap} {locs : List Loc} {cells slots : Nat}
variable {y : MethodName} {bytes cc : ByteArray} {maxL nL mc ms n index : Nat} {ret : Option FieldType} {ws : List Cond} {rm : Room} {Pc : Array Value → State → Prop} {Qc : Array Value → State → Outcome → State → Prop} {XC : String → State → State → Prop} {free : Addr → Prop} {Ts : List Cond} {own C : String} {b : Addr} {As rest : List Value} {g : JFrame}
theorem vx_callBack (cb : CallB R s args own index y bytes maxL ret ws rm mc ms n) (hM : vx_Met l y ws rm Pc Qc XC mc ms free) (hbl : FrameBlind Pc) : vx_Back l R p e below s args y 3 8 (PreOf R mc ms Pc) (PostOf Qc mc ms free) (vx_Post XC mc ms free) := by
  obtain ⟨hrc, hrs, hfr, hlo, hws, hcw, -, hini, -⟩ := cb
  exact vx_back (bytes := bytes) (maxL := maxL) (ret := ret) hM hbl hrc hrs hfr hlo hws hcw (fun a' U hW => word_at hW (Or.inl (by first | rfl | simp [Cond.onTables, Cond.keeps, Cond.steady])) hini)
theorem vx_runV (S : CallFix p m c cc nL s args Ts own) (hM : vx_Met l y ws rm Pc Qc XC mc ms free) (cw : CallW R s args own C index y bytes maxL ret ws rm mc ms n) (hp : PreV s H C b Pc As)
    (hg : g.method = m) (hn : As.length = n) (hsize : g.locals.size = nL) (hstack : g.stack = As.reverse ++ .ref b :: rest) (hW : 2 * g.monitorRoom + (rest.map fun v => v.category).sum ≤ 8) (hdg : decode cc g.pc = .ok (.invokevirtual index, 3)) (hf : cells + mc ≤ R.cells ∧ slots + ms ≤ R.slots) :
    vx_Run p l e R s m args below meth c H locs cells slots mc ms g rest (Qc (Value.ref b :: As).toArray) XC free := by
  have hK : vx_Back l R p e below s args y 3 8 (PreOf R mc ms Pc) (PostOf Qc mc ms free) (vx_Post XC mc ms free) := vx_callBack cw.1 hM hp.1
  obtain ⟨⟨-, -, -, -, -, -, hcode, -, hy, hlen, hl⟩, hin, hse⟩ := cw
  obtain ⟨hx, hb, hml, ho, -⟩ := S
  obtain ⟨-, ⟨cellB, hcB, hoB, hclB⟩, hPc⟩ := hp
  intro T hT X
  rcases vx_callV X hx (C := C) (bytes := bytes) (maxL := maxL) (ret := ret) ho hl hin hse hcode hy hK (by rw [hT]; exact hcB) hoB hclB hg (hsize.trans hml.symm) (argsL := As) (rest := rest) (fun sig h => hn.trans (hlen sig h)) hstack hW (by rw [hb]; exact hdg)
    (fun vm₁ hW₁ => ⟨hf.1, hf.2, hPc (T.setVm vm₁) hT hW₁⟩) with ⟨v, vm₁, ⟨U', l2, c2, s2⟩, hW₁, X', ⟨g', mk, t, L, e1, e2, hq, h1, hL, h2, h3⟩, st⟩ | ⟨q, vm₁, ⟨U', l2, c2, s2⟩, hW₁, X', ⟨g', mk, t, L, E, ce, e1, e2, hq, hce, hcv, hcl, h1, hL, h2, h3⟩, st⟩
  · dsimp only [Pt.U, Pt.locs, Pt.cells, Pt.slots] at X' e1 e2 h1 h2 h3 st
    subst h1; subst h2; subst h3
    exact Or.inl ⟨v, (T.setVm vm₁).calling g' mk (Value.ref b :: As).toArray, t, U', L, hT, X', hL, e1, e2, hq, st⟩
  · dsimp only [Pt.U, Pt.locs, Pt.cells, Pt.slots] at X' e1 e2 h1 h2 h3 st hcl
    subst h1; subst h2; subst h3
    exact Or.inr ⟨q, (T.setVm vm₁).calling g' mk (Value.ref b :: As).toArray, t, U', L, E, ce, hT, X', hL, e1, e2, hq, hce, hcv, vx_cls hW₁ hcl, st⟩
theorem vx_runS (S : CallFix p m c cc nL s args Ts own) (hM : vx_Met l y ws rm Pc Qc XC mc ms free) (cw : CallB R s args own index y bytes maxL ret ws rm mc ms n ∧ (Cond.static y).before args s = true) (hp : PreS s H Pc As)
    (hg : g.method = m) (hn : As.length = n) (hsize : g.locals.size = nL) (hstack : g.stack = As.reverse ++ rest) (hW : 2 * g.monitorRoom + (rest.map fun v => v.category).sum ≤ 8) (hdg : decode cc g.pc = .ok (.invokestatic index, 3)) (hf : cells + mc ≤ R.cells ∧ slots + ms ≤ R.slots) :
    vx_Run p l e R s m args below meth c H locs cells slots mc ms g rest (Qc As.toArray) XC free := by
  have hK : vx_Back l R p e below s args y 3 8 (PreOf R mc ms Pc) (PostOf Qc mc ms free) (vx_Post XC mc ms free) := vx_callBack cw.1 hM hp.1
  obtain ⟨⟨-, -, -, -, -, -, hcode, hini, hy, hlen, hl⟩, hstt⟩ := cw
  obtain ⟨hx, hb, hml, ho, -⟩ := S
  intro T hT X
  rcases vx_callS X hx (bytes := bytes) (maxL := maxL) (ret := ret) ho hl hstt hini hcode hy hK hg (hsize.trans hml.symm) (argsL := As) (rest := rest) (fun sig h => hn.trans (hlen sig h)) hstack hW (by rw [hb]; exact hdg)
    (fun vm₁ hW₁ => ⟨hf.1, hf.2, hp.2 (T.setVm vm₁) hT hW₁⟩) with ⟨v, vm₁, ⟨U', l2, c2, s2⟩, hW₁, X', ⟨g', mk, t, L, e1, e2, hq, h1, hL, h2, h3⟩, st⟩ | ⟨q, vm₁, ⟨U', l2, c2, s2⟩, hW₁, X', ⟨g', mk, t, L, E, ce, e1, e2, hq, hce, hcv, hcl, h1, hL, h2, h3⟩, st⟩
  · dsimp only [Pt.U, Pt.locs, Pt.cells, Pt.slots] at X' e1 e2 h1 h2 h3 st
    subst h1; subst h2; subst h3
    exact Or.inl ⟨v, (T.setVm vm₁).calling g' mk As.toArray, t, U', L, hT, X', hL, e1, e2, hq, st⟩
  · dsimp only [Pt.U, Pt.locs, Pt.cells, Pt.slots] at X' e1 e2 h1 h2 h3 st hcl
    subst h1; subst h2; subst h3
    exact Or.inr ⟨q, (T.setVm vm₁).calling g' mk As.toArray, t, U', L, E, ce, hT, X', hL, e1, e2, hq, hce, hcv, vx_cls hW₁ hcl, st⟩
end Runs
section Rows
variable {p : Program} {l : Launch} {e : Env} {R : Room} {s : State} {m : MethodId} {args : Array Value} {below : List Frame} {meth : Method} {c : Code} {H : Heap} {locs : List Loc} {cells slots : Nat} {Q : State → Prop}
variable {mc ms : Nat} {free : Addr → Prop} {A0 A1 : Nat → Prop} {H0 : Heap} {a : Array Value} {pc : Nat} {ls : Array Slot} {st0 rest : List Value}
theorem vx_keep {st₀ t T' : State} {L : List Loc} (h0 : st₀.heap = H) (e1 : T'.heap = t.heap) (hS : va_S A0 H0 H locs) (hA : ∀ q, q < H.size → A1 q → A0 q) (hf : ∀ q, free q → A0 q) (hL : ∀ q ∈ L, free q.base) (hF : va_F A1 st₀ t) :
    H.size ≤ T'.heap.size ∧ (∀ q : Nat, q < H.size → ¬ A1 q → T'.heap[q]? = H[q]?) ∧ va_S A0 H0 T'.heap (locs ++ L) := by
  obtain ⟨hz, hk⟩ := hF
  rw [h0] at hz hk
  exact ⟨by rw [e1]; exact hz, fun q h1 h2 => by rw [e1]; exact hk q h1 h2,
    ⟨Nat.le_trans hS.1 (by rw [e1]; exact hz), fun q h1 h2 => by rw [e1, hk q (Nat.lt_of_lt_of_le h1 hS.1) (fun z => h2 (hA q (Nat.lt_of_lt_of_le h1 hS.1) z))]; exact hS.2.1 q h1 h2, fun q hq => by
      rcases List.mem_append.mp hq with h | h
      · exact hS.2.2 q h
      · exact hf _ (hL q h)⟩⟩
theorem vx_calli {S SX : Type} {post : Int32 → S → Prop} {px : SX → Prop} {B : S → State → Prop} {BX : String → SX → State → Prop} {AX : Nat → Prop} (hr : vx_Run p l e R s m args below meth c H locs cells slots mc ms (F0 m pc ls st0) rest (va_Qi post B A1 a) (vx_X px BX AX) free) (hS : va_S A0 H0 H locs) (hA : ∀ q, q < H.size → A1 q → A0 q) (hf : ∀ q, free q → A0 q) (hAX : ∀ q, q < H.size → AX q → A0 q)
    (kx : ∀ (E : String) (ce : Cell) (q9 : Addr) (u : SX) (t : State) (H1 : Heap) (locs1 : List Loc), t.heap = H1 → s.vm.Alike t.vm → px u → BX E u t → H.size ≤ H1.size → (∀ q : Nat, q < H.size → ¬ AX q → H1[q]? = H[q]?) → va_S A0 H0 H1 locs1 → H1[q9]? = some ce → ce.vm = .none → s.vm.findClass E = some ce.cls → vx_W p l e R s m args below meth c H1 locs1 (cells + mc) (slots + ms) Q (F0 m pc ls rest) q9)
    (kk : ∀ (r : Int32) (u : S) (t : State) (H1 : Heap) (locs1 : List Loc), t.heap = H1 → s.vm.Alike t.vm → post r u → B u t → H.size ≤ H1.size → (∀ q : Nat, q < H.size → ¬ A1 q → H1[q]? = H[q]?) → va_S A0 H0 H1 locs1 → W p l e R s m args below meth c H1 locs1 (cells + mc) (slots + ms) Q (F0 m (pc + 3) ls (.int r :: rest))) : W p l e R s m args below meth c H locs cells slots Q (F0 m pc ls st0) := by
  intro T hT X
  rcases hr T hT X with ⟨v, st₀, t, T', L, h0, X', hL, e1, e2, ⟨⟨r, u, hv, hp, hb⟩, hF⟩, st⟩ | ⟨q, st₀, t, T', L, E, ce, h0, X', hL, e1, e2, ⟨u, hp, hb, hF⟩, hce, hcv, hcl, st⟩
  · cases hv
    obtain ⟨k1, k2, k3⟩ := vx_keep h0 e1 hS hA hf hL hF
    obtain ⟨t2, a1, b1⟩ := kk r u t T'.heap (locs ++ L) e1.symm (by rw [← e2]; exact X'.warmed.alike) hp hb k1 k2 k3 T' rfl X'
    exact ⟨t2, st t2 a1, b1⟩
  · obtain ⟨k1, k2, k3⟩ := vx_keep h0 e1 hS hAX hf hL hF
    obtain ⟨t2, a1, b1⟩ := kx E ce q u t T'.heap (locs ++ L) e1.symm (by rw [← e2]; exact X'.warmed.alike) hp hb k1 k2 k3 (by rw [e1]; exact hce) hcv hcl T' rfl X'
    exact ⟨t2, st.trans a1, b1⟩
theorem vx_calll {S SX : Type} {post : Int64 → S → Prop} {px : SX → Prop} {B : S → State → Prop} {BX : String → SX → State → Prop} {AX : Nat → Prop} (hr : vx_Run p l e R s m args below meth c H locs cells slots mc ms (F0 m pc ls st0) rest (va_Ql post B A1 a) (vx_X px BX AX) free) (hS : va_S A0 H0 H locs) (hA : ∀ q, q < H.size → A1 q → A0 q) (hf : ∀ q, free q → A0 q) (hAX : ∀ q, q < H.size → AX q → A0 q)
    (kx : ∀ (E : String) (ce : Cell) (q9 : Addr) (u : SX) (t : State) (H1 : Heap) (locs1 : List Loc), t.heap = H1 → s.vm.Alike t.vm → px u → BX E u t → H.size ≤ H1.size → (∀ q : Nat, q < H.size → ¬ AX q → H1[q]? = H[q]?) → va_S A0 H0 H1 locs1 → H1[q9]? = some ce → ce.vm = .none → s.vm.findClass E = some ce.cls → vx_W p l e R s m args below meth c H1 locs1 (cells + mc) (slots + ms) Q (F0 m pc ls rest) q9)
    (kk : ∀ (r : Int64) (u : S) (t : State) (H1 : Heap) (locs1 : List Loc), t.heap = H1 → s.vm.Alike t.vm → post r u → B u t → H.size ≤ H1.size → (∀ q : Nat, q < H.size → ¬ A1 q → H1[q]? = H[q]?) → va_S A0 H0 H1 locs1 → W p l e R s m args below meth c H1 locs1 (cells + mc) (slots + ms) Q (F0 m (pc + 3) ls (.long r :: rest))) : W p l e R s m args below meth c H locs cells slots Q (F0 m pc ls st0) := by
  intro T hT X
  rcases hr T hT X with ⟨v, st₀, t, T', L, h0, X', hL, e1, e2, ⟨⟨r, u, hv, hp, hb⟩, hF⟩, st⟩ | ⟨q, st₀, t, T', L, E, ce, h0, X', hL, e1, e2, ⟨u, hp, hb, hF⟩, hce, hcv, hcl, st⟩
  · cases hv
    obtain ⟨k1, k2, k3⟩ := vx_keep h0 e1 hS hA hf hL hF
    obtain ⟨t2, a1, b1⟩ := kk r u t T'.heap (locs ++ L) e1.symm (by rw [← e2]; exact X'.warmed.alike) hp hb k1 k2 k3 T' rfl X'
    exact ⟨t2, st t2 a1, b1⟩
  · obtain ⟨k1, k2, k3⟩ := vx_keep h0 e1 hS hAX hf hL hF
    obtain ⟨t2, a1, b1⟩ := kx E ce q u t T'.heap (locs ++ L) e1.symm (by rw [← e2]; exact X'.warmed.alike) hp hb k1 k2 k3 (by rw [e1]; exact hce) hcv hcl T' rfl X'
    exact ⟨t2, st.trans a1, b1⟩
theorem vx_callf {S SX : Type} {post : UInt32 → S → Prop} {px : SX → Prop} {B : S → State → Prop} {BX : String → SX → State → Prop} {AX : Nat → Prop} (hr : vx_Run p l e R s m args below meth c H locs cells slots mc ms (F0 m pc ls st0) rest (va_Qf post B A1 a) (vx_X px BX AX) free) (hS : va_S A0 H0 H locs) (hA : ∀ q, q < H.size → A1 q → A0 q) (hf : ∀ q, free q → A0 q) (hAX : ∀ q, q < H.size → AX q → A0 q)
    (kx : ∀ (E : String) (ce : Cell) (q9 : Addr) (u : SX) (t : State) (H1 : Heap) (locs1 : List Loc), t.heap = H1 → s.vm.Alike t.vm → px u → BX E u t → H.size ≤ H1.size → (∀ q : Nat, q < H.size → ¬ AX q → H1[q]? = H[q]?) → va_S A0 H0 H1 locs1 → H1[q9]? = some ce → ce.vm = .none → s.vm.findClass E = some ce.cls → vx_W p l e R s m args below meth c H1 locs1 (cells + mc) (slots + ms) Q (F0 m pc ls rest) q9)
    (kk : ∀ (r : UInt32) (u : S) (t : State) (H1 : Heap) (locs1 : List Loc), t.heap = H1 → s.vm.Alike t.vm → post r u → B u t → H.size ≤ H1.size → (∀ q : Nat, q < H.size → ¬ A1 q → H1[q]? = H[q]?) → va_S A0 H0 H1 locs1 → W p l e R s m args below meth c H1 locs1 (cells + mc) (slots + ms) Q (F0 m (pc + 3) ls (.float r :: rest))) : W p l e R s m args below meth c H locs cells slots Q (F0 m pc ls st0) := by
  intro T hT X
  rcases hr T hT X with ⟨v, st₀, t, T', L, h0, X', hL, e1, e2, ⟨⟨r, u, hv, hp, hb⟩, hF⟩, st⟩ | ⟨q, st₀, t, T', L, E, ce, h0, X', hL, e1, e2, ⟨u, hp, hb, hF⟩, hce, hcv, hcl, st⟩
  · cases hv
    obtain ⟨k1, k2, k3⟩ := vx_keep h0 e1 hS hA hf hL hF
    obtain ⟨t2, a1, b1⟩ := kk r u t T'.heap (locs ++ L) e1.symm (by rw [← e2]; exact X'.warmed.alike) hp hb k1 k2 k3 T' rfl X'
    exact ⟨t2, st t2 a1, b1⟩
  · obtain ⟨k1, k2, k3⟩ := vx_keep h0 e1 hS hAX hf hL hF
    obtain ⟨t2, a1, b1⟩ := kx E ce q u t T'.heap (locs ++ L) e1.symm (by rw [← e2]; exact X'.warmed.alike) hp hb k1 k2 k3 (by rw [e1]; exact hce) hcv hcl T' rfl X'
    exact ⟨t2, st.trans a1, b1⟩
theorem vx_calld {S SX : Type} {post : UInt64 → S → Prop} {px : SX → Prop} {B : S → State → Prop} {BX : String → SX → State → Prop} {AX : Nat → Prop} (hr : vx_Run p l e R s m args below meth c H locs cells slots mc ms (F0 m pc ls st0) rest (va_Qd post B A1 a) (vx_X px BX AX) free) (hS : va_S A0 H0 H locs) (hA : ∀ q, q < H.size → A1 q → A0 q) (hf : ∀ q, free q → A0 q) (hAX : ∀ q, q < H.size → AX q → A0 q)
    (kx : ∀ (E : String) (ce : Cell) (q9 : Addr) (u : SX) (t : State) (H1 : Heap) (locs1 : List Loc), t.heap = H1 → s.vm.Alike t.vm → px u → BX E u t → H.size ≤ H1.size → (∀ q : Nat, q < H.size → ¬ AX q → H1[q]? = H[q]?) → va_S A0 H0 H1 locs1 → H1[q9]? = some ce → ce.vm = .none → s.vm.findClass E = some ce.cls → vx_W p l e R s m args below meth c H1 locs1 (cells + mc) (slots + ms) Q (F0 m pc ls rest) q9)
    (kk : ∀ (r : UInt64) (u : S) (t : State) (H1 : Heap) (locs1 : List Loc), t.heap = H1 → s.vm.Alike t.vm → post r u → B u t → H.size ≤ H1.size → (∀ q : Nat, q < H.size → ¬ A1 q → H1[q]? = H[q]?) → va_S A0 H0 H1 locs1 → W p l e R s m args below meth c H1 locs1 (cells + mc) (slots + ms) Q (F0 m (pc + 3) ls (.double r :: rest))) : W p l e R s m args below meth c H locs cells slots Q (F0 m pc ls st0) := by
  intro T hT X
  rcases hr T hT X with ⟨v, st₀, t, T', L, h0, X', hL, e1, e2, ⟨⟨r, u, hv, hp, hb⟩, hF⟩, st⟩ | ⟨q, st₀, t, T', L, E, ce, h0, X', hL, e1, e2, ⟨u, hp, hb, hF⟩, hce, hcv, hcl, st⟩
  · cases hv
    obtain ⟨k1, k2, k3⟩ := vx_keep h0 e1 hS hA hf hL hF
    obtain ⟨t2, a1, b1⟩ := kk r u t T'.heap (locs ++ L) e1.symm (by rw [← e2]; exact X'.warmed.alike) hp hb k1 k2 k3 T' rfl X'
    exact ⟨t2, st t2 a1, b1⟩
  · obtain ⟨k1, k2, k3⟩ := vx_keep h0 e1 hS hAX hf hL hF
    obtain ⟨t2, a1, b1⟩ := kx E ce q u t T'.heap (locs ++ L) e1.symm (by rw [← e2]; exact X'.warmed.alike) hp hb k1 k2 k3 (by rw [e1]; exact hce) hcv hcl T' rfl X'
    exact ⟨t2, st.trans a1, b1⟩
theorem vx_callv {S SX : Type} {post : S → Prop} {px : SX → Prop} {B : S → State → Prop} {BX : String → SX → State → Prop} {AX : Nat → Prop} (hr : vx_Run p l e R s m args below meth c H locs cells slots mc ms (F0 m pc ls st0) rest (va_Qv post B A1 a) (vx_X px BX AX) free) (hS : va_S A0 H0 H locs) (hA : ∀ q, q < H.size → A1 q → A0 q) (hf : ∀ q, free q → A0 q) (hAX : ∀ q, q < H.size → AX q → A0 q)
    (kx : ∀ (E : String) (ce : Cell) (q9 : Addr) (u : SX) (t : State) (H1 : Heap) (locs1 : List Loc), t.heap = H1 → s.vm.Alike t.vm → px u → BX E u t → H.size ≤ H1.size → (∀ q : Nat, q < H.size → ¬ AX q → H1[q]? = H[q]?) → va_S A0 H0 H1 locs1 → H1[q9]? = some ce → ce.vm = .none → s.vm.findClass E = some ce.cls → vx_W p l e R s m args below meth c H1 locs1 (cells + mc) (slots + ms) Q (F0 m pc ls rest) q9)
    (kk : ∀ (u : S) (t : State) (H1 : Heap) (locs1 : List Loc), t.heap = H1 → s.vm.Alike t.vm → post u → B u t → H.size ≤ H1.size → (∀ q : Nat, q < H.size → ¬ A1 q → H1[q]? = H[q]?) → va_S A0 H0 H1 locs1 → W p l e R s m args below meth c H1 locs1 (cells + mc) (slots + ms) Q (F0 m (pc + 3) ls (rest))) : W p l e R s m args below meth c H locs cells slots Q (F0 m pc ls st0) := by
  intro T hT X
  rcases hr T hT X with ⟨v, st₀, t, T', L, h0, X', hL, e1, e2, ⟨⟨u, hv, hp, hb⟩, hF⟩, st⟩ | ⟨q, st₀, t, T', L, E, ce, h0, X', hL, e1, e2, ⟨u, hp, hb, hF⟩, hce, hcv, hcl, st⟩
  · cases hv
    obtain ⟨k1, k2, k3⟩ := vx_keep h0 e1 hS hA hf hL hF
    obtain ⟨t2, a1, b1⟩ := kk u t T'.heap (locs ++ L) e1.symm (by rw [← e2]; exact X'.warmed.alike) hp hb k1 k2 k3 T' rfl X'
    exact ⟨t2, st t2 a1, b1⟩
  · obtain ⟨k1, k2, k3⟩ := vx_keep h0 e1 hS hAX hf hL hF
    obtain ⟨t2, a1, b1⟩ := kx E ce q u t T'.heap (locs ++ L) e1.symm (by rw [← e2]; exact X'.warmed.alike) hp hb k1 k2 k3 (by rw [e1]; exact hce) hcv hcl T' rfl X'
    exact ⟨t2, st.trans a1, b1⟩
/-- caught by the row x of this method's table; the rows ahead don't take it -/
theorem vx_catch {own name : String} {E : String} {ce : Cell} {q : Addr} (hown : s.vm.findClass own = some m.cls) (pre : List ExceptionTableEntry) (x : ExceptionTableEntry) (suf : List ExceptionTableEntry) (hsplit : c.exceptionTable.toList = pre ++ x :: suf)
    (hpass : ∀ z ∈ pre, covers z pc = false ∨ (z.catchType ≠ 0 ∧ ∃ nm : String, (Cond.classLink own z.catchType nm).before args s = true ∧ va_Nc E nm s)) (hx : covers x pc = true) (h0 : x.catchType ≠ 0)
    (hlink : (Cond.classLink own x.catchType name).before args s = true) (hcast : (Cond.castable E name).before args s = true) (hcell : H[q]? = some ce) (hv : ce.vm = .none) (hcl : s.vm.findClass E = some ce.cls)
    (kk : W p l e R s m args below meth c H locs cells slots Q (F0 m x.handlerPc ls [.ref q])) : vx_W p l e R s m args below meth c H locs cells slots Q (F0 m pc ls rest) q := by
  intro T hT X
  have hpl : e.platform.magicAccessors = ({} : Platform).magicAccessors := by rw [X.admits.platform]
  obtain ⟨c3, c4, hc3, hc4, hasg⟩ := Cond.castable_spec hcast
  cases Option.some.inj (hc3.symm.trans hcl)
  obtain ⟨c5, hc5, hcl5⟩ := Cond.classLink_spec hown hlink e.platform hpl
  cases Option.some.inj (hc4.symm.trans hc5)
  obtain ⟨vm', X', st⟩ := X.thenCaughtThrough q (g := F0 m pc ls rest) rfl (Steps.refl _) (by rw [hT]; exact hcell) (by rw [hv]; rfl) (by obtain ⟨k9, h9, -⟩ := Vm.findClass_spec hcl; exact ⟨k9, h9⟩) pre x suf hsplit
    (fun z hz => by
      rcases hpass z hz with h | ⟨hz0, nm, hl1, hn1⟩
      · exact Or.inl h
      · obtain ⟨c6, hc6, hcl6⟩ := Cond.classLink_spec hown hl1 e.platform hpl
        obtain ⟨a8, b8, h1, h2, h3⟩ := hn1
        cases Option.some.inj (h1.symm.trans hcl)
        cases Option.some.inj (h2.symm.trans hc6)
        exact Or.inr ⟨hz0, _, hcl6, h3⟩) hx (Or.inr ⟨h0, c4, hcl5, hasg⟩)
  obtain ⟨t, a1, b1⟩ := kk (T.setVm vm') hT X'
  exact ⟨t, st.trans a1, b1⟩
end Rows
section Ends
variable {p : Program} {l : Launch} {e : Env} {R : Room} {s : State} {m : MethodId} {args : Array Value} {below : List Frame} {meth : Method} {c : Code} {H : Heap} {locs : List Loc} {cells slots : Nat} {Q : State → Prop}
variable {mc ms : Nat} {free : Addr → Prop} {A0 A1 : Nat → Prop} {H0 : Heap} {a : Array Value} {ls : Array Slot} {st0 rest : List Value}
variable {Qc : Array Value → State → Outcome → State → Prop} {XC : String → State → State → Prop}
/-- what a body that may throw owes at its end -/
def vx_MQ (below : List Frame) (Qc : Array Value → State → Outcome → State → Prop) (XC : String → State → State → Prop) (a : Array Value) (s : State) (mc ms : Nat) (free : Addr → Prop) : State → Prop := fun t =>
  ∃ o, t.status = .running ∧ Ended t below o ∧ vx_Q Qc XC mc ms free a s o t
theorem vx_ret {g : JFrame} {mc ms : Nat} (k : W p l e R s m args below meth c H locs cells slots (MQ below Qc args s mc ms free) g) : W p l e R s m args below meth c H locs cells slots (vx_MQ below Qc XC args s mc ms free) g := by
  intro T hT X
  obtain ⟨t, a1, o, b1, b2, b3, b4⟩ := k T hT X
  exact ⟨t, a1, o, b1, b2, Or.inl ⟨b3, b4⟩⟩
/-- not caught here: it goes on to the caller -/
theorem vx_widen {g : JFrame} {q : Addr} {k n : Nat} (h1 : cells ≤ k) (h2 : slots ≤ n) (kk : vx_W p l e R s m args below meth c H locs k n Q g q) : vx_W p l e R s m args below meth c H locs cells slots Q g q := fun T hT X => kk T hT (stand_widen X h1 h2)
theorem vx_out {pc : Nat} {E : String} {ce : Cell} {q : Addr} {mc ms : Nat} (hout : ∀ x ∈ c.exceptionTable.toList, covers x pc = false) (hlocks : meth.locks = false) (hcell : H[q]? = some ce) (hv : ce.vm = .none) (hcl : s.vm.findClass E = some ce.cls)
    (hx : ∀ t : State, t.heap = H → s.vm.Alike t.vm → XC E s t) (hf : ∀ z ∈ locs, free z.base) (hc : cells ≤ mc) (hs : slots ≤ ms) :
    vx_W p l e R s m args below meth c H locs cells slots (vx_MQ below Qc XC args s mc ms free) (F0 m pc ls rest) q := by
  intro T hT X
  obtain ⟨st1, hrun, hend, hW, hsm⟩ := X.leaveThrown q (g := F0 m pc ls rest) rfl rfl rfl hout hlocks
  have hcell9 : (T.setFrames (.throwing q :: below)).heap[q]? = some ce := by
    show T.heap[q]? = some ce
    rw [hT]; exact hcell
  exact ⟨_, st1, .threw q, hrun, hend, Or.inr ⟨q, rfl, E, ce, locs, hx _ hT hW.alike, hcell9, hv, hcl, hW, hsm.mono hc hs, hf⟩⟩
theorem vx_frame {U : State} {k n : Nat} (h : s.sameButNew ({ U with vm := s.vm } : State) locs k n) : s.heap.size ≤ U.heap.size ∧ ∀ q : Nat, q < s.heap.size → (∀ z ∈ locs, z.base ≠ q) → U.heap[q]? = s.heap[q]? := by
  obtain ⟨-, h2, -, -, -, h6⟩ := h
  refine ⟨h2, fun q hq hz => ?_⟩
  obtain ⟨c9, e1, e2, e3, e4⟩ := h6 q _ (Array.getElem?_eq_getElem hq)
  have hs : c9.slots = (s.heap[q]).slots := Array.ext_getElem? fun i => e4 i fun hm => hz _ hm rfl
  have h9 : c9 = s.heap[q] := by
    rw [hs] at e2
    exact e2
  have e5 : U.heap[q]? = some c9 := e1
  rw [e5, h9, Array.getElem?_eq_getElem hq]
/-- the words of a throw but the four that speak of the heap -/
def vx_no (w : Cond) : Bool := decide (w ≠ .isRef (.static Bundle.tN "UNASSIGNED_STACK" Bundle.steD)) && decide (w ≠ .isRef (.static Bundle.tN "SUPPRESSED_SENTINEL" Bundle.listD)) && decide (w ≠ .laysStatic Bundle.tN "UNASSIGNED_STACK" Bundle.steD) && decide (w ≠ .laysStatic Bundle.tN "SUPPRESSED_SENTINEL" Bundle.listD)
def vx_at0 (own : String) (ic : Nat) (X : String) (names : List String) : List Cond := (Bundle.ownAtoms0 own ic X names).filter vx_no
def vx_atS (own : String) (ic : Nat) (X : String) (names : List String) : List Cond := (Bundle.ownAtoms own ic X names).filter vx_no
/-- a word that the tables alone decide, or a good one -/
def vx_ot (w : Cond) : Bool := w.onTables || goodWord w
theorem vx_ot_at {args a' : Array Value} {s U : State} {w : Cond} (hW : s.WarmedH U.vm) (hvm : s.vm = U.vm) (hg : vx_ot w = true) (h : w.before args s = true) : w.before a' U = true := by
  simp only [vx_ot, Bool.or_eq_true] at hg
  rcases hg with hg | hg
  · exact va_tabs hg hvm h
  · exact word_at hW (good_of_word hg) h
/-- a list's words: the good ones out of the method's own list, the others by premises of their own -/
theorem vx_hat {args : Array Value} {s : State} {L B : List Cond} (h1 : ∀ w ∈ L.filter goodWord, w.before args s = true) (h2 : ∀ w ∈ L.filter (fun w => !goodWord w), w ∈ B) (h3 : ∀ w ∈ B, w.before args s = true) : ∀ w ∈ L, w.before args s = true := by
  intro w hw
  by_cases g : goodWord w = true
  · exact h1 w (List.mem_filter.mpr ⟨hw, g⟩)
  · refine h3 w (h2 w (List.mem_filter.mpr ⟨hw, ?_⟩))
    show (!goodWord w) = true
    cases hgw : goodWord w
    · rfl
    · exact absurd hgw g
theorem vx_c {args : Array Value} {s : State} {w : Cond} {B : List Cond} (h : w.before args s = true) (t : ∀ w ∈ B, w.before args s = true) : ∀ w' ∈ w :: B, w'.before args s = true := fun w' h' => (List.mem_cons.mp h').elim (fun e => by rw [e]; exact h) (t w')
theorem vx_n {args : Array Value} {s : State} : ∀ w ∈ ([] : List Cond), w.before args s = true := fun _ h => nomatch h
theorem vx_own {args : Array Value} {s : State} {L : List Cond} (h1 : ∀ w ∈ L.filter vx_no, w.before args s = true)
    (hU : (Cond.isRef (.static Bundle.tN "UNASSIGNED_STACK" Bundle.steD)).before args s = true) (hN : (Cond.isRef (.static Bundle.tN "SUPPRESSED_SENTINEL" Bundle.listD)).before args s = true)
    (lU : (Cond.laysStatic Bundle.tN "UNASSIGNED_STACK" Bundle.steD).before args s = true) (lN : (Cond.laysStatic Bundle.tN "SUPPRESSED_SENTINEL" Bundle.listD).before args s = true) : ∀ w ∈ L, w.before args s = true := by
  intro w hw
  by_cases e1 : w = .isRef (.static Bundle.tN "UNASSIGNED_STACK" Bundle.steD)
  · rw [e1]; exact hU
  · by_cases e2 : w = .isRef (.static Bundle.tN "SUPPRESSED_SENTINEL" Bundle.listD)
    · rw [e2]; exact hN
    · by_cases e3 : w = .laysStatic Bundle.tN "UNASSIGNED_STACK" Bundle.steD
      · rw [e3]; exact lU
      · by_cases e4 : w = .laysStatic Bundle.tN "SUPPRESSED_SENTINEL" Bundle.listD
        · rw [e4]; exact lN
        · exact h1 w (List.mem_filter.mpr ⟨hw, by unfold vx_no; rw [decide_eq_true e1, decide_eq_true e2, decide_eq_true e3, decide_eq_true e4]; rfl⟩)
/-- where a static field lies, its class's statics cell in H -/
def vx_L (C n d : String) (A : Nat → Prop) (U : State) (H : Heap) : Prop := ∃ (c : ClassId) (k : Class) (i : Nat) (f : Field) (a : Nat) (cell : Cell), U.vm.findClass C = some c ∧ U.fieldFound? C n d = some (c, k, i, f) ∧ f.isStatic = true ∧ k.statics = some a ∧ H[a]? = some cell ∧ cell.vm.isStatics = true ∧ cell.cls = c ∧ f.slot < cell.slots.size ∧ k.staticTypes[f.slot]? = some f.type ∧ ¬ A a
theorem vx_L.moved {C n d : String} {A : Nat → Prop} {u U : State} {H : Heap} (hvm : u.vm.Alike U.vm) (h : vx_L C n d A u H) : vx_L C n d A U H := by
  obtain ⟨c, k, i, f, a, cell, h1, h2, h3, h4, h5, h6, h7, h8, h9, h10⟩ := h
  obtain ⟨k', hi', he⟩ := State.fieldFound?_setVm hvm h2
  exact ⟨c, k', i, f, a, cell, by rw [hvm.findClass]; exact h1, hi', h3, by rw [he]; exact h4, h5, h6, h7, h8, by rw [he]; exact h9, h10⟩
theorem vx_L.kept {C n d : String} {A : Nat → Prop} {U : State} {H H1 : Heap} (h : vx_L C n d A U H) (hq : ∀ a : Nat, a < H.size → ¬ A a → H1[a]? = H[a]?) : vx_L C n d A U H1 := by
  obtain ⟨c, k, i, f, a, cell, h1, h2, h3, h4, h5, h6, h7, h8, h9, h10⟩ := h
  exact ⟨c, k, i, f, a, cell, h1, h2, h3, h4, by rw [hq a (Array.getElem?_eq_some_iff.mp h5).1 h10]; exact h5, h6, h7, h8, h9, h10⟩
theorem vx_L.narrow {C n d : String} {A B : Nat → Prop} {U : State} {H : Heap} (h : vx_L C n d A U H) (hAB : ∀ q, B q → A q) : vx_L C n d B U H := by
  obtain ⟨c, k, i, f, a, cell, h1, h2, h3, h4, h5, h6, h7, h8, h9, h10⟩ := h
  exact ⟨c, k, i, f, a, cell, h1, h2, h3, h4, h5, h6, h7, h8, h9, fun z => h10 (hAB _ z)⟩
theorem vx_L.word {C n d : String} {A : Nat → Prop} {s : State} {args : Array Value} (h : vx_L C n d A s s.heap) : (Cond.laysStatic C n d).before args s = true := by
  obtain ⟨c, k, i, f, a, cell, h1, h2, h3, h4, h5, h6, h7, h8, h9, -⟩ := h
  show (Cond.laysStatic C n d).holds args s none s [] = true
  exact Cond.laysStatic_of h1 h2 h3 h4 h5 h6 h7 h8 h9
/-- .. and what it holds: null or some reference -/
def vx_Zq (C n d : String) (A : Nat → Prop) (U : State) (H : Heap) : Prop := va_Zq C n d A U H ∧ vx_L C n d A U H
theorem vx_Zq.moved {C n d : String} {A : Nat → Prop} {u U : State} {H : Heap} (hvm : u.vm.Alike U.vm) (h : vx_Zq C n d A u H) : vx_Zq C n d A U H := ⟨va_Zq.moved hvm h.1, vx_L.moved hvm h.2⟩
theorem vx_Zq.kept {C n d : String} {A : Nat → Prop} {U : State} {H H1 : Heap} (h : vx_Zq C n d A U H) (hq : ∀ a : Nat, a < H.size → ¬ A a → H1[a]? = H[a]?) : vx_Zq C n d A U H1 := ⟨va_Zq.kept h.1 hq, vx_L.kept h.2 hq⟩
theorem vx_Zq.narrow {C n d : String} {A B : Nat → Prop} {U : State} {H : Heap} (h : vx_Zq C n d A U H) (hAB : ∀ q, B q → A q) : vx_Zq C n d B U H := ⟨va_Zq.narrow h.1 hAB, vx_L.narrow h.2 hAB⟩
theorem vx_Zqof {args : Array Value} {s : State} {C n d : String} {A : Nat → Prop} (hl : (Cond.laysStatic C n d).before args s = true) (hini : (Cond.initialized C).before args s = true) (h : (Cond.isRef (.static C n d)).before args s = true) (hA : ∀ a : Nat, a < s.heap.size → ¬ A a) : vx_Zq C n d A s s.heap := by
  refine ⟨va_Zqof hl hini h hA, ?_⟩
  obtain ⟨c, k, i, f, a, cell, h1, h2, h3, h4, h5, h6, h7, h8, h9⟩ := Cond.laysStatic_spec hl
  exact ⟨c, k, i, f, a, cell, h1, h2, h3, h4, h5, h6, h7, h8, h9, hA a (Array.getElem?_eq_some_iff.mp h5).1⟩
theorem vx_isRef {C n d : String} {v : Value} {A : Nat → Prop} {s : State} {args : Array Value} (h : va_Z C n d v A s s.heap) (hv : v.isRef = true) : (Cond.isRef (.static C n d)).before args s = true := by
  obtain ⟨cf, kf, fi, f, a, cell, h1, h2, h3, h4, h5, h6, h7, -⟩ := h
  have he : (Term.static C n d).eval args s none [] s = some v := by
    simp [Term.eval, State.fieldNamed?, h1, h2, h4, h5, h6, h7]
  simp only [Cond.before, Cond.holds, Cond.value, he]
  cases v <;> simp_all [Value.isRef]
theorem vx_isRefq {C n d : String} {A : Nat → Prop} {s : State} {args : Array Value} (h : va_Zq C n d A s s.heap) : (Cond.isRef (.static C n d)).before args s = true := by
  rcases h with h | ⟨t, h⟩
  · exact vx_isRef h rfl
  · exact vx_isRef h rfl
/-- the same frame, seen from here: as if the method were called anew in this heap -/
theorem vx_rebase {T : State} (X : Stand p l e R s m args below meth c T locs cells slots) {R' : Room} (hf : R'.frames ≤ R.frames) (hl : R'.locals ≤ R.locals) (hc : cells + R'.cells ≤ R.cells) (hs : slots + R'.slots ≤ R.slots) :
    Stand p l e R' ((T.setVm s.vm).setFrames (.invoking m args :: below)) m args below meth c T [] 0 0 := by
  have htop : (T.setVm s.vm).topJava?.isSome := X.here.top
  have hF : ((T.setVm s.vm).setFrames (.invoking m args :: below)).frames = .invoking m args :: below := State.frames_setFrames _ (State.cur_lt_of_top htop)
  obtain ⟨g₀, hg0⟩ := Option.isSome_iff_exists.mp htop
  obtain ⟨r, hr⟩ := State.topJava?_eq_some.mp hg0
  have hl9 : e.platform.stackLimits (T.setVm s.vm).me = e.platform.stackLimits s.me := X.limits
  have hb9 : (T.setVm s.vm).me.stackBytes = s.me.stackBytes := X.bytes
  refine ⟨X.admits, X.cas, X.clock, hF, ?_, X.hears, X.method, X.code, X.here, X.tail, X.warmed, ?_, ?_, ?_⟩
  · have h := X.room
    have hU : ((T.setVm s.vm).setFrames (.invoking m args :: below)).localsInUse = s.localsInUse := by
      rw [State.localsInUse_invoking hF (meth := meth) (c := c) X.method X.code, State.localsInUse_invoking X.frames X.method X.code]
    simp only [State.hasRoom, Bool.and_eq_true, decide_eq_true_eq] at h ⊢
    obtain ⟨⟨⟨⟨h1, h2, h3, h4, h5, h6⟩, h7⟩, h8⟩, h9⟩ := h
    rw [X.frames, List.length_cons] at h2 h3
    have q1 := X.heapSize
    have q2 := X.used
    simp only [hF, hU, List.length_cons, State.stackLimits_setFrames, State.stackBytes_setFrames, hl9, hb9]
    refine ⟨⟨⟨⟨by omega, by omega, by omega, by omega, by omega, h6⟩, ?_⟩, ?_⟩, X.book⟩
    · show T.heap.size + R'.cells ≤ e.platform.maxCells
      omega
    · show T.slotsUsed + R'.slots ≤ e.platform.maxSlots
      omega
  · rw [State.stackLimits_setFrames]; rfl
  · rw [State.stackBytes_setFrames]; rfl
  · refine ⟨?_, Nat.le_refl _, Nat.le_refl _, ?_, ?_, fun a c9 h9 => ⟨c9, h9, rfl, rfl, fun _ _ => rfl⟩⟩
    · obtain ⟨t, ht, -⟩ := State.frames_cons hr
      show T.setVm s.vm = { ((T.setVm s.vm).setFrames (.invoking m args :: below)).setFrames (T.setVm s.vm).frames with heap := T.heap, slotsUsed := T.slotsUsed }
      rw [State.setFrames_setFrames, State.setFrames_self ht]
      rfl
    · show T.slotsUsed = T.slotsUsed + ((T.heap.toList.drop T.heap.size).map (·.slots.size)).sum
      rw [List.drop_eq_nil_of_le (Nat.le_of_eq Array.length_toList)]
      rfl
    · show ((T.heap.toList.drop T.heap.size).map (·.slots.size)).sum ≤ 0
      rw [List.drop_eq_nil_of_le (Nat.le_of_eq Array.length_toList)]
      exact Nat.le_refl _
/-- 'throw new E()': new; dup; invokespecial; athrow -/
theorem vx_throw0 {cc : ByteArray} {pc : Nat} (hexec : p.tables.exec = Jvm.exec) (hb : c.code = cc) (hl : l.stackTraces = false) {own cls : String} {names : List String} {ik ic mc ms : Nat} {A : Nat → Prop}
    (hown : s.vm.findClass own = some m.cls) (hcls : Bundle.fit cls = true) (hnames : ∀ n ∈ names, Bundle.fit n = true)
    (hk : (Cond.classLink own ik cls).before args s = true) (hini : (Cond.initialized cls).before args s = true) (hat : ∀ w ∈ vx_at0 own ic cls names, w.before args s = true)
    (hgood : ∀ w ∈ Cond.classLink own ik cls :: Cond.initialized cls :: vx_at0 own ic cls names, vx_ot w = true)
    (hU : vx_Zq Bundle.tN "UNASSIGNED_STACK" Bundle.steD A s s.heap) (hN : vx_Zq Bundle.tN "SUPPRESSED_SENTINEL" Bundle.listD A s s.heap) (hS : va_S A s.heap H locs) (hsize : ls.size = c.maxLocals)
    (d0 : decode cc pc = .ok (.new ik, 3)) (d3 : decode cc (pc + 3) = .ok (.dup, 1)) (d4 : decode cc (pc + 4) = .ok (.invokespecial ic, 3)) (d7 : decode cc (pc + 7) = .ok (.athrow, 1))
    (hout : ∀ x ∈ c.exceptionTable.toList, covers x (pc + 7) = false)
    (hRframes : names.length + 3 < R.frames) (hRlocals : (rest.map fun v => v.category).sum + (13 * (names.length + 1) + 42) ≤ R.locals) (hRcells : cells + 1 ≤ R.cells) (hRslots : slots + 6 ≤ R.slots) (hlocks : meth.locks = false)
    (hx : ∀ t : State, s.vm.Alike t.vm → H.size ≤ t.heap.size → (∀ q : Nat, q < H.size → t.heap[q]? = H[q]?) → XC cls s t)
    (hf : ∀ z ∈ locs, free z.base) (hc : cells + 1 ≤ mc) (hs : slots + 6 ≤ ms) :
    W p l e R s m args below meth c H locs cells slots (vx_MQ below Qc XC args s mc ms free) (F0 m pc ls rest) := by
  intro T hT X
  have htr : e.platform.stackTraces = false := (show e.platform.stackTraces = l.stackTraces by rw [X.admits.platform]).trans hl
  have Y := vx_rebase X (R' := { frames := R.frames, locals := R.locals, cells := 1, slots := 6 }) (Nat.le_refl _) (Nat.le_refl _) hRcells hRslots
  obtain ⟨s', hA⟩ : ∃ z, z = (T.setVm s.vm).setFrames (.invoking m args :: below) := ⟨_, rfl⟩
  rw [← hA] at Y
  have hvm : s'.vm = s.vm := by rw [hA]; rfl
  have hhp : s'.heap = H := by rw [hA]; exact hT
  have hW0 : s.WarmedH s'.vm := by rw [hvm]; exact State.WarmedH.refl s
  have hat' : ∀ w ∈ vx_at0 own ic cls names, w.before args s' = true := fun w hw => vx_ot_at hW0 hvm.symm (hgood w (List.mem_cons_of_mem _ (List.mem_cons_of_mem _ hw))) (hat w hw)
  have hk' : (Cond.classLink own ik cls).before args s' = true := vx_ot_at hW0 hvm.symm (hgood _ List.mem_cons_self) hk
  have hini' : (Cond.initialized cls).before args s' = true := vx_ot_at hW0 hvm.symm (hgood _ (List.mem_cons_of_mem _ List.mem_cons_self)) hini
  have hU' : vx_Zq Bundle.tN "UNASSIGNED_STACK" Bundle.steD A s' s'.heap := by rw [hhp]; exact vx_Zq.moved hW0.alike (hU.kept hS.2.1)
  have hN' : vx_Zq Bundle.tN "SUPPRESSED_SENTINEL" Bundle.listD A s' s'.heap := by rw [hhp]; exact vx_Zq.moved hW0.alike (hN.kept hS.2.1)
  have h : ∀ w ∈ Bundle.ownAtoms0 own ic cls names, w.before args s' = true := vx_own hat' (vx_isRefq hU'.1) (vx_isRefq hN'.1) hU'.2.word hN'.2.word
  have hown' : s'.vm.findClass own = some m.cls := by rw [hvm]; exact hown
  have hins : (Cond.instantiable cls 6).before args s' = true := h _ (by simp [Bundle.ownAtoms0])
  obtain ⟨vm₁, cX, kX, hfX, hkX, -, -, X₁, st1⟩ := Y.newCold hexec (own := own) (C := cls) (index := ik) (n := 6) hown' hk' hins hini'
    (g := F0 m pc ls rest) rfl (by rw [hb]; exact d0) (Nat.le_refl _) (Nat.le_refl _)
  generalize hT1 : (T.setVm vm₁).pushCell { cls := cX, slots := kX.instanceTypes.map defaultValue, vm := .none } = T1 at X₁ st1
  have hcat : (Value.ref T.heap.size).category = 1 := rfl
  have hcellA : T1.heap[T.heap.size]? = some (freshCell cX kX) := by rw [← hT1]; exact State.heap_pushCell_size _ _
  have d3' : decode c.code (pc + 3) = .ok (.dup, 1) := by rw [hb]; exact d3
  obtain ⟨U, hsteps, hrun, hend, hW, hsame, ce, hce, hO⟩ := X₁.ctorThrow0 hexec htr (own := own) (cls := cls) (names := names) (ic := ic) hown' hcls hnames h (fun x hx => nomatch hx) hfX hkX hcellA (by rw [hhp, hT]; exact Nat.le_refl _)
    (g := { method := m, pc := pc + 4, locals := ls, stack := .ref T.heap.size :: .ref T.heap.size :: rest, locked := none }) rfl hsize rfl rfl (rest := rest) rfl
    (by rw [hb]; exact d4) (by rw [hb]; exact d7) hout hRframes (by simp only [List.map_cons, List.sum_cons, hcat]; omega) hlocks
  obtain ⟨f1, f2⟩ := vx_frame hsame
  rw [hhp] at f1 f2
  have hWs : s.WarmedH U.vm := State.WarmedH.trans hW0 hW
  have hcl : s.vm.findClass cls = some ce.cls := by
    have h9 := hO.cls
    rw [hvm] at h9
    exact h9
  have hall : s.sameButNew ({ U with vm := s.vm } : State) locs mc ms := by
    subst hA
    obtain ⟨e1, e2⟩ := hsame
    rw [State.setFrames_setFrames] at e1
    have h2 : (T.setVm s.vm).sameButNew ({ U with vm := s.vm } : State) [] (0 + 1) (0 + 6) := ⟨e1, e2⟩
    have h3 := X.same.trans h2
    rw [List.append_nil] at h3
    exact h3.mono hc hs
  refine ⟨U, ?_, .threw T.heap.size, hrun, hend, Or.inr ⟨T.heap.size, rfl, cls, ce, locs, hx U hWs.alike f1 (fun q hq => f2 q hq (fun z hz => nomatch hz)), hce, hO.vm, hcl, hWs, hall, hf⟩⟩
  refine st1 _ ?_
  show Steps p.tables e below (T1.setTop { method := m, pc := pc + 3, locals := ls, stack := .ref T.heap.size :: rest, locked := none }) _
  jvm_step X₁.here [X₁.here.top, hexec, d3', Value.category]
  exact hsteps
/-- 'throw new E("text")': new; dup; ldc; invokespecial; athrow -/
theorem vx_throwS {cc : ByteArray} {pc : Nat} (hexec : p.tables.exec = Jvm.exec) (hb : c.code = cc) (hl : l.stackTraces = false) {own cls text : String} {names : List String} {ik is ic mc ms sa : Nat} {A : Nat → Prop}
    (hown : s.vm.findClass own = some m.cls) (hcls : Bundle.fit cls = true) (hnames : ∀ n ∈ names, Bundle.fit n = true)
    (hk : (Cond.classLink own ik cls).before args s = true) (hini : (Cond.initialized cls).before args s = true) (hstr : vk_R own is text sa s) (hat : ∀ w ∈ vx_atS own ic cls names, w.before args s = true)
    (hgood : ∀ w ∈ Cond.classLink own ik cls :: Cond.initialized cls :: vx_atS own ic cls names, vx_ot w = true)
    (hU : vx_Zq Bundle.tN "UNASSIGNED_STACK" Bundle.steD A s s.heap) (hN : vx_Zq Bundle.tN "SUPPRESSED_SENTINEL" Bundle.listD A s s.heap) (hS : va_S A s.heap H locs) (hsize : ls.size = c.maxLocals)
    (d0 : decode cc pc = .ok (.new ik, 3)) (d3 : decode cc (pc + 3) = .ok (.dup, 1)) (d4 : decode cc (pc + 4) = .ok (.ldc is, 2)) (d6 : decode cc (pc + 6) = .ok (.invokespecial ic, 3)) (d9 : decode cc (pc + 9) = .ok (.athrow, 1))
    (hout : ∀ x ∈ c.exceptionTable.toList, covers x (pc + 9) = false)
    (hRframes : names.length + 3 < R.frames) (hRlocals : (rest.map fun v => v.category).sum + (13 * (names.length + 1) + 43) ≤ R.locals) (hRcells : cells + 1 ≤ R.cells) (hRslots : slots + 6 ≤ R.slots) (hlocks : meth.locks = false)
    (hx : ∀ t : State, s.vm.Alike t.vm → H.size ≤ t.heap.size → (∀ q : Nat, q < H.size → t.heap[q]? = H[q]?) → XC cls s t)
    (hf : ∀ z ∈ locs, free z.base) (hc : cells + 1 ≤ mc) (hs : slots + 6 ≤ ms) :
    W p l e R s m args below meth c H locs cells slots (vx_MQ below Qc XC args s mc ms free) (F0 m pc ls rest) := by
  intro T hT X
  have htr : e.platform.stackTraces = false := (show e.platform.stackTraces = l.stackTraces by rw [X.admits.platform]).trans hl
  have Y := vx_rebase X (R' := { frames := R.frames, locals := R.locals, cells := 1, slots := 6 }) (Nat.le_refl _) (Nat.le_refl _) hRcells hRslots
  obtain ⟨s', hA⟩ : ∃ z, z = (T.setVm s.vm).setFrames (.invoking m args :: below) := ⟨_, rfl⟩
  rw [← hA] at Y
  have hvm : s'.vm = s.vm := by rw [hA]; rfl
  have hhp : s'.heap = H := by rw [hA]; exact hT
  have hW0 : s.WarmedH s'.vm := by rw [hvm]; exact State.WarmedH.refl s
  have hat' : ∀ w ∈ vx_atS own ic cls names, w.before args s' = true := fun w hw => vx_ot_at hW0 hvm.symm (hgood w (List.mem_cons_of_mem _ (List.mem_cons_of_mem _ hw))) (hat w hw)
  have hk' : (Cond.classLink own ik cls).before args s' = true := vx_ot_at hW0 hvm.symm (hgood _ List.mem_cons_self) hk
  have hini' : (Cond.initialized cls).before args s' = true := vx_ot_at hW0 hvm.symm (hgood _ (List.mem_cons_of_mem _ List.mem_cons_self)) hini
  have hU' : vx_Zq Bundle.tN "UNASSIGNED_STACK" Bundle.steD A s' s'.heap := by rw [hhp]; exact vx_Zq.moved hW0.alike (hU.kept hS.2.1)
  have hN' : vx_Zq Bundle.tN "SUPPRESSED_SENTINEL" Bundle.listD A s' s'.heap := by rw [hhp]; exact vx_Zq.moved hW0.alike (hN.kept hS.2.1)
  have h : ∀ w ∈ Bundle.ownAtoms own ic cls names, w.before args s' = true := vx_own hat' (vx_isRefq hU'.1) (vx_isRefq hN'.1) hU'.2.word hN'.2.word
  have hown' : s'.vm.findClass own = some m.cls := by rw [hvm]; exact hown
  have hins : (Cond.instantiable cls 6).before args s' = true := h _ (by simp [Bundle.ownAtoms])
  obtain ⟨vm₁, cX, kX, hfX, hkX, -, -, X₁, st1⟩ := Y.newCold hexec (own := own) (C := cls) (index := ik) (n := 6) hown' hk' hins hini'
    (g := F0 m pc ls rest) rfl (by rw [hb]; exact d0) (Nat.le_refl _) (Nat.le_refl _)
  generalize hT1 : (T.setVm vm₁).pushCell { cls := cX, slots := kX.instanceTypes.map defaultValue, vm := .none } = T1 at X₁ st1
  have hcat : (Value.ref T.heap.size).category = 1 := rfl
  have hcellA : T1.heap[T.heap.size]? = some (freshCell cX kX) := by rw [← hT1]; exact State.heap_pushCell_size _ _
  have d3' : decode c.code (pc + 3) = .ok (.dup, 1) := by rw [hb]; exact d3
  have d4' : decode c.code (pc + 4) = .ok (.ldc is, 2) := by rw [hb]; exact d4
  have hstr' : vk_R own is text sa s' := vk_R.warm hW0 hstr
  obtain ⟨U, hsteps, hrun, hend, hW, hsame, ce, hce, hO⟩ := X₁.ctorThrowS hexec htr (own := own) (cls := cls) (names := names) (ic := ic) hown' hcls hnames h (fun x hx => nomatch hx) hfX hkX hcellA (by rw [hhp, hT]; exact Nat.le_refl _) (msg := .ref sa) rfl
    (g := { method := m, pc := pc + 6, locals := ls, stack := .ref sa :: .ref T.heap.size :: .ref T.heap.size :: rest, locked := none }) rfl hsize rfl rfl (rest := rest) rfl
    (by rw [hb]; exact d6) (by rw [hb]; exact d9) hout hRframes (by simp only [List.map_cons, List.sum_cons, hcat]; omega) hlocks
  obtain ⟨f1, f2⟩ := vx_frame hsame
  rw [hhp] at f1 f2
  have hWs : s.WarmedH U.vm := State.WarmedH.trans hW0 hW
  have hcl : s.vm.findClass cls = some ce.cls := by
    have h9 := hO.cls
    rw [hvm] at h9
    exact h9
  have hall : s.sameButNew ({ U with vm := s.vm } : State) locs mc ms := by
    subst hA
    obtain ⟨e1, e2⟩ := hsame
    rw [State.setFrames_setFrames] at e1
    have h2 : (T.setVm s.vm).sameButNew ({ U with vm := s.vm } : State) [] (0 + 1) (0 + 6) := ⟨e1, e2⟩
    have h3 := X.same.trans h2
    rw [List.append_nil] at h3
    exact h3.mono hc hs
  refine ⟨U, ?_, .threw T.heap.size, hrun, hend, Or.inr ⟨T.heap.size, rfl, cls, ce, locs, hx U hWs.alike f1 (fun q hq => f2 q hq (fun z hz => nomatch hz)), hce, hO.vm, hcl, hWs, hall, hf⟩⟩
  refine st1 _ ?_
  show Steps p.tables e below (T1.setTop { method := m, pc := pc + 3, locals := ls, stack := .ref T.heap.size :: rest, locked := none }) _
  jvm_step X₁.here [X₁.here.top, hexec, d3', Value.category]
  exact X₁.ldcString hexec (own := own) (text := text) (index := is) (a := sa) hown' hstr'.1 hstr'.2
    (g := { method := m, pc := pc + 4, locals := ls, stack := .ref T.heap.size :: .ref T.heap.size :: rest, locked := none }) rfl d4' _ hsteps
/-- 'throw new E("text")', the text by a wide index -/
theorem vx_throwSW {cc : ByteArray} {pc : Nat} (hexec : p.tables.exec = Jvm.exec) (hb : c.code = cc) (hl : l.stackTraces = false) {own cls text : String} {names : List String} {ik is ic mc ms sa : Nat} {A : Nat → Prop}
    (hown : s.vm.findClass own = some m.cls) (hcls : Bundle.fit cls = true) (hnames : ∀ n ∈ names, Bundle.fit n = true)
    (hk : (Cond.classLink own ik cls).before args s = true) (hini : (Cond.initialized cls).before args s = true) (hstr : vk_R own is text sa s) (hat : ∀ w ∈ vx_atS own ic cls names, w.before args s = true)
    (hgood : ∀ w ∈ Cond.classLink own ik cls :: Cond.initialized cls :: vx_atS own ic cls names, vx_ot w = true)
    (hU : vx_Zq Bundle.tN "UNASSIGNED_STACK" Bundle.steD A s s.heap) (hN : vx_Zq Bundle.tN "SUPPRESSED_SENTINEL" Bundle.listD A s s.heap) (hS : va_S A s.heap H locs) (hsize : ls.size = c.maxLocals)
    (d0 : decode cc pc = .ok (.new ik, 3)) (d3 : decode cc (pc + 3) = .ok (.dup, 1)) (d4 : decode cc (pc + 4) = .ok (.ldc_w is, 3)) (d7 : decode cc (pc + 7) = .ok (.invokespecial ic, 3)) (d10 : decode cc (pc + 10) = .ok (.athrow, 1))
    (hout : ∀ x ∈ c.exceptionTable.toList, covers x (pc + 10) = false)
    (hRframes : names.length + 3 < R.frames) (hRlocals : (rest.map fun v => v.category).sum + (13 * (names.length + 1) + 43) ≤ R.locals) (hRcells : cells + 1 ≤ R.cells) (hRslots : slots + 6 ≤ R.slots) (hlocks : meth.locks = false)
    (hx : ∀ t : State, s.vm.Alike t.vm → H.size ≤ t.heap.size → (∀ q : Nat, q < H.size → t.heap[q]? = H[q]?) → XC cls s t)
    (hf : ∀ z ∈ locs, free z.base) (hc : cells + 1 ≤ mc) (hs : slots + 6 ≤ ms) :
    W p l e R s m args below meth c H locs cells slots (vx_MQ below Qc XC args s mc ms free) (F0 m pc ls rest) := by
  intro T hT X
  have htr : e.platform.stackTraces = false := (show e.platform.stackTraces = l.stackTraces by rw [X.admits.platform]).trans hl
  have Y := vx_rebase X (R' := { frames := R.frames, locals := R.locals, cells := 1, slots := 6 }) (Nat.le_refl _) (Nat.le_refl _) hRcells hRslots
  obtain ⟨s', hA⟩ : ∃ z, z = (T.setVm s.vm).setFrames (.invoking m args :: below) := ⟨_, rfl⟩
  rw [← hA] at Y
  have hvm : s'.vm = s.vm := by rw [hA]; rfl
  have hhp : s'.heap = H := by rw [hA]; exact hT
  have hW0 : s.WarmedH s'.vm := by rw [hvm]; exact State.WarmedH.refl s
  have hat' : ∀ w ∈ vx_atS own ic cls names, w.before args s' = true := fun w hw => vx_ot_at hW0 hvm.symm (hgood w (List.mem_cons_of_mem _ (List.mem_cons_of_mem _ hw))) (hat w hw)
  have hk' : (Cond.classLink own ik cls).before args s' = true := vx_ot_at hW0 hvm.symm (hgood _ List.mem_cons_self) hk
  have hini' : (Cond.initialized cls).before args s' = true := vx_ot_at hW0 hvm.symm (hgood _ (List.mem_cons_of_mem _ List.mem_cons_self)) hini
  have hU' : vx_Zq Bundle.tN "UNASSIGNED_STACK" Bundle.steD A s' s'.heap := by rw [hhp]; exact vx_Zq.moved hW0.alike (hU.kept hS.2.1)
  have hN' : vx_Zq Bundle.tN "SUPPRESSED_SENTINEL" Bundle.listD A s' s'.heap := by rw [hhp]; exact vx_Zq.moved hW0.alike (hN.kept hS.2.1)
  have h : ∀ w ∈ Bundle.ownAtoms own ic cls names, w.before args s' = true := vx_own hat' (vx_isRefq hU'.1) (vx_isRefq hN'.1) hU'.2.word hN'.2.word
  have hown' : s'.vm.findClass own = some m.cls := by rw [hvm]; exact hown
  have hins : (Cond.instantiable cls 6).before args s' = true := h _ (by simp [Bundle.ownAtoms])
  obtain ⟨vm₁, cX, kX, hfX, hkX, -, -, X₁, st1⟩ := Y.newCold hexec (own := own) (C := cls) (index := ik) (n := 6) hown' hk' hins hini'
    (g := F0 m pc ls rest) rfl (by rw [hb]; exact d0) (Nat.le_refl _) (Nat.le_refl _)
  generalize hT1 : (T.setVm vm₁).pushCell { cls := cX, slots := kX.instanceTypes.map defaultValue, vm := .none } = T1 at X₁ st1
  have hcat : (Value.ref T.heap.size).category = 1 := rfl
  have hcellA : T1.heap[T.heap.size]? = some (freshCell cX kX) := by rw [← hT1]; exact State.heap_pushCell_size _ _
  have d3' : decode c.code (pc + 3) = .ok (.dup, 1) := by rw [hb]; exact d3
  have d4' : decode c.code (pc + 4) = .ok (.ldc_w is, 3) := by rw [hb]; exact d4
  have hstr' : vk_R own is text sa s' := vk_R.warm hW0 hstr
  obtain ⟨U, hsteps, hrun, hend, hW, hsame, ce, hce, hO⟩ := X₁.ctorThrowS hexec htr (own := own) (cls := cls) (names := names) (ic := ic) hown' hcls hnames h (fun x hx => nomatch hx) hfX hkX hcellA (by rw [hhp, hT]; exact Nat.le_refl _) (msg := .ref sa) rfl
    (g := { method := m, pc := pc + 7, locals := ls, stack := .ref sa :: .ref T.heap.size :: .ref T.heap.size :: rest, locked := none }) rfl hsize rfl rfl (rest := rest) rfl
    (by rw [hb]; exact d7) (by rw [hb]; exact d10) hout hRframes (by simp only [List.map_cons, List.sum_cons, hcat]; omega) hlocks
  obtain ⟨f1, f2⟩ := vx_frame hsame
  rw [hhp] at f1 f2
  have hWs : s.WarmedH U.vm := State.WarmedH.trans hW0 hW
  have hcl : s.vm.findClass cls = some ce.cls := by
    have h9 := hO.cls
    rw [hvm] at h9
    exact h9
  have hall : s.sameButNew ({ U with vm := s.vm } : State) locs mc ms := by
    subst hA
    obtain ⟨e1, e2⟩ := hsame
    rw [State.setFrames_setFrames] at e1
    have h2 : (T.setVm s.vm).sameButNew ({ U with vm := s.vm } : State) [] (0 + 1) (0 + 6) := ⟨e1, e2⟩
    have h3 := X.same.trans h2
    rw [List.append_nil] at h3
    exact h3.mono hc hs
  refine ⟨U, ?_, .threw T.heap.size, hrun, hend, Or.inr ⟨T.heap.size, rfl, cls, ce, locs, hx U hWs.alike f1 (fun q hq => f2 q hq (fun z hz => nomatch hz)), hce, hO.vm, hcl, hWs, hall, hf⟩⟩
  refine st1 _ ?_
  show Steps p.tables e below (T1.setTop { method := m, pc := pc + 3, locals := ls, stack := .ref T.heap.size :: rest, locked := none }) _
  jvm_step X₁.here [X₁.here.top, hexec, d3', Value.category]
  exact X₁.ldcStringW hexec (own := own) (text := text) (index := is) (a := sa) hown' hstr'.1 hstr'.2
    (g := { method := m, pc := pc + 4, locals := ls, stack := .ref T.heap.size :: .ref T.heap.size :: rest, locked := none }) rfl d4' _ hsteps
end Ends
section Bodies
variable {l : Launch}
theorem vx_ofW {y : MethodName} {ws ws' : List Cond} {rm : Room} {Pc : Array Value → State → Prop} {Qc : Array Value → State → Outcome → State → Prop} {XC : String → State → State → Prop} {mc ms : Nat} {free : Addr → Prop} {cc : ByteArray} {maxL : Nat} {ret : Option FieldType}
    (hy : plainName y.cls = true) (hw : ws = Cond.code y cc maxL ret :: ws')
    (body : ∀ p e s m args below meth c s₁, BodyLoose p l y (headSpec ws rm) cc maxL ret e s m args below meth c s₁ → c.maxLocals = maxL → (∀ x ∈ c.exceptionTable.toList, False) → Pc args s →
      W p l e (headSpec ws rm).room s m args below meth c s.heap [] 0 0 (vx_MQ below Qc XC args s mc ms free) (entryFrame m args maxL)) : vx_Met l y ws rm Pc Qc XC mc ms free := by
  refine MetFree.of_bodyS (code := cc) (maxLocals := maxL) (ret := ret) hy ?_ ?_
  · intro args s m h hn
    obtain ⟨meth, c, h1, h2, h3, h4, h5, h6, -, -⟩ := Cond.code_spec hn (atoms_spec (ws := ws) h _ (by rw [hw]; exact List.mem_cons_self))
    exact ⟨meth, c, h1, h2, h3, h4, h5, h6⟩
  · intro p e s m args below meth c s₁ B hml hP _
    have hh0 : s₁.heap = s.heap := by rw [B.state]; rfl
    have ht : ∀ x ∈ c.exceptionTable.toList, False := by
      obtain ⟨meth9, c9, h1, h2, -, -, -, -, h7, -⟩ := Cond.code_spec B.named (atoms_spec (ws := ws) B.pre _ (by rw [hw]; exact List.mem_cons_self))
      cases Option.some.inj (h1.symm.trans B.method)
      cases Option.some.inj (h2.symm.trans (Stand.of_body B).code)
      intro x hx
      rw [Array.isEmpty_iff.mp h7] at hx
      cases hx
    obtain ⟨t, a1, o, b1, b2, b3⟩ := body p e s m args below meth c s₁ B hml ht hP s₁ hh0 (Stand.of_body B)
    exact ⟨t, o, a1, b1, b2, b3⟩
/-- the table of a body with handlers -/
theorem vx_table {p : Program} {x y : MethodName} {S : Spec} {cc bytes : ByteArray} {maxL maxL' : Nat} {ret ret' : Option FieldType} {e : Env} {s s₁ : State} {m : MethodId} {args : Array Value} {below : List Frame} {meth : Method} {c : Code} {hh : List (Nat × Nat × Nat × Nat)}
    (B : BodyLoose p l y S cc maxL ret e s m args below meth c s₁) (h : (Cond.codeWith y bytes maxL' ret' hh).before args s = true) : c.exceptionTable.toList = tableOf hh := by
  obtain ⟨m9, meth9, c9, hn9, h1, h2, -, -, h6, -⟩ := Cond.codeWith_spec h
  cases Option.some.inj (hn9.symm.trans B.named)
  cases Option.some.inj (h1.symm.trans B.method)
  cases Option.some.inj (h2.symm.trans (Stand.of_body B).code)
  rw [← h6, table_eq]
end Bodies
end VXA
/-! ===== END ===== -/
/-! ===== BEGIN a static call of a method with an exception table ===== -/
section VXS
variable {p : Program} {l : Launch} {e : Env} {R : Room} {s : State} {m : MethodId} {args : Array Value} {below : List Frame} {meth : Method} {c : Code} {T : State} {H : Heap} {locs : List Loc} {cells slots : Nat}
abbrev vx_CSW (R : Room) (s : State) (args : Array Value) (own : String) (index : Nat) (y : MethodName) (bytes : ByteArray) (maxL : Nat) (ret : Option FieldType) (hh : List (Nat × Nat × Nat × Nat)) (ws : List Cond) (rm : Room) (mc ms n : Nat) : Prop :=
  (rm.cells = mc ∧ rm.slots = ms ∧ rm.frames + 1 ≤ R.frames ∧ 8 + (maxL + 11) + rm.locals ≤ R.locals ∧ (∀ w ∈ ws, ∀ (a' : Array Value) (U : State), s.WarmedH U.vm → w.before a' U = true) ∧ Cond.codeWith y bytes maxL ret hh ∈ ws) ∧
  (Cond.codeWith y bytes maxL ret hh).before args s = true ∧ (Cond.initialized y.cls).before args s = true ∧ (y.cls ≠ "java/lang/invoke/MethodHandle" ∧ y.cls ≠ "java/lang/invoke/VarHandle") ∧
  (∀ sig, parseMethodDescriptor y.desc = some sig → n = sig.parameters.length) ∧ (Cond.methodLink own index y).before args s = true ∧ (Cond.static y).before args s = true
theorem vx_cwSW {own : String} {index maxL mc ms : Nat} {y : MethodName} {bytes : ByteArray} {ret : Option FieldType} {hh : List (Nat × Nat × Nat × Nat)} {Ts ws ws' : List Cond} {rm : Room} (n : Nat) (ht : ∀ w ∈ Ts, w.before args s = true) (hT : GoodIn Ts (va_wsS own index y ws)) (hw : ws = Cond.codeWith y bytes maxL ret hh :: ws') (hrc : rm.cells = mc) (hrs : rm.slots = ms)
    (hd : y.cls ≠ "java/lang/invoke/MethodHandle" ∧ y.cls ≠ "java/lang/invoke/VarHandle" ∧ (parseMethodDescriptor y.desc).map (fun d => d.parameters.length) = some n) (hR : rm.frames + 1 ≤ R.frames ∧ 8 + (maxL + 11) + rm.locals ≤ R.locals) :
    vx_CSW R s args own index y bytes maxL ret hh ws rm mc ms n := by
  have ok : ∀ w ∈ va_wsS own index y ws, w.before args s = true := fun w h => ht w (hT w h).1
  have hG : GoodIn Ts ws := fun w h => hT w (by unfold va_wsS; exact List.mem_append_right _ h)
  have hc : Cond.codeWith y bytes maxL ret hh ∈ ws := by rw [hw]; exact List.mem_cons_self
  refine ⟨⟨hrc, hrs, hR.1, hR.2, pay_in ht hG, hc⟩, ht _ (hG _ hc).1, ok _ (by simp [va_wsS]), ⟨hd.1, hd.2.1⟩, fun sig h => ?_, ok _ (by simp [va_wsS]), ok _ (by simp [va_wsS])⟩
  have h2 := hd.2.2
  rw [h] at h2
  exact (Option.some.inj h2).symm
theorem vx_callSW (X : Stand p l e R s m args below meth c T locs cells slots) (hexec : p.tables.exec = Jvm.exec) {own : String} {index : Nat} {y : MethodName} {bytes : ByteArray} {maxL : Nat} {ret : Option FieldType} {hh : List (Nat × Nat × Nat × Nat)}
    (hown : s.vm.findClass own = some m.cls) (hlink : (Cond.methodLink own index y).before args s = true) (hstat : (Cond.static y).before args s = true) (hinit : (Cond.initialized y.cls).before args s = true)
    (hcode : (Cond.codeWith y bytes maxL ret hh).before args s = true) (hy : y.cls ≠ "java/lang/invoke/MethodHandle" ∧ y.cls ≠ "java/lang/invoke/VarHandle")
    {W9 : Nat} {Pre : Pt → Array Value → Prop} {Post : Pt → Array Value → Option Value → Pt → Prop} (hK : Back l R p e below s args y 3 W9 Pre Post)
    {g : JFrame} (hg : g.method = m) (hsize : g.locals.size = c.maxLocals) {argsL rest : List Value} (hlen : ∀ sig, parseMethodDescriptor y.desc = some sig → argsL.length = sig.parameters.length)
    (hstack : g.stack = argsL.reverse ++ rest) (hW : 2 * g.monitorRoom + (rest.map fun v => v.category).sum ≤ W9) (hdg : decode c.code g.pc = .ok (.invokestatic index, 3))
    (hpre : ∀ vm₁, s.WarmedH vm₁ → Pre ⟨T.setVm vm₁, locs, cells, slots⟩ argsL.toArray) :
    ∃ (v : Option Value) (vm₁ : Vm) (B : Pt), s.WarmedH vm₁ ∧ Stand p l e R s m args below meth c B.U B.locs B.cells B.slots ∧ Post ⟨T.setVm vm₁, locs, cells, slots⟩ argsL.toArray v B ∧
      ∀ target, Steps p.tables e below (B.U.setTop { g with pc := g.pc + 3, stack := v.toList ++ rest }) target → Steps p.tables e below (T.setTop g) target := by
  obtain ⟨mk, methM, cM, hnamed, hmethM, -, -, -, -, -, -, hsigM⟩ := Cond.codeWith_spec hcode
  have hstatic : methM.isStatic = true := Cond.static_spec hnamed hmethM hstat
  obtain ⟨kP, hkP, -⟩ := className_of_methodNamed hnamed
  have hinitP : kP.init = .initialized := Cond.initialized_spec (findClass_of_methodNamed hnamed) hkP hinit
  obtain ⟨vm₁, X₁, hstep₁⟩ := X.invokestatic hexec hown hlink hnamed hmethM hstatic hkP hinitP hy (g := g) hg (argsL := argsL) (rest := rest) (hlen _ hsigM) hstack hdg
  obtain ⟨v, B, X', hpost, hsteps⟩ := hK m meth c ⟨T.setVm vm₁, locs, cells, slots⟩ { g with stack := rest } (.invokestatic index) mk argsL.toArray X₁ hg hsize hdg hW (X₁.named hnamed) (hpre vm₁ X₁.warmed)
  exact ⟨v, vm₁, B, X₁.warmed, X', hpost, fun target h => hstep₁ _ fun acts => by rw [doInvoke_state]; exact hsteps.trans h⟩
theorem vx_runSW {y : MethodName} {bytes cc : ByteArray} {maxL nL mc ms n index : Nat} {ret : Option FieldType} {hh : List (Nat × Nat × Nat × Nat)} {ws : List Cond} {rm : Room} {Pc : Array Value → State → Prop} {Qc : Array Value → State → Outcome → State → Prop} {free : Addr → Prop} {Ts : List Cond} {own : String} {As rest : List Value} {g : JFrame}
    (S : CallFix p m c cc nL s args Ts own) (hM : Met l y ws rm Pc Qc mc ms free) (cw : vx_CSW R s args own index y bytes maxL ret hh ws rm mc ms n) (hp : PreS s H Pc As)
    (hg : g.method = m) (hn : As.length = n) (hsize : g.locals.size = nL) (hstack : g.stack = As.reverse ++ rest) (hW : 2 * g.monitorRoom + (rest.map fun v => v.category).sum ≤ 8) (hdg : decode cc g.pc = .ok (.invokestatic index, 3)) (hf : cells + mc ≤ R.cells ∧ slots + ms ≤ R.slots) :
    va_Run p l e R s m args below meth c H locs cells slots mc ms g rest (Qc As.toArray) (free) := by
  obtain ⟨⟨hrc, hrs, hfr, hlo, hws, hcw⟩, hcode, hini, hy, hlen, hl, hstt⟩ := cw
  have hK : Back l R p e below s args y 3 8 (PreOf R mc ms Pc) (PostOf Qc mc ms free) := va_backW (hh := hh) (bytes := bytes) (maxL := maxL) (ret := ret) hM hp.1 hrc hrs hfr hlo hws hcw (fun a' U hW => word_at hW (Or.inl (by first | rfl | simp [Cond.onTables, Cond.keeps, Cond.steady])) hini)
  obtain ⟨hx, hb, hml, ho, -⟩ := S
  intro T hT X
  obtain ⟨v, vm₁, ⟨U', l2, c2, s2⟩, hW₁, X', ⟨g', mk, t, L, e1, e2, hq, h1, hL, h2, h3⟩, st⟩ := vx_callSW X hx (hh := hh) (bytes := bytes) (maxL := maxL) (ret := ret) ho hl hstt hini hcode hy hK hg (hsize.trans hml.symm) (argsL := As) (rest := rest) (fun sig h => hn.trans (hlen sig h)) hstack hW (by rw [hb]; exact hdg)
    (fun vm₁ hW₁ => ⟨hf.1, hf.2, hp.2 (T.setVm vm₁) hT hW₁⟩)
  dsimp only [Pt.U, Pt.locs, Pt.cells, Pt.slots] at X' e1 e2 h1 h2 h3 st
  subst h1; subst h2; subst h3
  exact ⟨v, (T.setVm vm₁).calling g' mk As.toArray, t, U', L, hT, X', hL, e1, e2, hq, st⟩
/-- not caught here, past rows that name other classes: it goes on to the caller -/
theorem vx_outP {p : Program} {l : Launch} {e : Env} {R : Room} {s : State} {m : MethodId} {args : Array Value} {below : List Frame} {meth : Method} {c : Code} {H : Heap} {locs : List Loc} {cells slots : Nat} {free : Addr → Prop} {ls : Array Slot} {rest : List Value} {Qc : Array Value → State → Outcome → State → Prop} {XC : String → State → State → Prop}
    {pc : Nat} {own E : String} {ce : Cell} {q : Addr} {mc ms : Nat} (hown : s.vm.findClass own = some m.cls) (hlocks : meth.locks = false)
    (hpass : ∀ z ∈ c.exceptionTable.toList, covers z pc = false ∨ (z.catchType ≠ 0 ∧ ∃ nm : String, (Cond.classLink own z.catchType nm).before args s = true ∧ va_Nc E nm s)) (hcell : H[q]? = some ce) (hv : ce.vm = .none) (hcl : s.vm.findClass E = some ce.cls)
    (hx : ∀ t : State, t.heap = H → s.vm.Alike t.vm → XC E s t) (hf : ∀ z ∈ locs, free z.base) (hc : cells ≤ mc) (hs : slots ≤ ms) :
    vx_W p l e R s m args below meth c H locs cells slots (vx_MQ below Qc XC args s mc ms free) (F0 m pc ls rest) q := by
  intro T hT X
  have hpl : e.platform.magicAccessors = ({} : Platform).magicAccessors := by rw [X.admits.platform]
  obtain ⟨vm', hW', X', st⟩ := X.outThrough hlocks q (g := F0 m pc ls rest) rfl rfl rfl (cell := ce) (by rw [hT]; exact hcell) (by rw [hv]; rfl)
    (by obtain ⟨k9, h9, -⟩ := Vm.findClass_spec hcl; exact ⟨k9, h9⟩) (fun z hz => by
      rcases hpass z hz with h | ⟨hz0, nm, hl1, hn1⟩
      · exact Or.inl h
      · obtain ⟨c6, hc6, hcl6⟩ := Cond.classLink_spec hown hl1 e.platform hpl
        obtain ⟨a8, b8, h1, h2, h3⟩ := hn1
        cases Option.some.inj (h1.symm.trans hcl)
        cases Option.some.inj (h2.symm.trans hc6)
        exact Or.inr ⟨hz0, _, hcl6, h3⟩)
  obtain ⟨g₀, hfr⟩ := X'.frames_eq
  have hcell9 : ((T.setVm vm').setFrames (.throwing q :: below)).heap[q]? = some ce := by
    show T.heap[q]? = some ce
    rw [hT]; exact hcell
  have hend : Ended ((T.setVm vm').setFrames (.throwing q :: below)) below (.threw q) := State.frames_setFrames _ (State.cur_lt_of_frames hfr)
  refine ⟨(T.setVm vm').setFrames (.throwing q :: below), ?_, .threw q, X'.here.running, hend, Or.inr ⟨q, rfl, E, ce, locs, hx _ hT (X'.ends _).1.alike, hcell9, hv, hcl, (X'.ends _).1, (X'.ends _).2.mono hc hs, hf⟩⟩
  rw [X.pushThrowing_eq]
  exact st
/-- a thing of a world lies in the heap -/
theorem vx_lt {D : va_G} {cl : List vw_C} {ws : va_W} {H1 : Heap} (h : va_P D cl ws H1) {k : Nat} {q : Nat × va_E} (hk : ws[k]? = some q) : q.1 < H1.size := (h k q hk).lt
end VXS
/-! ===== END ===== -/
/-! ===== BEGIN methods with a table of their own: called by a name, returning or throwing ===== -/
section VXH
/-! vx_backW, vx_callVX, vx_callSX, vx_callVW, vx_runVW, vx_runVX, vx_runSX, vx_ofWH follow the same proofs as their sisters above (Free/Laws.lean, Shelf42/LK1.lean); vx_outP calls Shelf42/NT130.lean (outThrough). -/
section
variable {l : Launch} {R : Room} {p : Program} {e : Env} {below : List Frame} {s : State} {sargs : Array Value} {y : MethodName} {len W9 : Nat}
theorem vx_backW {ws : List Cond} {rm : Room} {Pc : Array Value → State → Prop} {Qc : Array Value → State → Outcome → State → Prop} {XC : String → State → State → Prop} {mc ms : Nat} {free : Addr → Prop} {bytes : ByteArray} {maxL : Nat} {ret : Option FieldType} {hh : List (Nat × Nat × Nat × Nat)}
    (hM : vx_Met l y ws rm Pc Qc XC mc ms free) (hblind : FrameBlind Pc) (hrc : rm.cells = mc) (hrs : rm.slots = ms)
    (hframes : rm.frames + 1 ≤ R.frames) (hlocals : W9 + (maxL + 11) + rm.locals ≤ R.locals)
    (hws : ∀ w ∈ ws, ∀ a' U, s.WarmedH U.vm → w.before a' U = true) (hcode : Cond.codeWith y bytes maxL ret hh ∈ ws) (hinit : ∀ a' U, s.WarmedH U.vm → (Cond.initialized y.cls).before a' U = true) :
    vx_Back l R p e below s sargs y len W9 (PreOf R mc ms Pc) (PostOf Qc mc ms free) (vx_Post XC mc ms free) := by
  intro m meth c A g ig mk a X hg hsize hdg hW hn hp
  have h1 : (headSpec ws rm).pre.before a A.U = true := atoms_intro fun w hw => hws w hw _ _ X.warmed
  have h2 : (Cond.codeWith y bytes maxL ret hh).before a A.U = true := hws _ hcode _ _ X.warmed
  have h3 : (Cond.initialized y.cls).before a A.U = true := hinit _ _ X.warmed
  have h4 : A.cells + (headSpec ws rm).room.cells ≤ R.cells := by rw [show (headSpec ws rm).room.cells = mc from hrc]; exact hp.1
  have h5 : A.slots + (headSpec ws rm).room.slots ≤ R.slots := by rw [show (headSpec ws rm).room.slots = ms from hrs]; exact hp.2.1
  have hPc : Pc a (A.U.calling g mk a) := hblind _ _ _ _ hp.2.2
  obtain ⟨U, Ls, c0, s0⟩ := A
  dsimp only [Pt.U, Pt.locs, Pt.cells, Pt.slots] at h1 h2 h3 h4 h5 X hn hPc ⊢
  obtain ⟨m9, methY, cY, hn9, hmY, hcY, -, hlY, -⟩ := Cond.codeWith_spec h2
  cases Option.some.inj (hn9.symm.trans hn)
  obtain ⟨kY, hkY, -⟩ := className_of_methodNamed hn
  have hinitY : kY.init = .initialized := Cond.initialized_spec (findClass_of_methodNamed hn) hkY h3
  have h : At U g.method c below := by rw [hg]; exact X.here
  have hlocals9 : W9 + (maxL + 11) + (headSpec ws rm).room.locals ≤ R.locals := hlocals
  have happ : (headSpec ws rm).appliesLoose y e.platform (U.calling g mk a) = true :=
    Spec.appliesLoose_calling (g := g) h hdg hn hkY hinitY
      (X.room_calling (g := g) (R' := (headSpec ws rm).room) hsize hmY hcY hframes (by rw [hlY]; omega) h4 h5) h1
  obtain ⟨mid, hmid⟩ := h.above
  have hfr : (U.setTop g).frames = (.java g :: mid) ++ below := by rw [State.frames_setTop' g h.top, hmid]; rfl
  obtain ⟨o, s₂, hsteps, -, hend, hq⟩ := Steps.callFree hM p X.admits X.cas X.clock (acts := []) hfr happ hPc trivial
  have hq' : vx_Q Qc XC mc ms free a (U.calling g mk a) o s₂ := hq
  rw [State.frames_setTop' g h.top] at hend
  obtain ⟨g₀, hg0⟩ := Option.isSome_iff_exists.mp h.top
  obtain ⟨r, hr⟩ := State.topJava?_eq_some.mp hg0
  have hr' : (({ U with heap := s₂.heap, slotsUsed := s₂.slotsUsed } : State).setVm s₂.vm).frames = .java g₀ :: r := hr
  rcases hq' with ⟨hqc, L, hfe, hL⟩ | ⟨q, rfl, E, ce, L, hx, hce, hcv, hcl, hW₂, hsm, hL⟩
  · obtain ⟨⟨v, rfl⟩, hW₂, e2, q2, q3, q4, q5, q6⟩ := id hfe
    have e3 : s₂ = ({ (U.calling g mk a).setFrames s₂.frames with heap := s₂.heap, slotsUsed := s₂.slotsUsed } : State).setVm s₂.vm := by
      have : s₂ = ({ s₂ with vm := (U.calling g mk a).vm } : State).setVm s₂.vm := rfl
      rw [e2] at this
      exact this
    obtain ⟨c₂, i₂, len₂, hc₂, hd₂, hf₂⟩ := hend
    have hW' : U.WarmedH s₂.vm := hW₂
    have hcc : c₂ = c := by
      have h1 : s₂.code? g.method = U.code? g.method := by
        rw [State.code?_eq, State.code?_eq, hW'.alike.method?]
      exact Option.some.inj (hc₂.symm.trans (h1.trans h.code))
    subst hcc
    have hlen : len₂ = len := by rw [hdg] at hd₂; cases hd₂; rfl
    subst hlen
    have hs₂ : s₂ = (({ U with heap := s₂.heap, slotsUsed := s₂.slotsUsed } : State).setVm s₂.vm).setTop { g with pc := g.pc + len₂, stack := v.toList ++ g.stack } := by
      refine e3.trans ?_
      rw [hf₂, State.calling_eq h.top, State.setFrames_setFrames, State.setTop_of_frames _ hr', hr]
      rfl
    have hsame : U.sameButNew ({ U with heap := s₂.heap, slotsUsed := s₂.slotsUsed } : State) L mc ms := by
      refine ⟨?_, q2, q3, q4, q5, q6⟩
      obtain ⟨t, ht, -⟩ := State.frames_cons hr
      show ({ U with heap := s₂.heap, slotsUsed := s₂.slotsUsed } : State) = { U.setFrames U.frames with heap := s₂.heap, slotsUsed := s₂.slotsUsed }
      rw [State.setFrames_self ht]
    subst hg
    refine Or.inl ⟨v, ⟨(({ U with heap := s₂.heap, slotsUsed := s₂.slotsUsed } : State).setVm s₂.vm), Ls ++ L, c0 + mc, s0 + ms⟩,
      ⟨X.admits, X.cas, X.clock, X.frames, X.room, X.hears, X.method, X.code, (X.here.setHeapUsed s₂.heap s₂.slotsUsed).setVm hW'.alike, X.tail, State.WarmedH.trans X.warmed hW', X.limits, X.bytes, X.same.trans (hsame.setVm s.vm)⟩,
      ⟨g, mk, s₂, L, rfl, rfl, hqc, rfl, hL, rfl, rfl⟩, ?_⟩
    show Steps p.tables e below _ ((({ U with heap := s₂.heap, slotsUsed := s₂.slotsUsed } : State).setVm s₂.vm).setTop { g with pc := g.pc + len₂, stack := v.toList ++ g.stack })
    rw [← hs₂]
    exact hsteps
  · obtain ⟨e2, q2, q3, q4, q5, q6⟩ := id hsm
    have e3 : s₂ = ({ (U.calling g mk a).setFrames s₂.frames with heap := s₂.heap, slotsUsed := s₂.slotsUsed } : State).setVm s₂.vm := by
      have : s₂ = ({ s₂ with vm := (U.calling g mk a).vm } : State).setVm s₂.vm := rfl
      rw [e2] at this
      exact this
    have hf₂ : s₂.frames = .throwing q :: .java g :: U.frames.tail := hend
    have hW' : U.WarmedH s₂.vm := hW₂
    have hs₂ : s₂ = ((({ U with heap := s₂.heap, slotsUsed := s₂.slotsUsed } : State).setVm s₂.vm).setTop g).pushFrame (.throwing q) := by
      refine e3.trans ?_
      rw [hf₂, State.calling_eq h.top, State.setFrames_setFrames, State.pushFrame, State.frames_setTop _ hr', State.setTop_of_frames _ hr', State.setFrames_setFrames, hr]
      rfl
    have hsame : U.sameButNew ({ U with heap := s₂.heap, slotsUsed := s₂.slotsUsed } : State) L mc ms := by
      refine ⟨?_, q2, q3, q4, q5, q6⟩
      obtain ⟨t, ht, -⟩ := State.frames_cons hr
      show ({ U with heap := s₂.heap, slotsUsed := s₂.slotsUsed } : State) = { U.setFrames U.frames with heap := s₂.heap, slotsUsed := s₂.slotsUsed }
      rw [State.setFrames_self ht]
    subst hg
    refine Or.inr ⟨q, ⟨(({ U with heap := s₂.heap, slotsUsed := s₂.slotsUsed } : State).setVm s₂.vm), Ls ++ L, c0 + mc, s0 + ms⟩,
      ⟨X.admits, X.cas, X.clock, X.frames, X.room, X.hears, X.method, X.code, (X.here.setHeapUsed s₂.heap s₂.slotsUsed).setVm hW'.alike, X.tail, State.WarmedH.trans X.warmed hW', X.limits, X.bytes, X.same.trans (hsame.setVm s.vm)⟩,
      ⟨g, mk, s₂, L, E, ce, rfl, rfl, hx, hce, hcv, hcl, rfl, hL, rfl, rfl⟩, ?_⟩
    show Steps p.tables e below _ (((({ U with heap := s₂.heap, slotsUsed := s₂.slotsUsed } : State).setVm s₂.vm).setTop g).pushFrame (.throwing q))
    rw [← hs₂]
    exact hsteps
end
variable {p : Program} {l : Launch} {e : Env} {R : Room} {s : State} {m : MethodId} {args : Array Value} {below : List Frame} {meth : Method} {c : Code} {T : State} {H : Heap} {locs : List Loc} {cells slots : Nat}
theorem vx_callVX (X : Stand p l e R s m args below meth c T locs cells slots) (hexec : p.tables.exec = Jvm.exec) {own C : String} {index : Nat} {y : MethodName} {bytes : ByteArray} {maxL : Nat} {ret : Option FieldType} {hh : List (Nat × Nat × Nat × Nat)}
    (hown : s.vm.findClass own = some m.cls) (hlink : (Cond.methodLink own index y).before args s = true) (hinst : (Cond.instanceMethod y).before args s = true) (hsel : (Cond.selects C y y).before args s = true)
    (hcode : (Cond.codeWith y bytes maxL ret hh).before args s = true) (hy : y.cls ≠ "java/lang/invoke/MethodHandle" ∧ y.cls ≠ "java/lang/invoke/VarHandle")
    {W9 : Nat} {Pre : Pt → Array Value → Prop} {Post : Pt → Array Value → Option Value → Pt → Prop} {PostX : Pt → Array Value → Addr → Pt → Prop} (hK : vx_Back l R p e below s args y 3 W9 Pre Post PostX)
    {b : Addr} {cellB : Cell} (hcell : T.heap[b]? = some cellB) (hobj : cellB.vm.isStatics = false) (hcls : s.vm.findClass C = some cellB.cls)
    {g : JFrame} (hg : g.method = m) (hsize : g.locals.size = c.maxLocals) {argsL rest : List Value} (hlen : ∀ sig, parseMethodDescriptor y.desc = some sig → argsL.length = sig.parameters.length)
    (hstack : g.stack = argsL.reverse ++ .ref b :: rest) (hW : 2 * g.monitorRoom + (rest.map fun v => v.category).sum ≤ W9) (hdg : decode c.code g.pc = .ok (.invokevirtual index, 3))
    (hpre : ∀ vm₁, s.WarmedH vm₁ → Pre ⟨T.setVm vm₁, locs, cells, slots⟩ (Value.ref b :: argsL).toArray) :
    (∃ (v : Option Value) (vm₁ : Vm) (B : Pt), s.WarmedH vm₁ ∧ Stand p l e R s m args below meth c B.U B.locs B.cells B.slots ∧ Post ⟨T.setVm vm₁, locs, cells, slots⟩ (Value.ref b :: argsL).toArray v B ∧
      ∀ target, Steps p.tables e below (B.U.setTop { g with pc := g.pc + 3, stack := v.toList ++ rest }) target → Steps p.tables e below (T.setTop g) target) ∨
    (∃ (q : Addr) (vm₁ : Vm) (B : Pt), s.WarmedH vm₁ ∧ Stand p l e R s m args below meth c B.U B.locs B.cells B.slots ∧ PostX ⟨T.setVm vm₁, locs, cells, slots⟩ (Value.ref b :: argsL).toArray q B ∧
      Steps p.tables e below (T.setTop g) ((B.U.setTop { g with stack := rest }).pushFrame (.throwing q))) := by
  obtain ⟨mk, methM, hnamed, hmethM, hstM, habM⟩ := Cond.instanceMethod_spec hinst
  obtain ⟨m8, methM', cM, hn8, hmethM', -, -, -, -, -, -, hsigM⟩ := Cond.codeWith_spec hcode
  cases Option.some.inj (hn8.symm.trans hnamed)
  cases hmethM.symm.trans hmethM'
  obtain ⟨c2, r2, m2, q1, q2, q3, q4, kP, hkP, hkPi⟩ := Cond.selects_spec hsel
  cases hcls.symm.trans q1
  cases (State.methodFound?_of_named hnamed hy).symm.trans q2
  cases hnamed.symm.trans q3
  have hselP : selectMethod e.platform s.vm cellB.cls mk = .method mk := by rw [Launch.admits_selectMethod X.admits]; exact q4
  obtain ⟨vm₁, X₁, hstep₁⟩ := X.invokevirtual hexec hown hlink hnamed hmethM hstM hkP hkPi hy (a := b) (cell := cellB) hcell
    (fun z h => by rw [h] at hobj; cases hobj) hselP hmethM habM hkP hkPi (g := g) hg (argsL := argsL) (rest := rest) (hlen _ hsigM) hstack hdg
  rcases hK m meth c ⟨T.setVm vm₁, locs, cells, slots⟩ { g with stack := rest } (.invokevirtual index) mk (Value.ref b :: argsL).toArray X₁ hg hsize hdg hW (X₁.named hnamed) (hpre vm₁ X₁.warmed) with ⟨v, B, X', hpost, hsteps⟩ | ⟨q, B, X', hpost, hsteps⟩
  · exact Or.inl ⟨v, vm₁, B, X₁.warmed, X', hpost, fun target h => hstep₁ _ fun acts => by rw [doInvoke_state]; exact hsteps.trans h⟩
  · exact Or.inr ⟨q, vm₁, B, X₁.warmed, X', hpost, hstep₁ _ fun acts => by rw [doInvoke_state]; exact hsteps⟩
theorem vx_callSX (X : Stand p l e R s m args below meth c T locs cells slots) (hexec : p.tables.exec = Jvm.exec) {own : String} {index : Nat} {y : MethodName} {bytes : ByteArray} {maxL : Nat} {ret : Option FieldType} {hh : List (Nat × Nat × Nat × Nat)}
    (hown : s.vm.findClass own = some m.cls) (hlink : (Cond.methodLink own index y).before args s = true) (hstat : (Cond.static y).before args s = true) (hinit : (Cond.initialized y.cls).before args s = true)
    (hcode : (Cond.codeWith y bytes maxL ret hh).before args s = true) (hy : y.cls ≠ "java/lang/invoke/MethodHandle" ∧ y.cls ≠ "java/lang/invoke/VarHandle")
    {W9 : Nat} {Pre : Pt → Array Value → Prop} {Post : Pt → Array Value → Option Value → Pt → Prop} {PostX : Pt → Array Value → Addr → Pt → Prop} (hK : vx_Back l R p e below s args y 3 W9 Pre Post PostX)
    {g : JFrame} (hg : g.method = m) (hsize : g.locals.size = c.maxLocals) {argsL rest : List Value} (hlen : ∀ sig, parseMethodDescriptor y.desc = some sig → argsL.length = sig.parameters.length)
    (hstack : g.stack = argsL.reverse ++ rest) (hW : 2 * g.monitorRoom + (rest.map fun v => v.category).sum ≤ W9) (hdg : decode c.code g.pc = .ok (.invokestatic index, 3))
    (hpre : ∀ vm₁, s.WarmedH vm₁ → Pre ⟨T.setVm vm₁, locs, cells, slots⟩ argsL.toArray) :
    (∃ (v : Option Value) (vm₁ : Vm) (B : Pt), s.WarmedH vm₁ ∧ Stand p l e R s m args below meth c B.U B.locs B.cells B.slots ∧ Post ⟨T.setVm vm₁, locs, cells, slots⟩ argsL.toArray v B ∧
      ∀ target, Steps p.tables e below (B.U.setTop { g with pc := g.pc + 3, stack := v.toList ++ rest }) target → Steps p.tables e below (T.setTop g) target) ∨
    (∃ (q : Addr) (vm₁ : Vm) (B : Pt), s.WarmedH vm₁ ∧ Stand p l e R s m args below meth c B.U B.locs B.cells B.slots ∧ PostX ⟨T.setVm vm₁, locs, cells, slots⟩ argsL.toArray q B ∧
      Steps p.tables e below (T.setTop g) ((B.U.setTop { g with stack := rest }).pushFrame (.throwing q))) := by
  obtain ⟨mk, methM, cM, hnamed, hmethM, -, -, -, -, -, -, hsigM⟩ := Cond.codeWith_spec hcode
  have hstatic : methM.isStatic = true := Cond.static_spec hnamed hmethM hstat
  obtain ⟨kP, hkP, -⟩ := className_of_methodNamed hnamed
  have hinitP : kP.init = .initialized := Cond.initialized_spec (findClass_of_methodNamed hnamed) hkP hinit
  obtain ⟨vm₁, X₁, hstep₁⟩ := X.invokestatic hexec hown hlink hnamed hmethM hstatic hkP hinitP hy (g := g) hg (argsL := argsL) (rest := rest) (hlen _ hsigM) hstack hdg
  rcases hK m meth c ⟨T.setVm vm₁, locs, cells, slots⟩ { g with stack := rest } (.invokestatic index) mk argsL.toArray X₁ hg hsize hdg hW (X₁.named hnamed) (hpre vm₁ X₁.warmed) with ⟨v, B, X', hpost, hsteps⟩ | ⟨q, B, X', hpost, hsteps⟩
  · exact Or.inl ⟨v, vm₁, B, X₁.warmed, X', hpost, fun target h => hstep₁ _ fun acts => by rw [doInvoke_state]; exact hsteps.trans h⟩
  · exact Or.inr ⟨q, vm₁, B, X₁.warmed, X', hpost, hstep₁ _ fun acts => by rw [doInvoke_state]; exact hsteps⟩
theorem vx_callVW (X : Stand p l e R s m args below meth c T locs cells slots) (hexec : p.tables.exec = Jvm.exec) {own C : String} {index : Nat} {y : MethodName} {bytes : ByteArray} {maxL : Nat} {ret : Option FieldType} {hh : List (Nat × Nat × Nat × Nat)}
    (hown : s.vm.findClass own = some m.cls) (hlink : (Cond.methodLink own index y).before args s = true) (hinst : (Cond.instanceMethod y).before args s = true) (hsel : (Cond.selects C y y).before args s = true)
    (hcode : (Cond.codeWith y bytes maxL ret hh).before args s = true) (hy : y.cls ≠ "java/lang/invoke/MethodHandle" ∧ y.cls ≠ "java/lang/invoke/VarHandle")
    {W9 : Nat} {Pre : Pt → Array Value → Prop} {Post : Pt → Array Value → Option Value → Pt → Prop} (hK : Back l R p e below s args y 3 W9 Pre Post)
    {b : Addr} {cellB : Cell} (hcell : T.heap[b]? = some cellB) (hobj : cellB.vm.isStatics = false) (hcls : s.vm.findClass C = some cellB.cls)
    {g : JFrame} (hg : g.method = m) (hsize : g.locals.size = c.maxLocals) {argsL rest : List Value} (hlen : ∀ sig, parseMethodDescriptor y.desc = some sig → argsL.length = sig.parameters.length)
    (hstack : g.stack = argsL.reverse ++ .ref b :: rest) (hW : 2 * g.monitorRoom + (rest.map fun v => v.category).sum ≤ W9) (hdg : decode c.code g.pc = .ok (.invokevirtual index, 3))
    (hpre : ∀ vm₁, s.WarmedH vm₁ → Pre ⟨T.setVm vm₁, locs, cells, slots⟩ (Value.ref b :: argsL).toArray) :
    ∃ (v : Option Value) (vm₁ : Vm) (B : Pt), s.WarmedH vm₁ ∧ Stand p l e R s m args below meth c B.U B.locs B.cells B.slots ∧ Post ⟨T.setVm vm₁, locs, cells, slots⟩ (Value.ref b :: argsL).toArray v B ∧
      ∀ target, Steps p.tables e below (B.U.setTop { g with pc := g.pc + 3, stack := v.toList ++ rest }) target → Steps p.tables e below (T.setTop g) target := by
  obtain ⟨mk, methM, hnamed, hmethM, hstM, habM⟩ := Cond.instanceMethod_spec hinst
  obtain ⟨m8, methM', cM, hn8, hmethM', -, -, -, -, -, -, hsigM⟩ := Cond.codeWith_spec hcode
  cases Option.some.inj (hn8.symm.trans hnamed)
  cases hmethM.symm.trans hmethM'
  obtain ⟨c2, r2, m2, q1, q2, q3, q4, kP, hkP, hkPi⟩ := Cond.selects_spec hsel
  cases hcls.symm.trans q1
  cases (State.methodFound?_of_named hnamed hy).symm.trans q2
  cases hnamed.symm.trans q3
  have hselP : selectMethod e.platform s.vm cellB.cls mk = .method mk := by rw [Launch.admits_selectMethod X.admits]; exact q4
  obtain ⟨vm₁, X₁, hstep₁⟩ := X.invokevirtual hexec hown hlink hnamed hmethM hstM hkP hkPi hy (a := b) (cell := cellB) hcell
    (fun z h => by rw [h] at hobj; cases hobj) hselP hmethM habM hkP hkPi (g := g) hg (argsL := argsL) (rest := rest) (hlen _ hsigM) hstack hdg
  obtain ⟨v, B, X', hpost, hsteps⟩ := hK m meth c ⟨T.setVm vm₁, locs, cells, slots⟩ { g with stack := rest } (.invokevirtual index) mk (Value.ref b :: argsL).toArray X₁ hg hsize hdg hW (X₁.named hnamed) (hpre vm₁ X₁.warmed)
  exact ⟨v, vm₁, B, X₁.warmed, X', hpost, fun target h => hstep₁ _ fun acts => by rw [doInvoke_state]; exact hsteps.trans h⟩
abbrev vx_CVW (R : Room) (s : State) (args : Array Value) (own C : String) (index : Nat) (y : MethodName) (bytes : ByteArray) (maxL : Nat) (ret : Option FieldType) (hh : List (Nat × Nat × Nat × Nat)) (ws : List Cond) (rm : Room) (mc ms n : Nat) : Prop :=
  (rm.cells = mc ∧ rm.slots = ms ∧ rm.frames + 1 ≤ R.frames ∧ 8 + (maxL + 11) + rm.locals ≤ R.locals ∧ (∀ w ∈ ws, ∀ (a' : Array Value) (U : State), s.WarmedH U.vm → w.before a' U = true) ∧ Cond.codeWith y bytes maxL ret hh ∈ ws) ∧
  (Cond.codeWith y bytes maxL ret hh).before args s = true ∧ (Cond.initialized y.cls).before args s = true ∧ (y.cls ≠ "java/lang/invoke/MethodHandle" ∧ y.cls ≠ "java/lang/invoke/VarHandle") ∧
  (∀ sig, parseMethodDescriptor y.desc = some sig → n = sig.parameters.length) ∧ (Cond.methodLink own index y).before args s = true ∧ (Cond.instanceMethod y).before args s = true ∧ (Cond.selects C y y).before args s = true
theorem vx_cwVW {own C : String} {index maxL mc ms : Nat} {y : MethodName} {bytes : ByteArray} {ret : Option FieldType} {hh : List (Nat × Nat × Nat × Nat)} {Ts ws ws' : List Cond} {rm : Room} (n : Nat) (ht : ∀ w ∈ Ts, w.before args s = true) (hT : GoodIn Ts (wsV own index C y ws)) (hw : ws = Cond.codeWith y bytes maxL ret hh :: ws') (hrc : rm.cells = mc) (hrs : rm.slots = ms)
    (hd : y.cls = C ∧ y.cls ≠ "java/lang/invoke/MethodHandle" ∧ y.cls ≠ "java/lang/invoke/VarHandle" ∧ (parseMethodDescriptor y.desc).map (fun d => d.parameters.length) = some n) (hR : rm.frames + 1 ≤ R.frames ∧ 8 + (maxL + 11) + rm.locals ≤ R.locals) :
    vx_CVW R s args own C index y bytes maxL ret hh ws rm mc ms n := by
  obtain ⟨hC, hd⟩ := hd
  subst hC
  have ok : ∀ w ∈ wsV own index y.cls y ws, w.before args s = true := fun w h => ht w (hT w h).1
  have hG : GoodIn Ts ws := fun w h => hT w (by unfold wsV; exact List.mem_append_right _ h)
  have hc : Cond.codeWith y bytes maxL ret hh ∈ ws := by rw [hw]; exact List.mem_cons_self
  refine ⟨⟨hrc, hrs, hR.1, hR.2, pay_in ht hG, hc⟩, ht _ (hG _ hc).1, ok _ (by simp [wsV]), ⟨hd.1, hd.2.1⟩, fun sig h => ?_, ok _ (by simp [wsV]), ok _ (by simp [wsV]), ok _ (by simp [wsV])⟩
  have h2 := hd.2.2
  rw [h] at h2
  exact (Option.some.inj h2).symm
theorem vx_runVW {y : MethodName} {bytes cc : ByteArray} {maxL nL mc ms n index : Nat} {ret : Option FieldType} {hh : List (Nat × Nat × Nat × Nat)} {ws : List Cond} {rm : Room} {Pc : Array Value → State → Prop} {Qc : Array Value → State → Outcome → State → Prop} {free : Addr → Prop} {Ts : List Cond} {own C : String} {b : Addr} {As rest : List Value} {g : JFrame}
    (S : CallFix p m c cc nL s args Ts own) (hM : Met l y ws rm Pc Qc mc ms free) (cw : vx_CVW R s args own C index y bytes maxL ret hh ws rm mc ms n) (hp : PreV s H C b Pc As)
    (hg : g.method = m) (hn : As.length = n) (hsize : g.locals.size = nL) (hstack : g.stack = As.reverse ++ .ref b :: rest) (hW : 2 * g.monitorRoom + (rest.map fun v => v.category).sum ≤ 8) (hdg : decode cc g.pc = .ok (.invokevirtual index, 3)) (hf : cells + mc ≤ R.cells ∧ slots + ms ≤ R.slots) :
    va_Run p l e R s m args below meth c H locs cells slots mc ms g rest (Qc (Value.ref b :: As).toArray) free := by
  obtain ⟨⟨hrc, hrs, hfr, hlo, hws, hcw⟩, hcode, hini, hy, hlen, hl, hin, hse⟩ := cw
  have hK : Back l R p e below s args y 3 8 (PreOf R mc ms Pc) (PostOf Qc mc ms free) := va_backW (hh := hh) (bytes := bytes) (maxL := maxL) (ret := ret) hM hp.1 hrc hrs hfr hlo hws hcw (fun a' U hW => word_at hW (Or.inl (by first | rfl | simp [Cond.onTables, Cond.keeps, Cond.steady])) hini)
  obtain ⟨hx, hb, hml, ho, -⟩ := S
  obtain ⟨-, ⟨cellB, hcB, hoB, hclB⟩, hPc⟩ := hp
  intro T hT X
  obtain ⟨v, vm₁, ⟨U', l2, c2, s2⟩, hW₁, X', ⟨g', mk, t, L, e1, e2, hq, h1, hL, h2, h3⟩, st⟩ := vx_callVW X hx (C := C) (hh := hh) (bytes := bytes) (maxL := maxL) (ret := ret) ho hl hin hse hcode hy hK (by rw [hT]; exact hcB) hoB hclB hg (hsize.trans hml.symm) (argsL := As) (rest := rest) (fun sig h => hn.trans (hlen sig h)) hstack hW (by rw [hb]; exact hdg)
    (fun vm₁ hW₁ => ⟨hf.1, hf.2, hPc (T.setVm vm₁) hT hW₁⟩)
  dsimp only [Pt.U, Pt.locs, Pt.cells, Pt.slots] at X' e1 e2 h1 h2 h3 st
  subst h1; subst h2; subst h3
  exact ⟨v, (T.setVm vm₁).calling g' mk (Value.ref b :: As).toArray, t, U', L, hT, X', hL, e1, e2, hq, st⟩
section
variable {y : MethodName} {bytes cc : ByteArray} {maxL nL mc ms n index : Nat} {ret : Option FieldType} {ws : List Cond} {rm : Room} {Pc : Array Value → State → Prop} {Qc : Array Value → State → Outcome → State → Prop} {XC : String → State → State → Prop} {free : Addr → Prop} {Ts : List Cond} {own C : String} {b : Addr} {As rest : List Value} {g : JFrame}
theorem vx_runVX {hh : List (Nat × Nat × Nat × Nat)} (S : CallFix p m c cc nL s args Ts own) (hM : vx_Met l y ws rm Pc Qc XC mc ms free) (cw : vx_CVW R s args own C index y bytes maxL ret hh ws rm mc ms n) (hp : PreV s H C b Pc As)
    (hg : g.method = m) (hn : As.length = n) (hsize : g.locals.size = nL) (hstack : g.stack = As.reverse ++ .ref b :: rest) (hW : 2 * g.monitorRoom + (rest.map fun v => v.category).sum ≤ 8) (hdg : decode cc g.pc = .ok (.invokevirtual index, 3)) (hf : cells + mc ≤ R.cells ∧ slots + ms ≤ R.slots) :
    vx_Run p l e R s m args below meth c H locs cells slots mc ms g rest (Qc (Value.ref b :: As).toArray) XC free := by
  obtain ⟨⟨hrc, hrs, hfr, hlo, hws, hcw⟩, hcode, hini, hy, hlen, hl, hin, hse⟩ := cw
  have hK : vx_Back l R p e below s args y 3 8 (PreOf R mc ms Pc) (PostOf Qc mc ms free) (vx_Post XC mc ms free) := vx_backW (hh := hh) (bytes := bytes) (maxL := maxL) (ret := ret) hM hp.1 hrc hrs hfr hlo hws hcw (fun a' U hW => word_at hW (Or.inl (by first | rfl | simp [Cond.onTables, Cond.keeps, Cond.steady])) hini)
  obtain ⟨hx, hb, hml, ho, -⟩ := S
  obtain ⟨-, ⟨cellB, hcB, hoB, hclB⟩, hPc⟩ := hp
  intro T hT X
  rcases vx_callVX X hx (C := C) (hh := hh) (bytes := bytes) (maxL := maxL) (ret := ret) ho hl hin hse hcode hy hK (by rw [hT]; exact hcB) hoB hclB hg (hsize.trans hml.symm) (argsL := As) (rest := rest) (fun sig h => hn.trans (hlen sig h)) hstack hW (by rw [hb]; exact hdg)
    (fun vm₁ hW₁ => ⟨hf.1, hf.2, hPc (T.setVm vm₁) hT hW₁⟩) with ⟨v, vm₁, ⟨U', l2, c2, s2⟩, hW₁, X', ⟨g', mk, t, L, e1, e2, hq, h1, hL, h2, h3⟩, st⟩ | ⟨q, vm₁, ⟨U', l2, c2, s2⟩, hW₁, X', ⟨g', mk, t, L, E, ce, e1, e2, hq, hce, hcv, hcl, h1, hL, h2, h3⟩, st⟩
  · dsimp only [Pt.U, Pt.locs, Pt.cells, Pt.slots] at X' e1 e2 h1 h2 h3 st
    subst h1; subst h2; subst h3
    exact Or.inl ⟨v, (T.setVm vm₁).calling g' mk (Value.ref b :: As).toArray, t, U', L, hT, X', hL, e1, e2, hq, st⟩
  · dsimp only [Pt.U, Pt.locs, Pt.cells, Pt.slots] at X' e1 e2 h1 h2 h3 st hcl
    subst h1; subst h2; subst h3
    exact Or.inr ⟨q, (T.setVm vm₁).calling g' mk (Value.ref b :: As).toArray, t, U', L, E, ce, hT, X', hL, e1, e2, hq, hce, hcv, vx_cls hW₁ hcl, st⟩
theorem vx_runSX {hh : List (Nat × Nat × Nat × Nat)} (S : CallFix p m c cc nL s args Ts own) (hM : vx_Met l y ws rm Pc Qc XC mc ms free) (cw : vx_CSW R s args own index y bytes maxL ret hh ws rm mc ms n) (hp : PreS s H Pc As)
    (hg : g.method = m) (hn : As.length = n) (hsize : g.locals.size = nL) (hstack : g.stack = As.reverse ++ rest) (hW : 2 * g.monitorRoom + (rest.map fun v => v.category).sum ≤ 8) (hdg : decode cc g.pc = .ok (.invokestatic index, 3)) (hf : cells + mc ≤ R.cells ∧ slots + ms ≤ R.slots) :
    vx_Run p l e R s m args below meth c H locs cells slots mc ms g rest (Qc As.toArray) XC free := by
  obtain ⟨⟨hrc, hrs, hfr, hlo, hws, hcw⟩, hcode, hini, hy, hlen, hl, hstt⟩ := cw
  have hK : vx_Back l R p e below s args y 3 8 (PreOf R mc ms Pc) (PostOf Qc mc ms free) (vx_Post XC mc ms free) := vx_backW (hh := hh) (bytes := bytes) (maxL := maxL) (ret := ret) hM hp.1 hrc hrs hfr hlo hws hcw (fun a' U hW => word_at hW (Or.inl (by first | rfl | simp [Cond.onTables, Cond.keeps, Cond.steady])) hini)
  obtain ⟨hx, hb, hml, ho, -⟩ := S
  intro T hT X
  rcases vx_callSX X hx (hh := hh) (bytes := bytes) (maxL := maxL) (ret := ret) ho hl hstt hini hcode hy hK hg (hsize.trans hml.symm) (argsL := As) (rest := rest) (fun sig h => hn.trans (hlen sig h)) hstack hW (by rw [hb]; exact hdg)
    (fun vm₁ hW₁ => ⟨hf.1, hf.2, hp.2 (T.setVm vm₁) hT hW₁⟩) with ⟨v, vm₁, ⟨U', l2, c2, s2⟩, hW₁, X', ⟨g', mk, t, L, e1, e2, hq, h1, hL, h2, h3⟩, st⟩ | ⟨q, vm₁, ⟨U', l2, c2, s2⟩, hW₁, X', ⟨g', mk, t, L, E, ce, e1, e2, hq, hce, hcv, hcl, h1, hL, h2, h3⟩, st⟩
  · dsimp only [Pt.U, Pt.locs, Pt.cells, Pt.slots] at X' e1 e2 h1 h2 h3 st
    subst h1; subst h2; subst h3
    exact Or.inl ⟨v, (T.setVm vm₁).calling g' mk As.toArray, t, U', L, hT, X', hL, e1, e2, hq, st⟩
  · dsimp only [Pt.U, Pt.locs, Pt.cells, Pt.slots] at X' e1 e2 h1 h2 h3 st hcl
    subst h1; subst h2; subst h3
    exact Or.inr ⟨q, (T.setVm vm₁).calling g' mk As.toArray, t, U', L, E, ce, hT, X', hL, e1, e2, hq, hce, hcv, vx_cls hW₁ hcl, st⟩
end
end VXH
theorem vx_ofWH {l : Launch} {y : MethodName} {ws ws' : List Cond} {rm : Room} {Pc : Array Value → State → Prop} {Qc : Array Value → State → Outcome → State → Prop} {XC : String → State → State → Prop} {mc ms : Nat} {free : Addr → Prop} {cc : ByteArray} {maxL : Nat} {ret : Option FieldType} {hh : List (Nat × Nat × Nat × Nat)}
    (hy : plainName y.cls = true) (hw : ws = Cond.codeWith y cc maxL ret hh :: ws')
    (body : ∀ p e s m args below meth c s₁, BodyLoose p l y (headSpec ws rm) cc maxL ret e s m args below meth c s₁ → c.maxLocals = maxL → Pc args s →
      W p l e (headSpec ws rm).room s m args below meth c s.heap [] 0 0 (vx_MQ below Qc XC args s mc ms free) (entryFrame m args maxL)) : vx_Met l y ws rm Pc Qc XC mc ms free := by
  refine MetFree.of_bodyS (code := cc) (maxLocals := maxL) (ret := ret) hy ?_ ?_
  · intro args s m h hn
    obtain ⟨m9, meth, c, hn9, h1, h2, h3, h4, -, h5, h6, -⟩ := Cond.codeWith_spec (atoms_spec (ws := ws) h _ (by rw [hw]; exact List.mem_cons_self))
    cases hn.symm.trans hn9
    exact ⟨meth, c, h1, h2, h3, h4, h5, h6⟩
  · intro p e s m args below meth c s₁ B hml hP _
    have hh0 : s₁.heap = s.heap := by rw [B.state]; rfl
    obtain ⟨t, a1, o, b1, b2, b3⟩ := body p e s m args below meth c s₁ B hml hP s₁ hh0 (Stand.of_body B)
    exact ⟨t, o, a1, b1, b2, b3⟩
/-! ===== END ===== -/
end
section
/-! ===== BEGIN printed: names, fields, word lists, decode rows ===== -/
def RX0 : String := "FairFolio$Pavilion"
def TX0 : u_T := fun k => match k with
  | 0 => ("FairFolio$Pavilion", "number", "I", true)
  | 1 => ("FairFolio$Pavilion", "room", "I", false)
  | 2 => ("FairFolio$Pavilion", "time", "I", false)
  | 3 => ("FairFolio$Pavilion", "isOpen", "Z", false)
  | 4 => ("FairFolio$Pavilion", "stock", "I", false)
  | _ => ("FairFolio$Pavilion", "demand", "I", false)
def tyX0 : Nat → FieldType := fun k => match k with
  | 0 => .int
  | 1 => .int
  | 2 => .int
  | 3 => .boolean
  | 4 => .int
  | _ => .int
abbrev wsX00 : List Cond := u_ws RX0 TX0 6
theorem nmX0 : ∀ a, a < 6 → ∀ b, b < 6 → a ≠ b → (TX0 a).2.1 ≠ (TX0 b).2.1 := by decide +kernel
theorem tyX0_ok : ∀ k, k < 6 → parseFieldDescriptor (TX0 k).2.2.1 = some (tyX0 k) := by decide +kernel
abbrev cX0_init : ByteArray := prog_2_method_1_code
def yX0_init : MethodName := ⟨RX0, "<init>", "(I)V"⟩
def RX1 : String := "FairFolio$Visitor"
def TX1 : u_T := fun k => match k with
  | 0 => ("FairFolio$Visitor", "plan", "Ljava/util/ArrayList;", true)
  | 1 => ("FairFolio$Visitor", "sent", "[I", true)
  | 2 => ("FairFolio$Visitor", "state", "I", false)
  | 3 => ("FairFolio$Visitor", "where", "I", false)
  | 4 => ("FairFolio$Visitor", "place", "I", false)
  | 5 => ("FairFolio$Visitor", "visitEnd", "I", false)
  | 6 => ("FairFolio$Visitor", "stamps", "I", false)
  | 7 => ("FairFolio$Visitor", "turnMinute", "I", false)
  | 8 => ("FairFolio$Visitor", "turnPavilion", "LFairFolio$Pavilion;", false)
  | _ => ("FairFolio$Visitor", "waitsByTurn", "Z", false)
def tyX1 : Nat → FieldType := fun k => match k with
  | 0 => .object "java/util/ArrayList"
  | 1 => .array .int
  | 2 => .int
  | 3 => .int
  | 4 => .int
  | 5 => .int
  | 6 => .int
  | 7 => .int
  | 8 => .object "FairFolio$Pavilion"
  | _ => .boolean
abbrev wsX10 : List Cond := u_ws RX1 TX1 10
theorem nmX1 : ∀ a, a < 10 → ∀ b, b < 10 → a ≠ b → (TX1 a).2.1 ≠ (TX1 b).2.1 := by decide +kernel
theorem tyX1_ok : ∀ k, k < 10 → parseFieldDescriptor (TX1 k).2.2.1 = some (tyX1 k) := by decide +kernel
abbrev cX1_init : ByteArray := prog_3_method_1_code
def yX1_init : MethodName := ⟨RX1, "<init>", "()V"⟩
def RX2 : String := "FairFolio"
def TX2 : u_T := fun k => match k with
  | 0 => ("FairFolio", "pavilions", "[LFairFolio$Pavilion;", true)
  | 1 => ("FairFolio", "visitors", "[LFairFolio$Visitor;", true)
  | _ => ("FairFolio", "now", "I", false)
def tyX2 : Nat → FieldType := fun k => match k with
  | 0 => .array (.object "FairFolio$Pavilion")
  | 1 => .array (.object "FairFolio$Visitor")
  | _ => .int
abbrev wsX20 : List Cond := u_ws RX2 TX2 3
theorem nmX2 : ∀ a, a < 3 → ∀ b, b < 3 → a ≠ b → (TX2 a).2.1 ≠ (TX2 b).2.1 := by decide +kernel
theorem tyX2_ok : ∀ k, k < 3 → parseFieldDescriptor (TX2 k).2.2.1 = some (tyX2 k) := by decide +kernel
abbrev cX2_init : ByteArray := prog_1_method_1_code
def yX2_init : MethodName := ⟨RX2, "<init>", "()V"⟩
abbrev cX2_setPavilion : ByteArray := prog_1_method_2_code
def yX2_setPavilion : MethodName := ⟨RX2, "setPavilion", "(III)V"⟩
abbrev cX2_open : ByteArray := prog_1_method_3_code
def yX2_open : MethodName := ⟨RX2, "open", "(IZ)I"⟩
abbrev cX2_plan : ByteArray := prog_1_method_4_code
def yX2_plan : MethodName := ⟨RX2, "plan", "(II)I"⟩
abbrev cX2_drop : ByteArray := prog_1_method_5_code
def yX2_drop : MethodName := ⟨RX2, "drop", "(II)I"⟩
abbrev cX2_ask : ByteArray := prog_1_method_6_code
def yX2_ask : MethodName := ⟨RX2, "ask", "(II)I"⟩
abbrev cX2_advance : ByteArray := prog_1_method_7_code
def yX2_advance : MethodName := ⟨RX2, "advance", "(I)I"⟩
abbrev cX2_send : ByteArray := prog_1_method_8_code
def yX2_send : MethodName := ⟨RX2, "send", "(II)Z"⟩
abbrev cX2_reprint : ByteArray := prog_1_method_9_code
def yX2_reprint : MethodName := ⟨RX2, "reprint", "(I)I"⟩
abbrev cX2_minute : ByteArray := prog_1_method_10_code
def yX2_minute : MethodName := ⟨RX2, "minute", "()I"⟩
abbrev cX2_stateOf : ByteArray := prog_1_method_11_code
def yX2_stateOf : MethodName := ⟨RX2, "stateOf", "(I)I"⟩
abbrev cX2_whereIs : ByteArray := prog_1_method_12_code
def yX2_whereIs : MethodName := ⟨RX2, "whereIs", "(I)I"⟩
abbrev cX2_placeOf : ByteArray := prog_1_method_13_code
def yX2_placeOf : MethodName := ⟨RX2, "placeOf", "(I)I"⟩
abbrev cX2_turnOf : ByteArray := prog_1_method_14_code
def yX2_turnOf : MethodName := ⟨RX2, "turnOf", "(I)I"⟩
abbrev cX2_stamps : ByteArray := prog_1_method_15_code
def yX2_stamps : MethodName := ⟨RX2, "stamps", "(I)I"⟩
abbrev cX2_queue : ByteArray := prog_1_method_16_code
def yX2_queue : MethodName := ⟨RX2, "queue", "(I)I"⟩
abbrev cX2_inside : ByteArray := prog_1_method_17_code
def yX2_inside : MethodName := ⟨RX2, "inside", "(I)I"⟩
abbrev cX2_stock : ByteArray := prog_1_method_18_code
def yX2_stock : MethodName := ⟨RX2, "stock", "(I)I"⟩
abbrev cX2_demand : ByteArray := prog_1_method_19_code
def yX2_demand : MethodName := ⟨RX2, "demand", "(I)I"⟩
abbrev cX2_sent : ByteArray := prog_1_method_20_code
def yX2_sent : MethodName := ⟨RX2, "sent", "(II)I"⟩
abbrev cX2_pavilionAt : ByteArray := prog_1_method_21_code
def yX2_pavilionAt : MethodName := ⟨RX2, "pavilionAt", "(I)LFairFolio$Pavilion;"⟩
abbrev cX2_visitorAt : ByteArray := prog_1_method_22_code
def yX2_visitorAt : MethodName := ⟨RX2, "visitorAt", "(I)LFairFolio$Visitor;"⟩
abbrev cX2_indexInPlan : ByteArray := prog_1_method_23_code
def yX2_indexInPlan : MethodName := ⟨RX2, "indexInPlan", "(LFairFolio$Visitor;LFairFolio$Pavilion;)I"⟩
abbrev cX2_hasStamp : ByteArray := prog_1_method_24_code
def yX2_hasStamp : MethodName := ⟨RX2, "hasStamp", "(LFairFolio$Visitor;LFairFolio$Pavilion;)Z"⟩
abbrev cX2_isAt : ByteArray := prog_1_method_25_code
def yX2_isAt : MethodName := ⟨RX2, "isAt", "(LFairFolio$Visitor;ILFairFolio$Pavilion;)Z"⟩
abbrev cX2_countAt : ByteArray := prog_1_method_26_code
def yX2_countAt : MethodName := ⟨RX2, "countAt", "(ILFairFolio$Pavilion;)I"⟩
abbrev cX2_firstFreeTurn : ByteArray := prog_1_method_27_code
def yX2_firstFreeTurn : MethodName := ⟨RX2, "firstFreeTurn", "(LFairFolio$Pavilion;)I"⟩
abbrev cX2_isTurnTaken : ByteArray := prog_1_method_28_code
def yX2_isTurnTaken : MethodName := ⟨RX2, "isTurnTaken", "(LFairFolio$Pavilion;I)Z"⟩
abbrev cX2_passMinute : ByteArray := prog_1_method_29_code
def yX2_passMinute : MethodName := ⟨RX2, "passMinute", "()V"⟩
abbrev cX2_endVisits : ByteArray := prog_1_method_30_code
def yX2_endVisits : MethodName := ⟨RX2, "endVisits", "()V"⟩
abbrev cX2_takeTurns : ByteArray := prog_1_method_31_code
def yX2_takeTurns : MethodName := ⟨RX2, "takeTurns", "()V"⟩
abbrev cX2_takeTurn : ByteArray := prog_1_method_32_code
def yX2_takeTurn : MethodName := ⟨RX2, "takeTurn", "(LFairFolio$Visitor;)V"⟩
abbrev cX2_followPlans : ByteArray := prog_1_method_33_code
def yX2_followPlans : MethodName := ⟨RX2, "followPlans", "()V"⟩
abbrev cX2_followPlan : ByteArray := prog_1_method_34_code
def yX2_followPlan : MethodName := ⟨RX2, "followPlan", "(LFairFolio$Visitor;)V"⟩
abbrev cX2_letIn : ByteArray := prog_1_method_35_code
def yX2_letIn : MethodName := ⟨RX2, "letIn", "()V"⟩
abbrev cX2_fillRoom : ByteArray := prog_1_method_36_code
def yX2_fillRoom : MethodName := ⟨RX2, "fillRoom", "(LFairFolio$Pavilion;)V"⟩
abbrev cX2_goInside : ByteArray := prog_1_method_37_code
def yX2_goInside : MethodName := ⟨RX2, "goInside", "(LFairFolio$Visitor;LFairFolio$Pavilion;)V"⟩
abbrev cX2_becomeIdle : ByteArray := prog_1_method_38_code
def yX2_becomeIdle : MethodName := ⟨RX2, "becomeIdle", "(LFairFolio$Visitor;)V"⟩
abbrev cX2_loseTurn : ByteArray := prog_1_method_39_code
def yX2_loseTurn : MethodName := ⟨RX2, "loseTurn", "(LFairFolio$Visitor;)V"⟩
abbrev cX2_firstInQueue : ByteArray := prog_1_method_40_code
def yX2_firstInQueue : MethodName := ⟨RX2, "firstInQueue", "(LFairFolio$Pavilion;)LFairFolio$Visitor;"⟩
abbrev cX2_countByTurn : ByteArray := prog_1_method_41_code
def yX2_countByTurn : MethodName := ⟨RX2, "countByTurn", "(LFairFolio$Pavilion;)I"⟩
abbrev cX2_joinQueue : ByteArray := prog_1_method_42_code
def yX2_joinQueue : MethodName := ⟨RX2, "joinQueue", "(LFairFolio$Visitor;LFairFolio$Pavilion;I)V"⟩
abbrev cX2_leaveQueue : ByteArray := prog_1_method_43_code
def yX2_leaveQueue : MethodName := ⟨RX2, "leaveQueue", "(LFairFolio$Visitor;)V"⟩
abbrev cX2_emptyQueue : ByteArray := prog_1_method_44_code
def yX2_emptyQueue : MethodName := ⟨RX2, "emptyQueue", "(LFairFolio$Pavilion;)I"⟩
def RX3 : String := "FairFolioModel"
def TX3 : u_T := fun k => match k with
  | 0 => ("FairFolioModel", "minute", "I", false)
  | 1 => ("FairFolioModel", "room", "[I", true)
  | 2 => ("FairFolioModel", "takes", "[I", true)
  | 3 => ("FairFolioModel", "isClosed", "[Z", true)
  | 4 => ("FairFolioModel", "queue", "[I", true)
  | 5 => ("FairFolioModel", "waiting", "[I", true)
  | 6 => ("FairFolioModel", "plan", "[I", true)
  | 7 => ("FairFolioModel", "planned", "[I", true)
  | 8 => ("FairFolioModel", "state", "[I", true)
  | 9 => ("FairFolioModel", "where", "[I", true)
  | 10 => ("FairFolioModel", "until", "[I", true)
  | 11 => ("FairFolioModel", "stamps", "[I", true)
  | 12 => ("FairFolioModel", "turn", "[I", true)
  | 13 => ("FairFolioModel", "turnFor", "[I", true)
  | 14 => ("FairFolioModel", "isByTurn", "[Z", true)
  | 15 => ("FairFolioModel", "stock", "[I", true)
  | 16 => ("FairFolioModel", "demand", "[I", true)
  | 17 => ("FairFolioModel", "sent", "[I", true)
  | _ => ("FairFolioModel", "thrown", "I", false)
def tyX3 : Nat → FieldType := fun k => match k with
  | 0 => .int
  | 1 => .array .int
  | 2 => .array .int
  | 3 => .array .boolean
  | 4 => .array .int
  | 5 => .array .int
  | 6 => .array .int
  | 7 => .array .int
  | 8 => .array .int
  | 9 => .array .int
  | 10 => .array .int
  | 11 => .array .int
  | 12 => .array .int
  | 13 => .array .int
  | 14 => .array .boolean
  | 15 => .array .int
  | 16 => .array .int
  | 17 => .array .int
  | _ => .int
abbrev wsX30 : List Cond := u_ws RX3 TX3 19
theorem nmX3 : ∀ a, a < 19 → ∀ b, b < 19 → a ≠ b → (TX3 a).2.1 ≠ (TX3 b).2.1 := by decide +kernel
theorem tyX3_ok : ∀ k, k < 19 → parseFieldDescriptor (TX3 k).2.2.1 = some (tyX3 k) := by decide +kernel
abbrev cX3_init : ByteArray := prog_5_method_1_code
def yX3_init : MethodName := ⟨RX3, "<init>", "()V"⟩
abbrev cX3_thrown : ByteArray := prog_5_method_2_code
def yX3_thrown : MethodName := ⟨RX3, "thrown", "()I"⟩
abbrev cX3_goes : ByteArray := prog_5_method_3_code
def yX3_goes : MethodName := ⟨RX3, "goes", "(ZZ)Z"⟩
abbrev cX3_isPavilion : ByteArray := prog_5_method_4_code
def yX3_isPavilion : MethodName := ⟨RX3, "isPavilion", "(I)Z"⟩
abbrev cX3_isVisitor : ByteArray := prog_5_method_5_code
def yX3_isVisitor : MethodName := ⟨RX3, "isVisitor", "(I)Z"⟩
abbrev cX3_puts : ByteArray := prog_5_method_6_code
def yX3_puts : MethodName := ⟨RX3, "puts", "(III)V"⟩
abbrev cX3_placeIn : ByteArray := prog_5_method_7_code
def yX3_placeIn : MethodName := ⟨RX3, "placeIn", "(II)I"⟩
abbrev cX3_leaves : ByteArray := prog_5_method_8_code
def yX3_leaves : MethodName := ⟨RX3, "leaves", "(I)V"⟩
abbrev cX3_loses : ByteArray := prog_5_method_9_code
def yX3_loses : MethodName := ⟨RX3, "loses", "(I)V"⟩
abbrev cX3_insideOf : ByteArray := prog_5_method_10_code
def yX3_insideOf : MethodName := ⟨RX3, "insideOf", "(I)I"⟩
abbrev cX3_setPavilion : ByteArray := prog_5_method_11_code
def yX3_setPavilion : MethodName := ⟨RX3, "setPavilion", "(III)V"⟩
abbrev cX3_open : ByteArray := prog_5_method_12_code
def yX3_open : MethodName := ⟨RX3, "open", "(IZ)I"⟩
abbrev cX3_placeInPlan : ByteArray := prog_5_method_13_code
def yX3_placeInPlan : MethodName := ⟨RX3, "placeInPlan", "(II)I"⟩
abbrev cX3_plan : ByteArray := prog_5_method_14_code
def yX3_plan : MethodName := ⟨RX3, "plan", "(II)I"⟩
abbrev cX3_drop : ByteArray := prog_5_method_15_code
def yX3_drop : MethodName := ⟨RX3, "drop", "(II)I"⟩
abbrev cX3_ask : ByteArray := prog_5_method_16_code
def yX3_ask : MethodName := ⟨RX3, "ask", "(II)I"⟩
abbrev cX3_comeOut : ByteArray := prog_5_method_17_code
def yX3_comeOut : MethodName := ⟨RX3, "comeOut", "()V"⟩
abbrev cX3_takeTurns : ByteArray := prog_5_method_18_code
def yX3_takeTurns : MethodName := ⟨RX3, "takeTurns", "()V"⟩
abbrev cX3_goOn : ByteArray := prog_5_method_19_code
def yX3_goOn : MethodName := ⟨RX3, "goOn", "(I)V"⟩
abbrev cX3_goIn : ByteArray := prog_5_method_20_code
def yX3_goIn : MethodName := ⟨RX3, "goIn", "(I)V"⟩
abbrev cX3_advance : ByteArray := prog_5_method_21_code
def yX3_advance : MethodName := ⟨RX3, "advance", "(I)I"⟩
abbrev cX3_send : ByteArray := prog_5_method_22_code
def yX3_send : MethodName := ⟨RX3, "send", "(II)Z"⟩
abbrev cX3_reprint : ByteArray := prog_5_method_23_code
def yX3_reprint : MethodName := ⟨RX3, "reprint", "(I)I"⟩
abbrev cX3_minute : ByteArray := prog_5_method_24_code
def yX3_minute : MethodName := ⟨RX3, "minute", "()I"⟩
abbrev cX3_stateOf : ByteArray := prog_5_method_25_code
def yX3_stateOf : MethodName := ⟨RX3, "stateOf", "(I)I"⟩
abbrev cX3_whereIs : ByteArray := prog_5_method_26_code
def yX3_whereIs : MethodName := ⟨RX3, "whereIs", "(I)I"⟩
abbrev cX3_placeOf : ByteArray := prog_5_method_27_code
def yX3_placeOf : MethodName := ⟨RX3, "placeOf", "(I)I"⟩
abbrev cX3_turnOf : ByteArray := prog_5_method_28_code
def yX3_turnOf : MethodName := ⟨RX3, "turnOf", "(I)I"⟩
abbrev cX3_stamps : ByteArray := prog_5_method_29_code
def yX3_stamps : MethodName := ⟨RX3, "stamps", "(I)I"⟩
abbrev cX3_queue : ByteArray := prog_5_method_30_code
def yX3_queue : MethodName := ⟨RX3, "queue", "(I)I"⟩
abbrev cX3_inside : ByteArray := prog_5_method_31_code
def yX3_inside : MethodName := ⟨RX3, "inside", "(I)I"⟩
abbrev cX3_stock : ByteArray := prog_5_method_32_code
def yX3_stock : MethodName := ⟨RX3, "stock", "(I)I"⟩
abbrev cX3_demand : ByteArray := prog_5_method_33_code
def yX3_demand : MethodName := ⟨RX3, "demand", "(I)I"⟩
abbrev cX3_sent : ByteArray := prog_5_method_34_code
def yX3_sent : MethodName := ⟨RX3, "sent", "(II)I"⟩
def RJx145de : String := "java/io/Serializable"
def TJx145de : u_T := fun k => match k with
  | _ => ("", "", "", false)
def tyJx145de : Nat → FieldType := fun k => match k with
  | _ => .int
abbrev wsJx145de0 : List Cond := u_ws RJx145de TJx145de 0
theorem nmJx145de : ∀ a, a < 0 → ∀ b, b < 0 → a ≠ b → (TJx145de a).2.1 ≠ (TJx145de b).2.1 := by decide +kernel
theorem tyJx145de_ok : ∀ k, k < 0 → parseFieldDescriptor (TJx145de k).2.2.1 = some (tyJx145de k) := by decide +kernel
def RJx8e188 : String := "java/lang/Cloneable"
def TJx8e188 : u_T := fun k => match k with
  | _ => ("", "", "", false)
def tyJx8e188 : Nat → FieldType := fun k => match k with
  | _ => .int
abbrev wsJx8e1880 : List Cond := u_ws RJx8e188 TJx8e188 0
theorem nmJx8e188 : ∀ a, a < 0 → ∀ b, b < 0 → a ≠ b → (TJx8e188 a).2.1 ≠ (TJx8e188 b).2.1 := by decide +kernel
theorem tyJx8e188_ok : ∀ k, k < 0 → parseFieldDescriptor (TJx8e188 k).2.2.1 = some (tyJx8e188 k) := by decide +kernel
def RJxab1ab : String := "java/lang/Iterable"
def TJxab1ab : u_T := fun k => match k with
  | _ => ("", "", "", false)
def tyJxab1ab : Nat → FieldType := fun k => match k with
  | _ => .int
abbrev wsJxab1ab0 : List Cond := u_ws RJxab1ab TJxab1ab 0
theorem nmJxab1ab : ∀ a, a < 0 → ∀ b, b < 0 → a ≠ b → (TJxab1ab a).2.1 ≠ (TJxab1ab b).2.1 := by decide +kernel
theorem tyJxab1ab_ok : ∀ k, k < 0 → parseFieldDescriptor (TJxab1ab k).2.2.1 = some (tyJxab1ab k) := by decide +kernel
def RJ9 : String := "java/lang/Math"
def TJ9 : u_T := fun k => match k with
  | _ => ("", "", "", false)
def tyJ9 : Nat → FieldType := fun k => match k with
  | _ => .int
abbrev wsJ90 : List Cond := u_ws RJ9 TJ9 0
theorem nmJ9 : ∀ a, a < 0 → ∀ b, b < 0 → a ≠ b → (TJ9 a).2.1 ≠ (TJ9 b).2.1 := by decide +kernel
theorem tyJ9_ok : ∀ k, k < 0 → parseFieldDescriptor (TJ9 k).2.2.1 = some (tyJ9 k) := by decide +kernel
abbrev cJ9_max_7cf53 : ByteArray := prog_13_method_65_code
def yJ9_max_7cf53 : MethodName := ⟨RJ9, "max", "(II)I"⟩
abbrev cJ9_min_7cf53 : ByteArray := prog_13_method_69_code
def yJ9_min_7cf53 : MethodName := ⟨RJ9, "min", "(II)I"⟩
def RJ0 : String := "java/lang/String"
def TJ0 : u_T := fun k => match k with
  | _ => ("", "", "", false)
def tyJ0 : Nat → FieldType := fun k => match k with
  | _ => .int
abbrev wsJ00 : List Cond := u_ws RJ0 TJ0 0
theorem nmJ0 : ∀ a, a < 0 → ∀ b, b < 0 → a ≠ b → (TJ0 a).2.1 ≠ (TJ0 b).2.1 := by decide +kernel
theorem tyJ0_ok : ∀ k, k < 0 → parseFieldDescriptor (TJ0 k).2.2.1 = some (tyJ0 k) := by decide +kernel
def RJ10 : String := "java/lang/System"
def TJ10 : u_T := fun k => match k with
  | _ => ("", "", "", false)
def tyJ10 : Nat → FieldType := fun k => match k with
  | _ => .int
abbrev wsJ100 : List Cond := u_ws RJ10 TJ10 0
theorem nmJ10 : ∀ a, a < 0 → ∀ b, b < 0 → a ≠ b → (TJ10 a).2.1 ≠ (TJ10 b).2.1 := by decide +kernel
theorem tyJ10_ok : ∀ k, k < 0 → parseFieldDescriptor (TJ10 k).2.2.1 = some (tyJ10 k) := by decide +kernel
def RJxa1e45 : String := "java/util/AbstractCollection"
def TJxa1e45 : u_T := fun k => match k with
  | _ => ("", "", "", false)
def tyJxa1e45 : Nat → FieldType := fun k => match k with
  | _ => .int
abbrev wsJxa1e450 : List Cond := u_ws RJxa1e45 TJxa1e45 0
theorem nmJxa1e45 : ∀ a, a < 0 → ∀ b, b < 0 → a ≠ b → (TJxa1e45 a).2.1 ≠ (TJxa1e45 b).2.1 := by decide +kernel
theorem tyJxa1e45_ok : ∀ k, k < 0 → parseFieldDescriptor (TJxa1e45 k).2.2.1 = some (tyJxa1e45 k) := by decide +kernel
abbrev cJxa1e45_init_da8c8 : ByteArray := prog_18_method_1_code
def yJxa1e45_init_da8c8 : MethodName := ⟨RJxa1e45, "<init>", "()V"⟩
def RJxc12de : String := "java/util/AbstractList"
def TJxc12de : u_T := fun k => match k with
  | _ => ("", "", "", false)
def tyJxc12de : Nat → FieldType := fun k => match k with
  | _ => .int
abbrev wsJxc12de0 : List Cond := u_ws RJxc12de TJxc12de 0
theorem nmJxc12de : ∀ a, a < 0 → ∀ b, b < 0 → a ≠ b → (TJxc12de a).2.1 ≠ (TJxc12de b).2.1 := by decide +kernel
theorem tyJxc12de_ok : ∀ k, k < 0 → parseFieldDescriptor (TJxc12de k).2.2.1 = some (tyJxc12de k) := by decide +kernel
abbrev cJxc12de_init_da8c8 : ByteArray := prog_19_method_1_code
def yJxc12de_init_da8c8 : MethodName := ⟨RJxc12de, "<init>", "()V"⟩
def RJx4a65c : String := "java/util/ArrayList"
def TJx4a65c : u_T := fun k => match k with
  | 0 => ("java/util/AbstractList", "modCount", "I", false)
  | 1 => ("java/util/ArrayList", "elementData", "[Ljava/lang/Object;", false)
  | _ => ("java/util/ArrayList", "size", "I", false)
def tyJx4a65c : Nat → FieldType := fun k => match k with
  | 0 => .int
  | 1 => .array (.object "java/lang/Object")
  | _ => .int
abbrev wsJx4a65c0 : List Cond := u_ws RJx4a65c TJx4a65c 3
theorem nmJx4a65c : ∀ a, a < 3 → ∀ b, b < 3 → a ≠ b → (TJx4a65c a).2.1 ≠ (TJx4a65c b).2.1 := by decide +kernel
theorem tyJx4a65c_ok : ∀ k, k < 3 → parseFieldDescriptor (TJx4a65c k).2.2.1 = some (tyJx4a65c k) := by decide +kernel
abbrev cJx4a65c_init_da8c8 : ByteArray := prog_20_method_2_code
def yJx4a65c_init_da8c8 : MethodName := ⟨RJx4a65c, "<init>", "()V"⟩
abbrev cJx4a65c_grow_92f84 : ByteArray := prog_20_method_6_code
def yJx4a65c_grow_92f84 : MethodName := ⟨RJx4a65c, "grow", "(I)[Ljava/lang/Object;"⟩
abbrev cJx4a65c_grow_d5877 : ByteArray := prog_20_method_7_code
def yJx4a65c_grow_d5877 : MethodName := ⟨RJx4a65c, "grow", "()[Ljava/lang/Object;"⟩
abbrev cJx4a65c_size_8abf5 : ByteArray := prog_20_method_8_code
def yJx4a65c_size_8abf5 : MethodName := ⟨RJx4a65c, "size", "()I"⟩
abbrev cJx4a65c_elementData_915e3 : ByteArray := prog_20_method_18_code
def yJx4a65c_elementData_915e3 : MethodName := ⟨RJx4a65c, "elementData", "(I)Ljava/lang/Object;"⟩
abbrev cJx4a65c_get_915e3 : ByteArray := prog_20_method_20_code
def yJx4a65c_get_915e3 : MethodName := ⟨RJx4a65c, "get", "(I)Ljava/lang/Object;"⟩
abbrev cJx4a65c_add_72be8 : ByteArray := prog_20_method_24_code
def yJx4a65c_add_72be8 : MethodName := ⟨RJx4a65c, "add", "(Ljava/lang/Object;[Ljava/lang/Object;I)V"⟩
abbrev cJx4a65c_add_9ea2d : ByteArray := prog_20_method_25_code
def yJx4a65c_add_9ea2d : MethodName := ⟨RJx4a65c, "add", "(Ljava/lang/Object;)Z"⟩
abbrev cJx4a65c_remove_915e3 : ByteArray := prog_20_method_29_code
def yJx4a65c_remove_915e3 : MethodName := ⟨RJx4a65c, "remove", "(I)Ljava/lang/Object;"⟩
abbrev cJx4a65c_fastRemove_b59b0 : ByteArray := prog_20_method_39_code
def yJx4a65c_fastRemove_b59b0 : MethodName := ⟨RJx4a65c, "fastRemove", "([Ljava/lang/Object;I)V"⟩
def RJ7 : String := "java/util/Arrays"
def TJ7 : u_T := fun k => match k with
  | _ => ("", "", "", false)
def tyJ7 : Nat → FieldType := fun k => match k with
  | _ => .int
abbrev wsJ70 : List Cond := u_ws RJ7 TJ7 0
theorem nmJ7 : ∀ a, a < 0 → ∀ b, b < 0 → a ≠ b → (TJ7 a).2.1 ≠ (TJ7 b).2.1 := by decide +kernel
theorem tyJ7_ok : ∀ k, k < 0 → parseFieldDescriptor (TJ7 k).2.2.1 = some (tyJ7 k) := by decide +kernel
abbrev cJ7_copyOf_1904c : ByteArray := prog_21_method_119_code
def yJ7_copyOf_1904c : MethodName := ⟨RJ7, "copyOf", "([Ljava/lang/Object;I)[Ljava/lang/Object;"⟩
abbrev cJ7_copyOf_6403c : ByteArray := prog_21_method_120_code
def yJ7_copyOf_6403c : MethodName := ⟨RJ7, "copyOf", "([Ljava/lang/Object;ILjava/lang/Class;)[Ljava/lang/Object;"⟩
def RJx5ef63 : String := "java/util/Collection"
def TJx5ef63 : u_T := fun k => match k with
  | _ => ("", "", "", false)
def tyJx5ef63 : Nat → FieldType := fun k => match k with
  | _ => .int
abbrev wsJx5ef630 : List Cond := u_ws RJx5ef63 TJx5ef63 0
theorem nmJx5ef63 : ∀ a, a < 0 → ∀ b, b < 0 → a ≠ b → (TJx5ef63 a).2.1 ≠ (TJx5ef63 b).2.1 := by decide +kernel
theorem tyJx5ef63_ok : ∀ k, k < 0 → parseFieldDescriptor (TJx5ef63 k).2.2.1 = some (tyJx5ef63 k) := by decide +kernel
def RJxbd725 : String := "java/util/List"
def TJxbd725 : u_T := fun k => match k with
  | _ => ("", "", "", false)
def tyJxbd725 : Nat → FieldType := fun k => match k with
  | _ => .int
abbrev wsJxbd7250 : List Cond := u_ws RJxbd725 TJxbd725 0
theorem nmJxbd725 : ∀ a, a < 0 → ∀ b, b < 0 → a ≠ b → (TJxbd725 a).2.1 ≠ (TJxbd725 b).2.1 := by decide +kernel
theorem tyJxbd725_ok : ∀ k, k < 0 → parseFieldDescriptor (TJxbd725 k).2.2.1 = some (tyJxbd725 k) := by decide +kernel
def RJ15 : String := "java/util/Objects"
def TJ15 : u_T := fun k => match k with
  | _ => ("", "", "", false)
def tyJ15 : Nat → FieldType := fun k => match k with
  | _ => .int
abbrev wsJ150 : List Cond := u_ws RJ15 TJ15 0
theorem nmJ15 : ∀ a, a < 0 → ∀ b, b < 0 → a ≠ b → (TJ15 a).2.1 ≠ (TJ15 b).2.1 := by decide +kernel
theorem tyJ15_ok : ∀ k, k < 0 → parseFieldDescriptor (TJ15 k).2.2.1 = some (tyJ15 k) := by decide +kernel
abbrev cJ15_checkIndex_7cf53 : ByteArray := prog_24_method_17_code
def yJ15_checkIndex_7cf53 : MethodName := ⟨RJ15, "checkIndex", "(II)I"⟩
def RJxf0a74 : String := "java/util/RandomAccess"
def TJxf0a74 : u_T := fun k => match k with
  | _ => ("", "", "", false)
def tyJxf0a74 : Nat → FieldType := fun k => match k with
  | _ => .int
abbrev wsJxf0a740 : List Cond := u_ws RJxf0a74 TJxf0a74 0
theorem nmJxf0a74 : ∀ a, a < 0 → ∀ b, b < 0 → a ≠ b → (TJxf0a74 a).2.1 ≠ (TJxf0a74 b).2.1 := by decide +kernel
theorem tyJxf0a74_ok : ∀ k, k < 0 → parseFieldDescriptor (TJxf0a74 k).2.2.1 = some (tyJxf0a74 k) := by decide +kernel
def RJxa66e6 : String := "java/util/SequencedCollection"
def TJxa66e6 : u_T := fun k => match k with
  | _ => ("", "", "", false)
def tyJxa66e6 : Nat → FieldType := fun k => match k with
  | _ => .int
abbrev wsJxa66e60 : List Cond := u_ws RJxa66e6 TJxa66e6 0
theorem nmJxa66e6 : ∀ a, a < 0 → ∀ b, b < 0 → a ≠ b → (TJxa66e6 a).2.1 ≠ (TJxa66e6 b).2.1 := by decide +kernel
theorem tyJxa66e6_ok : ∀ k, k < 0 → parseFieldDescriptor (TJxa66e6 k).2.2.1 = some (tyJxa66e6 k) := by decide +kernel
def RJ8 : String := "jdk/internal/util/ArraysSupport"
def TJ8 : u_T := fun k => match k with
  | _ => ("", "", "", false)
def tyJ8 : Nat → FieldType := fun k => match k with
  | _ => .int
abbrev wsJ80 : List Cond := u_ws RJ8 TJ8 0
theorem nmJ8 : ∀ a, a < 0 → ∀ b, b < 0 → a ≠ b → (TJ8 a).2.1 ≠ (TJ8 b).2.1 := by decide +kernel
theorem tyJ8_ok : ∀ k, k < 0 → parseFieldDescriptor (TJ8 k).2.2.1 = some (tyJ8 k) := by decide +kernel
abbrev cJ8_newLength_cabcc : ByteArray := prog_27_method_27_code
def yJ8_newLength_cabcc : MethodName := ⟨RJ8, "newLength", "(III)I"⟩
abbrev cJ8_hugeLength_7cf53 : ByteArray := prog_27_method_28_code
def yJ8_hugeLength_7cf53 : MethodName := ⟨RJ8, "hugeLength", "(II)I"⟩
def RJ3 : String := "jdk/internal/util/Preconditions"
def TJ3 : u_T := fun k => match k with
  | _ => ("", "", "", false)
def tyJ3 : Nat → FieldType := fun k => match k with
  | _ => .int
abbrev wsJ30 : List Cond := u_ws RJ3 TJ3 0
theorem nmJ3 : ∀ a, a < 0 → ∀ b, b < 0 → a ≠ b → (TJ3 a).2.1 ≠ (TJ3 b).2.1 := by decide +kernel
theorem tyJ3_ok : ∀ k, k < 0 → parseFieldDescriptor (TJ3 k).2.2.1 = some (tyJ3 k) := by decide +kernel
abbrev cJ3_checkIndex_8e157 : ByteArray := prog_28_method_11_code
def yJ3_checkIndex_8e157 : MethodName := ⟨RJ3, "checkIndex", "(IILjava/util/function/BiFunction;)I"⟩
def RL : String := "FairFolioLaw"
abbrev cL_setPavilion : ByteArray := method_3_code
def yL_setPavilion : MethodName := ⟨RL, "setPavilion", "(LFairFolio;III)I"⟩
abbrev cL_open : ByteArray := method_4_code
def yL_open : MethodName := ⟨RL, "open", "(LFairFolio;IZ[J)I"⟩
abbrev cL_plan : ByteArray := method_5_code
def yL_plan : MethodName := ⟨RL, "plan", "(LFairFolio;II[J)I"⟩
abbrev cL_drop : ByteArray := method_6_code
def yL_drop : MethodName := ⟨RL, "drop", "(LFairFolio;II[J)I"⟩
abbrev cL_ask : ByteArray := method_7_code
def yL_ask : MethodName := ⟨RL, "ask", "(LFairFolio;II[J)I"⟩
abbrev cL_advance : ByteArray := method_8_code
def yL_advance : MethodName := ⟨RL, "advance", "(LFairFolio;I[J)I"⟩
abbrev cL_send : ByteArray := method_9_code
def yL_send : MethodName := ⟨RL, "send", "(LFairFolio;II[J)I"⟩
abbrev cL_reprint : ByteArray := method_10_code
def yL_reprint : MethodName := ⟨RL, "reprint", "(LFairFolio;I[J)I"⟩
abbrev cL_stateOf : ByteArray := method_11_code
def yL_stateOf : MethodName := ⟨RL, "stateOf", "(LFairFolio;I[J)I"⟩
abbrev cL_whereIs : ByteArray := method_12_code
def yL_whereIs : MethodName := ⟨RL, "whereIs", "(LFairFolio;I[J)I"⟩
abbrev cL_placeOf : ByteArray := method_13_code
def yL_placeOf : MethodName := ⟨RL, "placeOf", "(LFairFolio;I[J)I"⟩
abbrev cL_turnOf : ByteArray := method_14_code
def yL_turnOf : MethodName := ⟨RL, "turnOf", "(LFairFolio;I[J)I"⟩
abbrev cL_stamps : ByteArray := method_15_code
def yL_stamps : MethodName := ⟨RL, "stamps", "(LFairFolio;I[J)I"⟩
abbrev cL_queue : ByteArray := method_16_code
def yL_queue : MethodName := ⟨RL, "queue", "(LFairFolio;I[J)I"⟩
abbrev cL_inside : ByteArray := method_17_code
def yL_inside : MethodName := ⟨RL, "inside", "(LFairFolio;I[J)I"⟩
abbrev cL_stock : ByteArray := method_18_code
def yL_stock : MethodName := ⟨RL, "stock", "(LFairFolio;I[J)I"⟩
abbrev cL_demand : ByteArray := method_19_code
def yL_demand : MethodName := ⟨RL, "demand", "(LFairFolio;I[J)I"⟩
abbrev cL_sent : ByteArray := method_20_code
def yL_sent : MethodName := ⟨RL, "sent", "(LFairFolio;II[J)I"⟩
abbrev cL_law : ByteArray := code
def yL_law : MethodName := ⟨RL, "law", "([I)Z"⟩
def wsX0_init : List Cond := .code yX0_init cX0_init 2 none :: ([.methodLink RX0 1 objectInit, .instanceMethod objectInit, .code objectInit ⟨#[0xb1]⟩ 1 none, .fieldLink RX0 7 "FairFolio$Pavilion" "room" "I", .fieldLink RX0 13 "FairFolio$Pavilion" "time" "I", .fieldLink RX0 16 "FairFolio$Pavilion" "isOpen" "Z", .fieldLink RX0 20 "FairFolio$Pavilion" "stock" "I", .fieldLink RX0 23 "FairFolio$Pavilion" "demand" "I", .fieldLink RX0 26 "FairFolio$Pavilion" "number" "I"] ++ wsX00)
def wsJxa1e45_init_da8c8 : List Cond := .code yJxa1e45_init_da8c8 cJxa1e45_init_da8c8 1 none :: ([.methodLink RJxa1e45 1 objectInit, .instanceMethod objectInit, .code objectInit ⟨#[0xb1]⟩ 1 none])
def wsJxc12de_init_da8c8 : List Cond := .code yJxc12de_init_da8c8 cJxc12de_init_da8c8 1 none :: ([.fieldLink RJxc12de 7 "java/util/AbstractList" "modCount" "I", .methodLink RJxc12de 1 yJxa1e45_init_da8c8, .instanceMethod yJxa1e45_init_da8c8, .initialized RJxa1e45, .code yJxa1e45_init_da8c8 cJxa1e45_init_da8c8 1 none, .methodLink RJxa1e45 1 objectInit, .instanceMethod objectInit, .code objectInit ⟨#[0xb1]⟩ 1 none] ++ wsJx4a65c0)
def wsJx4a65c_init_da8c8 : List Cond := .code yJx4a65c_init_da8c8 cJx4a65c_init_da8c8 1 none :: ([.fieldLink RJx4a65c 39 "java/util/ArrayList" "DEFAULTCAPACITY_EMPTY_ELEMENTDATA" "[Ljava/lang/Object;", .fieldLink RJx4a65c 9 "java/util/ArrayList" "elementData" "[Ljava/lang/Object;", .methodLink RJx4a65c 1 yJxc12de_init_da8c8, .instanceMethod yJxc12de_init_da8c8, .initialized RJxc12de, .code yJxc12de_init_da8c8 cJxc12de_init_da8c8 1 none, .fieldLink RJxc12de 7 "java/util/AbstractList" "modCount" "I", .methodLink RJxc12de 1 yJxa1e45_init_da8c8, .instanceMethod yJxa1e45_init_da8c8, .initialized RJxa1e45, .code yJxa1e45_init_da8c8 cJxa1e45_init_da8c8 1 none, .methodLink RJxa1e45 1 objectInit, .instanceMethod objectInit, .code objectInit ⟨#[0xb1]⟩ 1 none] ++ wsJx4a65c0)
def wsX1_init_r1 : List Cond := [Cond.methodLink RX1 3 objectInit, Cond.instanceMethod objectInit, Cond.code objectInit ⟨#[0xb1]⟩ 1 none, Cond.classLink RX1 9 RJx4a65c, Cond.instantiable RJx4a65c 3, Cond.initialized RJx4a65c, Cond.fieldLink RX1 12 "FairFolio$Visitor" "plan" "Ljava/util/ArrayList;", Cond.arrayClass .int, Cond.fieldLink RX1 18 "FairFolio$Visitor" "sent" "[I", Cond.fieldLink RX1 22 "FairFolio$Visitor" "state" "I", Cond.fieldLink RX1 26 "FairFolio$Visitor" "where" "I", Cond.fieldLink RX1 29 "FairFolio$Visitor" "place" "I", Cond.fieldLink RX1 32 "FairFolio$Visitor" "visitEnd" "I", Cond.fieldLink RX1 35 "FairFolio$Visitor" "stamps" "I", Cond.fieldLink RX1 38 "FairFolio$Visitor" "turnMinute" "I", Cond.fieldLink RX1 41 "FairFolio$Visitor" "turnPavilion" "LFairFolio$Pavilion;", Cond.fieldLink RX1 45 "FairFolio$Visitor" "waitsByTurn" "Z", Cond.methodLink RX1 11 yJx4a65c_init_da8c8, Cond.instanceMethod yJx4a65c_init_da8c8, Cond.code yJx4a65c_init_da8c8 cJx4a65c_init_da8c8 1 none, Cond.fieldLink RJx4a65c 39 "java/util/ArrayList" "DEFAULTCAPACITY_EMPTY_ELEMENTDATA" "[Ljava/lang/Object;", Cond.fieldLink RJx4a65c 9 "java/util/ArrayList" "elementData" "[Ljava/lang/Object;", Cond.methodLink RJx4a65c 1 yJxc12de_init_da8c8, Cond.instanceMethod yJxc12de_init_da8c8]
def wsX1_init_r2 : List Cond := [Cond.initialized RJxc12de, Cond.code yJxc12de_init_da8c8 cJxc12de_init_da8c8 1 none, Cond.fieldLink RJxc12de 7 "java/util/AbstractList" "modCount" "I", Cond.methodLink RJxc12de 1 yJxa1e45_init_da8c8, Cond.instanceMethod yJxa1e45_init_da8c8, Cond.initialized RJxa1e45, Cond.code yJxa1e45_init_da8c8 cJxa1e45_init_da8c8 1 none, Cond.methodLink RJxa1e45 1 objectInit]
def wsX1_init : List Cond := .code yX1_init cX1_init 1 none :: ((wsX1_init_r1 ++ wsX1_init_r2) ++ wsJx4a65c0 ++ wsX10)
def wsX2_init_r1 : List Cond := [Cond.methodLink RX2 1 objectInit, Cond.instanceMethod objectInit, Cond.code objectInit ⟨#[0xb1]⟩ 1 none, Cond.classLink RX2 9 RX0, Cond.fieldLink RX2 11 "FairFolio" "pavilions" "[LFairFolio$Pavilion;", Cond.classLink RX2 15 RX1, Cond.fieldLink RX2 17 "FairFolio" "visitors" "[LFairFolio$Visitor;", Cond.fieldLink RX2 21 "FairFolio" "now" "I", Cond.instantiable RX0 6, Cond.initialized RX0, Cond.instantiable RX1 10, Cond.initialized RX1, Cond.instanceMethod yX0_init, Cond.code yX0_init cX0_init 2 none, Cond.methodLink RX0 1 objectInit, Cond.fieldLink RX0 7 "FairFolio$Pavilion" "room" "I", Cond.fieldLink RX0 13 "FairFolio$Pavilion" "time" "I", Cond.fieldLink RX0 16 "FairFolio$Pavilion" "isOpen" "Z", Cond.fieldLink RX0 20 "FairFolio$Pavilion" "stock" "I", Cond.fieldLink RX0 23 "FairFolio$Pavilion" "demand" "I", Cond.fieldLink RX0 26 "FairFolio$Pavilion" "number" "I", Cond.instanceMethod yX1_init, Cond.code yX1_init cX1_init 1 none, Cond.methodLink RX1 3 objectInit]
def wsX2_init_r2 : List Cond := [Cond.classLink RX1 9 RJx4a65c, Cond.instantiable RJx4a65c 3, Cond.initialized RJx4a65c, Cond.fieldLink RX1 12 "FairFolio$Visitor" "plan" "Ljava/util/ArrayList;", Cond.arrayClass .int, Cond.fieldLink RX1 18 "FairFolio$Visitor" "sent" "[I", Cond.fieldLink RX1 22 "FairFolio$Visitor" "state" "I", Cond.fieldLink RX1 26 "FairFolio$Visitor" "where" "I", Cond.fieldLink RX1 29 "FairFolio$Visitor" "place" "I", Cond.fieldLink RX1 32 "FairFolio$Visitor" "visitEnd" "I", Cond.fieldLink RX1 35 "FairFolio$Visitor" "stamps" "I", Cond.fieldLink RX1 38 "FairFolio$Visitor" "turnMinute" "I", Cond.fieldLink RX1 41 "FairFolio$Visitor" "turnPavilion" "LFairFolio$Pavilion;", Cond.fieldLink RX1 45 "FairFolio$Visitor" "waitsByTurn" "Z", Cond.methodLink RX1 11 yJx4a65c_init_da8c8, Cond.instanceMethod yJx4a65c_init_da8c8, Cond.code yJx4a65c_init_da8c8 cJx4a65c_init_da8c8 1 none, Cond.fieldLink RJx4a65c 39 "java/util/ArrayList" "DEFAULTCAPACITY_EMPTY_ELEMENTDATA" "[Ljava/lang/Object;", Cond.fieldLink RJx4a65c 9 "java/util/ArrayList" "elementData" "[Ljava/lang/Object;", Cond.methodLink RJx4a65c 1 yJxc12de_init_da8c8, Cond.instanceMethod yJxc12de_init_da8c8, Cond.initialized RJxc12de, Cond.code yJxc12de_init_da8c8 cJxc12de_init_da8c8 1 none, Cond.fieldLink RJxc12de 7 "java/util/AbstractList" "modCount" "I"]
def wsX2_init_r3 : List Cond := [Cond.methodLink RJxc12de 1 yJxa1e45_init_da8c8, Cond.instanceMethod yJxa1e45_init_da8c8, Cond.initialized RJxa1e45, Cond.code yJxa1e45_init_da8c8 cJxa1e45_init_da8c8 1 none, Cond.methodLink RJxa1e45 1 objectInit]
def wsX2_init : List Cond := .code yX2_init cX2_init 2 none :: ((wsX2_init_r1 ++ (wsX2_init_r2 ++ wsX2_init_r3)) ++ wsX20 ++ wsX00 ++ wsX10 ++ wsJx4a65c0)
def wsX2_pavilionAt : List Cond := .code yX2_pavilionAt cX2_pavilionAt 2 (some (.object "FairFolio$Pavilion")) :: ([.classLink RX2 154 "java/lang/IndexOutOfBoundsException", .initialized "java/lang/IndexOutOfBoundsException", .fieldLink RX2 11 "FairFolio" "pavilions" "[LFairFolio$Pavilion;"] ++ wsX20 ++ (vx_atS RX2 158 "java/lang/IndexOutOfBoundsException" ["java/lang/RuntimeException", "java/lang/Exception"]).filter goodWord)
def wsX2_setPavilion : List Cond := .code yX2_setPavilion cX2_setPavilion 5 none :: ([.classLink RX2 33 "java/lang/IllegalArgumentException", .initialized "java/lang/IllegalArgumentException", .methodLink RX2 29 yX2_pavilionAt, .instanceMethod yX2_pavilionAt, .selects RX2 yX2_pavilionAt yX2_pavilionAt, .initialized RX2, .code yX2_pavilionAt cX2_pavilionAt 2 (some (.object "FairFolio$Pavilion")), .classLink RX2 154 "java/lang/IndexOutOfBoundsException", .initialized "java/lang/IndexOutOfBoundsException", .fieldLink RX2 11 "FairFolio" "pavilions" "[LFairFolio$Pavilion;"] ++ wsX00 ++ wsX20 ++ (vx_atS RX2 37 "java/lang/IllegalArgumentException" ["java/lang/RuntimeException", "java/lang/Exception"]).filter goodWord ++ (vx_atS RX2 158 "java/lang/IndexOutOfBoundsException" ["java/lang/RuntimeException", "java/lang/Exception"]).filter goodWord)
def wsX2_isAt : List Cond := .code yX2_isAt cX2_isAt 4 (some .boolean) :: ([] ++ wsX10 ++ wsX00)
def wsX2_loseTurn : List Cond := .code yX2_loseTurn cX2_loseTurn 2 none :: ([] ++ wsX10)
def wsX2_becomeIdle : List Cond := .code yX2_becomeIdle cX2_becomeIdle 2 none :: ([] ++ wsX10)
def wsX2_leaveQueue : List Cond := .code yX2_leaveQueue cX2_leaveQueue 6 none :: ([.fieldLink RX2 17 "FairFolio" "visitors" "[LFairFolio$Visitor;", .methodLink RX2 189 yX2_loseTurn, .instanceMethod yX2_loseTurn, .selects RX2 yX2_loseTurn yX2_loseTurn, .initialized RX2, .code yX2_loseTurn cX2_loseTurn 2 none, .methodLink RX2 183 yX2_becomeIdle, .instanceMethod yX2_becomeIdle, .selects RX2 yX2_becomeIdle yX2_becomeIdle, .code yX2_becomeIdle cX2_becomeIdle 2 none] ++ wsX20 ++ wsX10)
def wsX2_emptyQueue : List Cond := .code yX2_emptyQueue cX2_emptyQueue 7 (some .int) :: ([.fieldLink RX2 17 "FairFolio" "visitors" "[LFairFolio$Visitor;", .methodLink RX2 87 yX2_isAt, .instanceMethod yX2_isAt, .selects RX2 yX2_isAt yX2_isAt, .initialized RX2, .code yX2_isAt cX2_isAt 4 (some .boolean), .methodLink RX2 94 yX2_leaveQueue, .instanceMethod yX2_leaveQueue, .selects RX2 yX2_leaveQueue yX2_leaveQueue, .code yX2_leaveQueue cX2_leaveQueue 6 none, .methodLink RX2 189 yX2_loseTurn, .instanceMethod yX2_loseTurn, .selects RX2 yX2_loseTurn yX2_loseTurn, .code yX2_loseTurn cX2_loseTurn 2 none, .methodLink RX2 183 yX2_becomeIdle, .instanceMethod yX2_becomeIdle, .selects RX2 yX2_becomeIdle yX2_becomeIdle, .code yX2_becomeIdle cX2_becomeIdle 2 none] ++ wsX20 ++ wsX10 ++ wsX00)
def wsX2_open_r1 : List Cond := [Cond.methodLink RX2 29 yX2_pavilionAt, Cond.instanceMethod yX2_pavilionAt, Cond.selects RX2 yX2_pavilionAt yX2_pavilionAt, Cond.initialized RX2, Cond.code yX2_pavilionAt cX2_pavilionAt 2 (some (.object "FairFolio$Pavilion")), Cond.classLink RX2 154 "java/lang/IndexOutOfBoundsException", Cond.initialized "java/lang/IndexOutOfBoundsException", Cond.fieldLink RX2 11 "FairFolio" "pavilions" "[LFairFolio$Pavilion;", Cond.methodLink RX2 50 yX2_emptyQueue, Cond.instanceMethod yX2_emptyQueue, Cond.selects RX2 yX2_emptyQueue yX2_emptyQueue, Cond.code yX2_emptyQueue cX2_emptyQueue 7 (some .int), Cond.fieldLink RX2 17 "FairFolio" "visitors" "[LFairFolio$Visitor;", Cond.methodLink RX2 87 yX2_isAt, Cond.instanceMethod yX2_isAt, Cond.selects RX2 yX2_isAt yX2_isAt, Cond.code yX2_isAt cX2_isAt 4 (some .boolean), Cond.methodLink RX2 94 yX2_leaveQueue, Cond.instanceMethod yX2_leaveQueue, Cond.selects RX2 yX2_leaveQueue yX2_leaveQueue, Cond.code yX2_leaveQueue cX2_leaveQueue 6 none, Cond.methodLink RX2 189 yX2_loseTurn, Cond.instanceMethod yX2_loseTurn, Cond.selects RX2 yX2_loseTurn yX2_loseTurn]
def wsX2_open_r2 : List Cond := [Cond.code yX2_loseTurn cX2_loseTurn 2 none, Cond.methodLink RX2 183 yX2_becomeIdle, Cond.instanceMethod yX2_becomeIdle, Cond.selects RX2 yX2_becomeIdle yX2_becomeIdle, Cond.code yX2_becomeIdle cX2_becomeIdle 2 none]
def wsX2_open : List Cond := .code yX2_open cX2_open 4 (some .int) :: ((wsX2_open_r1 ++ wsX2_open_r2) ++ wsX00 ++ wsX20 ++ wsX10 ++ (vx_atS RX2 158 "java/lang/IndexOutOfBoundsException" ["java/lang/RuntimeException", "java/lang/Exception"]).filter goodWord)
def wsX2_visitorAt : List Cond := .code yX2_visitorAt cX2_visitorAt 2 (some (.object "FairFolio$Visitor")) :: ([.classLink RX2 154 "java/lang/IndexOutOfBoundsException", .initialized "java/lang/IndexOutOfBoundsException", .fieldLink RX2 17 "FairFolio" "visitors" "[LFairFolio$Visitor;"] ++ wsX20 ++ (vx_atS RX2 158 "java/lang/IndexOutOfBoundsException" ["java/lang/RuntimeException", "java/lang/Exception"]).filter goodWord)
def wsJx4a65c_size_8abf5 : List Cond := .code yJx4a65c_size_8abf5 cJx4a65c_size_8abf5 1 (some .int) :: ([.fieldLink RJx4a65c 48 "java/util/ArrayList" "size" "I"] ++ wsJx4a65c0)
def wsJ3_checkIndex_8e157 : List Cond := .code yJ3_checkIndex_8e157 cJ3_checkIndex_8e157 3 (some .int) :: ([])
def wsJ15_checkIndex_7cf53 : List Cond := .code yJ15_checkIndex_7cf53 cJ15_checkIndex_7cf53 2 (some .int) :: ([.methodLink RJ15 105 yJ3_checkIndex_8e157, .static yJ3_checkIndex_8e157, .initialized RJ3, .code yJ3_checkIndex_8e157 cJ3_checkIndex_8e157 3 (some .int)])
def wsJx4a65c_elementData_915e3 : List Cond := .code yJx4a65c_elementData_915e3 cJx4a65c_elementData_915e3 2 (some (.object "java/lang/Object")) :: ([.fieldLink RJx4a65c 9 "java/util/ArrayList" "elementData" "[Ljava/lang/Object;"] ++ wsJx4a65c0)
def wsJx4a65c_get_915e3 : List Cond := .code yJx4a65c_get_915e3 cJx4a65c_get_915e3 2 (some (.object "java/lang/Object")) :: ([.fieldLink RJx4a65c 48 "java/util/ArrayList" "size" "I", .methodLink RJx4a65c 118 yJ15_checkIndex_7cf53, .static yJ15_checkIndex_7cf53, .initialized RJ15, .code yJ15_checkIndex_7cf53 cJ15_checkIndex_7cf53 2 (some .int), .methodLink RJ15 105 yJ3_checkIndex_8e157, .static yJ3_checkIndex_8e157, .initialized RJ3, .code yJ3_checkIndex_8e157 cJ3_checkIndex_8e157 3 (some .int), .methodLink RJx4a65c 123 yJx4a65c_elementData_915e3, .instanceMethod yJx4a65c_elementData_915e3, .selects RJx4a65c yJx4a65c_elementData_915e3 yJx4a65c_elementData_915e3, .initialized RJx4a65c, .code yJx4a65c_elementData_915e3 cJx4a65c_elementData_915e3 2 (some (.object "java/lang/Object")), .fieldLink RJx4a65c 9 "java/util/ArrayList" "elementData" "[Ljava/lang/Object;"] ++ wsJx4a65c0)
def wsX2_indexInPlan : List Cond := .code yX2_indexInPlan cX2_indexInPlan 4 (some .int) :: ([.methodLink RX2 77 yJx4a65c_size_8abf5, .instanceMethod yJx4a65c_size_8abf5, .selects RJx4a65c yJx4a65c_size_8abf5 yJx4a65c_size_8abf5, .initialized RJx4a65c, .code yJx4a65c_size_8abf5 cJx4a65c_size_8abf5 1 (some .int), .fieldLink RJx4a65c 48 "java/util/ArrayList" "size" "I", .methodLink RX2 161 yJx4a65c_get_915e3, .instanceMethod yJx4a65c_get_915e3, .selects RJx4a65c yJx4a65c_get_915e3 yJx4a65c_get_915e3, .code yJx4a65c_get_915e3 cJx4a65c_get_915e3 2 (some (.object "java/lang/Object")), .methodLink RJx4a65c 118 yJ15_checkIndex_7cf53, .static yJ15_checkIndex_7cf53, .initialized RJ15, .code yJ15_checkIndex_7cf53 cJ15_checkIndex_7cf53 2 (some .int), .methodLink RJ15 105 yJ3_checkIndex_8e157, .static yJ3_checkIndex_8e157, .initialized RJ3, .code yJ3_checkIndex_8e157 cJ3_checkIndex_8e157 3 (some .int), .methodLink RJx4a65c 123 yJx4a65c_elementData_915e3, .instanceMethod yJx4a65c_elementData_915e3, .selects RJx4a65c yJx4a65c_elementData_915e3 yJx4a65c_elementData_915e3, .code yJx4a65c_elementData_915e3 cJx4a65c_elementData_915e3 2 (some (.object "java/lang/Object")), .fieldLink RJx4a65c 9 "java/util/ArrayList" "elementData" "[Ljava/lang/Object;"] ++ wsX10 ++ wsJx4a65c0)
def wsJ8_hugeLength_7cf53 : List Cond := .code yJ8_hugeLength_7cf53 cJ8_hugeLength_7cf53 3 (some .int) :: ([.constant RJ8 200 (2147483639)])
def wsJ8_newLength_cabcc : List Cond := .code yJ8_newLength_cabcc cJ8_newLength_cabcc 4 (some .int) :: ([.methodLink RJ8 194 Lib.Math.max.name, .static Lib.Math.max.name, .initialized "java/lang/Math", .code Lib.Math.max.name Lib.Math.max.code 2 (some .int), .constant RJ8 200 (2147483639), .methodLink RJ8 201 yJ8_hugeLength_7cf53, .static yJ8_hugeLength_7cf53, .initialized RJ8, .code yJ8_hugeLength_7cf53 cJ8_hugeLength_7cf53 3 (some .int)])
def wsJ7_copyOf_6403c : List Cond := .code yJ7_copyOf_6403c cJ7_copyOf_6403c 4 (some (.array (.object "java/lang/Object"))) :: ([.classLink RJ7 110 "[Ljava/lang/Object;", .classLink RJ7 2 "java/lang/Object", .methodLink RJ7 304 Lib.Math.min.name, .static Lib.Math.min.name, .initialized "java/lang/Math", .code Lib.Math.min.name Lib.Math.min.code 2 (some .int), .methodLink RJ7 150 arraycopyName, .native arraycopyName, .static arraycopyName, .initialized "java/lang/System"])
def wsJ7_copyOf_1904c : List Cond := .code yJ7_copyOf_1904c cJ7_copyOf_1904c 2 (some (.array (.object "java/lang/Object"))) :: ([.methodLink RJ7 86 ⟨"java/lang/Object", "getClass", "()Ljava/lang/Class;"⟩, .selects "[Ljava/lang/Object;" ⟨"java/lang/Object", "getClass", "()Ljava/lang/Class;"⟩ ⟨"java/lang/Object", "getClass", "()Ljava/lang/Class;"⟩, .instanceMethod ⟨"java/lang/Object", "getClass", "()Ljava/lang/Class;"⟩, .native ⟨"java/lang/Object", "getClass", "()Ljava/lang/Class;"⟩, .methodLink RJ7 300 yJ7_copyOf_6403c, .static yJ7_copyOf_6403c, .initialized RJ7, .code yJ7_copyOf_6403c cJ7_copyOf_6403c 4 (some (.array (.object "java/lang/Object"))), .classLink RJ7 110 "[Ljava/lang/Object;", .classLink RJ7 2 "java/lang/Object", .methodLink RJ7 304 Lib.Math.min.name, .static Lib.Math.min.name, .initialized "java/lang/Math", .code Lib.Math.min.name Lib.Math.min.code 2 (some .int), .methodLink RJ7 150 arraycopyName, .native arraycopyName, .static arraycopyName, .initialized "java/lang/System"])
def wsJx4a65c_grow_92f84_r1 : List Cond := [Cond.fieldLink RJx4a65c 9 "java/util/ArrayList" "elementData" "[Ljava/lang/Object;", Cond.fieldLink RJx4a65c 39 "java/util/ArrayList" "DEFAULTCAPACITY_EMPTY_ELEMENTDATA" "[Ljava/lang/Object;", Cond.methodLink RJx4a65c 79 Lib.Math.max.name, Cond.static Lib.Math.max.name, Cond.initialized "java/lang/Math", Cond.code Lib.Math.max.name Lib.Math.max.code 2 (some .int), Cond.classLink RJx4a65c 7 "java/lang/Object", Cond.methodLink RJx4a65c 73 yJ8_newLength_cabcc, Cond.static yJ8_newLength_cabcc, Cond.initialized RJ8, Cond.code yJ8_newLength_cabcc cJ8_newLength_cabcc 4 (some .int), Cond.methodLink RJ8 194 Lib.Math.max.name, Cond.constant RJ8 200 (2147483639), Cond.methodLink RJ8 201 yJ8_hugeLength_7cf53, Cond.static yJ8_hugeLength_7cf53, Cond.code yJ8_hugeLength_7cf53 cJ8_hugeLength_7cf53 3 (some .int), Cond.methodLink RJx4a65c 66 yJ7_copyOf_1904c, Cond.static yJ7_copyOf_1904c, Cond.initialized RJ7, Cond.code yJ7_copyOf_1904c cJ7_copyOf_1904c 2 (some (.array (.object "java/lang/Object"))), Cond.methodLink RJ7 86 ⟨"java/lang/Object", "getClass", "()Ljava/lang/Class;"⟩, Cond.selects "[Ljava/lang/Object;" ⟨"java/lang/Object", "getClass", "()Ljava/lang/Class;"⟩ ⟨"java/lang/Object", "getClass", "()Ljava/lang/Class;"⟩, Cond.instanceMethod ⟨"java/lang/Object", "getClass", "()Ljava/lang/Class;"⟩, Cond.native ⟨"java/lang/Object", "getClass", "()Ljava/lang/Class;"⟩]
def wsJx4a65c_grow_92f84_r2 : List Cond := [Cond.methodLink RJ7 300 yJ7_copyOf_6403c, Cond.static yJ7_copyOf_6403c, Cond.code yJ7_copyOf_6403c cJ7_copyOf_6403c 4 (some (.array (.object "java/lang/Object"))), Cond.classLink RJ7 110 "[Ljava/lang/Object;", Cond.classLink RJ7 2 "java/lang/Object", Cond.methodLink RJ7 304 Lib.Math.min.name, Cond.static Lib.Math.min.name, Cond.code Lib.Math.min.name Lib.Math.min.code 2 (some .int), Cond.methodLink RJ7 150 arraycopyName, Cond.native arraycopyName, Cond.static arraycopyName, Cond.initialized "java/lang/System"]
def wsJx4a65c_grow_92f84 : List Cond := .code yJx4a65c_grow_92f84 cJx4a65c_grow_92f84 4 (some (.array (.object "java/lang/Object"))) :: ((wsJx4a65c_grow_92f84_r1 ++ wsJx4a65c_grow_92f84_r2) ++ wsJx4a65c0)
def wsJx4a65c_grow_d5877_r1 : List Cond := [Cond.fieldLink RJx4a65c 48 "java/util/ArrayList" "size" "I", Cond.methodLink RJx4a65c 69 yJx4a65c_grow_92f84, Cond.instanceMethod yJx4a65c_grow_92f84, Cond.selects RJx4a65c yJx4a65c_grow_92f84 yJx4a65c_grow_92f84, Cond.initialized RJx4a65c, Cond.code yJx4a65c_grow_92f84 cJx4a65c_grow_92f84 4 (some (.array (.object "java/lang/Object"))), Cond.fieldLink RJx4a65c 9 "java/util/ArrayList" "elementData" "[Ljava/lang/Object;", Cond.fieldLink RJx4a65c 39 "java/util/ArrayList" "DEFAULTCAPACITY_EMPTY_ELEMENTDATA" "[Ljava/lang/Object;", Cond.methodLink RJx4a65c 79 Lib.Math.max.name, Cond.static Lib.Math.max.name, Cond.initialized "java/lang/Math", Cond.code Lib.Math.max.name Lib.Math.max.code 2 (some .int), Cond.classLink RJx4a65c 7 "java/lang/Object", Cond.methodLink RJx4a65c 73 yJ8_newLength_cabcc, Cond.static yJ8_newLength_cabcc, Cond.initialized RJ8, Cond.code yJ8_newLength_cabcc cJ8_newLength_cabcc 4 (some .int), Cond.methodLink RJ8 194 Lib.Math.max.name, Cond.constant RJ8 200 (2147483639), Cond.methodLink RJ8 201 yJ8_hugeLength_7cf53, Cond.static yJ8_hugeLength_7cf53, Cond.code yJ8_hugeLength_7cf53 cJ8_hugeLength_7cf53 3 (some .int), Cond.methodLink RJx4a65c 66 yJ7_copyOf_1904c, Cond.static yJ7_copyOf_1904c]
def wsJx4a65c_grow_d5877_r2 : List Cond := [Cond.initialized RJ7, Cond.code yJ7_copyOf_1904c cJ7_copyOf_1904c 2 (some (.array (.object "java/lang/Object"))), Cond.methodLink RJ7 86 ⟨"java/lang/Object", "getClass", "()Ljava/lang/Class;"⟩, Cond.selects "[Ljava/lang/Object;" ⟨"java/lang/Object", "getClass", "()Ljava/lang/Class;"⟩ ⟨"java/lang/Object", "getClass", "()Ljava/lang/Class;"⟩, Cond.instanceMethod ⟨"java/lang/Object", "getClass", "()Ljava/lang/Class;"⟩, Cond.native ⟨"java/lang/Object", "getClass", "()Ljava/lang/Class;"⟩, Cond.methodLink RJ7 300 yJ7_copyOf_6403c, Cond.static yJ7_copyOf_6403c, Cond.code yJ7_copyOf_6403c cJ7_copyOf_6403c 4 (some (.array (.object "java/lang/Object"))), Cond.classLink RJ7 110 "[Ljava/lang/Object;", Cond.classLink RJ7 2 "java/lang/Object", Cond.methodLink RJ7 304 Lib.Math.min.name, Cond.static Lib.Math.min.name, Cond.code Lib.Math.min.name Lib.Math.min.code 2 (some .int), Cond.methodLink RJ7 150 arraycopyName, Cond.native arraycopyName, Cond.static arraycopyName, Cond.initialized "java/lang/System"]
def wsJx4a65c_grow_d5877 : List Cond := .code yJx4a65c_grow_d5877 cJx4a65c_grow_d5877 1 (some (.array (.object "java/lang/Object"))) :: ((wsJx4a65c_grow_d5877_r1 ++ wsJx4a65c_grow_d5877_r2) ++ wsJx4a65c0)
def wsJx4a65c_add_72be8_r1 : List Cond := [Cond.fieldLink RJx4a65c 48 "java/util/ArrayList" "size" "I", Cond.methodLink RJx4a65c 129 yJx4a65c_grow_d5877, Cond.instanceMethod yJx4a65c_grow_d5877, Cond.selects RJx4a65c yJx4a65c_grow_d5877 yJx4a65c_grow_d5877, Cond.initialized RJx4a65c, Cond.code yJx4a65c_grow_d5877 cJx4a65c_grow_d5877 1 (some (.array (.object "java/lang/Object"))), Cond.methodLink RJx4a65c 69 yJx4a65c_grow_92f84, Cond.instanceMethod yJx4a65c_grow_92f84, Cond.selects RJx4a65c yJx4a65c_grow_92f84 yJx4a65c_grow_92f84, Cond.code yJx4a65c_grow_92f84 cJx4a65c_grow_92f84 4 (some (.array (.object "java/lang/Object"))), Cond.fieldLink RJx4a65c 9 "java/util/ArrayList" "elementData" "[Ljava/lang/Object;", Cond.fieldLink RJx4a65c 39 "java/util/ArrayList" "DEFAULTCAPACITY_EMPTY_ELEMENTDATA" "[Ljava/lang/Object;", Cond.methodLink RJx4a65c 79 Lib.Math.max.name, Cond.static Lib.Math.max.name, Cond.initialized "java/lang/Math", Cond.code Lib.Math.max.name Lib.Math.max.code 2 (some .int), Cond.classLink RJx4a65c 7 "java/lang/Object", Cond.methodLink RJx4a65c 73 yJ8_newLength_cabcc, Cond.static yJ8_newLength_cabcc, Cond.initialized RJ8, Cond.code yJ8_newLength_cabcc cJ8_newLength_cabcc 4 (some .int), Cond.methodLink RJ8 194 Lib.Math.max.name, Cond.constant RJ8 200 (2147483639), Cond.methodLink RJ8 201 yJ8_hugeLength_7cf53]
def wsJx4a65c_add_72be8_r2 : List Cond := [Cond.static yJ8_hugeLength_7cf53, Cond.code yJ8_hugeLength_7cf53 cJ8_hugeLength_7cf53 3 (some .int), Cond.methodLink RJx4a65c 66 yJ7_copyOf_1904c, Cond.static yJ7_copyOf_1904c, Cond.initialized RJ7, Cond.code yJ7_copyOf_1904c cJ7_copyOf_1904c 2 (some (.array (.object "java/lang/Object"))), Cond.methodLink RJ7 86 ⟨"java/lang/Object", "getClass", "()Ljava/lang/Class;"⟩, Cond.selects "[Ljava/lang/Object;" ⟨"java/lang/Object", "getClass", "()Ljava/lang/Class;"⟩ ⟨"java/lang/Object", "getClass", "()Ljava/lang/Class;"⟩, Cond.instanceMethod ⟨"java/lang/Object", "getClass", "()Ljava/lang/Class;"⟩, Cond.native ⟨"java/lang/Object", "getClass", "()Ljava/lang/Class;"⟩, Cond.methodLink RJ7 300 yJ7_copyOf_6403c, Cond.static yJ7_copyOf_6403c, Cond.code yJ7_copyOf_6403c cJ7_copyOf_6403c 4 (some (.array (.object "java/lang/Object"))), Cond.classLink RJ7 110 "[Ljava/lang/Object;", Cond.classLink RJ7 2 "java/lang/Object", Cond.methodLink RJ7 304 Lib.Math.min.name, Cond.static Lib.Math.min.name, Cond.code Lib.Math.min.name Lib.Math.min.code 2 (some .int), Cond.methodLink RJ7 150 arraycopyName, Cond.native arraycopyName, Cond.static arraycopyName, Cond.initialized "java/lang/System"]
def wsJx4a65c_add_72be8 : List Cond := .code yJx4a65c_add_72be8 cJx4a65c_add_72be8 4 none :: ((wsJx4a65c_add_72be8_r1 ++ wsJx4a65c_add_72be8_r2) ++ wsJx4a65c0)
def wsJx4a65c_add_9ea2d_r1 : List Cond := [Cond.fieldLink RJx4a65c 63 "java/util/ArrayList" "modCount" "I", Cond.sameField "java/util/ArrayList" "java/util/AbstractList" "modCount" "I", Cond.fieldLink RJx4a65c 9 "java/util/ArrayList" "elementData" "[Ljava/lang/Object;", Cond.fieldLink RJx4a65c 48 "java/util/ArrayList" "size" "I", Cond.methodLink RJx4a65c 131 yJx4a65c_add_72be8, Cond.instanceMethod yJx4a65c_add_72be8, Cond.selects RJx4a65c yJx4a65c_add_72be8 yJx4a65c_add_72be8, Cond.initialized RJx4a65c, Cond.code yJx4a65c_add_72be8 cJx4a65c_add_72be8 4 none, Cond.methodLink RJx4a65c 129 yJx4a65c_grow_d5877, Cond.instanceMethod yJx4a65c_grow_d5877, Cond.selects RJx4a65c yJx4a65c_grow_d5877 yJx4a65c_grow_d5877, Cond.code yJx4a65c_grow_d5877 cJx4a65c_grow_d5877 1 (some (.array (.object "java/lang/Object"))), Cond.methodLink RJx4a65c 69 yJx4a65c_grow_92f84, Cond.instanceMethod yJx4a65c_grow_92f84, Cond.selects RJx4a65c yJx4a65c_grow_92f84 yJx4a65c_grow_92f84, Cond.code yJx4a65c_grow_92f84 cJx4a65c_grow_92f84 4 (some (.array (.object "java/lang/Object"))), Cond.fieldLink RJx4a65c 39 "java/util/ArrayList" "DEFAULTCAPACITY_EMPTY_ELEMENTDATA" "[Ljava/lang/Object;", Cond.methodLink RJx4a65c 79 Lib.Math.max.name, Cond.static Lib.Math.max.name, Cond.initialized "java/lang/Math", Cond.code Lib.Math.max.name Lib.Math.max.code 2 (some .int), Cond.classLink RJx4a65c 7 "java/lang/Object", Cond.methodLink RJx4a65c 73 yJ8_newLength_cabcc]
def wsJx4a65c_add_9ea2d_r2 : List Cond := [Cond.static yJ8_newLength_cabcc, Cond.initialized RJ8, Cond.code yJ8_newLength_cabcc cJ8_newLength_cabcc 4 (some .int), Cond.methodLink RJ8 194 Lib.Math.max.name, Cond.constant RJ8 200 (2147483639), Cond.methodLink RJ8 201 yJ8_hugeLength_7cf53, Cond.static yJ8_hugeLength_7cf53, Cond.code yJ8_hugeLength_7cf53 cJ8_hugeLength_7cf53 3 (some .int), Cond.methodLink RJx4a65c 66 yJ7_copyOf_1904c, Cond.static yJ7_copyOf_1904c, Cond.initialized RJ7, Cond.code yJ7_copyOf_1904c cJ7_copyOf_1904c 2 (some (.array (.object "java/lang/Object"))), Cond.methodLink RJ7 86 ⟨"java/lang/Object", "getClass", "()Ljava/lang/Class;"⟩, Cond.selects "[Ljava/lang/Object;" ⟨"java/lang/Object", "getClass", "()Ljava/lang/Class;"⟩ ⟨"java/lang/Object", "getClass", "()Ljava/lang/Class;"⟩, Cond.instanceMethod ⟨"java/lang/Object", "getClass", "()Ljava/lang/Class;"⟩, Cond.native ⟨"java/lang/Object", "getClass", "()Ljava/lang/Class;"⟩, Cond.methodLink RJ7 300 yJ7_copyOf_6403c, Cond.static yJ7_copyOf_6403c, Cond.code yJ7_copyOf_6403c cJ7_copyOf_6403c 4 (some (.array (.object "java/lang/Object"))), Cond.classLink RJ7 110 "[Ljava/lang/Object;", Cond.classLink RJ7 2 "java/lang/Object", Cond.methodLink RJ7 304 Lib.Math.min.name, Cond.static Lib.Math.min.name, Cond.code Lib.Math.min.name Lib.Math.min.code 2 (some .int)]
def wsJx4a65c_add_9ea2d_r3 : List Cond := [Cond.methodLink RJ7 150 arraycopyName, Cond.native arraycopyName, Cond.static arraycopyName, Cond.initialized "java/lang/System"]
def wsJx4a65c_add_9ea2d : List Cond := .code yJx4a65c_add_9ea2d cJx4a65c_add_9ea2d 2 (some .boolean) :: ((wsJx4a65c_add_9ea2d_r1 ++ (wsJx4a65c_add_9ea2d_r2 ++ wsJx4a65c_add_9ea2d_r3)) ++ wsJx4a65c0)
def wsX2_plan_r1 : List Cond := [Cond.classLink RX2 62 "java/lang/IllegalStateException", Cond.initialized "java/lang/IllegalStateException", Cond.methodLink RX2 54 yX2_visitorAt, Cond.instanceMethod yX2_visitorAt, Cond.selects RX2 yX2_visitorAt yX2_visitorAt, Cond.initialized RX2, Cond.code yX2_visitorAt cX2_visitorAt 2 (some (.object "FairFolio$Visitor")), Cond.classLink RX2 154 "java/lang/IndexOutOfBoundsException", Cond.initialized "java/lang/IndexOutOfBoundsException", Cond.fieldLink RX2 17 "FairFolio" "visitors" "[LFairFolio$Visitor;", Cond.methodLink RX2 29 yX2_pavilionAt, Cond.instanceMethod yX2_pavilionAt, Cond.selects RX2 yX2_pavilionAt yX2_pavilionAt, Cond.code yX2_pavilionAt cX2_pavilionAt 2 (some (.object "FairFolio$Pavilion")), Cond.fieldLink RX2 11 "FairFolio" "pavilions" "[LFairFolio$Pavilion;", Cond.methodLink RX2 58 yX2_indexInPlan, Cond.instanceMethod yX2_indexInPlan, Cond.selects RX2 yX2_indexInPlan yX2_indexInPlan, Cond.code yX2_indexInPlan cX2_indexInPlan 4 (some .int), Cond.methodLink RX2 77 yJx4a65c_size_8abf5, Cond.instanceMethod yJx4a65c_size_8abf5, Cond.selects RJx4a65c yJx4a65c_size_8abf5 yJx4a65c_size_8abf5, Cond.initialized RJx4a65c, Cond.code yJx4a65c_size_8abf5 cJx4a65c_size_8abf5 1 (some .int)]
def wsX2_plan_r2 : List Cond := [Cond.fieldLink RJx4a65c 48 "java/util/ArrayList" "size" "I", Cond.methodLink RX2 161 yJx4a65c_get_915e3, Cond.instanceMethod yJx4a65c_get_915e3, Cond.selects RJx4a65c yJx4a65c_get_915e3 yJx4a65c_get_915e3, Cond.code yJx4a65c_get_915e3 cJx4a65c_get_915e3 2 (some (.object "java/lang/Object")), Cond.methodLink RJx4a65c 118 yJ15_checkIndex_7cf53, Cond.static yJ15_checkIndex_7cf53, Cond.initialized RJ15, Cond.code yJ15_checkIndex_7cf53 cJ15_checkIndex_7cf53 2 (some .int), Cond.methodLink RJ15 105 yJ3_checkIndex_8e157, Cond.static yJ3_checkIndex_8e157, Cond.initialized RJ3, Cond.code yJ3_checkIndex_8e157 cJ3_checkIndex_8e157 3 (some .int), Cond.methodLink RJx4a65c 123 yJx4a65c_elementData_915e3, Cond.instanceMethod yJx4a65c_elementData_915e3, Cond.selects RJx4a65c yJx4a65c_elementData_915e3 yJx4a65c_elementData_915e3, Cond.code yJx4a65c_elementData_915e3 cJx4a65c_elementData_915e3 2 (some (.object "java/lang/Object")), Cond.fieldLink RJx4a65c 9 "java/util/ArrayList" "elementData" "[Ljava/lang/Object;", Cond.methodLink RX2 71 yJx4a65c_add_9ea2d, Cond.instanceMethod yJx4a65c_add_9ea2d, Cond.selects RJx4a65c yJx4a65c_add_9ea2d yJx4a65c_add_9ea2d, Cond.code yJx4a65c_add_9ea2d cJx4a65c_add_9ea2d 2 (some .boolean), Cond.fieldLink RJx4a65c 63 "java/util/ArrayList" "modCount" "I", Cond.sameField "java/util/ArrayList" "java/util/AbstractList" "modCount" "I"]
def wsX2_plan_r3 : List Cond := [Cond.methodLink RJx4a65c 131 yJx4a65c_add_72be8, Cond.instanceMethod yJx4a65c_add_72be8, Cond.selects RJx4a65c yJx4a65c_add_72be8 yJx4a65c_add_72be8, Cond.code yJx4a65c_add_72be8 cJx4a65c_add_72be8 4 none, Cond.methodLink RJx4a65c 129 yJx4a65c_grow_d5877, Cond.instanceMethod yJx4a65c_grow_d5877, Cond.selects RJx4a65c yJx4a65c_grow_d5877 yJx4a65c_grow_d5877, Cond.code yJx4a65c_grow_d5877 cJx4a65c_grow_d5877 1 (some (.array (.object "java/lang/Object"))), Cond.methodLink RJx4a65c 69 yJx4a65c_grow_92f84, Cond.instanceMethod yJx4a65c_grow_92f84, Cond.selects RJx4a65c yJx4a65c_grow_92f84 yJx4a65c_grow_92f84, Cond.code yJx4a65c_grow_92f84 cJx4a65c_grow_92f84 4 (some (.array (.object "java/lang/Object"))), Cond.fieldLink RJx4a65c 39 "java/util/ArrayList" "DEFAULTCAPACITY_EMPTY_ELEMENTDATA" "[Ljava/lang/Object;", Cond.methodLink RJx4a65c 79 Lib.Math.max.name, Cond.static Lib.Math.max.name, Cond.initialized "java/lang/Math", Cond.code Lib.Math.max.name Lib.Math.max.code 2 (some .int), Cond.classLink RJx4a65c 7 "java/lang/Object", Cond.methodLink RJx4a65c 73 yJ8_newLength_cabcc, Cond.static yJ8_newLength_cabcc, Cond.initialized RJ8, Cond.code yJ8_newLength_cabcc cJ8_newLength_cabcc 4 (some .int), Cond.methodLink RJ8 194 Lib.Math.max.name, Cond.constant RJ8 200 (2147483639)]
def wsX2_plan_r4 : List Cond := [Cond.methodLink RJ8 201 yJ8_hugeLength_7cf53, Cond.static yJ8_hugeLength_7cf53, Cond.code yJ8_hugeLength_7cf53 cJ8_hugeLength_7cf53 3 (some .int), Cond.methodLink RJx4a65c 66 yJ7_copyOf_1904c, Cond.static yJ7_copyOf_1904c, Cond.initialized RJ7, Cond.code yJ7_copyOf_1904c cJ7_copyOf_1904c 2 (some (.array (.object "java/lang/Object"))), Cond.methodLink RJ7 86 ⟨"java/lang/Object", "getClass", "()Ljava/lang/Class;"⟩, Cond.selects "[Ljava/lang/Object;" ⟨"java/lang/Object", "getClass", "()Ljava/lang/Class;"⟩ ⟨"java/lang/Object", "getClass", "()Ljava/lang/Class;"⟩, Cond.instanceMethod ⟨"java/lang/Object", "getClass", "()Ljava/lang/Class;"⟩, Cond.native ⟨"java/lang/Object", "getClass", "()Ljava/lang/Class;"⟩, Cond.methodLink RJ7 300 yJ7_copyOf_6403c, Cond.static yJ7_copyOf_6403c, Cond.code yJ7_copyOf_6403c cJ7_copyOf_6403c 4 (some (.array (.object "java/lang/Object"))), Cond.classLink RJ7 110 "[Ljava/lang/Object;", Cond.classLink RJ7 2 "java/lang/Object", Cond.methodLink RJ7 304 Lib.Math.min.name, Cond.static Lib.Math.min.name, Cond.code Lib.Math.min.name Lib.Math.min.code 2 (some .int), Cond.methodLink RJ7 150 arraycopyName, Cond.native arraycopyName, Cond.static arraycopyName, Cond.initialized "java/lang/System"]
def wsX2_plan : List Cond := .code yX2_plan cX2_plan 5 (some .int) :: ((wsX2_plan_r1 ++ (wsX2_plan_r2 ++ (wsX2_plan_r3 ++ wsX2_plan_r4))) ++ wsX10 ++ wsX20 ++ wsJx4a65c0 ++ (vx_atS RX2 66 "java/lang/IllegalStateException" ["java/lang/RuntimeException", "java/lang/Exception"]).filter goodWord ++ (vx_atS RX2 158 "java/lang/IndexOutOfBoundsException" ["java/lang/RuntimeException", "java/lang/Exception"]).filter goodWord)
def wsJx4a65c_fastRemove_b59b0 : List Cond := .code yJx4a65c_fastRemove_b59b0 cJx4a65c_fastRemove_b59b0 4 none :: ([.fieldLink RJx4a65c 63 "java/util/ArrayList" "modCount" "I", .sameField "java/util/ArrayList" "java/util/AbstractList" "modCount" "I", .fieldLink RJx4a65c 48 "java/util/ArrayList" "size" "I", .methodLink RJx4a65c 112 arraycopyName, .native arraycopyName, .static arraycopyName, .initialized "java/lang/System"] ++ wsJx4a65c0)
def wsJx4a65c_remove_915e3 : List Cond := .code yJx4a65c_remove_915e3 cJx4a65c_remove_915e3 4 (some (.object "java/lang/Object")) :: ([.fieldLink RJx4a65c 48 "java/util/ArrayList" "size" "I", .fieldLink RJx4a65c 9 "java/util/ArrayList" "elementData" "[Ljava/lang/Object;", .methodLink RJx4a65c 118 yJ15_checkIndex_7cf53, .static yJ15_checkIndex_7cf53, .initialized RJ15, .code yJ15_checkIndex_7cf53 cJ15_checkIndex_7cf53 2 (some .int), .methodLink RJ15 105 yJ3_checkIndex_8e157, .static yJ3_checkIndex_8e157, .initialized RJ3, .code yJ3_checkIndex_8e157 cJ3_checkIndex_8e157 3 (some .int), .methodLink RJx4a65c 144 yJx4a65c_fastRemove_b59b0, .instanceMethod yJx4a65c_fastRemove_b59b0, .selects RJx4a65c yJx4a65c_fastRemove_b59b0 yJx4a65c_fastRemove_b59b0, .initialized RJx4a65c, .code yJx4a65c_fastRemove_b59b0 cJx4a65c_fastRemove_b59b0 4 none, .fieldLink RJx4a65c 63 "java/util/ArrayList" "modCount" "I", .sameField "java/util/ArrayList" "java/util/AbstractList" "modCount" "I", .methodLink RJx4a65c 112 arraycopyName, .native arraycopyName, .static arraycopyName, .initialized "java/lang/System"] ++ wsJx4a65c0)
def wsX2_drop_r1 : List Cond := [Cond.classLink RX2 62 "java/lang/IllegalStateException", Cond.initialized "java/lang/IllegalStateException", Cond.methodLink RX2 54 yX2_visitorAt, Cond.instanceMethod yX2_visitorAt, Cond.selects RX2 yX2_visitorAt yX2_visitorAt, Cond.initialized RX2, Cond.code yX2_visitorAt cX2_visitorAt 2 (some (.object "FairFolio$Visitor")), Cond.classLink RX2 154 "java/lang/IndexOutOfBoundsException", Cond.initialized "java/lang/IndexOutOfBoundsException", Cond.fieldLink RX2 17 "FairFolio" "visitors" "[LFairFolio$Visitor;", Cond.methodLink RX2 29 yX2_pavilionAt, Cond.instanceMethod yX2_pavilionAt, Cond.selects RX2 yX2_pavilionAt yX2_pavilionAt, Cond.code yX2_pavilionAt cX2_pavilionAt 2 (some (.object "FairFolio$Pavilion")), Cond.fieldLink RX2 11 "FairFolio" "pavilions" "[LFairFolio$Pavilion;", Cond.methodLink RX2 58 yX2_indexInPlan, Cond.instanceMethod yX2_indexInPlan, Cond.selects RX2 yX2_indexInPlan yX2_indexInPlan, Cond.code yX2_indexInPlan cX2_indexInPlan 4 (some .int), Cond.methodLink RX2 77 yJx4a65c_size_8abf5, Cond.instanceMethod yJx4a65c_size_8abf5, Cond.selects RJx4a65c yJx4a65c_size_8abf5 yJx4a65c_size_8abf5, Cond.initialized RJx4a65c, Cond.code yJx4a65c_size_8abf5 cJx4a65c_size_8abf5 1 (some .int)]
def wsX2_drop_r2 : List Cond := [Cond.fieldLink RJx4a65c 48 "java/util/ArrayList" "size" "I", Cond.methodLink RX2 161 yJx4a65c_get_915e3, Cond.instanceMethod yJx4a65c_get_915e3, Cond.selects RJx4a65c yJx4a65c_get_915e3 yJx4a65c_get_915e3, Cond.code yJx4a65c_get_915e3 cJx4a65c_get_915e3 2 (some (.object "java/lang/Object")), Cond.methodLink RJx4a65c 118 yJ15_checkIndex_7cf53, Cond.static yJ15_checkIndex_7cf53, Cond.initialized RJ15, Cond.code yJ15_checkIndex_7cf53 cJ15_checkIndex_7cf53 2 (some .int), Cond.methodLink RJ15 105 yJ3_checkIndex_8e157, Cond.static yJ3_checkIndex_8e157, Cond.initialized RJ3, Cond.code yJ3_checkIndex_8e157 cJ3_checkIndex_8e157 3 (some .int), Cond.methodLink RJx4a65c 123 yJx4a65c_elementData_915e3, Cond.instanceMethod yJx4a65c_elementData_915e3, Cond.selects RJx4a65c yJx4a65c_elementData_915e3 yJx4a65c_elementData_915e3, Cond.code yJx4a65c_elementData_915e3 cJx4a65c_elementData_915e3 2 (some (.object "java/lang/Object")), Cond.fieldLink RJx4a65c 9 "java/util/ArrayList" "elementData" "[Ljava/lang/Object;", Cond.methodLink RX2 83 yJx4a65c_remove_915e3, Cond.instanceMethod yJx4a65c_remove_915e3, Cond.selects RJx4a65c yJx4a65c_remove_915e3 yJx4a65c_remove_915e3, Cond.code yJx4a65c_remove_915e3 cJx4a65c_remove_915e3 4 (some (.object "java/lang/Object")), Cond.methodLink RJx4a65c 144 yJx4a65c_fastRemove_b59b0, Cond.instanceMethod yJx4a65c_fastRemove_b59b0]
def wsX2_drop_r3 : List Cond := [Cond.selects RJx4a65c yJx4a65c_fastRemove_b59b0 yJx4a65c_fastRemove_b59b0, Cond.code yJx4a65c_fastRemove_b59b0 cJx4a65c_fastRemove_b59b0 4 none, Cond.fieldLink RJx4a65c 63 "java/util/ArrayList" "modCount" "I", Cond.sameField "java/util/ArrayList" "java/util/AbstractList" "modCount" "I", Cond.methodLink RJx4a65c 112 arraycopyName, Cond.native arraycopyName, Cond.static arraycopyName, Cond.initialized "java/lang/System", Cond.methodLink RX2 87 yX2_isAt, Cond.instanceMethod yX2_isAt, Cond.selects RX2 yX2_isAt yX2_isAt, Cond.code yX2_isAt cX2_isAt 4 (some .boolean), Cond.methodLink RX2 94 yX2_leaveQueue, Cond.instanceMethod yX2_leaveQueue, Cond.selects RX2 yX2_leaveQueue yX2_leaveQueue, Cond.code yX2_leaveQueue cX2_leaveQueue 6 none, Cond.methodLink RX2 189 yX2_loseTurn, Cond.instanceMethod yX2_loseTurn, Cond.selects RX2 yX2_loseTurn yX2_loseTurn, Cond.code yX2_loseTurn cX2_loseTurn 2 none, Cond.methodLink RX2 183 yX2_becomeIdle, Cond.instanceMethod yX2_becomeIdle, Cond.selects RX2 yX2_becomeIdle yX2_becomeIdle, Cond.code yX2_becomeIdle cX2_becomeIdle 2 none]
def wsX2_drop : List Cond := .code yX2_drop cX2_drop 6 (some .int) :: ((wsX2_drop_r1 ++ (wsX2_drop_r2 ++ wsX2_drop_r3)) ++ wsX10 ++ wsX20 ++ wsJx4a65c0 ++ wsX00 ++ (vx_atS RX2 66 "java/lang/IllegalStateException" ["java/lang/RuntimeException", "java/lang/Exception"]).filter goodWord ++ (vx_atS RX2 158 "java/lang/IndexOutOfBoundsException" ["java/lang/RuntimeException", "java/lang/Exception"]).filter goodWord)
def wsX2_isTurnTaken : List Cond := .code yX2_isTurnTaken cX2_isTurnTaken 7 (some .boolean) :: ([.fieldLink RX2 17 "FairFolio" "visitors" "[LFairFolio$Visitor;"] ++ wsX20 ++ wsX10)
def wsX2_firstFreeTurn : List Cond := .code yX2_firstFreeTurn cX2_firstFreeTurn 4 (some .int) :: ([.fieldLink RX2 21 "FairFolio" "now" "I", .methodLink RX2 164 yX2_isTurnTaken, .instanceMethod yX2_isTurnTaken, .selects RX2 yX2_isTurnTaken yX2_isTurnTaken, .initialized RX2, .code yX2_isTurnTaken cX2_isTurnTaken 7 (some .boolean), .fieldLink RX2 17 "FairFolio" "visitors" "[LFairFolio$Visitor;"] ++ wsX20 ++ wsX10)
def wsX2_ask : List Cond := .code yX2_ask cX2_ask 5 (some .int) :: ([.classLink RX2 62 "java/lang/IllegalStateException", .initialized "java/lang/IllegalStateException", .methodLink RX2 54 yX2_visitorAt, .instanceMethod yX2_visitorAt, .selects RX2 yX2_visitorAt yX2_visitorAt, .initialized RX2, .code yX2_visitorAt cX2_visitorAt 2 (some (.object "FairFolio$Visitor")), .classLink RX2 154 "java/lang/IndexOutOfBoundsException", .initialized "java/lang/IndexOutOfBoundsException", .fieldLink RX2 17 "FairFolio" "visitors" "[LFairFolio$Visitor;", .methodLink RX2 29 yX2_pavilionAt, .instanceMethod yX2_pavilionAt, .selects RX2 yX2_pavilionAt yX2_pavilionAt, .code yX2_pavilionAt cX2_pavilionAt 2 (some (.object "FairFolio$Pavilion")), .fieldLink RX2 11 "FairFolio" "pavilions" "[LFairFolio$Pavilion;", .methodLink RX2 103 yX2_firstFreeTurn, .instanceMethod yX2_firstFreeTurn, .selects RX2 yX2_firstFreeTurn yX2_firstFreeTurn, .code yX2_firstFreeTurn cX2_firstFreeTurn 4 (some .int), .fieldLink RX2 21 "FairFolio" "now" "I", .methodLink RX2 164 yX2_isTurnTaken, .instanceMethod yX2_isTurnTaken, .selects RX2 yX2_isTurnTaken yX2_isTurnTaken, .code yX2_isTurnTaken cX2_isTurnTaken 7 (some .boolean)] ++ wsX10 ++ wsX00 ++ wsX20 ++ (vx_atS RX2 66 "java/lang/IllegalStateException" ["java/lang/RuntimeException", "java/lang/Exception"]).filter goodWord ++ (vx_atS RX2 158 "java/lang/IndexOutOfBoundsException" ["java/lang/RuntimeException", "java/lang/Exception"]).filter goodWord)
def wsX2_endVisits : List Cond := .code yX2_endVisits cX2_endVisits 5 none :: ([.fieldLink RX2 17 "FairFolio" "visitors" "[LFairFolio$Visitor;", .fieldLink RX2 21 "FairFolio" "now" "I", .methodLink RX2 183 yX2_becomeIdle, .instanceMethod yX2_becomeIdle, .selects RX2 yX2_becomeIdle yX2_becomeIdle, .initialized RX2, .code yX2_becomeIdle cX2_becomeIdle 2 none] ++ wsX20 ++ wsX10)
def wsX2_countByTurn : List Cond := .code yX2_countByTurn cX2_countByTurn 7 (some .int) :: ([.fieldLink RX2 17 "FairFolio" "visitors" "[LFairFolio$Visitor;", .methodLink RX2 87 yX2_isAt, .instanceMethod yX2_isAt, .selects RX2 yX2_isAt yX2_isAt, .initialized RX2, .code yX2_isAt cX2_isAt 4 (some .boolean)] ++ wsX20 ++ wsX10 ++ wsX00)
def wsX2_joinQueue : List Cond := .code yX2_joinQueue cX2_joinQueue 8 none :: ([.fieldLink RX2 17 "FairFolio" "visitors" "[LFairFolio$Visitor;", .methodLink RX2 87 yX2_isAt, .instanceMethod yX2_isAt, .selects RX2 yX2_isAt yX2_isAt, .initialized RX2, .code yX2_isAt cX2_isAt 4 (some .boolean)] ++ wsX20 ++ wsX10 ++ wsX00)
def wsX2_takeTurn_r1 : List Cond := [Cond.methodLink RX2 189 yX2_loseTurn, Cond.instanceMethod yX2_loseTurn, Cond.selects RX2 yX2_loseTurn yX2_loseTurn, Cond.initialized RX2, Cond.code yX2_loseTurn cX2_loseTurn 2 none, Cond.methodLink RX2 94 yX2_leaveQueue, Cond.instanceMethod yX2_leaveQueue, Cond.selects RX2 yX2_leaveQueue yX2_leaveQueue, Cond.code yX2_leaveQueue cX2_leaveQueue 6 none, Cond.fieldLink RX2 17 "FairFolio" "visitors" "[LFairFolio$Visitor;", Cond.methodLink RX2 183 yX2_becomeIdle, Cond.instanceMethod yX2_becomeIdle, Cond.selects RX2 yX2_becomeIdle yX2_becomeIdle, Cond.code yX2_becomeIdle cX2_becomeIdle 2 none, Cond.methodLink RX2 192 yX2_countByTurn, Cond.instanceMethod yX2_countByTurn, Cond.selects RX2 yX2_countByTurn yX2_countByTurn, Cond.code yX2_countByTurn cX2_countByTurn 7 (some .int), Cond.methodLink RX2 87 yX2_isAt, Cond.instanceMethod yX2_isAt, Cond.selects RX2 yX2_isAt yX2_isAt, Cond.code yX2_isAt cX2_isAt 4 (some .boolean), Cond.methodLink RX2 195 yX2_joinQueue, Cond.instanceMethod yX2_joinQueue]
def wsX2_takeTurn_r2 : List Cond := [Cond.selects RX2 yX2_joinQueue yX2_joinQueue, Cond.code yX2_joinQueue cX2_joinQueue 8 none]
def wsX2_takeTurn : List Cond := .code yX2_takeTurn cX2_takeTurn 3 none :: ((wsX2_takeTurn_r1 ++ wsX2_takeTurn_r2) ++ wsX10 ++ wsX00 ++ wsX20)
def wsX2_takeTurns_r1 : List Cond := [Cond.fieldLink RX2 17 "FairFolio" "visitors" "[LFairFolio$Visitor;", Cond.fieldLink RX2 21 "FairFolio" "now" "I", Cond.methodLink RX2 186 yX2_takeTurn, Cond.instanceMethod yX2_takeTurn, Cond.selects RX2 yX2_takeTurn yX2_takeTurn, Cond.initialized RX2, Cond.code yX2_takeTurn cX2_takeTurn 3 none, Cond.methodLink RX2 189 yX2_loseTurn, Cond.instanceMethod yX2_loseTurn, Cond.selects RX2 yX2_loseTurn yX2_loseTurn, Cond.code yX2_loseTurn cX2_loseTurn 2 none, Cond.methodLink RX2 94 yX2_leaveQueue, Cond.instanceMethod yX2_leaveQueue, Cond.selects RX2 yX2_leaveQueue yX2_leaveQueue, Cond.code yX2_leaveQueue cX2_leaveQueue 6 none, Cond.methodLink RX2 183 yX2_becomeIdle, Cond.instanceMethod yX2_becomeIdle, Cond.selects RX2 yX2_becomeIdle yX2_becomeIdle, Cond.code yX2_becomeIdle cX2_becomeIdle 2 none, Cond.methodLink RX2 192 yX2_countByTurn, Cond.instanceMethod yX2_countByTurn, Cond.selects RX2 yX2_countByTurn yX2_countByTurn, Cond.code yX2_countByTurn cX2_countByTurn 7 (some .int), Cond.methodLink RX2 87 yX2_isAt]
def wsX2_takeTurns_r2 : List Cond := [Cond.instanceMethod yX2_isAt, Cond.selects RX2 yX2_isAt yX2_isAt, Cond.code yX2_isAt cX2_isAt 4 (some .boolean), Cond.methodLink RX2 195 yX2_joinQueue, Cond.instanceMethod yX2_joinQueue, Cond.selects RX2 yX2_joinQueue yX2_joinQueue, Cond.code yX2_joinQueue cX2_joinQueue 8 none]
def wsX2_takeTurns : List Cond := .code yX2_takeTurns cX2_takeTurns 5 none :: ((wsX2_takeTurns_r1 ++ wsX2_takeTurns_r2) ++ wsX20 ++ wsX10 ++ wsX00)
def wsX2_hasStamp : List Cond := .code yX2_hasStamp cX2_hasStamp 3 (some .boolean) :: ([] ++ wsX10 ++ wsX00)
def wsX2_countAt : List Cond := .code yX2_countAt cX2_countAt 8 (some .int) :: ([.fieldLink RX2 17 "FairFolio" "visitors" "[LFairFolio$Visitor;", .methodLink RX2 87 yX2_isAt, .instanceMethod yX2_isAt, .selects RX2 yX2_isAt yX2_isAt, .initialized RX2, .code yX2_isAt cX2_isAt 4 (some .boolean)] ++ wsX20 ++ wsX10 ++ wsX00)
def wsX2_followPlan_r1 : List Cond := [Cond.classLink RX2 9 "FairFolio$Pavilion", Cond.methodLink RX2 77 yJx4a65c_size_8abf5, Cond.instanceMethod yJx4a65c_size_8abf5, Cond.selects RJx4a65c yJx4a65c_size_8abf5 yJx4a65c_size_8abf5, Cond.initialized RJx4a65c, Cond.code yJx4a65c_size_8abf5 cJx4a65c_size_8abf5 1 (some .int), Cond.fieldLink RJx4a65c 48 "java/util/ArrayList" "size" "I", Cond.methodLink RX2 161 yJx4a65c_get_915e3, Cond.instanceMethod yJx4a65c_get_915e3, Cond.selects RJx4a65c yJx4a65c_get_915e3 yJx4a65c_get_915e3, Cond.code yJx4a65c_get_915e3 cJx4a65c_get_915e3 2 (some (.object "java/lang/Object")), Cond.methodLink RJx4a65c 118 yJ15_checkIndex_7cf53, Cond.static yJ15_checkIndex_7cf53, Cond.initialized RJ15, Cond.code yJ15_checkIndex_7cf53 cJ15_checkIndex_7cf53 2 (some .int), Cond.methodLink RJ15 105 yJ3_checkIndex_8e157, Cond.static yJ3_checkIndex_8e157, Cond.initialized RJ3, Cond.code yJ3_checkIndex_8e157 cJ3_checkIndex_8e157 3 (some .int), Cond.methodLink RJx4a65c 123 yJx4a65c_elementData_915e3, Cond.instanceMethod yJx4a65c_elementData_915e3, Cond.selects RJx4a65c yJx4a65c_elementData_915e3 yJx4a65c_elementData_915e3, Cond.code yJx4a65c_elementData_915e3 cJx4a65c_elementData_915e3 2 (some (.object "java/lang/Object")), Cond.fieldLink RJx4a65c 9 "java/util/ArrayList" "elementData" "[Ljava/lang/Object;"]
def wsX2_followPlan_r2 : List Cond := [Cond.methodLink RX2 117 yX2_hasStamp, Cond.instanceMethod yX2_hasStamp, Cond.selects RX2 yX2_hasStamp yX2_hasStamp, Cond.initialized RX2, Cond.code yX2_hasStamp cX2_hasStamp 3 (some .boolean), Cond.methodLink RX2 150 yX2_countAt, Cond.instanceMethod yX2_countAt, Cond.selects RX2 yX2_countAt yX2_countAt, Cond.code yX2_countAt cX2_countAt 8 (some .int), Cond.fieldLink RX2 17 "FairFolio" "visitors" "[LFairFolio$Visitor;", Cond.methodLink RX2 87 yX2_isAt, Cond.instanceMethod yX2_isAt, Cond.selects RX2 yX2_isAt yX2_isAt, Cond.code yX2_isAt cX2_isAt 4 (some .boolean), Cond.methodLink RX2 195 yX2_joinQueue, Cond.instanceMethod yX2_joinQueue, Cond.selects RX2 yX2_joinQueue yX2_joinQueue, Cond.code yX2_joinQueue cX2_joinQueue 8 none]
def wsX2_followPlan : List Cond := .code yX2_followPlan cX2_followPlan 4 none :: ((wsX2_followPlan_r1 ++ wsX2_followPlan_r2) ++ wsX10 ++ wsX00 ++ wsJx4a65c0 ++ wsX20)
def wsX2_followPlans_r1 : List Cond := [Cond.fieldLink RX2 17 "FairFolio" "visitors" "[LFairFolio$Visitor;", Cond.methodLink RX2 199 yX2_followPlan, Cond.instanceMethod yX2_followPlan, Cond.selects RX2 yX2_followPlan yX2_followPlan, Cond.initialized RX2, Cond.code yX2_followPlan cX2_followPlan 4 none, Cond.classLink RX2 9 "FairFolio$Pavilion", Cond.methodLink RX2 77 yJx4a65c_size_8abf5, Cond.instanceMethod yJx4a65c_size_8abf5, Cond.selects RJx4a65c yJx4a65c_size_8abf5 yJx4a65c_size_8abf5, Cond.initialized RJx4a65c, Cond.code yJx4a65c_size_8abf5 cJx4a65c_size_8abf5 1 (some .int), Cond.fieldLink RJx4a65c 48 "java/util/ArrayList" "size" "I", Cond.methodLink RX2 161 yJx4a65c_get_915e3, Cond.instanceMethod yJx4a65c_get_915e3, Cond.selects RJx4a65c yJx4a65c_get_915e3 yJx4a65c_get_915e3, Cond.code yJx4a65c_get_915e3 cJx4a65c_get_915e3 2 (some (.object "java/lang/Object")), Cond.methodLink RJx4a65c 118 yJ15_checkIndex_7cf53, Cond.static yJ15_checkIndex_7cf53, Cond.initialized RJ15, Cond.code yJ15_checkIndex_7cf53 cJ15_checkIndex_7cf53 2 (some .int), Cond.methodLink RJ15 105 yJ3_checkIndex_8e157, Cond.static yJ3_checkIndex_8e157, Cond.initialized RJ3]
def wsX2_followPlans_r2 : List Cond := [Cond.code yJ3_checkIndex_8e157 cJ3_checkIndex_8e157 3 (some .int), Cond.methodLink RJx4a65c 123 yJx4a65c_elementData_915e3, Cond.instanceMethod yJx4a65c_elementData_915e3, Cond.selects RJx4a65c yJx4a65c_elementData_915e3 yJx4a65c_elementData_915e3, Cond.code yJx4a65c_elementData_915e3 cJx4a65c_elementData_915e3 2 (some (.object "java/lang/Object")), Cond.fieldLink RJx4a65c 9 "java/util/ArrayList" "elementData" "[Ljava/lang/Object;", Cond.methodLink RX2 117 yX2_hasStamp, Cond.instanceMethod yX2_hasStamp, Cond.selects RX2 yX2_hasStamp yX2_hasStamp, Cond.code yX2_hasStamp cX2_hasStamp 3 (some .boolean), Cond.methodLink RX2 150 yX2_countAt, Cond.instanceMethod yX2_countAt, Cond.selects RX2 yX2_countAt yX2_countAt, Cond.code yX2_countAt cX2_countAt 8 (some .int), Cond.methodLink RX2 87 yX2_isAt, Cond.instanceMethod yX2_isAt, Cond.selects RX2 yX2_isAt yX2_isAt, Cond.code yX2_isAt cX2_isAt 4 (some .boolean), Cond.methodLink RX2 195 yX2_joinQueue, Cond.instanceMethod yX2_joinQueue, Cond.selects RX2 yX2_joinQueue yX2_joinQueue, Cond.code yX2_joinQueue cX2_joinQueue 8 none]
def wsX2_followPlans : List Cond := .code yX2_followPlans cX2_followPlans 5 none :: ((wsX2_followPlans_r1 ++ wsX2_followPlans_r2) ++ wsX20 ++ wsX10 ++ wsX00 ++ wsJx4a65c0)
def wsX2_firstInQueue : List Cond := .code yX2_firstInQueue cX2_firstInQueue 6 (some (.object "FairFolio$Visitor")) :: ([.fieldLink RX2 17 "FairFolio" "visitors" "[LFairFolio$Visitor;", .methodLink RX2 87 yX2_isAt, .instanceMethod yX2_isAt, .selects RX2 yX2_isAt yX2_isAt, .initialized RX2, .code yX2_isAt cX2_isAt 4 (some .boolean)] ++ wsX20 ++ wsX10 ++ wsX00)
def wsX2_goInside : List Cond := .code yX2_goInside cX2_goInside 3 none :: ([.fieldLink RX2 21 "FairFolio" "now" "I", .methodLink RX2 94 yX2_leaveQueue, .instanceMethod yX2_leaveQueue, .selects RX2 yX2_leaveQueue yX2_leaveQueue, .initialized RX2, .code yX2_leaveQueue cX2_leaveQueue 6 none, .fieldLink RX2 17 "FairFolio" "visitors" "[LFairFolio$Visitor;", .methodLink RX2 189 yX2_loseTurn, .instanceMethod yX2_loseTurn, .selects RX2 yX2_loseTurn yX2_loseTurn, .code yX2_loseTurn cX2_loseTurn 2 none, .methodLink RX2 183 yX2_becomeIdle, .instanceMethod yX2_becomeIdle, .selects RX2 yX2_becomeIdle yX2_becomeIdle, .code yX2_becomeIdle cX2_becomeIdle 2 none] ++ wsX10 ++ wsX00 ++ wsX20)
def wsX2_fillRoom_r1 : List Cond := [Cond.methodLink RX2 150 yX2_countAt, Cond.instanceMethod yX2_countAt, Cond.selects RX2 yX2_countAt yX2_countAt, Cond.initialized RX2, Cond.code yX2_countAt cX2_countAt 8 (some .int), Cond.fieldLink RX2 17 "FairFolio" "visitors" "[LFairFolio$Visitor;", Cond.methodLink RX2 87 yX2_isAt, Cond.instanceMethod yX2_isAt, Cond.selects RX2 yX2_isAt yX2_isAt, Cond.code yX2_isAt cX2_isAt 4 (some .boolean), Cond.methodLink RX2 206 yX2_firstInQueue, Cond.instanceMethod yX2_firstInQueue, Cond.selects RX2 yX2_firstInQueue yX2_firstInQueue, Cond.code yX2_firstInQueue cX2_firstInQueue 6 (some (.object "FairFolio$Visitor")), Cond.methodLink RX2 210 yX2_goInside, Cond.instanceMethod yX2_goInside, Cond.selects RX2 yX2_goInside yX2_goInside, Cond.code yX2_goInside cX2_goInside 3 none, Cond.fieldLink RX2 21 "FairFolio" "now" "I", Cond.methodLink RX2 94 yX2_leaveQueue, Cond.instanceMethod yX2_leaveQueue, Cond.selects RX2 yX2_leaveQueue yX2_leaveQueue, Cond.code yX2_leaveQueue cX2_leaveQueue 6 none, Cond.methodLink RX2 189 yX2_loseTurn]
def wsX2_fillRoom_r2 : List Cond := [Cond.instanceMethod yX2_loseTurn, Cond.selects RX2 yX2_loseTurn yX2_loseTurn, Cond.code yX2_loseTurn cX2_loseTurn 2 none, Cond.methodLink RX2 183 yX2_becomeIdle, Cond.instanceMethod yX2_becomeIdle, Cond.selects RX2 yX2_becomeIdle yX2_becomeIdle, Cond.code yX2_becomeIdle cX2_becomeIdle 2 none]
def wsX2_fillRoom : List Cond := .code yX2_fillRoom cX2_fillRoom 4 none :: ((wsX2_fillRoom_r1 ++ wsX2_fillRoom_r2) ++ wsX00 ++ wsX20 ++ wsX10)
def wsX2_letIn_r1 : List Cond := [Cond.fieldLink RX2 11 "FairFolio" "pavilions" "[LFairFolio$Pavilion;", Cond.methodLink RX2 202 yX2_fillRoom, Cond.instanceMethod yX2_fillRoom, Cond.selects RX2 yX2_fillRoom yX2_fillRoom, Cond.initialized RX2, Cond.code yX2_fillRoom cX2_fillRoom 4 none, Cond.methodLink RX2 150 yX2_countAt, Cond.instanceMethod yX2_countAt, Cond.selects RX2 yX2_countAt yX2_countAt, Cond.code yX2_countAt cX2_countAt 8 (some .int), Cond.fieldLink RX2 17 "FairFolio" "visitors" "[LFairFolio$Visitor;", Cond.methodLink RX2 87 yX2_isAt, Cond.instanceMethod yX2_isAt, Cond.selects RX2 yX2_isAt yX2_isAt, Cond.code yX2_isAt cX2_isAt 4 (some .boolean), Cond.methodLink RX2 206 yX2_firstInQueue, Cond.instanceMethod yX2_firstInQueue, Cond.selects RX2 yX2_firstInQueue yX2_firstInQueue, Cond.code yX2_firstInQueue cX2_firstInQueue 6 (some (.object "FairFolio$Visitor")), Cond.methodLink RX2 210 yX2_goInside, Cond.instanceMethod yX2_goInside, Cond.selects RX2 yX2_goInside yX2_goInside, Cond.code yX2_goInside cX2_goInside 3 none, Cond.fieldLink RX2 21 "FairFolio" "now" "I"]
def wsX2_letIn_r2 : List Cond := [Cond.methodLink RX2 94 yX2_leaveQueue, Cond.instanceMethod yX2_leaveQueue, Cond.selects RX2 yX2_leaveQueue yX2_leaveQueue, Cond.code yX2_leaveQueue cX2_leaveQueue 6 none, Cond.methodLink RX2 189 yX2_loseTurn, Cond.instanceMethod yX2_loseTurn, Cond.selects RX2 yX2_loseTurn yX2_loseTurn, Cond.code yX2_loseTurn cX2_loseTurn 2 none, Cond.methodLink RX2 183 yX2_becomeIdle, Cond.instanceMethod yX2_becomeIdle, Cond.selects RX2 yX2_becomeIdle yX2_becomeIdle, Cond.code yX2_becomeIdle cX2_becomeIdle 2 none]
def wsX2_letIn : List Cond := .code yX2_letIn cX2_letIn 5 none :: ((wsX2_letIn_r1 ++ wsX2_letIn_r2) ++ wsX20 ++ wsX00 ++ wsX10)
def wsX2_passMinute_r1 : List Cond := [Cond.fieldLink RX2 21 "FairFolio" "now" "I", Cond.methodLink RX2 168 yX2_endVisits, Cond.instanceMethod yX2_endVisits, Cond.selects RX2 yX2_endVisits yX2_endVisits, Cond.initialized RX2, Cond.code yX2_endVisits cX2_endVisits 5 none, Cond.fieldLink RX2 17 "FairFolio" "visitors" "[LFairFolio$Visitor;", Cond.methodLink RX2 183 yX2_becomeIdle, Cond.instanceMethod yX2_becomeIdle, Cond.selects RX2 yX2_becomeIdle yX2_becomeIdle, Cond.code yX2_becomeIdle cX2_becomeIdle 2 none, Cond.methodLink RX2 171 yX2_takeTurns, Cond.instanceMethod yX2_takeTurns, Cond.selects RX2 yX2_takeTurns yX2_takeTurns, Cond.code yX2_takeTurns cX2_takeTurns 5 none, Cond.methodLink RX2 186 yX2_takeTurn, Cond.instanceMethod yX2_takeTurn, Cond.selects RX2 yX2_takeTurn yX2_takeTurn, Cond.code yX2_takeTurn cX2_takeTurn 3 none, Cond.methodLink RX2 189 yX2_loseTurn, Cond.instanceMethod yX2_loseTurn, Cond.selects RX2 yX2_loseTurn yX2_loseTurn, Cond.code yX2_loseTurn cX2_loseTurn 2 none, Cond.methodLink RX2 94 yX2_leaveQueue]
def wsX2_passMinute_r2 : List Cond := [Cond.instanceMethod yX2_leaveQueue, Cond.selects RX2 yX2_leaveQueue yX2_leaveQueue, Cond.code yX2_leaveQueue cX2_leaveQueue 6 none, Cond.methodLink RX2 192 yX2_countByTurn, Cond.instanceMethod yX2_countByTurn, Cond.selects RX2 yX2_countByTurn yX2_countByTurn, Cond.code yX2_countByTurn cX2_countByTurn 7 (some .int), Cond.methodLink RX2 87 yX2_isAt, Cond.instanceMethod yX2_isAt, Cond.selects RX2 yX2_isAt yX2_isAt, Cond.code yX2_isAt cX2_isAt 4 (some .boolean), Cond.methodLink RX2 195 yX2_joinQueue, Cond.instanceMethod yX2_joinQueue, Cond.selects RX2 yX2_joinQueue yX2_joinQueue, Cond.code yX2_joinQueue cX2_joinQueue 8 none, Cond.methodLink RX2 174 yX2_followPlans, Cond.instanceMethod yX2_followPlans, Cond.selects RX2 yX2_followPlans yX2_followPlans, Cond.code yX2_followPlans cX2_followPlans 5 none, Cond.methodLink RX2 199 yX2_followPlan, Cond.instanceMethod yX2_followPlan, Cond.selects RX2 yX2_followPlan yX2_followPlan, Cond.code yX2_followPlan cX2_followPlan 4 none, Cond.classLink RX2 9 "FairFolio$Pavilion"]
def wsX2_passMinute_r3 : List Cond := [Cond.methodLink RX2 77 yJx4a65c_size_8abf5, Cond.instanceMethod yJx4a65c_size_8abf5, Cond.selects RJx4a65c yJx4a65c_size_8abf5 yJx4a65c_size_8abf5, Cond.initialized RJx4a65c, Cond.code yJx4a65c_size_8abf5 cJx4a65c_size_8abf5 1 (some .int), Cond.fieldLink RJx4a65c 48 "java/util/ArrayList" "size" "I", Cond.methodLink RX2 161 yJx4a65c_get_915e3, Cond.instanceMethod yJx4a65c_get_915e3, Cond.selects RJx4a65c yJx4a65c_get_915e3 yJx4a65c_get_915e3, Cond.code yJx4a65c_get_915e3 cJx4a65c_get_915e3 2 (some (.object "java/lang/Object")), Cond.methodLink RJx4a65c 118 yJ15_checkIndex_7cf53, Cond.static yJ15_checkIndex_7cf53, Cond.initialized RJ15, Cond.code yJ15_checkIndex_7cf53 cJ15_checkIndex_7cf53 2 (some .int), Cond.methodLink RJ15 105 yJ3_checkIndex_8e157, Cond.static yJ3_checkIndex_8e157, Cond.initialized RJ3, Cond.code yJ3_checkIndex_8e157 cJ3_checkIndex_8e157 3 (some .int), Cond.methodLink RJx4a65c 123 yJx4a65c_elementData_915e3, Cond.instanceMethod yJx4a65c_elementData_915e3, Cond.selects RJx4a65c yJx4a65c_elementData_915e3 yJx4a65c_elementData_915e3, Cond.code yJx4a65c_elementData_915e3 cJx4a65c_elementData_915e3 2 (some (.object "java/lang/Object")), Cond.fieldLink RJx4a65c 9 "java/util/ArrayList" "elementData" "[Ljava/lang/Object;", Cond.methodLink RX2 117 yX2_hasStamp]
def wsX2_passMinute_r4 : List Cond := [Cond.instanceMethod yX2_hasStamp, Cond.selects RX2 yX2_hasStamp yX2_hasStamp, Cond.code yX2_hasStamp cX2_hasStamp 3 (some .boolean), Cond.methodLink RX2 150 yX2_countAt, Cond.instanceMethod yX2_countAt, Cond.selects RX2 yX2_countAt yX2_countAt, Cond.code yX2_countAt cX2_countAt 8 (some .int), Cond.methodLink RX2 177 yX2_letIn, Cond.instanceMethod yX2_letIn, Cond.selects RX2 yX2_letIn yX2_letIn, Cond.code yX2_letIn cX2_letIn 5 none, Cond.fieldLink RX2 11 "FairFolio" "pavilions" "[LFairFolio$Pavilion;", Cond.methodLink RX2 202 yX2_fillRoom, Cond.instanceMethod yX2_fillRoom, Cond.selects RX2 yX2_fillRoom yX2_fillRoom, Cond.code yX2_fillRoom cX2_fillRoom 4 none, Cond.methodLink RX2 206 yX2_firstInQueue, Cond.instanceMethod yX2_firstInQueue, Cond.selects RX2 yX2_firstInQueue yX2_firstInQueue, Cond.code yX2_firstInQueue cX2_firstInQueue 6 (some (.object "FairFolio$Visitor")), Cond.methodLink RX2 210 yX2_goInside, Cond.instanceMethod yX2_goInside, Cond.selects RX2 yX2_goInside yX2_goInside, Cond.code yX2_goInside cX2_goInside 3 none]
def wsX2_passMinute : List Cond := .code yX2_passMinute cX2_passMinute 1 none :: ((wsX2_passMinute_r1 ++ (wsX2_passMinute_r2 ++ (wsX2_passMinute_r3 ++ wsX2_passMinute_r4))) ++ wsX20 ++ wsX10 ++ wsX00 ++ wsJx4a65c0)
def wsX2_advance_r1 : List Cond := [Cond.classLink RX2 33 "java/lang/IllegalArgumentException", Cond.initialized "java/lang/IllegalArgumentException", Cond.classLink RX2 62 "java/lang/IllegalStateException", Cond.initialized "java/lang/IllegalStateException", Cond.fieldLink RX2 21 "FairFolio" "now" "I", Cond.methodLink RX2 114 yX2_passMinute, Cond.instanceMethod yX2_passMinute, Cond.selects RX2 yX2_passMinute yX2_passMinute, Cond.initialized RX2, Cond.code yX2_passMinute cX2_passMinute 1 none, Cond.methodLink RX2 168 yX2_endVisits, Cond.instanceMethod yX2_endVisits, Cond.selects RX2 yX2_endVisits yX2_endVisits, Cond.code yX2_endVisits cX2_endVisits 5 none, Cond.fieldLink RX2 17 "FairFolio" "visitors" "[LFairFolio$Visitor;", Cond.methodLink RX2 183 yX2_becomeIdle, Cond.instanceMethod yX2_becomeIdle, Cond.selects RX2 yX2_becomeIdle yX2_becomeIdle, Cond.code yX2_becomeIdle cX2_becomeIdle 2 none, Cond.methodLink RX2 171 yX2_takeTurns, Cond.instanceMethod yX2_takeTurns, Cond.selects RX2 yX2_takeTurns yX2_takeTurns, Cond.code yX2_takeTurns cX2_takeTurns 5 none, Cond.methodLink RX2 186 yX2_takeTurn]
def wsX2_advance_r2 : List Cond := [Cond.instanceMethod yX2_takeTurn, Cond.selects RX2 yX2_takeTurn yX2_takeTurn, Cond.code yX2_takeTurn cX2_takeTurn 3 none, Cond.methodLink RX2 189 yX2_loseTurn, Cond.instanceMethod yX2_loseTurn, Cond.selects RX2 yX2_loseTurn yX2_loseTurn, Cond.code yX2_loseTurn cX2_loseTurn 2 none, Cond.methodLink RX2 94 yX2_leaveQueue, Cond.instanceMethod yX2_leaveQueue, Cond.selects RX2 yX2_leaveQueue yX2_leaveQueue, Cond.code yX2_leaveQueue cX2_leaveQueue 6 none, Cond.methodLink RX2 192 yX2_countByTurn, Cond.instanceMethod yX2_countByTurn, Cond.selects RX2 yX2_countByTurn yX2_countByTurn, Cond.code yX2_countByTurn cX2_countByTurn 7 (some .int), Cond.methodLink RX2 87 yX2_isAt, Cond.instanceMethod yX2_isAt, Cond.selects RX2 yX2_isAt yX2_isAt, Cond.code yX2_isAt cX2_isAt 4 (some .boolean), Cond.methodLink RX2 195 yX2_joinQueue, Cond.instanceMethod yX2_joinQueue, Cond.selects RX2 yX2_joinQueue yX2_joinQueue, Cond.code yX2_joinQueue cX2_joinQueue 8 none, Cond.methodLink RX2 174 yX2_followPlans]
def wsX2_advance_r3 : List Cond := [Cond.instanceMethod yX2_followPlans, Cond.selects RX2 yX2_followPlans yX2_followPlans, Cond.code yX2_followPlans cX2_followPlans 5 none, Cond.methodLink RX2 199 yX2_followPlan, Cond.instanceMethod yX2_followPlan, Cond.selects RX2 yX2_followPlan yX2_followPlan, Cond.code yX2_followPlan cX2_followPlan 4 none, Cond.classLink RX2 9 "FairFolio$Pavilion", Cond.methodLink RX2 77 yJx4a65c_size_8abf5, Cond.instanceMethod yJx4a65c_size_8abf5, Cond.selects RJx4a65c yJx4a65c_size_8abf5 yJx4a65c_size_8abf5, Cond.initialized RJx4a65c, Cond.code yJx4a65c_size_8abf5 cJx4a65c_size_8abf5 1 (some .int), Cond.fieldLink RJx4a65c 48 "java/util/ArrayList" "size" "I", Cond.methodLink RX2 161 yJx4a65c_get_915e3, Cond.instanceMethod yJx4a65c_get_915e3, Cond.selects RJx4a65c yJx4a65c_get_915e3 yJx4a65c_get_915e3, Cond.code yJx4a65c_get_915e3 cJx4a65c_get_915e3 2 (some (.object "java/lang/Object")), Cond.methodLink RJx4a65c 118 yJ15_checkIndex_7cf53, Cond.static yJ15_checkIndex_7cf53, Cond.initialized RJ15, Cond.code yJ15_checkIndex_7cf53 cJ15_checkIndex_7cf53 2 (some .int), Cond.methodLink RJ15 105 yJ3_checkIndex_8e157, Cond.static yJ3_checkIndex_8e157]
def wsX2_advance_r4 : List Cond := [Cond.initialized RJ3, Cond.code yJ3_checkIndex_8e157 cJ3_checkIndex_8e157 3 (some .int), Cond.methodLink RJx4a65c 123 yJx4a65c_elementData_915e3, Cond.instanceMethod yJx4a65c_elementData_915e3, Cond.selects RJx4a65c yJx4a65c_elementData_915e3 yJx4a65c_elementData_915e3, Cond.code yJx4a65c_elementData_915e3 cJx4a65c_elementData_915e3 2 (some (.object "java/lang/Object")), Cond.fieldLink RJx4a65c 9 "java/util/ArrayList" "elementData" "[Ljava/lang/Object;", Cond.methodLink RX2 117 yX2_hasStamp, Cond.instanceMethod yX2_hasStamp, Cond.selects RX2 yX2_hasStamp yX2_hasStamp, Cond.code yX2_hasStamp cX2_hasStamp 3 (some .boolean), Cond.methodLink RX2 150 yX2_countAt, Cond.instanceMethod yX2_countAt, Cond.selects RX2 yX2_countAt yX2_countAt, Cond.code yX2_countAt cX2_countAt 8 (some .int), Cond.methodLink RX2 177 yX2_letIn, Cond.instanceMethod yX2_letIn, Cond.selects RX2 yX2_letIn yX2_letIn, Cond.code yX2_letIn cX2_letIn 5 none, Cond.fieldLink RX2 11 "FairFolio" "pavilions" "[LFairFolio$Pavilion;", Cond.methodLink RX2 202 yX2_fillRoom, Cond.instanceMethod yX2_fillRoom, Cond.selects RX2 yX2_fillRoom yX2_fillRoom, Cond.code yX2_fillRoom cX2_fillRoom 4 none]
def wsX2_advance_r5 : List Cond := [Cond.methodLink RX2 206 yX2_firstInQueue, Cond.instanceMethod yX2_firstInQueue, Cond.selects RX2 yX2_firstInQueue yX2_firstInQueue, Cond.code yX2_firstInQueue cX2_firstInQueue 6 (some (.object "FairFolio$Visitor")), Cond.methodLink RX2 210 yX2_goInside, Cond.instanceMethod yX2_goInside, Cond.selects RX2 yX2_goInside yX2_goInside, Cond.code yX2_goInside cX2_goInside 3 none]
def wsX2_advance : List Cond := .code yX2_advance cX2_advance 3 (some .int) :: ((wsX2_advance_r1 ++ (wsX2_advance_r2 ++ (wsX2_advance_r3 ++ (wsX2_advance_r4 ++ wsX2_advance_r5)))) ++ wsX20 ++ wsX10 ++ wsX00 ++ wsJx4a65c0 ++ (vx_atS RX2 37 "java/lang/IllegalArgumentException" ["java/lang/RuntimeException", "java/lang/Exception"]).filter goodWord ++ (vx_atS RX2 66 "java/lang/IllegalStateException" ["java/lang/RuntimeException", "java/lang/Exception"]).filter goodWord)
def wsX2_send : List Cond := .code yX2_send cX2_send 5 (some .boolean) :: ([.classLink RX2 62 "java/lang/IllegalStateException", .initialized "java/lang/IllegalStateException", .methodLink RX2 54 yX2_visitorAt, .instanceMethod yX2_visitorAt, .selects RX2 yX2_visitorAt yX2_visitorAt, .initialized RX2, .code yX2_visitorAt cX2_visitorAt 2 (some (.object "FairFolio$Visitor")), .classLink RX2 154 "java/lang/IndexOutOfBoundsException", .initialized "java/lang/IndexOutOfBoundsException", .fieldLink RX2 17 "FairFolio" "visitors" "[LFairFolio$Visitor;", .methodLink RX2 29 yX2_pavilionAt, .instanceMethod yX2_pavilionAt, .selects RX2 yX2_pavilionAt yX2_pavilionAt, .code yX2_pavilionAt cX2_pavilionAt 2 (some (.object "FairFolio$Pavilion")), .fieldLink RX2 11 "FairFolio" "pavilions" "[LFairFolio$Pavilion;", .methodLink RX2 117 yX2_hasStamp, .instanceMethod yX2_hasStamp, .selects RX2 yX2_hasStamp yX2_hasStamp, .code yX2_hasStamp cX2_hasStamp 3 (some .boolean)] ++ wsX00 ++ wsX10 ++ wsX20 ++ (vx_atS RX2 66 "java/lang/IllegalStateException" ["java/lang/RuntimeException", "java/lang/Exception"]).filter goodWord ++ (vx_atS RX2 158 "java/lang/IndexOutOfBoundsException" ["java/lang/RuntimeException", "java/lang/Exception"]).filter goodWord)
def wsX2_reprint : List Cond := .code yX2_reprint cX2_reprint 7 (some .int) :: ([.classLink RX2 33 "java/lang/IllegalArgumentException", .initialized "java/lang/IllegalArgumentException", .fieldLink RX2 11 "FairFolio" "pavilions" "[LFairFolio$Pavilion;"] ++ wsX20 ++ wsX00 ++ (vx_atS RX2 37 "java/lang/IllegalArgumentException" ["java/lang/RuntimeException", "java/lang/Exception"]).filter goodWord)
def wsX2_minute : List Cond := .code yX2_minute cX2_minute 1 (some .int) :: ([.fieldLink RX2 21 "FairFolio" "now" "I"] ++ wsX20)
def wsX2_stateOf : List Cond := .code yX2_stateOf cX2_stateOf 2 (some .int) :: ([.methodLink RX2 54 yX2_visitorAt, .instanceMethod yX2_visitorAt, .selects RX2 yX2_visitorAt yX2_visitorAt, .initialized RX2, .code yX2_visitorAt cX2_visitorAt 2 (some (.object "FairFolio$Visitor")), .classLink RX2 154 "java/lang/IndexOutOfBoundsException", .initialized "java/lang/IndexOutOfBoundsException", .fieldLink RX2 17 "FairFolio" "visitors" "[LFairFolio$Visitor;"] ++ wsX10 ++ wsX20 ++ (vx_atS RX2 158 "java/lang/IndexOutOfBoundsException" ["java/lang/RuntimeException", "java/lang/Exception"]).filter goodWord)
def wsX2_whereIs : List Cond := .code yX2_whereIs cX2_whereIs 2 (some .int) :: ([.methodLink RX2 54 yX2_visitorAt, .instanceMethod yX2_visitorAt, .selects RX2 yX2_visitorAt yX2_visitorAt, .initialized RX2, .code yX2_visitorAt cX2_visitorAt 2 (some (.object "FairFolio$Visitor")), .classLink RX2 154 "java/lang/IndexOutOfBoundsException", .initialized "java/lang/IndexOutOfBoundsException", .fieldLink RX2 17 "FairFolio" "visitors" "[LFairFolio$Visitor;"] ++ wsX10 ++ wsX20 ++ (vx_atS RX2 158 "java/lang/IndexOutOfBoundsException" ["java/lang/RuntimeException", "java/lang/Exception"]).filter goodWord)
def wsX2_placeOf : List Cond := .code yX2_placeOf cX2_placeOf 2 (some .int) :: ([.methodLink RX2 54 yX2_visitorAt, .instanceMethod yX2_visitorAt, .selects RX2 yX2_visitorAt yX2_visitorAt, .initialized RX2, .code yX2_visitorAt cX2_visitorAt 2 (some (.object "FairFolio$Visitor")), .classLink RX2 154 "java/lang/IndexOutOfBoundsException", .initialized "java/lang/IndexOutOfBoundsException", .fieldLink RX2 17 "FairFolio" "visitors" "[LFairFolio$Visitor;"] ++ wsX10 ++ wsX20 ++ (vx_atS RX2 158 "java/lang/IndexOutOfBoundsException" ["java/lang/RuntimeException", "java/lang/Exception"]).filter goodWord)
def wsX2_turnOf : List Cond := .code yX2_turnOf cX2_turnOf 2 (some .int) :: ([.methodLink RX2 54 yX2_visitorAt, .instanceMethod yX2_visitorAt, .selects RX2 yX2_visitorAt yX2_visitorAt, .initialized RX2, .code yX2_visitorAt cX2_visitorAt 2 (some (.object "FairFolio$Visitor")), .classLink RX2 154 "java/lang/IndexOutOfBoundsException", .initialized "java/lang/IndexOutOfBoundsException", .fieldLink RX2 17 "FairFolio" "visitors" "[LFairFolio$Visitor;"] ++ wsX10 ++ wsX20 ++ (vx_atS RX2 158 "java/lang/IndexOutOfBoundsException" ["java/lang/RuntimeException", "java/lang/Exception"]).filter goodWord)
def wsX2_stamps : List Cond := .code yX2_stamps cX2_stamps 2 (some .int) :: ([.methodLink RX2 54 yX2_visitorAt, .instanceMethod yX2_visitorAt, .selects RX2 yX2_visitorAt yX2_visitorAt, .initialized RX2, .code yX2_visitorAt cX2_visitorAt 2 (some (.object "FairFolio$Visitor")), .classLink RX2 154 "java/lang/IndexOutOfBoundsException", .initialized "java/lang/IndexOutOfBoundsException", .fieldLink RX2 17 "FairFolio" "visitors" "[LFairFolio$Visitor;"] ++ wsX10 ++ wsX20 ++ (vx_atS RX2 158 "java/lang/IndexOutOfBoundsException" ["java/lang/RuntimeException", "java/lang/Exception"]).filter goodWord)
def wsX2_queue : List Cond := .code yX2_queue cX2_queue 2 (some .int) :: ([.methodLink RX2 29 yX2_pavilionAt, .instanceMethod yX2_pavilionAt, .selects RX2 yX2_pavilionAt yX2_pavilionAt, .initialized RX2, .code yX2_pavilionAt cX2_pavilionAt 2 (some (.object "FairFolio$Pavilion")), .classLink RX2 154 "java/lang/IndexOutOfBoundsException", .initialized "java/lang/IndexOutOfBoundsException", .fieldLink RX2 11 "FairFolio" "pavilions" "[LFairFolio$Pavilion;", .methodLink RX2 150 yX2_countAt, .instanceMethod yX2_countAt, .selects RX2 yX2_countAt yX2_countAt, .code yX2_countAt cX2_countAt 8 (some .int), .fieldLink RX2 17 "FairFolio" "visitors" "[LFairFolio$Visitor;", .methodLink RX2 87 yX2_isAt, .instanceMethod yX2_isAt, .selects RX2 yX2_isAt yX2_isAt, .code yX2_isAt cX2_isAt 4 (some .boolean)] ++ wsX20 ++ wsX10 ++ wsX00 ++ (vx_atS RX2 158 "java/lang/IndexOutOfBoundsException" ["java/lang/RuntimeException", "java/lang/Exception"]).filter goodWord)
def wsX2_inside : List Cond := .code yX2_inside cX2_inside 2 (some .int) :: ([.methodLink RX2 29 yX2_pavilionAt, .instanceMethod yX2_pavilionAt, .selects RX2 yX2_pavilionAt yX2_pavilionAt, .initialized RX2, .code yX2_pavilionAt cX2_pavilionAt 2 (some (.object "FairFolio$Pavilion")), .classLink RX2 154 "java/lang/IndexOutOfBoundsException", .initialized "java/lang/IndexOutOfBoundsException", .fieldLink RX2 11 "FairFolio" "pavilions" "[LFairFolio$Pavilion;", .methodLink RX2 150 yX2_countAt, .instanceMethod yX2_countAt, .selects RX2 yX2_countAt yX2_countAt, .code yX2_countAt cX2_countAt 8 (some .int), .fieldLink RX2 17 "FairFolio" "visitors" "[LFairFolio$Visitor;", .methodLink RX2 87 yX2_isAt, .instanceMethod yX2_isAt, .selects RX2 yX2_isAt yX2_isAt, .code yX2_isAt cX2_isAt 4 (some .boolean)] ++ wsX20 ++ wsX10 ++ wsX00 ++ (vx_atS RX2 158 "java/lang/IndexOutOfBoundsException" ["java/lang/RuntimeException", "java/lang/Exception"]).filter goodWord)
def wsX2_stock : List Cond := .code yX2_stock cX2_stock 2 (some .int) :: ([.methodLink RX2 29 yX2_pavilionAt, .instanceMethod yX2_pavilionAt, .selects RX2 yX2_pavilionAt yX2_pavilionAt, .initialized RX2, .code yX2_pavilionAt cX2_pavilionAt 2 (some (.object "FairFolio$Pavilion")), .classLink RX2 154 "java/lang/IndexOutOfBoundsException", .initialized "java/lang/IndexOutOfBoundsException", .fieldLink RX2 11 "FairFolio" "pavilions" "[LFairFolio$Pavilion;"] ++ wsX00 ++ wsX20 ++ (vx_atS RX2 158 "java/lang/IndexOutOfBoundsException" ["java/lang/RuntimeException", "java/lang/Exception"]).filter goodWord)
def wsX2_demand : List Cond := .code yX2_demand cX2_demand 2 (some .int) :: ([.methodLink RX2 29 yX2_pavilionAt, .instanceMethod yX2_pavilionAt, .selects RX2 yX2_pavilionAt yX2_pavilionAt, .initialized RX2, .code yX2_pavilionAt cX2_pavilionAt 2 (some (.object "FairFolio$Pavilion")), .classLink RX2 154 "java/lang/IndexOutOfBoundsException", .initialized "java/lang/IndexOutOfBoundsException", .fieldLink RX2 11 "FairFolio" "pavilions" "[LFairFolio$Pavilion;"] ++ wsX00 ++ wsX20 ++ (vx_atS RX2 158 "java/lang/IndexOutOfBoundsException" ["java/lang/RuntimeException", "java/lang/Exception"]).filter goodWord)
def wsX2_sent : List Cond := .code yX2_sent cX2_sent 5 (some .int) :: ([.methodLink RX2 54 yX2_visitorAt, .instanceMethod yX2_visitorAt, .selects RX2 yX2_visitorAt yX2_visitorAt, .initialized RX2, .code yX2_visitorAt cX2_visitorAt 2 (some (.object "FairFolio$Visitor")), .classLink RX2 154 "java/lang/IndexOutOfBoundsException", .initialized "java/lang/IndexOutOfBoundsException", .fieldLink RX2 17 "FairFolio" "visitors" "[LFairFolio$Visitor;", .methodLink RX2 29 yX2_pavilionAt, .instanceMethod yX2_pavilionAt, .selects RX2 yX2_pavilionAt yX2_pavilionAt, .code yX2_pavilionAt cX2_pavilionAt 2 (some (.object "FairFolio$Pavilion")), .fieldLink RX2 11 "FairFolio" "pavilions" "[LFairFolio$Pavilion;"] ++ wsX10 ++ wsX00 ++ wsX20 ++ (vx_atS RX2 158 "java/lang/IndexOutOfBoundsException" ["java/lang/RuntimeException", "java/lang/Exception"]).filter goodWord)
def wsX3_init : List Cond := .code yX3_init cX3_init 2 none :: ([.methodLink RX3 1 objectInit, .instanceMethod objectInit, .code objectInit ⟨#[0xb1]⟩ 1 none, .arrayClass .int, .fieldLink RX3 7 "FairFolioModel" "room" "[I", .fieldLink RX3 13 "FairFolioModel" "takes" "[I", .arrayClass .boolean, .fieldLink RX3 16 "FairFolioModel" "isClosed" "[Z", .fieldLink RX3 20 "FairFolioModel" "queue" "[I", .fieldLink RX3 23 "FairFolioModel" "waiting" "[I", .fieldLink RX3 26 "FairFolioModel" "plan" "[I", .fieldLink RX3 29 "FairFolioModel" "planned" "[I", .fieldLink RX3 32 "FairFolioModel" "state" "[I", .fieldLink RX3 35 "FairFolioModel" "where" "[I", .fieldLink RX3 38 "FairFolioModel" "until" "[I", .fieldLink RX3 41 "FairFolioModel" "stamps" "[I", .fieldLink RX3 44 "FairFolioModel" "turn" "[I", .fieldLink RX3 47 "FairFolioModel" "turnFor" "[I", .fieldLink RX3 50 "FairFolioModel" "isByTurn" "[Z", .fieldLink RX3 53 "FairFolioModel" "stock" "[I", .fieldLink RX3 56 "FairFolioModel" "demand" "[I", .fieldLink RX3 59 "FairFolioModel" "sent" "[I"] ++ wsX30)
def wsX3_thrown : List Cond := .code yX3_thrown cX3_thrown 1 (some .int) :: ([.fieldLink RX3 62 "FairFolioModel" "thrown" "I"] ++ wsX30)
def wsX3_goes : List Cond := .code yX3_goes cX3_goes 3 (some .boolean) :: ([.fieldLink RX3 62 "FairFolioModel" "thrown" "I"] ++ wsX30)
def wsX3_isPavilion : List Cond := .code yX3_isPavilion cX3_isPavilion 1 (some .boolean) :: ([])
def wsX3_isVisitor : List Cond := .code yX3_isVisitor cX3_isVisitor 1 (some .boolean) :: ([])
def wsX3_puts : List Cond := .code yX3_puts cX3_puts 5 none :: ([.fieldLink RX3 23 "FairFolioModel" "waiting" "[I", .fieldLink RX3 20 "FairFolioModel" "queue" "[I", .fieldLink RX3 32 "FairFolioModel" "state" "[I", .fieldLink RX3 35 "FairFolioModel" "where" "[I"] ++ wsX30)
def wsX3_placeIn : List Cond := .code yX3_placeIn cX3_placeIn 5 (some .int) :: ([.fieldLink RX3 23 "FairFolioModel" "waiting" "[I", .fieldLink RX3 20 "FairFolioModel" "queue" "[I"] ++ wsX30)
def wsX3_leaves : List Cond := .code yX3_leaves cX3_leaves 5 none :: ([.fieldLink RX3 35 "FairFolioModel" "where" "[I", .fieldLink RX3 23 "FairFolioModel" "waiting" "[I", .fieldLink RX3 20 "FairFolioModel" "queue" "[I", .fieldLink RX3 32 "FairFolioModel" "state" "[I", .methodLink RX3 66 yX3_placeIn, .instanceMethod yX3_placeIn, .selects RX3 yX3_placeIn yX3_placeIn, .initialized RX3, .code yX3_placeIn cX3_placeIn 5 (some .int)] ++ wsX30)
def wsX3_loses : List Cond := .code yX3_loses cX3_loses 2 none :: ([.fieldLink RX3 44 "FairFolioModel" "turn" "[I", .fieldLink RX3 50 "FairFolioModel" "isByTurn" "[Z"] ++ wsX30)
def wsX3_insideOf : List Cond := .code yX3_insideOf cX3_insideOf 4 (some .int) :: ([.fieldLink RX3 32 "FairFolioModel" "state" "[I", .fieldLink RX3 35 "FairFolioModel" "where" "[I"] ++ wsX30)
def wsX3_setPavilion : List Cond := .code yX3_setPavilion cX3_setPavilion 4 none :: ([.fieldLink RX3 7 "FairFolioModel" "room" "[I", .fieldLink RX3 13 "FairFolioModel" "takes" "[I", .methodLink RX3 70 yX3_isPavilion, .static yX3_isPavilion, .initialized RX3, .code yX3_isPavilion cX3_isPavilion 1 (some .boolean), .methodLink RX3 74 yX3_goes, .instanceMethod yX3_goes, .selects RX3 yX3_goes yX3_goes, .code yX3_goes cX3_goes 3 (some .boolean), .fieldLink RX3 62 "FairFolioModel" "thrown" "I"] ++ wsX30)
def wsX3_open_r1 : List Cond := [Cond.fieldLink RX3 16 "FairFolioModel" "isClosed" "[Z", Cond.fieldLink RX3 23 "FairFolioModel" "waiting" "[I", Cond.fieldLink RX3 20 "FairFolioModel" "queue" "[I", Cond.fieldLink RX3 50 "FairFolioModel" "isByTurn" "[Z", Cond.methodLink RX3 70 yX3_isPavilion, Cond.static yX3_isPavilion, Cond.initialized RX3, Cond.code yX3_isPavilion cX3_isPavilion 1 (some .boolean), Cond.methodLink RX3 74 yX3_goes, Cond.instanceMethod yX3_goes, Cond.selects RX3 yX3_goes yX3_goes, Cond.code yX3_goes cX3_goes 3 (some .boolean), Cond.fieldLink RX3 62 "FairFolioModel" "thrown" "I", Cond.methodLink RX3 78 yX3_leaves, Cond.instanceMethod yX3_leaves, Cond.selects RX3 yX3_leaves yX3_leaves, Cond.code yX3_leaves cX3_leaves 5 none, Cond.fieldLink RX3 35 "FairFolioModel" "where" "[I", Cond.fieldLink RX3 32 "FairFolioModel" "state" "[I", Cond.methodLink RX3 66 yX3_placeIn, Cond.instanceMethod yX3_placeIn, Cond.selects RX3 yX3_placeIn yX3_placeIn, Cond.code yX3_placeIn cX3_placeIn 5 (some .int), Cond.methodLink RX3 82 yX3_loses]
def wsX3_open_r2 : List Cond := [Cond.instanceMethod yX3_loses, Cond.selects RX3 yX3_loses yX3_loses, Cond.code yX3_loses cX3_loses 2 none, Cond.fieldLink RX3 44 "FairFolioModel" "turn" "[I"]
def wsX3_open : List Cond := .code yX3_open cX3_open 5 (some .int) :: ((wsX3_open_r1 ++ wsX3_open_r2) ++ wsX30)
def wsX3_placeInPlan : List Cond := .code yX3_placeInPlan cX3_placeInPlan 5 (some .int) :: ([.fieldLink RX3 29 "FairFolioModel" "planned" "[I", .fieldLink RX3 26 "FairFolioModel" "plan" "[I"] ++ wsX30)
def wsX3_plan : List Cond := .code yX3_plan cX3_plan 4 (some .int) :: ([.fieldLink RX3 26 "FairFolioModel" "plan" "[I", .fieldLink RX3 29 "FairFolioModel" "planned" "[I", .methodLink RX3 85 yX3_isVisitor, .static yX3_isVisitor, .initialized RX3, .code yX3_isVisitor cX3_isVisitor 1 (some .boolean), .methodLink RX3 70 yX3_isPavilion, .static yX3_isPavilion, .code yX3_isPavilion cX3_isPavilion 1 (some .boolean), .methodLink RX3 88 yX3_placeInPlan, .instanceMethod yX3_placeInPlan, .selects RX3 yX3_placeInPlan yX3_placeInPlan, .code yX3_placeInPlan cX3_placeInPlan 5 (some .int), .methodLink RX3 74 yX3_goes, .instanceMethod yX3_goes, .selects RX3 yX3_goes yX3_goes, .code yX3_goes cX3_goes 3 (some .boolean), .fieldLink RX3 62 "FairFolioModel" "thrown" "I"] ++ wsX30)
def wsX3_drop_r1 : List Cond := [Cond.fieldLink RX3 29 "FairFolioModel" "planned" "[I", Cond.fieldLink RX3 26 "FairFolioModel" "plan" "[I", Cond.fieldLink RX3 32 "FairFolioModel" "state" "[I", Cond.fieldLink RX3 35 "FairFolioModel" "where" "[I", Cond.fieldLink RX3 50 "FairFolioModel" "isByTurn" "[Z", Cond.methodLink RX3 85 yX3_isVisitor, Cond.static yX3_isVisitor, Cond.initialized RX3, Cond.code yX3_isVisitor cX3_isVisitor 1 (some .boolean), Cond.methodLink RX3 70 yX3_isPavilion, Cond.static yX3_isPavilion, Cond.code yX3_isPavilion cX3_isPavilion 1 (some .boolean), Cond.methodLink RX3 88 yX3_placeInPlan, Cond.instanceMethod yX3_placeInPlan, Cond.selects RX3 yX3_placeInPlan yX3_placeInPlan, Cond.code yX3_placeInPlan cX3_placeInPlan 5 (some .int), Cond.methodLink RX3 74 yX3_goes, Cond.instanceMethod yX3_goes, Cond.selects RX3 yX3_goes yX3_goes, Cond.code yX3_goes cX3_goes 3 (some .boolean), Cond.fieldLink RX3 62 "FairFolioModel" "thrown" "I", Cond.methodLink RX3 78 yX3_leaves, Cond.instanceMethod yX3_leaves, Cond.selects RX3 yX3_leaves yX3_leaves]
def wsX3_drop_r2 : List Cond := [Cond.code yX3_leaves cX3_leaves 5 none, Cond.fieldLink RX3 23 "FairFolioModel" "waiting" "[I", Cond.fieldLink RX3 20 "FairFolioModel" "queue" "[I", Cond.methodLink RX3 66 yX3_placeIn, Cond.instanceMethod yX3_placeIn, Cond.selects RX3 yX3_placeIn yX3_placeIn, Cond.code yX3_placeIn cX3_placeIn 5 (some .int)]
def wsX3_drop : List Cond := .code yX3_drop cX3_drop 6 (some .int) :: ((wsX3_drop_r1 ++ wsX3_drop_r2) ++ wsX30)
def wsX3_ask : List Cond := .code yX3_ask cX3_ask 7 (some .int) :: ([.fieldLink RX3 44 "FairFolioModel" "turn" "[I", .fieldLink RX3 16 "FairFolioModel" "isClosed" "[Z", .fieldLink RX3 91 "FairFolioModel" "minute" "I", .fieldLink RX3 47 "FairFolioModel" "turnFor" "[I", .fieldLink RX3 50 "FairFolioModel" "isByTurn" "[Z", .methodLink RX3 85 yX3_isVisitor, .static yX3_isVisitor, .initialized RX3, .code yX3_isVisitor cX3_isVisitor 1 (some .boolean), .methodLink RX3 70 yX3_isPavilion, .static yX3_isPavilion, .code yX3_isPavilion cX3_isPavilion 1 (some .boolean), .methodLink RX3 74 yX3_goes, .instanceMethod yX3_goes, .selects RX3 yX3_goes yX3_goes, .code yX3_goes cX3_goes 3 (some .boolean), .fieldLink RX3 62 "FairFolioModel" "thrown" "I"] ++ wsX30)
def wsX3_comeOut : List Cond := .code yX3_comeOut cX3_comeOut 2 none :: ([.fieldLink RX3 32 "FairFolioModel" "state" "[I", .fieldLink RX3 38 "FairFolioModel" "until" "[I", .fieldLink RX3 91 "FairFolioModel" "minute" "I", .fieldLink RX3 41 "FairFolioModel" "stamps" "[I", .fieldLink RX3 35 "FairFolioModel" "where" "[I"] ++ wsX30)
def wsX3_takeTurns_r1 : List Cond := [Cond.fieldLink RX3 44 "FairFolioModel" "turn" "[I", Cond.fieldLink RX3 91 "FairFolioModel" "minute" "I", Cond.fieldLink RX3 50 "FairFolioModel" "isByTurn" "[Z", Cond.fieldLink RX3 47 "FairFolioModel" "turnFor" "[I", Cond.fieldLink RX3 32 "FairFolioModel" "state" "[I", Cond.fieldLink RX3 16 "FairFolioModel" "isClosed" "[Z", Cond.fieldLink RX3 23 "FairFolioModel" "waiting" "[I", Cond.fieldLink RX3 20 "FairFolioModel" "queue" "[I", Cond.methodLink RX3 82 yX3_loses, Cond.instanceMethod yX3_loses, Cond.selects RX3 yX3_loses yX3_loses, Cond.initialized RX3, Cond.code yX3_loses cX3_loses 2 none, Cond.methodLink RX3 78 yX3_leaves, Cond.instanceMethod yX3_leaves, Cond.selects RX3 yX3_leaves yX3_leaves, Cond.code yX3_leaves cX3_leaves 5 none, Cond.fieldLink RX3 35 "FairFolioModel" "where" "[I", Cond.methodLink RX3 66 yX3_placeIn, Cond.instanceMethod yX3_placeIn, Cond.selects RX3 yX3_placeIn yX3_placeIn, Cond.code yX3_placeIn cX3_placeIn 5 (some .int), Cond.methodLink RX3 94 yX3_puts, Cond.instanceMethod yX3_puts]
def wsX3_takeTurns_r2 : List Cond := [Cond.selects RX3 yX3_puts yX3_puts, Cond.code yX3_puts cX3_puts 5 none]
def wsX3_takeTurns : List Cond := .code yX3_takeTurns cX3_takeTurns 4 none :: ((wsX3_takeTurns_r1 ++ wsX3_takeTurns_r2) ++ wsX30)
def wsX3_goOn : List Cond := .code yX3_goOn cX3_goOn 4 none :: ([.fieldLink RX3 29 "FairFolioModel" "planned" "[I", .fieldLink RX3 32 "FairFolioModel" "state" "[I", .fieldLink RX3 26 "FairFolioModel" "plan" "[I", .fieldLink RX3 16 "FairFolioModel" "isClosed" "[Z", .fieldLink RX3 41 "FairFolioModel" "stamps" "[I", .fieldLink RX3 23 "FairFolioModel" "waiting" "[I", .methodLink RX3 94 yX3_puts, .instanceMethod yX3_puts, .selects RX3 yX3_puts yX3_puts, .initialized RX3, .code yX3_puts cX3_puts 5 none, .fieldLink RX3 20 "FairFolioModel" "queue" "[I", .fieldLink RX3 35 "FairFolioModel" "where" "[I"] ++ wsX30)
def wsX3_goIn_r1 : List Cond := [Cond.fieldLink RX3 16 "FairFolioModel" "isClosed" "[Z", Cond.fieldLink RX3 23 "FairFolioModel" "waiting" "[I", Cond.fieldLink RX3 7 "FairFolioModel" "room" "[I", Cond.fieldLink RX3 20 "FairFolioModel" "queue" "[I", Cond.fieldLink RX3 50 "FairFolioModel" "isByTurn" "[Z", Cond.fieldLink RX3 32 "FairFolioModel" "state" "[I", Cond.fieldLink RX3 35 "FairFolioModel" "where" "[I", Cond.fieldLink RX3 38 "FairFolioModel" "until" "[I", Cond.fieldLink RX3 91 "FairFolioModel" "minute" "I", Cond.fieldLink RX3 13 "FairFolioModel" "takes" "[I", Cond.methodLink RX3 98 yX3_insideOf, Cond.instanceMethod yX3_insideOf, Cond.selects RX3 yX3_insideOf yX3_insideOf, Cond.initialized RX3, Cond.code yX3_insideOf cX3_insideOf 4 (some .int), Cond.methodLink RX3 78 yX3_leaves, Cond.instanceMethod yX3_leaves, Cond.selects RX3 yX3_leaves yX3_leaves, Cond.code yX3_leaves cX3_leaves 5 none, Cond.methodLink RX3 66 yX3_placeIn, Cond.instanceMethod yX3_placeIn, Cond.selects RX3 yX3_placeIn yX3_placeIn, Cond.code yX3_placeIn cX3_placeIn 5 (some .int), Cond.methodLink RX3 82 yX3_loses]
def wsX3_goIn_r2 : List Cond := [Cond.instanceMethod yX3_loses, Cond.selects RX3 yX3_loses yX3_loses, Cond.code yX3_loses cX3_loses 2 none, Cond.fieldLink RX3 44 "FairFolioModel" "turn" "[I"]
def wsX3_goIn : List Cond := .code yX3_goIn cX3_goIn 3 none :: ((wsX3_goIn_r1 ++ wsX3_goIn_r2) ++ wsX30)
def wsX3_advance_r1 : List Cond := [Cond.fieldLink RX3 91 "FairFolioModel" "minute" "I", Cond.methodLink RX3 74 yX3_goes, Cond.instanceMethod yX3_goes, Cond.selects RX3 yX3_goes yX3_goes, Cond.initialized RX3, Cond.code yX3_goes cX3_goes 3 (some .boolean), Cond.fieldLink RX3 62 "FairFolioModel" "thrown" "I", Cond.methodLink RX3 102 yX3_comeOut, Cond.instanceMethod yX3_comeOut, Cond.selects RX3 yX3_comeOut yX3_comeOut, Cond.code yX3_comeOut cX3_comeOut 2 none, Cond.fieldLink RX3 32 "FairFolioModel" "state" "[I", Cond.fieldLink RX3 38 "FairFolioModel" "until" "[I", Cond.fieldLink RX3 41 "FairFolioModel" "stamps" "[I", Cond.fieldLink RX3 35 "FairFolioModel" "where" "[I", Cond.methodLink RX3 105 yX3_takeTurns, Cond.instanceMethod yX3_takeTurns, Cond.selects RX3 yX3_takeTurns yX3_takeTurns, Cond.code yX3_takeTurns cX3_takeTurns 4 none, Cond.fieldLink RX3 44 "FairFolioModel" "turn" "[I", Cond.fieldLink RX3 50 "FairFolioModel" "isByTurn" "[Z", Cond.fieldLink RX3 47 "FairFolioModel" "turnFor" "[I", Cond.fieldLink RX3 16 "FairFolioModel" "isClosed" "[Z", Cond.fieldLink RX3 23 "FairFolioModel" "waiting" "[I"]
def wsX3_advance_r2 : List Cond := [Cond.fieldLink RX3 20 "FairFolioModel" "queue" "[I", Cond.methodLink RX3 82 yX3_loses, Cond.instanceMethod yX3_loses, Cond.selects RX3 yX3_loses yX3_loses, Cond.code yX3_loses cX3_loses 2 none, Cond.methodLink RX3 78 yX3_leaves, Cond.instanceMethod yX3_leaves, Cond.selects RX3 yX3_leaves yX3_leaves, Cond.code yX3_leaves cX3_leaves 5 none, Cond.methodLink RX3 66 yX3_placeIn, Cond.instanceMethod yX3_placeIn, Cond.selects RX3 yX3_placeIn yX3_placeIn, Cond.code yX3_placeIn cX3_placeIn 5 (some .int), Cond.methodLink RX3 94 yX3_puts, Cond.instanceMethod yX3_puts, Cond.selects RX3 yX3_puts yX3_puts, Cond.code yX3_puts cX3_puts 5 none, Cond.methodLink RX3 108 yX3_goOn, Cond.instanceMethod yX3_goOn, Cond.selects RX3 yX3_goOn yX3_goOn, Cond.code yX3_goOn cX3_goOn 4 none, Cond.fieldLink RX3 29 "FairFolioModel" "planned" "[I", Cond.fieldLink RX3 26 "FairFolioModel" "plan" "[I", Cond.methodLink RX3 111 yX3_goIn]
def wsX3_advance_r3 : List Cond := [Cond.instanceMethod yX3_goIn, Cond.selects RX3 yX3_goIn yX3_goIn, Cond.code yX3_goIn cX3_goIn 3 none, Cond.fieldLink RX3 7 "FairFolioModel" "room" "[I", Cond.fieldLink RX3 13 "FairFolioModel" "takes" "[I", Cond.methodLink RX3 98 yX3_insideOf, Cond.instanceMethod yX3_insideOf, Cond.selects RX3 yX3_insideOf yX3_insideOf, Cond.code yX3_insideOf cX3_insideOf 4 (some .int)]
def wsX3_advance : List Cond := .code yX3_advance cX3_advance 4 (some .int) :: ((wsX3_advance_r1 ++ (wsX3_advance_r2 ++ wsX3_advance_r3)) ++ wsX30)
def wsX3_send : List Cond := .code yX3_send cX3_send 4 (some .boolean) :: ([.fieldLink RX3 41 "FairFolioModel" "stamps" "[I", .fieldLink RX3 53 "FairFolioModel" "stock" "[I", .fieldLink RX3 56 "FairFolioModel" "demand" "[I", .fieldLink RX3 59 "FairFolioModel" "sent" "[I", .methodLink RX3 85 yX3_isVisitor, .static yX3_isVisitor, .initialized RX3, .code yX3_isVisitor cX3_isVisitor 1 (some .boolean), .methodLink RX3 70 yX3_isPavilion, .static yX3_isPavilion, .code yX3_isPavilion cX3_isPavilion 1 (some .boolean), .methodLink RX3 74 yX3_goes, .instanceMethod yX3_goes, .selects RX3 yX3_goes yX3_goes, .code yX3_goes cX3_goes 3 (some .boolean), .fieldLink RX3 62 "FairFolioModel" "thrown" "I"] ++ wsX30)
def wsX3_reprint : List Cond := .code yX3_reprint cX3_reprint 4 (some .int) :: ([.fieldLink RX3 56 "FairFolioModel" "demand" "[I", .fieldLink RX3 53 "FairFolioModel" "stock" "[I", .methodLink RX3 74 yX3_goes, .instanceMethod yX3_goes, .selects RX3 yX3_goes yX3_goes, .initialized RX3, .code yX3_goes cX3_goes 3 (some .boolean), .fieldLink RX3 62 "FairFolioModel" "thrown" "I"] ++ wsX30)
def wsX3_minute : List Cond := .code yX3_minute cX3_minute 1 (some .int) :: ([.fieldLink RX3 62 "FairFolioModel" "thrown" "I", .fieldLink RX3 91 "FairFolioModel" "minute" "I"] ++ wsX30)
def wsX3_stateOf : List Cond := .code yX3_stateOf cX3_stateOf 2 (some .int) :: ([.fieldLink RX3 32 "FairFolioModel" "state" "[I", .methodLink RX3 85 yX3_isVisitor, .static yX3_isVisitor, .initialized RX3, .code yX3_isVisitor cX3_isVisitor 1 (some .boolean), .methodLink RX3 74 yX3_goes, .instanceMethod yX3_goes, .selects RX3 yX3_goes yX3_goes, .code yX3_goes cX3_goes 3 (some .boolean), .fieldLink RX3 62 "FairFolioModel" "thrown" "I"] ++ wsX30)
def wsX3_whereIs : List Cond := .code yX3_whereIs cX3_whereIs 2 (some .int) :: ([.fieldLink RX3 35 "FairFolioModel" "where" "[I", .methodLink RX3 85 yX3_isVisitor, .static yX3_isVisitor, .initialized RX3, .code yX3_isVisitor cX3_isVisitor 1 (some .boolean), .methodLink RX3 74 yX3_goes, .instanceMethod yX3_goes, .selects RX3 yX3_goes yX3_goes, .code yX3_goes cX3_goes 3 (some .boolean), .fieldLink RX3 62 "FairFolioModel" "thrown" "I"] ++ wsX30)
def wsX3_placeOf : List Cond := .code yX3_placeOf cX3_placeOf 2 (some .int) :: ([.fieldLink RX3 32 "FairFolioModel" "state" "[I", .fieldLink RX3 35 "FairFolioModel" "where" "[I", .methodLink RX3 85 yX3_isVisitor, .static yX3_isVisitor, .initialized RX3, .code yX3_isVisitor cX3_isVisitor 1 (some .boolean), .methodLink RX3 74 yX3_goes, .instanceMethod yX3_goes, .selects RX3 yX3_goes yX3_goes, .code yX3_goes cX3_goes 3 (some .boolean), .fieldLink RX3 62 "FairFolioModel" "thrown" "I", .methodLink RX3 66 yX3_placeIn, .instanceMethod yX3_placeIn, .selects RX3 yX3_placeIn yX3_placeIn, .code yX3_placeIn cX3_placeIn 5 (some .int), .fieldLink RX3 23 "FairFolioModel" "waiting" "[I", .fieldLink RX3 20 "FairFolioModel" "queue" "[I"] ++ wsX30)
def wsX3_turnOf : List Cond := .code yX3_turnOf cX3_turnOf 2 (some .int) :: ([.fieldLink RX3 44 "FairFolioModel" "turn" "[I", .methodLink RX3 85 yX3_isVisitor, .static yX3_isVisitor, .initialized RX3, .code yX3_isVisitor cX3_isVisitor 1 (some .boolean), .methodLink RX3 74 yX3_goes, .instanceMethod yX3_goes, .selects RX3 yX3_goes yX3_goes, .code yX3_goes cX3_goes 3 (some .boolean), .fieldLink RX3 62 "FairFolioModel" "thrown" "I"] ++ wsX30)
def wsX3_stamps : List Cond := .code yX3_stamps cX3_stamps 2 (some .int) :: ([.fieldLink RX3 41 "FairFolioModel" "stamps" "[I", .methodLink RX3 85 yX3_isVisitor, .static yX3_isVisitor, .initialized RX3, .code yX3_isVisitor cX3_isVisitor 1 (some .boolean), .methodLink RX3 74 yX3_goes, .instanceMethod yX3_goes, .selects RX3 yX3_goes yX3_goes, .code yX3_goes cX3_goes 3 (some .boolean), .fieldLink RX3 62 "FairFolioModel" "thrown" "I"] ++ wsX30)
def wsX3_queue : List Cond := .code yX3_queue cX3_queue 2 (some .int) :: ([.fieldLink RX3 23 "FairFolioModel" "waiting" "[I", .methodLink RX3 70 yX3_isPavilion, .static yX3_isPavilion, .initialized RX3, .code yX3_isPavilion cX3_isPavilion 1 (some .boolean), .methodLink RX3 74 yX3_goes, .instanceMethod yX3_goes, .selects RX3 yX3_goes yX3_goes, .code yX3_goes cX3_goes 3 (some .boolean), .fieldLink RX3 62 "FairFolioModel" "thrown" "I"] ++ wsX30)
def wsX3_inside : List Cond := .code yX3_inside cX3_inside 2 (some .int) :: ([.methodLink RX3 70 yX3_isPavilion, .static yX3_isPavilion, .initialized RX3, .code yX3_isPavilion cX3_isPavilion 1 (some .boolean), .methodLink RX3 74 yX3_goes, .instanceMethod yX3_goes, .selects RX3 yX3_goes yX3_goes, .code yX3_goes cX3_goes 3 (some .boolean), .fieldLink RX3 62 "FairFolioModel" "thrown" "I", .methodLink RX3 98 yX3_insideOf, .instanceMethod yX3_insideOf, .selects RX3 yX3_insideOf yX3_insideOf, .code yX3_insideOf cX3_insideOf 4 (some .int), .fieldLink RX3 32 "FairFolioModel" "state" "[I", .fieldLink RX3 35 "FairFolioModel" "where" "[I"] ++ wsX30)
def wsX3_stock : List Cond := .code yX3_stock cX3_stock 2 (some .int) :: ([.fieldLink RX3 53 "FairFolioModel" "stock" "[I", .methodLink RX3 70 yX3_isPavilion, .static yX3_isPavilion, .initialized RX3, .code yX3_isPavilion cX3_isPavilion 1 (some .boolean), .methodLink RX3 74 yX3_goes, .instanceMethod yX3_goes, .selects RX3 yX3_goes yX3_goes, .code yX3_goes cX3_goes 3 (some .boolean), .fieldLink RX3 62 "FairFolioModel" "thrown" "I"] ++ wsX30)
def wsX3_demand : List Cond := .code yX3_demand cX3_demand 2 (some .int) :: ([.fieldLink RX3 56 "FairFolioModel" "demand" "[I", .methodLink RX3 70 yX3_isPavilion, .static yX3_isPavilion, .initialized RX3, .code yX3_isPavilion cX3_isPavilion 1 (some .boolean), .methodLink RX3 74 yX3_goes, .instanceMethod yX3_goes, .selects RX3 yX3_goes yX3_goes, .code yX3_goes cX3_goes 3 (some .boolean), .fieldLink RX3 62 "FairFolioModel" "thrown" "I"] ++ wsX30)
def wsX3_sent : List Cond := .code yX3_sent cX3_sent 3 (some .int) :: ([.fieldLink RX3 59 "FairFolioModel" "sent" "[I", .methodLink RX3 85 yX3_isVisitor, .static yX3_isVisitor, .initialized RX3, .code yX3_isVisitor cX3_isVisitor 1 (some .boolean), .methodLink RX3 70 yX3_isPavilion, .static yX3_isPavilion, .code yX3_isPavilion cX3_isPavilion 1 (some .boolean), .methodLink RX3 74 yX3_goes, .instanceMethod yX3_goes, .selects RX3 yX3_goes yX3_goes, .code yX3_goes cX3_goes 3 (some .boolean), .fieldLink RX3 62 "FairFolioModel" "thrown" "I"] ++ wsX30)
def wsJ9_max_7cf53 : List Cond := .code yJ9_max_7cf53 cJ9_max_7cf53 2 (some .int) :: ([])
def wsJ9_min_7cf53 : List Cond := .code yJ9_min_7cf53 cJ9_min_7cf53 2 (some .int) :: ([])
def wsL_setPavilion : List Cond := .codeWith yL_setPavilion cL_setPavilion 5 (some .int) [(0, 7, 10, 13), (0, 7, 14, 15)] :: ([.classLink RL 13 "java/lang/IndexOutOfBoundsException", .classLink RL 15 "java/lang/IllegalArgumentException", .methodLink RL 7 yX2_setPavilion, .instanceMethod yX2_setPavilion, .selects RX2 yX2_setPavilion yX2_setPavilion, .initialized RX2, .code yX2_setPavilion cX2_setPavilion 5 none, .classLink RX2 33 "java/lang/IllegalArgumentException", .initialized "java/lang/IllegalArgumentException", .methodLink RX2 29 yX2_pavilionAt, .instanceMethod yX2_pavilionAt, .selects RX2 yX2_pavilionAt yX2_pavilionAt, .code yX2_pavilionAt cX2_pavilionAt 2 (some (.object "FairFolio$Pavilion")), .classLink RX2 154 "java/lang/IndexOutOfBoundsException", .initialized "java/lang/IndexOutOfBoundsException", .fieldLink RX2 11 "FairFolio" "pavilions" "[LFairFolio$Pavilion;"] ++ wsX00 ++ wsX20 ++ (vx_atS RX2 37 "java/lang/IllegalArgumentException" ["java/lang/RuntimeException", "java/lang/Exception"]).filter goodWord ++ (vx_atS RX2 158 "java/lang/IndexOutOfBoundsException" ["java/lang/RuntimeException", "java/lang/Exception"]).filter goodWord)
def wsL_open_r1 : List Cond := [Cond.classLink RL 13 "java/lang/IndexOutOfBoundsException", Cond.methodLink RL 17 yX2_open, Cond.instanceMethod yX2_open, Cond.selects RX2 yX2_open yX2_open, Cond.initialized RX2, Cond.code yX2_open cX2_open 4 (some .int), Cond.methodLink RX2 29 yX2_pavilionAt, Cond.instanceMethod yX2_pavilionAt, Cond.selects RX2 yX2_pavilionAt yX2_pavilionAt, Cond.code yX2_pavilionAt cX2_pavilionAt 2 (some (.object "FairFolio$Pavilion")), Cond.classLink RX2 154 "java/lang/IndexOutOfBoundsException", Cond.initialized "java/lang/IndexOutOfBoundsException", Cond.fieldLink RX2 11 "FairFolio" "pavilions" "[LFairFolio$Pavilion;", Cond.methodLink RX2 50 yX2_emptyQueue, Cond.instanceMethod yX2_emptyQueue, Cond.selects RX2 yX2_emptyQueue yX2_emptyQueue, Cond.code yX2_emptyQueue cX2_emptyQueue 7 (some .int), Cond.fieldLink RX2 17 "FairFolio" "visitors" "[LFairFolio$Visitor;", Cond.methodLink RX2 87 yX2_isAt, Cond.instanceMethod yX2_isAt, Cond.selects RX2 yX2_isAt yX2_isAt, Cond.code yX2_isAt cX2_isAt 4 (some .boolean), Cond.methodLink RX2 94 yX2_leaveQueue, Cond.instanceMethod yX2_leaveQueue]
def wsL_open_r2 : List Cond := [Cond.selects RX2 yX2_leaveQueue yX2_leaveQueue, Cond.code yX2_leaveQueue cX2_leaveQueue 6 none, Cond.methodLink RX2 189 yX2_loseTurn, Cond.instanceMethod yX2_loseTurn, Cond.selects RX2 yX2_loseTurn yX2_loseTurn, Cond.code yX2_loseTurn cX2_loseTurn 2 none, Cond.methodLink RX2 183 yX2_becomeIdle, Cond.instanceMethod yX2_becomeIdle, Cond.selects RX2 yX2_becomeIdle yX2_becomeIdle, Cond.code yX2_becomeIdle cX2_becomeIdle 2 none]
def wsL_open : List Cond := .codeWith yL_open cL_open 5 (some .int) [(0, 10, 13, 13)] :: ((wsL_open_r1 ++ wsL_open_r2) ++ wsX00 ++ wsX20 ++ wsX10 ++ (vx_atS RX2 158 "java/lang/IndexOutOfBoundsException" ["java/lang/RuntimeException", "java/lang/Exception"]).filter goodWord)
def wsL_plan_r1 : List Cond := [Cond.classLink RL 13 "java/lang/IndexOutOfBoundsException", Cond.classLink RL 25 "java/lang/IllegalStateException", Cond.methodLink RL 21 yX2_plan, Cond.instanceMethod yX2_plan, Cond.selects RX2 yX2_plan yX2_plan, Cond.initialized RX2, Cond.code yX2_plan cX2_plan 5 (some .int), Cond.classLink RX2 62 "java/lang/IllegalStateException", Cond.initialized "java/lang/IllegalStateException", Cond.methodLink RX2 54 yX2_visitorAt, Cond.instanceMethod yX2_visitorAt, Cond.selects RX2 yX2_visitorAt yX2_visitorAt, Cond.code yX2_visitorAt cX2_visitorAt 2 (some (.object "FairFolio$Visitor")), Cond.classLink RX2 154 "java/lang/IndexOutOfBoundsException", Cond.initialized "java/lang/IndexOutOfBoundsException", Cond.fieldLink RX2 17 "FairFolio" "visitors" "[LFairFolio$Visitor;", Cond.methodLink RX2 29 yX2_pavilionAt, Cond.instanceMethod yX2_pavilionAt, Cond.selects RX2 yX2_pavilionAt yX2_pavilionAt, Cond.code yX2_pavilionAt cX2_pavilionAt 2 (some (.object "FairFolio$Pavilion")), Cond.fieldLink RX2 11 "FairFolio" "pavilions" "[LFairFolio$Pavilion;", Cond.methodLink RX2 58 yX2_indexInPlan, Cond.instanceMethod yX2_indexInPlan, Cond.selects RX2 yX2_indexInPlan yX2_indexInPlan]
def wsL_plan_r2 : List Cond := [Cond.code yX2_indexInPlan cX2_indexInPlan 4 (some .int), Cond.methodLink RX2 77 yJx4a65c_size_8abf5, Cond.instanceMethod yJx4a65c_size_8abf5, Cond.selects RJx4a65c yJx4a65c_size_8abf5 yJx4a65c_size_8abf5, Cond.initialized RJx4a65c, Cond.code yJx4a65c_size_8abf5 cJx4a65c_size_8abf5 1 (some .int), Cond.fieldLink RJx4a65c 48 "java/util/ArrayList" "size" "I", Cond.methodLink RX2 161 yJx4a65c_get_915e3, Cond.instanceMethod yJx4a65c_get_915e3, Cond.selects RJx4a65c yJx4a65c_get_915e3 yJx4a65c_get_915e3, Cond.code yJx4a65c_get_915e3 cJx4a65c_get_915e3 2 (some (.object "java/lang/Object")), Cond.methodLink RJx4a65c 118 yJ15_checkIndex_7cf53, Cond.static yJ15_checkIndex_7cf53, Cond.initialized RJ15, Cond.code yJ15_checkIndex_7cf53 cJ15_checkIndex_7cf53 2 (some .int), Cond.methodLink RJ15 105 yJ3_checkIndex_8e157, Cond.static yJ3_checkIndex_8e157, Cond.initialized RJ3, Cond.code yJ3_checkIndex_8e157 cJ3_checkIndex_8e157 3 (some .int), Cond.methodLink RJx4a65c 123 yJx4a65c_elementData_915e3, Cond.instanceMethod yJx4a65c_elementData_915e3, Cond.selects RJx4a65c yJx4a65c_elementData_915e3 yJx4a65c_elementData_915e3, Cond.code yJx4a65c_elementData_915e3 cJx4a65c_elementData_915e3 2 (some (.object "java/lang/Object")), Cond.fieldLink RJx4a65c 9 "java/util/ArrayList" "elementData" "[Ljava/lang/Object;"]
def wsL_plan_r3 : List Cond := [Cond.methodLink RX2 71 yJx4a65c_add_9ea2d, Cond.instanceMethod yJx4a65c_add_9ea2d, Cond.selects RJx4a65c yJx4a65c_add_9ea2d yJx4a65c_add_9ea2d, Cond.code yJx4a65c_add_9ea2d cJx4a65c_add_9ea2d 2 (some .boolean), Cond.fieldLink RJx4a65c 63 "java/util/ArrayList" "modCount" "I", Cond.sameField "java/util/ArrayList" "java/util/AbstractList" "modCount" "I", Cond.methodLink RJx4a65c 131 yJx4a65c_add_72be8, Cond.instanceMethod yJx4a65c_add_72be8, Cond.selects RJx4a65c yJx4a65c_add_72be8 yJx4a65c_add_72be8, Cond.code yJx4a65c_add_72be8 cJx4a65c_add_72be8 4 none, Cond.methodLink RJx4a65c 129 yJx4a65c_grow_d5877, Cond.instanceMethod yJx4a65c_grow_d5877, Cond.selects RJx4a65c yJx4a65c_grow_d5877 yJx4a65c_grow_d5877, Cond.code yJx4a65c_grow_d5877 cJx4a65c_grow_d5877 1 (some (.array (.object "java/lang/Object"))), Cond.methodLink RJx4a65c 69 yJx4a65c_grow_92f84, Cond.instanceMethod yJx4a65c_grow_92f84, Cond.selects RJx4a65c yJx4a65c_grow_92f84 yJx4a65c_grow_92f84, Cond.code yJx4a65c_grow_92f84 cJx4a65c_grow_92f84 4 (some (.array (.object "java/lang/Object"))), Cond.fieldLink RJx4a65c 39 "java/util/ArrayList" "DEFAULTCAPACITY_EMPTY_ELEMENTDATA" "[Ljava/lang/Object;", Cond.methodLink RJx4a65c 79 Lib.Math.max.name, Cond.static Lib.Math.max.name, Cond.initialized "java/lang/Math", Cond.code Lib.Math.max.name Lib.Math.max.code 2 (some .int), Cond.classLink RJx4a65c 7 "java/lang/Object"]
def wsL_plan_r4 : List Cond := [Cond.methodLink RJx4a65c 73 yJ8_newLength_cabcc, Cond.static yJ8_newLength_cabcc, Cond.initialized RJ8, Cond.code yJ8_newLength_cabcc cJ8_newLength_cabcc 4 (some .int), Cond.methodLink RJ8 194 Lib.Math.max.name, Cond.constant RJ8 200 (2147483639), Cond.methodLink RJ8 201 yJ8_hugeLength_7cf53, Cond.static yJ8_hugeLength_7cf53, Cond.code yJ8_hugeLength_7cf53 cJ8_hugeLength_7cf53 3 (some .int), Cond.methodLink RJx4a65c 66 yJ7_copyOf_1904c, Cond.static yJ7_copyOf_1904c, Cond.initialized RJ7, Cond.code yJ7_copyOf_1904c cJ7_copyOf_1904c 2 (some (.array (.object "java/lang/Object"))), Cond.methodLink RJ7 86 ⟨"java/lang/Object", "getClass", "()Ljava/lang/Class;"⟩, Cond.selects "[Ljava/lang/Object;" ⟨"java/lang/Object", "getClass", "()Ljava/lang/Class;"⟩ ⟨"java/lang/Object", "getClass", "()Ljava/lang/Class;"⟩, Cond.instanceMethod ⟨"java/lang/Object", "getClass", "()Ljava/lang/Class;"⟩, Cond.native ⟨"java/lang/Object", "getClass", "()Ljava/lang/Class;"⟩, Cond.methodLink RJ7 300 yJ7_copyOf_6403c, Cond.static yJ7_copyOf_6403c, Cond.code yJ7_copyOf_6403c cJ7_copyOf_6403c 4 (some (.array (.object "java/lang/Object"))), Cond.classLink RJ7 110 "[Ljava/lang/Object;", Cond.classLink RJ7 2 "java/lang/Object", Cond.methodLink RJ7 304 Lib.Math.min.name, Cond.static Lib.Math.min.name]
def wsL_plan_r5 : List Cond := [Cond.code Lib.Math.min.name Lib.Math.min.code 2 (some .int), Cond.methodLink RJ7 150 arraycopyName, Cond.native arraycopyName, Cond.static arraycopyName, Cond.initialized "java/lang/System"]
def wsL_plan : List Cond := .codeWith yL_plan cL_plan 5 (some .int) [(0, 10, 13, 13), (0, 10, 17, 25)] :: ((wsL_plan_r1 ++ (wsL_plan_r2 ++ (wsL_plan_r3 ++ (wsL_plan_r4 ++ wsL_plan_r5)))) ++ wsX10 ++ wsX20 ++ wsJx4a65c0 ++ (vx_atS RX2 66 "java/lang/IllegalStateException" ["java/lang/RuntimeException", "java/lang/Exception"]).filter goodWord ++ (vx_atS RX2 158 "java/lang/IndexOutOfBoundsException" ["java/lang/RuntimeException", "java/lang/Exception"]).filter goodWord)
def wsL_drop_r1 : List Cond := [Cond.classLink RL 13 "java/lang/IndexOutOfBoundsException", Cond.classLink RL 25 "java/lang/IllegalStateException", Cond.methodLink RL 27 yX2_drop, Cond.instanceMethod yX2_drop, Cond.selects RX2 yX2_drop yX2_drop, Cond.initialized RX2, Cond.code yX2_drop cX2_drop 6 (some .int), Cond.classLink RX2 62 "java/lang/IllegalStateException", Cond.initialized "java/lang/IllegalStateException", Cond.methodLink RX2 54 yX2_visitorAt, Cond.instanceMethod yX2_visitorAt, Cond.selects RX2 yX2_visitorAt yX2_visitorAt, Cond.code yX2_visitorAt cX2_visitorAt 2 (some (.object "FairFolio$Visitor")), Cond.classLink RX2 154 "java/lang/IndexOutOfBoundsException", Cond.initialized "java/lang/IndexOutOfBoundsException", Cond.fieldLink RX2 17 "FairFolio" "visitors" "[LFairFolio$Visitor;", Cond.methodLink RX2 29 yX2_pavilionAt, Cond.instanceMethod yX2_pavilionAt, Cond.selects RX2 yX2_pavilionAt yX2_pavilionAt, Cond.code yX2_pavilionAt cX2_pavilionAt 2 (some (.object "FairFolio$Pavilion")), Cond.fieldLink RX2 11 "FairFolio" "pavilions" "[LFairFolio$Pavilion;", Cond.methodLink RX2 58 yX2_indexInPlan, Cond.instanceMethod yX2_indexInPlan, Cond.selects RX2 yX2_indexInPlan yX2_indexInPlan]
def wsL_drop_r2 : List Cond := [Cond.code yX2_indexInPlan cX2_indexInPlan 4 (some .int), Cond.methodLink RX2 77 yJx4a65c_size_8abf5, Cond.instanceMethod yJx4a65c_size_8abf5, Cond.selects RJx4a65c yJx4a65c_size_8abf5 yJx4a65c_size_8abf5, Cond.initialized RJx4a65c, Cond.code yJx4a65c_size_8abf5 cJx4a65c_size_8abf5 1 (some .int), Cond.fieldLink RJx4a65c 48 "java/util/ArrayList" "size" "I", Cond.methodLink RX2 161 yJx4a65c_get_915e3, Cond.instanceMethod yJx4a65c_get_915e3, Cond.selects RJx4a65c yJx4a65c_get_915e3 yJx4a65c_get_915e3, Cond.code yJx4a65c_get_915e3 cJx4a65c_get_915e3 2 (some (.object "java/lang/Object")), Cond.methodLink RJx4a65c 118 yJ15_checkIndex_7cf53, Cond.static yJ15_checkIndex_7cf53, Cond.initialized RJ15, Cond.code yJ15_checkIndex_7cf53 cJ15_checkIndex_7cf53 2 (some .int), Cond.methodLink RJ15 105 yJ3_checkIndex_8e157, Cond.static yJ3_checkIndex_8e157, Cond.initialized RJ3, Cond.code yJ3_checkIndex_8e157 cJ3_checkIndex_8e157 3 (some .int), Cond.methodLink RJx4a65c 123 yJx4a65c_elementData_915e3, Cond.instanceMethod yJx4a65c_elementData_915e3, Cond.selects RJx4a65c yJx4a65c_elementData_915e3 yJx4a65c_elementData_915e3, Cond.code yJx4a65c_elementData_915e3 cJx4a65c_elementData_915e3 2 (some (.object "java/lang/Object")), Cond.fieldLink RJx4a65c 9 "java/util/ArrayList" "elementData" "[Ljava/lang/Object;"]
def wsL_drop_r3 : List Cond := [Cond.methodLink RX2 83 yJx4a65c_remove_915e3, Cond.instanceMethod yJx4a65c_remove_915e3, Cond.selects RJx4a65c yJx4a65c_remove_915e3 yJx4a65c_remove_915e3, Cond.code yJx4a65c_remove_915e3 cJx4a65c_remove_915e3 4 (some (.object "java/lang/Object")), Cond.methodLink RJx4a65c 144 yJx4a65c_fastRemove_b59b0, Cond.instanceMethod yJx4a65c_fastRemove_b59b0, Cond.selects RJx4a65c yJx4a65c_fastRemove_b59b0 yJx4a65c_fastRemove_b59b0, Cond.code yJx4a65c_fastRemove_b59b0 cJx4a65c_fastRemove_b59b0 4 none, Cond.fieldLink RJx4a65c 63 "java/util/ArrayList" "modCount" "I", Cond.sameField "java/util/ArrayList" "java/util/AbstractList" "modCount" "I", Cond.methodLink RJx4a65c 112 arraycopyName, Cond.native arraycopyName, Cond.static arraycopyName, Cond.initialized "java/lang/System", Cond.methodLink RX2 87 yX2_isAt, Cond.instanceMethod yX2_isAt, Cond.selects RX2 yX2_isAt yX2_isAt, Cond.code yX2_isAt cX2_isAt 4 (some .boolean), Cond.methodLink RX2 94 yX2_leaveQueue, Cond.instanceMethod yX2_leaveQueue, Cond.selects RX2 yX2_leaveQueue yX2_leaveQueue, Cond.code yX2_leaveQueue cX2_leaveQueue 6 none, Cond.methodLink RX2 189 yX2_loseTurn, Cond.instanceMethod yX2_loseTurn]
def wsL_drop_r4 : List Cond := [Cond.selects RX2 yX2_loseTurn yX2_loseTurn, Cond.code yX2_loseTurn cX2_loseTurn 2 none, Cond.methodLink RX2 183 yX2_becomeIdle, Cond.instanceMethod yX2_becomeIdle, Cond.selects RX2 yX2_becomeIdle yX2_becomeIdle, Cond.code yX2_becomeIdle cX2_becomeIdle 2 none]
def wsL_drop : List Cond := .codeWith yL_drop cL_drop 5 (some .int) [(0, 10, 13, 13), (0, 10, 17, 25)] :: ((wsL_drop_r1 ++ (wsL_drop_r2 ++ (wsL_drop_r3 ++ wsL_drop_r4))) ++ wsX10 ++ wsX20 ++ wsJx4a65c0 ++ wsX00 ++ (vx_atS RX2 66 "java/lang/IllegalStateException" ["java/lang/RuntimeException", "java/lang/Exception"]).filter goodWord ++ (vx_atS RX2 158 "java/lang/IndexOutOfBoundsException" ["java/lang/RuntimeException", "java/lang/Exception"]).filter goodWord)
def wsL_ask_r1 : List Cond := [Cond.classLink RL 13 "java/lang/IndexOutOfBoundsException", Cond.classLink RL 25 "java/lang/IllegalStateException", Cond.methodLink RL 30 yX2_ask, Cond.instanceMethod yX2_ask, Cond.selects RX2 yX2_ask yX2_ask, Cond.initialized RX2, Cond.code yX2_ask cX2_ask 5 (some .int), Cond.classLink RX2 62 "java/lang/IllegalStateException", Cond.initialized "java/lang/IllegalStateException", Cond.methodLink RX2 54 yX2_visitorAt, Cond.instanceMethod yX2_visitorAt, Cond.selects RX2 yX2_visitorAt yX2_visitorAt, Cond.code yX2_visitorAt cX2_visitorAt 2 (some (.object "FairFolio$Visitor")), Cond.classLink RX2 154 "java/lang/IndexOutOfBoundsException", Cond.initialized "java/lang/IndexOutOfBoundsException", Cond.fieldLink RX2 17 "FairFolio" "visitors" "[LFairFolio$Visitor;", Cond.methodLink RX2 29 yX2_pavilionAt, Cond.instanceMethod yX2_pavilionAt, Cond.selects RX2 yX2_pavilionAt yX2_pavilionAt, Cond.code yX2_pavilionAt cX2_pavilionAt 2 (some (.object "FairFolio$Pavilion")), Cond.fieldLink RX2 11 "FairFolio" "pavilions" "[LFairFolio$Pavilion;", Cond.methodLink RX2 103 yX2_firstFreeTurn, Cond.instanceMethod yX2_firstFreeTurn, Cond.selects RX2 yX2_firstFreeTurn yX2_firstFreeTurn]
def wsL_ask_r2 : List Cond := [Cond.code yX2_firstFreeTurn cX2_firstFreeTurn 4 (some .int), Cond.fieldLink RX2 21 "FairFolio" "now" "I", Cond.methodLink RX2 164 yX2_isTurnTaken, Cond.instanceMethod yX2_isTurnTaken, Cond.selects RX2 yX2_isTurnTaken yX2_isTurnTaken, Cond.code yX2_isTurnTaken cX2_isTurnTaken 7 (some .boolean)]
def wsL_ask : List Cond := .codeWith yL_ask cL_ask 5 (some .int) [(0, 10, 13, 13), (0, 10, 17, 25)] :: ((wsL_ask_r1 ++ wsL_ask_r2) ++ wsX10 ++ wsX00 ++ wsX20 ++ (vx_atS RX2 66 "java/lang/IllegalStateException" ["java/lang/RuntimeException", "java/lang/Exception"]).filter goodWord ++ (vx_atS RX2 158 "java/lang/IndexOutOfBoundsException" ["java/lang/RuntimeException", "java/lang/Exception"]).filter goodWord)
def wsL_advance_r1 : List Cond := [Cond.classLink RL 15 "java/lang/IllegalArgumentException", Cond.classLink RL 25 "java/lang/IllegalStateException", Cond.methodLink RL 33 yX2_advance, Cond.instanceMethod yX2_advance, Cond.selects RX2 yX2_advance yX2_advance, Cond.initialized RX2, Cond.code yX2_advance cX2_advance 3 (some .int), Cond.classLink RX2 33 "java/lang/IllegalArgumentException", Cond.initialized "java/lang/IllegalArgumentException", Cond.classLink RX2 62 "java/lang/IllegalStateException", Cond.initialized "java/lang/IllegalStateException", Cond.fieldLink RX2 21 "FairFolio" "now" "I", Cond.methodLink RX2 114 yX2_passMinute, Cond.instanceMethod yX2_passMinute, Cond.selects RX2 yX2_passMinute yX2_passMinute, Cond.code yX2_passMinute cX2_passMinute 1 none, Cond.methodLink RX2 168 yX2_endVisits, Cond.instanceMethod yX2_endVisits, Cond.selects RX2 yX2_endVisits yX2_endVisits, Cond.code yX2_endVisits cX2_endVisits 5 none, Cond.fieldLink RX2 17 "FairFolio" "visitors" "[LFairFolio$Visitor;", Cond.methodLink RX2 183 yX2_becomeIdle, Cond.instanceMethod yX2_becomeIdle, Cond.selects RX2 yX2_becomeIdle yX2_becomeIdle]
def wsL_advance_r2 : List Cond := [Cond.code yX2_becomeIdle cX2_becomeIdle 2 none, Cond.methodLink RX2 171 yX2_takeTurns, Cond.instanceMethod yX2_takeTurns, Cond.selects RX2 yX2_takeTurns yX2_takeTurns, Cond.code yX2_takeTurns cX2_takeTurns 5 none, Cond.methodLink RX2 186 yX2_takeTurn, Cond.instanceMethod yX2_takeTurn, Cond.selects RX2 yX2_takeTurn yX2_takeTurn, Cond.code yX2_takeTurn cX2_takeTurn 3 none, Cond.methodLink RX2 189 yX2_loseTurn, Cond.instanceMethod yX2_loseTurn, Cond.selects RX2 yX2_loseTurn yX2_loseTurn, Cond.code yX2_loseTurn cX2_loseTurn 2 none, Cond.methodLink RX2 94 yX2_leaveQueue, Cond.instanceMethod yX2_leaveQueue, Cond.selects RX2 yX2_leaveQueue yX2_leaveQueue, Cond.code yX2_leaveQueue cX2_leaveQueue 6 none, Cond.methodLink RX2 192 yX2_countByTurn, Cond.instanceMethod yX2_countByTurn, Cond.selects RX2 yX2_countByTurn yX2_countByTurn, Cond.code yX2_countByTurn cX2_countByTurn 7 (some .int), Cond.methodLink RX2 87 yX2_isAt, Cond.instanceMethod yX2_isAt, Cond.selects RX2 yX2_isAt yX2_isAt]
def wsL_advance_r3 : List Cond := [Cond.code yX2_isAt cX2_isAt 4 (some .boolean), Cond.methodLink RX2 195 yX2_joinQueue, Cond.instanceMethod yX2_joinQueue, Cond.selects RX2 yX2_joinQueue yX2_joinQueue, Cond.code yX2_joinQueue cX2_joinQueue 8 none, Cond.methodLink RX2 174 yX2_followPlans, Cond.instanceMethod yX2_followPlans, Cond.selects RX2 yX2_followPlans yX2_followPlans, Cond.code yX2_followPlans cX2_followPlans 5 none, Cond.methodLink RX2 199 yX2_followPlan, Cond.instanceMethod yX2_followPlan, Cond.selects RX2 yX2_followPlan yX2_followPlan, Cond.code yX2_followPlan cX2_followPlan 4 none, Cond.classLink RX2 9 "FairFolio$Pavilion", Cond.methodLink RX2 77 yJx4a65c_size_8abf5, Cond.instanceMethod yJx4a65c_size_8abf5, Cond.selects RJx4a65c yJx4a65c_size_8abf5 yJx4a65c_size_8abf5, Cond.initialized RJx4a65c, Cond.code yJx4a65c_size_8abf5 cJx4a65c_size_8abf5 1 (some .int), Cond.fieldLink RJx4a65c 48 "java/util/ArrayList" "size" "I", Cond.methodLink RX2 161 yJx4a65c_get_915e3, Cond.instanceMethod yJx4a65c_get_915e3, Cond.selects RJx4a65c yJx4a65c_get_915e3 yJx4a65c_get_915e3, Cond.code yJx4a65c_get_915e3 cJx4a65c_get_915e3 2 (some (.object "java/lang/Object"))]
def wsL_advance_r4 : List Cond := [Cond.methodLink RJx4a65c 118 yJ15_checkIndex_7cf53, Cond.static yJ15_checkIndex_7cf53, Cond.initialized RJ15, Cond.code yJ15_checkIndex_7cf53 cJ15_checkIndex_7cf53 2 (some .int), Cond.methodLink RJ15 105 yJ3_checkIndex_8e157, Cond.static yJ3_checkIndex_8e157, Cond.initialized RJ3, Cond.code yJ3_checkIndex_8e157 cJ3_checkIndex_8e157 3 (some .int), Cond.methodLink RJx4a65c 123 yJx4a65c_elementData_915e3, Cond.instanceMethod yJx4a65c_elementData_915e3, Cond.selects RJx4a65c yJx4a65c_elementData_915e3 yJx4a65c_elementData_915e3, Cond.code yJx4a65c_elementData_915e3 cJx4a65c_elementData_915e3 2 (some (.object "java/lang/Object")), Cond.fieldLink RJx4a65c 9 "java/util/ArrayList" "elementData" "[Ljava/lang/Object;", Cond.methodLink RX2 117 yX2_hasStamp, Cond.instanceMethod yX2_hasStamp, Cond.selects RX2 yX2_hasStamp yX2_hasStamp, Cond.code yX2_hasStamp cX2_hasStamp 3 (some .boolean), Cond.methodLink RX2 150 yX2_countAt, Cond.instanceMethod yX2_countAt, Cond.selects RX2 yX2_countAt yX2_countAt, Cond.code yX2_countAt cX2_countAt 8 (some .int), Cond.methodLink RX2 177 yX2_letIn, Cond.instanceMethod yX2_letIn, Cond.selects RX2 yX2_letIn yX2_letIn]
def wsL_advance_r5 : List Cond := [Cond.code yX2_letIn cX2_letIn 5 none, Cond.fieldLink RX2 11 "FairFolio" "pavilions" "[LFairFolio$Pavilion;", Cond.methodLink RX2 202 yX2_fillRoom, Cond.instanceMethod yX2_fillRoom, Cond.selects RX2 yX2_fillRoom yX2_fillRoom, Cond.code yX2_fillRoom cX2_fillRoom 4 none, Cond.methodLink RX2 206 yX2_firstInQueue, Cond.instanceMethod yX2_firstInQueue, Cond.selects RX2 yX2_firstInQueue yX2_firstInQueue, Cond.code yX2_firstInQueue cX2_firstInQueue 6 (some (.object "FairFolio$Visitor")), Cond.methodLink RX2 210 yX2_goInside, Cond.instanceMethod yX2_goInside, Cond.selects RX2 yX2_goInside yX2_goInside, Cond.code yX2_goInside cX2_goInside 3 none]
def wsL_advance : List Cond := .codeWith yL_advance cL_advance 4 (some .int) [(0, 9, 12, 15), (0, 9, 15, 25)] :: ((wsL_advance_r1 ++ (wsL_advance_r2 ++ (wsL_advance_r3 ++ (wsL_advance_r4 ++ wsL_advance_r5)))) ++ wsX20 ++ wsX10 ++ wsX00 ++ wsJx4a65c0 ++ (vx_atS RX2 37 "java/lang/IllegalArgumentException" ["java/lang/RuntimeException", "java/lang/Exception"]).filter goodWord ++ (vx_atS RX2 66 "java/lang/IllegalStateException" ["java/lang/RuntimeException", "java/lang/Exception"]).filter goodWord)
def wsL_send_r1 : List Cond := [Cond.classLink RL 13 "java/lang/IndexOutOfBoundsException", Cond.classLink RL 25 "java/lang/IllegalStateException", Cond.methodLink RL 37 yX2_send, Cond.instanceMethod yX2_send, Cond.selects RX2 yX2_send yX2_send, Cond.initialized RX2, Cond.code yX2_send cX2_send 5 (some .boolean), Cond.classLink RX2 62 "java/lang/IllegalStateException", Cond.initialized "java/lang/IllegalStateException", Cond.methodLink RX2 54 yX2_visitorAt, Cond.instanceMethod yX2_visitorAt, Cond.selects RX2 yX2_visitorAt yX2_visitorAt, Cond.code yX2_visitorAt cX2_visitorAt 2 (some (.object "FairFolio$Visitor")), Cond.classLink RX2 154 "java/lang/IndexOutOfBoundsException", Cond.initialized "java/lang/IndexOutOfBoundsException", Cond.fieldLink RX2 17 "FairFolio" "visitors" "[LFairFolio$Visitor;", Cond.methodLink RX2 29 yX2_pavilionAt, Cond.instanceMethod yX2_pavilionAt, Cond.selects RX2 yX2_pavilionAt yX2_pavilionAt, Cond.code yX2_pavilionAt cX2_pavilionAt 2 (some (.object "FairFolio$Pavilion")), Cond.fieldLink RX2 11 "FairFolio" "pavilions" "[LFairFolio$Pavilion;", Cond.methodLink RX2 117 yX2_hasStamp, Cond.instanceMethod yX2_hasStamp, Cond.selects RX2 yX2_hasStamp yX2_hasStamp]
def wsL_send_r2 : List Cond := [Cond.code yX2_hasStamp cX2_hasStamp 3 (some .boolean)]
def wsL_send : List Cond := .codeWith yL_send cL_send 5 (some .int) [(0, 17, 20, 13), (0, 17, 24, 25)] :: ((wsL_send_r1 ++ wsL_send_r2) ++ wsX00 ++ wsX10 ++ wsX20 ++ (vx_atS RX2 66 "java/lang/IllegalStateException" ["java/lang/RuntimeException", "java/lang/Exception"]).filter goodWord ++ (vx_atS RX2 158 "java/lang/IndexOutOfBoundsException" ["java/lang/RuntimeException", "java/lang/Exception"]).filter goodWord)
def wsL_reprint : List Cond := .codeWith yL_reprint cL_reprint 4 (some .int) [(0, 9, 12, 15)] :: ([.classLink RL 15 "java/lang/IllegalArgumentException", .methodLink RL 41 yX2_reprint, .instanceMethod yX2_reprint, .selects RX2 yX2_reprint yX2_reprint, .initialized RX2, .code yX2_reprint cX2_reprint 7 (some .int), .classLink RX2 33 "java/lang/IllegalArgumentException", .initialized "java/lang/IllegalArgumentException", .fieldLink RX2 11 "FairFolio" "pavilions" "[LFairFolio$Pavilion;"] ++ wsX20 ++ wsX00 ++ (vx_atS RX2 37 "java/lang/IllegalArgumentException" ["java/lang/RuntimeException", "java/lang/Exception"]).filter goodWord)
def wsL_stateOf : List Cond := .codeWith yL_stateOf cL_stateOf 4 (some .int) [(0, 9, 12, 13)] :: ([.classLink RL 13 "java/lang/IndexOutOfBoundsException", .methodLink RL 44 yX2_stateOf, .instanceMethod yX2_stateOf, .selects RX2 yX2_stateOf yX2_stateOf, .initialized RX2, .code yX2_stateOf cX2_stateOf 2 (some .int), .methodLink RX2 54 yX2_visitorAt, .instanceMethod yX2_visitorAt, .selects RX2 yX2_visitorAt yX2_visitorAt, .code yX2_visitorAt cX2_visitorAt 2 (some (.object "FairFolio$Visitor")), .classLink RX2 154 "java/lang/IndexOutOfBoundsException", .initialized "java/lang/IndexOutOfBoundsException", .fieldLink RX2 17 "FairFolio" "visitors" "[LFairFolio$Visitor;"] ++ wsX10 ++ wsX20 ++ (vx_atS RX2 158 "java/lang/IndexOutOfBoundsException" ["java/lang/RuntimeException", "java/lang/Exception"]).filter goodWord)
def wsL_whereIs : List Cond := .codeWith yL_whereIs cL_whereIs 4 (some .int) [(0, 9, 12, 13)] :: ([.classLink RL 13 "java/lang/IndexOutOfBoundsException", .methodLink RL 47 yX2_whereIs, .instanceMethod yX2_whereIs, .selects RX2 yX2_whereIs yX2_whereIs, .initialized RX2, .code yX2_whereIs cX2_whereIs 2 (some .int), .methodLink RX2 54 yX2_visitorAt, .instanceMethod yX2_visitorAt, .selects RX2 yX2_visitorAt yX2_visitorAt, .code yX2_visitorAt cX2_visitorAt 2 (some (.object "FairFolio$Visitor")), .classLink RX2 154 "java/lang/IndexOutOfBoundsException", .initialized "java/lang/IndexOutOfBoundsException", .fieldLink RX2 17 "FairFolio" "visitors" "[LFairFolio$Visitor;"] ++ wsX10 ++ wsX20 ++ (vx_atS RX2 158 "java/lang/IndexOutOfBoundsException" ["java/lang/RuntimeException", "java/lang/Exception"]).filter goodWord)
def wsL_placeOf : List Cond := .codeWith yL_placeOf cL_placeOf 4 (some .int) [(0, 9, 12, 13)] :: ([.classLink RL 13 "java/lang/IndexOutOfBoundsException", .methodLink RL 50 yX2_placeOf, .instanceMethod yX2_placeOf, .selects RX2 yX2_placeOf yX2_placeOf, .initialized RX2, .code yX2_placeOf cX2_placeOf 2 (some .int), .methodLink RX2 54 yX2_visitorAt, .instanceMethod yX2_visitorAt, .selects RX2 yX2_visitorAt yX2_visitorAt, .code yX2_visitorAt cX2_visitorAt 2 (some (.object "FairFolio$Visitor")), .classLink RX2 154 "java/lang/IndexOutOfBoundsException", .initialized "java/lang/IndexOutOfBoundsException", .fieldLink RX2 17 "FairFolio" "visitors" "[LFairFolio$Visitor;"] ++ wsX10 ++ wsX20 ++ (vx_atS RX2 158 "java/lang/IndexOutOfBoundsException" ["java/lang/RuntimeException", "java/lang/Exception"]).filter goodWord)
def wsL_turnOf : List Cond := .codeWith yL_turnOf cL_turnOf 4 (some .int) [(0, 9, 12, 13)] :: ([.classLink RL 13 "java/lang/IndexOutOfBoundsException", .methodLink RL 53 yX2_turnOf, .instanceMethod yX2_turnOf, .selects RX2 yX2_turnOf yX2_turnOf, .initialized RX2, .code yX2_turnOf cX2_turnOf 2 (some .int), .methodLink RX2 54 yX2_visitorAt, .instanceMethod yX2_visitorAt, .selects RX2 yX2_visitorAt yX2_visitorAt, .code yX2_visitorAt cX2_visitorAt 2 (some (.object "FairFolio$Visitor")), .classLink RX2 154 "java/lang/IndexOutOfBoundsException", .initialized "java/lang/IndexOutOfBoundsException", .fieldLink RX2 17 "FairFolio" "visitors" "[LFairFolio$Visitor;"] ++ wsX10 ++ wsX20 ++ (vx_atS RX2 158 "java/lang/IndexOutOfBoundsException" ["java/lang/RuntimeException", "java/lang/Exception"]).filter goodWord)
def wsL_stamps : List Cond := .codeWith yL_stamps cL_stamps 4 (some .int) [(0, 9, 12, 13)] :: ([.classLink RL 13 "java/lang/IndexOutOfBoundsException", .methodLink RL 56 yX2_stamps, .instanceMethod yX2_stamps, .selects RX2 yX2_stamps yX2_stamps, .initialized RX2, .code yX2_stamps cX2_stamps 2 (some .int), .methodLink RX2 54 yX2_visitorAt, .instanceMethod yX2_visitorAt, .selects RX2 yX2_visitorAt yX2_visitorAt, .code yX2_visitorAt cX2_visitorAt 2 (some (.object "FairFolio$Visitor")), .classLink RX2 154 "java/lang/IndexOutOfBoundsException", .initialized "java/lang/IndexOutOfBoundsException", .fieldLink RX2 17 "FairFolio" "visitors" "[LFairFolio$Visitor;"] ++ wsX10 ++ wsX20 ++ (vx_atS RX2 158 "java/lang/IndexOutOfBoundsException" ["java/lang/RuntimeException", "java/lang/Exception"]).filter goodWord)
def wsL_queue : List Cond := .codeWith yL_queue cL_queue 4 (some .int) [(0, 9, 12, 13)] :: ([.classLink RL 13 "java/lang/IndexOutOfBoundsException", .methodLink RL 59 yX2_queue, .instanceMethod yX2_queue, .selects RX2 yX2_queue yX2_queue, .initialized RX2, .code yX2_queue cX2_queue 2 (some .int), .methodLink RX2 29 yX2_pavilionAt, .instanceMethod yX2_pavilionAt, .selects RX2 yX2_pavilionAt yX2_pavilionAt, .code yX2_pavilionAt cX2_pavilionAt 2 (some (.object "FairFolio$Pavilion")), .classLink RX2 154 "java/lang/IndexOutOfBoundsException", .initialized "java/lang/IndexOutOfBoundsException", .fieldLink RX2 11 "FairFolio" "pavilions" "[LFairFolio$Pavilion;", .methodLink RX2 150 yX2_countAt, .instanceMethod yX2_countAt, .selects RX2 yX2_countAt yX2_countAt, .code yX2_countAt cX2_countAt 8 (some .int), .fieldLink RX2 17 "FairFolio" "visitors" "[LFairFolio$Visitor;", .methodLink RX2 87 yX2_isAt, .instanceMethod yX2_isAt, .selects RX2 yX2_isAt yX2_isAt, .code yX2_isAt cX2_isAt 4 (some .boolean)] ++ wsX20 ++ wsX10 ++ wsX00 ++ (vx_atS RX2 158 "java/lang/IndexOutOfBoundsException" ["java/lang/RuntimeException", "java/lang/Exception"]).filter goodWord)
def wsL_inside : List Cond := .codeWith yL_inside cL_inside 4 (some .int) [(0, 9, 12, 13)] :: ([.classLink RL 13 "java/lang/IndexOutOfBoundsException", .methodLink RL 62 yX2_inside, .instanceMethod yX2_inside, .selects RX2 yX2_inside yX2_inside, .initialized RX2, .code yX2_inside cX2_inside 2 (some .int), .methodLink RX2 29 yX2_pavilionAt, .instanceMethod yX2_pavilionAt, .selects RX2 yX2_pavilionAt yX2_pavilionAt, .code yX2_pavilionAt cX2_pavilionAt 2 (some (.object "FairFolio$Pavilion")), .classLink RX2 154 "java/lang/IndexOutOfBoundsException", .initialized "java/lang/IndexOutOfBoundsException", .fieldLink RX2 11 "FairFolio" "pavilions" "[LFairFolio$Pavilion;", .methodLink RX2 150 yX2_countAt, .instanceMethod yX2_countAt, .selects RX2 yX2_countAt yX2_countAt, .code yX2_countAt cX2_countAt 8 (some .int), .fieldLink RX2 17 "FairFolio" "visitors" "[LFairFolio$Visitor;", .methodLink RX2 87 yX2_isAt, .instanceMethod yX2_isAt, .selects RX2 yX2_isAt yX2_isAt, .code yX2_isAt cX2_isAt 4 (some .boolean)] ++ wsX20 ++ wsX10 ++ wsX00 ++ (vx_atS RX2 158 "java/lang/IndexOutOfBoundsException" ["java/lang/RuntimeException", "java/lang/Exception"]).filter goodWord)
def wsL_stock : List Cond := .codeWith yL_stock cL_stock 4 (some .int) [(0, 9, 12, 13)] :: ([.classLink RL 13 "java/lang/IndexOutOfBoundsException", .methodLink RL 65 yX2_stock, .instanceMethod yX2_stock, .selects RX2 yX2_stock yX2_stock, .initialized RX2, .code yX2_stock cX2_stock 2 (some .int), .methodLink RX2 29 yX2_pavilionAt, .instanceMethod yX2_pavilionAt, .selects RX2 yX2_pavilionAt yX2_pavilionAt, .code yX2_pavilionAt cX2_pavilionAt 2 (some (.object "FairFolio$Pavilion")), .classLink RX2 154 "java/lang/IndexOutOfBoundsException", .initialized "java/lang/IndexOutOfBoundsException", .fieldLink RX2 11 "FairFolio" "pavilions" "[LFairFolio$Pavilion;"] ++ wsX00 ++ wsX20 ++ (vx_atS RX2 158 "java/lang/IndexOutOfBoundsException" ["java/lang/RuntimeException", "java/lang/Exception"]).filter goodWord)
def wsL_demand : List Cond := .codeWith yL_demand cL_demand 4 (some .int) [(0, 9, 12, 13)] :: ([.classLink RL 13 "java/lang/IndexOutOfBoundsException", .methodLink RL 68 yX2_demand, .instanceMethod yX2_demand, .selects RX2 yX2_demand yX2_demand, .initialized RX2, .code yX2_demand cX2_demand 2 (some .int), .methodLink RX2 29 yX2_pavilionAt, .instanceMethod yX2_pavilionAt, .selects RX2 yX2_pavilionAt yX2_pavilionAt, .code yX2_pavilionAt cX2_pavilionAt 2 (some (.object "FairFolio$Pavilion")), .classLink RX2 154 "java/lang/IndexOutOfBoundsException", .initialized "java/lang/IndexOutOfBoundsException", .fieldLink RX2 11 "FairFolio" "pavilions" "[LFairFolio$Pavilion;"] ++ wsX00 ++ wsX20 ++ (vx_atS RX2 158 "java/lang/IndexOutOfBoundsException" ["java/lang/RuntimeException", "java/lang/Exception"]).filter goodWord)
def wsL_sent : List Cond := .codeWith yL_sent cL_sent 5 (some .int) [(0, 10, 13, 13)] :: ([.classLink RL 13 "java/lang/IndexOutOfBoundsException", .methodLink RL 71 yX2_sent, .instanceMethod yX2_sent, .selects RX2 yX2_sent yX2_sent, .initialized RX2, .code yX2_sent cX2_sent 5 (some .int), .methodLink RX2 54 yX2_visitorAt, .instanceMethod yX2_visitorAt, .selects RX2 yX2_visitorAt yX2_visitorAt, .code yX2_visitorAt cX2_visitorAt 2 (some (.object "FairFolio$Visitor")), .classLink RX2 154 "java/lang/IndexOutOfBoundsException", .initialized "java/lang/IndexOutOfBoundsException", .fieldLink RX2 17 "FairFolio" "visitors" "[LFairFolio$Visitor;", .methodLink RX2 29 yX2_pavilionAt, .instanceMethod yX2_pavilionAt, .selects RX2 yX2_pavilionAt yX2_pavilionAt, .code yX2_pavilionAt cX2_pavilionAt 2 (some (.object "FairFolio$Pavilion")), .fieldLink RX2 11 "FairFolio" "pavilions" "[LFairFolio$Pavilion;"] ++ wsX10 ++ wsX00 ++ wsX20 ++ (vx_atS RX2 158 "java/lang/IndexOutOfBoundsException" ["java/lang/RuntimeException", "java/lang/Exception"]).filter goodWord)
def wsL_law0_r1 : List Cond := [Cond.classLink RL 8 RX2, Cond.instantiable RX2 3, Cond.initialized RX2, Cond.classLink RL 75 RX3, Cond.instantiable RX3 19, Cond.initialized RX3, Cond.arrayClass .long, Cond.methodLink RL 74 yX2_init, Cond.instanceMethod yX2_init, Cond.code yX2_init cX2_init 2 none, Cond.methodLink RX2 1 objectInit, Cond.instanceMethod objectInit, Cond.code objectInit ⟨#[0xb1]⟩ 1 none, Cond.classLink RX2 9 RX0, Cond.fieldLink RX2 11 "FairFolio" "pavilions" "[LFairFolio$Pavilion;", Cond.classLink RX2 15 RX1, Cond.fieldLink RX2 17 "FairFolio" "visitors" "[LFairFolio$Visitor;", Cond.fieldLink RX2 21 "FairFolio" "now" "I", Cond.instantiable RX0 6, Cond.initialized RX0, Cond.instantiable RX1 10, Cond.initialized RX1, Cond.instanceMethod yX0_init, Cond.code yX0_init cX0_init 2 none]
def wsL_law0_r2 : List Cond := [Cond.methodLink RX0 1 objectInit, Cond.fieldLink RX0 7 "FairFolio$Pavilion" "room" "I", Cond.fieldLink RX0 13 "FairFolio$Pavilion" "time" "I", Cond.fieldLink RX0 16 "FairFolio$Pavilion" "isOpen" "Z", Cond.fieldLink RX0 20 "FairFolio$Pavilion" "stock" "I", Cond.fieldLink RX0 23 "FairFolio$Pavilion" "demand" "I", Cond.fieldLink RX0 26 "FairFolio$Pavilion" "number" "I", Cond.instanceMethod yX1_init, Cond.code yX1_init cX1_init 1 none, Cond.methodLink RX1 3 objectInit, Cond.classLink RX1 9 RJx4a65c, Cond.instantiable RJx4a65c 3, Cond.initialized RJx4a65c, Cond.fieldLink RX1 12 "FairFolio$Visitor" "plan" "Ljava/util/ArrayList;", Cond.arrayClass .int, Cond.fieldLink RX1 18 "FairFolio$Visitor" "sent" "[I", Cond.fieldLink RX1 22 "FairFolio$Visitor" "state" "I", Cond.fieldLink RX1 26 "FairFolio$Visitor" "where" "I", Cond.fieldLink RX1 29 "FairFolio$Visitor" "place" "I", Cond.fieldLink RX1 32 "FairFolio$Visitor" "visitEnd" "I", Cond.fieldLink RX1 35 "FairFolio$Visitor" "stamps" "I", Cond.fieldLink RX1 38 "FairFolio$Visitor" "turnMinute" "I", Cond.fieldLink RX1 41 "FairFolio$Visitor" "turnPavilion" "LFairFolio$Pavilion;", Cond.fieldLink RX1 45 "FairFolio$Visitor" "waitsByTurn" "Z"]
def wsL_law0_r3 : List Cond := [Cond.methodLink RX1 11 yJx4a65c_init_da8c8, Cond.instanceMethod yJx4a65c_init_da8c8, Cond.code yJx4a65c_init_da8c8 cJx4a65c_init_da8c8 1 none, Cond.fieldLink RJx4a65c 39 "java/util/ArrayList" "DEFAULTCAPACITY_EMPTY_ELEMENTDATA" "[Ljava/lang/Object;", Cond.fieldLink RJx4a65c 9 "java/util/ArrayList" "elementData" "[Ljava/lang/Object;", Cond.methodLink RJx4a65c 1 yJxc12de_init_da8c8, Cond.instanceMethod yJxc12de_init_da8c8, Cond.initialized RJxc12de, Cond.code yJxc12de_init_da8c8 cJxc12de_init_da8c8 1 none, Cond.fieldLink RJxc12de 7 "java/util/AbstractList" "modCount" "I", Cond.methodLink RJxc12de 1 yJxa1e45_init_da8c8, Cond.instanceMethod yJxa1e45_init_da8c8, Cond.initialized RJxa1e45, Cond.code yJxa1e45_init_da8c8 cJxa1e45_init_da8c8 1 none, Cond.methodLink RJxa1e45 1 objectInit, Cond.methodLink RL 77 yX3_init, Cond.instanceMethod yX3_init, Cond.code yX3_init cX3_init 2 none, Cond.methodLink RX3 1 objectInit, Cond.fieldLink RX3 7 "FairFolioModel" "room" "[I", Cond.fieldLink RX3 13 "FairFolioModel" "takes" "[I", Cond.arrayClass .boolean, Cond.fieldLink RX3 16 "FairFolioModel" "isClosed" "[Z", Cond.fieldLink RX3 20 "FairFolioModel" "queue" "[I"]
def wsL_law0_r4 : List Cond := [Cond.fieldLink RX3 23 "FairFolioModel" "waiting" "[I", Cond.fieldLink RX3 26 "FairFolioModel" "plan" "[I", Cond.fieldLink RX3 29 "FairFolioModel" "planned" "[I", Cond.fieldLink RX3 32 "FairFolioModel" "state" "[I", Cond.fieldLink RX3 35 "FairFolioModel" "where" "[I", Cond.fieldLink RX3 38 "FairFolioModel" "until" "[I", Cond.fieldLink RX3 41 "FairFolioModel" "stamps" "[I", Cond.fieldLink RX3 44 "FairFolioModel" "turn" "[I", Cond.fieldLink RX3 47 "FairFolioModel" "turnFor" "[I", Cond.fieldLink RX3 50 "FairFolioModel" "isByTurn" "[Z", Cond.fieldLink RX3 53 "FairFolioModel" "stock" "[I", Cond.fieldLink RX3 56 "FairFolioModel" "demand" "[I", Cond.fieldLink RX3 59 "FairFolioModel" "sent" "[I", Cond.methodLink RL 78 yL_setPavilion, Cond.static yL_setPavilion, Cond.initialized RL, Cond.codeWith yL_setPavilion cL_setPavilion 5 (some .int) [(0, 7, 10, 13), (0, 7, 14, 15)], Cond.classLink RL 13 "java/lang/IndexOutOfBoundsException", Cond.classLink RL 15 "java/lang/IllegalArgumentException", Cond.methodLink RL 7 yX2_setPavilion, Cond.instanceMethod yX2_setPavilion, Cond.selects RX2 yX2_setPavilion yX2_setPavilion, Cond.code yX2_setPavilion cX2_setPavilion 5 none, Cond.classLink RX2 33 "java/lang/IllegalArgumentException"]
def wsL_law0_r5 : List Cond := [Cond.initialized "java/lang/IllegalArgumentException", Cond.methodLink RX2 29 yX2_pavilionAt, Cond.instanceMethod yX2_pavilionAt, Cond.selects RX2 yX2_pavilionAt yX2_pavilionAt, Cond.code yX2_pavilionAt cX2_pavilionAt 2 (some (.object "FairFolio$Pavilion")), Cond.classLink RX2 154 "java/lang/IndexOutOfBoundsException", Cond.initialized "java/lang/IndexOutOfBoundsException", Cond.methodLink RL 83 yX3_setPavilion, Cond.instanceMethod yX3_setPavilion, Cond.selects RX3 yX3_setPavilion yX3_setPavilion, Cond.code yX3_setPavilion cX3_setPavilion 4 none, Cond.methodLink RX3 70 yX3_isPavilion, Cond.static yX3_isPavilion, Cond.code yX3_isPavilion cX3_isPavilion 1 (some .boolean), Cond.methodLink RX3 74 yX3_goes, Cond.instanceMethod yX3_goes, Cond.selects RX3 yX3_goes yX3_goes, Cond.code yX3_goes cX3_goes 3 (some .boolean), Cond.fieldLink RX3 62 "FairFolioModel" "thrown" "I", Cond.methodLink RL 84 yX3_thrown, Cond.instanceMethod yX3_thrown, Cond.selects RX3 yX3_thrown yX3_thrown, Cond.code yX3_thrown cX3_thrown 1 (some .int), Cond.methodLink RL 88 yL_open]
def wsL_law0_r6 : List Cond := [Cond.static yL_open, Cond.codeWith yL_open cL_open 5 (some .int) [(0, 10, 13, 13)], Cond.methodLink RL 17 yX2_open, Cond.instanceMethod yX2_open, Cond.selects RX2 yX2_open yX2_open, Cond.code yX2_open cX2_open 4 (some .int), Cond.methodLink RX2 50 yX2_emptyQueue, Cond.instanceMethod yX2_emptyQueue, Cond.selects RX2 yX2_emptyQueue yX2_emptyQueue, Cond.code yX2_emptyQueue cX2_emptyQueue 7 (some .int), Cond.methodLink RX2 87 yX2_isAt, Cond.instanceMethod yX2_isAt, Cond.selects RX2 yX2_isAt yX2_isAt, Cond.code yX2_isAt cX2_isAt 4 (some .boolean), Cond.methodLink RX2 94 yX2_leaveQueue, Cond.instanceMethod yX2_leaveQueue, Cond.selects RX2 yX2_leaveQueue yX2_leaveQueue, Cond.code yX2_leaveQueue cX2_leaveQueue 6 none, Cond.methodLink RX2 189 yX2_loseTurn, Cond.instanceMethod yX2_loseTurn, Cond.selects RX2 yX2_loseTurn yX2_loseTurn, Cond.code yX2_loseTurn cX2_loseTurn 2 none, Cond.methodLink RX2 183 yX2_becomeIdle, Cond.instanceMethod yX2_becomeIdle]
def wsL_law0_r7 : List Cond := [Cond.selects RX2 yX2_becomeIdle yX2_becomeIdle, Cond.code yX2_becomeIdle cX2_becomeIdle 2 none, Cond.methodLink RL 91 yX3_open, Cond.instanceMethod yX3_open, Cond.selects RX3 yX3_open yX3_open, Cond.code yX3_open cX3_open 5 (some .int), Cond.methodLink RX3 78 yX3_leaves, Cond.instanceMethod yX3_leaves, Cond.selects RX3 yX3_leaves yX3_leaves, Cond.code yX3_leaves cX3_leaves 5 none, Cond.methodLink RX3 66 yX3_placeIn, Cond.instanceMethod yX3_placeIn, Cond.selects RX3 yX3_placeIn yX3_placeIn, Cond.code yX3_placeIn cX3_placeIn 5 (some .int), Cond.methodLink RX3 82 yX3_loses, Cond.instanceMethod yX3_loses, Cond.selects RX3 yX3_loses yX3_loses, Cond.code yX3_loses cX3_loses 2 none, Cond.methodLink RL 92 yL_plan, Cond.static yL_plan, Cond.codeWith yL_plan cL_plan 5 (some .int) [(0, 10, 13, 13), (0, 10, 17, 25)], Cond.classLink RL 25 "java/lang/IllegalStateException", Cond.methodLink RL 21 yX2_plan, Cond.instanceMethod yX2_plan]
def wsL_law0_r8 : List Cond := [Cond.selects RX2 yX2_plan yX2_plan, Cond.code yX2_plan cX2_plan 5 (some .int), Cond.classLink RX2 62 "java/lang/IllegalStateException", Cond.initialized "java/lang/IllegalStateException", Cond.methodLink RX2 54 yX2_visitorAt, Cond.instanceMethod yX2_visitorAt, Cond.selects RX2 yX2_visitorAt yX2_visitorAt, Cond.code yX2_visitorAt cX2_visitorAt 2 (some (.object "FairFolio$Visitor")), Cond.methodLink RX2 58 yX2_indexInPlan, Cond.instanceMethod yX2_indexInPlan, Cond.selects RX2 yX2_indexInPlan yX2_indexInPlan, Cond.code yX2_indexInPlan cX2_indexInPlan 4 (some .int), Cond.methodLink RX2 77 yJx4a65c_size_8abf5, Cond.instanceMethod yJx4a65c_size_8abf5, Cond.selects RJx4a65c yJx4a65c_size_8abf5 yJx4a65c_size_8abf5, Cond.code yJx4a65c_size_8abf5 cJx4a65c_size_8abf5 1 (some .int), Cond.fieldLink RJx4a65c 48 "java/util/ArrayList" "size" "I", Cond.methodLink RX2 161 yJx4a65c_get_915e3, Cond.instanceMethod yJx4a65c_get_915e3, Cond.selects RJx4a65c yJx4a65c_get_915e3 yJx4a65c_get_915e3, Cond.code yJx4a65c_get_915e3 cJx4a65c_get_915e3 2 (some (.object "java/lang/Object")), Cond.methodLink RJx4a65c 118 yJ15_checkIndex_7cf53, Cond.static yJ15_checkIndex_7cf53, Cond.initialized RJ15]
def wsL_law0_r9 : List Cond := [Cond.code yJ15_checkIndex_7cf53 cJ15_checkIndex_7cf53 2 (some .int), Cond.methodLink RJ15 105 yJ3_checkIndex_8e157, Cond.static yJ3_checkIndex_8e157, Cond.initialized RJ3, Cond.code yJ3_checkIndex_8e157 cJ3_checkIndex_8e157 3 (some .int), Cond.methodLink RJx4a65c 123 yJx4a65c_elementData_915e3, Cond.instanceMethod yJx4a65c_elementData_915e3, Cond.selects RJx4a65c yJx4a65c_elementData_915e3 yJx4a65c_elementData_915e3, Cond.code yJx4a65c_elementData_915e3 cJx4a65c_elementData_915e3 2 (some (.object "java/lang/Object")), Cond.methodLink RX2 71 yJx4a65c_add_9ea2d, Cond.instanceMethod yJx4a65c_add_9ea2d, Cond.selects RJx4a65c yJx4a65c_add_9ea2d yJx4a65c_add_9ea2d, Cond.code yJx4a65c_add_9ea2d cJx4a65c_add_9ea2d 2 (some .boolean), Cond.fieldLink RJx4a65c 63 "java/util/ArrayList" "modCount" "I", Cond.sameField "java/util/ArrayList" "java/util/AbstractList" "modCount" "I", Cond.methodLink RJx4a65c 131 yJx4a65c_add_72be8, Cond.instanceMethod yJx4a65c_add_72be8, Cond.selects RJx4a65c yJx4a65c_add_72be8 yJx4a65c_add_72be8, Cond.code yJx4a65c_add_72be8 cJx4a65c_add_72be8 4 none, Cond.methodLink RJx4a65c 129 yJx4a65c_grow_d5877, Cond.instanceMethod yJx4a65c_grow_d5877, Cond.selects RJx4a65c yJx4a65c_grow_d5877 yJx4a65c_grow_d5877, Cond.code yJx4a65c_grow_d5877 cJx4a65c_grow_d5877 1 (some (.array (.object "java/lang/Object"))), Cond.methodLink RJx4a65c 69 yJx4a65c_grow_92f84]
def wsL_law0_r10 : List Cond := [Cond.instanceMethod yJx4a65c_grow_92f84, Cond.selects RJx4a65c yJx4a65c_grow_92f84 yJx4a65c_grow_92f84, Cond.code yJx4a65c_grow_92f84 cJx4a65c_grow_92f84 4 (some (.array (.object "java/lang/Object"))), Cond.methodLink RJx4a65c 79 Lib.Math.max.name, Cond.static Lib.Math.max.name, Cond.initialized "java/lang/Math", Cond.code Lib.Math.max.name Lib.Math.max.code 2 (some .int), Cond.classLink RJx4a65c 7 "java/lang/Object", Cond.methodLink RJx4a65c 73 yJ8_newLength_cabcc, Cond.static yJ8_newLength_cabcc, Cond.initialized RJ8, Cond.code yJ8_newLength_cabcc cJ8_newLength_cabcc 4 (some .int), Cond.methodLink RJ8 194 Lib.Math.max.name, Cond.constant RJ8 200 (2147483639), Cond.methodLink RJ8 201 yJ8_hugeLength_7cf53, Cond.static yJ8_hugeLength_7cf53, Cond.code yJ8_hugeLength_7cf53 cJ8_hugeLength_7cf53 3 (some .int), Cond.methodLink RJx4a65c 66 yJ7_copyOf_1904c, Cond.static yJ7_copyOf_1904c, Cond.initialized RJ7, Cond.code yJ7_copyOf_1904c cJ7_copyOf_1904c 2 (some (.array (.object "java/lang/Object"))), Cond.methodLink RJ7 86 ⟨"java/lang/Object", "getClass", "()Ljava/lang/Class;"⟩, Cond.selects "[Ljava/lang/Object;" ⟨"java/lang/Object", "getClass", "()Ljava/lang/Class;"⟩ ⟨"java/lang/Object", "getClass", "()Ljava/lang/Class;"⟩, Cond.instanceMethod ⟨"java/lang/Object", "getClass", "()Ljava/lang/Class;"⟩]
def wsL_law0_r11 : List Cond := [Cond.native ⟨"java/lang/Object", "getClass", "()Ljava/lang/Class;"⟩, Cond.methodLink RJ7 300 yJ7_copyOf_6403c, Cond.static yJ7_copyOf_6403c, Cond.code yJ7_copyOf_6403c cJ7_copyOf_6403c 4 (some (.array (.object "java/lang/Object"))), Cond.classLink RJ7 110 "[Ljava/lang/Object;", Cond.classLink RJ7 2 "java/lang/Object", Cond.methodLink RJ7 304 Lib.Math.min.name, Cond.static Lib.Math.min.name, Cond.code Lib.Math.min.name Lib.Math.min.code 2 (some .int), Cond.methodLink RJ7 150 arraycopyName, Cond.native arraycopyName, Cond.static arraycopyName, Cond.initialized "java/lang/System", Cond.methodLink RL 95 yX3_plan, Cond.instanceMethod yX3_plan, Cond.selects RX3 yX3_plan yX3_plan, Cond.code yX3_plan cX3_plan 4 (some .int), Cond.methodLink RX3 85 yX3_isVisitor, Cond.static yX3_isVisitor, Cond.code yX3_isVisitor cX3_isVisitor 1 (some .boolean), Cond.methodLink RX3 88 yX3_placeInPlan, Cond.instanceMethod yX3_placeInPlan, Cond.selects RX3 yX3_placeInPlan yX3_placeInPlan, Cond.code yX3_placeInPlan cX3_placeInPlan 5 (some .int)]
def wsL_law0_r12 : List Cond := [Cond.methodLink RL 96 yL_drop, Cond.static yL_drop, Cond.codeWith yL_drop cL_drop 5 (some .int) [(0, 10, 13, 13), (0, 10, 17, 25)], Cond.methodLink RL 27 yX2_drop, Cond.instanceMethod yX2_drop, Cond.selects RX2 yX2_drop yX2_drop, Cond.code yX2_drop cX2_drop 6 (some .int), Cond.methodLink RX2 83 yJx4a65c_remove_915e3, Cond.instanceMethod yJx4a65c_remove_915e3, Cond.selects RJx4a65c yJx4a65c_remove_915e3 yJx4a65c_remove_915e3, Cond.code yJx4a65c_remove_915e3 cJx4a65c_remove_915e3 4 (some (.object "java/lang/Object")), Cond.methodLink RJx4a65c 144 yJx4a65c_fastRemove_b59b0, Cond.instanceMethod yJx4a65c_fastRemove_b59b0, Cond.selects RJx4a65c yJx4a65c_fastRemove_b59b0 yJx4a65c_fastRemove_b59b0, Cond.code yJx4a65c_fastRemove_b59b0 cJx4a65c_fastRemove_b59b0 4 none, Cond.methodLink RJx4a65c 112 arraycopyName, Cond.methodLink RL 98 yX3_drop, Cond.instanceMethod yX3_drop, Cond.selects RX3 yX3_drop yX3_drop, Cond.code yX3_drop cX3_drop 6 (some .int), Cond.methodLink RL 99 yL_ask, Cond.static yL_ask, Cond.codeWith yL_ask cL_ask 5 (some .int) [(0, 10, 13, 13), (0, 10, 17, 25)], Cond.methodLink RL 30 yX2_ask]
def wsL_law0_r13 : List Cond := [Cond.instanceMethod yX2_ask, Cond.selects RX2 yX2_ask yX2_ask, Cond.code yX2_ask cX2_ask 5 (some .int), Cond.methodLink RX2 103 yX2_firstFreeTurn, Cond.instanceMethod yX2_firstFreeTurn, Cond.selects RX2 yX2_firstFreeTurn yX2_firstFreeTurn, Cond.code yX2_firstFreeTurn cX2_firstFreeTurn 4 (some .int), Cond.methodLink RX2 164 yX2_isTurnTaken, Cond.instanceMethod yX2_isTurnTaken, Cond.selects RX2 yX2_isTurnTaken yX2_isTurnTaken, Cond.code yX2_isTurnTaken cX2_isTurnTaken 7 (some .boolean), Cond.methodLink RL 101 yX3_ask, Cond.instanceMethod yX3_ask, Cond.selects RX3 yX3_ask yX3_ask, Cond.code yX3_ask cX3_ask 7 (some .int), Cond.fieldLink RX3 91 "FairFolioModel" "minute" "I", Cond.methodLink RL 102 yL_advance, Cond.static yL_advance, Cond.codeWith yL_advance cL_advance 4 (some .int) [(0, 9, 12, 15), (0, 9, 15, 25)], Cond.methodLink RL 33 yX2_advance, Cond.instanceMethod yX2_advance, Cond.selects RX2 yX2_advance yX2_advance, Cond.code yX2_advance cX2_advance 3 (some .int), Cond.methodLink RX2 114 yX2_passMinute]
def wsL_law0_r14 : List Cond := [Cond.instanceMethod yX2_passMinute, Cond.selects RX2 yX2_passMinute yX2_passMinute, Cond.code yX2_passMinute cX2_passMinute 1 none, Cond.methodLink RX2 168 yX2_endVisits, Cond.instanceMethod yX2_endVisits, Cond.selects RX2 yX2_endVisits yX2_endVisits, Cond.code yX2_endVisits cX2_endVisits 5 none, Cond.methodLink RX2 171 yX2_takeTurns, Cond.instanceMethod yX2_takeTurns, Cond.selects RX2 yX2_takeTurns yX2_takeTurns, Cond.code yX2_takeTurns cX2_takeTurns 5 none, Cond.methodLink RX2 186 yX2_takeTurn, Cond.instanceMethod yX2_takeTurn, Cond.selects RX2 yX2_takeTurn yX2_takeTurn, Cond.code yX2_takeTurn cX2_takeTurn 3 none, Cond.methodLink RX2 192 yX2_countByTurn, Cond.instanceMethod yX2_countByTurn, Cond.selects RX2 yX2_countByTurn yX2_countByTurn, Cond.code yX2_countByTurn cX2_countByTurn 7 (some .int), Cond.methodLink RX2 195 yX2_joinQueue, Cond.instanceMethod yX2_joinQueue, Cond.selects RX2 yX2_joinQueue yX2_joinQueue, Cond.code yX2_joinQueue cX2_joinQueue 8 none, Cond.methodLink RX2 174 yX2_followPlans]
def wsL_law0_r15 : List Cond := [Cond.instanceMethod yX2_followPlans, Cond.selects RX2 yX2_followPlans yX2_followPlans, Cond.code yX2_followPlans cX2_followPlans 5 none, Cond.methodLink RX2 199 yX2_followPlan, Cond.instanceMethod yX2_followPlan, Cond.selects RX2 yX2_followPlan yX2_followPlan, Cond.code yX2_followPlan cX2_followPlan 4 none, Cond.classLink RX2 9 "FairFolio$Pavilion", Cond.methodLink RX2 117 yX2_hasStamp, Cond.instanceMethod yX2_hasStamp, Cond.selects RX2 yX2_hasStamp yX2_hasStamp, Cond.code yX2_hasStamp cX2_hasStamp 3 (some .boolean), Cond.methodLink RX2 150 yX2_countAt, Cond.instanceMethod yX2_countAt, Cond.selects RX2 yX2_countAt yX2_countAt, Cond.code yX2_countAt cX2_countAt 8 (some .int), Cond.methodLink RX2 177 yX2_letIn, Cond.instanceMethod yX2_letIn, Cond.selects RX2 yX2_letIn yX2_letIn, Cond.code yX2_letIn cX2_letIn 5 none, Cond.methodLink RX2 202 yX2_fillRoom, Cond.instanceMethod yX2_fillRoom, Cond.selects RX2 yX2_fillRoom yX2_fillRoom, Cond.code yX2_fillRoom cX2_fillRoom 4 none]
def wsL_law0_r16 : List Cond := [Cond.methodLink RX2 206 yX2_firstInQueue, Cond.instanceMethod yX2_firstInQueue, Cond.selects RX2 yX2_firstInQueue yX2_firstInQueue, Cond.code yX2_firstInQueue cX2_firstInQueue 6 (some (.object "FairFolio$Visitor")), Cond.methodLink RX2 210 yX2_goInside, Cond.instanceMethod yX2_goInside, Cond.selects RX2 yX2_goInside yX2_goInside, Cond.code yX2_goInside cX2_goInside 3 none, Cond.methodLink RL 105 yX3_advance, Cond.instanceMethod yX3_advance, Cond.selects RX3 yX3_advance yX3_advance, Cond.code yX3_advance cX3_advance 4 (some .int), Cond.methodLink RX3 102 yX3_comeOut, Cond.instanceMethod yX3_comeOut, Cond.selects RX3 yX3_comeOut yX3_comeOut, Cond.code yX3_comeOut cX3_comeOut 2 none, Cond.methodLink RX3 105 yX3_takeTurns, Cond.instanceMethod yX3_takeTurns, Cond.selects RX3 yX3_takeTurns yX3_takeTurns, Cond.code yX3_takeTurns cX3_takeTurns 4 none, Cond.methodLink RX3 94 yX3_puts, Cond.instanceMethod yX3_puts, Cond.selects RX3 yX3_puts yX3_puts, Cond.code yX3_puts cX3_puts 5 none]
def wsL_law0_r17 : List Cond := [Cond.methodLink RX3 108 yX3_goOn, Cond.instanceMethod yX3_goOn, Cond.selects RX3 yX3_goOn yX3_goOn, Cond.code yX3_goOn cX3_goOn 4 none, Cond.methodLink RX3 111 yX3_goIn, Cond.instanceMethod yX3_goIn, Cond.selects RX3 yX3_goIn yX3_goIn, Cond.code yX3_goIn cX3_goIn 3 none, Cond.methodLink RX3 98 yX3_insideOf, Cond.instanceMethod yX3_insideOf, Cond.selects RX3 yX3_insideOf yX3_insideOf, Cond.code yX3_insideOf cX3_insideOf 4 (some .int), Cond.methodLink RL 106 yL_send, Cond.static yL_send, Cond.codeWith yL_send cL_send 5 (some .int) [(0, 17, 20, 13), (0, 17, 24, 25)], Cond.methodLink RL 37 yX2_send, Cond.instanceMethod yX2_send, Cond.selects RX2 yX2_send yX2_send, Cond.code yX2_send cX2_send 5 (some .boolean), Cond.methodLink RL 108 yX3_send, Cond.instanceMethod yX3_send, Cond.selects RX3 yX3_send yX3_send, Cond.code yX3_send cX3_send 4 (some .boolean), Cond.methodLink RL 109 yL_reprint]
def wsL_law0_r18 : List Cond := [Cond.static yL_reprint, Cond.codeWith yL_reprint cL_reprint 4 (some .int) [(0, 9, 12, 15)], Cond.methodLink RL 41 yX2_reprint, Cond.instanceMethod yX2_reprint, Cond.selects RX2 yX2_reprint yX2_reprint, Cond.code yX2_reprint cX2_reprint 7 (some .int), Cond.methodLink RL 111 yX3_reprint, Cond.instanceMethod yX3_reprint, Cond.selects RX3 yX3_reprint yX3_reprint, Cond.code yX3_reprint cX3_reprint 4 (some .int), Cond.methodLink RL 112 yX2_minute, Cond.instanceMethod yX2_minute, Cond.selects RX2 yX2_minute yX2_minute, Cond.code yX2_minute cX2_minute 1 (some .int), Cond.methodLink RL 115 yX3_minute, Cond.instanceMethod yX3_minute, Cond.selects RX3 yX3_minute yX3_minute, Cond.code yX3_minute cX3_minute 1 (some .int), Cond.methodLink RL 116 yL_stateOf, Cond.static yL_stateOf, Cond.codeWith yL_stateOf cL_stateOf 4 (some .int) [(0, 9, 12, 13)], Cond.methodLink RL 44 yX2_stateOf, Cond.instanceMethod yX2_stateOf, Cond.selects RX2 yX2_stateOf yX2_stateOf]
def wsL_law0_r19 : List Cond := [Cond.code yX2_stateOf cX2_stateOf 2 (some .int), Cond.methodLink RL 118 yX3_stateOf, Cond.instanceMethod yX3_stateOf, Cond.selects RX3 yX3_stateOf yX3_stateOf, Cond.code yX3_stateOf cX3_stateOf 2 (some .int), Cond.methodLink RL 119 yL_whereIs, Cond.static yL_whereIs, Cond.codeWith yL_whereIs cL_whereIs 4 (some .int) [(0, 9, 12, 13)], Cond.methodLink RL 47 yX2_whereIs, Cond.instanceMethod yX2_whereIs, Cond.selects RX2 yX2_whereIs yX2_whereIs, Cond.code yX2_whereIs cX2_whereIs 2 (some .int), Cond.methodLink RL 121 yX3_whereIs, Cond.instanceMethod yX3_whereIs, Cond.selects RX3 yX3_whereIs yX3_whereIs, Cond.code yX3_whereIs cX3_whereIs 2 (some .int), Cond.methodLink RL 122 yL_placeOf, Cond.static yL_placeOf, Cond.codeWith yL_placeOf cL_placeOf 4 (some .int) [(0, 9, 12, 13)], Cond.methodLink RL 50 yX2_placeOf, Cond.instanceMethod yX2_placeOf, Cond.selects RX2 yX2_placeOf yX2_placeOf, Cond.code yX2_placeOf cX2_placeOf 2 (some .int), Cond.methodLink RL 124 yX3_placeOf]
def wsL_law0_r20 : List Cond := [Cond.instanceMethod yX3_placeOf, Cond.selects RX3 yX3_placeOf yX3_placeOf, Cond.code yX3_placeOf cX3_placeOf 2 (some .int), Cond.methodLink RL 125 yL_turnOf, Cond.static yL_turnOf, Cond.codeWith yL_turnOf cL_turnOf 4 (some .int) [(0, 9, 12, 13)], Cond.methodLink RL 53 yX2_turnOf, Cond.instanceMethod yX2_turnOf, Cond.selects RX2 yX2_turnOf yX2_turnOf, Cond.code yX2_turnOf cX2_turnOf 2 (some .int), Cond.methodLink RL 127 yX3_turnOf, Cond.instanceMethod yX3_turnOf, Cond.selects RX3 yX3_turnOf yX3_turnOf, Cond.code yX3_turnOf cX3_turnOf 2 (some .int), Cond.methodLink RL 128 yL_stamps, Cond.static yL_stamps, Cond.codeWith yL_stamps cL_stamps 4 (some .int) [(0, 9, 12, 13)], Cond.methodLink RL 56 yX2_stamps, Cond.instanceMethod yX2_stamps, Cond.selects RX2 yX2_stamps yX2_stamps, Cond.code yX2_stamps cX2_stamps 2 (some .int), Cond.methodLink RL 130 yX3_stamps, Cond.instanceMethod yX3_stamps, Cond.selects RX3 yX3_stamps yX3_stamps]
def wsL_law0_r21 : List Cond := [Cond.code yX3_stamps cX3_stamps 2 (some .int), Cond.methodLink RL 131 yL_queue, Cond.static yL_queue, Cond.codeWith yL_queue cL_queue 4 (some .int) [(0, 9, 12, 13)], Cond.methodLink RL 59 yX2_queue, Cond.instanceMethod yX2_queue, Cond.selects RX2 yX2_queue yX2_queue, Cond.code yX2_queue cX2_queue 2 (some .int), Cond.methodLink RL 133 yX3_queue, Cond.instanceMethod yX3_queue, Cond.selects RX3 yX3_queue yX3_queue, Cond.code yX3_queue cX3_queue 2 (some .int), Cond.methodLink RL 134 yL_inside, Cond.static yL_inside, Cond.codeWith yL_inside cL_inside 4 (some .int) [(0, 9, 12, 13)], Cond.methodLink RL 62 yX2_inside, Cond.instanceMethod yX2_inside, Cond.selects RX2 yX2_inside yX2_inside, Cond.code yX2_inside cX2_inside 2 (some .int), Cond.methodLink RL 136 yX3_inside, Cond.instanceMethod yX3_inside, Cond.selects RX3 yX3_inside yX3_inside, Cond.code yX3_inside cX3_inside 2 (some .int), Cond.methodLink RL 137 yL_stock]
def wsL_law0_r22 : List Cond := [Cond.static yL_stock, Cond.codeWith yL_stock cL_stock 4 (some .int) [(0, 9, 12, 13)], Cond.methodLink RL 65 yX2_stock, Cond.instanceMethod yX2_stock, Cond.selects RX2 yX2_stock yX2_stock, Cond.code yX2_stock cX2_stock 2 (some .int), Cond.methodLink RL 139 yX3_stock, Cond.instanceMethod yX3_stock, Cond.selects RX3 yX3_stock yX3_stock, Cond.code yX3_stock cX3_stock 2 (some .int), Cond.methodLink RL 140 yL_demand, Cond.static yL_demand, Cond.codeWith yL_demand cL_demand 4 (some .int) [(0, 9, 12, 13)], Cond.methodLink RL 68 yX2_demand, Cond.instanceMethod yX2_demand, Cond.selects RX2 yX2_demand yX2_demand, Cond.code yX2_demand cX2_demand 2 (some .int), Cond.methodLink RL 142 yX3_demand, Cond.instanceMethod yX3_demand, Cond.selects RX3 yX3_demand yX3_demand, Cond.code yX3_demand cX3_demand 2 (some .int), Cond.methodLink RL 143 yL_sent, Cond.static yL_sent, Cond.codeWith yL_sent cL_sent 5 (some .int) [(0, 10, 13, 13)]]
def wsL_law0_r23 : List Cond := [Cond.methodLink RL 71 yX2_sent, Cond.instanceMethod yX2_sent, Cond.selects RX2 yX2_sent yX2_sent, Cond.code yX2_sent cX2_sent 5 (some .int), Cond.methodLink RL 145 yX3_sent, Cond.instanceMethod yX3_sent, Cond.selects RX3 yX3_sent yX3_sent, Cond.code yX3_sent cX3_sent 3 (some .int)]
def wsL_law0 : List Cond := (wsL_law0_r1 ++ (wsL_law0_r2 ++ (wsL_law0_r3 ++ (wsL_law0_r4 ++ (wsL_law0_r5 ++ (wsL_law0_r6 ++ (wsL_law0_r7 ++ (wsL_law0_r8 ++ (wsL_law0_r9 ++ (wsL_law0_r10 ++ (wsL_law0_r11 ++ (wsL_law0_r12 ++ (wsL_law0_r13 ++ (wsL_law0_r14 ++ (wsL_law0_r15 ++ (wsL_law0_r16 ++ (wsL_law0_r17 ++ (wsL_law0_r18 ++ (wsL_law0_r19 ++ (wsL_law0_r20 ++ (wsL_law0_r21 ++ (wsL_law0_r22 ++ wsL_law0_r23)))))))))))))))))))))) ++ wsX20 ++ wsX30 ++ wsX00 ++ wsX10 ++ wsJx4a65c0 ++ ([] : List Cond)
def wsL_law : List Cond := wsL_law0 ++ (vx_atS RX2 37 "java/lang/IllegalArgumentException" ["java/lang/RuntimeException", "java/lang/Exception"]).filter goodWord ++ (vx_atS RX2 158 "java/lang/IndexOutOfBoundsException" ["java/lang/RuntimeException", "java/lang/Exception"]).filter goodWord ++ (vx_atS RX2 66 "java/lang/IllegalStateException" ["java/lang/RuntimeException", "java/lang/Exception"]).filter goodWord
theorem memApp {a b big : List Cond} (ha : ∀ w ∈ a, w ∈ big) (hb : ∀ w ∈ b, w ∈ big) : ∀ w ∈ a ++ b, w ∈ big := fun w h => (List.mem_append.mp h).elim (ha w) (hb w)
set_option maxRecDepth 20000 in
theorem wsL_in_r1 : ∀ w ∈ wsL_law0_r1, w ∈ lw_tbl := fun w h => (goodIn_p wsL_law0_r1 [64, 67, 75] (by decide +kernel) (by decide +kernel) w h).1
set_option maxRecDepth 20000 in
theorem wsL_in_r2 : ∀ w ∈ wsL_law0_r2, w ∈ lw_tbl := fun w h => (goodIn_p wsL_law0_r2 [105] (by decide +kernel) (by decide +kernel) w h).1
set_option maxRecDepth 20000 in
theorem wsL_in_r3 : ∀ w ∈ wsL_law0_r3, w ∈ lw_tbl := fun w h => (goodIn_p wsL_law0_r3 [111, 114, 117, 607] (by decide +kernel) (by decide +kernel) w h).1
set_option maxRecDepth 20000 in
theorem wsL_in_r4 : ∀ w ∈ wsL_law0_r4, w ∈ lw_tbl := fun w h => (goodIn_p wsL_law0_r4 [197] (by decide +kernel) (by decide +kernel) w h).1
set_option maxRecDepth 20000 in
theorem wsL_in_r5 : ∀ w ∈ wsL_law0_r5, w ∈ lw_tbl := fun w h => (goodIn_p wsL_law0_r5 [201, 675, 678, 682, 671] (by decide +kernel) (by decide +kernel) w h).1
set_option maxRecDepth 20000 in
theorem wsL_in_r6 : ∀ w ∈ wsL_law0_r6, w ∈ lw_tbl := fun w h => (goodIn_p wsL_law0_r6 [292, 296, 300, 304, 308] (by decide +kernel) (by decide +kernel) w h).1
set_option maxRecDepth 20000 in
theorem wsL_in_r7 : ∀ w ∈ wsL_law0_r7, w ∈ lw_tbl := fun w h => (goodIn_p wsL_law0_r7 [312, 686, 690, 694, 698] (by decide +kernel) (by decide +kernel) w h).1
set_option maxRecDepth 20000 in
theorem wsL_in_r8 : ∀ w ∈ wsL_law0_r8, w ∈ lw_tbl := fun w h => (goodIn_p wsL_law0_r8 [320, 324, 329, 333, 337] (by decide +kernel) (by decide +kernel) w h).1
set_option maxRecDepth 20000 in
theorem wsL_in_r9 : ∀ w ∈ wsL_law0_r9, w ∈ lw_tbl := fun w h => (goodIn_p wsL_law0_r9 [340, 343, 347, 367, 371, 375] (by decide +kernel) (by decide +kernel) w h).1
set_option maxRecDepth 20000 in
theorem wsL_in_r10 : ∀ w ∈ wsL_law0_r10, w ∈ lw_tbl := fun w h => (goodIn_p wsL_law0_r10 [379, 385, 382, 389, 392] (by decide +kernel) (by decide +kernel) w h).1
set_option maxRecDepth 20000 in
theorem wsL_in_r11 : ∀ w ∈ wsL_law0_r11, w ∈ lw_tbl := fun w h => (goodIn_p wsL_law0_r11 [407, 413, 702, 705, 709] (by decide +kernel) (by decide +kernel) w h).1
set_option maxRecDepth 20000 in
theorem wsL_in_r12 : ∀ w ∈ wsL_law0_r12, w ∈ lw_tbl := fun w h => (goodIn_p wsL_law0_r12 [425, 430, 434, 713] (by decide +kernel) (by decide +kernel) w h).1
set_option maxRecDepth 20000 in
theorem wsL_in_r13 : ∀ w ∈ wsL_law0_r13, w ∈ lw_tbl := fun w h => (goodIn_p wsL_law0_r13 [442, 447, 451, 717, 458] (by decide +kernel) (by decide +kernel) w h).1
set_option maxRecDepth 20000 in
theorem wsL_in_r14 : ∀ w ∈ wsL_law0_r14, w ∈ lw_tbl := fun w h => (goodIn_p wsL_law0_r14 [464, 468, 472, 476, 480, 484] (by decide +kernel) (by decide +kernel) w h).1
set_option maxRecDepth 20000 in
theorem wsL_in_r15 : ∀ w ∈ wsL_law0_r15, w ∈ lw_tbl := fun w h => (goodIn_p wsL_law0_r15 [488, 492, 496, 500, 504, 508] (by decide +kernel) (by decide +kernel) w h).1
set_option maxRecDepth 20000 in
theorem wsL_in_r16 : ∀ w ∈ wsL_law0_r16, w ∈ lw_tbl := fun w h => (goodIn_p wsL_law0_r16 [512, 516, 721, 725, 729, 733] (by decide +kernel) (by decide +kernel) w h).1
set_option maxRecDepth 20000 in
theorem wsL_in_r17 : ∀ w ∈ wsL_law0_r17, w ∈ lw_tbl := fun w h => (goodIn_p wsL_law0_r17 [737, 741, 745, 523, 749] (by decide +kernel) (by decide +kernel) w h).1
set_option maxRecDepth 20000 in
theorem wsL_in_r18 : ∀ w ∈ wsL_law0_r18, w ∈ lw_tbl := fun w h => (goodIn_p wsL_law0_r18 [531, 753, 188, 757] (by decide +kernel) (by decide +kernel) w h).1
set_option maxRecDepth 20000 in
theorem wsL_in_r19 : ∀ w ∈ wsL_law0_r19, w ∈ lw_tbl := fun w h => (goodIn_p wsL_law0_r19 [539, 761, 546, 765, 553] (by decide +kernel) (by decide +kernel) w h).1
set_option maxRecDepth 20000 in
theorem wsL_in_r20 : ∀ w ∈ wsL_law0_r20, w ∈ lw_tbl := fun w h => (goodIn_p wsL_law0_r20 [769, 560, 773, 567] (by decide +kernel) (by decide +kernel) w h).1
set_option maxRecDepth 20000 in
theorem wsL_in_r21 : ∀ w ∈ wsL_law0_r21, w ∈ lw_tbl := fun w h => (goodIn_p wsL_law0_r21 [777, 574, 781, 581, 785] (by decide +kernel) (by decide +kernel) w h).1
set_option maxRecDepth 20000 in
theorem wsL_in_r22 : ∀ w ∈ wsL_law0_r22, w ∈ lw_tbl := fun w h => (goodIn_p wsL_law0_r22 [588, 789, 595, 793] (by decide +kernel) (by decide +kernel) w h).1
set_option maxRecDepth 20000 in
theorem wsL_in_r23 : ∀ w ∈ wsL_law0_r23, w ∈ lw_tbl := fun w h => (goodIn_p wsL_law0_r23 [602, 797] (by decide +kernel) (by decide +kernel) w h).1
theorem wsL_in_X20 : ∀ w ∈ wsX20, w ∈ lw_tbl := by decide +kernel
theorem wsL_in_X30 : ∀ w ∈ wsX30, w ∈ lw_tbl := by decide +kernel
theorem wsL_in_X00 : ∀ w ∈ wsX00, w ∈ lw_tbl := by decide +kernel
theorem wsL_in_X10 : ∀ w ∈ wsX10, w ∈ lw_tbl := by decide +kernel
theorem wsL_in_Jx4a65c0 : ∀ w ∈ wsJx4a65c0, w ∈ lw_tbl := by decide +kernel
theorem wsL_law_in0 : ∀ w ∈ wsL_law0, w ∈ lw_tbl := memApp (memApp (memApp (memApp (memApp (memApp (memApp wsL_in_r1 (memApp wsL_in_r2 (memApp wsL_in_r3 (memApp wsL_in_r4 (memApp wsL_in_r5 (memApp wsL_in_r6 (memApp wsL_in_r7 (memApp wsL_in_r8 (memApp wsL_in_r9 (memApp wsL_in_r10 (memApp wsL_in_r11 (memApp wsL_in_r12 (memApp wsL_in_r13 (memApp wsL_in_r14 (memApp wsL_in_r15 (memApp wsL_in_r16 (memApp wsL_in_r17 (memApp wsL_in_r18 (memApp wsL_in_r19 (memApp wsL_in_r20 (memApp wsL_in_r21 (memApp wsL_in_r22 wsL_in_r23)))))))))))))))))))))) wsL_in_X20) wsL_in_X30) wsL_in_X00) wsL_in_X10) wsL_in_Jx4a65c0) (fun _ h => absurd h List.not_mem_nil)
theorem wsL_law_x0 : ∀ w ∈ (vx_atS RX2 37 "java/lang/IllegalArgumentException" ["java/lang/RuntimeException", "java/lang/Exception"]).filter goodWord, w ∈ lw_tbl := by decide +kernel
theorem wsL_law_x1 : ∀ w ∈ (vx_atS RX2 158 "java/lang/IndexOutOfBoundsException" ["java/lang/RuntimeException", "java/lang/Exception"]).filter goodWord, w ∈ lw_tbl := by decide +kernel
theorem wsL_law_x2 : ∀ w ∈ (vx_atS RX2 66 "java/lang/IllegalStateException" ["java/lang/RuntimeException", "java/lang/Exception"]).filter goodWord, w ∈ lw_tbl := by decide +kernel
theorem wsL_law_in : ∀ w ∈ wsL_law, w ∈ lw_tbl := fun w h => (List.mem_append.mp h).elim (fun h => (List.mem_append.mp h).elim (fun h => (List.mem_append.mp h).elim (fun h => wsL_law_in0 w h) (fun h => wsL_law_x0 w h)) (fun h => wsL_law_x1 w h)) (fun h => wsL_law_x2 w h)
theorem inlX0 : ∀ w ∈ wsX00, w ∈ wsL_law := fun _ h => List.mem_append_left _ (List.mem_append_left _ (List.mem_append_left _ (List.mem_append_left _ (List.mem_append_left _ (List.mem_append_left _ (List.mem_append_right _ h))))))
theorem inX0 : ∀ w ∈ wsX00, w ∈ lw_tbl := fun w h => wsL_law_in w (inlX0 w h)
theorem inlX1 : ∀ w ∈ wsX10, w ∈ wsL_law := fun _ h => List.mem_append_left _ (List.mem_append_left _ (List.mem_append_left _ (List.mem_append_left _ (List.mem_append_left _ (List.mem_append_right _ h)))))
theorem inX1 : ∀ w ∈ wsX10, w ∈ lw_tbl := fun w h => wsL_law_in w (inlX1 w h)
theorem inlX2 : ∀ w ∈ wsX20, w ∈ wsL_law := fun _ h => List.mem_append_left _ (List.mem_append_left _ (List.mem_append_left _ (List.mem_append_left _ (List.mem_append_left _ (List.mem_append_left _ (List.mem_append_left _ (List.mem_append_left _ (List.mem_append_right _ h))))))))
theorem inX2 : ∀ w ∈ wsX20, w ∈ lw_tbl := fun w h => wsL_law_in w (inlX2 w h)
theorem inlX3 : ∀ w ∈ wsX30, w ∈ wsL_law := fun _ h => List.mem_append_left _ (List.mem_append_left _ (List.mem_append_left _ (List.mem_append_left _ (List.mem_append_left _ (List.mem_append_left _ (List.mem_append_left _ (List.mem_append_right _ h)))))))
theorem inX3 : ∀ w ∈ wsX30, w ∈ lw_tbl := fun w h => wsL_law_in w (inlX3 w h)
theorem inJx145de : ∀ w ∈ wsJx145de0, w ∈ lw_tbl := by decide +kernel
theorem inJx8e188 : ∀ w ∈ wsJx8e1880, w ∈ lw_tbl := by decide +kernel
theorem inJxab1ab : ∀ w ∈ wsJxab1ab0, w ∈ lw_tbl := by decide +kernel
theorem inJ9 : ∀ w ∈ wsJ90, w ∈ lw_tbl := by decide +kernel
theorem inJ0 : ∀ w ∈ wsJ00, w ∈ lw_tbl := by decide +kernel
theorem inJ10 : ∀ w ∈ wsJ100, w ∈ lw_tbl := by decide +kernel
theorem inJxa1e45 : ∀ w ∈ wsJxa1e450, w ∈ lw_tbl := by decide +kernel
theorem inJxc12de : ∀ w ∈ wsJxc12de0, w ∈ lw_tbl := by decide +kernel
theorem inlJx4a65c : ∀ w ∈ wsJx4a65c0, w ∈ wsL_law := fun _ h => List.mem_append_left _ (List.mem_append_left _ (List.mem_append_left _ (List.mem_append_left _ (List.mem_append_right _ h))))
theorem inJx4a65c : ∀ w ∈ wsJx4a65c0, w ∈ lw_tbl := fun w h => wsL_law_in w (inlJx4a65c w h)
theorem inJ7 : ∀ w ∈ wsJ70, w ∈ lw_tbl := by decide +kernel
theorem inJx5ef63 : ∀ w ∈ wsJx5ef630, w ∈ lw_tbl := by decide +kernel
theorem inJxbd725 : ∀ w ∈ wsJxbd7250, w ∈ lw_tbl := by decide +kernel
theorem inJ15 : ∀ w ∈ wsJ150, w ∈ lw_tbl := by decide +kernel
theorem inJxf0a74 : ∀ w ∈ wsJxf0a740, w ∈ lw_tbl := by decide +kernel
theorem inJxa66e6 : ∀ w ∈ wsJxa66e60, w ∈ lw_tbl := by decide +kernel
theorem inJ8 : ∀ w ∈ wsJ80, w ∈ lw_tbl := by decide +kernel
theorem inJ3 : ∀ w ∈ wsJ30, w ∈ lw_tbl := by decide +kernel
end
section
theorem dX0_init_0 : decode cX0_init 0 = .ok (.aload_n 0, 1) := by decide +kernel
theorem dX0_init_1 : decode cX0_init 1 = .ok (.invokespecial 1, 3) := by decide +kernel
theorem dX0_init_4 : decode cX0_init 4 = .ok (.aload_n 0, 1) := by decide +kernel
theorem dX0_init_5 : decode cX0_init 5 = .ok (.iconst 2, 1) := by decide +kernel
theorem dX0_init_6 : decode cX0_init 6 = .ok (.putfield 7, 3) := by decide +kernel
theorem dX0_init_9 : decode cX0_init 9 = .ok (.aload_n 0, 1) := by decide +kernel
theorem dX0_init_10 : decode cX0_init 10 = .ok (.iconst 5, 1) := by decide +kernel
theorem dX0_init_11 : decode cX0_init 11 = .ok (.putfield 13, 3) := by decide +kernel
theorem dX0_init_14 : decode cX0_init 14 = .ok (.aload_n 0, 1) := by decide +kernel
theorem dX0_init_15 : decode cX0_init 15 = .ok (.iconst 1, 1) := by decide +kernel
theorem dX0_init_16 : decode cX0_init 16 = .ok (.putfield 16, 3) := by decide +kernel
theorem dX0_init_19 : decode cX0_init 19 = .ok (.aload_n 0, 1) := by decide +kernel
theorem dX0_init_20 : decode cX0_init 20 = .ok (.bipush 10, 2) := by decide +kernel
theorem dX0_init_22 : decode cX0_init 22 = .ok (.putfield 20, 3) := by decide +kernel
theorem dX0_init_25 : decode cX0_init 25 = .ok (.aload_n 0, 1) := by decide +kernel
theorem dX0_init_26 : decode cX0_init 26 = .ok (.iconst 0, 1) := by decide +kernel
theorem dX0_init_27 : decode cX0_init 27 = .ok (.putfield 23, 3) := by decide +kernel
theorem dX0_init_30 : decode cX0_init 30 = .ok (.aload_n 0, 1) := by decide +kernel
theorem dX0_init_31 : decode cX0_init 31 = .ok (.iload_n 1, 1) := by decide +kernel
theorem dX0_init_32 : decode cX0_init 32 = .ok (.putfield 26, 3) := by decide +kernel
theorem dX0_init_35 : decode cX0_init 35 = .ok (.return_, 1) := by decide +kernel
set_option maxRecDepth 20000 in
theorem ggX1_init_Jx4a65c_init_da8c8 : GoodIn wsX1_init wsJx4a65c_init_da8c8 := goodIn_r _ [20, 21, 22, 23, 24, 25, 26, 27, 28, 29, 30, 31, 32, 2, 3, 33, 34, 35] (by decide +kernel) (by decide +kernel)
set_option maxRecDepth 20000 in
theorem gX1_init_Jx4a65c_init_da8c8 : GoodIn wsX1_init (wsJx4a65c_init_da8c8) := ggX1_init_Jx4a65c_init_da8c8
theorem dX1_init_0 : decode cX1_init 0 = .ok (.aload_n 0, 1) := by decide +kernel
theorem dX1_init_1 : decode cX1_init 1 = .ok (.invokespecial 3, 3) := by decide +kernel
theorem dX1_init_4 : decode cX1_init 4 = .ok (.aload_n 0, 1) := by decide +kernel
theorem dX1_init_5 : decode cX1_init 5 = .ok (.new 9, 3) := by decide +kernel
theorem dX1_init_8 : decode cX1_init 8 = .ok (.dup, 1) := by decide +kernel
theorem dX1_init_9 : decode cX1_init 9 = .ok (.invokespecial 11, 3) := by decide +kernel
theorem dX1_init_12 : decode cX1_init 12 = .ok (.putfield 12, 3) := by decide +kernel
theorem dX1_init_15 : decode cX1_init 15 = .ok (.aload_n 0, 1) := by decide +kernel
theorem dX1_init_16 : decode cX1_init 16 = .ok (.bipush 6, 2) := by decide +kernel
theorem dX1_init_18 : decode cX1_init 18 = .ok (.newarray .int, 2) := by decide +kernel
theorem dX1_init_20 : decode cX1_init 20 = .ok (.putfield 18, 3) := by decide +kernel
theorem dX1_init_23 : decode cX1_init 23 = .ok (.aload_n 0, 1) := by decide +kernel
theorem dX1_init_24 : decode cX1_init 24 = .ok (.iconst 0, 1) := by decide +kernel
theorem dX1_init_25 : decode cX1_init 25 = .ok (.putfield 22, 3) := by decide +kernel
theorem dX1_init_28 : decode cX1_init 28 = .ok (.aload_n 0, 1) := by decide +kernel
theorem dX1_init_29 : decode cX1_init 29 = .ok (.iconst (-1), 1) := by decide +kernel
theorem dX1_init_30 : decode cX1_init 30 = .ok (.putfield 26, 3) := by decide +kernel
theorem dX1_init_33 : decode cX1_init 33 = .ok (.aload_n 0, 1) := by decide +kernel
theorem dX1_init_34 : decode cX1_init 34 = .ok (.iconst (-1), 1) := by decide +kernel
theorem dX1_init_35 : decode cX1_init 35 = .ok (.putfield 29, 3) := by decide +kernel
theorem dX1_init_38 : decode cX1_init 38 = .ok (.aload_n 0, 1) := by decide +kernel
theorem dX1_init_39 : decode cX1_init 39 = .ok (.iconst (-1), 1) := by decide +kernel
theorem dX1_init_40 : decode cX1_init 40 = .ok (.putfield 32, 3) := by decide +kernel
theorem dX1_init_43 : decode cX1_init 43 = .ok (.aload_n 0, 1) := by decide +kernel
theorem dX1_init_44 : decode cX1_init 44 = .ok (.iconst 0, 1) := by decide +kernel
theorem dX1_init_45 : decode cX1_init 45 = .ok (.putfield 35, 3) := by decide +kernel
theorem dX1_init_48 : decode cX1_init 48 = .ok (.aload_n 0, 1) := by decide +kernel
theorem dX1_init_49 : decode cX1_init 49 = .ok (.iconst (-1), 1) := by decide +kernel
theorem dX1_init_50 : decode cX1_init 50 = .ok (.putfield 38, 3) := by decide +kernel
theorem dX1_init_53 : decode cX1_init 53 = .ok (.aload_n 0, 1) := by decide +kernel
theorem dX1_init_54 : decode cX1_init 54 = .ok (.aconst_null, 1) := by decide +kernel
theorem dX1_init_55 : decode cX1_init 55 = .ok (.putfield 41, 3) := by decide +kernel
theorem dX1_init_58 : decode cX1_init 58 = .ok (.aload_n 0, 1) := by decide +kernel
theorem dX1_init_59 : decode cX1_init 59 = .ok (.iconst 0, 1) := by decide +kernel
theorem dX1_init_60 : decode cX1_init 60 = .ok (.putfield 45, 3) := by decide +kernel
theorem dX1_init_63 : decode cX1_init 63 = .ok (.return_, 1) := by decide +kernel
set_option maxRecDepth 20000 in
theorem ggX2_init_X0_init : GoodIn wsX2_init wsX0_init := goodIn_r _ [14, 15, 2, 3, 16, 17, 18, 19, 20, 21, 57, 58, 59, 60, 61, 62] (by decide +kernel) (by decide +kernel)
set_option maxRecDepth 20000 in
theorem gX2_init_X0_init_n25 : GoodIn wsX2_init (wsX0_init) := ggX2_init_X0_init
set_option maxRecDepth 20000 in
theorem ggX2_init_X1_init : GoodIn wsX2_init wsX1_init := goodIn_r _ [23, 24, 2, 3, 25, 26, 27, 28, 29, 30, 31, 32, 33, 34, 35, 36, 37, 38, 39, 40, 41, 42, 43, 44, 45, 46, 47, 48, 49, 50, 51, 52, 53, 73, 74, 75, 63, 64, 65, 66, 67, 68, 69, 70, 71, 72] (by decide +kernel) (by decide +kernel)
set_option maxRecDepth 20000 in
theorem gX2_init_X1_init_n28 : GoodIn wsX2_init (wsX1_init) := ggX2_init_X1_init
theorem dX2_init_0 : decode cX2_init 0 = .ok (.aload_n 0, 1) := by decide +kernel
theorem dX2_init_1 : decode cX2_init 1 = .ok (.invokespecial 1, 3) := by decide +kernel
theorem dX2_init_4 : decode cX2_init 4 = .ok (.aload_n 0, 1) := by decide +kernel
theorem dX2_init_5 : decode cX2_init 5 = .ok (.bipush 6, 2) := by decide +kernel
theorem dX2_init_7 : decode cX2_init 7 = .ok (.anewarray 9, 3) := by decide +kernel
theorem dX2_init_10 : decode cX2_init 10 = .ok (.putfield 11, 3) := by decide +kernel
theorem dX2_init_13 : decode cX2_init 13 = .ok (.aload_n 0, 1) := by decide +kernel
theorem dX2_init_14 : decode cX2_init 14 = .ok (.bipush 8, 2) := by decide +kernel
theorem dX2_init_16 : decode cX2_init 16 = .ok (.anewarray 15, 3) := by decide +kernel
theorem dX2_init_19 : decode cX2_init 19 = .ok (.putfield 17, 3) := by decide +kernel
theorem dX2_init_22 : decode cX2_init 22 = .ok (.aload_n 0, 1) := by decide +kernel
theorem dX2_init_23 : decode cX2_init 23 = .ok (.iconst 0, 1) := by decide +kernel
theorem dX2_init_24 : decode cX2_init 24 = .ok (.putfield 21, 3) := by decide +kernel
theorem dX2_init_27 : decode cX2_init 27 = .ok (.iconst 0, 1) := by decide +kernel
theorem dX2_init_28 : decode cX2_init 28 = .ok (.istore_n 1, 1) := by decide +kernel
theorem dX2_init_29 : decode cX2_init 29 = .ok (.iload_n 1, 1) := by decide +kernel
theorem dX2_init_30 : decode cX2_init 30 = .ok (.bipush 6, 2) := by decide +kernel
theorem dX2_init_32 : decode cX2_init 32 = .ok (.if_icmp .ge 23, 3) := by decide +kernel
theorem dX2_init_35 : decode cX2_init 35 = .ok (.aload_n 0, 1) := by decide +kernel
theorem dX2_init_36 : decode cX2_init 36 = .ok (.getfield 11, 3) := by decide +kernel
theorem dX2_init_39 : decode cX2_init 39 = .ok (.iload_n 1, 1) := by decide +kernel
theorem dX2_init_40 : decode cX2_init 40 = .ok (.new 9, 3) := by decide +kernel
theorem dX2_init_43 : decode cX2_init 43 = .ok (.dup, 1) := by decide +kernel
theorem dX2_init_44 : decode cX2_init 44 = .ok (.iload_n 1, 1) := by decide +kernel
theorem dX2_init_45 : decode cX2_init 45 = .ok (.invokespecial 25, 3) := by decide +kernel
theorem dX2_init_48 : decode cX2_init 48 = .ok (.aastore, 1) := by decide +kernel
theorem dX2_init_49 : decode cX2_init 49 = .ok (.iinc 1 1, 3) := by decide +kernel
theorem dX2_init_52 : decode cX2_init 52 = .ok (.goto (-23), 3) := by decide +kernel
theorem dX2_init_55 : decode cX2_init 55 = .ok (.iconst 0, 1) := by decide +kernel
theorem dX2_init_56 : decode cX2_init 56 = .ok (.istore_n 1, 1) := by decide +kernel
theorem dX2_init_57 : decode cX2_init 57 = .ok (.iload_n 1, 1) := by decide +kernel
theorem dX2_init_58 : decode cX2_init 58 = .ok (.bipush 8, 2) := by decide +kernel
theorem dX2_init_60 : decode cX2_init 60 = .ok (.if_icmp .ge 22, 3) := by decide +kernel
theorem dX2_init_63 : decode cX2_init 63 = .ok (.aload_n 0, 1) := by decide +kernel
theorem dX2_init_64 : decode cX2_init 64 = .ok (.getfield 17, 3) := by decide +kernel
theorem dX2_init_67 : decode cX2_init 67 = .ok (.iload_n 1, 1) := by decide +kernel
theorem dX2_init_68 : decode cX2_init 68 = .ok (.new 15, 3) := by decide +kernel
theorem dX2_init_71 : decode cX2_init 71 = .ok (.dup, 1) := by decide +kernel
theorem dX2_init_72 : decode cX2_init 72 = .ok (.invokespecial 28, 3) := by decide +kernel
theorem dX2_init_75 : decode cX2_init 75 = .ok (.aastore, 1) := by decide +kernel
theorem dX2_init_76 : decode cX2_init 76 = .ok (.iinc 1 1, 3) := by decide +kernel
theorem dX2_init_79 : decode cX2_init 79 = .ok (.goto (-22), 3) := by decide +kernel
theorem dX2_init_82 : decode cX2_init 82 = .ok (.return_, 1) := by decide +kernel
set_option maxRecDepth 20000 in
theorem ggX2_setPavilion_X2_pavilionAt : GoodIn wsX2_setPavilion wsX2_pavilionAt := goodIn_ca (goodIn_r _ [7, 8, 9, 10, 17, 18, 19] (by decide +kernel) (by decide +kernel)) (goodIn_sub (fun _ h => List.mem_cons_of_mem _ (List.mem_append_right _ h)) (by decide +kernel))
set_option maxRecDepth 20000 in
theorem gX2_setPavilion_X2_pavilionAt : GoodIn wsX2_setPavilion (wsV RX2 29 RX2 yX2_pavilionAt wsX2_pavilionAt) := goodIn_app (goodIn_of _ (by decide +kernel)) ggX2_setPavilion_X2_pavilionAt
theorem dX2_setPavilion_0 : decode cX2_setPavilion 0 = .ok (.aload_n 0, 1) := by decide +kernel
theorem dX2_setPavilion_1 : decode cX2_setPavilion 1 = .ok (.iload_n 1, 1) := by decide +kernel
theorem dX2_setPavilion_2 : decode cX2_setPavilion 2 = .ok (.invokevirtual 29, 3) := by decide +kernel
theorem dX2_setPavilion_5 : decode cX2_setPavilion 5 = .ok (.astore 4, 2) := by decide +kernel
theorem dX2_setPavilion_7 : decode cX2_setPavilion 7 = .ok (.iload_n 2, 1) := by decide +kernel
theorem dX2_setPavilion_8 : decode cX2_setPavilion 8 = .ok (.iconst 1, 1) := by decide +kernel
theorem dX2_setPavilion_9 : decode cX2_setPavilion 9 = .ok (.if_icmp .lt 20, 3) := by decide +kernel
theorem dX2_setPavilion_12 : decode cX2_setPavilion 12 = .ok (.iload_n 2, 1) := by decide +kernel
theorem dX2_setPavilion_13 : decode cX2_setPavilion 13 = .ok (.bipush 8, 2) := by decide +kernel
theorem dX2_setPavilion_15 : decode cX2_setPavilion 15 = .ok (.if_icmp .gt 14, 3) := by decide +kernel
theorem dX2_setPavilion_18 : decode cX2_setPavilion 18 = .ok (.iload_n 3, 1) := by decide +kernel
theorem dX2_setPavilion_19 : decode cX2_setPavilion 19 = .ok (.iconst 1, 1) := by decide +kernel
theorem dX2_setPavilion_20 : decode cX2_setPavilion 20 = .ok (.if_icmp .lt 9, 3) := by decide +kernel
theorem dX2_setPavilion_23 : decode cX2_setPavilion 23 = .ok (.iload_n 3, 1) := by decide +kernel
theorem dX2_setPavilion_24 : decode cX2_setPavilion 24 = .ok (.bipush 60, 2) := by decide +kernel
theorem dX2_setPavilion_26 : decode cX2_setPavilion 26 = .ok (.if_icmp .le 13, 3) := by decide +kernel
theorem dX2_setPavilion_29 : decode cX2_setPavilion 29 = .ok (.new 33, 3) := by decide +kernel
theorem dX2_setPavilion_32 : decode cX2_setPavilion 32 = .ok (.dup, 1) := by decide +kernel
theorem dX2_setPavilion_33 : decode cX2_setPavilion 33 = .ok (.ldc 35, 2) := by decide +kernel
theorem dX2_setPavilion_35 : decode cX2_setPavilion 35 = .ok (.invokespecial 37, 3) := by decide +kernel
theorem dX2_setPavilion_38 : decode cX2_setPavilion 38 = .ok (.athrow, 1) := by decide +kernel
theorem dX2_setPavilion_39 : decode cX2_setPavilion 39 = .ok (.aload 4, 2) := by decide +kernel
theorem dX2_setPavilion_41 : decode cX2_setPavilion 41 = .ok (.iload_n 2, 1) := by decide +kernel
theorem dX2_setPavilion_42 : decode cX2_setPavilion 42 = .ok (.putfield 40, 3) := by decide +kernel
theorem dX2_setPavilion_45 : decode cX2_setPavilion 45 = .ok (.aload 4, 2) := by decide +kernel
theorem dX2_setPavilion_47 : decode cX2_setPavilion 47 = .ok (.iload_n 3, 1) := by decide +kernel
theorem dX2_setPavilion_48 : decode cX2_setPavilion 48 = .ok (.putfield 43, 3) := by decide +kernel
theorem dX2_setPavilion_51 : decode cX2_setPavilion 51 = .ok (.return_, 1) := by decide +kernel
set_option maxRecDepth 20000 in
theorem ggX2_open_X2_pavilionAt : GoodIn wsX2_open wsX2_pavilionAt := goodIn_ca (goodIn_r _ [5, 6, 7, 8, 36, 37, 38] (by decide +kernel) (by decide +kernel)) (goodIn_sub (fun _ h => List.mem_cons_of_mem _ (List.mem_append_right _ h)) (by decide +kernel))
set_option maxRecDepth 20000 in
theorem gX2_open_X2_pavilionAt : GoodIn wsX2_open (wsV RX2 29 RX2 yX2_pavilionAt wsX2_pavilionAt) := goodIn_app (goodIn_of _ (by decide +kernel)) ggX2_open_X2_pavilionAt
set_option maxRecDepth 20000 in
theorem ggX2_open_X2_emptyQueue : GoodIn wsX2_open wsX2_emptyQueue := goodIn_r _ [12, 13, 14, 15, 16, 4, 17, 18, 19, 20, 21, 22, 23, 24, 25, 26, 27, 28, 29, 36, 37, 38, 39, 40, 41, 42, 43, 44, 45, 46, 47, 48, 30, 31, 32, 33, 34, 35] (by decide +kernel) (by decide +kernel)
set_option maxRecDepth 20000 in
theorem gX2_open_X2_emptyQueue : GoodIn wsX2_open (wsV RX2 50 RX2 yX2_emptyQueue wsX2_emptyQueue) := goodIn_app (goodIn_of _ (by decide +kernel)) ggX2_open_X2_emptyQueue
theorem dX2_open_0 : decode cX2_open 0 = .ok (.aload_n 0, 1) := by decide +kernel
theorem dX2_open_1 : decode cX2_open 1 = .ok (.iload_n 1, 1) := by decide +kernel
theorem dX2_open_2 : decode cX2_open 2 = .ok (.invokevirtual 29, 3) := by decide +kernel
theorem dX2_open_5 : decode cX2_open 5 = .ok (.astore_n 3, 1) := by decide +kernel
theorem dX2_open_6 : decode cX2_open 6 = .ok (.aload_n 3, 1) := by decide +kernel
theorem dX2_open_7 : decode cX2_open 7 = .ok (.iload_n 2, 1) := by decide +kernel
theorem dX2_open_8 : decode cX2_open 8 = .ok (.putfield 46, 3) := by decide +kernel
theorem dX2_open_11 : decode cX2_open 11 = .ok (.iload_n 2, 1) := by decide +kernel
theorem dX2_open_12 : decode cX2_open 12 = .ok (.ifCond .eq 7, 3) := by decide +kernel
theorem dX2_open_15 : decode cX2_open 15 = .ok (.iconst 0, 1) := by decide +kernel
theorem dX2_open_16 : decode cX2_open 16 = .ok (.goto 8, 3) := by decide +kernel
theorem dX2_open_19 : decode cX2_open 19 = .ok (.aload_n 0, 1) := by decide +kernel
theorem dX2_open_20 : decode cX2_open 20 = .ok (.aload_n 3, 1) := by decide +kernel
theorem dX2_open_21 : decode cX2_open 21 = .ok (.invokevirtual 50, 3) := by decide +kernel
theorem dX2_open_24 : decode cX2_open 24 = .ok (.ireturn, 1) := by decide +kernel
set_option maxRecDepth 20000 in
theorem ggX2_plan_X2_visitorAt : GoodIn wsX2_plan wsX2_visitorAt := goodIn_ca (goodIn_r _ [7, 8, 9, 10, 106, 107, 108] (by decide +kernel) (by decide +kernel)) (goodIn_sub (fun _ h => List.mem_cons_of_mem _ (List.mem_append_right _ h)) (by decide +kernel))
set_option maxRecDepth 20000 in
theorem gX2_plan_X2_visitorAt : GoodIn wsX2_plan (wsV RX2 54 RX2 yX2_visitorAt wsX2_visitorAt) := goodIn_app (goodIn_of _ (by decide +kernel)) ggX2_plan_X2_visitorAt
set_option maxRecDepth 20000 in
theorem ggX2_plan_X2_pavilionAt : GoodIn wsX2_plan wsX2_pavilionAt := goodIn_ca (goodIn_r _ [14, 8, 9, 15, 106, 107, 108] (by decide +kernel) (by decide +kernel)) (goodIn_sub (fun _ h => List.mem_cons_of_mem _ (List.mem_append_right _ h)) (by decide +kernel))
set_option maxRecDepth 20000 in
theorem gX2_plan_X2_pavilionAt : GoodIn wsX2_plan (wsV RX2 29 RX2 yX2_pavilionAt wsX2_pavilionAt) := goodIn_app (goodIn_of _ (by decide +kernel)) ggX2_plan_X2_pavilionAt
set_option maxRecDepth 20000 in
theorem ggX2_plan_X2_indexInPlan : GoodIn wsX2_plan wsX2_indexInPlan := goodIn_r _ [19, 20, 21, 22, 23, 24, 25, 26, 27, 28, 29, 30, 31, 32, 33, 34, 35, 36, 37, 38, 39, 40, 41, 42, 96, 97, 98, 99, 100, 101, 102, 103, 104, 105, 109, 110, 111] (by decide +kernel) (by decide +kernel)
set_option maxRecDepth 20000 in
theorem gX2_plan_X2_indexInPlan : GoodIn wsX2_plan (wsV RX2 58 RX2 yX2_indexInPlan wsX2_indexInPlan) := goodIn_app (goodIn_of _ (by decide +kernel)) ggX2_plan_X2_indexInPlan
set_option maxRecDepth 20000 in
theorem ggX2_plan_Jx4a65c_add_9ea2d : GoodIn wsX2_plan wsJx4a65c_add_9ea2d := goodIn_r _ [46, 47, 48, 42, 25, 49, 50, 51, 23, 52, 53, 54, 55, 56, 57, 58, 59, 60, 61, 62, 63, 64, 65, 66, 67, 68, 69, 70, 71, 72, 73, 74, 75, 76, 77, 78, 79, 80, 81, 82, 83, 84, 85, 86, 87, 88, 89, 90, 91, 92, 93, 94, 95, 109, 110, 111] (by decide +kernel) (by decide +kernel)
set_option maxRecDepth 20000 in
theorem gX2_plan_Jx4a65c_add_9ea2d : GoodIn wsX2_plan (wsV RX2 71 RJx4a65c yJx4a65c_add_9ea2d wsJx4a65c_add_9ea2d) := goodIn_app (goodIn_of _ (by decide +kernel)) ggX2_plan_Jx4a65c_add_9ea2d
set_option maxRecDepth 20000 in
theorem ggX2_plan_Jx4a65c_size_8abf5 : GoodIn wsX2_plan wsJx4a65c_size_8abf5 := goodIn_r _ [24, 25, 109, 110, 111] (by decide +kernel) (by decide +kernel)
set_option maxRecDepth 20000 in
theorem gX2_plan_Jx4a65c_size_8abf5 : GoodIn wsX2_plan (wsV RX2 77 RJx4a65c yJx4a65c_size_8abf5 wsJx4a65c_size_8abf5) := goodIn_app (goodIn_of _ (by decide +kernel)) ggX2_plan_Jx4a65c_size_8abf5
theorem dX2_plan_0 : decode cX2_plan 0 = .ok (.aload_n 0, 1) := by decide +kernel
theorem dX2_plan_1 : decode cX2_plan 1 = .ok (.iload_n 1, 1) := by decide +kernel
theorem dX2_plan_2 : decode cX2_plan 2 = .ok (.invokevirtual 54, 3) := by decide +kernel
theorem dX2_plan_5 : decode cX2_plan 5 = .ok (.astore_n 3, 1) := by decide +kernel
theorem dX2_plan_6 : decode cX2_plan 6 = .ok (.aload_n 0, 1) := by decide +kernel
theorem dX2_plan_7 : decode cX2_plan 7 = .ok (.iload_n 2, 1) := by decide +kernel
theorem dX2_plan_8 : decode cX2_plan 8 = .ok (.invokevirtual 29, 3) := by decide +kernel
theorem dX2_plan_11 : decode cX2_plan 11 = .ok (.astore 4, 2) := by decide +kernel
theorem dX2_plan_13 : decode cX2_plan 13 = .ok (.aload_n 0, 1) := by decide +kernel
theorem dX2_plan_14 : decode cX2_plan 14 = .ok (.aload_n 3, 1) := by decide +kernel
theorem dX2_plan_15 : decode cX2_plan 15 = .ok (.aload 4, 2) := by decide +kernel
theorem dX2_plan_17 : decode cX2_plan 17 = .ok (.invokevirtual 58, 3) := by decide +kernel
theorem dX2_plan_20 : decode cX2_plan 20 = .ok (.iconst (-1), 1) := by decide +kernel
theorem dX2_plan_21 : decode cX2_plan 21 = .ok (.if_icmp .eq 13, 3) := by decide +kernel
theorem dX2_plan_24 : decode cX2_plan 24 = .ok (.new 62, 3) := by decide +kernel
theorem dX2_plan_27 : decode cX2_plan 27 = .ok (.dup, 1) := by decide +kernel
theorem dX2_plan_28 : decode cX2_plan 28 = .ok (.ldc 64, 2) := by decide +kernel
theorem dX2_plan_30 : decode cX2_plan 30 = .ok (.invokespecial 66, 3) := by decide +kernel
theorem dX2_plan_33 : decode cX2_plan 33 = .ok (.athrow, 1) := by decide +kernel
theorem dX2_plan_34 : decode cX2_plan 34 = .ok (.aload_n 3, 1) := by decide +kernel
theorem dX2_plan_35 : decode cX2_plan 35 = .ok (.getfield 67, 3) := by decide +kernel
theorem dX2_plan_38 : decode cX2_plan 38 = .ok (.aload 4, 2) := by decide +kernel
theorem dX2_plan_40 : decode cX2_plan 40 = .ok (.invokevirtual 71, 3) := by decide +kernel
theorem dX2_plan_43 : decode cX2_plan 43 = .ok (.pop, 1) := by decide +kernel
theorem dX2_plan_44 : decode cX2_plan 44 = .ok (.aload_n 3, 1) := by decide +kernel
theorem dX2_plan_45 : decode cX2_plan 45 = .ok (.getfield 67, 3) := by decide +kernel
theorem dX2_plan_48 : decode cX2_plan 48 = .ok (.invokevirtual 77, 3) := by decide +kernel
theorem dX2_plan_51 : decode cX2_plan 51 = .ok (.ireturn, 1) := by decide +kernel
set_option maxRecDepth 20000 in
theorem ggX2_drop_X2_visitorAt : GoodIn wsX2_drop wsX2_visitorAt := goodIn_ca (goodIn_r _ [7, 8, 9, 10, 83, 84, 85] (by decide +kernel) (by decide +kernel)) (goodIn_sub (fun _ h => List.mem_cons_of_mem _ (List.mem_append_right _ h)) (by decide +kernel))
set_option maxRecDepth 20000 in
theorem gX2_drop_X2_visitorAt : GoodIn wsX2_drop (wsV RX2 54 RX2 yX2_visitorAt wsX2_visitorAt) := goodIn_app (goodIn_of _ (by decide +kernel)) ggX2_drop_X2_visitorAt
set_option maxRecDepth 20000 in
theorem ggX2_drop_X2_pavilionAt : GoodIn wsX2_drop wsX2_pavilionAt := goodIn_ca (goodIn_r _ [14, 8, 9, 15, 83, 84, 85] (by decide +kernel) (by decide +kernel)) (goodIn_sub (fun _ h => List.mem_cons_of_mem _ (List.mem_append_right _ h)) (by decide +kernel))
set_option maxRecDepth 20000 in
theorem gX2_drop_X2_pavilionAt : GoodIn wsX2_drop (wsV RX2 29 RX2 yX2_pavilionAt wsX2_pavilionAt) := goodIn_app (goodIn_of _ (by decide +kernel)) ggX2_drop_X2_pavilionAt
set_option maxRecDepth 20000 in
theorem ggX2_drop_X2_indexInPlan : GoodIn wsX2_drop wsX2_indexInPlan := goodIn_r _ [19, 20, 21, 22, 23, 24, 25, 26, 27, 28, 29, 30, 31, 32, 33, 34, 35, 36, 37, 38, 39, 40, 41, 42, 73, 74, 75, 76, 77, 78, 79, 80, 81, 82, 86, 87, 88] (by decide +kernel) (by decide +kernel)
set_option maxRecDepth 20000 in
theorem gX2_drop_X2_indexInPlan : GoodIn wsX2_drop (wsV RX2 58 RX2 yX2_indexInPlan wsX2_indexInPlan) := goodIn_app (goodIn_of _ (by decide +kernel)) ggX2_drop_X2_indexInPlan
set_option maxRecDepth 20000 in
theorem ggX2_drop_Jx4a65c_remove_915e3 : GoodIn wsX2_drop wsJx4a65c_remove_915e3 := goodIn_r _ [46, 25, 42, 30, 31, 32, 33, 34, 35, 36, 37, 47, 48, 49, 23, 50, 51, 52, 53, 54, 55, 56, 86, 87, 88] (by decide +kernel) (by decide +kernel)
set_option maxRecDepth 20000 in
theorem gX2_drop_Jx4a65c_remove_915e3 : GoodIn wsX2_drop (wsV RX2 83 RJx4a65c yJx4a65c_remove_915e3 wsJx4a65c_remove_915e3) := goodIn_app (goodIn_of _ (by decide +kernel)) ggX2_drop_Jx4a65c_remove_915e3
set_option maxRecDepth 20000 in
theorem ggX2_drop_X2_isAt : GoodIn wsX2_drop wsX2_isAt := goodIn_r _ [60, 73, 74, 75, 76, 77, 78, 79, 80, 81, 82, 89, 90, 91, 92, 93, 94] (by decide +kernel) (by decide +kernel)
set_option maxRecDepth 20000 in
theorem gX2_drop_X2_isAt : GoodIn wsX2_drop (wsV RX2 87 RX2 yX2_isAt wsX2_isAt) := goodIn_app (goodIn_of _ (by decide +kernel)) ggX2_drop_X2_isAt
set_option maxRecDepth 20000 in
theorem ggX2_drop_X2_leaveQueue : GoodIn wsX2_drop wsX2_leaveQueue := goodIn_r _ [64, 10, 65, 66, 67, 6, 68, 69, 70, 71, 72, 83, 84, 85, 73, 74, 75, 76, 77, 78, 79, 80, 81, 82] (by decide +kernel) (by decide +kernel)
set_option maxRecDepth 20000 in
theorem gX2_drop_X2_leaveQueue : GoodIn wsX2_drop (wsV RX2 94 RX2 yX2_leaveQueue wsX2_leaveQueue) := goodIn_app (goodIn_of _ (by decide +kernel)) ggX2_drop_X2_leaveQueue
set_option maxRecDepth 20000 in
theorem ggX2_drop_Jx4a65c_size_8abf5 : GoodIn wsX2_drop wsJx4a65c_size_8abf5 := goodIn_r _ [24, 25, 86, 87, 88] (by decide +kernel) (by decide +kernel)
set_option maxRecDepth 20000 in
theorem gX2_drop_Jx4a65c_size_8abf5 : GoodIn wsX2_drop (wsV RX2 77 RJx4a65c yJx4a65c_size_8abf5 wsJx4a65c_size_8abf5) := goodIn_app (goodIn_of _ (by decide +kernel)) ggX2_drop_Jx4a65c_size_8abf5
theorem dX2_drop_0 : decode cX2_drop 0 = .ok (.aload_n 0, 1) := by decide +kernel
theorem dX2_drop_1 : decode cX2_drop 1 = .ok (.iload_n 1, 1) := by decide +kernel
theorem dX2_drop_2 : decode cX2_drop 2 = .ok (.invokevirtual 54, 3) := by decide +kernel
theorem dX2_drop_5 : decode cX2_drop 5 = .ok (.astore_n 3, 1) := by decide +kernel
theorem dX2_drop_6 : decode cX2_drop 6 = .ok (.aload_n 0, 1) := by decide +kernel
theorem dX2_drop_7 : decode cX2_drop 7 = .ok (.iload_n 2, 1) := by decide +kernel
theorem dX2_drop_8 : decode cX2_drop 8 = .ok (.invokevirtual 29, 3) := by decide +kernel
theorem dX2_drop_11 : decode cX2_drop 11 = .ok (.astore 4, 2) := by decide +kernel
theorem dX2_drop_13 : decode cX2_drop 13 = .ok (.aload_n 0, 1) := by decide +kernel
theorem dX2_drop_14 : decode cX2_drop 14 = .ok (.aload_n 3, 1) := by decide +kernel
theorem dX2_drop_15 : decode cX2_drop 15 = .ok (.aload 4, 2) := by decide +kernel
theorem dX2_drop_17 : decode cX2_drop 17 = .ok (.invokevirtual 58, 3) := by decide +kernel
theorem dX2_drop_20 : decode cX2_drop 20 = .ok (.istore 5, 2) := by decide +kernel
theorem dX2_drop_22 : decode cX2_drop 22 = .ok (.iload 5, 2) := by decide +kernel
theorem dX2_drop_24 : decode cX2_drop 24 = .ok (.iconst (-1), 1) := by decide +kernel
theorem dX2_drop_25 : decode cX2_drop 25 = .ok (.if_icmp .ne 13, 3) := by decide +kernel
theorem dX2_drop_28 : decode cX2_drop 28 = .ok (.new 62, 3) := by decide +kernel
theorem dX2_drop_31 : decode cX2_drop 31 = .ok (.dup, 1) := by decide +kernel
theorem dX2_drop_32 : decode cX2_drop 32 = .ok (.ldc 81, 2) := by decide +kernel
theorem dX2_drop_34 : decode cX2_drop 34 = .ok (.invokespecial 66, 3) := by decide +kernel
theorem dX2_drop_37 : decode cX2_drop 37 = .ok (.athrow, 1) := by decide +kernel
theorem dX2_drop_38 : decode cX2_drop 38 = .ok (.aload_n 3, 1) := by decide +kernel
theorem dX2_drop_39 : decode cX2_drop 39 = .ok (.getfield 67, 3) := by decide +kernel
theorem dX2_drop_42 : decode cX2_drop 42 = .ok (.iload 5, 2) := by decide +kernel
theorem dX2_drop_44 : decode cX2_drop 44 = .ok (.invokevirtual 83, 3) := by decide +kernel
theorem dX2_drop_47 : decode cX2_drop 47 = .ok (.pop, 1) := by decide +kernel
theorem dX2_drop_48 : decode cX2_drop 48 = .ok (.aload_n 0, 1) := by decide +kernel
theorem dX2_drop_49 : decode cX2_drop 49 = .ok (.aload_n 3, 1) := by decide +kernel
theorem dX2_drop_50 : decode cX2_drop 50 = .ok (.iconst 1, 1) := by decide +kernel
theorem dX2_drop_51 : decode cX2_drop 51 = .ok (.aload 4, 2) := by decide +kernel
theorem dX2_drop_53 : decode cX2_drop 53 = .ok (.invokevirtual 87, 3) := by decide +kernel
theorem dX2_drop_56 : decode cX2_drop 56 = .ok (.ifCond .eq 15, 3) := by decide +kernel
theorem dX2_drop_59 : decode cX2_drop 59 = .ok (.aload_n 3, 1) := by decide +kernel
theorem dX2_drop_60 : decode cX2_drop 60 = .ok (.getfield 91, 3) := by decide +kernel
theorem dX2_drop_63 : decode cX2_drop 63 = .ok (.ifCond .ne 8, 3) := by decide +kernel
theorem dX2_drop_66 : decode cX2_drop 66 = .ok (.aload_n 0, 1) := by decide +kernel
theorem dX2_drop_67 : decode cX2_drop 67 = .ok (.aload_n 3, 1) := by decide +kernel
theorem dX2_drop_68 : decode cX2_drop 68 = .ok (.invokevirtual 94, 3) := by decide +kernel
theorem dX2_drop_71 : decode cX2_drop 71 = .ok (.aload_n 3, 1) := by decide +kernel
theorem dX2_drop_72 : decode cX2_drop 72 = .ok (.getfield 67, 3) := by decide +kernel
theorem dX2_drop_75 : decode cX2_drop 75 = .ok (.invokevirtual 77, 3) := by decide +kernel
theorem dX2_drop_78 : decode cX2_drop 78 = .ok (.ireturn, 1) := by decide +kernel
set_option maxRecDepth 20000 in
theorem ggX2_ask_X2_visitorAt : GoodIn wsX2_ask wsX2_visitorAt := goodIn_ca (goodIn_r _ [7, 8, 9, 10, 41, 42, 43] (by decide +kernel) (by decide +kernel)) (goodIn_sub (fun _ h => List.mem_cons_of_mem _ (List.mem_append_right _ h)) (by decide +kernel))
set_option maxRecDepth 20000 in
theorem gX2_ask_X2_visitorAt : GoodIn wsX2_ask (wsV RX2 54 RX2 yX2_visitorAt wsX2_visitorAt) := goodIn_app (goodIn_of _ (by decide +kernel)) ggX2_ask_X2_visitorAt
set_option maxRecDepth 20000 in
theorem ggX2_ask_X2_pavilionAt : GoodIn wsX2_ask wsX2_pavilionAt := goodIn_ca (goodIn_r _ [14, 8, 9, 15, 41, 42, 43] (by decide +kernel) (by decide +kernel)) (goodIn_sub (fun _ h => List.mem_cons_of_mem _ (List.mem_append_right _ h)) (by decide +kernel))
set_option maxRecDepth 20000 in
theorem gX2_ask_X2_pavilionAt : GoodIn wsX2_ask (wsV RX2 29 RX2 yX2_pavilionAt wsX2_pavilionAt) := goodIn_app (goodIn_of _ (by decide +kernel)) ggX2_ask_X2_pavilionAt
set_option maxRecDepth 20000 in
theorem ggX2_ask_X2_firstFreeTurn : GoodIn wsX2_ask wsX2_firstFreeTurn := goodIn_r _ [19, 20, 21, 22, 23, 6, 24, 10, 41, 42, 43, 25, 26, 27, 28, 29, 30, 31, 32, 33, 34] (by decide +kernel) (by decide +kernel)
set_option maxRecDepth 20000 in
theorem gX2_ask_X2_firstFreeTurn : GoodIn wsX2_ask (wsV RX2 103 RX2 yX2_firstFreeTurn wsX2_firstFreeTurn) := goodIn_app (goodIn_of _ (by decide +kernel)) ggX2_ask_X2_firstFreeTurn
theorem dX2_ask_0 : decode cX2_ask 0 = .ok (.aload_n 0, 1) := by decide +kernel
theorem dX2_ask_1 : decode cX2_ask 1 = .ok (.iload_n 1, 1) := by decide +kernel
theorem dX2_ask_2 : decode cX2_ask 2 = .ok (.invokevirtual 54, 3) := by decide +kernel
theorem dX2_ask_5 : decode cX2_ask 5 = .ok (.astore_n 3, 1) := by decide +kernel
theorem dX2_ask_6 : decode cX2_ask 6 = .ok (.aload_n 0, 1) := by decide +kernel
theorem dX2_ask_7 : decode cX2_ask 7 = .ok (.iload_n 2, 1) := by decide +kernel
theorem dX2_ask_8 : decode cX2_ask 8 = .ok (.invokevirtual 29, 3) := by decide +kernel
theorem dX2_ask_11 : decode cX2_ask 11 = .ok (.astore 4, 2) := by decide +kernel
theorem dX2_ask_13 : decode cX2_ask 13 = .ok (.aload_n 3, 1) := by decide +kernel
theorem dX2_ask_14 : decode cX2_ask 14 = .ok (.getfield 98, 3) := by decide +kernel
theorem dX2_ask_17 : decode cX2_ask 17 = .ok (.iconst (-1), 1) := by decide +kernel
theorem dX2_ask_18 : decode cX2_ask 18 = .ok (.if_icmp .ne 11, 3) := by decide +kernel
theorem dX2_ask_21 : decode cX2_ask 21 = .ok (.aload 4, 2) := by decide +kernel
theorem dX2_ask_23 : decode cX2_ask 23 = .ok (.getfield 46, 3) := by decide +kernel
theorem dX2_ask_26 : decode cX2_ask 26 = .ok (.ifCond .ne 13, 3) := by decide +kernel
theorem dX2_ask_29 : decode cX2_ask 29 = .ok (.new 62, 3) := by decide +kernel
theorem dX2_ask_32 : decode cX2_ask 32 = .ok (.dup, 1) := by decide +kernel
theorem dX2_ask_33 : decode cX2_ask 33 = .ok (.ldc 101, 2) := by decide +kernel
theorem dX2_ask_35 : decode cX2_ask 35 = .ok (.invokespecial 66, 3) := by decide +kernel
theorem dX2_ask_38 : decode cX2_ask 38 = .ok (.athrow, 1) := by decide +kernel
theorem dX2_ask_39 : decode cX2_ask 39 = .ok (.aload_n 3, 1) := by decide +kernel
theorem dX2_ask_40 : decode cX2_ask 40 = .ok (.aload_n 0, 1) := by decide +kernel
theorem dX2_ask_41 : decode cX2_ask 41 = .ok (.aload 4, 2) := by decide +kernel
theorem dX2_ask_43 : decode cX2_ask 43 = .ok (.invokevirtual 103, 3) := by decide +kernel
theorem dX2_ask_46 : decode cX2_ask 46 = .ok (.putfield 98, 3) := by decide +kernel
theorem dX2_ask_49 : decode cX2_ask 49 = .ok (.aload_n 3, 1) := by decide +kernel
theorem dX2_ask_50 : decode cX2_ask 50 = .ok (.aload 4, 2) := by decide +kernel
theorem dX2_ask_52 : decode cX2_ask 52 = .ok (.putfield 106, 3) := by decide +kernel
theorem dX2_ask_55 : decode cX2_ask 55 = .ok (.aload_n 3, 1) := by decide +kernel
theorem dX2_ask_56 : decode cX2_ask 56 = .ok (.getfield 98, 3) := by decide +kernel
theorem dX2_ask_59 : decode cX2_ask 59 = .ok (.ireturn, 1) := by decide +kernel
set_option maxRecDepth 20000 in
theorem ggX2_advance_X2_passMinute : GoodIn wsX2_advance wsX2_passMinute := goodIn_r _ [10, 5, 11, 12, 13, 9, 14, 15, 16, 17, 18, 19, 20, 21, 22, 23, 24, 25, 26, 27, 28, 29, 30, 31, 32, 33, 34, 35, 36, 37, 38, 39, 40, 41, 42, 43, 44, 45, 46, 47, 48, 49, 50, 51, 52, 53, 54, 55, 56, 57, 58, 59, 60, 61, 62, 63, 64, 65, 66, 67, 68, 69, 70, 71, 72, 73, 74, 75, 76, 77, 78, 79, 80, 81, 82, 83, 84, 85, 86, 87, 88, 89, 90, 91, 92, 93, 94, 95, 96, 97, 98, 99, 100, 101, 102, 103, 104, 105, 106, 107, 108, 109, 110, 111, 112, 113, 114, 115, 116, 117, 118, 119, 120, 121, 122, 123, 124, 125, 126] (by decide +kernel) (by decide +kernel)
set_option maxRecDepth 20000 in
theorem gX2_advance_X2_passMinute : GoodIn wsX2_advance (wsV RX2 114 RX2 yX2_passMinute wsX2_passMinute) := goodIn_app (goodIn_of _ (by decide +kernel)) ggX2_advance_X2_passMinute
theorem dX2_advance_0 : decode cX2_advance 0 = .ok (.iload_n 1, 1) := by decide +kernel
theorem dX2_advance_1 : decode cX2_advance 1 = .ok (.iconst 1, 1) := by decide +kernel
theorem dX2_advance_2 : decode cX2_advance 2 = .ok (.if_icmp .lt 9, 3) := by decide +kernel
theorem dX2_advance_5 : decode cX2_advance 5 = .ok (.iload_n 1, 1) := by decide +kernel
theorem dX2_advance_6 : decode cX2_advance 6 = .ok (.bipush 60, 2) := by decide +kernel
theorem dX2_advance_8 : decode cX2_advance 8 = .ok (.if_icmp .le 13, 3) := by decide +kernel
theorem dX2_advance_11 : decode cX2_advance 11 = .ok (.new 33, 3) := by decide +kernel
theorem dX2_advance_14 : decode cX2_advance 14 = .ok (.dup, 1) := by decide +kernel
theorem dX2_advance_15 : decode cX2_advance 15 = .ok (.ldc 110, 2) := by decide +kernel
theorem dX2_advance_17 : decode cX2_advance 17 = .ok (.invokespecial 37, 3) := by decide +kernel
theorem dX2_advance_20 : decode cX2_advance 20 = .ok (.athrow, 1) := by decide +kernel
theorem dX2_advance_21 : decode cX2_advance 21 = .ok (.aload_n 0, 1) := by decide +kernel
theorem dX2_advance_22 : decode cX2_advance 22 = .ok (.getfield 21, 3) := by decide +kernel
theorem dX2_advance_25 : decode cX2_advance 25 = .ok (.iload_n 1, 1) := by decide +kernel
theorem dX2_advance_26 : decode cX2_advance 26 = .ok (.iadd, 1) := by decide +kernel
theorem dX2_advance_27 : decode cX2_advance 27 = .ok (.sipush 1200, 3) := by decide +kernel
theorem dX2_advance_30 : decode cX2_advance 30 = .ok (.if_icmp .le 13, 3) := by decide +kernel
theorem dX2_advance_33 : decode cX2_advance 33 = .ok (.new 62, 3) := by decide +kernel
theorem dX2_advance_36 : decode cX2_advance 36 = .ok (.dup, 1) := by decide +kernel
theorem dX2_advance_37 : decode cX2_advance 37 = .ok (.ldc 112, 2) := by decide +kernel
theorem dX2_advance_39 : decode cX2_advance 39 = .ok (.invokespecial 66, 3) := by decide +kernel
theorem dX2_advance_42 : decode cX2_advance 42 = .ok (.athrow, 1) := by decide +kernel
theorem dX2_advance_43 : decode cX2_advance 43 = .ok (.iconst 0, 1) := by decide +kernel
theorem dX2_advance_44 : decode cX2_advance 44 = .ok (.istore_n 2, 1) := by decide +kernel
theorem dX2_advance_45 : decode cX2_advance 45 = .ok (.iload_n 2, 1) := by decide +kernel
theorem dX2_advance_46 : decode cX2_advance 46 = .ok (.iload_n 1, 1) := by decide +kernel
theorem dX2_advance_47 : decode cX2_advance 47 = .ok (.if_icmp .ge 13, 3) := by decide +kernel
theorem dX2_advance_50 : decode cX2_advance 50 = .ok (.aload_n 0, 1) := by decide +kernel
theorem dX2_advance_51 : decode cX2_advance 51 = .ok (.invokevirtual 114, 3) := by decide +kernel
theorem dX2_advance_54 : decode cX2_advance 54 = .ok (.iinc 2 1, 3) := by decide +kernel
theorem dX2_advance_57 : decode cX2_advance 57 = .ok (.goto (-12), 3) := by decide +kernel
theorem dX2_advance_60 : decode cX2_advance 60 = .ok (.aload_n 0, 1) := by decide +kernel
theorem dX2_advance_61 : decode cX2_advance 61 = .ok (.getfield 21, 3) := by decide +kernel
theorem dX2_advance_64 : decode cX2_advance 64 = .ok (.ireturn, 1) := by decide +kernel
set_option maxRecDepth 20000 in
theorem ggX2_send_X2_visitorAt : GoodIn wsX2_send wsX2_visitorAt := goodIn_ca (goodIn_r _ [7, 8, 9, 10, 36, 37, 38] (by decide +kernel) (by decide +kernel)) (goodIn_sub (fun _ h => List.mem_cons_of_mem _ (List.mem_append_right _ h)) (by decide +kernel))
set_option maxRecDepth 20000 in
theorem gX2_send_X2_visitorAt : GoodIn wsX2_send (wsV RX2 54 RX2 yX2_visitorAt wsX2_visitorAt) := goodIn_app (goodIn_of _ (by decide +kernel)) ggX2_send_X2_visitorAt
set_option maxRecDepth 20000 in
theorem ggX2_send_X2_pavilionAt : GoodIn wsX2_send wsX2_pavilionAt := goodIn_ca (goodIn_r _ [14, 8, 9, 15, 36, 37, 38] (by decide +kernel) (by decide +kernel)) (goodIn_sub (fun _ h => List.mem_cons_of_mem _ (List.mem_append_right _ h)) (by decide +kernel))
set_option maxRecDepth 20000 in
theorem gX2_send_X2_pavilionAt : GoodIn wsX2_send (wsV RX2 29 RX2 yX2_pavilionAt wsX2_pavilionAt) := goodIn_app (goodIn_of _ (by decide +kernel)) ggX2_send_X2_pavilionAt
set_option maxRecDepth 20000 in
theorem ggX2_send_X2_hasStamp : GoodIn wsX2_send wsX2_hasStamp := goodIn_r _ [19, 26, 27, 28, 29, 30, 31, 32, 33, 34, 35, 20, 21, 22, 23, 24, 25] (by decide +kernel) (by decide +kernel)
set_option maxRecDepth 20000 in
theorem gX2_send_X2_hasStamp : GoodIn wsX2_send (wsV RX2 117 RX2 yX2_hasStamp wsX2_hasStamp) := goodIn_app (goodIn_of _ (by decide +kernel)) ggX2_send_X2_hasStamp
theorem dX2_send_0 : decode cX2_send 0 = .ok (.aload_n 0, 1) := by decide +kernel
theorem dX2_send_1 : decode cX2_send 1 = .ok (.iload_n 1, 1) := by decide +kernel
theorem dX2_send_2 : decode cX2_send 2 = .ok (.invokevirtual 54, 3) := by decide +kernel
theorem dX2_send_5 : decode cX2_send 5 = .ok (.astore_n 3, 1) := by decide +kernel
theorem dX2_send_6 : decode cX2_send 6 = .ok (.aload_n 0, 1) := by decide +kernel
theorem dX2_send_7 : decode cX2_send 7 = .ok (.iload_n 2, 1) := by decide +kernel
theorem dX2_send_8 : decode cX2_send 8 = .ok (.invokevirtual 29, 3) := by decide +kernel
theorem dX2_send_11 : decode cX2_send 11 = .ok (.astore 4, 2) := by decide +kernel
theorem dX2_send_13 : decode cX2_send 13 = .ok (.aload_n 0, 1) := by decide +kernel
theorem dX2_send_14 : decode cX2_send 14 = .ok (.aload_n 3, 1) := by decide +kernel
theorem dX2_send_15 : decode cX2_send 15 = .ok (.aload 4, 2) := by decide +kernel
theorem dX2_send_17 : decode cX2_send 17 = .ok (.invokevirtual 117, 3) := by decide +kernel
theorem dX2_send_20 : decode cX2_send 20 = .ok (.ifCond .ne 13, 3) := by decide +kernel
theorem dX2_send_23 : decode cX2_send 23 = .ok (.new 62, 3) := by decide +kernel
theorem dX2_send_26 : decode cX2_send 26 = .ok (.dup, 1) := by decide +kernel
theorem dX2_send_27 : decode cX2_send 27 = .ok (.ldc 121, 2) := by decide +kernel
theorem dX2_send_29 : decode cX2_send 29 = .ok (.invokespecial 66, 3) := by decide +kernel
theorem dX2_send_32 : decode cX2_send 32 = .ok (.athrow, 1) := by decide +kernel
theorem dX2_send_33 : decode cX2_send 33 = .ok (.aload 4, 2) := by decide +kernel
theorem dX2_send_35 : decode cX2_send 35 = .ok (.getfield 123, 3) := by decide +kernel
theorem dX2_send_38 : decode cX2_send 38 = .ok (.ifCond .ne 16, 3) := by decide +kernel
theorem dX2_send_41 : decode cX2_send 41 = .ok (.aload 4, 2) := by decide +kernel
theorem dX2_send_43 : decode cX2_send 43 = .ok (.dup, 1) := by decide +kernel
theorem dX2_send_44 : decode cX2_send 44 = .ok (.getfield 126, 3) := by decide +kernel
theorem dX2_send_47 : decode cX2_send 47 = .ok (.iconst 1, 1) := by decide +kernel
theorem dX2_send_48 : decode cX2_send 48 = .ok (.iadd, 1) := by decide +kernel
theorem dX2_send_49 : decode cX2_send 49 = .ok (.putfield 126, 3) := by decide +kernel
theorem dX2_send_52 : decode cX2_send 52 = .ok (.iconst 0, 1) := by decide +kernel
theorem dX2_send_53 : decode cX2_send 53 = .ok (.ireturn, 1) := by decide +kernel
theorem dX2_send_54 : decode cX2_send 54 = .ok (.aload 4, 2) := by decide +kernel
theorem dX2_send_56 : decode cX2_send 56 = .ok (.dup, 1) := by decide +kernel
theorem dX2_send_57 : decode cX2_send 57 = .ok (.getfield 123, 3) := by decide +kernel
theorem dX2_send_60 : decode cX2_send 60 = .ok (.iconst 1, 1) := by decide +kernel
theorem dX2_send_61 : decode cX2_send 61 = .ok (.isub, 1) := by decide +kernel
theorem dX2_send_62 : decode cX2_send 62 = .ok (.putfield 123, 3) := by decide +kernel
theorem dX2_send_65 : decode cX2_send 65 = .ok (.aload_n 3, 1) := by decide +kernel
theorem dX2_send_66 : decode cX2_send 66 = .ok (.getfield 129, 3) := by decide +kernel
theorem dX2_send_69 : decode cX2_send 69 = .ok (.aload 4, 2) := by decide +kernel
theorem dX2_send_71 : decode cX2_send 71 = .ok (.getfield 133, 3) := by decide +kernel
theorem dX2_send_74 : decode cX2_send 74 = .ok (.dup2, 1) := by decide +kernel
theorem dX2_send_75 : decode cX2_send 75 = .ok (.iaload, 1) := by decide +kernel
theorem dX2_send_76 : decode cX2_send 76 = .ok (.iconst 1, 1) := by decide +kernel
theorem dX2_send_77 : decode cX2_send 77 = .ok (.iadd, 1) := by decide +kernel
theorem dX2_send_78 : decode cX2_send 78 = .ok (.iastore, 1) := by decide +kernel
theorem dX2_send_79 : decode cX2_send 79 = .ok (.iconst 1, 1) := by decide +kernel
theorem dX2_send_80 : decode cX2_send 80 = .ok (.ireturn, 1) := by decide +kernel
theorem dX2_reprint_0 : decode cX2_reprint 0 = .ok (.iload_n 1, 1) := by decide +kernel
theorem dX2_reprint_1 : decode cX2_reprint 1 = .ok (.iconst 1, 1) := by decide +kernel
theorem dX2_reprint_2 : decode cX2_reprint 2 = .ok (.if_icmp .lt 10, 3) := by decide +kernel
theorem dX2_reprint_5 : decode cX2_reprint 5 = .ok (.iload_n 1, 1) := by decide +kernel
theorem dX2_reprint_6 : decode cX2_reprint 6 = .ok (.sipush 1000, 3) := by decide +kernel
theorem dX2_reprint_9 : decode cX2_reprint 9 = .ok (.if_icmp .le 13, 3) := by decide +kernel
theorem dX2_reprint_12 : decode cX2_reprint 12 = .ok (.new 33, 3) := by decide +kernel
theorem dX2_reprint_15 : decode cX2_reprint 15 = .ok (.dup, 1) := by decide +kernel
theorem dX2_reprint_16 : decode cX2_reprint 16 = .ok (.ldc 136, 2) := by decide +kernel
theorem dX2_reprint_18 : decode cX2_reprint 18 = .ok (.invokespecial 37, 3) := by decide +kernel
theorem dX2_reprint_21 : decode cX2_reprint 21 = .ok (.athrow, 1) := by decide +kernel
theorem dX2_reprint_22 : decode cX2_reprint 22 = .ok (.iconst 0, 1) := by decide +kernel
theorem dX2_reprint_23 : decode cX2_reprint 23 = .ok (.istore_n 2, 1) := by decide +kernel
theorem dX2_reprint_24 : decode cX2_reprint 24 = .ok (.aload_n 0, 1) := by decide +kernel
theorem dX2_reprint_25 : decode cX2_reprint 25 = .ok (.getfield 11, 3) := by decide +kernel
theorem dX2_reprint_28 : decode cX2_reprint 28 = .ok (.astore_n 3, 1) := by decide +kernel
theorem dX2_reprint_29 : decode cX2_reprint 29 = .ok (.aload_n 3, 1) := by decide +kernel
theorem dX2_reprint_30 : decode cX2_reprint 30 = .ok (.arraylength, 1) := by decide +kernel
theorem dX2_reprint_31 : decode cX2_reprint 31 = .ok (.istore 4, 2) := by decide +kernel
theorem dX2_reprint_33 : decode cX2_reprint 33 = .ok (.iconst 0, 1) := by decide +kernel
theorem dX2_reprint_34 : decode cX2_reprint 34 = .ok (.istore 5, 2) := by decide +kernel
theorem dX2_reprint_36 : decode cX2_reprint 36 = .ok (.iload 5, 2) := by decide +kernel
theorem dX2_reprint_38 : decode cX2_reprint 38 = .ok (.iload 4, 2) := by decide +kernel
theorem dX2_reprint_40 : decode cX2_reprint 40 = .ok (.if_icmp .ge 53, 3) := by decide +kernel
theorem dX2_reprint_43 : decode cX2_reprint 43 = .ok (.aload_n 3, 1) := by decide +kernel
theorem dX2_reprint_44 : decode cX2_reprint 44 = .ok (.iload 5, 2) := by decide +kernel
theorem dX2_reprint_46 : decode cX2_reprint 46 = .ok (.aaload, 1) := by decide +kernel
theorem dX2_reprint_47 : decode cX2_reprint 47 = .ok (.astore 6, 2) := by decide +kernel
theorem dX2_reprint_49 : decode cX2_reprint 49 = .ok (.aload 6, 2) := by decide +kernel
theorem dX2_reprint_51 : decode cX2_reprint 51 = .ok (.getfield 126, 3) := by decide +kernel
theorem dX2_reprint_54 : decode cX2_reprint 54 = .ok (.iload_n 1, 1) := by decide +kernel
theorem dX2_reprint_55 : decode cX2_reprint 55 = .ok (.if_icmp .lt 32, 3) := by decide +kernel
theorem dX2_reprint_58 : decode cX2_reprint 58 = .ok (.iload_n 2, 1) := by decide +kernel
theorem dX2_reprint_59 : decode cX2_reprint 59 = .ok (.aload 6, 2) := by decide +kernel
theorem dX2_reprint_61 : decode cX2_reprint 61 = .ok (.getfield 126, 3) := by decide +kernel
theorem dX2_reprint_64 : decode cX2_reprint 64 = .ok (.iadd, 1) := by decide +kernel
theorem dX2_reprint_65 : decode cX2_reprint 65 = .ok (.istore_n 2, 1) := by decide +kernel
theorem dX2_reprint_66 : decode cX2_reprint 66 = .ok (.aload 6, 2) := by decide +kernel
theorem dX2_reprint_68 : decode cX2_reprint 68 = .ok (.dup, 1) := by decide +kernel
theorem dX2_reprint_69 : decode cX2_reprint 69 = .ok (.getfield 123, 3) := by decide +kernel
theorem dX2_reprint_72 : decode cX2_reprint 72 = .ok (.aload 6, 2) := by decide +kernel
theorem dX2_reprint_74 : decode cX2_reprint 74 = .ok (.getfield 126, 3) := by decide +kernel
theorem dX2_reprint_77 : decode cX2_reprint 77 = .ok (.iadd, 1) := by decide +kernel
theorem dX2_reprint_78 : decode cX2_reprint 78 = .ok (.putfield 123, 3) := by decide +kernel
theorem dX2_reprint_81 : decode cX2_reprint 81 = .ok (.aload 6, 2) := by decide +kernel
theorem dX2_reprint_83 : decode cX2_reprint 83 = .ok (.iconst 0, 1) := by decide +kernel
theorem dX2_reprint_84 : decode cX2_reprint 84 = .ok (.putfield 126, 3) := by decide +kernel
theorem dX2_reprint_87 : decode cX2_reprint 87 = .ok (.iinc 5 1, 3) := by decide +kernel
theorem dX2_reprint_90 : decode cX2_reprint 90 = .ok (.goto (-54), 3) := by decide +kernel
theorem dX2_reprint_93 : decode cX2_reprint 93 = .ok (.iload_n 2, 1) := by decide +kernel
theorem dX2_reprint_94 : decode cX2_reprint 94 = .ok (.ireturn, 1) := by decide +kernel
theorem dX2_minute_0 : decode cX2_minute 0 = .ok (.aload_n 0, 1) := by decide +kernel
theorem dX2_minute_1 : decode cX2_minute 1 = .ok (.getfield 21, 3) := by decide +kernel
theorem dX2_minute_4 : decode cX2_minute 4 = .ok (.ireturn, 1) := by decide +kernel
set_option maxRecDepth 20000 in
theorem ggX2_stateOf_X2_visitorAt : GoodIn wsX2_stateOf wsX2_visitorAt := goodIn_ca (goodIn_r _ [5, 6, 7, 8, 19, 20, 21] (by decide +kernel) (by decide +kernel)) (goodIn_sub (fun _ h => List.mem_cons_of_mem _ (List.mem_append_right _ h)) (by decide +kernel))
set_option maxRecDepth 20000 in
theorem gX2_stateOf_X2_visitorAt : GoodIn wsX2_stateOf (wsV RX2 54 RX2 yX2_visitorAt wsX2_visitorAt) := goodIn_app (goodIn_of _ (by decide +kernel)) ggX2_stateOf_X2_visitorAt
theorem dX2_stateOf_0 : decode cX2_stateOf 0 = .ok (.aload_n 0, 1) := by decide +kernel
theorem dX2_stateOf_1 : decode cX2_stateOf 1 = .ok (.iload_n 1, 1) := by decide +kernel
theorem dX2_stateOf_2 : decode cX2_stateOf 2 = .ok (.invokevirtual 54, 3) := by decide +kernel
theorem dX2_stateOf_5 : decode cX2_stateOf 5 = .ok (.getfield 138, 3) := by decide +kernel
theorem dX2_stateOf_8 : decode cX2_stateOf 8 = .ok (.ireturn, 1) := by decide +kernel
set_option maxRecDepth 20000 in
theorem ggX2_whereIs_X2_visitorAt : GoodIn wsX2_whereIs wsX2_visitorAt := goodIn_ca (goodIn_r _ [5, 6, 7, 8, 19, 20, 21] (by decide +kernel) (by decide +kernel)) (goodIn_sub (fun _ h => List.mem_cons_of_mem _ (List.mem_append_right _ h)) (by decide +kernel))
set_option maxRecDepth 20000 in
theorem gX2_whereIs_X2_visitorAt : GoodIn wsX2_whereIs (wsV RX2 54 RX2 yX2_visitorAt wsX2_visitorAt) := goodIn_app (goodIn_of _ (by decide +kernel)) ggX2_whereIs_X2_visitorAt
theorem dX2_whereIs_0 : decode cX2_whereIs 0 = .ok (.aload_n 0, 1) := by decide +kernel
theorem dX2_whereIs_1 : decode cX2_whereIs 1 = .ok (.iload_n 1, 1) := by decide +kernel
theorem dX2_whereIs_2 : decode cX2_whereIs 2 = .ok (.invokevirtual 54, 3) := by decide +kernel
theorem dX2_whereIs_5 : decode cX2_whereIs 5 = .ok (.getfield 141, 3) := by decide +kernel
theorem dX2_whereIs_8 : decode cX2_whereIs 8 = .ok (.ireturn, 1) := by decide +kernel
set_option maxRecDepth 20000 in
theorem ggX2_placeOf_X2_visitorAt : GoodIn wsX2_placeOf wsX2_visitorAt := goodIn_ca (goodIn_r _ [5, 6, 7, 8, 19, 20, 21] (by decide +kernel) (by decide +kernel)) (goodIn_sub (fun _ h => List.mem_cons_of_mem _ (List.mem_append_right _ h)) (by decide +kernel))
set_option maxRecDepth 20000 in
theorem gX2_placeOf_X2_visitorAt : GoodIn wsX2_placeOf (wsV RX2 54 RX2 yX2_visitorAt wsX2_visitorAt) := goodIn_app (goodIn_of _ (by decide +kernel)) ggX2_placeOf_X2_visitorAt
theorem dX2_placeOf_0 : decode cX2_placeOf 0 = .ok (.aload_n 0, 1) := by decide +kernel
theorem dX2_placeOf_1 : decode cX2_placeOf 1 = .ok (.iload_n 1, 1) := by decide +kernel
theorem dX2_placeOf_2 : decode cX2_placeOf 2 = .ok (.invokevirtual 54, 3) := by decide +kernel
theorem dX2_placeOf_5 : decode cX2_placeOf 5 = .ok (.getfield 144, 3) := by decide +kernel
theorem dX2_placeOf_8 : decode cX2_placeOf 8 = .ok (.ireturn, 1) := by decide +kernel
set_option maxRecDepth 20000 in
theorem ggX2_turnOf_X2_visitorAt : GoodIn wsX2_turnOf wsX2_visitorAt := goodIn_ca (goodIn_r _ [5, 6, 7, 8, 19, 20, 21] (by decide +kernel) (by decide +kernel)) (goodIn_sub (fun _ h => List.mem_cons_of_mem _ (List.mem_append_right _ h)) (by decide +kernel))
set_option maxRecDepth 20000 in
theorem gX2_turnOf_X2_visitorAt : GoodIn wsX2_turnOf (wsV RX2 54 RX2 yX2_visitorAt wsX2_visitorAt) := goodIn_app (goodIn_of _ (by decide +kernel)) ggX2_turnOf_X2_visitorAt
theorem dX2_turnOf_0 : decode cX2_turnOf 0 = .ok (.aload_n 0, 1) := by decide +kernel
theorem dX2_turnOf_1 : decode cX2_turnOf 1 = .ok (.iload_n 1, 1) := by decide +kernel
theorem dX2_turnOf_2 : decode cX2_turnOf 2 = .ok (.invokevirtual 54, 3) := by decide +kernel
theorem dX2_turnOf_5 : decode cX2_turnOf 5 = .ok (.getfield 98, 3) := by decide +kernel
theorem dX2_turnOf_8 : decode cX2_turnOf 8 = .ok (.ireturn, 1) := by decide +kernel
set_option maxRecDepth 20000 in
theorem ggX2_stamps_X2_visitorAt : GoodIn wsX2_stamps wsX2_visitorAt := goodIn_ca (goodIn_r _ [5, 6, 7, 8, 19, 20, 21] (by decide +kernel) (by decide +kernel)) (goodIn_sub (fun _ h => List.mem_cons_of_mem _ (List.mem_append_right _ h)) (by decide +kernel))
set_option maxRecDepth 20000 in
theorem gX2_stamps_X2_visitorAt : GoodIn wsX2_stamps (wsV RX2 54 RX2 yX2_visitorAt wsX2_visitorAt) := goodIn_app (goodIn_of _ (by decide +kernel)) ggX2_stamps_X2_visitorAt
theorem dX2_stamps_0 : decode cX2_stamps 0 = .ok (.aload_n 0, 1) := by decide +kernel
theorem dX2_stamps_1 : decode cX2_stamps 1 = .ok (.iload_n 1, 1) := by decide +kernel
theorem dX2_stamps_2 : decode cX2_stamps 2 = .ok (.invokevirtual 54, 3) := by decide +kernel
theorem dX2_stamps_5 : decode cX2_stamps 5 = .ok (.getfield 147, 3) := by decide +kernel
theorem dX2_stamps_8 : decode cX2_stamps 8 = .ok (.ireturn, 1) := by decide +kernel
set_option maxRecDepth 20000 in
theorem ggX2_queue_X2_pavilionAt : GoodIn wsX2_queue wsX2_pavilionAt := goodIn_ca (goodIn_r _ [5, 6, 7, 8, 18, 19, 20] (by decide +kernel) (by decide +kernel)) (goodIn_sub (fun _ h => List.mem_cons_of_mem _ (List.mem_append_right _ h)) (by decide +kernel))
set_option maxRecDepth 20000 in
theorem gX2_queue_X2_pavilionAt : GoodIn wsX2_queue (wsV RX2 29 RX2 yX2_pavilionAt wsX2_pavilionAt) := goodIn_app (goodIn_of _ (by decide +kernel)) ggX2_queue_X2_pavilionAt
set_option maxRecDepth 20000 in
theorem ggX2_queue_X2_countAt : GoodIn wsX2_queue wsX2_countAt := goodIn_r _ [12, 13, 14, 15, 16, 4, 17, 18, 19, 20, 21, 22, 23, 24, 25, 26, 27, 28, 29, 30, 31, 32, 33, 34, 35, 36] (by decide +kernel) (by decide +kernel)
set_option maxRecDepth 20000 in
theorem gX2_queue_X2_countAt : GoodIn wsX2_queue (wsV RX2 150 RX2 yX2_countAt wsX2_countAt) := goodIn_app (goodIn_of _ (by decide +kernel)) ggX2_queue_X2_countAt
theorem dX2_queue_0 : decode cX2_queue 0 = .ok (.aload_n 0, 1) := by decide +kernel
theorem dX2_queue_1 : decode cX2_queue 1 = .ok (.iconst 1, 1) := by decide +kernel
theorem dX2_queue_2 : decode cX2_queue 2 = .ok (.aload_n 0, 1) := by decide +kernel
theorem dX2_queue_3 : decode cX2_queue 3 = .ok (.iload_n 1, 1) := by decide +kernel
theorem dX2_queue_4 : decode cX2_queue 4 = .ok (.invokevirtual 29, 3) := by decide +kernel
theorem dX2_queue_7 : decode cX2_queue 7 = .ok (.invokevirtual 150, 3) := by decide +kernel
theorem dX2_queue_10 : decode cX2_queue 10 = .ok (.ireturn, 1) := by decide +kernel
set_option maxRecDepth 20000 in
theorem ggX2_inside_X2_pavilionAt : GoodIn wsX2_inside wsX2_pavilionAt := goodIn_ca (goodIn_r _ [5, 6, 7, 8, 18, 19, 20] (by decide +kernel) (by decide +kernel)) (goodIn_sub (fun _ h => List.mem_cons_of_mem _ (List.mem_append_right _ h)) (by decide +kernel))
set_option maxRecDepth 20000 in
theorem gX2_inside_X2_pavilionAt : GoodIn wsX2_inside (wsV RX2 29 RX2 yX2_pavilionAt wsX2_pavilionAt) := goodIn_app (goodIn_of _ (by decide +kernel)) ggX2_inside_X2_pavilionAt
set_option maxRecDepth 20000 in
theorem ggX2_inside_X2_countAt : GoodIn wsX2_inside wsX2_countAt := goodIn_r _ [12, 13, 14, 15, 16, 4, 17, 18, 19, 20, 21, 22, 23, 24, 25, 26, 27, 28, 29, 30, 31, 32, 33, 34, 35, 36] (by decide +kernel) (by decide +kernel)
set_option maxRecDepth 20000 in
theorem gX2_inside_X2_countAt : GoodIn wsX2_inside (wsV RX2 150 RX2 yX2_countAt wsX2_countAt) := goodIn_app (goodIn_of _ (by decide +kernel)) ggX2_inside_X2_countAt
theorem dX2_inside_0 : decode cX2_inside 0 = .ok (.aload_n 0, 1) := by decide +kernel
theorem dX2_inside_1 : decode cX2_inside 1 = .ok (.iconst 2, 1) := by decide +kernel
theorem dX2_inside_2 : decode cX2_inside 2 = .ok (.aload_n 0, 1) := by decide +kernel
theorem dX2_inside_3 : decode cX2_inside 3 = .ok (.iload_n 1, 1) := by decide +kernel
theorem dX2_inside_4 : decode cX2_inside 4 = .ok (.invokevirtual 29, 3) := by decide +kernel
theorem dX2_inside_7 : decode cX2_inside 7 = .ok (.invokevirtual 150, 3) := by decide +kernel
theorem dX2_inside_10 : decode cX2_inside 10 = .ok (.ireturn, 1) := by decide +kernel
set_option maxRecDepth 20000 in
theorem ggX2_stock_X2_pavilionAt : GoodIn wsX2_stock wsX2_pavilionAt := goodIn_ca (goodIn_r _ [5, 6, 7, 8, 15, 16, 17] (by decide +kernel) (by decide +kernel)) (goodIn_sub (fun _ h => List.mem_cons_of_mem _ (List.mem_append_right _ h)) (by decide +kernel))
set_option maxRecDepth 20000 in
theorem gX2_stock_X2_pavilionAt : GoodIn wsX2_stock (wsV RX2 29 RX2 yX2_pavilionAt wsX2_pavilionAt) := goodIn_app (goodIn_of _ (by decide +kernel)) ggX2_stock_X2_pavilionAt
theorem dX2_stock_0 : decode cX2_stock 0 = .ok (.aload_n 0, 1) := by decide +kernel
theorem dX2_stock_1 : decode cX2_stock 1 = .ok (.iload_n 1, 1) := by decide +kernel
theorem dX2_stock_2 : decode cX2_stock 2 = .ok (.invokevirtual 29, 3) := by decide +kernel
theorem dX2_stock_5 : decode cX2_stock 5 = .ok (.getfield 123, 3) := by decide +kernel
theorem dX2_stock_8 : decode cX2_stock 8 = .ok (.ireturn, 1) := by decide +kernel
set_option maxRecDepth 20000 in
theorem ggX2_demand_X2_pavilionAt : GoodIn wsX2_demand wsX2_pavilionAt := goodIn_ca (goodIn_r _ [5, 6, 7, 8, 15, 16, 17] (by decide +kernel) (by decide +kernel)) (goodIn_sub (fun _ h => List.mem_cons_of_mem _ (List.mem_append_right _ h)) (by decide +kernel))
set_option maxRecDepth 20000 in
theorem gX2_demand_X2_pavilionAt : GoodIn wsX2_demand (wsV RX2 29 RX2 yX2_pavilionAt wsX2_pavilionAt) := goodIn_app (goodIn_of _ (by decide +kernel)) ggX2_demand_X2_pavilionAt
theorem dX2_demand_0 : decode cX2_demand 0 = .ok (.aload_n 0, 1) := by decide +kernel
theorem dX2_demand_1 : decode cX2_demand 1 = .ok (.iload_n 1, 1) := by decide +kernel
theorem dX2_demand_2 : decode cX2_demand 2 = .ok (.invokevirtual 29, 3) := by decide +kernel
theorem dX2_demand_5 : decode cX2_demand 5 = .ok (.getfield 126, 3) := by decide +kernel
theorem dX2_demand_8 : decode cX2_demand 8 = .ok (.ireturn, 1) := by decide +kernel
set_option maxRecDepth 20000 in
theorem ggX2_sent_X2_visitorAt : GoodIn wsX2_sent wsX2_visitorAt := goodIn_ca (goodIn_r _ [5, 6, 7, 8, 30, 31, 32] (by decide +kernel) (by decide +kernel)) (goodIn_sub (fun _ h => List.mem_cons_of_mem _ (List.mem_append_right _ h)) (by decide +kernel))
set_option maxRecDepth 20000 in
theorem gX2_sent_X2_visitorAt : GoodIn wsX2_sent (wsV RX2 54 RX2 yX2_visitorAt wsX2_visitorAt) := goodIn_app (goodIn_of _ (by decide +kernel)) ggX2_sent_X2_visitorAt
set_option maxRecDepth 20000 in
theorem ggX2_sent_X2_pavilionAt : GoodIn wsX2_sent wsX2_pavilionAt := goodIn_ca (goodIn_r _ [12, 6, 7, 13, 30, 31, 32] (by decide +kernel) (by decide +kernel)) (goodIn_sub (fun _ h => List.mem_cons_of_mem _ (List.mem_append_right _ h)) (by decide +kernel))
set_option maxRecDepth 20000 in
theorem gX2_sent_X2_pavilionAt : GoodIn wsX2_sent (wsV RX2 29 RX2 yX2_pavilionAt wsX2_pavilionAt) := goodIn_app (goodIn_of _ (by decide +kernel)) ggX2_sent_X2_pavilionAt
theorem dX2_sent_0 : decode cX2_sent 0 = .ok (.aload_n 0, 1) := by decide +kernel
theorem dX2_sent_1 : decode cX2_sent 1 = .ok (.iload_n 1, 1) := by decide +kernel
theorem dX2_sent_2 : decode cX2_sent 2 = .ok (.invokevirtual 54, 3) := by decide +kernel
theorem dX2_sent_5 : decode cX2_sent 5 = .ok (.astore_n 3, 1) := by decide +kernel
theorem dX2_sent_6 : decode cX2_sent 6 = .ok (.aload_n 0, 1) := by decide +kernel
theorem dX2_sent_7 : decode cX2_sent 7 = .ok (.iload_n 2, 1) := by decide +kernel
theorem dX2_sent_8 : decode cX2_sent 8 = .ok (.invokevirtual 29, 3) := by decide +kernel
theorem dX2_sent_11 : decode cX2_sent 11 = .ok (.astore 4, 2) := by decide +kernel
theorem dX2_sent_13 : decode cX2_sent 13 = .ok (.aload_n 3, 1) := by decide +kernel
theorem dX2_sent_14 : decode cX2_sent 14 = .ok (.getfield 129, 3) := by decide +kernel
theorem dX2_sent_17 : decode cX2_sent 17 = .ok (.aload 4, 2) := by decide +kernel
theorem dX2_sent_19 : decode cX2_sent 19 = .ok (.getfield 133, 3) := by decide +kernel
theorem dX2_sent_22 : decode cX2_sent 22 = .ok (.iaload, 1) := by decide +kernel
theorem dX2_sent_23 : decode cX2_sent 23 = .ok (.ireturn, 1) := by decide +kernel
theorem dX2_pavilionAt_0 : decode cX2_pavilionAt 0 = .ok (.iload_n 1, 1) := by decide +kernel
theorem dX2_pavilionAt_1 : decode cX2_pavilionAt 1 = .ok (.ifCond .lt 9, 3) := by decide +kernel
theorem dX2_pavilionAt_4 : decode cX2_pavilionAt 4 = .ok (.iload_n 1, 1) := by decide +kernel
theorem dX2_pavilionAt_5 : decode cX2_pavilionAt 5 = .ok (.bipush 6, 2) := by decide +kernel
theorem dX2_pavilionAt_7 : decode cX2_pavilionAt 7 = .ok (.if_icmp .lt 13, 3) := by decide +kernel
theorem dX2_pavilionAt_10 : decode cX2_pavilionAt 10 = .ok (.new 154, 3) := by decide +kernel
theorem dX2_pavilionAt_13 : decode cX2_pavilionAt 13 = .ok (.dup, 1) := by decide +kernel
theorem dX2_pavilionAt_14 : decode cX2_pavilionAt 14 = .ok (.ldc 156, 2) := by decide +kernel
theorem dX2_pavilionAt_16 : decode cX2_pavilionAt 16 = .ok (.invokespecial 158, 3) := by decide +kernel
theorem dX2_pavilionAt_19 : decode cX2_pavilionAt 19 = .ok (.athrow, 1) := by decide +kernel
theorem dX2_pavilionAt_20 : decode cX2_pavilionAt 20 = .ok (.aload_n 0, 1) := by decide +kernel
theorem dX2_pavilionAt_21 : decode cX2_pavilionAt 21 = .ok (.getfield 11, 3) := by decide +kernel
theorem dX2_pavilionAt_24 : decode cX2_pavilionAt 24 = .ok (.iload_n 1, 1) := by decide +kernel
theorem dX2_pavilionAt_25 : decode cX2_pavilionAt 25 = .ok (.aaload, 1) := by decide +kernel
theorem dX2_pavilionAt_26 : decode cX2_pavilionAt 26 = .ok (.areturn, 1) := by decide +kernel
theorem dX2_visitorAt_0 : decode cX2_visitorAt 0 = .ok (.iload_n 1, 1) := by decide +kernel
theorem dX2_visitorAt_1 : decode cX2_visitorAt 1 = .ok (.ifCond .lt 9, 3) := by decide +kernel
theorem dX2_visitorAt_4 : decode cX2_visitorAt 4 = .ok (.iload_n 1, 1) := by decide +kernel
theorem dX2_visitorAt_5 : decode cX2_visitorAt 5 = .ok (.bipush 8, 2) := by decide +kernel
theorem dX2_visitorAt_7 : decode cX2_visitorAt 7 = .ok (.if_icmp .lt 13, 3) := by decide +kernel
theorem dX2_visitorAt_10 : decode cX2_visitorAt 10 = .ok (.new 154, 3) := by decide +kernel
theorem dX2_visitorAt_13 : decode cX2_visitorAt 13 = .ok (.dup, 1) := by decide +kernel
theorem dX2_visitorAt_14 : decode cX2_visitorAt 14 = .ok (.ldc 159, 2) := by decide +kernel
theorem dX2_visitorAt_16 : decode cX2_visitorAt 16 = .ok (.invokespecial 158, 3) := by decide +kernel
theorem dX2_visitorAt_19 : decode cX2_visitorAt 19 = .ok (.athrow, 1) := by decide +kernel
theorem dX2_visitorAt_20 : decode cX2_visitorAt 20 = .ok (.aload_n 0, 1) := by decide +kernel
theorem dX2_visitorAt_21 : decode cX2_visitorAt 21 = .ok (.getfield 17, 3) := by decide +kernel
theorem dX2_visitorAt_24 : decode cX2_visitorAt 24 = .ok (.iload_n 1, 1) := by decide +kernel
theorem dX2_visitorAt_25 : decode cX2_visitorAt 25 = .ok (.aaload, 1) := by decide +kernel
theorem dX2_visitorAt_26 : decode cX2_visitorAt 26 = .ok (.areturn, 1) := by decide +kernel
set_option maxRecDepth 20000 in
theorem ggX2_indexInPlan_Jx4a65c_size_8abf5 : GoodIn wsX2_indexInPlan wsJx4a65c_size_8abf5 := goodIn_r _ [5, 6, 34, 35, 36] (by decide +kernel) (by decide +kernel)
set_option maxRecDepth 20000 in
theorem gX2_indexInPlan_Jx4a65c_size_8abf5 : GoodIn wsX2_indexInPlan (wsV RX2 77 RJx4a65c yJx4a65c_size_8abf5 wsJx4a65c_size_8abf5) := goodIn_app (goodIn_of _ (by decide +kernel)) ggX2_indexInPlan_Jx4a65c_size_8abf5
set_option maxRecDepth 20000 in
theorem ggX2_indexInPlan_Jx4a65c_get_915e3 : GoodIn wsX2_indexInPlan wsJx4a65c_get_915e3 := goodIn_r _ [10, 6, 11, 12, 13, 14, 15, 16, 17, 18, 19, 20, 21, 4, 22, 23, 34, 35, 36] (by decide +kernel) (by decide +kernel)
set_option maxRecDepth 20000 in
theorem gX2_indexInPlan_Jx4a65c_get_915e3 : GoodIn wsX2_indexInPlan (wsV RX2 161 RJx4a65c yJx4a65c_get_915e3 wsJx4a65c_get_915e3) := goodIn_app (goodIn_of _ (by decide +kernel)) ggX2_indexInPlan_Jx4a65c_get_915e3
theorem dX2_indexInPlan_0 : decode cX2_indexInPlan 0 = .ok (.iconst 0, 1) := by decide +kernel
theorem dX2_indexInPlan_1 : decode cX2_indexInPlan 1 = .ok (.istore_n 3, 1) := by decide +kernel
theorem dX2_indexInPlan_2 : decode cX2_indexInPlan 2 = .ok (.iload_n 3, 1) := by decide +kernel
theorem dX2_indexInPlan_3 : decode cX2_indexInPlan 3 = .ok (.aload_n 1, 1) := by decide +kernel
theorem dX2_indexInPlan_4 : decode cX2_indexInPlan 4 = .ok (.getfield 67, 3) := by decide +kernel
theorem dX2_indexInPlan_7 : decode cX2_indexInPlan 7 = .ok (.invokevirtual 77, 3) := by decide +kernel
theorem dX2_indexInPlan_10 : decode cX2_indexInPlan 10 = .ok (.if_icmp .ge 23, 3) := by decide +kernel
theorem dX2_indexInPlan_13 : decode cX2_indexInPlan 13 = .ok (.aload_n 1, 1) := by decide +kernel
theorem dX2_indexInPlan_14 : decode cX2_indexInPlan 14 = .ok (.getfield 67, 3) := by decide +kernel
theorem dX2_indexInPlan_17 : decode cX2_indexInPlan 17 = .ok (.iload_n 3, 1) := by decide +kernel
theorem dX2_indexInPlan_18 : decode cX2_indexInPlan 18 = .ok (.invokevirtual 161, 3) := by decide +kernel
theorem dX2_indexInPlan_21 : decode cX2_indexInPlan 21 = .ok (.aload_n 2, 1) := by decide +kernel
theorem dX2_indexInPlan_22 : decode cX2_indexInPlan 22 = .ok (.if_acmp .ne 5, 3) := by decide +kernel
theorem dX2_indexInPlan_25 : decode cX2_indexInPlan 25 = .ok (.iload_n 3, 1) := by decide +kernel
theorem dX2_indexInPlan_26 : decode cX2_indexInPlan 26 = .ok (.ireturn, 1) := by decide +kernel
theorem dX2_indexInPlan_27 : decode cX2_indexInPlan 27 = .ok (.iinc 3 1, 3) := by decide +kernel
theorem dX2_indexInPlan_30 : decode cX2_indexInPlan 30 = .ok (.goto (-28), 3) := by decide +kernel
theorem dX2_indexInPlan_33 : decode cX2_indexInPlan 33 = .ok (.iconst (-1), 1) := by decide +kernel
theorem dX2_indexInPlan_34 : decode cX2_indexInPlan 34 = .ok (.ireturn, 1) := by decide +kernel
theorem dX2_hasStamp_0 : decode cX2_hasStamp 0 = .ok (.aload_n 1, 1) := by decide +kernel
theorem dX2_hasStamp_1 : decode cX2_hasStamp 1 = .ok (.getfield 147, 3) := by decide +kernel
theorem dX2_hasStamp_4 : decode cX2_hasStamp 4 = .ok (.iconst 1, 1) := by decide +kernel
theorem dX2_hasStamp_5 : decode cX2_hasStamp 5 = .ok (.aload_n 2, 1) := by decide +kernel
theorem dX2_hasStamp_6 : decode cX2_hasStamp 6 = .ok (.getfield 133, 3) := by decide +kernel
theorem dX2_hasStamp_9 : decode cX2_hasStamp 9 = .ok (.ishl, 1) := by decide +kernel
theorem dX2_hasStamp_10 : decode cX2_hasStamp 10 = .ok (.iand, 1) := by decide +kernel
theorem dX2_hasStamp_11 : decode cX2_hasStamp 11 = .ok (.ifCond .eq 7, 3) := by decide +kernel
theorem dX2_hasStamp_14 : decode cX2_hasStamp 14 = .ok (.iconst 1, 1) := by decide +kernel
theorem dX2_hasStamp_15 : decode cX2_hasStamp 15 = .ok (.goto 4, 3) := by decide +kernel
theorem dX2_hasStamp_18 : decode cX2_hasStamp 18 = .ok (.iconst 0, 1) := by decide +kernel
theorem dX2_hasStamp_19 : decode cX2_hasStamp 19 = .ok (.ireturn, 1) := by decide +kernel
theorem dX2_isAt_0 : decode cX2_isAt 0 = .ok (.aload_n 1, 1) := by decide +kernel
theorem dX2_isAt_1 : decode cX2_isAt 1 = .ok (.getfield 138, 3) := by decide +kernel
theorem dX2_isAt_4 : decode cX2_isAt 4 = .ok (.iload_n 2, 1) := by decide +kernel
theorem dX2_isAt_5 : decode cX2_isAt 5 = .ok (.if_icmp .ne 18, 3) := by decide +kernel
theorem dX2_isAt_8 : decode cX2_isAt 8 = .ok (.aload_n 1, 1) := by decide +kernel
theorem dX2_isAt_9 : decode cX2_isAt 9 = .ok (.getfield 141, 3) := by decide +kernel
theorem dX2_isAt_12 : decode cX2_isAt 12 = .ok (.aload_n 3, 1) := by decide +kernel
theorem dX2_isAt_13 : decode cX2_isAt 13 = .ok (.getfield 133, 3) := by decide +kernel
theorem dX2_isAt_16 : decode cX2_isAt 16 = .ok (.if_icmp .ne 7, 3) := by decide +kernel
theorem dX2_isAt_19 : decode cX2_isAt 19 = .ok (.iconst 1, 1) := by decide +kernel
theorem dX2_isAt_20 : decode cX2_isAt 20 = .ok (.goto 4, 3) := by decide +kernel
theorem dX2_isAt_23 : decode cX2_isAt 23 = .ok (.iconst 0, 1) := by decide +kernel
theorem dX2_isAt_24 : decode cX2_isAt 24 = .ok (.ireturn, 1) := by decide +kernel
set_option maxRecDepth 20000 in
theorem ggX2_countAt_X2_isAt : GoodIn wsX2_countAt wsX2_isAt := goodIn_r _ [6, 10, 11, 12, 13, 14, 15, 16, 17, 18, 19, 20, 21, 22, 23, 24, 25] (by decide +kernel) (by decide +kernel)
set_option maxRecDepth 20000 in
theorem gX2_countAt_X2_isAt : GoodIn wsX2_countAt (wsV RX2 87 RX2 yX2_isAt wsX2_isAt) := goodIn_app (goodIn_of _ (by decide +kernel)) ggX2_countAt_X2_isAt
theorem dX2_countAt_0 : decode cX2_countAt 0 = .ok (.iconst 0, 1) := by decide +kernel
theorem dX2_countAt_1 : decode cX2_countAt 1 = .ok (.istore_n 3, 1) := by decide +kernel
theorem dX2_countAt_2 : decode cX2_countAt 2 = .ok (.aload_n 0, 1) := by decide +kernel
theorem dX2_countAt_3 : decode cX2_countAt 3 = .ok (.getfield 17, 3) := by decide +kernel
theorem dX2_countAt_6 : decode cX2_countAt 6 = .ok (.astore 4, 2) := by decide +kernel
theorem dX2_countAt_8 : decode cX2_countAt 8 = .ok (.aload 4, 2) := by decide +kernel
theorem dX2_countAt_10 : decode cX2_countAt 10 = .ok (.arraylength, 1) := by decide +kernel
theorem dX2_countAt_11 : decode cX2_countAt 11 = .ok (.istore 5, 2) := by decide +kernel
theorem dX2_countAt_13 : decode cX2_countAt 13 = .ok (.iconst 0, 1) := by decide +kernel
theorem dX2_countAt_14 : decode cX2_countAt 14 = .ok (.istore 6, 2) := by decide +kernel
theorem dX2_countAt_16 : decode cX2_countAt 16 = .ok (.iload 6, 2) := by decide +kernel
theorem dX2_countAt_18 : decode cX2_countAt 18 = .ok (.iload 5, 2) := by decide +kernel
theorem dX2_countAt_20 : decode cX2_countAt 20 = .ok (.if_icmp .ge 30, 3) := by decide +kernel
theorem dX2_countAt_23 : decode cX2_countAt 23 = .ok (.aload 4, 2) := by decide +kernel
theorem dX2_countAt_25 : decode cX2_countAt 25 = .ok (.iload 6, 2) := by decide +kernel
theorem dX2_countAt_27 : decode cX2_countAt 27 = .ok (.aaload, 1) := by decide +kernel
theorem dX2_countAt_28 : decode cX2_countAt 28 = .ok (.astore 7, 2) := by decide +kernel
theorem dX2_countAt_30 : decode cX2_countAt 30 = .ok (.aload_n 0, 1) := by decide +kernel
theorem dX2_countAt_31 : decode cX2_countAt 31 = .ok (.aload 7, 2) := by decide +kernel
theorem dX2_countAt_33 : decode cX2_countAt 33 = .ok (.iload_n 1, 1) := by decide +kernel
theorem dX2_countAt_34 : decode cX2_countAt 34 = .ok (.aload_n 2, 1) := by decide +kernel
theorem dX2_countAt_35 : decode cX2_countAt 35 = .ok (.invokevirtual 87, 3) := by decide +kernel
theorem dX2_countAt_38 : decode cX2_countAt 38 = .ok (.ifCond .eq 6, 3) := by decide +kernel
theorem dX2_countAt_41 : decode cX2_countAt 41 = .ok (.iinc 3 1, 3) := by decide +kernel
theorem dX2_countAt_44 : decode cX2_countAt 44 = .ok (.iinc 6 1, 3) := by decide +kernel
theorem dX2_countAt_47 : decode cX2_countAt 47 = .ok (.goto (-31), 3) := by decide +kernel
theorem dX2_countAt_50 : decode cX2_countAt 50 = .ok (.iload_n 3, 1) := by decide +kernel
theorem dX2_countAt_51 : decode cX2_countAt 51 = .ok (.ireturn, 1) := by decide +kernel
set_option maxRecDepth 20000 in
theorem ggX2_firstFreeTurn_X2_isTurnTaken : GoodIn wsX2_firstFreeTurn wsX2_isTurnTaken := goodIn_r _ [6, 7, 8, 9, 10, 11, 12, 13, 14, 15, 16, 17, 18, 19, 20] (by decide +kernel) (by decide +kernel)
set_option maxRecDepth 20000 in
theorem gX2_firstFreeTurn_X2_isTurnTaken : GoodIn wsX2_firstFreeTurn (wsV RX2 164 RX2 yX2_isTurnTaken wsX2_isTurnTaken) := goodIn_app (goodIn_of _ (by decide +kernel)) ggX2_firstFreeTurn_X2_isTurnTaken
theorem dX2_firstFreeTurn_0 : decode cX2_firstFreeTurn 0 = .ok (.aload_n 0, 1) := by decide +kernel
theorem dX2_firstFreeTurn_1 : decode cX2_firstFreeTurn 1 = .ok (.getfield 21, 3) := by decide +kernel
theorem dX2_firstFreeTurn_4 : decode cX2_firstFreeTurn 4 = .ok (.iconst 5, 1) := by decide +kernel
theorem dX2_firstFreeTurn_5 : decode cX2_firstFreeTurn 5 = .ok (.idiv, 1) := by decide +kernel
theorem dX2_firstFreeTurn_6 : decode cX2_firstFreeTurn 6 = .ok (.iconst 1, 1) := by decide +kernel
theorem dX2_firstFreeTurn_7 : decode cX2_firstFreeTurn 7 = .ok (.iadd, 1) := by decide +kernel
theorem dX2_firstFreeTurn_8 : decode cX2_firstFreeTurn 8 = .ok (.iconst 5, 1) := by decide +kernel
theorem dX2_firstFreeTurn_9 : decode cX2_firstFreeTurn 9 = .ok (.imul, 1) := by decide +kernel
theorem dX2_firstFreeTurn_10 : decode cX2_firstFreeTurn 10 = .ok (.istore_n 2, 1) := by decide +kernel
theorem dX2_firstFreeTurn_11 : decode cX2_firstFreeTurn 11 = .ok (.iconst 0, 1) := by decide +kernel
theorem dX2_firstFreeTurn_12 : decode cX2_firstFreeTurn 12 = .ok (.istore_n 3, 1) := by decide +kernel
theorem dX2_firstFreeTurn_13 : decode cX2_firstFreeTurn 13 = .ok (.iload_n 3, 1) := by decide +kernel
theorem dX2_firstFreeTurn_14 : decode cX2_firstFreeTurn 14 = .ok (.bipush 8, 2) := by decide +kernel
theorem dX2_firstFreeTurn_16 : decode cX2_firstFreeTurn 16 = .ok (.if_icmp .ge 21, 3) := by decide +kernel
theorem dX2_firstFreeTurn_19 : decode cX2_firstFreeTurn 19 = .ok (.aload_n 0, 1) := by decide +kernel
theorem dX2_firstFreeTurn_20 : decode cX2_firstFreeTurn 20 = .ok (.aload_n 1, 1) := by decide +kernel
theorem dX2_firstFreeTurn_21 : decode cX2_firstFreeTurn 21 = .ok (.iload_n 2, 1) := by decide +kernel
theorem dX2_firstFreeTurn_22 : decode cX2_firstFreeTurn 22 = .ok (.invokevirtual 164, 3) := by decide +kernel
theorem dX2_firstFreeTurn_25 : decode cX2_firstFreeTurn 25 = .ok (.ifCond .eq 12, 3) := by decide +kernel
theorem dX2_firstFreeTurn_28 : decode cX2_firstFreeTurn 28 = .ok (.iinc 2 5, 3) := by decide +kernel
theorem dX2_firstFreeTurn_31 : decode cX2_firstFreeTurn 31 = .ok (.iinc 3 1, 3) := by decide +kernel
theorem dX2_firstFreeTurn_34 : decode cX2_firstFreeTurn 34 = .ok (.goto (-21), 3) := by decide +kernel
theorem dX2_firstFreeTurn_37 : decode cX2_firstFreeTurn 37 = .ok (.iload_n 2, 1) := by decide +kernel
theorem dX2_firstFreeTurn_38 : decode cX2_firstFreeTurn 38 = .ok (.ireturn, 1) := by decide +kernel
theorem dX2_isTurnTaken_0 : decode cX2_isTurnTaken 0 = .ok (.aload_n 0, 1) := by decide +kernel
theorem dX2_isTurnTaken_1 : decode cX2_isTurnTaken 1 = .ok (.getfield 17, 3) := by decide +kernel
theorem dX2_isTurnTaken_4 : decode cX2_isTurnTaken 4 = .ok (.astore_n 3, 1) := by decide +kernel
theorem dX2_isTurnTaken_5 : decode cX2_isTurnTaken 5 = .ok (.aload_n 3, 1) := by decide +kernel
theorem dX2_isTurnTaken_6 : decode cX2_isTurnTaken 6 = .ok (.arraylength, 1) := by decide +kernel
theorem dX2_isTurnTaken_7 : decode cX2_isTurnTaken 7 = .ok (.istore 4, 2) := by decide +kernel
theorem dX2_isTurnTaken_9 : decode cX2_isTurnTaken 9 = .ok (.iconst 0, 1) := by decide +kernel
theorem dX2_isTurnTaken_10 : decode cX2_isTurnTaken 10 = .ok (.istore 5, 2) := by decide +kernel
theorem dX2_isTurnTaken_12 : decode cX2_isTurnTaken 12 = .ok (.iload 5, 2) := by decide +kernel
theorem dX2_isTurnTaken_14 : decode cX2_isTurnTaken 14 = .ok (.iload 4, 2) := by decide +kernel
theorem dX2_isTurnTaken_16 : decode cX2_isTurnTaken 16 = .ok (.if_icmp .ge 35, 3) := by decide +kernel
theorem dX2_isTurnTaken_19 : decode cX2_isTurnTaken 19 = .ok (.aload_n 3, 1) := by decide +kernel
theorem dX2_isTurnTaken_20 : decode cX2_isTurnTaken 20 = .ok (.iload 5, 2) := by decide +kernel
theorem dX2_isTurnTaken_22 : decode cX2_isTurnTaken 22 = .ok (.aaload, 1) := by decide +kernel
theorem dX2_isTurnTaken_23 : decode cX2_isTurnTaken 23 = .ok (.astore 6, 2) := by decide +kernel
theorem dX2_isTurnTaken_25 : decode cX2_isTurnTaken 25 = .ok (.aload 6, 2) := by decide +kernel
theorem dX2_isTurnTaken_27 : decode cX2_isTurnTaken 27 = .ok (.getfield 106, 3) := by decide +kernel
theorem dX2_isTurnTaken_30 : decode cX2_isTurnTaken 30 = .ok (.aload_n 1, 1) := by decide +kernel
theorem dX2_isTurnTaken_31 : decode cX2_isTurnTaken 31 = .ok (.if_acmp .ne 14, 3) := by decide +kernel
theorem dX2_isTurnTaken_34 : decode cX2_isTurnTaken 34 = .ok (.aload 6, 2) := by decide +kernel
theorem dX2_isTurnTaken_36 : decode cX2_isTurnTaken 36 = .ok (.getfield 98, 3) := by decide +kernel
theorem dX2_isTurnTaken_39 : decode cX2_isTurnTaken 39 = .ok (.iload_n 2, 1) := by decide +kernel
theorem dX2_isTurnTaken_40 : decode cX2_isTurnTaken 40 = .ok (.if_icmp .ne 5, 3) := by decide +kernel
theorem dX2_isTurnTaken_43 : decode cX2_isTurnTaken 43 = .ok (.iconst 1, 1) := by decide +kernel
theorem dX2_isTurnTaken_44 : decode cX2_isTurnTaken 44 = .ok (.ireturn, 1) := by decide +kernel
theorem dX2_isTurnTaken_45 : decode cX2_isTurnTaken 45 = .ok (.iinc 5 1, 3) := by decide +kernel
theorem dX2_isTurnTaken_48 : decode cX2_isTurnTaken 48 = .ok (.goto (-36), 3) := by decide +kernel
theorem dX2_isTurnTaken_51 : decode cX2_isTurnTaken 51 = .ok (.iconst 0, 1) := by decide +kernel
theorem dX2_isTurnTaken_52 : decode cX2_isTurnTaken 52 = .ok (.ireturn, 1) := by decide +kernel
set_option maxRecDepth 20000 in
theorem ggX2_passMinute_X2_endVisits : GoodIn wsX2_passMinute wsX2_endVisits := goodIn_r _ [6, 7, 1, 8, 9, 10, 5, 11, 97, 98, 99, 100, 101, 102, 103, 104, 105, 106, 107, 108, 109] (by decide +kernel) (by decide +kernel)
set_option maxRecDepth 20000 in
theorem gX2_passMinute_X2_endVisits : GoodIn wsX2_passMinute (wsV RX2 168 RX2 yX2_endVisits wsX2_endVisits) := goodIn_app (goodIn_of _ (by decide +kernel)) ggX2_passMinute_X2_endVisits
set_option maxRecDepth 20000 in
theorem ggX2_passMinute_X2_takeTurns : GoodIn wsX2_passMinute wsX2_takeTurns := goodIn_r _ [15, 7, 1, 16, 17, 18, 5, 19, 20, 21, 22, 23, 24, 25, 26, 27, 8, 9, 10, 11, 28, 29, 30, 31, 32, 33, 34, 35, 36, 37, 38, 39, 97, 98, 99, 100, 101, 102, 103, 104, 105, 106, 107, 108, 109, 110, 111, 112, 113, 114, 115] (by decide +kernel) (by decide +kernel)
set_option maxRecDepth 20000 in
theorem gX2_passMinute_X2_takeTurns : GoodIn wsX2_passMinute (wsV RX2 171 RX2 yX2_takeTurns wsX2_takeTurns) := goodIn_app (goodIn_of _ (by decide +kernel)) ggX2_passMinute_X2_takeTurns
set_option maxRecDepth 20000 in
theorem ggX2_passMinute_X2_followPlans : GoodIn wsX2_passMinute wsX2_followPlans := goodIn_r _ [43, 7, 44, 45, 46, 5, 47, 48, 49, 50, 51, 52, 53, 54, 55, 56, 57, 58, 59, 60, 61, 62, 63, 64, 65, 66, 67, 68, 69, 70, 71, 72, 73, 74, 75, 76, 77, 78, 79, 32, 33, 34, 35, 36, 37, 38, 39, 97, 98, 99, 100, 101, 102, 103, 104, 105, 106, 107, 108, 109, 110, 111, 112, 113, 114, 115, 116, 117, 118] (by decide +kernel) (by decide +kernel)
set_option maxRecDepth 20000 in
theorem gX2_passMinute_X2_followPlans : GoodIn wsX2_passMinute (wsV RX2 174 RX2 yX2_followPlans wsX2_followPlans) := goodIn_app (goodIn_of _ (by decide +kernel)) ggX2_passMinute_X2_followPlans
set_option maxRecDepth 20000 in
theorem ggX2_passMinute_X2_letIn : GoodIn wsX2_passMinute wsX2_letIn := goodIn_r _ [83, 84, 85, 86, 87, 5, 88, 76, 77, 78, 79, 7, 32, 33, 34, 35, 89, 90, 91, 92, 93, 94, 95, 96, 1, 24, 25, 26, 27, 20, 21, 22, 23, 8, 9, 10, 11, 97, 98, 99, 110, 111, 112, 113, 114, 115, 100, 101, 102, 103, 104, 105, 106, 107, 108, 109] (by decide +kernel) (by decide +kernel)
set_option maxRecDepth 20000 in
theorem gX2_passMinute_X2_letIn : GoodIn wsX2_passMinute (wsV RX2 177 RX2 yX2_letIn wsX2_letIn) := goodIn_app (goodIn_of _ (by decide +kernel)) ggX2_passMinute_X2_letIn
theorem dX2_passMinute_0 : decode cX2_passMinute 0 = .ok (.aload_n 0, 1) := by decide +kernel
theorem dX2_passMinute_1 : decode cX2_passMinute 1 = .ok (.dup, 1) := by decide +kernel
theorem dX2_passMinute_2 : decode cX2_passMinute 2 = .ok (.getfield 21, 3) := by decide +kernel
theorem dX2_passMinute_5 : decode cX2_passMinute 5 = .ok (.iconst 1, 1) := by decide +kernel
theorem dX2_passMinute_6 : decode cX2_passMinute 6 = .ok (.iadd, 1) := by decide +kernel
theorem dX2_passMinute_7 : decode cX2_passMinute 7 = .ok (.putfield 21, 3) := by decide +kernel
theorem dX2_passMinute_10 : decode cX2_passMinute 10 = .ok (.aload_n 0, 1) := by decide +kernel
theorem dX2_passMinute_11 : decode cX2_passMinute 11 = .ok (.invokevirtual 168, 3) := by decide +kernel
theorem dX2_passMinute_14 : decode cX2_passMinute 14 = .ok (.aload_n 0, 1) := by decide +kernel
theorem dX2_passMinute_15 : decode cX2_passMinute 15 = .ok (.invokevirtual 171, 3) := by decide +kernel
theorem dX2_passMinute_18 : decode cX2_passMinute 18 = .ok (.aload_n 0, 1) := by decide +kernel
theorem dX2_passMinute_19 : decode cX2_passMinute 19 = .ok (.invokevirtual 174, 3) := by decide +kernel
theorem dX2_passMinute_22 : decode cX2_passMinute 22 = .ok (.aload_n 0, 1) := by decide +kernel
theorem dX2_passMinute_23 : decode cX2_passMinute 23 = .ok (.invokevirtual 177, 3) := by decide +kernel
theorem dX2_passMinute_26 : decode cX2_passMinute 26 = .ok (.return_, 1) := by decide +kernel
set_option maxRecDepth 20000 in
theorem ggX2_endVisits_X2_becomeIdle : GoodIn wsX2_endVisits wsX2_becomeIdle := goodIn_r _ [7, 11, 12, 13, 14, 15, 16, 17, 18, 19, 20] (by decide +kernel) (by decide +kernel)
set_option maxRecDepth 20000 in
theorem gX2_endVisits_X2_becomeIdle : GoodIn wsX2_endVisits (wsV RX2 183 RX2 yX2_becomeIdle wsX2_becomeIdle) := goodIn_app (goodIn_of _ (by decide +kernel)) ggX2_endVisits_X2_becomeIdle
theorem dX2_endVisits_0 : decode cX2_endVisits 0 = .ok (.aload_n 0, 1) := by decide +kernel
theorem dX2_endVisits_1 : decode cX2_endVisits 1 = .ok (.getfield 17, 3) := by decide +kernel
theorem dX2_endVisits_4 : decode cX2_endVisits 4 = .ok (.astore_n 1, 1) := by decide +kernel
theorem dX2_endVisits_5 : decode cX2_endVisits 5 = .ok (.aload_n 1, 1) := by decide +kernel
theorem dX2_endVisits_6 : decode cX2_endVisits 6 = .ok (.arraylength, 1) := by decide +kernel
theorem dX2_endVisits_7 : decode cX2_endVisits 7 = .ok (.istore_n 2, 1) := by decide +kernel
theorem dX2_endVisits_8 : decode cX2_endVisits 8 = .ok (.iconst 0, 1) := by decide +kernel
theorem dX2_endVisits_9 : decode cX2_endVisits 9 = .ok (.istore_n 3, 1) := by decide +kernel
theorem dX2_endVisits_10 : decode cX2_endVisits 10 = .ok (.iload_n 3, 1) := by decide +kernel
theorem dX2_endVisits_11 : decode cX2_endVisits 11 = .ok (.iload_n 2, 1) := by decide +kernel
theorem dX2_endVisits_12 : decode cX2_endVisits 12 = .ok (.if_icmp .ge 58, 3) := by decide +kernel
theorem dX2_endVisits_15 : decode cX2_endVisits 15 = .ok (.aload_n 1, 1) := by decide +kernel
theorem dX2_endVisits_16 : decode cX2_endVisits 16 = .ok (.iload_n 3, 1) := by decide +kernel
theorem dX2_endVisits_17 : decode cX2_endVisits 17 = .ok (.aaload, 1) := by decide +kernel
theorem dX2_endVisits_18 : decode cX2_endVisits 18 = .ok (.astore 4, 2) := by decide +kernel
theorem dX2_endVisits_20 : decode cX2_endVisits 20 = .ok (.aload 4, 2) := by decide +kernel
theorem dX2_endVisits_22 : decode cX2_endVisits 22 = .ok (.getfield 138, 3) := by decide +kernel
theorem dX2_endVisits_25 : decode cX2_endVisits 25 = .ok (.iconst 2, 1) := by decide +kernel
theorem dX2_endVisits_26 : decode cX2_endVisits 26 = .ok (.if_icmp .ne 38, 3) := by decide +kernel
theorem dX2_endVisits_29 : decode cX2_endVisits 29 = .ok (.aload 4, 2) := by decide +kernel
theorem dX2_endVisits_31 : decode cX2_endVisits 31 = .ok (.getfield 180, 3) := by decide +kernel
theorem dX2_endVisits_34 : decode cX2_endVisits 34 = .ok (.aload_n 0, 1) := by decide +kernel
theorem dX2_endVisits_35 : decode cX2_endVisits 35 = .ok (.getfield 21, 3) := by decide +kernel
theorem dX2_endVisits_38 : decode cX2_endVisits 38 = .ok (.if_icmp .gt 26, 3) := by decide +kernel
theorem dX2_endVisits_41 : decode cX2_endVisits 41 = .ok (.aload 4, 2) := by decide +kernel
theorem dX2_endVisits_43 : decode cX2_endVisits 43 = .ok (.dup, 1) := by decide +kernel
theorem dX2_endVisits_44 : decode cX2_endVisits 44 = .ok (.getfield 147, 3) := by decide +kernel
theorem dX2_endVisits_47 : decode cX2_endVisits 47 = .ok (.iconst 1, 1) := by decide +kernel
theorem dX2_endVisits_48 : decode cX2_endVisits 48 = .ok (.aload 4, 2) := by decide +kernel
theorem dX2_endVisits_50 : decode cX2_endVisits 50 = .ok (.getfield 141, 3) := by decide +kernel
theorem dX2_endVisits_53 : decode cX2_endVisits 53 = .ok (.ishl, 1) := by decide +kernel
theorem dX2_endVisits_54 : decode cX2_endVisits 54 = .ok (.ior, 1) := by decide +kernel
theorem dX2_endVisits_55 : decode cX2_endVisits 55 = .ok (.putfield 147, 3) := by decide +kernel
theorem dX2_endVisits_58 : decode cX2_endVisits 58 = .ok (.aload_n 0, 1) := by decide +kernel
theorem dX2_endVisits_59 : decode cX2_endVisits 59 = .ok (.aload 4, 2) := by decide +kernel
theorem dX2_endVisits_61 : decode cX2_endVisits 61 = .ok (.invokevirtual 183, 3) := by decide +kernel
theorem dX2_endVisits_64 : decode cX2_endVisits 64 = .ok (.iinc 3 1, 3) := by decide +kernel
theorem dX2_endVisits_67 : decode cX2_endVisits 67 = .ok (.goto (-57), 3) := by decide +kernel
theorem dX2_endVisits_70 : decode cX2_endVisits 70 = .ok (.return_, 1) := by decide +kernel
set_option maxRecDepth 20000 in
theorem ggX2_takeTurns_X2_takeTurn : GoodIn wsX2_takeTurns wsX2_takeTurn := goodIn_r _ [7, 8, 9, 10, 6, 11, 12, 13, 14, 15, 1, 16, 17, 18, 19, 20, 21, 22, 23, 24, 25, 26, 27, 28, 29, 30, 31, 35, 36, 37, 38, 39, 40, 41, 42, 43, 44, 45, 46, 47, 48, 49, 50, 32, 33, 34] (by decide +kernel) (by decide +kernel)
set_option maxRecDepth 20000 in
theorem gX2_takeTurns_X2_takeTurn : GoodIn wsX2_takeTurns (wsV RX2 186 RX2 yX2_takeTurn wsX2_takeTurn) := goodIn_app (goodIn_of _ (by decide +kernel)) ggX2_takeTurns_X2_takeTurn
theorem dX2_takeTurns_0 : decode cX2_takeTurns 0 = .ok (.aload_n 0, 1) := by decide +kernel
theorem dX2_takeTurns_1 : decode cX2_takeTurns 1 = .ok (.getfield 17, 3) := by decide +kernel
theorem dX2_takeTurns_4 : decode cX2_takeTurns 4 = .ok (.astore_n 1, 1) := by decide +kernel
theorem dX2_takeTurns_5 : decode cX2_takeTurns 5 = .ok (.aload_n 1, 1) := by decide +kernel
theorem dX2_takeTurns_6 : decode cX2_takeTurns 6 = .ok (.arraylength, 1) := by decide +kernel
theorem dX2_takeTurns_7 : decode cX2_takeTurns 7 = .ok (.istore_n 2, 1) := by decide +kernel
theorem dX2_takeTurns_8 : decode cX2_takeTurns 8 = .ok (.iconst 0, 1) := by decide +kernel
theorem dX2_takeTurns_9 : decode cX2_takeTurns 9 = .ok (.istore_n 3, 1) := by decide +kernel
theorem dX2_takeTurns_10 : decode cX2_takeTurns 10 = .ok (.iload_n 3, 1) := by decide +kernel
theorem dX2_takeTurns_11 : decode cX2_takeTurns 11 = .ok (.iload_n 2, 1) := by decide +kernel
theorem dX2_takeTurns_12 : decode cX2_takeTurns 12 = .ok (.if_icmp .ge 32, 3) := by decide +kernel
theorem dX2_takeTurns_15 : decode cX2_takeTurns 15 = .ok (.aload_n 1, 1) := by decide +kernel
theorem dX2_takeTurns_16 : decode cX2_takeTurns 16 = .ok (.iload_n 3, 1) := by decide +kernel
theorem dX2_takeTurns_17 : decode cX2_takeTurns 17 = .ok (.aaload, 1) := by decide +kernel
theorem dX2_takeTurns_18 : decode cX2_takeTurns 18 = .ok (.astore 4, 2) := by decide +kernel
theorem dX2_takeTurns_20 : decode cX2_takeTurns 20 = .ok (.aload 4, 2) := by decide +kernel
theorem dX2_takeTurns_22 : decode cX2_takeTurns 22 = .ok (.getfield 98, 3) := by decide +kernel
theorem dX2_takeTurns_25 : decode cX2_takeTurns 25 = .ok (.aload_n 0, 1) := by decide +kernel
theorem dX2_takeTurns_26 : decode cX2_takeTurns 26 = .ok (.getfield 21, 3) := by decide +kernel
theorem dX2_takeTurns_29 : decode cX2_takeTurns 29 = .ok (.if_icmp .ne 9, 3) := by decide +kernel
theorem dX2_takeTurns_32 : decode cX2_takeTurns 32 = .ok (.aload_n 0, 1) := by decide +kernel
theorem dX2_takeTurns_33 : decode cX2_takeTurns 33 = .ok (.aload 4, 2) := by decide +kernel
theorem dX2_takeTurns_35 : decode cX2_takeTurns 35 = .ok (.invokevirtual 186, 3) := by decide +kernel
theorem dX2_takeTurns_38 : decode cX2_takeTurns 38 = .ok (.iinc 3 1, 3) := by decide +kernel
theorem dX2_takeTurns_41 : decode cX2_takeTurns 41 = .ok (.goto (-31), 3) := by decide +kernel
theorem dX2_takeTurns_44 : decode cX2_takeTurns 44 = .ok (.return_, 1) := by decide +kernel
set_option maxRecDepth 20000 in
theorem ggX2_takeTurn_X2_loseTurn : GoodIn wsX2_takeTurn wsX2_loseTurn := goodIn_r _ [5, 27, 28, 29, 30, 31, 32, 33, 34, 35, 36] (by decide +kernel) (by decide +kernel)
set_option maxRecDepth 20000 in
theorem gX2_takeTurn_X2_loseTurn : GoodIn wsX2_takeTurn (wsV RX2 189 RX2 yX2_loseTurn wsX2_loseTurn) := goodIn_app (goodIn_of _ (by decide +kernel)) ggX2_takeTurn_X2_loseTurn
set_option maxRecDepth 20000 in
theorem ggX2_takeTurn_X2_leaveQueue : GoodIn wsX2_takeTurn wsX2_leaveQueue := goodIn_r _ [9, 10, 1, 2, 3, 4, 5, 11, 12, 13, 14, 43, 44, 45, 27, 28, 29, 30, 31, 32, 33, 34, 35, 36] (by decide +kernel) (by decide +kernel)
set_option maxRecDepth 20000 in
theorem gX2_takeTurn_X2_leaveQueue : GoodIn wsX2_takeTurn (wsV RX2 94 RX2 yX2_leaveQueue wsX2_leaveQueue) := goodIn_app (goodIn_of _ (by decide +kernel)) ggX2_takeTurn_X2_leaveQueue
set_option maxRecDepth 20000 in
theorem ggX2_takeTurn_X2_countByTurn : GoodIn wsX2_takeTurn wsX2_countByTurn := goodIn_r _ [18, 10, 19, 20, 21, 4, 22, 43, 44, 45, 27, 28, 29, 30, 31, 32, 33, 34, 35, 36, 37, 38, 39, 40, 41, 42] (by decide +kernel) (by decide +kernel)
set_option maxRecDepth 20000 in
theorem gX2_takeTurn_X2_countByTurn : GoodIn wsX2_takeTurn (wsV RX2 192 RX2 yX2_countByTurn wsX2_countByTurn) := goodIn_app (goodIn_of _ (by decide +kernel)) ggX2_takeTurn_X2_countByTurn
set_option maxRecDepth 20000 in
theorem ggX2_takeTurn_X2_joinQueue : GoodIn wsX2_takeTurn wsX2_joinQueue := goodIn_r _ [26, 10, 19, 20, 21, 4, 22, 43, 44, 45, 27, 28, 29, 30, 31, 32, 33, 34, 35, 36, 37, 38, 39, 40, 41, 42] (by decide +kernel) (by decide +kernel)
set_option maxRecDepth 20000 in
theorem gX2_takeTurn_X2_joinQueue : GoodIn wsX2_takeTurn (wsV RX2 195 RX2 yX2_joinQueue wsX2_joinQueue) := goodIn_app (goodIn_of _ (by decide +kernel)) ggX2_takeTurn_X2_joinQueue
theorem dX2_takeTurn_0 : decode cX2_takeTurn 0 = .ok (.aload_n 1, 1) := by decide +kernel
theorem dX2_takeTurn_1 : decode cX2_takeTurn 1 = .ok (.getfield 106, 3) := by decide +kernel
theorem dX2_takeTurn_4 : decode cX2_takeTurn 4 = .ok (.astore_n 2, 1) := by decide +kernel
theorem dX2_takeTurn_5 : decode cX2_takeTurn 5 = .ok (.aload_n 1, 1) := by decide +kernel
theorem dX2_takeTurn_6 : decode cX2_takeTurn 6 = .ok (.getfield 138, 3) := by decide +kernel
theorem dX2_takeTurn_9 : decode cX2_takeTurn 9 = .ok (.iconst 2, 1) := by decide +kernel
theorem dX2_takeTurn_10 : decode cX2_takeTurn 10 = .ok (.if_icmp .eq 14, 3) := by decide +kernel
theorem dX2_takeTurn_13 : decode cX2_takeTurn 13 = .ok (.aload_n 2, 1) := by decide +kernel
theorem dX2_takeTurn_14 : decode cX2_takeTurn 14 = .ok (.ifnull 10, 3) := by decide +kernel
theorem dX2_takeTurn_17 : decode cX2_takeTurn 17 = .ok (.aload_n 2, 1) := by decide +kernel
theorem dX2_takeTurn_18 : decode cX2_takeTurn 18 = .ok (.getfield 46, 3) := by decide +kernel
theorem dX2_takeTurn_21 : decode cX2_takeTurn 21 = .ok (.ifCond .ne 9, 3) := by decide +kernel
theorem dX2_takeTurn_24 : decode cX2_takeTurn 24 = .ok (.aload_n 0, 1) := by decide +kernel
theorem dX2_takeTurn_25 : decode cX2_takeTurn 25 = .ok (.aload_n 1, 1) := by decide +kernel
theorem dX2_takeTurn_26 : decode cX2_takeTurn 26 = .ok (.invokevirtual 189, 3) := by decide +kernel
theorem dX2_takeTurn_29 : decode cX2_takeTurn 29 = .ok (.return_, 1) := by decide +kernel
theorem dX2_takeTurn_30 : decode cX2_takeTurn 30 = .ok (.aload_n 1, 1) := by decide +kernel
theorem dX2_takeTurn_31 : decode cX2_takeTurn 31 = .ok (.getfield 138, 3) := by decide +kernel
theorem dX2_takeTurn_34 : decode cX2_takeTurn 34 = .ok (.iconst 1, 1) := by decide +kernel
theorem dX2_takeTurn_35 : decode cX2_takeTurn 35 = .ok (.if_icmp .ne 8, 3) := by decide +kernel
theorem dX2_takeTurn_38 : decode cX2_takeTurn 38 = .ok (.aload_n 0, 1) := by decide +kernel
theorem dX2_takeTurn_39 : decode cX2_takeTurn 39 = .ok (.aload_n 1, 1) := by decide +kernel
theorem dX2_takeTurn_40 : decode cX2_takeTurn 40 = .ok (.invokevirtual 94, 3) := by decide +kernel
theorem dX2_takeTurn_43 : decode cX2_takeTurn 43 = .ok (.aload_n 0, 1) := by decide +kernel
theorem dX2_takeTurn_44 : decode cX2_takeTurn 44 = .ok (.aload_n 1, 1) := by decide +kernel
theorem dX2_takeTurn_45 : decode cX2_takeTurn 45 = .ok (.aload_n 2, 1) := by decide +kernel
theorem dX2_takeTurn_46 : decode cX2_takeTurn 46 = .ok (.aload_n 0, 1) := by decide +kernel
theorem dX2_takeTurn_47 : decode cX2_takeTurn 47 = .ok (.aload_n 2, 1) := by decide +kernel
theorem dX2_takeTurn_48 : decode cX2_takeTurn 48 = .ok (.invokevirtual 192, 3) := by decide +kernel
theorem dX2_takeTurn_51 : decode cX2_takeTurn 51 = .ok (.invokevirtual 195, 3) := by decide +kernel
theorem dX2_takeTurn_54 : decode cX2_takeTurn 54 = .ok (.aload_n 1, 1) := by decide +kernel
theorem dX2_takeTurn_55 : decode cX2_takeTurn 55 = .ok (.iconst 1, 1) := by decide +kernel
theorem dX2_takeTurn_56 : decode cX2_takeTurn 56 = .ok (.putfield 91, 3) := by decide +kernel
theorem dX2_takeTurn_59 : decode cX2_takeTurn 59 = .ok (.return_, 1) := by decide +kernel
set_option maxRecDepth 20000 in
theorem ggX2_followPlans_X2_followPlan : GoodIn wsX2_followPlans wsX2_followPlan := goodIn_r _ [6, 7, 8, 9, 10, 11, 12, 13, 14, 15, 16, 17, 18, 19, 20, 21, 22, 23, 24, 25, 26, 27, 28, 29, 30, 31, 32, 33, 5, 34, 35, 36, 37, 38, 1, 39, 40, 41, 42, 43, 44, 45, 46, 50, 51, 52, 53, 54, 55, 56, 57, 58, 59, 60, 61, 62, 63, 64, 65, 66, 67, 68, 47, 48, 49] (by decide +kernel) (by decide +kernel)
set_option maxRecDepth 20000 in
theorem gX2_followPlans_X2_followPlan : GoodIn wsX2_followPlans (wsV RX2 199 RX2 yX2_followPlan wsX2_followPlan) := goodIn_app (goodIn_of _ (by decide +kernel)) ggX2_followPlans_X2_followPlan
theorem dX2_followPlans_0 : decode cX2_followPlans 0 = .ok (.aload_n 0, 1) := by decide +kernel
theorem dX2_followPlans_1 : decode cX2_followPlans 1 = .ok (.getfield 17, 3) := by decide +kernel
theorem dX2_followPlans_4 : decode cX2_followPlans 4 = .ok (.astore_n 1, 1) := by decide +kernel
theorem dX2_followPlans_5 : decode cX2_followPlans 5 = .ok (.aload_n 1, 1) := by decide +kernel
theorem dX2_followPlans_6 : decode cX2_followPlans 6 = .ok (.arraylength, 1) := by decide +kernel
theorem dX2_followPlans_7 : decode cX2_followPlans 7 = .ok (.istore_n 2, 1) := by decide +kernel
theorem dX2_followPlans_8 : decode cX2_followPlans 8 = .ok (.iconst 0, 1) := by decide +kernel
theorem dX2_followPlans_9 : decode cX2_followPlans 9 = .ok (.istore_n 3, 1) := by decide +kernel
theorem dX2_followPlans_10 : decode cX2_followPlans 10 = .ok (.iload_n 3, 1) := by decide +kernel
theorem dX2_followPlans_11 : decode cX2_followPlans 11 = .ok (.iload_n 2, 1) := by decide +kernel
theorem dX2_followPlans_12 : decode cX2_followPlans 12 = .ok (.if_icmp .ge 28, 3) := by decide +kernel
theorem dX2_followPlans_15 : decode cX2_followPlans 15 = .ok (.aload_n 1, 1) := by decide +kernel
theorem dX2_followPlans_16 : decode cX2_followPlans 16 = .ok (.iload_n 3, 1) := by decide +kernel
theorem dX2_followPlans_17 : decode cX2_followPlans 17 = .ok (.aaload, 1) := by decide +kernel
theorem dX2_followPlans_18 : decode cX2_followPlans 18 = .ok (.astore 4, 2) := by decide +kernel
theorem dX2_followPlans_20 : decode cX2_followPlans 20 = .ok (.aload 4, 2) := by decide +kernel
theorem dX2_followPlans_22 : decode cX2_followPlans 22 = .ok (.getfield 138, 3) := by decide +kernel
theorem dX2_followPlans_25 : decode cX2_followPlans 25 = .ok (.ifCond .ne 9, 3) := by decide +kernel
theorem dX2_followPlans_28 : decode cX2_followPlans 28 = .ok (.aload_n 0, 1) := by decide +kernel
theorem dX2_followPlans_29 : decode cX2_followPlans 29 = .ok (.aload 4, 2) := by decide +kernel
theorem dX2_followPlans_31 : decode cX2_followPlans 31 = .ok (.invokevirtual 199, 3) := by decide +kernel
theorem dX2_followPlans_34 : decode cX2_followPlans 34 = .ok (.iinc 3 1, 3) := by decide +kernel
theorem dX2_followPlans_37 : decode cX2_followPlans 37 = .ok (.goto (-27), 3) := by decide +kernel
theorem dX2_followPlans_40 : decode cX2_followPlans 40 = .ok (.return_, 1) := by decide +kernel
set_option maxRecDepth 20000 in
theorem ggX2_followPlan_Jx4a65c_size_8abf5 : GoodIn wsX2_followPlan wsJx4a65c_size_8abf5 := goodIn_r _ [6, 7, 59, 60, 61] (by decide +kernel) (by decide +kernel)
set_option maxRecDepth 20000 in
theorem gX2_followPlan_Jx4a65c_size_8abf5 : GoodIn wsX2_followPlan (wsV RX2 77 RJx4a65c yJx4a65c_size_8abf5 wsJx4a65c_size_8abf5) := goodIn_app (goodIn_of _ (by decide +kernel)) ggX2_followPlan_Jx4a65c_size_8abf5
set_option maxRecDepth 20000 in
theorem ggX2_followPlan_Jx4a65c_get_915e3 : GoodIn wsX2_followPlan wsJx4a65c_get_915e3 := goodIn_r _ [11, 7, 12, 13, 14, 15, 16, 17, 18, 19, 20, 21, 22, 5, 23, 24, 59, 60, 61] (by decide +kernel) (by decide +kernel)
set_option maxRecDepth 20000 in
theorem gX2_followPlan_Jx4a65c_get_915e3 : GoodIn wsX2_followPlan (wsV RX2 161 RJx4a65c yJx4a65c_get_915e3 wsJx4a65c_get_915e3) := goodIn_app (goodIn_of _ (by decide +kernel)) ggX2_followPlan_Jx4a65c_get_915e3
set_option maxRecDepth 20000 in
theorem ggX2_followPlan_X2_hasStamp : GoodIn wsX2_followPlan wsX2_hasStamp := goodIn_r _ [29, 43, 44, 45, 46, 47, 48, 49, 50, 51, 52, 53, 54, 55, 56, 57, 58] (by decide +kernel) (by decide +kernel)
set_option maxRecDepth 20000 in
theorem gX2_followPlan_X2_hasStamp : GoodIn wsX2_followPlan (wsV RX2 117 RX2 yX2_hasStamp wsX2_hasStamp) := goodIn_app (goodIn_of _ (by decide +kernel)) ggX2_followPlan_X2_hasStamp
set_option maxRecDepth 20000 in
theorem ggX2_followPlan_X2_countAt : GoodIn wsX2_followPlan wsX2_countAt := goodIn_r _ [33, 34, 35, 36, 37, 28, 38, 62, 63, 64, 43, 44, 45, 46, 47, 48, 49, 50, 51, 52, 53, 54, 55, 56, 57, 58] (by decide +kernel) (by decide +kernel)
set_option maxRecDepth 20000 in
theorem gX2_followPlan_X2_countAt : GoodIn wsX2_followPlan (wsV RX2 150 RX2 yX2_countAt wsX2_countAt) := goodIn_app (goodIn_of _ (by decide +kernel)) ggX2_followPlan_X2_countAt
set_option maxRecDepth 20000 in
theorem ggX2_followPlan_X2_joinQueue : GoodIn wsX2_followPlan wsX2_joinQueue := goodIn_r _ [42, 34, 35, 36, 37, 28, 38, 62, 63, 64, 43, 44, 45, 46, 47, 48, 49, 50, 51, 52, 53, 54, 55, 56, 57, 58] (by decide +kernel) (by decide +kernel)
set_option maxRecDepth 20000 in
theorem gX2_followPlan_X2_joinQueue : GoodIn wsX2_followPlan (wsV RX2 195 RX2 yX2_joinQueue wsX2_joinQueue) := goodIn_app (goodIn_of _ (by decide +kernel)) ggX2_followPlan_X2_joinQueue
theorem dX2_followPlan_0 : decode cX2_followPlan 0 = .ok (.iconst 0, 1) := by decide +kernel
theorem dX2_followPlan_1 : decode cX2_followPlan 1 = .ok (.istore_n 2, 1) := by decide +kernel
theorem dX2_followPlan_2 : decode cX2_followPlan 2 = .ok (.iload_n 2, 1) := by decide +kernel
theorem dX2_followPlan_3 : decode cX2_followPlan 3 = .ok (.aload_n 1, 1) := by decide +kernel
theorem dX2_followPlan_4 : decode cX2_followPlan 4 = .ok (.getfield 67, 3) := by decide +kernel
theorem dX2_followPlan_7 : decode cX2_followPlan 7 = .ok (.invokevirtual 77, 3) := by decide +kernel
theorem dX2_followPlan_10 : decode cX2_followPlan 10 = .ok (.if_icmp .ge 50, 3) := by decide +kernel
theorem dX2_followPlan_13 : decode cX2_followPlan 13 = .ok (.aload_n 1, 1) := by decide +kernel
theorem dX2_followPlan_14 : decode cX2_followPlan 14 = .ok (.getfield 67, 3) := by decide +kernel
theorem dX2_followPlan_17 : decode cX2_followPlan 17 = .ok (.iload_n 2, 1) := by decide +kernel
theorem dX2_followPlan_18 : decode cX2_followPlan 18 = .ok (.invokevirtual 161, 3) := by decide +kernel
theorem dX2_followPlan_21 : decode cX2_followPlan 21 = .ok (.checkcast 9, 3) := by decide +kernel
theorem dX2_followPlan_24 : decode cX2_followPlan 24 = .ok (.astore_n 3, 1) := by decide +kernel
theorem dX2_followPlan_25 : decode cX2_followPlan 25 = .ok (.aload_n 3, 1) := by decide +kernel
theorem dX2_followPlan_26 : decode cX2_followPlan 26 = .ok (.getfield 46, 3) := by decide +kernel
theorem dX2_followPlan_29 : decode cX2_followPlan 29 = .ok (.ifCond .eq 25, 3) := by decide +kernel
theorem dX2_followPlan_32 : decode cX2_followPlan 32 = .ok (.aload_n 0, 1) := by decide +kernel
theorem dX2_followPlan_33 : decode cX2_followPlan 33 = .ok (.aload_n 1, 1) := by decide +kernel
theorem dX2_followPlan_34 : decode cX2_followPlan 34 = .ok (.aload_n 3, 1) := by decide +kernel
theorem dX2_followPlan_35 : decode cX2_followPlan 35 = .ok (.invokevirtual 117, 3) := by decide +kernel
theorem dX2_followPlan_38 : decode cX2_followPlan 38 = .ok (.ifCond .ne 16, 3) := by decide +kernel
theorem dX2_followPlan_41 : decode cX2_followPlan 41 = .ok (.aload_n 0, 1) := by decide +kernel
theorem dX2_followPlan_42 : decode cX2_followPlan 42 = .ok (.aload_n 1, 1) := by decide +kernel
theorem dX2_followPlan_43 : decode cX2_followPlan 43 = .ok (.aload_n 3, 1) := by decide +kernel
theorem dX2_followPlan_44 : decode cX2_followPlan 44 = .ok (.aload_n 0, 1) := by decide +kernel
theorem dX2_followPlan_45 : decode cX2_followPlan 45 = .ok (.iconst 1, 1) := by decide +kernel
theorem dX2_followPlan_46 : decode cX2_followPlan 46 = .ok (.aload_n 3, 1) := by decide +kernel
theorem dX2_followPlan_47 : decode cX2_followPlan 47 = .ok (.invokevirtual 150, 3) := by decide +kernel
theorem dX2_followPlan_50 : decode cX2_followPlan 50 = .ok (.invokevirtual 195, 3) := by decide +kernel
theorem dX2_followPlan_53 : decode cX2_followPlan 53 = .ok (.return_, 1) := by decide +kernel
theorem dX2_followPlan_54 : decode cX2_followPlan 54 = .ok (.iinc 2 1, 3) := by decide +kernel
theorem dX2_followPlan_57 : decode cX2_followPlan 57 = .ok (.goto (-55), 3) := by decide +kernel
theorem dX2_followPlan_60 : decode cX2_followPlan 60 = .ok (.return_, 1) := by decide +kernel
set_option maxRecDepth 20000 in
theorem ggX2_letIn_X2_fillRoom : GoodIn wsX2_letIn wsX2_fillRoom := goodIn_r _ [6, 7, 8, 9, 5, 10, 11, 12, 13, 14, 15, 16, 17, 18, 19, 20, 21, 22, 23, 24, 25, 26, 27, 28, 29, 30, 31, 32, 33, 34, 35, 36, 40, 41, 42, 43, 44, 45, 37, 38, 39, 46, 47, 48, 49, 50, 51, 52, 53, 54, 55] (by decide +kernel) (by decide +kernel)
set_option maxRecDepth 20000 in
theorem gX2_letIn_X2_fillRoom : GoodIn wsX2_letIn (wsV RX2 202 RX2 yX2_fillRoom wsX2_fillRoom) := goodIn_app (goodIn_of _ (by decide +kernel)) ggX2_letIn_X2_fillRoom
theorem dX2_letIn_0 : decode cX2_letIn 0 = .ok (.aload_n 0, 1) := by decide +kernel
theorem dX2_letIn_1 : decode cX2_letIn 1 = .ok (.getfield 11, 3) := by decide +kernel
theorem dX2_letIn_4 : decode cX2_letIn 4 = .ok (.astore_n 1, 1) := by decide +kernel
theorem dX2_letIn_5 : decode cX2_letIn 5 = .ok (.aload_n 1, 1) := by decide +kernel
theorem dX2_letIn_6 : decode cX2_letIn 6 = .ok (.arraylength, 1) := by decide +kernel
theorem dX2_letIn_7 : decode cX2_letIn 7 = .ok (.istore_n 2, 1) := by decide +kernel
theorem dX2_letIn_8 : decode cX2_letIn 8 = .ok (.iconst 0, 1) := by decide +kernel
theorem dX2_letIn_9 : decode cX2_letIn 9 = .ok (.istore_n 3, 1) := by decide +kernel
theorem dX2_letIn_10 : decode cX2_letIn 10 = .ok (.iload_n 3, 1) := by decide +kernel
theorem dX2_letIn_11 : decode cX2_letIn 11 = .ok (.iload_n 2, 1) := by decide +kernel
theorem dX2_letIn_12 : decode cX2_letIn 12 = .ok (.if_icmp .ge 28, 3) := by decide +kernel
theorem dX2_letIn_15 : decode cX2_letIn 15 = .ok (.aload_n 1, 1) := by decide +kernel
theorem dX2_letIn_16 : decode cX2_letIn 16 = .ok (.iload_n 3, 1) := by decide +kernel
theorem dX2_letIn_17 : decode cX2_letIn 17 = .ok (.aaload, 1) := by decide +kernel
theorem dX2_letIn_18 : decode cX2_letIn 18 = .ok (.astore 4, 2) := by decide +kernel
theorem dX2_letIn_20 : decode cX2_letIn 20 = .ok (.aload 4, 2) := by decide +kernel
theorem dX2_letIn_22 : decode cX2_letIn 22 = .ok (.getfield 46, 3) := by decide +kernel
theorem dX2_letIn_25 : decode cX2_letIn 25 = .ok (.ifCond .eq 9, 3) := by decide +kernel
theorem dX2_letIn_28 : decode cX2_letIn 28 = .ok (.aload_n 0, 1) := by decide +kernel
theorem dX2_letIn_29 : decode cX2_letIn 29 = .ok (.aload 4, 2) := by decide +kernel
theorem dX2_letIn_31 : decode cX2_letIn 31 = .ok (.invokevirtual 202, 3) := by decide +kernel
theorem dX2_letIn_34 : decode cX2_letIn 34 = .ok (.iinc 3 1, 3) := by decide +kernel
theorem dX2_letIn_37 : decode cX2_letIn 37 = .ok (.goto (-27), 3) := by decide +kernel
theorem dX2_letIn_40 : decode cX2_letIn 40 = .ok (.return_, 1) := by decide +kernel
set_option maxRecDepth 20000 in
theorem ggX2_fillRoom_X2_countAt : GoodIn wsX2_fillRoom wsX2_countAt := goodIn_r _ [5, 6, 7, 8, 9, 4, 10, 38, 39, 40, 41, 42, 43, 44, 45, 46, 47, 48, 49, 50, 32, 33, 34, 35, 36, 37] (by decide +kernel) (by decide +kernel)
set_option maxRecDepth 20000 in
theorem gX2_fillRoom_X2_countAt : GoodIn wsX2_fillRoom (wsV RX2 150 RX2 yX2_countAt wsX2_countAt) := goodIn_app (goodIn_of _ (by decide +kernel)) ggX2_fillRoom_X2_countAt
set_option maxRecDepth 20000 in
theorem ggX2_fillRoom_X2_firstInQueue : GoodIn wsX2_fillRoom wsX2_firstInQueue := goodIn_r _ [14, 6, 7, 8, 9, 4, 10, 38, 39, 40, 41, 42, 43, 44, 45, 46, 47, 48, 49, 50, 32, 33, 34, 35, 36, 37] (by decide +kernel) (by decide +kernel)
set_option maxRecDepth 20000 in
theorem gX2_fillRoom_X2_firstInQueue : GoodIn wsX2_fillRoom (wsV RX2 206 RX2 yX2_firstInQueue wsX2_firstInQueue) := goodIn_app (goodIn_of _ (by decide +kernel)) ggX2_fillRoom_X2_firstInQueue
set_option maxRecDepth 20000 in
theorem ggX2_fillRoom_X2_goInside : GoodIn wsX2_fillRoom wsX2_goInside := goodIn_r _ [18, 19, 20, 21, 22, 4, 23, 6, 24, 25, 26, 27, 28, 29, 30, 31, 41, 42, 43, 44, 45, 46, 47, 48, 49, 50, 32, 33, 34, 35, 36, 37, 38, 39, 40] (by decide +kernel) (by decide +kernel)
set_option maxRecDepth 20000 in
theorem gX2_fillRoom_X2_goInside : GoodIn wsX2_fillRoom (wsV RX2 210 RX2 yX2_goInside wsX2_goInside) := goodIn_app (goodIn_of _ (by decide +kernel)) ggX2_fillRoom_X2_goInside
theorem dX2_fillRoom_0 : decode cX2_fillRoom 0 = .ok (.aload_n 1, 1) := by decide +kernel
theorem dX2_fillRoom_1 : decode cX2_fillRoom 1 = .ok (.getfield 40, 3) := by decide +kernel
theorem dX2_fillRoom_4 : decode cX2_fillRoom 4 = .ok (.aload_n 0, 1) := by decide +kernel
theorem dX2_fillRoom_5 : decode cX2_fillRoom 5 = .ok (.iconst 2, 1) := by decide +kernel
theorem dX2_fillRoom_6 : decode cX2_fillRoom 6 = .ok (.aload_n 1, 1) := by decide +kernel
theorem dX2_fillRoom_7 : decode cX2_fillRoom 7 = .ok (.invokevirtual 150, 3) := by decide +kernel
theorem dX2_fillRoom_10 : decode cX2_fillRoom 10 = .ok (.isub, 1) := by decide +kernel
theorem dX2_fillRoom_11 : decode cX2_fillRoom 11 = .ok (.istore_n 2, 1) := by decide +kernel
theorem dX2_fillRoom_12 : decode cX2_fillRoom 12 = .ok (.iload_n 2, 1) := by decide +kernel
theorem dX2_fillRoom_13 : decode cX2_fillRoom 13 = .ok (.ifCond .le 26, 3) := by decide +kernel
theorem dX2_fillRoom_16 : decode cX2_fillRoom 16 = .ok (.aload_n 0, 1) := by decide +kernel
theorem dX2_fillRoom_17 : decode cX2_fillRoom 17 = .ok (.aload_n 1, 1) := by decide +kernel
theorem dX2_fillRoom_18 : decode cX2_fillRoom 18 = .ok (.invokevirtual 206, 3) := by decide +kernel
theorem dX2_fillRoom_21 : decode cX2_fillRoom 21 = .ok (.astore_n 3, 1) := by decide +kernel
theorem dX2_fillRoom_22 : decode cX2_fillRoom 22 = .ok (.aload_n 3, 1) := by decide +kernel
theorem dX2_fillRoom_23 : decode cX2_fillRoom 23 = .ok (.ifnonnull 4, 3) := by decide +kernel
theorem dX2_fillRoom_26 : decode cX2_fillRoom 26 = .ok (.return_, 1) := by decide +kernel
theorem dX2_fillRoom_27 : decode cX2_fillRoom 27 = .ok (.aload_n 0, 1) := by decide +kernel
theorem dX2_fillRoom_28 : decode cX2_fillRoom 28 = .ok (.aload_n 3, 1) := by decide +kernel
theorem dX2_fillRoom_29 : decode cX2_fillRoom 29 = .ok (.aload_n 1, 1) := by decide +kernel
theorem dX2_fillRoom_30 : decode cX2_fillRoom 30 = .ok (.invokevirtual 210, 3) := by decide +kernel
theorem dX2_fillRoom_33 : decode cX2_fillRoom 33 = .ok (.iinc 2 (-1), 3) := by decide +kernel
theorem dX2_fillRoom_36 : decode cX2_fillRoom 36 = .ok (.goto (-24), 3) := by decide +kernel
theorem dX2_fillRoom_39 : decode cX2_fillRoom 39 = .ok (.return_, 1) := by decide +kernel
set_option maxRecDepth 20000 in
theorem ggX2_goInside_X2_leaveQueue : GoodIn wsX2_goInside wsX2_leaveQueue := goodIn_r _ [6, 7, 8, 9, 10, 5, 11, 12, 13, 14, 15, 32, 33, 34, 16, 17, 18, 19, 20, 21, 22, 23, 24, 25] (by decide +kernel) (by decide +kernel)
set_option maxRecDepth 20000 in
theorem gX2_goInside_X2_leaveQueue : GoodIn wsX2_goInside (wsV RX2 94 RX2 yX2_leaveQueue wsX2_leaveQueue) := goodIn_app (goodIn_of _ (by decide +kernel)) ggX2_goInside_X2_leaveQueue
theorem dX2_goInside_0 : decode cX2_goInside 0 = .ok (.aload_n 0, 1) := by decide +kernel
theorem dX2_goInside_1 : decode cX2_goInside 1 = .ok (.aload_n 1, 1) := by decide +kernel
theorem dX2_goInside_2 : decode cX2_goInside 2 = .ok (.invokevirtual 94, 3) := by decide +kernel
theorem dX2_goInside_5 : decode cX2_goInside 5 = .ok (.aload_n 1, 1) := by decide +kernel
theorem dX2_goInside_6 : decode cX2_goInside 6 = .ok (.iconst 2, 1) := by decide +kernel
theorem dX2_goInside_7 : decode cX2_goInside 7 = .ok (.putfield 138, 3) := by decide +kernel
theorem dX2_goInside_10 : decode cX2_goInside 10 = .ok (.aload_n 1, 1) := by decide +kernel
theorem dX2_goInside_11 : decode cX2_goInside 11 = .ok (.aload_n 2, 1) := by decide +kernel
theorem dX2_goInside_12 : decode cX2_goInside 12 = .ok (.getfield 133, 3) := by decide +kernel
theorem dX2_goInside_15 : decode cX2_goInside 15 = .ok (.putfield 141, 3) := by decide +kernel
theorem dX2_goInside_18 : decode cX2_goInside 18 = .ok (.aload_n 1, 1) := by decide +kernel
theorem dX2_goInside_19 : decode cX2_goInside 19 = .ok (.aload_n 0, 1) := by decide +kernel
theorem dX2_goInside_20 : decode cX2_goInside 20 = .ok (.getfield 21, 3) := by decide +kernel
theorem dX2_goInside_23 : decode cX2_goInside 23 = .ok (.aload_n 2, 1) := by decide +kernel
theorem dX2_goInside_24 : decode cX2_goInside 24 = .ok (.getfield 43, 3) := by decide +kernel
theorem dX2_goInside_27 : decode cX2_goInside 27 = .ok (.iadd, 1) := by decide +kernel
theorem dX2_goInside_28 : decode cX2_goInside 28 = .ok (.putfield 180, 3) := by decide +kernel
theorem dX2_goInside_31 : decode cX2_goInside 31 = .ok (.return_, 1) := by decide +kernel
theorem dX2_becomeIdle_0 : decode cX2_becomeIdle 0 = .ok (.aload_n 1, 1) := by decide +kernel
theorem dX2_becomeIdle_1 : decode cX2_becomeIdle 1 = .ok (.iconst 0, 1) := by decide +kernel
theorem dX2_becomeIdle_2 : decode cX2_becomeIdle 2 = .ok (.putfield 138, 3) := by decide +kernel
theorem dX2_becomeIdle_5 : decode cX2_becomeIdle 5 = .ok (.aload_n 1, 1) := by decide +kernel
theorem dX2_becomeIdle_6 : decode cX2_becomeIdle 6 = .ok (.iconst (-1), 1) := by decide +kernel
theorem dX2_becomeIdle_7 : decode cX2_becomeIdle 7 = .ok (.putfield 141, 3) := by decide +kernel
theorem dX2_becomeIdle_10 : decode cX2_becomeIdle 10 = .ok (.aload_n 1, 1) := by decide +kernel
theorem dX2_becomeIdle_11 : decode cX2_becomeIdle 11 = .ok (.iconst (-1), 1) := by decide +kernel
theorem dX2_becomeIdle_12 : decode cX2_becomeIdle 12 = .ok (.putfield 144, 3) := by decide +kernel
theorem dX2_becomeIdle_15 : decode cX2_becomeIdle 15 = .ok (.aload_n 1, 1) := by decide +kernel
theorem dX2_becomeIdle_16 : decode cX2_becomeIdle 16 = .ok (.iconst (-1), 1) := by decide +kernel
theorem dX2_becomeIdle_17 : decode cX2_becomeIdle 17 = .ok (.putfield 180, 3) := by decide +kernel
theorem dX2_becomeIdle_20 : decode cX2_becomeIdle 20 = .ok (.return_, 1) := by decide +kernel
theorem dX2_loseTurn_0 : decode cX2_loseTurn 0 = .ok (.aload_n 1, 1) := by decide +kernel
theorem dX2_loseTurn_1 : decode cX2_loseTurn 1 = .ok (.iconst (-1), 1) := by decide +kernel
end
section
theorem dX2_loseTurn_2 : decode cX2_loseTurn 2 = .ok (.putfield 98, 3) := by decide +kernel
theorem dX2_loseTurn_5 : decode cX2_loseTurn 5 = .ok (.aload_n 1, 1) := by decide +kernel
theorem dX2_loseTurn_6 : decode cX2_loseTurn 6 = .ok (.aconst_null, 1) := by decide +kernel
theorem dX2_loseTurn_7 : decode cX2_loseTurn 7 = .ok (.putfield 106, 3) := by decide +kernel
theorem dX2_loseTurn_10 : decode cX2_loseTurn 10 = .ok (.return_, 1) := by decide +kernel
set_option maxRecDepth 20000 in
theorem ggX2_firstInQueue_X2_isAt : GoodIn wsX2_firstInQueue wsX2_isAt := goodIn_r _ [6, 10, 11, 12, 13, 14, 15, 16, 17, 18, 19, 20, 21, 22, 23, 24, 25] (by decide +kernel) (by decide +kernel)
set_option maxRecDepth 20000 in
theorem gX2_firstInQueue_X2_isAt : GoodIn wsX2_firstInQueue (wsV RX2 87 RX2 yX2_isAt wsX2_isAt) := goodIn_app (goodIn_of _ (by decide +kernel)) ggX2_firstInQueue_X2_isAt
theorem dX2_firstInQueue_0 : decode cX2_firstInQueue 0 = .ok (.aload_n 0, 1) := by decide +kernel
theorem dX2_firstInQueue_1 : decode cX2_firstInQueue 1 = .ok (.getfield 17, 3) := by decide +kernel
theorem dX2_firstInQueue_4 : decode cX2_firstInQueue 4 = .ok (.astore_n 2, 1) := by decide +kernel
theorem dX2_firstInQueue_5 : decode cX2_firstInQueue 5 = .ok (.aload_n 2, 1) := by decide +kernel
theorem dX2_firstInQueue_6 : decode cX2_firstInQueue 6 = .ok (.arraylength, 1) := by decide +kernel
theorem dX2_firstInQueue_7 : decode cX2_firstInQueue 7 = .ok (.istore_n 3, 1) := by decide +kernel
theorem dX2_firstInQueue_8 : decode cX2_firstInQueue 8 = .ok (.iconst 0, 1) := by decide +kernel
theorem dX2_firstInQueue_9 : decode cX2_firstInQueue 9 = .ok (.istore 4, 2) := by decide +kernel
theorem dX2_firstInQueue_11 : decode cX2_firstInQueue 11 = .ok (.iload 4, 2) := by decide +kernel
theorem dX2_firstInQueue_13 : decode cX2_firstInQueue 13 = .ok (.iload_n 3, 1) := by decide +kernel
theorem dX2_firstInQueue_14 : decode cX2_firstInQueue 14 = .ok (.if_icmp .ge 37, 3) := by decide +kernel
theorem dX2_firstInQueue_17 : decode cX2_firstInQueue 17 = .ok (.aload_n 2, 1) := by decide +kernel
theorem dX2_firstInQueue_18 : decode cX2_firstInQueue 18 = .ok (.iload 4, 2) := by decide +kernel
theorem dX2_firstInQueue_20 : decode cX2_firstInQueue 20 = .ok (.aaload, 1) := by decide +kernel
theorem dX2_firstInQueue_21 : decode cX2_firstInQueue 21 = .ok (.astore 5, 2) := by decide +kernel
theorem dX2_firstInQueue_23 : decode cX2_firstInQueue 23 = .ok (.aload_n 0, 1) := by decide +kernel
theorem dX2_firstInQueue_24 : decode cX2_firstInQueue 24 = .ok (.aload 5, 2) := by decide +kernel
theorem dX2_firstInQueue_26 : decode cX2_firstInQueue 26 = .ok (.iconst 1, 1) := by decide +kernel
theorem dX2_firstInQueue_27 : decode cX2_firstInQueue 27 = .ok (.aload_n 1, 1) := by decide +kernel
theorem dX2_firstInQueue_28 : decode cX2_firstInQueue 28 = .ok (.invokevirtual 87, 3) := by decide +kernel
theorem dX2_firstInQueue_31 : decode cX2_firstInQueue 31 = .ok (.ifCond .eq 14, 3) := by decide +kernel
theorem dX2_firstInQueue_34 : decode cX2_firstInQueue 34 = .ok (.aload 5, 2) := by decide +kernel
theorem dX2_firstInQueue_36 : decode cX2_firstInQueue 36 = .ok (.getfield 144, 3) := by decide +kernel
theorem dX2_firstInQueue_39 : decode cX2_firstInQueue 39 = .ok (.ifCond .ne 6, 3) := by decide +kernel
theorem dX2_firstInQueue_42 : decode cX2_firstInQueue 42 = .ok (.aload 5, 2) := by decide +kernel
theorem dX2_firstInQueue_44 : decode cX2_firstInQueue 44 = .ok (.areturn, 1) := by decide +kernel
theorem dX2_firstInQueue_45 : decode cX2_firstInQueue 45 = .ok (.iinc 4 1, 3) := by decide +kernel
theorem dX2_firstInQueue_48 : decode cX2_firstInQueue 48 = .ok (.goto (-37), 3) := by decide +kernel
theorem dX2_firstInQueue_51 : decode cX2_firstInQueue 51 = .ok (.aconst_null, 1) := by decide +kernel
theorem dX2_firstInQueue_52 : decode cX2_firstInQueue 52 = .ok (.areturn, 1) := by decide +kernel
set_option maxRecDepth 20000 in
theorem ggX2_countByTurn_X2_isAt : GoodIn wsX2_countByTurn wsX2_isAt := goodIn_r _ [6, 10, 11, 12, 13, 14, 15, 16, 17, 18, 19, 20, 21, 22, 23, 24, 25] (by decide +kernel) (by decide +kernel)
set_option maxRecDepth 20000 in
theorem gX2_countByTurn_X2_isAt : GoodIn wsX2_countByTurn (wsV RX2 87 RX2 yX2_isAt wsX2_isAt) := goodIn_app (goodIn_of _ (by decide +kernel)) ggX2_countByTurn_X2_isAt
theorem dX2_countByTurn_0 : decode cX2_countByTurn 0 = .ok (.iconst 0, 1) := by decide +kernel
theorem dX2_countByTurn_1 : decode cX2_countByTurn 1 = .ok (.istore_n 2, 1) := by decide +kernel
theorem dX2_countByTurn_2 : decode cX2_countByTurn 2 = .ok (.aload_n 0, 1) := by decide +kernel
theorem dX2_countByTurn_3 : decode cX2_countByTurn 3 = .ok (.getfield 17, 3) := by decide +kernel
theorem dX2_countByTurn_6 : decode cX2_countByTurn 6 = .ok (.astore_n 3, 1) := by decide +kernel
theorem dX2_countByTurn_7 : decode cX2_countByTurn 7 = .ok (.aload_n 3, 1) := by decide +kernel
theorem dX2_countByTurn_8 : decode cX2_countByTurn 8 = .ok (.arraylength, 1) := by decide +kernel
theorem dX2_countByTurn_9 : decode cX2_countByTurn 9 = .ok (.istore 4, 2) := by decide +kernel
theorem dX2_countByTurn_11 : decode cX2_countByTurn 11 = .ok (.iconst 0, 1) := by decide +kernel
theorem dX2_countByTurn_12 : decode cX2_countByTurn 12 = .ok (.istore 5, 2) := by decide +kernel
theorem dX2_countByTurn_14 : decode cX2_countByTurn 14 = .ok (.iload 5, 2) := by decide +kernel
theorem dX2_countByTurn_16 : decode cX2_countByTurn 16 = .ok (.iload 4, 2) := by decide +kernel
theorem dX2_countByTurn_18 : decode cX2_countByTurn 18 = .ok (.if_icmp .ge 37, 3) := by decide +kernel
theorem dX2_countByTurn_21 : decode cX2_countByTurn 21 = .ok (.aload_n 3, 1) := by decide +kernel
theorem dX2_countByTurn_22 : decode cX2_countByTurn 22 = .ok (.iload 5, 2) := by decide +kernel
theorem dX2_countByTurn_24 : decode cX2_countByTurn 24 = .ok (.aaload, 1) := by decide +kernel
theorem dX2_countByTurn_25 : decode cX2_countByTurn 25 = .ok (.astore 6, 2) := by decide +kernel
theorem dX2_countByTurn_27 : decode cX2_countByTurn 27 = .ok (.aload_n 0, 1) := by decide +kernel
theorem dX2_countByTurn_28 : decode cX2_countByTurn 28 = .ok (.aload 6, 2) := by decide +kernel
theorem dX2_countByTurn_30 : decode cX2_countByTurn 30 = .ok (.iconst 1, 1) := by decide +kernel
theorem dX2_countByTurn_31 : decode cX2_countByTurn 31 = .ok (.aload_n 1, 1) := by decide +kernel
theorem dX2_countByTurn_32 : decode cX2_countByTurn 32 = .ok (.invokevirtual 87, 3) := by decide +kernel
theorem dX2_countByTurn_35 : decode cX2_countByTurn 35 = .ok (.ifCond .eq 14, 3) := by decide +kernel
theorem dX2_countByTurn_38 : decode cX2_countByTurn 38 = .ok (.aload 6, 2) := by decide +kernel
theorem dX2_countByTurn_40 : decode cX2_countByTurn 40 = .ok (.getfield 91, 3) := by decide +kernel
theorem dX2_countByTurn_43 : decode cX2_countByTurn 43 = .ok (.ifCond .eq 6, 3) := by decide +kernel
theorem dX2_countByTurn_46 : decode cX2_countByTurn 46 = .ok (.iinc 2 1, 3) := by decide +kernel
theorem dX2_countByTurn_49 : decode cX2_countByTurn 49 = .ok (.iinc 5 1, 3) := by decide +kernel
theorem dX2_countByTurn_52 : decode cX2_countByTurn 52 = .ok (.goto (-38), 3) := by decide +kernel
theorem dX2_countByTurn_55 : decode cX2_countByTurn 55 = .ok (.iload_n 2, 1) := by decide +kernel
theorem dX2_countByTurn_56 : decode cX2_countByTurn 56 = .ok (.ireturn, 1) := by decide +kernel
set_option maxRecDepth 20000 in
theorem ggX2_joinQueue_X2_isAt : GoodIn wsX2_joinQueue wsX2_isAt := goodIn_r _ [6, 10, 11, 12, 13, 14, 15, 16, 17, 18, 19, 20, 21, 22, 23, 24, 25] (by decide +kernel) (by decide +kernel)
set_option maxRecDepth 20000 in
theorem gX2_joinQueue_X2_isAt : GoodIn wsX2_joinQueue (wsV RX2 87 RX2 yX2_isAt wsX2_isAt) := goodIn_app (goodIn_of _ (by decide +kernel)) ggX2_joinQueue_X2_isAt
theorem dX2_joinQueue_0 : decode cX2_joinQueue 0 = .ok (.aload_n 0, 1) := by decide +kernel
theorem dX2_joinQueue_1 : decode cX2_joinQueue 1 = .ok (.getfield 17, 3) := by decide +kernel
theorem dX2_joinQueue_4 : decode cX2_joinQueue 4 = .ok (.astore 4, 2) := by decide +kernel
theorem dX2_joinQueue_6 : decode cX2_joinQueue 6 = .ok (.aload 4, 2) := by decide +kernel
theorem dX2_joinQueue_8 : decode cX2_joinQueue 8 = .ok (.arraylength, 1) := by decide +kernel
theorem dX2_joinQueue_9 : decode cX2_joinQueue 9 = .ok (.istore 5, 2) := by decide +kernel
theorem dX2_joinQueue_11 : decode cX2_joinQueue 11 = .ok (.iconst 0, 1) := by decide +kernel
theorem dX2_joinQueue_12 : decode cX2_joinQueue 12 = .ok (.istore 6, 2) := by decide +kernel
theorem dX2_joinQueue_14 : decode cX2_joinQueue 14 = .ok (.iload 6, 2) := by decide +kernel
theorem dX2_joinQueue_16 : decode cX2_joinQueue 16 = .ok (.iload 5, 2) := by decide +kernel
theorem dX2_joinQueue_18 : decode cX2_joinQueue 18 = .ok (.if_icmp .ge 47, 3) := by decide +kernel
theorem dX2_joinQueue_21 : decode cX2_joinQueue 21 = .ok (.aload 4, 2) := by decide +kernel
theorem dX2_joinQueue_23 : decode cX2_joinQueue 23 = .ok (.iload 6, 2) := by decide +kernel
theorem dX2_joinQueue_25 : decode cX2_joinQueue 25 = .ok (.aaload, 1) := by decide +kernel
theorem dX2_joinQueue_26 : decode cX2_joinQueue 26 = .ok (.astore 7, 2) := by decide +kernel
theorem dX2_joinQueue_28 : decode cX2_joinQueue 28 = .ok (.aload_n 0, 1) := by decide +kernel
theorem dX2_joinQueue_29 : decode cX2_joinQueue 29 = .ok (.aload 7, 2) := by decide +kernel
theorem dX2_joinQueue_31 : decode cX2_joinQueue 31 = .ok (.iconst 1, 1) := by decide +kernel
theorem dX2_joinQueue_32 : decode cX2_joinQueue 32 = .ok (.aload_n 2, 1) := by decide +kernel
theorem dX2_joinQueue_33 : decode cX2_joinQueue 33 = .ok (.invokevirtual 87, 3) := by decide +kernel
theorem dX2_joinQueue_36 : decode cX2_joinQueue 36 = .ok (.ifCond .eq 23, 3) := by decide +kernel
theorem dX2_joinQueue_39 : decode cX2_joinQueue 39 = .ok (.aload 7, 2) := by decide +kernel
theorem dX2_joinQueue_41 : decode cX2_joinQueue 41 = .ok (.getfield 144, 3) := by decide +kernel
theorem dX2_joinQueue_44 : decode cX2_joinQueue 44 = .ok (.iload_n 3, 1) := by decide +kernel
theorem dX2_joinQueue_45 : decode cX2_joinQueue 45 = .ok (.if_icmp .lt 14, 3) := by decide +kernel
theorem dX2_joinQueue_48 : decode cX2_joinQueue 48 = .ok (.aload 7, 2) := by decide +kernel
theorem dX2_joinQueue_50 : decode cX2_joinQueue 50 = .ok (.dup, 1) := by decide +kernel
theorem dX2_joinQueue_51 : decode cX2_joinQueue 51 = .ok (.getfield 144, 3) := by decide +kernel
theorem dX2_joinQueue_54 : decode cX2_joinQueue 54 = .ok (.iconst 1, 1) := by decide +kernel
theorem dX2_joinQueue_55 : decode cX2_joinQueue 55 = .ok (.iadd, 1) := by decide +kernel
theorem dX2_joinQueue_56 : decode cX2_joinQueue 56 = .ok (.putfield 144, 3) := by decide +kernel
theorem dX2_joinQueue_59 : decode cX2_joinQueue 59 = .ok (.iinc 6 1, 3) := by decide +kernel
theorem dX2_joinQueue_62 : decode cX2_joinQueue 62 = .ok (.goto (-48), 3) := by decide +kernel
theorem dX2_joinQueue_65 : decode cX2_joinQueue 65 = .ok (.aload_n 1, 1) := by decide +kernel
theorem dX2_joinQueue_66 : decode cX2_joinQueue 66 = .ok (.iconst 1, 1) := by decide +kernel
theorem dX2_joinQueue_67 : decode cX2_joinQueue 67 = .ok (.putfield 138, 3) := by decide +kernel
theorem dX2_joinQueue_70 : decode cX2_joinQueue 70 = .ok (.aload_n 1, 1) := by decide +kernel
theorem dX2_joinQueue_71 : decode cX2_joinQueue 71 = .ok (.aload_n 2, 1) := by decide +kernel
theorem dX2_joinQueue_72 : decode cX2_joinQueue 72 = .ok (.getfield 133, 3) := by decide +kernel
theorem dX2_joinQueue_75 : decode cX2_joinQueue 75 = .ok (.putfield 141, 3) := by decide +kernel
theorem dX2_joinQueue_78 : decode cX2_joinQueue 78 = .ok (.aload_n 1, 1) := by decide +kernel
theorem dX2_joinQueue_79 : decode cX2_joinQueue 79 = .ok (.iload_n 3, 1) := by decide +kernel
theorem dX2_joinQueue_80 : decode cX2_joinQueue 80 = .ok (.putfield 144, 3) := by decide +kernel
theorem dX2_joinQueue_83 : decode cX2_joinQueue 83 = .ok (.return_, 1) := by decide +kernel
set_option maxRecDepth 20000 in
theorem ggX2_leaveQueue_X2_loseTurn : GoodIn wsX2_leaveQueue wsX2_loseTurn := goodIn_r _ [6, 14, 15, 16, 17, 18, 19, 20, 21, 22, 23] (by decide +kernel) (by decide +kernel)
set_option maxRecDepth 20000 in
theorem gX2_leaveQueue_X2_loseTurn : GoodIn wsX2_leaveQueue (wsV RX2 189 RX2 yX2_loseTurn wsX2_loseTurn) := goodIn_app (goodIn_of _ (by decide +kernel)) ggX2_leaveQueue_X2_loseTurn
set_option maxRecDepth 20000 in
theorem ggX2_leaveQueue_X2_becomeIdle : GoodIn wsX2_leaveQueue wsX2_becomeIdle := goodIn_r _ [10, 14, 15, 16, 17, 18, 19, 20, 21, 22, 23] (by decide +kernel) (by decide +kernel)
set_option maxRecDepth 20000 in
theorem gX2_leaveQueue_X2_becomeIdle : GoodIn wsX2_leaveQueue (wsV RX2 183 RX2 yX2_becomeIdle wsX2_becomeIdle) := goodIn_app (goodIn_of _ (by decide +kernel)) ggX2_leaveQueue_X2_becomeIdle
theorem dX2_leaveQueue_0 : decode cX2_leaveQueue 0 = .ok (.aload_n 0, 1) := by decide +kernel
theorem dX2_leaveQueue_1 : decode cX2_leaveQueue 1 = .ok (.getfield 17, 3) := by decide +kernel
theorem dX2_leaveQueue_4 : decode cX2_leaveQueue 4 = .ok (.astore_n 2, 1) := by decide +kernel
theorem dX2_leaveQueue_5 : decode cX2_leaveQueue 5 = .ok (.aload_n 2, 1) := by decide +kernel
theorem dX2_leaveQueue_6 : decode cX2_leaveQueue 6 = .ok (.arraylength, 1) := by decide +kernel
theorem dX2_leaveQueue_7 : decode cX2_leaveQueue 7 = .ok (.istore_n 3, 1) := by decide +kernel
theorem dX2_leaveQueue_8 : decode cX2_leaveQueue 8 = .ok (.iconst 0, 1) := by decide +kernel
theorem dX2_leaveQueue_9 : decode cX2_leaveQueue 9 = .ok (.istore 4, 2) := by decide +kernel
theorem dX2_leaveQueue_11 : decode cX2_leaveQueue 11 = .ok (.iload 4, 2) := by decide +kernel
theorem dX2_leaveQueue_13 : decode cX2_leaveQueue 13 = .ok (.iload_n 3, 1) := by decide +kernel
theorem dX2_leaveQueue_14 : decode cX2_leaveQueue 14 = .ok (.if_icmp .ge 59, 3) := by decide +kernel
theorem dX2_leaveQueue_17 : decode cX2_leaveQueue 17 = .ok (.aload_n 2, 1) := by decide +kernel
theorem dX2_leaveQueue_18 : decode cX2_leaveQueue 18 = .ok (.iload 4, 2) := by decide +kernel
theorem dX2_leaveQueue_20 : decode cX2_leaveQueue 20 = .ok (.aaload, 1) := by decide +kernel
theorem dX2_leaveQueue_21 : decode cX2_leaveQueue 21 = .ok (.astore 5, 2) := by decide +kernel
theorem dX2_leaveQueue_23 : decode cX2_leaveQueue 23 = .ok (.aload 5, 2) := by decide +kernel
theorem dX2_leaveQueue_25 : decode cX2_leaveQueue 25 = .ok (.getfield 138, 3) := by decide +kernel
theorem dX2_leaveQueue_28 : decode cX2_leaveQueue 28 = .ok (.iconst 1, 1) := by decide +kernel
theorem dX2_leaveQueue_29 : decode cX2_leaveQueue 29 = .ok (.if_icmp .ne 38, 3) := by decide +kernel
theorem dX2_leaveQueue_32 : decode cX2_leaveQueue 32 = .ok (.aload 5, 2) := by decide +kernel
theorem dX2_leaveQueue_34 : decode cX2_leaveQueue 34 = .ok (.getfield 141, 3) := by decide +kernel
theorem dX2_leaveQueue_37 : decode cX2_leaveQueue 37 = .ok (.aload_n 1, 1) := by decide +kernel
theorem dX2_leaveQueue_38 : decode cX2_leaveQueue 38 = .ok (.getfield 141, 3) := by decide +kernel
theorem dX2_leaveQueue_41 : decode cX2_leaveQueue 41 = .ok (.if_icmp .ne 26, 3) := by decide +kernel
theorem dX2_leaveQueue_44 : decode cX2_leaveQueue 44 = .ok (.aload 5, 2) := by decide +kernel
theorem dX2_leaveQueue_46 : decode cX2_leaveQueue 46 = .ok (.getfield 144, 3) := by decide +kernel
theorem dX2_leaveQueue_49 : decode cX2_leaveQueue 49 = .ok (.aload_n 1, 1) := by decide +kernel
theorem dX2_leaveQueue_50 : decode cX2_leaveQueue 50 = .ok (.getfield 144, 3) := by decide +kernel
theorem dX2_leaveQueue_53 : decode cX2_leaveQueue 53 = .ok (.if_icmp .le 14, 3) := by decide +kernel
theorem dX2_leaveQueue_56 : decode cX2_leaveQueue 56 = .ok (.aload 5, 2) := by decide +kernel
theorem dX2_leaveQueue_58 : decode cX2_leaveQueue 58 = .ok (.dup, 1) := by decide +kernel
theorem dX2_leaveQueue_59 : decode cX2_leaveQueue 59 = .ok (.getfield 144, 3) := by decide +kernel
theorem dX2_leaveQueue_62 : decode cX2_leaveQueue 62 = .ok (.iconst 1, 1) := by decide +kernel
theorem dX2_leaveQueue_63 : decode cX2_leaveQueue 63 = .ok (.isub, 1) := by decide +kernel
theorem dX2_leaveQueue_64 : decode cX2_leaveQueue 64 = .ok (.putfield 144, 3) := by decide +kernel
theorem dX2_leaveQueue_67 : decode cX2_leaveQueue 67 = .ok (.iinc 4 1, 3) := by decide +kernel
theorem dX2_leaveQueue_70 : decode cX2_leaveQueue 70 = .ok (.goto (-59), 3) := by decide +kernel
theorem dX2_leaveQueue_73 : decode cX2_leaveQueue 73 = .ok (.aload_n 1, 1) := by decide +kernel
theorem dX2_leaveQueue_74 : decode cX2_leaveQueue 74 = .ok (.getfield 91, 3) := by decide +kernel
theorem dX2_leaveQueue_77 : decode cX2_leaveQueue 77 = .ok (.ifCond .eq 13, 3) := by decide +kernel
theorem dX2_leaveQueue_80 : decode cX2_leaveQueue 80 = .ok (.aload_n 0, 1) := by decide +kernel
theorem dX2_leaveQueue_81 : decode cX2_leaveQueue 81 = .ok (.aload_n 1, 1) := by decide +kernel
theorem dX2_leaveQueue_82 : decode cX2_leaveQueue 82 = .ok (.invokevirtual 189, 3) := by decide +kernel
theorem dX2_leaveQueue_85 : decode cX2_leaveQueue 85 = .ok (.aload_n 1, 1) := by decide +kernel
theorem dX2_leaveQueue_86 : decode cX2_leaveQueue 86 = .ok (.iconst 0, 1) := by decide +kernel
theorem dX2_leaveQueue_87 : decode cX2_leaveQueue 87 = .ok (.putfield 91, 3) := by decide +kernel
theorem dX2_leaveQueue_90 : decode cX2_leaveQueue 90 = .ok (.aload_n 0, 1) := by decide +kernel
theorem dX2_leaveQueue_91 : decode cX2_leaveQueue 91 = .ok (.aload_n 1, 1) := by decide +kernel
theorem dX2_leaveQueue_92 : decode cX2_leaveQueue 92 = .ok (.invokevirtual 183, 3) := by decide +kernel
theorem dX2_leaveQueue_95 : decode cX2_leaveQueue 95 = .ok (.return_, 1) := by decide +kernel
set_option maxRecDepth 20000 in
theorem ggX2_emptyQueue_X2_isAt : GoodIn wsX2_emptyQueue wsX2_isAt := goodIn_r _ [6, 22, 23, 24, 25, 26, 27, 28, 29, 30, 31, 32, 33, 34, 35, 36, 37] (by decide +kernel) (by decide +kernel)
set_option maxRecDepth 20000 in
theorem gX2_emptyQueue_X2_isAt : GoodIn wsX2_emptyQueue (wsV RX2 87 RX2 yX2_isAt wsX2_isAt) := goodIn_app (goodIn_of _ (by decide +kernel)) ggX2_emptyQueue_X2_isAt
set_option maxRecDepth 20000 in
theorem ggX2_emptyQueue_X2_leaveQueue : GoodIn wsX2_emptyQueue wsX2_leaveQueue := goodIn_r _ [10, 1, 11, 12, 13, 5, 14, 15, 16, 17, 18, 19, 20, 21, 22, 23, 24, 25, 26, 27, 28, 29, 30, 31] (by decide +kernel) (by decide +kernel)
set_option maxRecDepth 20000 in
theorem gX2_emptyQueue_X2_leaveQueue : GoodIn wsX2_emptyQueue (wsV RX2 94 RX2 yX2_leaveQueue wsX2_leaveQueue) := goodIn_app (goodIn_of _ (by decide +kernel)) ggX2_emptyQueue_X2_leaveQueue
theorem dX2_emptyQueue_0 : decode cX2_emptyQueue 0 = .ok (.iconst 0, 1) := by decide +kernel
theorem dX2_emptyQueue_1 : decode cX2_emptyQueue 1 = .ok (.istore_n 2, 1) := by decide +kernel
theorem dX2_emptyQueue_2 : decode cX2_emptyQueue 2 = .ok (.aload_n 0, 1) := by decide +kernel
theorem dX2_emptyQueue_3 : decode cX2_emptyQueue 3 = .ok (.getfield 17, 3) := by decide +kernel
theorem dX2_emptyQueue_6 : decode cX2_emptyQueue 6 = .ok (.astore_n 3, 1) := by decide +kernel
theorem dX2_emptyQueue_7 : decode cX2_emptyQueue 7 = .ok (.aload_n 3, 1) := by decide +kernel
theorem dX2_emptyQueue_8 : decode cX2_emptyQueue 8 = .ok (.arraylength, 1) := by decide +kernel
theorem dX2_emptyQueue_9 : decode cX2_emptyQueue 9 = .ok (.istore 4, 2) := by decide +kernel
theorem dX2_emptyQueue_11 : decode cX2_emptyQueue 11 = .ok (.iconst 0, 1) := by decide +kernel
theorem dX2_emptyQueue_12 : decode cX2_emptyQueue 12 = .ok (.istore 5, 2) := by decide +kernel
theorem dX2_emptyQueue_14 : decode cX2_emptyQueue 14 = .ok (.iload 5, 2) := by decide +kernel
theorem dX2_emptyQueue_16 : decode cX2_emptyQueue 16 = .ok (.iload 4, 2) := by decide +kernel
theorem dX2_emptyQueue_18 : decode cX2_emptyQueue 18 = .ok (.if_icmp .ge 35, 3) := by decide +kernel
theorem dX2_emptyQueue_21 : decode cX2_emptyQueue 21 = .ok (.aload_n 3, 1) := by decide +kernel
theorem dX2_emptyQueue_22 : decode cX2_emptyQueue 22 = .ok (.iload 5, 2) := by decide +kernel
theorem dX2_emptyQueue_24 : decode cX2_emptyQueue 24 = .ok (.aaload, 1) := by decide +kernel
theorem dX2_emptyQueue_25 : decode cX2_emptyQueue 25 = .ok (.astore 6, 2) := by decide +kernel
theorem dX2_emptyQueue_27 : decode cX2_emptyQueue 27 = .ok (.aload_n 0, 1) := by decide +kernel
theorem dX2_emptyQueue_28 : decode cX2_emptyQueue 28 = .ok (.aload 6, 2) := by decide +kernel
theorem dX2_emptyQueue_30 : decode cX2_emptyQueue 30 = .ok (.iconst 1, 1) := by decide +kernel
theorem dX2_emptyQueue_31 : decode cX2_emptyQueue 31 = .ok (.aload_n 1, 1) := by decide +kernel
theorem dX2_emptyQueue_32 : decode cX2_emptyQueue 32 = .ok (.invokevirtual 87, 3) := by decide +kernel
theorem dX2_emptyQueue_35 : decode cX2_emptyQueue 35 = .ok (.ifCond .eq 12, 3) := by decide +kernel
theorem dX2_emptyQueue_38 : decode cX2_emptyQueue 38 = .ok (.aload_n 0, 1) := by decide +kernel
theorem dX2_emptyQueue_39 : decode cX2_emptyQueue 39 = .ok (.aload 6, 2) := by decide +kernel
theorem dX2_emptyQueue_41 : decode cX2_emptyQueue 41 = .ok (.invokevirtual 94, 3) := by decide +kernel
theorem dX2_emptyQueue_44 : decode cX2_emptyQueue 44 = .ok (.iinc 2 1, 3) := by decide +kernel
theorem dX2_emptyQueue_47 : decode cX2_emptyQueue 47 = .ok (.iinc 5 1, 3) := by decide +kernel
theorem dX2_emptyQueue_50 : decode cX2_emptyQueue 50 = .ok (.goto (-36), 3) := by decide +kernel
theorem dX2_emptyQueue_53 : decode cX2_emptyQueue 53 = .ok (.iload_n 2, 1) := by decide +kernel
theorem dX2_emptyQueue_54 : decode cX2_emptyQueue 54 = .ok (.ireturn, 1) := by decide +kernel
theorem dX3_init_0 : decode cX3_init 0 = .ok (.aload_n 0, 1) := by decide +kernel
theorem dX3_init_1 : decode cX3_init 1 = .ok (.invokespecial 1, 3) := by decide +kernel
theorem dX3_init_4 : decode cX3_init 4 = .ok (.aload_n 0, 1) := by decide +kernel
theorem dX3_init_5 : decode cX3_init 5 = .ok (.bipush 6, 2) := by decide +kernel
theorem dX3_init_7 : decode cX3_init 7 = .ok (.newarray .int, 2) := by decide +kernel
theorem dX3_init_9 : decode cX3_init 9 = .ok (.putfield 7, 3) := by decide +kernel
theorem dX3_init_12 : decode cX3_init 12 = .ok (.aload_n 0, 1) := by decide +kernel
theorem dX3_init_13 : decode cX3_init 13 = .ok (.bipush 6, 2) := by decide +kernel
theorem dX3_init_15 : decode cX3_init 15 = .ok (.newarray .int, 2) := by decide +kernel
theorem dX3_init_17 : decode cX3_init 17 = .ok (.putfield 13, 3) := by decide +kernel
theorem dX3_init_20 : decode cX3_init 20 = .ok (.aload_n 0, 1) := by decide +kernel
theorem dX3_init_21 : decode cX3_init 21 = .ok (.bipush 6, 2) := by decide +kernel
theorem dX3_init_23 : decode cX3_init 23 = .ok (.newarray .boolean, 2) := by decide +kernel
theorem dX3_init_25 : decode cX3_init 25 = .ok (.putfield 16, 3) := by decide +kernel
theorem dX3_init_28 : decode cX3_init 28 = .ok (.aload_n 0, 1) := by decide +kernel
theorem dX3_init_29 : decode cX3_init 29 = .ok (.bipush 48, 2) := by decide +kernel
theorem dX3_init_31 : decode cX3_init 31 = .ok (.newarray .int, 2) := by decide +kernel
theorem dX3_init_33 : decode cX3_init 33 = .ok (.putfield 20, 3) := by decide +kernel
theorem dX3_init_36 : decode cX3_init 36 = .ok (.aload_n 0, 1) := by decide +kernel
theorem dX3_init_37 : decode cX3_init 37 = .ok (.bipush 6, 2) := by decide +kernel
theorem dX3_init_39 : decode cX3_init 39 = .ok (.newarray .int, 2) := by decide +kernel
theorem dX3_init_41 : decode cX3_init 41 = .ok (.putfield 23, 3) := by decide +kernel
theorem dX3_init_44 : decode cX3_init 44 = .ok (.aload_n 0, 1) := by decide +kernel
theorem dX3_init_45 : decode cX3_init 45 = .ok (.bipush 48, 2) := by decide +kernel
theorem dX3_init_47 : decode cX3_init 47 = .ok (.newarray .int, 2) := by decide +kernel
theorem dX3_init_49 : decode cX3_init 49 = .ok (.putfield 26, 3) := by decide +kernel
theorem dX3_init_52 : decode cX3_init 52 = .ok (.aload_n 0, 1) := by decide +kernel
theorem dX3_init_53 : decode cX3_init 53 = .ok (.bipush 8, 2) := by decide +kernel
theorem dX3_init_55 : decode cX3_init 55 = .ok (.newarray .int, 2) := by decide +kernel
theorem dX3_init_57 : decode cX3_init 57 = .ok (.putfield 29, 3) := by decide +kernel
theorem dX3_init_60 : decode cX3_init 60 = .ok (.aload_n 0, 1) := by decide +kernel
theorem dX3_init_61 : decode cX3_init 61 = .ok (.bipush 8, 2) := by decide +kernel
theorem dX3_init_63 : decode cX3_init 63 = .ok (.newarray .int, 2) := by decide +kernel
theorem dX3_init_65 : decode cX3_init 65 = .ok (.putfield 32, 3) := by decide +kernel
theorem dX3_init_68 : decode cX3_init 68 = .ok (.aload_n 0, 1) := by decide +kernel
theorem dX3_init_69 : decode cX3_init 69 = .ok (.bipush 8, 2) := by decide +kernel
theorem dX3_init_71 : decode cX3_init 71 = .ok (.newarray .int, 2) := by decide +kernel
theorem dX3_init_73 : decode cX3_init 73 = .ok (.putfield 35, 3) := by decide +kernel
theorem dX3_init_76 : decode cX3_init 76 = .ok (.aload_n 0, 1) := by decide +kernel
theorem dX3_init_77 : decode cX3_init 77 = .ok (.bipush 8, 2) := by decide +kernel
theorem dX3_init_79 : decode cX3_init 79 = .ok (.newarray .int, 2) := by decide +kernel
theorem dX3_init_81 : decode cX3_init 81 = .ok (.putfield 38, 3) := by decide +kernel
theorem dX3_init_84 : decode cX3_init 84 = .ok (.aload_n 0, 1) := by decide +kernel
theorem dX3_init_85 : decode cX3_init 85 = .ok (.bipush 8, 2) := by decide +kernel
theorem dX3_init_87 : decode cX3_init 87 = .ok (.newarray .int, 2) := by decide +kernel
theorem dX3_init_89 : decode cX3_init 89 = .ok (.putfield 41, 3) := by decide +kernel
theorem dX3_init_92 : decode cX3_init 92 = .ok (.aload_n 0, 1) := by decide +kernel
theorem dX3_init_93 : decode cX3_init 93 = .ok (.bipush 8, 2) := by decide +kernel
theorem dX3_init_95 : decode cX3_init 95 = .ok (.newarray .int, 2) := by decide +kernel
theorem dX3_init_97 : decode cX3_init 97 = .ok (.putfield 44, 3) := by decide +kernel
theorem dX3_init_100 : decode cX3_init 100 = .ok (.aload_n 0, 1) := by decide +kernel
theorem dX3_init_101 : decode cX3_init 101 = .ok (.bipush 8, 2) := by decide +kernel
theorem dX3_init_103 : decode cX3_init 103 = .ok (.newarray .int, 2) := by decide +kernel
theorem dX3_init_105 : decode cX3_init 105 = .ok (.putfield 47, 3) := by decide +kernel
theorem dX3_init_108 : decode cX3_init 108 = .ok (.aload_n 0, 1) := by decide +kernel
theorem dX3_init_109 : decode cX3_init 109 = .ok (.bipush 8, 2) := by decide +kernel
theorem dX3_init_111 : decode cX3_init 111 = .ok (.newarray .boolean, 2) := by decide +kernel
theorem dX3_init_113 : decode cX3_init 113 = .ok (.putfield 50, 3) := by decide +kernel
theorem dX3_init_116 : decode cX3_init 116 = .ok (.aload_n 0, 1) := by decide +kernel
theorem dX3_init_117 : decode cX3_init 117 = .ok (.bipush 6, 2) := by decide +kernel
theorem dX3_init_119 : decode cX3_init 119 = .ok (.newarray .int, 2) := by decide +kernel
theorem dX3_init_121 : decode cX3_init 121 = .ok (.putfield 53, 3) := by decide +kernel
theorem dX3_init_124 : decode cX3_init 124 = .ok (.aload_n 0, 1) := by decide +kernel
theorem dX3_init_125 : decode cX3_init 125 = .ok (.bipush 6, 2) := by decide +kernel
theorem dX3_init_127 : decode cX3_init 127 = .ok (.newarray .int, 2) := by decide +kernel
theorem dX3_init_129 : decode cX3_init 129 = .ok (.putfield 56, 3) := by decide +kernel
theorem dX3_init_132 : decode cX3_init 132 = .ok (.aload_n 0, 1) := by decide +kernel
theorem dX3_init_133 : decode cX3_init 133 = .ok (.bipush 48, 2) := by decide +kernel
theorem dX3_init_135 : decode cX3_init 135 = .ok (.newarray .int, 2) := by decide +kernel
theorem dX3_init_137 : decode cX3_init 137 = .ok (.putfield 59, 3) := by decide +kernel
theorem dX3_init_140 : decode cX3_init 140 = .ok (.iconst 0, 1) := by decide +kernel
theorem dX3_init_141 : decode cX3_init 141 = .ok (.istore_n 1, 1) := by decide +kernel
theorem dX3_init_142 : decode cX3_init 142 = .ok (.iload_n 1, 1) := by decide +kernel
theorem dX3_init_143 : decode cX3_init 143 = .ok (.bipush 6, 2) := by decide +kernel
theorem dX3_init_145 : decode cX3_init 145 = .ok (.if_icmp .ge 31, 3) := by decide +kernel
theorem dX3_init_148 : decode cX3_init 148 = .ok (.aload_n 0, 1) := by decide +kernel
theorem dX3_init_149 : decode cX3_init 149 = .ok (.getfield 7, 3) := by decide +kernel
theorem dX3_init_152 : decode cX3_init 152 = .ok (.iload_n 1, 1) := by decide +kernel
theorem dX3_init_153 : decode cX3_init 153 = .ok (.iconst 2, 1) := by decide +kernel
theorem dX3_init_154 : decode cX3_init 154 = .ok (.iastore, 1) := by decide +kernel
theorem dX3_init_155 : decode cX3_init 155 = .ok (.aload_n 0, 1) := by decide +kernel
theorem dX3_init_156 : decode cX3_init 156 = .ok (.getfield 13, 3) := by decide +kernel
theorem dX3_init_159 : decode cX3_init 159 = .ok (.iload_n 1, 1) := by decide +kernel
theorem dX3_init_160 : decode cX3_init 160 = .ok (.iconst 5, 1) := by decide +kernel
theorem dX3_init_161 : decode cX3_init 161 = .ok (.iastore, 1) := by decide +kernel
theorem dX3_init_162 : decode cX3_init 162 = .ok (.aload_n 0, 1) := by decide +kernel
theorem dX3_init_163 : decode cX3_init 163 = .ok (.getfield 53, 3) := by decide +kernel
theorem dX3_init_166 : decode cX3_init 166 = .ok (.iload_n 1, 1) := by decide +kernel
theorem dX3_init_167 : decode cX3_init 167 = .ok (.bipush 10, 2) := by decide +kernel
theorem dX3_init_169 : decode cX3_init 169 = .ok (.iastore, 1) := by decide +kernel
theorem dX3_init_170 : decode cX3_init 170 = .ok (.iinc 1 1, 3) := by decide +kernel
theorem dX3_init_173 : decode cX3_init 173 = .ok (.goto (-31), 3) := by decide +kernel
theorem dX3_init_176 : decode cX3_init 176 = .ok (.iconst 0, 1) := by decide +kernel
theorem dX3_init_177 : decode cX3_init 177 = .ok (.istore_n 1, 1) := by decide +kernel
theorem dX3_init_178 : decode cX3_init 178 = .ok (.iload_n 1, 1) := by decide +kernel
theorem dX3_init_179 : decode cX3_init 179 = .ok (.bipush 8, 2) := by decide +kernel
theorem dX3_init_181 : decode cX3_init 181 = .ok (.if_icmp .ge 23, 3) := by decide +kernel
theorem dX3_init_184 : decode cX3_init 184 = .ok (.aload_n 0, 1) := by decide +kernel
theorem dX3_init_185 : decode cX3_init 185 = .ok (.getfield 35, 3) := by decide +kernel
theorem dX3_init_188 : decode cX3_init 188 = .ok (.iload_n 1, 1) := by decide +kernel
theorem dX3_init_189 : decode cX3_init 189 = .ok (.iconst (-1), 1) := by decide +kernel
theorem dX3_init_190 : decode cX3_init 190 = .ok (.iastore, 1) := by decide +kernel
theorem dX3_init_191 : decode cX3_init 191 = .ok (.aload_n 0, 1) := by decide +kernel
theorem dX3_init_192 : decode cX3_init 192 = .ok (.getfield 44, 3) := by decide +kernel
theorem dX3_init_195 : decode cX3_init 195 = .ok (.iload_n 1, 1) := by decide +kernel
theorem dX3_init_196 : decode cX3_init 196 = .ok (.iconst (-1), 1) := by decide +kernel
theorem dX3_init_197 : decode cX3_init 197 = .ok (.iastore, 1) := by decide +kernel
theorem dX3_init_198 : decode cX3_init 198 = .ok (.iinc 1 1, 3) := by decide +kernel
theorem dX3_init_201 : decode cX3_init 201 = .ok (.goto (-23), 3) := by decide +kernel
theorem dX3_init_204 : decode cX3_init 204 = .ok (.return_, 1) := by decide +kernel
theorem dX3_thrown_0 : decode cX3_thrown 0 = .ok (.aload_n 0, 1) := by decide +kernel
theorem dX3_thrown_1 : decode cX3_thrown 1 = .ok (.getfield 62, 3) := by decide +kernel
theorem dX3_thrown_4 : decode cX3_thrown 4 = .ok (.ireturn, 1) := by decide +kernel
theorem dX3_goes_0 : decode cX3_goes 0 = .ok (.aload_n 0, 1) := by decide +kernel
theorem dX3_goes_1 : decode cX3_goes 1 = .ok (.iload_n 1, 1) := by decide +kernel
theorem dX3_goes_2 : decode cX3_goes 2 = .ok (.ifCond .ne 7, 3) := by decide +kernel
theorem dX3_goes_5 : decode cX3_goes 5 = .ok (.iconst 1, 1) := by decide +kernel
theorem dX3_goes_6 : decode cX3_goes 6 = .ok (.goto 12, 3) := by decide +kernel
theorem dX3_goes_9 : decode cX3_goes 9 = .ok (.iload_n 2, 1) := by decide +kernel
theorem dX3_goes_10 : decode cX3_goes 10 = .ok (.ifCond .ne 7, 3) := by decide +kernel
theorem dX3_goes_13 : decode cX3_goes 13 = .ok (.iconst 2, 1) := by decide +kernel
theorem dX3_goes_14 : decode cX3_goes 14 = .ok (.goto 4, 3) := by decide +kernel
theorem dX3_goes_17 : decode cX3_goes 17 = .ok (.iconst 0, 1) := by decide +kernel
theorem dX3_goes_18 : decode cX3_goes 18 = .ok (.putfield 62, 3) := by decide +kernel
theorem dX3_goes_21 : decode cX3_goes 21 = .ok (.aload_n 0, 1) := by decide +kernel
theorem dX3_goes_22 : decode cX3_goes 22 = .ok (.getfield 62, 3) := by decide +kernel
theorem dX3_goes_25 : decode cX3_goes 25 = .ok (.ifCond .ne 7, 3) := by decide +kernel
theorem dX3_goes_28 : decode cX3_goes 28 = .ok (.iconst 1, 1) := by decide +kernel
theorem dX3_goes_29 : decode cX3_goes 29 = .ok (.goto 4, 3) := by decide +kernel
theorem dX3_goes_32 : decode cX3_goes 32 = .ok (.iconst 0, 1) := by decide +kernel
theorem dX3_goes_33 : decode cX3_goes 33 = .ok (.ireturn, 1) := by decide +kernel
theorem dX3_isPavilion_0 : decode cX3_isPavilion 0 = .ok (.iload_n 0, 1) := by decide +kernel
theorem dX3_isPavilion_1 : decode cX3_isPavilion 1 = .ok (.ifCond .lt 13, 3) := by decide +kernel
theorem dX3_isPavilion_4 : decode cX3_isPavilion 4 = .ok (.iload_n 0, 1) := by decide +kernel
theorem dX3_isPavilion_5 : decode cX3_isPavilion 5 = .ok (.bipush 6, 2) := by decide +kernel
theorem dX3_isPavilion_7 : decode cX3_isPavilion 7 = .ok (.if_icmp .ge 7, 3) := by decide +kernel
theorem dX3_isPavilion_10 : decode cX3_isPavilion 10 = .ok (.iconst 1, 1) := by decide +kernel
theorem dX3_isPavilion_11 : decode cX3_isPavilion 11 = .ok (.goto 4, 3) := by decide +kernel
theorem dX3_isPavilion_14 : decode cX3_isPavilion 14 = .ok (.iconst 0, 1) := by decide +kernel
theorem dX3_isPavilion_15 : decode cX3_isPavilion 15 = .ok (.ireturn, 1) := by decide +kernel
theorem dX3_isVisitor_0 : decode cX3_isVisitor 0 = .ok (.iload_n 0, 1) := by decide +kernel
theorem dX3_isVisitor_1 : decode cX3_isVisitor 1 = .ok (.ifCond .lt 13, 3) := by decide +kernel
theorem dX3_isVisitor_4 : decode cX3_isVisitor 4 = .ok (.iload_n 0, 1) := by decide +kernel
theorem dX3_isVisitor_5 : decode cX3_isVisitor 5 = .ok (.bipush 8, 2) := by decide +kernel
theorem dX3_isVisitor_7 : decode cX3_isVisitor 7 = .ok (.if_icmp .ge 7, 3) := by decide +kernel
theorem dX3_isVisitor_10 : decode cX3_isVisitor 10 = .ok (.iconst 1, 1) := by decide +kernel
theorem dX3_isVisitor_11 : decode cX3_isVisitor 11 = .ok (.goto 4, 3) := by decide +kernel
theorem dX3_isVisitor_14 : decode cX3_isVisitor 14 = .ok (.iconst 0, 1) := by decide +kernel
theorem dX3_isVisitor_15 : decode cX3_isVisitor 15 = .ok (.ireturn, 1) := by decide +kernel
theorem dX3_puts_0 : decode cX3_puts 0 = .ok (.aload_n 0, 1) := by decide +kernel
theorem dX3_puts_1 : decode cX3_puts 1 = .ok (.getfield 23, 3) := by decide +kernel
theorem dX3_puts_4 : decode cX3_puts 4 = .ok (.iload_n 1, 1) := by decide +kernel
theorem dX3_puts_5 : decode cX3_puts 5 = .ok (.iaload, 1) := by decide +kernel
theorem dX3_puts_6 : decode cX3_puts 6 = .ok (.istore 4, 2) := by decide +kernel
theorem dX3_puts_8 : decode cX3_puts 8 = .ok (.iload 4, 2) := by decide +kernel
theorem dX3_puts_10 : decode cX3_puts 10 = .ok (.iload_n 2, 1) := by decide +kernel
theorem dX3_puts_11 : decode cX3_puts 11 = .ok (.if_icmp .le 35, 3) := by decide +kernel
theorem dX3_puts_14 : decode cX3_puts 14 = .ok (.aload_n 0, 1) := by decide +kernel
theorem dX3_puts_15 : decode cX3_puts 15 = .ok (.getfield 20, 3) := by decide +kernel
theorem dX3_puts_18 : decode cX3_puts 18 = .ok (.bipush 8, 2) := by decide +kernel
theorem dX3_puts_20 : decode cX3_puts 20 = .ok (.iload_n 1, 1) := by decide +kernel
theorem dX3_puts_21 : decode cX3_puts 21 = .ok (.imul, 1) := by decide +kernel
theorem dX3_puts_22 : decode cX3_puts 22 = .ok (.iload 4, 2) := by decide +kernel
theorem dX3_puts_24 : decode cX3_puts 24 = .ok (.iadd, 1) := by decide +kernel
theorem dX3_puts_25 : decode cX3_puts 25 = .ok (.aload_n 0, 1) := by decide +kernel
theorem dX3_puts_26 : decode cX3_puts 26 = .ok (.getfield 20, 3) := by decide +kernel
theorem dX3_puts_29 : decode cX3_puts 29 = .ok (.bipush 8, 2) := by decide +kernel
theorem dX3_puts_31 : decode cX3_puts 31 = .ok (.iload_n 1, 1) := by decide +kernel
theorem dX3_puts_32 : decode cX3_puts 32 = .ok (.imul, 1) := by decide +kernel
theorem dX3_puts_33 : decode cX3_puts 33 = .ok (.iload 4, 2) := by decide +kernel
theorem dX3_puts_35 : decode cX3_puts 35 = .ok (.iadd, 1) := by decide +kernel
theorem dX3_puts_36 : decode cX3_puts 36 = .ok (.iconst 1, 1) := by decide +kernel
theorem dX3_puts_37 : decode cX3_puts 37 = .ok (.isub, 1) := by decide +kernel
theorem dX3_puts_38 : decode cX3_puts 38 = .ok (.iaload, 1) := by decide +kernel
theorem dX3_puts_39 : decode cX3_puts 39 = .ok (.iastore, 1) := by decide +kernel
theorem dX3_puts_40 : decode cX3_puts 40 = .ok (.iinc 4 (-1), 3) := by decide +kernel
theorem dX3_puts_43 : decode cX3_puts 43 = .ok (.goto (-35), 3) := by decide +kernel
theorem dX3_puts_46 : decode cX3_puts 46 = .ok (.aload_n 0, 1) := by decide +kernel
theorem dX3_puts_47 : decode cX3_puts 47 = .ok (.getfield 20, 3) := by decide +kernel
theorem dX3_puts_50 : decode cX3_puts 50 = .ok (.bipush 8, 2) := by decide +kernel
theorem dX3_puts_52 : decode cX3_puts 52 = .ok (.iload_n 1, 1) := by decide +kernel
theorem dX3_puts_53 : decode cX3_puts 53 = .ok (.imul, 1) := by decide +kernel
theorem dX3_puts_54 : decode cX3_puts 54 = .ok (.iload_n 2, 1) := by decide +kernel
theorem dX3_puts_55 : decode cX3_puts 55 = .ok (.iadd, 1) := by decide +kernel
theorem dX3_puts_56 : decode cX3_puts 56 = .ok (.iload_n 3, 1) := by decide +kernel
theorem dX3_puts_57 : decode cX3_puts 57 = .ok (.iastore, 1) := by decide +kernel
theorem dX3_puts_58 : decode cX3_puts 58 = .ok (.aload_n 0, 1) := by decide +kernel
theorem dX3_puts_59 : decode cX3_puts 59 = .ok (.getfield 23, 3) := by decide +kernel
theorem dX3_puts_62 : decode cX3_puts 62 = .ok (.iload_n 1, 1) := by decide +kernel
theorem dX3_puts_63 : decode cX3_puts 63 = .ok (.dup2, 1) := by decide +kernel
theorem dX3_puts_64 : decode cX3_puts 64 = .ok (.iaload, 1) := by decide +kernel
theorem dX3_puts_65 : decode cX3_puts 65 = .ok (.iconst 1, 1) := by decide +kernel
theorem dX3_puts_66 : decode cX3_puts 66 = .ok (.iadd, 1) := by decide +kernel
theorem dX3_puts_67 : decode cX3_puts 67 = .ok (.iastore, 1) := by decide +kernel
theorem dX3_puts_68 : decode cX3_puts 68 = .ok (.aload_n 0, 1) := by decide +kernel
theorem dX3_puts_69 : decode cX3_puts 69 = .ok (.getfield 32, 3) := by decide +kernel
theorem dX3_puts_72 : decode cX3_puts 72 = .ok (.iload_n 3, 1) := by decide +kernel
theorem dX3_puts_73 : decode cX3_puts 73 = .ok (.iconst 1, 1) := by decide +kernel
theorem dX3_puts_74 : decode cX3_puts 74 = .ok (.iastore, 1) := by decide +kernel
theorem dX3_puts_75 : decode cX3_puts 75 = .ok (.aload_n 0, 1) := by decide +kernel
theorem dX3_puts_76 : decode cX3_puts 76 = .ok (.getfield 35, 3) := by decide +kernel
theorem dX3_puts_79 : decode cX3_puts 79 = .ok (.iload_n 3, 1) := by decide +kernel
theorem dX3_puts_80 : decode cX3_puts 80 = .ok (.iload_n 1, 1) := by decide +kernel
theorem dX3_puts_81 : decode cX3_puts 81 = .ok (.iastore, 1) := by decide +kernel
theorem dX3_puts_82 : decode cX3_puts 82 = .ok (.return_, 1) := by decide +kernel
theorem dX3_placeIn_0 : decode cX3_placeIn 0 = .ok (.iconst (-1), 1) := by decide +kernel
theorem dX3_placeIn_1 : decode cX3_placeIn 1 = .ok (.istore_n 3, 1) := by decide +kernel
theorem dX3_placeIn_2 : decode cX3_placeIn 2 = .ok (.iconst 0, 1) := by decide +kernel
theorem dX3_placeIn_3 : decode cX3_placeIn 3 = .ok (.istore 4, 2) := by decide +kernel
theorem dX3_placeIn_5 : decode cX3_placeIn 5 = .ok (.iload 4, 2) := by decide +kernel
theorem dX3_placeIn_7 : decode cX3_placeIn 7 = .ok (.aload_n 0, 1) := by decide +kernel
theorem dX3_placeIn_8 : decode cX3_placeIn 8 = .ok (.getfield 23, 3) := by decide +kernel
theorem dX3_placeIn_11 : decode cX3_placeIn 11 = .ok (.iload_n 1, 1) := by decide +kernel
theorem dX3_placeIn_12 : decode cX3_placeIn 12 = .ok (.iaload, 1) := by decide +kernel
theorem dX3_placeIn_13 : decode cX3_placeIn 13 = .ok (.if_icmp .ge 32, 3) := by decide +kernel
theorem dX3_placeIn_16 : decode cX3_placeIn 16 = .ok (.aload_n 0, 1) := by decide +kernel
theorem dX3_placeIn_17 : decode cX3_placeIn 17 = .ok (.getfield 20, 3) := by decide +kernel
theorem dX3_placeIn_20 : decode cX3_placeIn 20 = .ok (.bipush 8, 2) := by decide +kernel
theorem dX3_placeIn_22 : decode cX3_placeIn 22 = .ok (.iload_n 1, 1) := by decide +kernel
theorem dX3_placeIn_23 : decode cX3_placeIn 23 = .ok (.imul, 1) := by decide +kernel
theorem dX3_placeIn_24 : decode cX3_placeIn 24 = .ok (.iload 4, 2) := by decide +kernel
theorem dX3_placeIn_26 : decode cX3_placeIn 26 = .ok (.iadd, 1) := by decide +kernel
theorem dX3_placeIn_27 : decode cX3_placeIn 27 = .ok (.iaload, 1) := by decide +kernel
theorem dX3_placeIn_28 : decode cX3_placeIn 28 = .ok (.iload_n 2, 1) := by decide +kernel
theorem dX3_placeIn_29 : decode cX3_placeIn 29 = .ok (.if_icmp .ne 8, 3) := by decide +kernel
theorem dX3_placeIn_32 : decode cX3_placeIn 32 = .ok (.iload 4, 2) := by decide +kernel
theorem dX3_placeIn_34 : decode cX3_placeIn 34 = .ok (.goto 4, 3) := by decide +kernel
theorem dX3_placeIn_37 : decode cX3_placeIn 37 = .ok (.iload_n 3, 1) := by decide +kernel
theorem dX3_placeIn_38 : decode cX3_placeIn 38 = .ok (.istore_n 3, 1) := by decide +kernel
theorem dX3_placeIn_39 : decode cX3_placeIn 39 = .ok (.iinc 4 1, 3) := by decide +kernel
theorem dX3_placeIn_42 : decode cX3_placeIn 42 = .ok (.goto (-37), 3) := by decide +kernel
theorem dX3_placeIn_45 : decode cX3_placeIn 45 = .ok (.iload_n 3, 1) := by decide +kernel
theorem dX3_placeIn_46 : decode cX3_placeIn 46 = .ok (.ireturn, 1) := by decide +kernel
set_option maxRecDepth 20000 in
theorem ggX3_leaves_X3_placeIn : GoodIn wsX3_leaves wsX3_placeIn := goodIn_r _ [9, 2, 3, 10, 11, 12, 13, 14, 15, 16, 17, 18, 19, 20, 21, 22, 23, 24, 25, 26, 27, 28] (by decide +kernel) (by decide +kernel)
set_option maxRecDepth 20000 in
theorem gX3_leaves_X3_placeIn : GoodIn wsX3_leaves (wsV RX3 66 RX3 yX3_placeIn wsX3_placeIn) := goodIn_app (goodIn_of _ (by decide +kernel)) ggX3_leaves_X3_placeIn
theorem dX3_leaves_0 : decode cX3_leaves 0 = .ok (.aload_n 0, 1) := by decide +kernel
theorem dX3_leaves_1 : decode cX3_leaves 1 = .ok (.getfield 35, 3) := by decide +kernel
theorem dX3_leaves_4 : decode cX3_leaves 4 = .ok (.iload_n 1, 1) := by decide +kernel
theorem dX3_leaves_5 : decode cX3_leaves 5 = .ok (.iaload, 1) := by decide +kernel
theorem dX3_leaves_6 : decode cX3_leaves 6 = .ok (.istore_n 2, 1) := by decide +kernel
theorem dX3_leaves_7 : decode cX3_leaves 7 = .ok (.aload_n 0, 1) := by decide +kernel
theorem dX3_leaves_8 : decode cX3_leaves 8 = .ok (.iload_n 2, 1) := by decide +kernel
theorem dX3_leaves_9 : decode cX3_leaves 9 = .ok (.iload_n 1, 1) := by decide +kernel
theorem dX3_leaves_10 : decode cX3_leaves 10 = .ok (.invokevirtual 66, 3) := by decide +kernel
theorem dX3_leaves_13 : decode cX3_leaves 13 = .ok (.istore_n 3, 1) := by decide +kernel
theorem dX3_leaves_14 : decode cX3_leaves 14 = .ok (.aload_n 0, 1) := by decide +kernel
theorem dX3_leaves_15 : decode cX3_leaves 15 = .ok (.getfield 23, 3) := by decide +kernel
theorem dX3_leaves_18 : decode cX3_leaves 18 = .ok (.iload_n 2, 1) := by decide +kernel
theorem dX3_leaves_19 : decode cX3_leaves 19 = .ok (.dup2, 1) := by decide +kernel
theorem dX3_leaves_20 : decode cX3_leaves 20 = .ok (.iaload, 1) := by decide +kernel
theorem dX3_leaves_21 : decode cX3_leaves 21 = .ok (.iconst 1, 1) := by decide +kernel
theorem dX3_leaves_22 : decode cX3_leaves 22 = .ok (.isub, 1) := by decide +kernel
theorem dX3_leaves_23 : decode cX3_leaves 23 = .ok (.iastore, 1) := by decide +kernel
theorem dX3_leaves_24 : decode cX3_leaves 24 = .ok (.iload_n 3, 1) := by decide +kernel
theorem dX3_leaves_25 : decode cX3_leaves 25 = .ok (.istore 4, 2) := by decide +kernel
theorem dX3_leaves_27 : decode cX3_leaves 27 = .ok (.iload 4, 2) := by decide +kernel
theorem dX3_leaves_29 : decode cX3_leaves 29 = .ok (.aload_n 0, 1) := by decide +kernel
theorem dX3_leaves_30 : decode cX3_leaves 30 = .ok (.getfield 23, 3) := by decide +kernel
theorem dX3_leaves_33 : decode cX3_leaves 33 = .ok (.iload_n 2, 1) := by decide +kernel
theorem dX3_leaves_34 : decode cX3_leaves 34 = .ok (.iaload, 1) := by decide +kernel
theorem dX3_leaves_35 : decode cX3_leaves 35 = .ok (.if_icmp .ge 35, 3) := by decide +kernel
theorem dX3_leaves_38 : decode cX3_leaves 38 = .ok (.aload_n 0, 1) := by decide +kernel
theorem dX3_leaves_39 : decode cX3_leaves 39 = .ok (.getfield 20, 3) := by decide +kernel
theorem dX3_leaves_42 : decode cX3_leaves 42 = .ok (.bipush 8, 2) := by decide +kernel
theorem dX3_leaves_44 : decode cX3_leaves 44 = .ok (.iload_n 2, 1) := by decide +kernel
theorem dX3_leaves_45 : decode cX3_leaves 45 = .ok (.imul, 1) := by decide +kernel
theorem dX3_leaves_46 : decode cX3_leaves 46 = .ok (.iload 4, 2) := by decide +kernel
theorem dX3_leaves_48 : decode cX3_leaves 48 = .ok (.iadd, 1) := by decide +kernel
theorem dX3_leaves_49 : decode cX3_leaves 49 = .ok (.aload_n 0, 1) := by decide +kernel
theorem dX3_leaves_50 : decode cX3_leaves 50 = .ok (.getfield 20, 3) := by decide +kernel
theorem dX3_leaves_53 : decode cX3_leaves 53 = .ok (.bipush 8, 2) := by decide +kernel
theorem dX3_leaves_55 : decode cX3_leaves 55 = .ok (.iload_n 2, 1) := by decide +kernel
theorem dX3_leaves_56 : decode cX3_leaves 56 = .ok (.imul, 1) := by decide +kernel
theorem dX3_leaves_57 : decode cX3_leaves 57 = .ok (.iload 4, 2) := by decide +kernel
theorem dX3_leaves_59 : decode cX3_leaves 59 = .ok (.iadd, 1) := by decide +kernel
theorem dX3_leaves_60 : decode cX3_leaves 60 = .ok (.iconst 1, 1) := by decide +kernel
theorem dX3_leaves_61 : decode cX3_leaves 61 = .ok (.iadd, 1) := by decide +kernel
theorem dX3_leaves_62 : decode cX3_leaves 62 = .ok (.iaload, 1) := by decide +kernel
theorem dX3_leaves_63 : decode cX3_leaves 63 = .ok (.iastore, 1) := by decide +kernel
theorem dX3_leaves_64 : decode cX3_leaves 64 = .ok (.iinc 4 1, 3) := by decide +kernel
theorem dX3_leaves_67 : decode cX3_leaves 67 = .ok (.goto (-40), 3) := by decide +kernel
theorem dX3_leaves_70 : decode cX3_leaves 70 = .ok (.aload_n 0, 1) := by decide +kernel
theorem dX3_leaves_71 : decode cX3_leaves 71 = .ok (.getfield 32, 3) := by decide +kernel
theorem dX3_leaves_74 : decode cX3_leaves 74 = .ok (.iload_n 1, 1) := by decide +kernel
theorem dX3_leaves_75 : decode cX3_leaves 75 = .ok (.iconst 0, 1) := by decide +kernel
theorem dX3_leaves_76 : decode cX3_leaves 76 = .ok (.iastore, 1) := by decide +kernel
theorem dX3_leaves_77 : decode cX3_leaves 77 = .ok (.aload_n 0, 1) := by decide +kernel
theorem dX3_leaves_78 : decode cX3_leaves 78 = .ok (.getfield 35, 3) := by decide +kernel
theorem dX3_leaves_81 : decode cX3_leaves 81 = .ok (.iload_n 1, 1) := by decide +kernel
theorem dX3_leaves_82 : decode cX3_leaves 82 = .ok (.iconst (-1), 1) := by decide +kernel
theorem dX3_leaves_83 : decode cX3_leaves 83 = .ok (.iastore, 1) := by decide +kernel
theorem dX3_leaves_84 : decode cX3_leaves 84 = .ok (.return_, 1) := by decide +kernel
theorem dX3_loses_0 : decode cX3_loses 0 = .ok (.aload_n 0, 1) := by decide +kernel
theorem dX3_loses_1 : decode cX3_loses 1 = .ok (.getfield 44, 3) := by decide +kernel
theorem dX3_loses_4 : decode cX3_loses 4 = .ok (.iload_n 1, 1) := by decide +kernel
theorem dX3_loses_5 : decode cX3_loses 5 = .ok (.iconst (-1), 1) := by decide +kernel
theorem dX3_loses_6 : decode cX3_loses 6 = .ok (.iastore, 1) := by decide +kernel
theorem dX3_loses_7 : decode cX3_loses 7 = .ok (.aload_n 0, 1) := by decide +kernel
theorem dX3_loses_8 : decode cX3_loses 8 = .ok (.getfield 50, 3) := by decide +kernel
theorem dX3_loses_11 : decode cX3_loses 11 = .ok (.iload_n 1, 1) := by decide +kernel
theorem dX3_loses_12 : decode cX3_loses 12 = .ok (.iconst 0, 1) := by decide +kernel
theorem dX3_loses_13 : decode cX3_loses 13 = .ok (.bastore, 1) := by decide +kernel
theorem dX3_loses_14 : decode cX3_loses 14 = .ok (.return_, 1) := by decide +kernel
theorem dX3_insideOf_0 : decode cX3_insideOf 0 = .ok (.iconst 0, 1) := by decide +kernel
theorem dX3_insideOf_1 : decode cX3_insideOf 1 = .ok (.istore_n 2, 1) := by decide +kernel
theorem dX3_insideOf_2 : decode cX3_insideOf 2 = .ok (.iconst 0, 1) := by decide +kernel
theorem dX3_insideOf_3 : decode cX3_insideOf 3 = .ok (.istore_n 3, 1) := by decide +kernel
theorem dX3_insideOf_4 : decode cX3_insideOf 4 = .ok (.iload_n 3, 1) := by decide +kernel
theorem dX3_insideOf_5 : decode cX3_insideOf 5 = .ok (.bipush 8, 2) := by decide +kernel
theorem dX3_insideOf_7 : decode cX3_insideOf 7 = .ok (.if_icmp .ge 37, 3) := by decide +kernel
theorem dX3_insideOf_10 : decode cX3_insideOf 10 = .ok (.iload_n 2, 1) := by decide +kernel
theorem dX3_insideOf_11 : decode cX3_insideOf 11 = .ok (.aload_n 0, 1) := by decide +kernel
theorem dX3_insideOf_12 : decode cX3_insideOf 12 = .ok (.getfield 32, 3) := by decide +kernel
theorem dX3_insideOf_15 : decode cX3_insideOf 15 = .ok (.iload_n 3, 1) := by decide +kernel
theorem dX3_insideOf_16 : decode cX3_insideOf 16 = .ok (.iaload, 1) := by decide +kernel
theorem dX3_insideOf_17 : decode cX3_insideOf 17 = .ok (.iconst 2, 1) := by decide +kernel
theorem dX3_insideOf_18 : decode cX3_insideOf 18 = .ok (.if_icmp .ne 17, 3) := by decide +kernel
theorem dX3_insideOf_21 : decode cX3_insideOf 21 = .ok (.aload_n 0, 1) := by decide +kernel
theorem dX3_insideOf_22 : decode cX3_insideOf 22 = .ok (.getfield 35, 3) := by decide +kernel
theorem dX3_insideOf_25 : decode cX3_insideOf 25 = .ok (.iload_n 3, 1) := by decide +kernel
theorem dX3_insideOf_26 : decode cX3_insideOf 26 = .ok (.iaload, 1) := by decide +kernel
theorem dX3_insideOf_27 : decode cX3_insideOf 27 = .ok (.iload_n 1, 1) := by decide +kernel
theorem dX3_insideOf_28 : decode cX3_insideOf 28 = .ok (.if_icmp .ne 7, 3) := by decide +kernel
theorem dX3_insideOf_31 : decode cX3_insideOf 31 = .ok (.iconst 1, 1) := by decide +kernel
theorem dX3_insideOf_32 : decode cX3_insideOf 32 = .ok (.goto 4, 3) := by decide +kernel
theorem dX3_insideOf_35 : decode cX3_insideOf 35 = .ok (.iconst 0, 1) := by decide +kernel
theorem dX3_insideOf_36 : decode cX3_insideOf 36 = .ok (.iadd, 1) := by decide +kernel
theorem dX3_insideOf_37 : decode cX3_insideOf 37 = .ok (.istore_n 2, 1) := by decide +kernel
theorem dX3_insideOf_38 : decode cX3_insideOf 38 = .ok (.iinc 3 1, 3) := by decide +kernel
theorem dX3_insideOf_41 : decode cX3_insideOf 41 = .ok (.goto (-37), 3) := by decide +kernel
theorem dX3_insideOf_44 : decode cX3_insideOf 44 = .ok (.iload_n 2, 1) := by decide +kernel
theorem dX3_insideOf_45 : decode cX3_insideOf 45 = .ok (.ireturn, 1) := by decide +kernel
set_option maxRecDepth 20000 in
theorem ggX3_setPavilion_X3_isPavilion : GoodIn wsX3_setPavilion wsX3_isPavilion := goodIn_r _ [6] (by decide +kernel) (by decide +kernel)
set_option maxRecDepth 20000 in
theorem gX3_setPavilion_X3_isPavilion : GoodIn wsX3_setPavilion (va_wsS RX3 70 yX3_isPavilion wsX3_isPavilion) := goodIn_app (goodIn_of _ (by decide +kernel)) ggX3_setPavilion_X3_isPavilion
set_option maxRecDepth 20000 in
theorem ggX3_setPavilion_X3_goes : GoodIn wsX3_setPavilion wsX3_goes := goodIn_r _ [10, 11, 12, 13, 14, 15, 16, 17, 18, 19, 20, 21, 22, 23, 24, 25, 26, 27, 28, 29, 30] (by decide +kernel) (by decide +kernel)
set_option maxRecDepth 20000 in
theorem gX3_setPavilion_X3_goes : GoodIn wsX3_setPavilion (wsV RX3 74 RX3 yX3_goes wsX3_goes) := goodIn_app (goodIn_of _ (by decide +kernel)) ggX3_setPavilion_X3_goes
theorem dX3_setPavilion_0 : decode cX3_setPavilion 0 = .ok (.aload_n 0, 1) := by decide +kernel
theorem dX3_setPavilion_1 : decode cX3_setPavilion 1 = .ok (.iload_n 1, 1) := by decide +kernel
theorem dX3_setPavilion_2 : decode cX3_setPavilion 2 = .ok (.invokestatic 70, 3) := by decide +kernel
theorem dX3_setPavilion_5 : decode cX3_setPavilion 5 = .ok (.iload_n 2, 1) := by decide +kernel
theorem dX3_setPavilion_6 : decode cX3_setPavilion 6 = .ok (.iconst 1, 1) := by decide +kernel
theorem dX3_setPavilion_7 : decode cX3_setPavilion 7 = .ok (.if_icmp .lt 24, 3) := by decide +kernel
theorem dX3_setPavilion_10 : decode cX3_setPavilion 10 = .ok (.iload_n 2, 1) := by decide +kernel
theorem dX3_setPavilion_11 : decode cX3_setPavilion 11 = .ok (.bipush 8, 2) := by decide +kernel
theorem dX3_setPavilion_13 : decode cX3_setPavilion 13 = .ok (.if_icmp .gt 18, 3) := by decide +kernel
theorem dX3_setPavilion_16 : decode cX3_setPavilion 16 = .ok (.iload_n 3, 1) := by decide +kernel
theorem dX3_setPavilion_17 : decode cX3_setPavilion 17 = .ok (.iconst 1, 1) := by decide +kernel
theorem dX3_setPavilion_18 : decode cX3_setPavilion 18 = .ok (.if_icmp .lt 13, 3) := by decide +kernel
theorem dX3_setPavilion_21 : decode cX3_setPavilion 21 = .ok (.iload_n 3, 1) := by decide +kernel
theorem dX3_setPavilion_22 : decode cX3_setPavilion 22 = .ok (.bipush 60, 2) := by decide +kernel
theorem dX3_setPavilion_24 : decode cX3_setPavilion 24 = .ok (.if_icmp .gt 7, 3) := by decide +kernel
theorem dX3_setPavilion_27 : decode cX3_setPavilion 27 = .ok (.iconst 1, 1) := by decide +kernel
theorem dX3_setPavilion_28 : decode cX3_setPavilion 28 = .ok (.goto 4, 3) := by decide +kernel
theorem dX3_setPavilion_31 : decode cX3_setPavilion 31 = .ok (.iconst 0, 1) := by decide +kernel
theorem dX3_setPavilion_32 : decode cX3_setPavilion 32 = .ok (.invokevirtual 74, 3) := by decide +kernel
theorem dX3_setPavilion_35 : decode cX3_setPavilion 35 = .ok (.ifCond .eq 17, 3) := by decide +kernel
theorem dX3_setPavilion_38 : decode cX3_setPavilion 38 = .ok (.aload_n 0, 1) := by decide +kernel
theorem dX3_setPavilion_39 : decode cX3_setPavilion 39 = .ok (.getfield 7, 3) := by decide +kernel
theorem dX3_setPavilion_42 : decode cX3_setPavilion 42 = .ok (.iload_n 1, 1) := by decide +kernel
theorem dX3_setPavilion_43 : decode cX3_setPavilion 43 = .ok (.iload_n 2, 1) := by decide +kernel
theorem dX3_setPavilion_44 : decode cX3_setPavilion 44 = .ok (.iastore, 1) := by decide +kernel
theorem dX3_setPavilion_45 : decode cX3_setPavilion 45 = .ok (.aload_n 0, 1) := by decide +kernel
theorem dX3_setPavilion_46 : decode cX3_setPavilion 46 = .ok (.getfield 13, 3) := by decide +kernel
theorem dX3_setPavilion_49 : decode cX3_setPavilion 49 = .ok (.iload_n 1, 1) := by decide +kernel
theorem dX3_setPavilion_50 : decode cX3_setPavilion 50 = .ok (.iload_n 3, 1) := by decide +kernel
theorem dX3_setPavilion_51 : decode cX3_setPavilion 51 = .ok (.iastore, 1) := by decide +kernel
theorem dX3_setPavilion_52 : decode cX3_setPavilion 52 = .ok (.return_, 1) := by decide +kernel
set_option maxRecDepth 20000 in
theorem ggX3_open_X3_isPavilion : GoodIn wsX3_open wsX3_isPavilion := goodIn_r _ [8] (by decide +kernel) (by decide +kernel)
set_option maxRecDepth 20000 in
theorem gX3_open_X3_isPavilion : GoodIn wsX3_open (va_wsS RX3 70 yX3_isPavilion wsX3_isPavilion) := goodIn_app (goodIn_of _ (by decide +kernel)) ggX3_open_X3_isPavilion
set_option maxRecDepth 20000 in
theorem ggX3_open_X3_goes : GoodIn wsX3_open wsX3_goes := goodIn_r _ [12, 13, 29, 30, 31, 32, 33, 34, 35, 36, 37, 38, 39, 40, 41, 42, 43, 44, 45, 46, 47] (by decide +kernel) (by decide +kernel)
set_option maxRecDepth 20000 in
theorem gX3_open_X3_goes : GoodIn wsX3_open (wsV RX3 74 RX3 yX3_goes wsX3_goes) := goodIn_app (goodIn_of _ (by decide +kernel)) ggX3_open_X3_goes
set_option maxRecDepth 20000 in
theorem ggX3_open_X3_leaves : GoodIn wsX3_open wsX3_leaves := goodIn_r _ [17, 18, 2, 3, 19, 20, 21, 22, 7, 23, 29, 30, 31, 32, 33, 34, 35, 36, 37, 38, 39, 40, 41, 42, 43, 44, 45, 46, 47] (by decide +kernel) (by decide +kernel)
set_option maxRecDepth 20000 in
theorem gX3_open_X3_leaves : GoodIn wsX3_open (wsV RX3 78 RX3 yX3_leaves wsX3_leaves) := goodIn_app (goodIn_of _ (by decide +kernel)) ggX3_open_X3_leaves
set_option maxRecDepth 20000 in
theorem ggX3_open_X3_loses : GoodIn wsX3_open wsX3_loses := goodIn_r _ [27, 28, 4, 29, 30, 31, 32, 33, 34, 35, 36, 37, 38, 39, 40, 41, 42, 43, 44, 45, 46, 47] (by decide +kernel) (by decide +kernel)
set_option maxRecDepth 20000 in
theorem gX3_open_X3_loses : GoodIn wsX3_open (wsV RX3 82 RX3 yX3_loses wsX3_loses) := goodIn_app (goodIn_of _ (by decide +kernel)) ggX3_open_X3_loses
theorem dX3_open_0 : decode cX3_open 0 = .ok (.aload_n 0, 1) := by decide +kernel
theorem dX3_open_1 : decode cX3_open 1 = .ok (.iload_n 1, 1) := by decide +kernel
theorem dX3_open_2 : decode cX3_open 2 = .ok (.invokestatic 70, 3) := by decide +kernel
theorem dX3_open_5 : decode cX3_open 5 = .ok (.iconst 1, 1) := by decide +kernel
theorem dX3_open_6 : decode cX3_open 6 = .ok (.invokevirtual 74, 3) := by decide +kernel
theorem dX3_open_9 : decode cX3_open 9 = .ok (.ifCond .ne 5, 3) := by decide +kernel
theorem dX3_open_12 : decode cX3_open 12 = .ok (.iconst 0, 1) := by decide +kernel
theorem dX3_open_13 : decode cX3_open 13 = .ok (.ireturn, 1) := by decide +kernel
theorem dX3_open_14 : decode cX3_open 14 = .ok (.iconst 0, 1) := by decide +kernel
theorem dX3_open_15 : decode cX3_open 15 = .ok (.istore_n 3, 1) := by decide +kernel
theorem dX3_open_16 : decode cX3_open 16 = .ok (.aload_n 0, 1) := by decide +kernel
theorem dX3_open_17 : decode cX3_open 17 = .ok (.getfield 16, 3) := by decide +kernel
theorem dX3_open_20 : decode cX3_open 20 = .ok (.iload_n 1, 1) := by decide +kernel
theorem dX3_open_21 : decode cX3_open 21 = .ok (.iload_n 2, 1) := by decide +kernel
theorem dX3_open_22 : decode cX3_open 22 = .ok (.ifCond .ne 7, 3) := by decide +kernel
theorem dX3_open_25 : decode cX3_open 25 = .ok (.iconst 1, 1) := by decide +kernel
theorem dX3_open_26 : decode cX3_open 26 = .ok (.goto 4, 3) := by decide +kernel
theorem dX3_open_29 : decode cX3_open 29 = .ok (.iconst 0, 1) := by decide +kernel
theorem dX3_open_30 : decode cX3_open 30 = .ok (.bastore, 1) := by decide +kernel
theorem dX3_open_31 : decode cX3_open 31 = .ok (.iload_n 2, 1) := by decide +kernel
theorem dX3_open_32 : decode cX3_open 32 = .ok (.ifCond .ne 51, 3) := by decide +kernel
theorem dX3_open_35 : decode cX3_open 35 = .ok (.aload_n 0, 1) := by decide +kernel
theorem dX3_open_36 : decode cX3_open 36 = .ok (.getfield 23, 3) := by decide +kernel
theorem dX3_open_39 : decode cX3_open 39 = .ok (.iload_n 1, 1) := by decide +kernel
theorem dX3_open_40 : decode cX3_open 40 = .ok (.iaload, 1) := by decide +kernel
theorem dX3_open_41 : decode cX3_open 41 = .ok (.ifCond .le 42, 3) := by decide +kernel
theorem dX3_open_44 : decode cX3_open 44 = .ok (.aload_n 0, 1) := by decide +kernel
theorem dX3_open_45 : decode cX3_open 45 = .ok (.getfield 20, 3) := by decide +kernel
theorem dX3_open_48 : decode cX3_open 48 = .ok (.bipush 8, 2) := by decide +kernel
theorem dX3_open_50 : decode cX3_open 50 = .ok (.iload_n 1, 1) := by decide +kernel
theorem dX3_open_51 : decode cX3_open 51 = .ok (.imul, 1) := by decide +kernel
theorem dX3_open_52 : decode cX3_open 52 = .ok (.iaload, 1) := by decide +kernel
theorem dX3_open_53 : decode cX3_open 53 = .ok (.istore 4, 2) := by decide +kernel
theorem dX3_open_55 : decode cX3_open 55 = .ok (.aload_n 0, 1) := by decide +kernel
theorem dX3_open_56 : decode cX3_open 56 = .ok (.iload 4, 2) := by decide +kernel
theorem dX3_open_58 : decode cX3_open 58 = .ok (.invokevirtual 78, 3) := by decide +kernel
theorem dX3_open_61 : decode cX3_open 61 = .ok (.aload_n 0, 1) := by decide +kernel
theorem dX3_open_62 : decode cX3_open 62 = .ok (.getfield 50, 3) := by decide +kernel
theorem dX3_open_65 : decode cX3_open 65 = .ok (.iload 4, 2) := by decide +kernel
theorem dX3_open_67 : decode cX3_open 67 = .ok (.baload, 1) := by decide +kernel
theorem dX3_open_68 : decode cX3_open 68 = .ok (.ifCond .eq 9, 3) := by decide +kernel
theorem dX3_open_71 : decode cX3_open 71 = .ok (.aload_n 0, 1) := by decide +kernel
theorem dX3_open_72 : decode cX3_open 72 = .ok (.iload 4, 2) := by decide +kernel
theorem dX3_open_74 : decode cX3_open 74 = .ok (.invokevirtual 82, 3) := by decide +kernel
theorem dX3_open_77 : decode cX3_open 77 = .ok (.iinc 3 1, 3) := by decide +kernel
theorem dX3_open_80 : decode cX3_open 80 = .ok (.goto (-49), 3) := by decide +kernel
theorem dX3_open_83 : decode cX3_open 83 = .ok (.iload_n 3, 1) := by decide +kernel
theorem dX3_open_84 : decode cX3_open 84 = .ok (.ireturn, 1) := by decide +kernel
theorem dX3_placeInPlan_0 : decode cX3_placeInPlan 0 = .ok (.iconst (-1), 1) := by decide +kernel
theorem dX3_placeInPlan_1 : decode cX3_placeInPlan 1 = .ok (.istore_n 3, 1) := by decide +kernel
theorem dX3_placeInPlan_2 : decode cX3_placeInPlan 2 = .ok (.iconst 0, 1) := by decide +kernel
theorem dX3_placeInPlan_3 : decode cX3_placeInPlan 3 = .ok (.istore 4, 2) := by decide +kernel
theorem dX3_placeInPlan_5 : decode cX3_placeInPlan 5 = .ok (.iload 4, 2) := by decide +kernel
theorem dX3_placeInPlan_7 : decode cX3_placeInPlan 7 = .ok (.aload_n 0, 1) := by decide +kernel
theorem dX3_placeInPlan_8 : decode cX3_placeInPlan 8 = .ok (.getfield 29, 3) := by decide +kernel
theorem dX3_placeInPlan_11 : decode cX3_placeInPlan 11 = .ok (.iload_n 1, 1) := by decide +kernel
theorem dX3_placeInPlan_12 : decode cX3_placeInPlan 12 = .ok (.iaload, 1) := by decide +kernel
theorem dX3_placeInPlan_13 : decode cX3_placeInPlan 13 = .ok (.if_icmp .ge 32, 3) := by decide +kernel
theorem dX3_placeInPlan_16 : decode cX3_placeInPlan 16 = .ok (.aload_n 0, 1) := by decide +kernel
theorem dX3_placeInPlan_17 : decode cX3_placeInPlan 17 = .ok (.getfield 26, 3) := by decide +kernel
theorem dX3_placeInPlan_20 : decode cX3_placeInPlan 20 = .ok (.bipush 6, 2) := by decide +kernel
theorem dX3_placeInPlan_22 : decode cX3_placeInPlan 22 = .ok (.iload_n 1, 1) := by decide +kernel
theorem dX3_placeInPlan_23 : decode cX3_placeInPlan 23 = .ok (.imul, 1) := by decide +kernel
theorem dX3_placeInPlan_24 : decode cX3_placeInPlan 24 = .ok (.iload 4, 2) := by decide +kernel
theorem dX3_placeInPlan_26 : decode cX3_placeInPlan 26 = .ok (.iadd, 1) := by decide +kernel
theorem dX3_placeInPlan_27 : decode cX3_placeInPlan 27 = .ok (.iaload, 1) := by decide +kernel
theorem dX3_placeInPlan_28 : decode cX3_placeInPlan 28 = .ok (.iload_n 2, 1) := by decide +kernel
theorem dX3_placeInPlan_29 : decode cX3_placeInPlan 29 = .ok (.if_icmp .ne 8, 3) := by decide +kernel
theorem dX3_placeInPlan_32 : decode cX3_placeInPlan 32 = .ok (.iload 4, 2) := by decide +kernel
theorem dX3_placeInPlan_34 : decode cX3_placeInPlan 34 = .ok (.goto 4, 3) := by decide +kernel
theorem dX3_placeInPlan_37 : decode cX3_placeInPlan 37 = .ok (.iload_n 3, 1) := by decide +kernel
theorem dX3_placeInPlan_38 : decode cX3_placeInPlan 38 = .ok (.istore_n 3, 1) := by decide +kernel
theorem dX3_placeInPlan_39 : decode cX3_placeInPlan 39 = .ok (.iinc 4 1, 3) := by decide +kernel
theorem dX3_placeInPlan_42 : decode cX3_placeInPlan 42 = .ok (.goto (-37), 3) := by decide +kernel
theorem dX3_placeInPlan_45 : decode cX3_placeInPlan 45 = .ok (.iload_n 3, 1) := by decide +kernel
theorem dX3_placeInPlan_46 : decode cX3_placeInPlan 46 = .ok (.ireturn, 1) := by decide +kernel
set_option maxRecDepth 20000 in
theorem ggX3_plan_X3_isVisitor : GoodIn wsX3_plan wsX3_isVisitor := goodIn_r _ [6] (by decide +kernel) (by decide +kernel)
set_option maxRecDepth 20000 in
theorem gX3_plan_X3_isVisitor : GoodIn wsX3_plan (va_wsS RX3 85 yX3_isVisitor wsX3_isVisitor) := goodIn_app (goodIn_of _ (by decide +kernel)) ggX3_plan_X3_isVisitor
set_option maxRecDepth 20000 in
theorem ggX3_plan_X3_isPavilion : GoodIn wsX3_plan wsX3_isPavilion := goodIn_r _ [9] (by decide +kernel) (by decide +kernel)
set_option maxRecDepth 20000 in
theorem gX3_plan_X3_isPavilion : GoodIn wsX3_plan (va_wsS RX3 70 yX3_isPavilion wsX3_isPavilion) := goodIn_app (goodIn_of _ (by decide +kernel)) ggX3_plan_X3_isPavilion
set_option maxRecDepth 20000 in
theorem ggX3_plan_X3_placeInPlan : GoodIn wsX3_plan wsX3_placeInPlan := goodIn_r _ [13, 2, 1, 19, 20, 21, 22, 23, 24, 25, 26, 27, 28, 29, 30, 31, 32, 33, 34, 35, 36, 37] (by decide +kernel) (by decide +kernel)
set_option maxRecDepth 20000 in
theorem gX3_plan_X3_placeInPlan : GoodIn wsX3_plan (wsV RX3 88 RX3 yX3_placeInPlan wsX3_placeInPlan) := goodIn_app (goodIn_of _ (by decide +kernel)) ggX3_plan_X3_placeInPlan
set_option maxRecDepth 20000 in
theorem ggX3_plan_X3_goes : GoodIn wsX3_plan wsX3_goes := goodIn_r _ [17, 18, 19, 20, 21, 22, 23, 24, 25, 26, 27, 28, 29, 30, 31, 32, 33, 34, 35, 36, 37] (by decide +kernel) (by decide +kernel)
set_option maxRecDepth 20000 in
theorem gX3_plan_X3_goes : GoodIn wsX3_plan (wsV RX3 74 RX3 yX3_goes wsX3_goes) := goodIn_app (goodIn_of _ (by decide +kernel)) ggX3_plan_X3_goes
theorem dX3_plan_0 : decode cX3_plan 0 = .ok (.iload_n 1, 1) := by decide +kernel
theorem dX3_plan_1 : decode cX3_plan 1 = .ok (.invokestatic 85, 3) := by decide +kernel
theorem dX3_plan_4 : decode cX3_plan 4 = .ok (.ifCond .eq 14, 3) := by decide +kernel
theorem dX3_plan_7 : decode cX3_plan 7 = .ok (.iload_n 2, 1) := by decide +kernel
theorem dX3_plan_8 : decode cX3_plan 8 = .ok (.invokestatic 70, 3) := by decide +kernel
theorem dX3_plan_11 : decode cX3_plan 11 = .ok (.ifCond .eq 7, 3) := by decide +kernel
theorem dX3_plan_14 : decode cX3_plan 14 = .ok (.iconst 1, 1) := by decide +kernel
theorem dX3_plan_15 : decode cX3_plan 15 = .ok (.goto 4, 3) := by decide +kernel
theorem dX3_plan_18 : decode cX3_plan 18 = .ok (.iconst 0, 1) := by decide +kernel
theorem dX3_plan_19 : decode cX3_plan 19 = .ok (.istore_n 3, 1) := by decide +kernel
theorem dX3_plan_20 : decode cX3_plan 20 = .ok (.aload_n 0, 1) := by decide +kernel
theorem dX3_plan_21 : decode cX3_plan 21 = .ok (.iload_n 3, 1) := by decide +kernel
theorem dX3_plan_22 : decode cX3_plan 22 = .ok (.iload_n 3, 1) := by decide +kernel
theorem dX3_plan_23 : decode cX3_plan 23 = .ok (.ifCond .eq 16, 3) := by decide +kernel
theorem dX3_plan_26 : decode cX3_plan 26 = .ok (.aload_n 0, 1) := by decide +kernel
theorem dX3_plan_27 : decode cX3_plan 27 = .ok (.iload_n 1, 1) := by decide +kernel
theorem dX3_plan_28 : decode cX3_plan 28 = .ok (.iload_n 2, 1) := by decide +kernel
theorem dX3_plan_29 : decode cX3_plan 29 = .ok (.invokevirtual 88, 3) := by decide +kernel
theorem dX3_plan_32 : decode cX3_plan 32 = .ok (.ifCond .ge 7, 3) := by decide +kernel
theorem dX3_plan_35 : decode cX3_plan 35 = .ok (.iconst 1, 1) := by decide +kernel
theorem dX3_plan_36 : decode cX3_plan 36 = .ok (.goto 4, 3) := by decide +kernel
theorem dX3_plan_39 : decode cX3_plan 39 = .ok (.iconst 0, 1) := by decide +kernel
theorem dX3_plan_40 : decode cX3_plan 40 = .ok (.invokevirtual 74, 3) := by decide +kernel
theorem dX3_plan_43 : decode cX3_plan 43 = .ok (.ifCond .ne 5, 3) := by decide +kernel
theorem dX3_plan_46 : decode cX3_plan 46 = .ok (.iconst 0, 1) := by decide +kernel
theorem dX3_plan_47 : decode cX3_plan 47 = .ok (.ireturn, 1) := by decide +kernel
theorem dX3_plan_48 : decode cX3_plan 48 = .ok (.aload_n 0, 1) := by decide +kernel
theorem dX3_plan_49 : decode cX3_plan 49 = .ok (.getfield 26, 3) := by decide +kernel
theorem dX3_plan_52 : decode cX3_plan 52 = .ok (.bipush 6, 2) := by decide +kernel
theorem dX3_plan_54 : decode cX3_plan 54 = .ok (.iload_n 1, 1) := by decide +kernel
theorem dX3_plan_55 : decode cX3_plan 55 = .ok (.imul, 1) := by decide +kernel
theorem dX3_plan_56 : decode cX3_plan 56 = .ok (.aload_n 0, 1) := by decide +kernel
theorem dX3_plan_57 : decode cX3_plan 57 = .ok (.getfield 29, 3) := by decide +kernel
theorem dX3_plan_60 : decode cX3_plan 60 = .ok (.iload_n 1, 1) := by decide +kernel
theorem dX3_plan_61 : decode cX3_plan 61 = .ok (.iaload, 1) := by decide +kernel
theorem dX3_plan_62 : decode cX3_plan 62 = .ok (.iadd, 1) := by decide +kernel
theorem dX3_plan_63 : decode cX3_plan 63 = .ok (.iload_n 2, 1) := by decide +kernel
theorem dX3_plan_64 : decode cX3_plan 64 = .ok (.iastore, 1) := by decide +kernel
theorem dX3_plan_65 : decode cX3_plan 65 = .ok (.aload_n 0, 1) := by decide +kernel
theorem dX3_plan_66 : decode cX3_plan 66 = .ok (.getfield 29, 3) := by decide +kernel
theorem dX3_plan_69 : decode cX3_plan 69 = .ok (.iload_n 1, 1) := by decide +kernel
theorem dX3_plan_70 : decode cX3_plan 70 = .ok (.dup2, 1) := by decide +kernel
theorem dX3_plan_71 : decode cX3_plan 71 = .ok (.iaload, 1) := by decide +kernel
theorem dX3_plan_72 : decode cX3_plan 72 = .ok (.iconst 1, 1) := by decide +kernel
theorem dX3_plan_73 : decode cX3_plan 73 = .ok (.iadd, 1) := by decide +kernel
theorem dX3_plan_74 : decode cX3_plan 74 = .ok (.iastore, 1) := by decide +kernel
theorem dX3_plan_75 : decode cX3_plan 75 = .ok (.aload_n 0, 1) := by decide +kernel
theorem dX3_plan_76 : decode cX3_plan 76 = .ok (.getfield 29, 3) := by decide +kernel
theorem dX3_plan_79 : decode cX3_plan 79 = .ok (.iload_n 1, 1) := by decide +kernel
theorem dX3_plan_80 : decode cX3_plan 80 = .ok (.iaload, 1) := by decide +kernel
theorem dX3_plan_81 : decode cX3_plan 81 = .ok (.ireturn, 1) := by decide +kernel
set_option maxRecDepth 20000 in
theorem ggX3_drop_X3_isVisitor : GoodIn wsX3_drop wsX3_isVisitor := goodIn_r _ [9] (by decide +kernel) (by decide +kernel)
set_option maxRecDepth 20000 in
theorem gX3_drop_X3_isVisitor : GoodIn wsX3_drop (va_wsS RX3 85 yX3_isVisitor wsX3_isVisitor) := goodIn_app (goodIn_of _ (by decide +kernel)) ggX3_drop_X3_isVisitor
set_option maxRecDepth 20000 in
theorem ggX3_drop_X3_isPavilion : GoodIn wsX3_drop wsX3_isPavilion := goodIn_r _ [12] (by decide +kernel) (by decide +kernel)
set_option maxRecDepth 20000 in
theorem gX3_drop_X3_isPavilion : GoodIn wsX3_drop (va_wsS RX3 70 yX3_isPavilion wsX3_isPavilion) := goodIn_app (goodIn_of _ (by decide +kernel)) ggX3_drop_X3_isPavilion
set_option maxRecDepth 20000 in
theorem ggX3_drop_X3_placeInPlan : GoodIn wsX3_drop wsX3_placeInPlan := goodIn_r _ [16, 1, 2, 32, 33, 34, 35, 36, 37, 38, 39, 40, 41, 42, 43, 44, 45, 46, 47, 48, 49, 50] (by decide +kernel) (by decide +kernel)
set_option maxRecDepth 20000 in
theorem gX3_drop_X3_placeInPlan : GoodIn wsX3_drop (wsV RX3 88 RX3 yX3_placeInPlan wsX3_placeInPlan) := goodIn_app (goodIn_of _ (by decide +kernel)) ggX3_drop_X3_placeInPlan
set_option maxRecDepth 20000 in
theorem ggX3_drop_X3_goes : GoodIn wsX3_drop wsX3_goes := goodIn_r _ [20, 21, 32, 33, 34, 35, 36, 37, 38, 39, 40, 41, 42, 43, 44, 45, 46, 47, 48, 49, 50] (by decide +kernel) (by decide +kernel)
set_option maxRecDepth 20000 in
theorem gX3_drop_X3_goes : GoodIn wsX3_drop (wsV RX3 74 RX3 yX3_goes wsX3_goes) := goodIn_app (goodIn_of _ (by decide +kernel)) ggX3_drop_X3_goes
set_option maxRecDepth 20000 in
theorem ggX3_drop_X3_leaves : GoodIn wsX3_drop wsX3_leaves := goodIn_r _ [25, 4, 26, 27, 3, 28, 29, 30, 8, 31, 32, 33, 34, 35, 36, 37, 38, 39, 40, 41, 42, 43, 44, 45, 46, 47, 48, 49, 50] (by decide +kernel) (by decide +kernel)
set_option maxRecDepth 20000 in
theorem gX3_drop_X3_leaves : GoodIn wsX3_drop (wsV RX3 78 RX3 yX3_leaves wsX3_leaves) := goodIn_app (goodIn_of _ (by decide +kernel)) ggX3_drop_X3_leaves
theorem dX3_drop_0 : decode cX3_drop 0 = .ok (.iload_n 1, 1) := by decide +kernel
theorem dX3_drop_1 : decode cX3_drop 1 = .ok (.invokestatic 85, 3) := by decide +kernel
theorem dX3_drop_4 : decode cX3_drop 4 = .ok (.ifCond .eq 14, 3) := by decide +kernel
theorem dX3_drop_7 : decode cX3_drop 7 = .ok (.iload_n 2, 1) := by decide +kernel
theorem dX3_drop_8 : decode cX3_drop 8 = .ok (.invokestatic 70, 3) := by decide +kernel
theorem dX3_drop_11 : decode cX3_drop 11 = .ok (.ifCond .eq 7, 3) := by decide +kernel
theorem dX3_drop_14 : decode cX3_drop 14 = .ok (.iconst 1, 1) := by decide +kernel
theorem dX3_drop_15 : decode cX3_drop 15 = .ok (.goto 4, 3) := by decide +kernel
theorem dX3_drop_18 : decode cX3_drop 18 = .ok (.iconst 0, 1) := by decide +kernel
theorem dX3_drop_19 : decode cX3_drop 19 = .ok (.istore_n 3, 1) := by decide +kernel
theorem dX3_drop_20 : decode cX3_drop 20 = .ok (.aload_n 0, 1) := by decide +kernel
theorem dX3_drop_21 : decode cX3_drop 21 = .ok (.iload_n 3, 1) := by decide +kernel
theorem dX3_drop_22 : decode cX3_drop 22 = .ok (.iload_n 3, 1) := by decide +kernel
theorem dX3_drop_23 : decode cX3_drop 23 = .ok (.ifCond .eq 16, 3) := by decide +kernel
theorem dX3_drop_26 : decode cX3_drop 26 = .ok (.aload_n 0, 1) := by decide +kernel
theorem dX3_drop_27 : decode cX3_drop 27 = .ok (.iload_n 1, 1) := by decide +kernel
theorem dX3_drop_28 : decode cX3_drop 28 = .ok (.iload_n 2, 1) := by decide +kernel
theorem dX3_drop_29 : decode cX3_drop 29 = .ok (.invokevirtual 88, 3) := by decide +kernel
theorem dX3_drop_32 : decode cX3_drop 32 = .ok (.ifCond .lt 7, 3) := by decide +kernel
theorem dX3_drop_35 : decode cX3_drop 35 = .ok (.iconst 1, 1) := by decide +kernel
theorem dX3_drop_36 : decode cX3_drop 36 = .ok (.goto 4, 3) := by decide +kernel
theorem dX3_drop_39 : decode cX3_drop 39 = .ok (.iconst 0, 1) := by decide +kernel
theorem dX3_drop_40 : decode cX3_drop 40 = .ok (.invokevirtual 74, 3) := by decide +kernel
theorem dX3_drop_43 : decode cX3_drop 43 = .ok (.ifCond .ne 5, 3) := by decide +kernel
theorem dX3_drop_46 : decode cX3_drop 46 = .ok (.iconst 0, 1) := by decide +kernel
theorem dX3_drop_47 : decode cX3_drop 47 = .ok (.ireturn, 1) := by decide +kernel
theorem dX3_drop_48 : decode cX3_drop 48 = .ok (.aload_n 0, 1) := by decide +kernel
theorem dX3_drop_49 : decode cX3_drop 49 = .ok (.iload_n 1, 1) := by decide +kernel
theorem dX3_drop_50 : decode cX3_drop 50 = .ok (.iload_n 2, 1) := by decide +kernel
theorem dX3_drop_51 : decode cX3_drop 51 = .ok (.invokevirtual 88, 3) := by decide +kernel
theorem dX3_drop_54 : decode cX3_drop 54 = .ok (.istore 4, 2) := by decide +kernel
theorem dX3_drop_56 : decode cX3_drop 56 = .ok (.aload_n 0, 1) := by decide +kernel
theorem dX3_drop_57 : decode cX3_drop 57 = .ok (.getfield 29, 3) := by decide +kernel
theorem dX3_drop_60 : decode cX3_drop 60 = .ok (.iload_n 1, 1) := by decide +kernel
theorem dX3_drop_61 : decode cX3_drop 61 = .ok (.dup2, 1) := by decide +kernel
theorem dX3_drop_62 : decode cX3_drop 62 = .ok (.iaload, 1) := by decide +kernel
theorem dX3_drop_63 : decode cX3_drop 63 = .ok (.iconst 1, 1) := by decide +kernel
theorem dX3_drop_64 : decode cX3_drop 64 = .ok (.isub, 1) := by decide +kernel
theorem dX3_drop_65 : decode cX3_drop 65 = .ok (.iastore, 1) := by decide +kernel
theorem dX3_drop_66 : decode cX3_drop 66 = .ok (.iload 4, 2) := by decide +kernel
theorem dX3_drop_68 : decode cX3_drop 68 = .ok (.istore 5, 2) := by decide +kernel
theorem dX3_drop_70 : decode cX3_drop 70 = .ok (.iload 5, 2) := by decide +kernel
theorem dX3_drop_72 : decode cX3_drop 72 = .ok (.aload_n 0, 1) := by decide +kernel
theorem dX3_drop_73 : decode cX3_drop 73 = .ok (.getfield 29, 3) := by decide +kernel
theorem dX3_drop_76 : decode cX3_drop 76 = .ok (.iload_n 1, 1) := by decide +kernel
theorem dX3_drop_77 : decode cX3_drop 77 = .ok (.iaload, 1) := by decide +kernel
theorem dX3_drop_78 : decode cX3_drop 78 = .ok (.if_icmp .ge 35, 3) := by decide +kernel
theorem dX3_drop_81 : decode cX3_drop 81 = .ok (.aload_n 0, 1) := by decide +kernel
theorem dX3_drop_82 : decode cX3_drop 82 = .ok (.getfield 26, 3) := by decide +kernel
theorem dX3_drop_85 : decode cX3_drop 85 = .ok (.bipush 6, 2) := by decide +kernel
theorem dX3_drop_87 : decode cX3_drop 87 = .ok (.iload_n 1, 1) := by decide +kernel
theorem dX3_drop_88 : decode cX3_drop 88 = .ok (.imul, 1) := by decide +kernel
theorem dX3_drop_89 : decode cX3_drop 89 = .ok (.iload 5, 2) := by decide +kernel
theorem dX3_drop_91 : decode cX3_drop 91 = .ok (.iadd, 1) := by decide +kernel
theorem dX3_drop_92 : decode cX3_drop 92 = .ok (.aload_n 0, 1) := by decide +kernel
theorem dX3_drop_93 : decode cX3_drop 93 = .ok (.getfield 26, 3) := by decide +kernel
theorem dX3_drop_96 : decode cX3_drop 96 = .ok (.bipush 6, 2) := by decide +kernel
theorem dX3_drop_98 : decode cX3_drop 98 = .ok (.iload_n 1, 1) := by decide +kernel
theorem dX3_drop_99 : decode cX3_drop 99 = .ok (.imul, 1) := by decide +kernel
theorem dX3_drop_100 : decode cX3_drop 100 = .ok (.iload 5, 2) := by decide +kernel
theorem dX3_drop_102 : decode cX3_drop 102 = .ok (.iadd, 1) := by decide +kernel
theorem dX3_drop_103 : decode cX3_drop 103 = .ok (.iconst 1, 1) := by decide +kernel
theorem dX3_drop_104 : decode cX3_drop 104 = .ok (.iadd, 1) := by decide +kernel
theorem dX3_drop_105 : decode cX3_drop 105 = .ok (.iaload, 1) := by decide +kernel
theorem dX3_drop_106 : decode cX3_drop 106 = .ok (.iastore, 1) := by decide +kernel
theorem dX3_drop_107 : decode cX3_drop 107 = .ok (.iinc 5 1, 3) := by decide +kernel
theorem dX3_drop_110 : decode cX3_drop 110 = .ok (.goto (-40), 3) := by decide +kernel
theorem dX3_drop_113 : decode cX3_drop 113 = .ok (.aload_n 0, 1) := by decide +kernel
theorem dX3_drop_114 : decode cX3_drop 114 = .ok (.getfield 32, 3) := by decide +kernel
theorem dX3_drop_117 : decode cX3_drop 117 = .ok (.iload_n 1, 1) := by decide +kernel
theorem dX3_drop_118 : decode cX3_drop 118 = .ok (.iaload, 1) := by decide +kernel
theorem dX3_drop_119 : decode cX3_drop 119 = .ok (.iconst 1, 1) := by decide +kernel
theorem dX3_drop_120 : decode cX3_drop 120 = .ok (.if_icmp .ne 27, 3) := by decide +kernel
theorem dX3_drop_123 : decode cX3_drop 123 = .ok (.aload_n 0, 1) := by decide +kernel
theorem dX3_drop_124 : decode cX3_drop 124 = .ok (.getfield 35, 3) := by decide +kernel
theorem dX3_drop_127 : decode cX3_drop 127 = .ok (.iload_n 1, 1) := by decide +kernel
theorem dX3_drop_128 : decode cX3_drop 128 = .ok (.iaload, 1) := by decide +kernel
theorem dX3_drop_129 : decode cX3_drop 129 = .ok (.iload_n 2, 1) := by decide +kernel
theorem dX3_drop_130 : decode cX3_drop 130 = .ok (.if_icmp .ne 17, 3) := by decide +kernel
theorem dX3_drop_133 : decode cX3_drop 133 = .ok (.aload_n 0, 1) := by decide +kernel
theorem dX3_drop_134 : decode cX3_drop 134 = .ok (.getfield 50, 3) := by decide +kernel
theorem dX3_drop_137 : decode cX3_drop 137 = .ok (.iload_n 1, 1) := by decide +kernel
theorem dX3_drop_138 : decode cX3_drop 138 = .ok (.baload, 1) := by decide +kernel
theorem dX3_drop_139 : decode cX3_drop 139 = .ok (.ifCond .ne 8, 3) := by decide +kernel
theorem dX3_drop_142 : decode cX3_drop 142 = .ok (.aload_n 0, 1) := by decide +kernel
theorem dX3_drop_143 : decode cX3_drop 143 = .ok (.iload_n 1, 1) := by decide +kernel
theorem dX3_drop_144 : decode cX3_drop 144 = .ok (.invokevirtual 78, 3) := by decide +kernel
theorem dX3_drop_147 : decode cX3_drop 147 = .ok (.aload_n 0, 1) := by decide +kernel
theorem dX3_drop_148 : decode cX3_drop 148 = .ok (.getfield 29, 3) := by decide +kernel
theorem dX3_drop_151 : decode cX3_drop 151 = .ok (.iload_n 1, 1) := by decide +kernel
theorem dX3_drop_152 : decode cX3_drop 152 = .ok (.iaload, 1) := by decide +kernel
theorem dX3_drop_153 : decode cX3_drop 153 = .ok (.ireturn, 1) := by decide +kernel
set_option maxRecDepth 20000 in
theorem ggX3_ask_X3_isVisitor : GoodIn wsX3_ask wsX3_isVisitor := goodIn_r _ [9] (by decide +kernel) (by decide +kernel)
set_option maxRecDepth 20000 in
theorem gX3_ask_X3_isVisitor : GoodIn wsX3_ask (va_wsS RX3 85 yX3_isVisitor wsX3_isVisitor) := goodIn_app (goodIn_of _ (by decide +kernel)) ggX3_ask_X3_isVisitor
set_option maxRecDepth 20000 in
theorem ggX3_ask_X3_isPavilion : GoodIn wsX3_ask wsX3_isPavilion := goodIn_r _ [12] (by decide +kernel) (by decide +kernel)
set_option maxRecDepth 20000 in
theorem gX3_ask_X3_isPavilion : GoodIn wsX3_ask (va_wsS RX3 70 yX3_isPavilion wsX3_isPavilion) := goodIn_app (goodIn_of _ (by decide +kernel)) ggX3_ask_X3_isPavilion
set_option maxRecDepth 20000 in
theorem ggX3_ask_X3_goes : GoodIn wsX3_ask wsX3_goes := goodIn_r _ [16, 17, 18, 19, 20, 21, 22, 23, 24, 25, 26, 27, 28, 29, 30, 31, 32, 33, 34, 35, 36] (by decide +kernel) (by decide +kernel)
set_option maxRecDepth 20000 in
theorem gX3_ask_X3_goes : GoodIn wsX3_ask (wsV RX3 74 RX3 yX3_goes wsX3_goes) := goodIn_app (goodIn_of _ (by decide +kernel)) ggX3_ask_X3_goes
theorem dX3_ask_0 : decode cX3_ask 0 = .ok (.iload_n 1, 1) := by decide +kernel
theorem dX3_ask_1 : decode cX3_ask 1 = .ok (.invokestatic 85, 3) := by decide +kernel
theorem dX3_ask_4 : decode cX3_ask 4 = .ok (.ifCond .eq 14, 3) := by decide +kernel
theorem dX3_ask_7 : decode cX3_ask 7 = .ok (.iload_n 2, 1) := by decide +kernel
theorem dX3_ask_8 : decode cX3_ask 8 = .ok (.invokestatic 70, 3) := by decide +kernel
theorem dX3_ask_11 : decode cX3_ask 11 = .ok (.ifCond .eq 7, 3) := by decide +kernel
theorem dX3_ask_14 : decode cX3_ask 14 = .ok (.iconst 1, 1) := by decide +kernel
theorem dX3_ask_15 : decode cX3_ask 15 = .ok (.goto 4, 3) := by decide +kernel
theorem dX3_ask_18 : decode cX3_ask 18 = .ok (.iconst 0, 1) := by decide +kernel
theorem dX3_ask_19 : decode cX3_ask 19 = .ok (.istore_n 3, 1) := by decide +kernel
theorem dX3_ask_20 : decode cX3_ask 20 = .ok (.aload_n 0, 1) := by decide +kernel
theorem dX3_ask_21 : decode cX3_ask 21 = .ok (.iload_n 3, 1) := by decide +kernel
theorem dX3_ask_22 : decode cX3_ask 22 = .ok (.iload_n 3, 1) := by decide +kernel
theorem dX3_ask_23 : decode cX3_ask 23 = .ok (.ifCond .eq 25, 3) := by decide +kernel
theorem dX3_ask_26 : decode cX3_ask 26 = .ok (.aload_n 0, 1) := by decide +kernel
theorem dX3_ask_27 : decode cX3_ask 27 = .ok (.getfield 44, 3) := by decide +kernel
theorem dX3_ask_30 : decode cX3_ask 30 = .ok (.iload_n 1, 1) := by decide +kernel
theorem dX3_ask_31 : decode cX3_ask 31 = .ok (.iaload, 1) := by decide +kernel
theorem dX3_ask_32 : decode cX3_ask 32 = .ok (.ifCond .ge 16, 3) := by decide +kernel
theorem dX3_ask_35 : decode cX3_ask 35 = .ok (.aload_n 0, 1) := by decide +kernel
theorem dX3_ask_36 : decode cX3_ask 36 = .ok (.getfield 16, 3) := by decide +kernel
theorem dX3_ask_39 : decode cX3_ask 39 = .ok (.iload_n 2, 1) := by decide +kernel
theorem dX3_ask_40 : decode cX3_ask 40 = .ok (.baload, 1) := by decide +kernel
theorem dX3_ask_41 : decode cX3_ask 41 = .ok (.ifCond .ne 7, 3) := by decide +kernel
theorem dX3_ask_44 : decode cX3_ask 44 = .ok (.iconst 1, 1) := by decide +kernel
theorem dX3_ask_45 : decode cX3_ask 45 = .ok (.goto 4, 3) := by decide +kernel
theorem dX3_ask_48 : decode cX3_ask 48 = .ok (.iconst 0, 1) := by decide +kernel
theorem dX3_ask_49 : decode cX3_ask 49 = .ok (.invokevirtual 74, 3) := by decide +kernel
theorem dX3_ask_52 : decode cX3_ask 52 = .ok (.ifCond .ne 5, 3) := by decide +kernel
theorem dX3_ask_55 : decode cX3_ask 55 = .ok (.iconst 0, 1) := by decide +kernel
theorem dX3_ask_56 : decode cX3_ask 56 = .ok (.ireturn, 1) := by decide +kernel
theorem dX3_ask_57 : decode cX3_ask 57 = .ok (.aload_n 0, 1) := by decide +kernel
theorem dX3_ask_58 : decode cX3_ask 58 = .ok (.getfield 91, 3) := by decide +kernel
theorem dX3_ask_61 : decode cX3_ask 61 = .ok (.iconst 5, 1) := by decide +kernel
theorem dX3_ask_62 : decode cX3_ask 62 = .ok (.idiv, 1) := by decide +kernel
theorem dX3_ask_63 : decode cX3_ask 63 = .ok (.iconst 1, 1) := by decide +kernel
theorem dX3_ask_64 : decode cX3_ask 64 = .ok (.iadd, 1) := by decide +kernel
theorem dX3_ask_65 : decode cX3_ask 65 = .ok (.iconst 5, 1) := by decide +kernel
theorem dX3_ask_66 : decode cX3_ask 66 = .ok (.imul, 1) := by decide +kernel
theorem dX3_ask_67 : decode cX3_ask 67 = .ok (.istore 4, 2) := by decide +kernel
theorem dX3_ask_69 : decode cX3_ask 69 = .ok (.iconst 1, 1) := by decide +kernel
theorem dX3_ask_70 : decode cX3_ask 70 = .ok (.istore 5, 2) := by decide +kernel
theorem dX3_ask_72 : decode cX3_ask 72 = .ok (.iload 5, 2) := by decide +kernel
theorem dX3_ask_74 : decode cX3_ask 74 = .ok (.ifCond .eq 75, 3) := by decide +kernel
theorem dX3_ask_77 : decode cX3_ask 77 = .ok (.iconst 0, 1) := by decide +kernel
theorem dX3_ask_78 : decode cX3_ask 78 = .ok (.istore 5, 2) := by decide +kernel
theorem dX3_ask_80 : decode cX3_ask 80 = .ok (.iconst 0, 1) := by decide +kernel
theorem dX3_ask_81 : decode cX3_ask 81 = .ok (.istore 6, 2) := by decide +kernel
theorem dX3_ask_83 : decode cX3_ask 83 = .ok (.iload 6, 2) := by decide +kernel
theorem dX3_ask_85 : decode cX3_ask 85 = .ok (.bipush 8, 2) := by decide +kernel
theorem dX3_ask_87 : decode cX3_ask 87 = .ok (.if_icmp .ge 44, 3) := by decide +kernel
theorem dX3_ask_90 : decode cX3_ask 90 = .ok (.iload 5, 2) := by decide +kernel
theorem dX3_ask_92 : decode cX3_ask 92 = .ok (.ifCond .ne 26, 3) := by decide +kernel
theorem dX3_ask_95 : decode cX3_ask 95 = .ok (.aload_n 0, 1) := by decide +kernel
theorem dX3_ask_96 : decode cX3_ask 96 = .ok (.getfield 44, 3) := by decide +kernel
theorem dX3_ask_99 : decode cX3_ask 99 = .ok (.iload 6, 2) := by decide +kernel
theorem dX3_ask_101 : decode cX3_ask 101 = .ok (.iaload, 1) := by decide +kernel
theorem dX3_ask_102 : decode cX3_ask 102 = .ok (.iload 4, 2) := by decide +kernel
theorem dX3_ask_104 : decode cX3_ask 104 = .ok (.if_icmp .ne 18, 3) := by decide +kernel
theorem dX3_ask_107 : decode cX3_ask 107 = .ok (.aload_n 0, 1) := by decide +kernel
theorem dX3_ask_108 : decode cX3_ask 108 = .ok (.getfield 47, 3) := by decide +kernel
theorem dX3_ask_111 : decode cX3_ask 111 = .ok (.iload 6, 2) := by decide +kernel
theorem dX3_ask_113 : decode cX3_ask 113 = .ok (.iaload, 1) := by decide +kernel
theorem dX3_ask_114 : decode cX3_ask 114 = .ok (.iload_n 2, 1) := by decide +kernel
theorem dX3_ask_115 : decode cX3_ask 115 = .ok (.if_icmp .ne 7, 3) := by decide +kernel
theorem dX3_ask_118 : decode cX3_ask 118 = .ok (.iconst 1, 1) := by decide +kernel
theorem dX3_ask_119 : decode cX3_ask 119 = .ok (.goto 4, 3) := by decide +kernel
theorem dX3_ask_122 : decode cX3_ask 122 = .ok (.iconst 0, 1) := by decide +kernel
theorem dX3_ask_123 : decode cX3_ask 123 = .ok (.istore 5, 2) := by decide +kernel
theorem dX3_ask_125 : decode cX3_ask 125 = .ok (.iinc 6 1, 3) := by decide +kernel
theorem dX3_ask_128 : decode cX3_ask 128 = .ok (.goto (-45), 3) := by decide +kernel
theorem dX3_ask_131 : decode cX3_ask 131 = .ok (.iload 4, 2) := by decide +kernel
theorem dX3_ask_133 : decode cX3_ask 133 = .ok (.iload 5, 2) := by decide +kernel
theorem dX3_ask_135 : decode cX3_ask 135 = .ok (.ifCond .eq 7, 3) := by decide +kernel
theorem dX3_ask_138 : decode cX3_ask 138 = .ok (.iconst 5, 1) := by decide +kernel
theorem dX3_ask_139 : decode cX3_ask 139 = .ok (.goto 4, 3) := by decide +kernel
theorem dX3_ask_142 : decode cX3_ask 142 = .ok (.iconst 0, 1) := by decide +kernel
theorem dX3_ask_143 : decode cX3_ask 143 = .ok (.iadd, 1) := by decide +kernel
theorem dX3_ask_144 : decode cX3_ask 144 = .ok (.istore 4, 2) := by decide +kernel
theorem dX3_ask_146 : decode cX3_ask 146 = .ok (.goto (-74), 3) := by decide +kernel
theorem dX3_ask_149 : decode cX3_ask 149 = .ok (.aload_n 0, 1) := by decide +kernel
theorem dX3_ask_150 : decode cX3_ask 150 = .ok (.getfield 44, 3) := by decide +kernel
theorem dX3_ask_153 : decode cX3_ask 153 = .ok (.iload_n 1, 1) := by decide +kernel
theorem dX3_ask_154 : decode cX3_ask 154 = .ok (.iload 4, 2) := by decide +kernel
theorem dX3_ask_156 : decode cX3_ask 156 = .ok (.iastore, 1) := by decide +kernel
theorem dX3_ask_157 : decode cX3_ask 157 = .ok (.aload_n 0, 1) := by decide +kernel
theorem dX3_ask_158 : decode cX3_ask 158 = .ok (.getfield 47, 3) := by decide +kernel
theorem dX3_ask_161 : decode cX3_ask 161 = .ok (.iload_n 1, 1) := by decide +kernel
theorem dX3_ask_162 : decode cX3_ask 162 = .ok (.iload_n 2, 1) := by decide +kernel
theorem dX3_ask_163 : decode cX3_ask 163 = .ok (.iastore, 1) := by decide +kernel
theorem dX3_ask_164 : decode cX3_ask 164 = .ok (.aload_n 0, 1) := by decide +kernel
theorem dX3_ask_165 : decode cX3_ask 165 = .ok (.getfield 50, 3) := by decide +kernel
theorem dX3_ask_168 : decode cX3_ask 168 = .ok (.iload_n 1, 1) := by decide +kernel
theorem dX3_ask_169 : decode cX3_ask 169 = .ok (.iconst 0, 1) := by decide +kernel
theorem dX3_ask_170 : decode cX3_ask 170 = .ok (.bastore, 1) := by decide +kernel
theorem dX3_ask_171 : decode cX3_ask 171 = .ok (.iload 4, 2) := by decide +kernel
theorem dX3_ask_173 : decode cX3_ask 173 = .ok (.ireturn, 1) := by decide +kernel
theorem dX3_comeOut_0 : decode cX3_comeOut 0 = .ok (.iconst 0, 1) := by decide +kernel
theorem dX3_comeOut_1 : decode cX3_comeOut 1 = .ok (.istore_n 1, 1) := by decide +kernel
theorem dX3_comeOut_2 : decode cX3_comeOut 2 = .ok (.iload_n 1, 1) := by decide +kernel
theorem dX3_comeOut_3 : decode cX3_comeOut 3 = .ok (.bipush 8, 2) := by decide +kernel
theorem dX3_comeOut_5 : decode cX3_comeOut 5 = .ok (.if_icmp .ge 63, 3) := by decide +kernel
theorem dX3_comeOut_8 : decode cX3_comeOut 8 = .ok (.aload_n 0, 1) := by decide +kernel
theorem dX3_comeOut_9 : decode cX3_comeOut 9 = .ok (.getfield 32, 3) := by decide +kernel
theorem dX3_comeOut_12 : decode cX3_comeOut 12 = .ok (.iload_n 1, 1) := by decide +kernel
theorem dX3_comeOut_13 : decode cX3_comeOut 13 = .ok (.iaload, 1) := by decide +kernel
theorem dX3_comeOut_14 : decode cX3_comeOut 14 = .ok (.iconst 2, 1) := by decide +kernel
theorem dX3_comeOut_15 : decode cX3_comeOut 15 = .ok (.if_icmp .ne 47, 3) := by decide +kernel
theorem dX3_comeOut_18 : decode cX3_comeOut 18 = .ok (.aload_n 0, 1) := by decide +kernel
theorem dX3_comeOut_19 : decode cX3_comeOut 19 = .ok (.getfield 38, 3) := by decide +kernel
theorem dX3_comeOut_22 : decode cX3_comeOut 22 = .ok (.iload_n 1, 1) := by decide +kernel
theorem dX3_comeOut_23 : decode cX3_comeOut 23 = .ok (.iaload, 1) := by decide +kernel
theorem dX3_comeOut_24 : decode cX3_comeOut 24 = .ok (.aload_n 0, 1) := by decide +kernel
theorem dX3_comeOut_25 : decode cX3_comeOut 25 = .ok (.getfield 91, 3) := by decide +kernel
theorem dX3_comeOut_28 : decode cX3_comeOut 28 = .ok (.if_icmp .gt 34, 3) := by decide +kernel
theorem dX3_comeOut_31 : decode cX3_comeOut 31 = .ok (.aload_n 0, 1) := by decide +kernel
theorem dX3_comeOut_32 : decode cX3_comeOut 32 = .ok (.getfield 41, 3) := by decide +kernel
theorem dX3_comeOut_35 : decode cX3_comeOut 35 = .ok (.iload_n 1, 1) := by decide +kernel
theorem dX3_comeOut_36 : decode cX3_comeOut 36 = .ok (.dup2, 1) := by decide +kernel
theorem dX3_comeOut_37 : decode cX3_comeOut 37 = .ok (.iaload, 1) := by decide +kernel
theorem dX3_comeOut_38 : decode cX3_comeOut 38 = .ok (.iconst 1, 1) := by decide +kernel
theorem dX3_comeOut_39 : decode cX3_comeOut 39 = .ok (.aload_n 0, 1) := by decide +kernel
theorem dX3_comeOut_40 : decode cX3_comeOut 40 = .ok (.getfield 35, 3) := by decide +kernel
theorem dX3_comeOut_43 : decode cX3_comeOut 43 = .ok (.iload_n 1, 1) := by decide +kernel
theorem dX3_comeOut_44 : decode cX3_comeOut 44 = .ok (.iaload, 1) := by decide +kernel
theorem dX3_comeOut_45 : decode cX3_comeOut 45 = .ok (.ishl, 1) := by decide +kernel
theorem dX3_comeOut_46 : decode cX3_comeOut 46 = .ok (.ior, 1) := by decide +kernel
theorem dX3_comeOut_47 : decode cX3_comeOut 47 = .ok (.iastore, 1) := by decide +kernel
theorem dX3_comeOut_48 : decode cX3_comeOut 48 = .ok (.aload_n 0, 1) := by decide +kernel
theorem dX3_comeOut_49 : decode cX3_comeOut 49 = .ok (.getfield 32, 3) := by decide +kernel
theorem dX3_comeOut_52 : decode cX3_comeOut 52 = .ok (.iload_n 1, 1) := by decide +kernel
theorem dX3_comeOut_53 : decode cX3_comeOut 53 = .ok (.iconst 0, 1) := by decide +kernel
theorem dX3_comeOut_54 : decode cX3_comeOut 54 = .ok (.iastore, 1) := by decide +kernel
theorem dX3_comeOut_55 : decode cX3_comeOut 55 = .ok (.aload_n 0, 1) := by decide +kernel
theorem dX3_comeOut_56 : decode cX3_comeOut 56 = .ok (.getfield 35, 3) := by decide +kernel
theorem dX3_comeOut_59 : decode cX3_comeOut 59 = .ok (.iload_n 1, 1) := by decide +kernel
theorem dX3_comeOut_60 : decode cX3_comeOut 60 = .ok (.iconst (-1), 1) := by decide +kernel
theorem dX3_comeOut_61 : decode cX3_comeOut 61 = .ok (.iastore, 1) := by decide +kernel
theorem dX3_comeOut_62 : decode cX3_comeOut 62 = .ok (.iinc 1 1, 3) := by decide +kernel
theorem dX3_comeOut_65 : decode cX3_comeOut 65 = .ok (.goto (-63), 3) := by decide +kernel
theorem dX3_comeOut_68 : decode cX3_comeOut 68 = .ok (.return_, 1) := by decide +kernel
set_option maxRecDepth 20000 in
theorem ggX3_takeTurns_X3_loses : GoodIn wsX3_takeTurns wsX3_loses := goodIn_r _ [13, 1, 3, 27, 28, 29, 30, 31, 32, 33, 34, 35, 36, 37, 38, 39, 40, 41, 42, 43, 44, 45] (by decide +kernel) (by decide +kernel)
set_option maxRecDepth 20000 in
theorem gX3_takeTurns_X3_loses : GoodIn wsX3_takeTurns (wsV RX3 82 RX3 yX3_loses wsX3_loses) := goodIn_app (goodIn_of _ (by decide +kernel)) ggX3_takeTurns_X3_loses
set_option maxRecDepth 20000 in
theorem ggX3_takeTurns_X3_leaves : GoodIn wsX3_takeTurns wsX3_leaves := goodIn_r _ [17, 18, 7, 8, 5, 19, 20, 21, 12, 22, 27, 28, 29, 30, 31, 32, 33, 34, 35, 36, 37, 38, 39, 40, 41, 42, 43, 44, 45] (by decide +kernel) (by decide +kernel)
set_option maxRecDepth 20000 in
theorem gX3_takeTurns_X3_leaves : GoodIn wsX3_takeTurns (wsV RX3 78 RX3 yX3_leaves wsX3_leaves) := goodIn_app (goodIn_of _ (by decide +kernel)) ggX3_takeTurns_X3_leaves
set_option maxRecDepth 20000 in
theorem ggX3_takeTurns_X3_puts : GoodIn wsX3_takeTurns wsX3_puts := goodIn_r _ [26, 7, 8, 5, 18, 27, 28, 29, 30, 31, 32, 33, 34, 35, 36, 37, 38, 39, 40, 41, 42, 43, 44, 45] (by decide +kernel) (by decide +kernel)
set_option maxRecDepth 20000 in
theorem gX3_takeTurns_X3_puts : GoodIn wsX3_takeTurns (wsV RX3 94 RX3 yX3_puts wsX3_puts) := goodIn_app (goodIn_of _ (by decide +kernel)) ggX3_takeTurns_X3_puts
theorem dX3_takeTurns_0 : decode cX3_takeTurns 0 = .ok (.iconst 0, 1) := by decide +kernel
theorem dX3_takeTurns_1 : decode cX3_takeTurns 1 = .ok (.istore_n 1, 1) := by decide +kernel
theorem dX3_takeTurns_2 : decode cX3_takeTurns 2 = .ok (.iload_n 1, 1) := by decide +kernel
theorem dX3_takeTurns_3 : decode cX3_takeTurns 3 = .ok (.bipush 8, 2) := by decide +kernel
theorem dX3_takeTurns_5 : decode cX3_takeTurns 5 = .ok (.if_icmp .ge 131, 3) := by decide +kernel
theorem dX3_takeTurns_8 : decode cX3_takeTurns 8 = .ok (.aload_n 0, 1) := by decide +kernel
theorem dX3_takeTurns_9 : decode cX3_takeTurns 9 = .ok (.getfield 44, 3) := by decide +kernel
theorem dX3_takeTurns_12 : decode cX3_takeTurns 12 = .ok (.iload_n 1, 1) := by decide +kernel
theorem dX3_takeTurns_13 : decode cX3_takeTurns 13 = .ok (.iaload, 1) := by decide +kernel
theorem dX3_takeTurns_14 : decode cX3_takeTurns 14 = .ok (.aload_n 0, 1) := by decide +kernel
theorem dX3_takeTurns_15 : decode cX3_takeTurns 15 = .ok (.getfield 91, 3) := by decide +kernel
theorem dX3_takeTurns_18 : decode cX3_takeTurns 18 = .ok (.if_icmp .ne 112, 3) := by decide +kernel
theorem dX3_takeTurns_21 : decode cX3_takeTurns 21 = .ok (.aload_n 0, 1) := by decide +kernel
theorem dX3_takeTurns_22 : decode cX3_takeTurns 22 = .ok (.getfield 50, 3) := by decide +kernel
theorem dX3_takeTurns_25 : decode cX3_takeTurns 25 = .ok (.iload_n 1, 1) := by decide +kernel
theorem dX3_takeTurns_26 : decode cX3_takeTurns 26 = .ok (.baload, 1) := by decide +kernel
theorem dX3_takeTurns_27 : decode cX3_takeTurns 27 = .ok (.ifCond .ne 103, 3) := by decide +kernel
theorem dX3_takeTurns_30 : decode cX3_takeTurns 30 = .ok (.aload_n 0, 1) := by decide +kernel
theorem dX3_takeTurns_31 : decode cX3_takeTurns 31 = .ok (.getfield 47, 3) := by decide +kernel
theorem dX3_takeTurns_34 : decode cX3_takeTurns 34 = .ok (.iload_n 1, 1) := by decide +kernel
theorem dX3_takeTurns_35 : decode cX3_takeTurns 35 = .ok (.iaload, 1) := by decide +kernel
theorem dX3_takeTurns_36 : decode cX3_takeTurns 36 = .ok (.istore_n 2, 1) := by decide +kernel
theorem dX3_takeTurns_37 : decode cX3_takeTurns 37 = .ok (.aload_n 0, 1) := by decide +kernel
theorem dX3_takeTurns_38 : decode cX3_takeTurns 38 = .ok (.getfield 32, 3) := by decide +kernel
theorem dX3_takeTurns_41 : decode cX3_takeTurns 41 = .ok (.iload_n 1, 1) := by decide +kernel
theorem dX3_takeTurns_42 : decode cX3_takeTurns 42 = .ok (.iaload, 1) := by decide +kernel
theorem dX3_takeTurns_43 : decode cX3_takeTurns 43 = .ok (.iconst 2, 1) := by decide +kernel
theorem dX3_takeTurns_44 : decode cX3_takeTurns 44 = .ok (.if_icmp .eq 12, 3) := by decide +kernel
theorem dX3_takeTurns_47 : decode cX3_takeTurns 47 = .ok (.aload_n 0, 1) := by decide +kernel
theorem dX3_takeTurns_48 : decode cX3_takeTurns 48 = .ok (.getfield 16, 3) := by decide +kernel
theorem dX3_takeTurns_51 : decode cX3_takeTurns 51 = .ok (.iload_n 2, 1) := by decide +kernel
theorem dX3_takeTurns_52 : decode cX3_takeTurns 52 = .ok (.baload, 1) := by decide +kernel
theorem dX3_takeTurns_53 : decode cX3_takeTurns 53 = .ok (.ifCond .eq 11, 3) := by decide +kernel
theorem dX3_takeTurns_56 : decode cX3_takeTurns 56 = .ok (.aload_n 0, 1) := by decide +kernel
theorem dX3_takeTurns_57 : decode cX3_takeTurns 57 = .ok (.iload_n 1, 1) := by decide +kernel
theorem dX3_takeTurns_58 : decode cX3_takeTurns 58 = .ok (.invokevirtual 82, 3) := by decide +kernel
theorem dX3_takeTurns_61 : decode cX3_takeTurns 61 = .ok (.goto 69, 3) := by decide +kernel
theorem dX3_takeTurns_64 : decode cX3_takeTurns 64 = .ok (.aload_n 0, 1) := by decide +kernel
theorem dX3_takeTurns_65 : decode cX3_takeTurns 65 = .ok (.getfield 32, 3) := by decide +kernel
theorem dX3_takeTurns_68 : decode cX3_takeTurns 68 = .ok (.iload_n 1, 1) := by decide +kernel
theorem dX3_takeTurns_69 : decode cX3_takeTurns 69 = .ok (.iaload, 1) := by decide +kernel
theorem dX3_takeTurns_70 : decode cX3_takeTurns 70 = .ok (.iconst 1, 1) := by decide +kernel
theorem dX3_takeTurns_71 : decode cX3_takeTurns 71 = .ok (.if_icmp .ne 8, 3) := by decide +kernel
theorem dX3_takeTurns_74 : decode cX3_takeTurns 74 = .ok (.aload_n 0, 1) := by decide +kernel
theorem dX3_takeTurns_75 : decode cX3_takeTurns 75 = .ok (.iload_n 1, 1) := by decide +kernel
theorem dX3_takeTurns_76 : decode cX3_takeTurns 76 = .ok (.invokevirtual 78, 3) := by decide +kernel
theorem dX3_takeTurns_79 : decode cX3_takeTurns 79 = .ok (.iconst 0, 1) := by decide +kernel
theorem dX3_takeTurns_80 : decode cX3_takeTurns 80 = .ok (.istore_n 3, 1) := by decide +kernel
theorem dX3_takeTurns_81 : decode cX3_takeTurns 81 = .ok (.iload_n 3, 1) := by decide +kernel
theorem dX3_takeTurns_82 : decode cX3_takeTurns 82 = .ok (.aload_n 0, 1) := by decide +kernel
theorem dX3_takeTurns_83 : decode cX3_takeTurns 83 = .ok (.getfield 23, 3) := by decide +kernel
theorem dX3_takeTurns_86 : decode cX3_takeTurns 86 = .ok (.iload_n 2, 1) := by decide +kernel
theorem dX3_takeTurns_87 : decode cX3_takeTurns 87 = .ok (.iaload, 1) := by decide +kernel
theorem dX3_takeTurns_88 : decode cX3_takeTurns 88 = .ok (.if_icmp .ge 28, 3) := by decide +kernel
theorem dX3_takeTurns_91 : decode cX3_takeTurns 91 = .ok (.aload_n 0, 1) := by decide +kernel
theorem dX3_takeTurns_92 : decode cX3_takeTurns 92 = .ok (.getfield 50, 3) := by decide +kernel
theorem dX3_takeTurns_95 : decode cX3_takeTurns 95 = .ok (.aload_n 0, 1) := by decide +kernel
theorem dX3_takeTurns_96 : decode cX3_takeTurns 96 = .ok (.getfield 20, 3) := by decide +kernel
theorem dX3_takeTurns_99 : decode cX3_takeTurns 99 = .ok (.bipush 8, 2) := by decide +kernel
theorem dX3_takeTurns_101 : decode cX3_takeTurns 101 = .ok (.iload_n 2, 1) := by decide +kernel
theorem dX3_takeTurns_102 : decode cX3_takeTurns 102 = .ok (.imul, 1) := by decide +kernel
theorem dX3_takeTurns_103 : decode cX3_takeTurns 103 = .ok (.iload_n 3, 1) := by decide +kernel
theorem dX3_takeTurns_104 : decode cX3_takeTurns 104 = .ok (.iadd, 1) := by decide +kernel
theorem dX3_takeTurns_105 : decode cX3_takeTurns 105 = .ok (.iaload, 1) := by decide +kernel
theorem dX3_takeTurns_106 : decode cX3_takeTurns 106 = .ok (.baload, 1) := by decide +kernel
theorem dX3_takeTurns_107 : decode cX3_takeTurns 107 = .ok (.ifCond .eq 9, 3) := by decide +kernel
theorem dX3_takeTurns_110 : decode cX3_takeTurns 110 = .ok (.iinc 3 1, 3) := by decide +kernel
theorem dX3_takeTurns_113 : decode cX3_takeTurns 113 = .ok (.goto (-32), 3) := by decide +kernel
theorem dX3_takeTurns_116 : decode cX3_takeTurns 116 = .ok (.aload_n 0, 1) := by decide +kernel
theorem dX3_takeTurns_117 : decode cX3_takeTurns 117 = .ok (.iload_n 2, 1) := by decide +kernel
theorem dX3_takeTurns_118 : decode cX3_takeTurns 118 = .ok (.iload_n 3, 1) := by decide +kernel
theorem dX3_takeTurns_119 : decode cX3_takeTurns 119 = .ok (.iload_n 1, 1) := by decide +kernel
end
section
theorem dX3_takeTurns_120 : decode cX3_takeTurns 120 = .ok (.invokevirtual 94, 3) := by decide +kernel
theorem dX3_takeTurns_123 : decode cX3_takeTurns 123 = .ok (.aload_n 0, 1) := by decide +kernel
theorem dX3_takeTurns_124 : decode cX3_takeTurns 124 = .ok (.getfield 50, 3) := by decide +kernel
theorem dX3_takeTurns_127 : decode cX3_takeTurns 127 = .ok (.iload_n 1, 1) := by decide +kernel
theorem dX3_takeTurns_128 : decode cX3_takeTurns 128 = .ok (.iconst 1, 1) := by decide +kernel
theorem dX3_takeTurns_129 : decode cX3_takeTurns 129 = .ok (.bastore, 1) := by decide +kernel
theorem dX3_takeTurns_130 : decode cX3_takeTurns 130 = .ok (.iinc 1 1, 3) := by decide +kernel
theorem dX3_takeTurns_133 : decode cX3_takeTurns 133 = .ok (.goto (-131), 3) := by decide +kernel
theorem dX3_takeTurns_136 : decode cX3_takeTurns 136 = .ok (.return_, 1) := by decide +kernel
set_option maxRecDepth 20000 in
theorem ggX3_goOn_X3_puts : GoodIn wsX3_goOn wsX3_puts := goodIn_r _ [11, 6, 12, 2, 13, 14, 15, 16, 17, 18, 19, 20, 21, 22, 23, 24, 25, 26, 27, 28, 29, 30, 31, 32] (by decide +kernel) (by decide +kernel)
set_option maxRecDepth 20000 in
theorem gX3_goOn_X3_puts : GoodIn wsX3_goOn (wsV RX3 94 RX3 yX3_puts wsX3_puts) := goodIn_app (goodIn_of _ (by decide +kernel)) ggX3_goOn_X3_puts
theorem dX3_goOn_0 : decode cX3_goOn 0 = .ok (.iconst 0, 1) := by decide +kernel
theorem dX3_goOn_1 : decode cX3_goOn 1 = .ok (.istore_n 2, 1) := by decide +kernel
theorem dX3_goOn_2 : decode cX3_goOn 2 = .ok (.iload_n 2, 1) := by decide +kernel
theorem dX3_goOn_3 : decode cX3_goOn 3 = .ok (.aload_n 0, 1) := by decide +kernel
theorem dX3_goOn_4 : decode cX3_goOn 4 = .ok (.getfield 29, 3) := by decide +kernel
theorem dX3_goOn_7 : decode cX3_goOn 7 = .ok (.iload_n 1, 1) := by decide +kernel
theorem dX3_goOn_8 : decode cX3_goOn 8 = .ok (.iaload, 1) := by decide +kernel
theorem dX3_goOn_9 : decode cX3_goOn 9 = .ok (.if_icmp .ge 64, 3) := by decide +kernel
theorem dX3_goOn_12 : decode cX3_goOn 12 = .ok (.aload_n 0, 1) := by decide +kernel
theorem dX3_goOn_13 : decode cX3_goOn 13 = .ok (.getfield 32, 3) := by decide +kernel
theorem dX3_goOn_16 : decode cX3_goOn 16 = .ok (.iload_n 1, 1) := by decide +kernel
theorem dX3_goOn_17 : decode cX3_goOn 17 = .ok (.iaload, 1) := by decide +kernel
theorem dX3_goOn_18 : decode cX3_goOn 18 = .ok (.ifCond .ne 55, 3) := by decide +kernel
theorem dX3_goOn_21 : decode cX3_goOn 21 = .ok (.aload_n 0, 1) := by decide +kernel
theorem dX3_goOn_22 : decode cX3_goOn 22 = .ok (.getfield 26, 3) := by decide +kernel
theorem dX3_goOn_25 : decode cX3_goOn 25 = .ok (.bipush 6, 2) := by decide +kernel
theorem dX3_goOn_27 : decode cX3_goOn 27 = .ok (.iload_n 1, 1) := by decide +kernel
theorem dX3_goOn_28 : decode cX3_goOn 28 = .ok (.imul, 1) := by decide +kernel
theorem dX3_goOn_29 : decode cX3_goOn 29 = .ok (.iload_n 2, 1) := by decide +kernel
theorem dX3_goOn_30 : decode cX3_goOn 30 = .ok (.iadd, 1) := by decide +kernel
theorem dX3_goOn_31 : decode cX3_goOn 31 = .ok (.iaload, 1) := by decide +kernel
theorem dX3_goOn_32 : decode cX3_goOn 32 = .ok (.istore_n 3, 1) := by decide +kernel
theorem dX3_goOn_33 : decode cX3_goOn 33 = .ok (.aload_n 0, 1) := by decide +kernel
theorem dX3_goOn_34 : decode cX3_goOn 34 = .ok (.getfield 16, 3) := by decide +kernel
theorem dX3_goOn_37 : decode cX3_goOn 37 = .ok (.iload_n 3, 1) := by decide +kernel
theorem dX3_goOn_38 : decode cX3_goOn 38 = .ok (.baload, 1) := by decide +kernel
theorem dX3_goOn_39 : decode cX3_goOn 39 = .ok (.ifCond .ne 28, 3) := by decide +kernel
theorem dX3_goOn_42 : decode cX3_goOn 42 = .ok (.aload_n 0, 1) := by decide +kernel
theorem dX3_goOn_43 : decode cX3_goOn 43 = .ok (.getfield 41, 3) := by decide +kernel
theorem dX3_goOn_46 : decode cX3_goOn 46 = .ok (.iload_n 1, 1) := by decide +kernel
theorem dX3_goOn_47 : decode cX3_goOn 47 = .ok (.iaload, 1) := by decide +kernel
theorem dX3_goOn_48 : decode cX3_goOn 48 = .ok (.iload_n 3, 1) := by decide +kernel
theorem dX3_goOn_49 : decode cX3_goOn 49 = .ok (.ishr, 1) := by decide +kernel
theorem dX3_goOn_50 : decode cX3_goOn 50 = .ok (.iconst 1, 1) := by decide +kernel
theorem dX3_goOn_51 : decode cX3_goOn 51 = .ok (.iand, 1) := by decide +kernel
theorem dX3_goOn_52 : decode cX3_goOn 52 = .ok (.ifCond .ne 15, 3) := by decide +kernel
theorem dX3_goOn_55 : decode cX3_goOn 55 = .ok (.aload_n 0, 1) := by decide +kernel
theorem dX3_goOn_56 : decode cX3_goOn 56 = .ok (.iload_n 3, 1) := by decide +kernel
theorem dX3_goOn_57 : decode cX3_goOn 57 = .ok (.aload_n 0, 1) := by decide +kernel
theorem dX3_goOn_58 : decode cX3_goOn 58 = .ok (.getfield 23, 3) := by decide +kernel
theorem dX3_goOn_61 : decode cX3_goOn 61 = .ok (.iload_n 3, 1) := by decide +kernel
theorem dX3_goOn_62 : decode cX3_goOn 62 = .ok (.iaload, 1) := by decide +kernel
theorem dX3_goOn_63 : decode cX3_goOn 63 = .ok (.iload_n 1, 1) := by decide +kernel
theorem dX3_goOn_64 : decode cX3_goOn 64 = .ok (.invokevirtual 94, 3) := by decide +kernel
theorem dX3_goOn_67 : decode cX3_goOn 67 = .ok (.iinc 2 1, 3) := by decide +kernel
theorem dX3_goOn_70 : decode cX3_goOn 70 = .ok (.goto (-68), 3) := by decide +kernel
theorem dX3_goOn_73 : decode cX3_goOn 73 = .ok (.return_, 1) := by decide +kernel
set_option maxRecDepth 20000 in
theorem ggX3_goIn_X3_insideOf : GoodIn wsX3_goIn wsX3_insideOf := goodIn_r _ [15, 6, 7, 29, 30, 31, 32, 33, 34, 35, 36, 37, 38, 39, 40, 41, 42, 43, 44, 45, 46, 47] (by decide +kernel) (by decide +kernel)
set_option maxRecDepth 20000 in
theorem gX3_goIn_X3_insideOf : GoodIn wsX3_goIn (wsV RX3 98 RX3 yX3_insideOf wsX3_insideOf) := goodIn_app (goodIn_of _ (by decide +kernel)) ggX3_goIn_X3_insideOf
set_option maxRecDepth 20000 in
theorem ggX3_goIn_X3_leaves : GoodIn wsX3_goIn wsX3_leaves := goodIn_r _ [19, 7, 2, 4, 6, 20, 21, 22, 14, 23, 29, 30, 31, 32, 33, 34, 35, 36, 37, 38, 39, 40, 41, 42, 43, 44, 45, 46, 47] (by decide +kernel) (by decide +kernel)
set_option maxRecDepth 20000 in
theorem gX3_goIn_X3_leaves : GoodIn wsX3_goIn (wsV RX3 78 RX3 yX3_leaves wsX3_leaves) := goodIn_app (goodIn_of _ (by decide +kernel)) ggX3_goIn_X3_leaves
set_option maxRecDepth 20000 in
theorem ggX3_goIn_X3_loses : GoodIn wsX3_goIn wsX3_loses := goodIn_r _ [27, 28, 5, 29, 30, 31, 32, 33, 34, 35, 36, 37, 38, 39, 40, 41, 42, 43, 44, 45, 46, 47] (by decide +kernel) (by decide +kernel)
set_option maxRecDepth 20000 in
theorem gX3_goIn_X3_loses : GoodIn wsX3_goIn (wsV RX3 82 RX3 yX3_loses wsX3_loses) := goodIn_app (goodIn_of _ (by decide +kernel)) ggX3_goIn_X3_loses
theorem dX3_goIn_0 : decode cX3_goIn 0 = .ok (.aload_n 0, 1) := by decide +kernel
theorem dX3_goIn_1 : decode cX3_goIn 1 = .ok (.getfield 16, 3) := by decide +kernel
theorem dX3_goIn_4 : decode cX3_goIn 4 = .ok (.iload_n 1, 1) := by decide +kernel
theorem dX3_goIn_5 : decode cX3_goIn 5 = .ok (.baload, 1) := by decide +kernel
theorem dX3_goIn_6 : decode cX3_goIn 6 = .ok (.ifCond .ne 89, 3) := by decide +kernel
theorem dX3_goIn_9 : decode cX3_goIn 9 = .ok (.aload_n 0, 1) := by decide +kernel
theorem dX3_goIn_10 : decode cX3_goIn 10 = .ok (.getfield 23, 3) := by decide +kernel
theorem dX3_goIn_13 : decode cX3_goIn 13 = .ok (.iload_n 1, 1) := by decide +kernel
theorem dX3_goIn_14 : decode cX3_goIn 14 = .ok (.iaload, 1) := by decide +kernel
theorem dX3_goIn_15 : decode cX3_goIn 15 = .ok (.ifCond .le 80, 3) := by decide +kernel
theorem dX3_goIn_18 : decode cX3_goIn 18 = .ok (.aload_n 0, 1) := by decide +kernel
theorem dX3_goIn_19 : decode cX3_goIn 19 = .ok (.iload_n 1, 1) := by decide +kernel
theorem dX3_goIn_20 : decode cX3_goIn 20 = .ok (.invokevirtual 98, 3) := by decide +kernel
theorem dX3_goIn_23 : decode cX3_goIn 23 = .ok (.aload_n 0, 1) := by decide +kernel
theorem dX3_goIn_24 : decode cX3_goIn 24 = .ok (.getfield 7, 3) := by decide +kernel
theorem dX3_goIn_27 : decode cX3_goIn 27 = .ok (.iload_n 1, 1) := by decide +kernel
theorem dX3_goIn_28 : decode cX3_goIn 28 = .ok (.iaload, 1) := by decide +kernel
theorem dX3_goIn_29 : decode cX3_goIn 29 = .ok (.if_icmp .ge 66, 3) := by decide +kernel
theorem dX3_goIn_32 : decode cX3_goIn 32 = .ok (.aload_n 0, 1) := by decide +kernel
theorem dX3_goIn_33 : decode cX3_goIn 33 = .ok (.getfield 20, 3) := by decide +kernel
theorem dX3_goIn_36 : decode cX3_goIn 36 = .ok (.bipush 8, 2) := by decide +kernel
theorem dX3_goIn_38 : decode cX3_goIn 38 = .ok (.iload_n 1, 1) := by decide +kernel
theorem dX3_goIn_39 : decode cX3_goIn 39 = .ok (.imul, 1) := by decide +kernel
theorem dX3_goIn_40 : decode cX3_goIn 40 = .ok (.iaload, 1) := by decide +kernel
theorem dX3_goIn_41 : decode cX3_goIn 41 = .ok (.istore_n 2, 1) := by decide +kernel
theorem dX3_goIn_42 : decode cX3_goIn 42 = .ok (.aload_n 0, 1) := by decide +kernel
theorem dX3_goIn_43 : decode cX3_goIn 43 = .ok (.iload_n 2, 1) := by decide +kernel
theorem dX3_goIn_44 : decode cX3_goIn 44 = .ok (.invokevirtual 78, 3) := by decide +kernel
theorem dX3_goIn_47 : decode cX3_goIn 47 = .ok (.aload_n 0, 1) := by decide +kernel
theorem dX3_goIn_48 : decode cX3_goIn 48 = .ok (.getfield 50, 3) := by decide +kernel
theorem dX3_goIn_51 : decode cX3_goIn 51 = .ok (.iload_n 2, 1) := by decide +kernel
theorem dX3_goIn_52 : decode cX3_goIn 52 = .ok (.baload, 1) := by decide +kernel
theorem dX3_goIn_53 : decode cX3_goIn 53 = .ok (.ifCond .eq 8, 3) := by decide +kernel
theorem dX3_goIn_56 : decode cX3_goIn 56 = .ok (.aload_n 0, 1) := by decide +kernel
theorem dX3_goIn_57 : decode cX3_goIn 57 = .ok (.iload_n 2, 1) := by decide +kernel
theorem dX3_goIn_58 : decode cX3_goIn 58 = .ok (.invokevirtual 82, 3) := by decide +kernel
theorem dX3_goIn_61 : decode cX3_goIn 61 = .ok (.aload_n 0, 1) := by decide +kernel
theorem dX3_goIn_62 : decode cX3_goIn 62 = .ok (.getfield 32, 3) := by decide +kernel
theorem dX3_goIn_65 : decode cX3_goIn 65 = .ok (.iload_n 2, 1) := by decide +kernel
theorem dX3_goIn_66 : decode cX3_goIn 66 = .ok (.iconst 2, 1) := by decide +kernel
theorem dX3_goIn_67 : decode cX3_goIn 67 = .ok (.iastore, 1) := by decide +kernel
theorem dX3_goIn_68 : decode cX3_goIn 68 = .ok (.aload_n 0, 1) := by decide +kernel
theorem dX3_goIn_69 : decode cX3_goIn 69 = .ok (.getfield 35, 3) := by decide +kernel
theorem dX3_goIn_72 : decode cX3_goIn 72 = .ok (.iload_n 2, 1) := by decide +kernel
theorem dX3_goIn_73 : decode cX3_goIn 73 = .ok (.iload_n 1, 1) := by decide +kernel
theorem dX3_goIn_74 : decode cX3_goIn 74 = .ok (.iastore, 1) := by decide +kernel
theorem dX3_goIn_75 : decode cX3_goIn 75 = .ok (.aload_n 0, 1) := by decide +kernel
theorem dX3_goIn_76 : decode cX3_goIn 76 = .ok (.getfield 38, 3) := by decide +kernel
theorem dX3_goIn_79 : decode cX3_goIn 79 = .ok (.iload_n 2, 1) := by decide +kernel
theorem dX3_goIn_80 : decode cX3_goIn 80 = .ok (.aload_n 0, 1) := by decide +kernel
theorem dX3_goIn_81 : decode cX3_goIn 81 = .ok (.getfield 91, 3) := by decide +kernel
theorem dX3_goIn_84 : decode cX3_goIn 84 = .ok (.aload_n 0, 1) := by decide +kernel
theorem dX3_goIn_85 : decode cX3_goIn 85 = .ok (.getfield 13, 3) := by decide +kernel
theorem dX3_goIn_88 : decode cX3_goIn 88 = .ok (.iload_n 1, 1) := by decide +kernel
theorem dX3_goIn_89 : decode cX3_goIn 89 = .ok (.iaload, 1) := by decide +kernel
theorem dX3_goIn_90 : decode cX3_goIn 90 = .ok (.iadd, 1) := by decide +kernel
theorem dX3_goIn_91 : decode cX3_goIn 91 = .ok (.iastore, 1) := by decide +kernel
theorem dX3_goIn_92 : decode cX3_goIn 92 = .ok (.goto (-92), 3) := by decide +kernel
theorem dX3_goIn_95 : decode cX3_goIn 95 = .ok (.return_, 1) := by decide +kernel
set_option maxRecDepth 20000 in
theorem ggX3_advance_X3_goes : GoodIn wsX3_advance wsX3_goes := goodIn_r _ [6, 7, 58, 59, 60, 61, 62, 63, 64, 65, 66, 67, 68, 69, 70, 71, 72, 73, 74, 75, 76] (by decide +kernel) (by decide +kernel)
set_option maxRecDepth 20000 in
theorem gX3_advance_X3_goes : GoodIn wsX3_advance (wsV RX3 74 RX3 yX3_goes wsX3_goes) := goodIn_app (goodIn_of _ (by decide +kernel)) ggX3_advance_X3_goes
set_option maxRecDepth 20000 in
theorem ggX3_advance_X3_comeOut : GoodIn wsX3_advance wsX3_comeOut := goodIn_r _ [11, 12, 13, 1, 14, 15, 58, 59, 60, 61, 62, 63, 64, 65, 66, 67, 68, 69, 70, 71, 72, 73, 74, 75, 76] (by decide +kernel) (by decide +kernel)
set_option maxRecDepth 20000 in
theorem gX3_advance_X3_comeOut : GoodIn wsX3_advance (wsV RX3 102 RX3 yX3_comeOut wsX3_comeOut) := goodIn_app (goodIn_of _ (by decide +kernel)) ggX3_advance_X3_comeOut
set_option maxRecDepth 20000 in
theorem ggX3_advance_X3_takeTurns : GoodIn wsX3_advance wsX3_takeTurns := goodIn_r _ [19, 20, 1, 21, 22, 12, 23, 24, 25, 26, 27, 28, 5, 29, 30, 31, 32, 33, 15, 34, 35, 36, 37, 38, 39, 40, 41, 58, 59, 60, 61, 62, 63, 64, 65, 66, 67, 68, 69, 70, 71, 72, 73, 74, 75, 76] (by decide +kernel) (by decide +kernel)
set_option maxRecDepth 20000 in
theorem gX3_advance_X3_takeTurns : GoodIn wsX3_advance (wsV RX3 105 RX3 yX3_takeTurns wsX3_takeTurns) := goodIn_app (goodIn_of _ (by decide +kernel)) ggX3_advance_X3_takeTurns
set_option maxRecDepth 20000 in
theorem ggX3_advance_X3_goOn : GoodIn wsX3_advance wsX3_goOn := goodIn_r _ [45, 46, 12, 47, 23, 14, 24, 38, 39, 40, 5, 41, 25, 15, 58, 59, 60, 61, 62, 63, 64, 65, 66, 67, 68, 69, 70, 71, 72, 73, 74, 75, 76] (by decide +kernel) (by decide +kernel)
set_option maxRecDepth 20000 in
theorem gX3_advance_X3_goOn : GoodIn wsX3_advance (wsV RX3 108 RX3 yX3_goOn wsX3_goOn) := goodIn_app (goodIn_of _ (by decide +kernel)) ggX3_advance_X3_goOn
set_option maxRecDepth 20000 in
theorem ggX3_advance_X3_goIn : GoodIn wsX3_advance wsX3_goIn := goodIn_r _ [51, 23, 24, 52, 25, 21, 12, 15, 13, 1, 53, 54, 55, 56, 5, 57, 30, 31, 32, 33, 34, 35, 36, 37, 26, 27, 28, 29, 20, 58, 59, 60, 61, 62, 63, 64, 65, 66, 67, 68, 69, 70, 71, 72, 73, 74, 75, 76] (by decide +kernel) (by decide +kernel)
set_option maxRecDepth 20000 in
theorem gX3_advance_X3_goIn : GoodIn wsX3_advance (wsV RX3 111 RX3 yX3_goIn wsX3_goIn) := goodIn_app (goodIn_of _ (by decide +kernel)) ggX3_advance_X3_goIn
theorem dX3_advance_0 : decode cX3_advance 0 = .ok (.aload_n 0, 1) := by decide +kernel
theorem dX3_advance_1 : decode cX3_advance 1 = .ok (.iload_n 1, 1) := by decide +kernel
theorem dX3_advance_2 : decode cX3_advance 2 = .ok (.iconst 1, 1) := by decide +kernel
theorem dX3_advance_3 : decode cX3_advance 3 = .ok (.if_icmp .lt 13, 3) := by decide +kernel
theorem dX3_advance_6 : decode cX3_advance 6 = .ok (.iload_n 1, 1) := by decide +kernel
theorem dX3_advance_7 : decode cX3_advance 7 = .ok (.bipush 60, 2) := by decide +kernel
theorem dX3_advance_9 : decode cX3_advance 9 = .ok (.if_icmp .gt 7, 3) := by decide +kernel
theorem dX3_advance_12 : decode cX3_advance 12 = .ok (.iconst 1, 1) := by decide +kernel
theorem dX3_advance_13 : decode cX3_advance 13 = .ok (.goto 4, 3) := by decide +kernel
theorem dX3_advance_16 : decode cX3_advance 16 = .ok (.iconst 0, 1) := by decide +kernel
theorem dX3_advance_17 : decode cX3_advance 17 = .ok (.aload_n 0, 1) := by decide +kernel
theorem dX3_advance_18 : decode cX3_advance 18 = .ok (.getfield 91, 3) := by decide +kernel
theorem dX3_advance_21 : decode cX3_advance 21 = .ok (.iload_n 1, 1) := by decide +kernel
theorem dX3_advance_22 : decode cX3_advance 22 = .ok (.iadd, 1) := by decide +kernel
theorem dX3_advance_23 : decode cX3_advance 23 = .ok (.sipush 1200, 3) := by decide +kernel
theorem dX3_advance_26 : decode cX3_advance 26 = .ok (.if_icmp .gt 7, 3) := by decide +kernel
theorem dX3_advance_29 : decode cX3_advance 29 = .ok (.iconst 1, 1) := by decide +kernel
theorem dX3_advance_30 : decode cX3_advance 30 = .ok (.goto 4, 3) := by decide +kernel
theorem dX3_advance_33 : decode cX3_advance 33 = .ok (.iconst 0, 1) := by decide +kernel
theorem dX3_advance_34 : decode cX3_advance 34 = .ok (.invokevirtual 74, 3) := by decide +kernel
theorem dX3_advance_37 : decode cX3_advance 37 = .ok (.ifCond .ne 5, 3) := by decide +kernel
theorem dX3_advance_40 : decode cX3_advance 40 = .ok (.iconst 0, 1) := by decide +kernel
theorem dX3_advance_41 : decode cX3_advance 41 = .ok (.ireturn, 1) := by decide +kernel
theorem dX3_advance_42 : decode cX3_advance 42 = .ok (.iconst 0, 1) := by decide +kernel
theorem dX3_advance_43 : decode cX3_advance 43 = .ok (.istore_n 2, 1) := by decide +kernel
theorem dX3_advance_44 : decode cX3_advance 44 = .ok (.iload_n 2, 1) := by decide +kernel
theorem dX3_advance_45 : decode cX3_advance 45 = .ok (.iload_n 1, 1) := by decide +kernel
theorem dX3_advance_46 : decode cX3_advance 46 = .ok (.if_icmp .ge 65, 3) := by decide +kernel
theorem dX3_advance_49 : decode cX3_advance 49 = .ok (.aload_n 0, 1) := by decide +kernel
theorem dX3_advance_50 : decode cX3_advance 50 = .ok (.dup, 1) := by decide +kernel
theorem dX3_advance_51 : decode cX3_advance 51 = .ok (.getfield 91, 3) := by decide +kernel
theorem dX3_advance_54 : decode cX3_advance 54 = .ok (.iconst 1, 1) := by decide +kernel
theorem dX3_advance_55 : decode cX3_advance 55 = .ok (.iadd, 1) := by decide +kernel
theorem dX3_advance_56 : decode cX3_advance 56 = .ok (.putfield 91, 3) := by decide +kernel
theorem dX3_advance_59 : decode cX3_advance 59 = .ok (.aload_n 0, 1) := by decide +kernel
theorem dX3_advance_60 : decode cX3_advance 60 = .ok (.invokevirtual 102, 3) := by decide +kernel
theorem dX3_advance_63 : decode cX3_advance 63 = .ok (.aload_n 0, 1) := by decide +kernel
theorem dX3_advance_64 : decode cX3_advance 64 = .ok (.invokevirtual 105, 3) := by decide +kernel
theorem dX3_advance_67 : decode cX3_advance 67 = .ok (.iconst 0, 1) := by decide +kernel
theorem dX3_advance_68 : decode cX3_advance 68 = .ok (.istore_n 3, 1) := by decide +kernel
theorem dX3_advance_69 : decode cX3_advance 69 = .ok (.iload_n 3, 1) := by decide +kernel
theorem dX3_advance_70 : decode cX3_advance 70 = .ok (.bipush 8, 2) := by decide +kernel
theorem dX3_advance_72 : decode cX3_advance 72 = .ok (.if_icmp .ge 14, 3) := by decide +kernel
theorem dX3_advance_75 : decode cX3_advance 75 = .ok (.aload_n 0, 1) := by decide +kernel
theorem dX3_advance_76 : decode cX3_advance 76 = .ok (.iload_n 3, 1) := by decide +kernel
theorem dX3_advance_77 : decode cX3_advance 77 = .ok (.invokevirtual 108, 3) := by decide +kernel
theorem dX3_advance_80 : decode cX3_advance 80 = .ok (.iinc 3 1, 3) := by decide +kernel
theorem dX3_advance_83 : decode cX3_advance 83 = .ok (.goto (-14), 3) := by decide +kernel
theorem dX3_advance_86 : decode cX3_advance 86 = .ok (.iconst 0, 1) := by decide +kernel
theorem dX3_advance_87 : decode cX3_advance 87 = .ok (.istore_n 3, 1) := by decide +kernel
theorem dX3_advance_88 : decode cX3_advance 88 = .ok (.iload_n 3, 1) := by decide +kernel
theorem dX3_advance_89 : decode cX3_advance 89 = .ok (.bipush 6, 2) := by decide +kernel
theorem dX3_advance_91 : decode cX3_advance 91 = .ok (.if_icmp .ge 14, 3) := by decide +kernel
theorem dX3_advance_94 : decode cX3_advance 94 = .ok (.aload_n 0, 1) := by decide +kernel
theorem dX3_advance_95 : decode cX3_advance 95 = .ok (.iload_n 3, 1) := by decide +kernel
theorem dX3_advance_96 : decode cX3_advance 96 = .ok (.invokevirtual 111, 3) := by decide +kernel
theorem dX3_advance_99 : decode cX3_advance 99 = .ok (.iinc 3 1, 3) := by decide +kernel
theorem dX3_advance_102 : decode cX3_advance 102 = .ok (.goto (-14), 3) := by decide +kernel
theorem dX3_advance_105 : decode cX3_advance 105 = .ok (.iinc 2 1, 3) := by decide +kernel
theorem dX3_advance_108 : decode cX3_advance 108 = .ok (.goto (-64), 3) := by decide +kernel
theorem dX3_advance_111 : decode cX3_advance 111 = .ok (.aload_n 0, 1) := by decide +kernel
theorem dX3_advance_112 : decode cX3_advance 112 = .ok (.getfield 91, 3) := by decide +kernel
theorem dX3_advance_115 : decode cX3_advance 115 = .ok (.ireturn, 1) := by decide +kernel
set_option maxRecDepth 20000 in
theorem ggX3_send_X3_isVisitor : GoodIn wsX3_send wsX3_isVisitor := goodIn_r _ [8] (by decide +kernel) (by decide +kernel)
set_option maxRecDepth 20000 in
theorem gX3_send_X3_isVisitor : GoodIn wsX3_send (va_wsS RX3 85 yX3_isVisitor wsX3_isVisitor) := goodIn_app (goodIn_of _ (by decide +kernel)) ggX3_send_X3_isVisitor
set_option maxRecDepth 20000 in
theorem ggX3_send_X3_isPavilion : GoodIn wsX3_send wsX3_isPavilion := goodIn_r _ [11] (by decide +kernel) (by decide +kernel)
set_option maxRecDepth 20000 in
theorem gX3_send_X3_isPavilion : GoodIn wsX3_send (va_wsS RX3 70 yX3_isPavilion wsX3_isPavilion) := goodIn_app (goodIn_of _ (by decide +kernel)) ggX3_send_X3_isPavilion
set_option maxRecDepth 20000 in
theorem ggX3_send_X3_goes : GoodIn wsX3_send wsX3_goes := goodIn_r _ [15, 16, 17, 18, 19, 20, 21, 22, 23, 24, 25, 26, 27, 28, 29, 30, 31, 32, 33, 34, 35] (by decide +kernel) (by decide +kernel)
set_option maxRecDepth 20000 in
theorem gX3_send_X3_goes : GoodIn wsX3_send (wsV RX3 74 RX3 yX3_goes wsX3_goes) := goodIn_app (goodIn_of _ (by decide +kernel)) ggX3_send_X3_goes
theorem dX3_send_0 : decode cX3_send 0 = .ok (.iload_n 1, 1) := by decide +kernel
theorem dX3_send_1 : decode cX3_send 1 = .ok (.invokestatic 85, 3) := by decide +kernel
theorem dX3_send_4 : decode cX3_send 4 = .ok (.ifCond .eq 14, 3) := by decide +kernel
theorem dX3_send_7 : decode cX3_send 7 = .ok (.iload_n 2, 1) := by decide +kernel
theorem dX3_send_8 : decode cX3_send 8 = .ok (.invokestatic 70, 3) := by decide +kernel
theorem dX3_send_11 : decode cX3_send 11 = .ok (.ifCond .eq 7, 3) := by decide +kernel
theorem dX3_send_14 : decode cX3_send 14 = .ok (.iconst 1, 1) := by decide +kernel
theorem dX3_send_15 : decode cX3_send 15 = .ok (.goto 4, 3) := by decide +kernel
theorem dX3_send_18 : decode cX3_send 18 = .ok (.iconst 0, 1) := by decide +kernel
theorem dX3_send_19 : decode cX3_send 19 = .ok (.istore_n 3, 1) := by decide +kernel
theorem dX3_send_20 : decode cX3_send 20 = .ok (.aload_n 0, 1) := by decide +kernel
theorem dX3_send_21 : decode cX3_send 21 = .ok (.iload_n 3, 1) := by decide +kernel
theorem dX3_send_22 : decode cX3_send 22 = .ok (.iload_n 3, 1) := by decide +kernel
theorem dX3_send_23 : decode cX3_send 23 = .ok (.ifCond .eq 21, 3) := by decide +kernel
theorem dX3_send_26 : decode cX3_send 26 = .ok (.aload_n 0, 1) := by decide +kernel
theorem dX3_send_27 : decode cX3_send 27 = .ok (.getfield 41, 3) := by decide +kernel
theorem dX3_send_30 : decode cX3_send 30 = .ok (.iload_n 1, 1) := by decide +kernel
theorem dX3_send_31 : decode cX3_send 31 = .ok (.iaload, 1) := by decide +kernel
theorem dX3_send_32 : decode cX3_send 32 = .ok (.iload_n 2, 1) := by decide +kernel
theorem dX3_send_33 : decode cX3_send 33 = .ok (.ishr, 1) := by decide +kernel
theorem dX3_send_34 : decode cX3_send 34 = .ok (.iconst 1, 1) := by decide +kernel
theorem dX3_send_35 : decode cX3_send 35 = .ok (.iand, 1) := by decide +kernel
theorem dX3_send_36 : decode cX3_send 36 = .ok (.iconst 1, 1) := by decide +kernel
theorem dX3_send_37 : decode cX3_send 37 = .ok (.if_icmp .ne 7, 3) := by decide +kernel
theorem dX3_send_40 : decode cX3_send 40 = .ok (.iconst 1, 1) := by decide +kernel
theorem dX3_send_41 : decode cX3_send 41 = .ok (.goto 4, 3) := by decide +kernel
theorem dX3_send_44 : decode cX3_send 44 = .ok (.iconst 0, 1) := by decide +kernel
theorem dX3_send_45 : decode cX3_send 45 = .ok (.invokevirtual 74, 3) := by decide +kernel
theorem dX3_send_48 : decode cX3_send 48 = .ok (.ifCond .ne 5, 3) := by decide +kernel
theorem dX3_send_51 : decode cX3_send 51 = .ok (.iconst 0, 1) := by decide +kernel
theorem dX3_send_52 : decode cX3_send 52 = .ok (.ireturn, 1) := by decide +kernel
theorem dX3_send_53 : decode cX3_send 53 = .ok (.aload_n 0, 1) := by decide +kernel
theorem dX3_send_54 : decode cX3_send 54 = .ok (.getfield 53, 3) := by decide +kernel
theorem dX3_send_57 : decode cX3_send 57 = .ok (.iload_n 2, 1) := by decide +kernel
theorem dX3_send_58 : decode cX3_send 58 = .ok (.iaload, 1) := by decide +kernel
theorem dX3_send_59 : decode cX3_send 59 = .ok (.ifCond .ne 15, 3) := by decide +kernel
theorem dX3_send_62 : decode cX3_send 62 = .ok (.aload_n 0, 1) := by decide +kernel
theorem dX3_send_63 : decode cX3_send 63 = .ok (.getfield 56, 3) := by decide +kernel
theorem dX3_send_66 : decode cX3_send 66 = .ok (.iload_n 2, 1) := by decide +kernel
theorem dX3_send_67 : decode cX3_send 67 = .ok (.dup2, 1) := by decide +kernel
theorem dX3_send_68 : decode cX3_send 68 = .ok (.iaload, 1) := by decide +kernel
theorem dX3_send_69 : decode cX3_send 69 = .ok (.iconst 1, 1) := by decide +kernel
theorem dX3_send_70 : decode cX3_send 70 = .ok (.iadd, 1) := by decide +kernel
theorem dX3_send_71 : decode cX3_send 71 = .ok (.iastore, 1) := by decide +kernel
theorem dX3_send_72 : decode cX3_send 72 = .ok (.iconst 0, 1) := by decide +kernel
theorem dX3_send_73 : decode cX3_send 73 = .ok (.ireturn, 1) := by decide +kernel
theorem dX3_send_74 : decode cX3_send 74 = .ok (.aload_n 0, 1) := by decide +kernel
theorem dX3_send_75 : decode cX3_send 75 = .ok (.getfield 53, 3) := by decide +kernel
theorem dX3_send_78 : decode cX3_send 78 = .ok (.iload_n 2, 1) := by decide +kernel
theorem dX3_send_79 : decode cX3_send 79 = .ok (.dup2, 1) := by decide +kernel
theorem dX3_send_80 : decode cX3_send 80 = .ok (.iaload, 1) := by decide +kernel
theorem dX3_send_81 : decode cX3_send 81 = .ok (.iconst 1, 1) := by decide +kernel
theorem dX3_send_82 : decode cX3_send 82 = .ok (.isub, 1) := by decide +kernel
theorem dX3_send_83 : decode cX3_send 83 = .ok (.iastore, 1) := by decide +kernel
theorem dX3_send_84 : decode cX3_send 84 = .ok (.aload_n 0, 1) := by decide +kernel
theorem dX3_send_85 : decode cX3_send 85 = .ok (.getfield 59, 3) := by decide +kernel
theorem dX3_send_88 : decode cX3_send 88 = .ok (.bipush 6, 2) := by decide +kernel
theorem dX3_send_90 : decode cX3_send 90 = .ok (.iload_n 1, 1) := by decide +kernel
theorem dX3_send_91 : decode cX3_send 91 = .ok (.imul, 1) := by decide +kernel
theorem dX3_send_92 : decode cX3_send 92 = .ok (.iload_n 2, 1) := by decide +kernel
theorem dX3_send_93 : decode cX3_send 93 = .ok (.iadd, 1) := by decide +kernel
theorem dX3_send_94 : decode cX3_send 94 = .ok (.dup2, 1) := by decide +kernel
theorem dX3_send_95 : decode cX3_send 95 = .ok (.iaload, 1) := by decide +kernel
theorem dX3_send_96 : decode cX3_send 96 = .ok (.iconst 1, 1) := by decide +kernel
theorem dX3_send_97 : decode cX3_send 97 = .ok (.iadd, 1) := by decide +kernel
theorem dX3_send_98 : decode cX3_send 98 = .ok (.iastore, 1) := by decide +kernel
theorem dX3_send_99 : decode cX3_send 99 = .ok (.iconst 1, 1) := by decide +kernel
theorem dX3_send_100 : decode cX3_send 100 = .ok (.ireturn, 1) := by decide +kernel
set_option maxRecDepth 20000 in
theorem ggX3_reprint_X3_goes : GoodIn wsX3_reprint wsX3_goes := goodIn_r _ [7, 8, 9, 10, 11, 12, 13, 14, 15, 16, 17, 18, 19, 20, 21, 22, 23, 24, 25, 26, 27] (by decide +kernel) (by decide +kernel)
set_option maxRecDepth 20000 in
theorem gX3_reprint_X3_goes : GoodIn wsX3_reprint (wsV RX3 74 RX3 yX3_goes wsX3_goes) := goodIn_app (goodIn_of _ (by decide +kernel)) ggX3_reprint_X3_goes
theorem dX3_reprint_0 : decode cX3_reprint 0 = .ok (.aload_n 0, 1) := by decide +kernel
theorem dX3_reprint_1 : decode cX3_reprint 1 = .ok (.iload_n 1, 1) := by decide +kernel
theorem dX3_reprint_2 : decode cX3_reprint 2 = .ok (.iconst 1, 1) := by decide +kernel
theorem dX3_reprint_3 : decode cX3_reprint 3 = .ok (.if_icmp .lt 14, 3) := by decide +kernel
theorem dX3_reprint_6 : decode cX3_reprint 6 = .ok (.iload_n 1, 1) := by decide +kernel
theorem dX3_reprint_7 : decode cX3_reprint 7 = .ok (.sipush 1000, 3) := by decide +kernel
theorem dX3_reprint_10 : decode cX3_reprint 10 = .ok (.if_icmp .gt 7, 3) := by decide +kernel
theorem dX3_reprint_13 : decode cX3_reprint 13 = .ok (.iconst 1, 1) := by decide +kernel
theorem dX3_reprint_14 : decode cX3_reprint 14 = .ok (.goto 4, 3) := by decide +kernel
theorem dX3_reprint_17 : decode cX3_reprint 17 = .ok (.iconst 0, 1) := by decide +kernel
theorem dX3_reprint_18 : decode cX3_reprint 18 = .ok (.iconst 1, 1) := by decide +kernel
theorem dX3_reprint_19 : decode cX3_reprint 19 = .ok (.invokevirtual 74, 3) := by decide +kernel
theorem dX3_reprint_22 : decode cX3_reprint 22 = .ok (.ifCond .ne 5, 3) := by decide +kernel
theorem dX3_reprint_25 : decode cX3_reprint 25 = .ok (.iconst 0, 1) := by decide +kernel
theorem dX3_reprint_26 : decode cX3_reprint 26 = .ok (.ireturn, 1) := by decide +kernel
theorem dX3_reprint_27 : decode cX3_reprint 27 = .ok (.iconst 0, 1) := by decide +kernel
theorem dX3_reprint_28 : decode cX3_reprint 28 = .ok (.istore_n 2, 1) := by decide +kernel
theorem dX3_reprint_29 : decode cX3_reprint 29 = .ok (.iconst 0, 1) := by decide +kernel
theorem dX3_reprint_30 : decode cX3_reprint 30 = .ok (.istore_n 3, 1) := by decide +kernel
theorem dX3_reprint_31 : decode cX3_reprint 31 = .ok (.iload_n 3, 1) := by decide +kernel
theorem dX3_reprint_32 : decode cX3_reprint 32 = .ok (.bipush 6, 2) := by decide +kernel
theorem dX3_reprint_34 : decode cX3_reprint 34 = .ok (.if_icmp .ge 50, 3) := by decide +kernel
theorem dX3_reprint_37 : decode cX3_reprint 37 = .ok (.aload_n 0, 1) := by decide +kernel
theorem dX3_reprint_38 : decode cX3_reprint 38 = .ok (.getfield 56, 3) := by decide +kernel
theorem dX3_reprint_41 : decode cX3_reprint 41 = .ok (.iload_n 3, 1) := by decide +kernel
theorem dX3_reprint_42 : decode cX3_reprint 42 = .ok (.iaload, 1) := by decide +kernel
theorem dX3_reprint_43 : decode cX3_reprint 43 = .ok (.iload_n 1, 1) := by decide +kernel
theorem dX3_reprint_44 : decode cX3_reprint 44 = .ok (.if_icmp .lt 34, 3) := by decide +kernel
theorem dX3_reprint_47 : decode cX3_reprint 47 = .ok (.aload_n 0, 1) := by decide +kernel
theorem dX3_reprint_48 : decode cX3_reprint 48 = .ok (.getfield 53, 3) := by decide +kernel
theorem dX3_reprint_51 : decode cX3_reprint 51 = .ok (.iload_n 3, 1) := by decide +kernel
theorem dX3_reprint_52 : decode cX3_reprint 52 = .ok (.dup2, 1) := by decide +kernel
theorem dX3_reprint_53 : decode cX3_reprint 53 = .ok (.iaload, 1) := by decide +kernel
theorem dX3_reprint_54 : decode cX3_reprint 54 = .ok (.aload_n 0, 1) := by decide +kernel
theorem dX3_reprint_55 : decode cX3_reprint 55 = .ok (.getfield 56, 3) := by decide +kernel
theorem dX3_reprint_58 : decode cX3_reprint 58 = .ok (.iload_n 3, 1) := by decide +kernel
theorem dX3_reprint_59 : decode cX3_reprint 59 = .ok (.iaload, 1) := by decide +kernel
theorem dX3_reprint_60 : decode cX3_reprint 60 = .ok (.iadd, 1) := by decide +kernel
theorem dX3_reprint_61 : decode cX3_reprint 61 = .ok (.iastore, 1) := by decide +kernel
theorem dX3_reprint_62 : decode cX3_reprint 62 = .ok (.iload_n 2, 1) := by decide +kernel
theorem dX3_reprint_63 : decode cX3_reprint 63 = .ok (.aload_n 0, 1) := by decide +kernel
theorem dX3_reprint_64 : decode cX3_reprint 64 = .ok (.getfield 56, 3) := by decide +kernel
theorem dX3_reprint_67 : decode cX3_reprint 67 = .ok (.iload_n 3, 1) := by decide +kernel
theorem dX3_reprint_68 : decode cX3_reprint 68 = .ok (.iaload, 1) := by decide +kernel
theorem dX3_reprint_69 : decode cX3_reprint 69 = .ok (.iadd, 1) := by decide +kernel
theorem dX3_reprint_70 : decode cX3_reprint 70 = .ok (.istore_n 2, 1) := by decide +kernel
theorem dX3_reprint_71 : decode cX3_reprint 71 = .ok (.aload_n 0, 1) := by decide +kernel
theorem dX3_reprint_72 : decode cX3_reprint 72 = .ok (.getfield 56, 3) := by decide +kernel
theorem dX3_reprint_75 : decode cX3_reprint 75 = .ok (.iload_n 3, 1) := by decide +kernel
theorem dX3_reprint_76 : decode cX3_reprint 76 = .ok (.iconst 0, 1) := by decide +kernel
theorem dX3_reprint_77 : decode cX3_reprint 77 = .ok (.iastore, 1) := by decide +kernel
theorem dX3_reprint_78 : decode cX3_reprint 78 = .ok (.iinc 3 1, 3) := by decide +kernel
theorem dX3_reprint_81 : decode cX3_reprint 81 = .ok (.goto (-50), 3) := by decide +kernel
theorem dX3_reprint_84 : decode cX3_reprint 84 = .ok (.iload_n 2, 1) := by decide +kernel
theorem dX3_reprint_85 : decode cX3_reprint 85 = .ok (.ireturn, 1) := by decide +kernel
theorem dX3_minute_0 : decode cX3_minute 0 = .ok (.aload_n 0, 1) := by decide +kernel
theorem dX3_minute_1 : decode cX3_minute 1 = .ok (.iconst 0, 1) := by decide +kernel
theorem dX3_minute_2 : decode cX3_minute 2 = .ok (.putfield 62, 3) := by decide +kernel
theorem dX3_minute_5 : decode cX3_minute 5 = .ok (.aload_n 0, 1) := by decide +kernel
theorem dX3_minute_6 : decode cX3_minute 6 = .ok (.getfield 91, 3) := by decide +kernel
theorem dX3_minute_9 : decode cX3_minute 9 = .ok (.ireturn, 1) := by decide +kernel
set_option maxRecDepth 20000 in
theorem ggX3_stateOf_X3_isVisitor : GoodIn wsX3_stateOf wsX3_isVisitor := goodIn_r _ [5] (by decide +kernel) (by decide +kernel)
set_option maxRecDepth 20000 in
theorem gX3_stateOf_X3_isVisitor : GoodIn wsX3_stateOf (va_wsS RX3 85 yX3_isVisitor wsX3_isVisitor) := goodIn_app (goodIn_of _ (by decide +kernel)) ggX3_stateOf_X3_isVisitor
set_option maxRecDepth 20000 in
theorem ggX3_stateOf_X3_goes : GoodIn wsX3_stateOf wsX3_goes := goodIn_r _ [9, 10, 11, 12, 13, 14, 15, 16, 17, 18, 19, 20, 21, 22, 23, 24, 25, 26, 27, 28, 29] (by decide +kernel) (by decide +kernel)
set_option maxRecDepth 20000 in
theorem gX3_stateOf_X3_goes : GoodIn wsX3_stateOf (wsV RX3 74 RX3 yX3_goes wsX3_goes) := goodIn_app (goodIn_of _ (by decide +kernel)) ggX3_stateOf_X3_goes
theorem dX3_stateOf_0 : decode cX3_stateOf 0 = .ok (.aload_n 0, 1) := by decide +kernel
theorem dX3_stateOf_1 : decode cX3_stateOf 1 = .ok (.iload_n 1, 1) := by decide +kernel
theorem dX3_stateOf_2 : decode cX3_stateOf 2 = .ok (.invokestatic 85, 3) := by decide +kernel
theorem dX3_stateOf_5 : decode cX3_stateOf 5 = .ok (.iconst 1, 1) := by decide +kernel
theorem dX3_stateOf_6 : decode cX3_stateOf 6 = .ok (.invokevirtual 74, 3) := by decide +kernel
theorem dX3_stateOf_9 : decode cX3_stateOf 9 = .ok (.ifCond .eq 12, 3) := by decide +kernel
theorem dX3_stateOf_12 : decode cX3_stateOf 12 = .ok (.aload_n 0, 1) := by decide +kernel
theorem dX3_stateOf_13 : decode cX3_stateOf 13 = .ok (.getfield 32, 3) := by decide +kernel
theorem dX3_stateOf_16 : decode cX3_stateOf 16 = .ok (.iload_n 1, 1) := by decide +kernel
theorem dX3_stateOf_17 : decode cX3_stateOf 17 = .ok (.iaload, 1) := by decide +kernel
theorem dX3_stateOf_18 : decode cX3_stateOf 18 = .ok (.goto 4, 3) := by decide +kernel
theorem dX3_stateOf_21 : decode cX3_stateOf 21 = .ok (.iconst 0, 1) := by decide +kernel
theorem dX3_stateOf_22 : decode cX3_stateOf 22 = .ok (.ireturn, 1) := by decide +kernel
set_option maxRecDepth 20000 in
theorem ggX3_whereIs_X3_isVisitor : GoodIn wsX3_whereIs wsX3_isVisitor := goodIn_r _ [5] (by decide +kernel) (by decide +kernel)
set_option maxRecDepth 20000 in
theorem gX3_whereIs_X3_isVisitor : GoodIn wsX3_whereIs (va_wsS RX3 85 yX3_isVisitor wsX3_isVisitor) := goodIn_app (goodIn_of _ (by decide +kernel)) ggX3_whereIs_X3_isVisitor
set_option maxRecDepth 20000 in
theorem ggX3_whereIs_X3_goes : GoodIn wsX3_whereIs wsX3_goes := goodIn_r _ [9, 10, 11, 12, 13, 14, 15, 16, 17, 18, 19, 20, 21, 22, 23, 24, 25, 26, 27, 28, 29] (by decide +kernel) (by decide +kernel)
set_option maxRecDepth 20000 in
theorem gX3_whereIs_X3_goes : GoodIn wsX3_whereIs (wsV RX3 74 RX3 yX3_goes wsX3_goes) := goodIn_app (goodIn_of _ (by decide +kernel)) ggX3_whereIs_X3_goes
theorem dX3_whereIs_0 : decode cX3_whereIs 0 = .ok (.aload_n 0, 1) := by decide +kernel
theorem dX3_whereIs_1 : decode cX3_whereIs 1 = .ok (.iload_n 1, 1) := by decide +kernel
theorem dX3_whereIs_2 : decode cX3_whereIs 2 = .ok (.invokestatic 85, 3) := by decide +kernel
theorem dX3_whereIs_5 : decode cX3_whereIs 5 = .ok (.iconst 1, 1) := by decide +kernel
theorem dX3_whereIs_6 : decode cX3_whereIs 6 = .ok (.invokevirtual 74, 3) := by decide +kernel
theorem dX3_whereIs_9 : decode cX3_whereIs 9 = .ok (.ifCond .eq 12, 3) := by decide +kernel
theorem dX3_whereIs_12 : decode cX3_whereIs 12 = .ok (.aload_n 0, 1) := by decide +kernel
theorem dX3_whereIs_13 : decode cX3_whereIs 13 = .ok (.getfield 35, 3) := by decide +kernel
theorem dX3_whereIs_16 : decode cX3_whereIs 16 = .ok (.iload_n 1, 1) := by decide +kernel
theorem dX3_whereIs_17 : decode cX3_whereIs 17 = .ok (.iaload, 1) := by decide +kernel
theorem dX3_whereIs_18 : decode cX3_whereIs 18 = .ok (.goto 4, 3) := by decide +kernel
theorem dX3_whereIs_21 : decode cX3_whereIs 21 = .ok (.iconst 0, 1) := by decide +kernel
theorem dX3_whereIs_22 : decode cX3_whereIs 22 = .ok (.ireturn, 1) := by decide +kernel
set_option maxRecDepth 20000 in
theorem ggX3_placeOf_X3_isVisitor : GoodIn wsX3_placeOf wsX3_isVisitor := goodIn_r _ [6] (by decide +kernel) (by decide +kernel)
set_option maxRecDepth 20000 in
theorem gX3_placeOf_X3_isVisitor : GoodIn wsX3_placeOf (va_wsS RX3 85 yX3_isVisitor wsX3_isVisitor) := goodIn_app (goodIn_of _ (by decide +kernel)) ggX3_placeOf_X3_isVisitor
set_option maxRecDepth 20000 in
theorem ggX3_placeOf_X3_goes : GoodIn wsX3_placeOf wsX3_goes := goodIn_r _ [10, 11, 18, 19, 20, 21, 22, 23, 24, 25, 26, 27, 28, 29, 30, 31, 32, 33, 34, 35, 36] (by decide +kernel) (by decide +kernel)
set_option maxRecDepth 20000 in
theorem gX3_placeOf_X3_goes : GoodIn wsX3_placeOf (wsV RX3 74 RX3 yX3_goes wsX3_goes) := goodIn_app (goodIn_of _ (by decide +kernel)) ggX3_placeOf_X3_goes
set_option maxRecDepth 20000 in
theorem ggX3_placeOf_X3_placeIn : GoodIn wsX3_placeOf wsX3_placeIn := goodIn_r _ [15, 16, 17, 18, 19, 20, 21, 22, 23, 24, 25, 26, 27, 28, 29, 30, 31, 32, 33, 34, 35, 36] (by decide +kernel) (by decide +kernel)
set_option maxRecDepth 20000 in
theorem gX3_placeOf_X3_placeIn : GoodIn wsX3_placeOf (wsV RX3 66 RX3 yX3_placeIn wsX3_placeIn) := goodIn_app (goodIn_of _ (by decide +kernel)) ggX3_placeOf_X3_placeIn
theorem dX3_placeOf_0 : decode cX3_placeOf 0 = .ok (.aload_n 0, 1) := by decide +kernel
theorem dX3_placeOf_1 : decode cX3_placeOf 1 = .ok (.iload_n 1, 1) := by decide +kernel
theorem dX3_placeOf_2 : decode cX3_placeOf 2 = .ok (.invokestatic 85, 3) := by decide +kernel
theorem dX3_placeOf_5 : decode cX3_placeOf 5 = .ok (.iconst 1, 1) := by decide +kernel
theorem dX3_placeOf_6 : decode cX3_placeOf 6 = .ok (.invokevirtual 74, 3) := by decide +kernel
theorem dX3_placeOf_9 : decode cX3_placeOf 9 = .ok (.ifCond .ne 5, 3) := by decide +kernel
theorem dX3_placeOf_12 : decode cX3_placeOf 12 = .ok (.iconst 0, 1) := by decide +kernel
theorem dX3_placeOf_13 : decode cX3_placeOf 13 = .ok (.ireturn, 1) := by decide +kernel
theorem dX3_placeOf_14 : decode cX3_placeOf 14 = .ok (.aload_n 0, 1) := by decide +kernel
theorem dX3_placeOf_15 : decode cX3_placeOf 15 = .ok (.getfield 32, 3) := by decide +kernel
theorem dX3_placeOf_18 : decode cX3_placeOf 18 = .ok (.iload_n 1, 1) := by decide +kernel
theorem dX3_placeOf_19 : decode cX3_placeOf 19 = .ok (.iaload, 1) := by decide +kernel
theorem dX3_placeOf_20 : decode cX3_placeOf 20 = .ok (.iconst 1, 1) := by decide +kernel
theorem dX3_placeOf_21 : decode cX3_placeOf 21 = .ok (.if_icmp .ne 17, 3) := by decide +kernel
theorem dX3_placeOf_24 : decode cX3_placeOf 24 = .ok (.aload_n 0, 1) := by decide +kernel
theorem dX3_placeOf_25 : decode cX3_placeOf 25 = .ok (.aload_n 0, 1) := by decide +kernel
theorem dX3_placeOf_26 : decode cX3_placeOf 26 = .ok (.getfield 35, 3) := by decide +kernel
theorem dX3_placeOf_29 : decode cX3_placeOf 29 = .ok (.iload_n 1, 1) := by decide +kernel
theorem dX3_placeOf_30 : decode cX3_placeOf 30 = .ok (.iaload, 1) := by decide +kernel
theorem dX3_placeOf_31 : decode cX3_placeOf 31 = .ok (.iload_n 1, 1) := by decide +kernel
theorem dX3_placeOf_32 : decode cX3_placeOf 32 = .ok (.invokevirtual 66, 3) := by decide +kernel
theorem dX3_placeOf_35 : decode cX3_placeOf 35 = .ok (.goto 4, 3) := by decide +kernel
theorem dX3_placeOf_38 : decode cX3_placeOf 38 = .ok (.iconst (-1), 1) := by decide +kernel
theorem dX3_placeOf_39 : decode cX3_placeOf 39 = .ok (.ireturn, 1) := by decide +kernel
set_option maxRecDepth 20000 in
theorem ggX3_turnOf_X3_isVisitor : GoodIn wsX3_turnOf wsX3_isVisitor := goodIn_r _ [5] (by decide +kernel) (by decide +kernel)
set_option maxRecDepth 20000 in
theorem gX3_turnOf_X3_isVisitor : GoodIn wsX3_turnOf (va_wsS RX3 85 yX3_isVisitor wsX3_isVisitor) := goodIn_app (goodIn_of _ (by decide +kernel)) ggX3_turnOf_X3_isVisitor
set_option maxRecDepth 20000 in
theorem ggX3_turnOf_X3_goes : GoodIn wsX3_turnOf wsX3_goes := goodIn_r _ [9, 10, 11, 12, 13, 14, 15, 16, 17, 18, 19, 20, 21, 22, 23, 24, 25, 26, 27, 28, 29] (by decide +kernel) (by decide +kernel)
set_option maxRecDepth 20000 in
theorem gX3_turnOf_X3_goes : GoodIn wsX3_turnOf (wsV RX3 74 RX3 yX3_goes wsX3_goes) := goodIn_app (goodIn_of _ (by decide +kernel)) ggX3_turnOf_X3_goes
theorem dX3_turnOf_0 : decode cX3_turnOf 0 = .ok (.aload_n 0, 1) := by decide +kernel
theorem dX3_turnOf_1 : decode cX3_turnOf 1 = .ok (.iload_n 1, 1) := by decide +kernel
theorem dX3_turnOf_2 : decode cX3_turnOf 2 = .ok (.invokestatic 85, 3) := by decide +kernel
theorem dX3_turnOf_5 : decode cX3_turnOf 5 = .ok (.iconst 1, 1) := by decide +kernel
theorem dX3_turnOf_6 : decode cX3_turnOf 6 = .ok (.invokevirtual 74, 3) := by decide +kernel
theorem dX3_turnOf_9 : decode cX3_turnOf 9 = .ok (.ifCond .eq 12, 3) := by decide +kernel
theorem dX3_turnOf_12 : decode cX3_turnOf 12 = .ok (.aload_n 0, 1) := by decide +kernel
theorem dX3_turnOf_13 : decode cX3_turnOf 13 = .ok (.getfield 44, 3) := by decide +kernel
theorem dX3_turnOf_16 : decode cX3_turnOf 16 = .ok (.iload_n 1, 1) := by decide +kernel
theorem dX3_turnOf_17 : decode cX3_turnOf 17 = .ok (.iaload, 1) := by decide +kernel
theorem dX3_turnOf_18 : decode cX3_turnOf 18 = .ok (.goto 4, 3) := by decide +kernel
theorem dX3_turnOf_21 : decode cX3_turnOf 21 = .ok (.iconst 0, 1) := by decide +kernel
theorem dX3_turnOf_22 : decode cX3_turnOf 22 = .ok (.ireturn, 1) := by decide +kernel
set_option maxRecDepth 20000 in
theorem ggX3_stamps_X3_isVisitor : GoodIn wsX3_stamps wsX3_isVisitor := goodIn_r _ [5] (by decide +kernel) (by decide +kernel)
set_option maxRecDepth 20000 in
theorem gX3_stamps_X3_isVisitor : GoodIn wsX3_stamps (va_wsS RX3 85 yX3_isVisitor wsX3_isVisitor) := goodIn_app (goodIn_of _ (by decide +kernel)) ggX3_stamps_X3_isVisitor
set_option maxRecDepth 20000 in
theorem ggX3_stamps_X3_goes : GoodIn wsX3_stamps wsX3_goes := goodIn_r _ [9, 10, 11, 12, 13, 14, 15, 16, 17, 18, 19, 20, 21, 22, 23, 24, 25, 26, 27, 28, 29] (by decide +kernel) (by decide +kernel)
set_option maxRecDepth 20000 in
theorem gX3_stamps_X3_goes : GoodIn wsX3_stamps (wsV RX3 74 RX3 yX3_goes wsX3_goes) := goodIn_app (goodIn_of _ (by decide +kernel)) ggX3_stamps_X3_goes
theorem dX3_stamps_0 : decode cX3_stamps 0 = .ok (.aload_n 0, 1) := by decide +kernel
theorem dX3_stamps_1 : decode cX3_stamps 1 = .ok (.iload_n 1, 1) := by decide +kernel
theorem dX3_stamps_2 : decode cX3_stamps 2 = .ok (.invokestatic 85, 3) := by decide +kernel
theorem dX3_stamps_5 : decode cX3_stamps 5 = .ok (.iconst 1, 1) := by decide +kernel
theorem dX3_stamps_6 : decode cX3_stamps 6 = .ok (.invokevirtual 74, 3) := by decide +kernel
theorem dX3_stamps_9 : decode cX3_stamps 9 = .ok (.ifCond .eq 12, 3) := by decide +kernel
theorem dX3_stamps_12 : decode cX3_stamps 12 = .ok (.aload_n 0, 1) := by decide +kernel
theorem dX3_stamps_13 : decode cX3_stamps 13 = .ok (.getfield 41, 3) := by decide +kernel
theorem dX3_stamps_16 : decode cX3_stamps 16 = .ok (.iload_n 1, 1) := by decide +kernel
theorem dX3_stamps_17 : decode cX3_stamps 17 = .ok (.iaload, 1) := by decide +kernel
theorem dX3_stamps_18 : decode cX3_stamps 18 = .ok (.goto 4, 3) := by decide +kernel
theorem dX3_stamps_21 : decode cX3_stamps 21 = .ok (.iconst 0, 1) := by decide +kernel
theorem dX3_stamps_22 : decode cX3_stamps 22 = .ok (.ireturn, 1) := by decide +kernel
set_option maxRecDepth 20000 in
theorem ggX3_queue_X3_isPavilion : GoodIn wsX3_queue wsX3_isPavilion := goodIn_r _ [5] (by decide +kernel) (by decide +kernel)
set_option maxRecDepth 20000 in
theorem gX3_queue_X3_isPavilion : GoodIn wsX3_queue (va_wsS RX3 70 yX3_isPavilion wsX3_isPavilion) := goodIn_app (goodIn_of _ (by decide +kernel)) ggX3_queue_X3_isPavilion
set_option maxRecDepth 20000 in
theorem ggX3_queue_X3_goes : GoodIn wsX3_queue wsX3_goes := goodIn_r _ [9, 10, 11, 12, 13, 14, 15, 16, 17, 18, 19, 20, 21, 22, 23, 24, 25, 26, 27, 28, 29] (by decide +kernel) (by decide +kernel)
set_option maxRecDepth 20000 in
theorem gX3_queue_X3_goes : GoodIn wsX3_queue (wsV RX3 74 RX3 yX3_goes wsX3_goes) := goodIn_app (goodIn_of _ (by decide +kernel)) ggX3_queue_X3_goes
theorem dX3_queue_0 : decode cX3_queue 0 = .ok (.aload_n 0, 1) := by decide +kernel
theorem dX3_queue_1 : decode cX3_queue 1 = .ok (.iload_n 1, 1) := by decide +kernel
theorem dX3_queue_2 : decode cX3_queue 2 = .ok (.invokestatic 70, 3) := by decide +kernel
theorem dX3_queue_5 : decode cX3_queue 5 = .ok (.iconst 1, 1) := by decide +kernel
theorem dX3_queue_6 : decode cX3_queue 6 = .ok (.invokevirtual 74, 3) := by decide +kernel
theorem dX3_queue_9 : decode cX3_queue 9 = .ok (.ifCond .eq 12, 3) := by decide +kernel
theorem dX3_queue_12 : decode cX3_queue 12 = .ok (.aload_n 0, 1) := by decide +kernel
theorem dX3_queue_13 : decode cX3_queue 13 = .ok (.getfield 23, 3) := by decide +kernel
theorem dX3_queue_16 : decode cX3_queue 16 = .ok (.iload_n 1, 1) := by decide +kernel
theorem dX3_queue_17 : decode cX3_queue 17 = .ok (.iaload, 1) := by decide +kernel
theorem dX3_queue_18 : decode cX3_queue 18 = .ok (.goto 4, 3) := by decide +kernel
theorem dX3_queue_21 : decode cX3_queue 21 = .ok (.iconst 0, 1) := by decide +kernel
theorem dX3_queue_22 : decode cX3_queue 22 = .ok (.ireturn, 1) := by decide +kernel
set_option maxRecDepth 20000 in
theorem ggX3_inside_X3_isPavilion : GoodIn wsX3_inside wsX3_isPavilion := goodIn_r _ [4] (by decide +kernel) (by decide +kernel)
set_option maxRecDepth 20000 in
theorem gX3_inside_X3_isPavilion : GoodIn wsX3_inside (va_wsS RX3 70 yX3_isPavilion wsX3_isPavilion) := goodIn_app (goodIn_of _ (by decide +kernel)) ggX3_inside_X3_isPavilion
set_option maxRecDepth 20000 in
theorem ggX3_inside_X3_goes : GoodIn wsX3_inside wsX3_goes := goodIn_r _ [8, 9, 16, 17, 18, 19, 20, 21, 22, 23, 24, 25, 26, 27, 28, 29, 30, 31, 32, 33, 34] (by decide +kernel) (by decide +kernel)
set_option maxRecDepth 20000 in
theorem gX3_inside_X3_goes : GoodIn wsX3_inside (wsV RX3 74 RX3 yX3_goes wsX3_goes) := goodIn_app (goodIn_of _ (by decide +kernel)) ggX3_inside_X3_goes
set_option maxRecDepth 20000 in
theorem ggX3_inside_X3_insideOf : GoodIn wsX3_inside wsX3_insideOf := goodIn_r _ [13, 14, 15, 16, 17, 18, 19, 20, 21, 22, 23, 24, 25, 26, 27, 28, 29, 30, 31, 32, 33, 34] (by decide +kernel) (by decide +kernel)
set_option maxRecDepth 20000 in
theorem gX3_inside_X3_insideOf : GoodIn wsX3_inside (wsV RX3 98 RX3 yX3_insideOf wsX3_insideOf) := goodIn_app (goodIn_of _ (by decide +kernel)) ggX3_inside_X3_insideOf
theorem dX3_inside_0 : decode cX3_inside 0 = .ok (.aload_n 0, 1) := by decide +kernel
theorem dX3_inside_1 : decode cX3_inside 1 = .ok (.iload_n 1, 1) := by decide +kernel
theorem dX3_inside_2 : decode cX3_inside 2 = .ok (.invokestatic 70, 3) := by decide +kernel
theorem dX3_inside_5 : decode cX3_inside 5 = .ok (.iconst 1, 1) := by decide +kernel
theorem dX3_inside_6 : decode cX3_inside 6 = .ok (.invokevirtual 74, 3) := by decide +kernel
theorem dX3_inside_9 : decode cX3_inside 9 = .ok (.ifCond .eq 11, 3) := by decide +kernel
theorem dX3_inside_12 : decode cX3_inside 12 = .ok (.aload_n 0, 1) := by decide +kernel
theorem dX3_inside_13 : decode cX3_inside 13 = .ok (.iload_n 1, 1) := by decide +kernel
theorem dX3_inside_14 : decode cX3_inside 14 = .ok (.invokevirtual 98, 3) := by decide +kernel
theorem dX3_inside_17 : decode cX3_inside 17 = .ok (.goto 4, 3) := by decide +kernel
theorem dX3_inside_20 : decode cX3_inside 20 = .ok (.iconst 0, 1) := by decide +kernel
theorem dX3_inside_21 : decode cX3_inside 21 = .ok (.ireturn, 1) := by decide +kernel
set_option maxRecDepth 20000 in
theorem ggX3_stock_X3_isPavilion : GoodIn wsX3_stock wsX3_isPavilion := goodIn_r _ [5] (by decide +kernel) (by decide +kernel)
set_option maxRecDepth 20000 in
theorem gX3_stock_X3_isPavilion : GoodIn wsX3_stock (va_wsS RX3 70 yX3_isPavilion wsX3_isPavilion) := goodIn_app (goodIn_of _ (by decide +kernel)) ggX3_stock_X3_isPavilion
set_option maxRecDepth 20000 in
theorem ggX3_stock_X3_goes : GoodIn wsX3_stock wsX3_goes := goodIn_r _ [9, 10, 11, 12, 13, 14, 15, 16, 17, 18, 19, 20, 21, 22, 23, 24, 25, 26, 27, 28, 29] (by decide +kernel) (by decide +kernel)
set_option maxRecDepth 20000 in
theorem gX3_stock_X3_goes : GoodIn wsX3_stock (wsV RX3 74 RX3 yX3_goes wsX3_goes) := goodIn_app (goodIn_of _ (by decide +kernel)) ggX3_stock_X3_goes
theorem dX3_stock_0 : decode cX3_stock 0 = .ok (.aload_n 0, 1) := by decide +kernel
theorem dX3_stock_1 : decode cX3_stock 1 = .ok (.iload_n 1, 1) := by decide +kernel
theorem dX3_stock_2 : decode cX3_stock 2 = .ok (.invokestatic 70, 3) := by decide +kernel
theorem dX3_stock_5 : decode cX3_stock 5 = .ok (.iconst 1, 1) := by decide +kernel
theorem dX3_stock_6 : decode cX3_stock 6 = .ok (.invokevirtual 74, 3) := by decide +kernel
theorem dX3_stock_9 : decode cX3_stock 9 = .ok (.ifCond .eq 12, 3) := by decide +kernel
theorem dX3_stock_12 : decode cX3_stock 12 = .ok (.aload_n 0, 1) := by decide +kernel
theorem dX3_stock_13 : decode cX3_stock 13 = .ok (.getfield 53, 3) := by decide +kernel
theorem dX3_stock_16 : decode cX3_stock 16 = .ok (.iload_n 1, 1) := by decide +kernel
theorem dX3_stock_17 : decode cX3_stock 17 = .ok (.iaload, 1) := by decide +kernel
theorem dX3_stock_18 : decode cX3_stock 18 = .ok (.goto 4, 3) := by decide +kernel
theorem dX3_stock_21 : decode cX3_stock 21 = .ok (.iconst 0, 1) := by decide +kernel
theorem dX3_stock_22 : decode cX3_stock 22 = .ok (.ireturn, 1) := by decide +kernel
set_option maxRecDepth 20000 in
theorem ggX3_demand_X3_isPavilion : GoodIn wsX3_demand wsX3_isPavilion := goodIn_r _ [5] (by decide +kernel) (by decide +kernel)
set_option maxRecDepth 20000 in
theorem gX3_demand_X3_isPavilion : GoodIn wsX3_demand (va_wsS RX3 70 yX3_isPavilion wsX3_isPavilion) := goodIn_app (goodIn_of _ (by decide +kernel)) ggX3_demand_X3_isPavilion
set_option maxRecDepth 20000 in
theorem ggX3_demand_X3_goes : GoodIn wsX3_demand wsX3_goes := goodIn_r _ [9, 10, 11, 12, 13, 14, 15, 16, 17, 18, 19, 20, 21, 22, 23, 24, 25, 26, 27, 28, 29] (by decide +kernel) (by decide +kernel)
set_option maxRecDepth 20000 in
theorem gX3_demand_X3_goes : GoodIn wsX3_demand (wsV RX3 74 RX3 yX3_goes wsX3_goes) := goodIn_app (goodIn_of _ (by decide +kernel)) ggX3_demand_X3_goes
theorem dX3_demand_0 : decode cX3_demand 0 = .ok (.aload_n 0, 1) := by decide +kernel
theorem dX3_demand_1 : decode cX3_demand 1 = .ok (.iload_n 1, 1) := by decide +kernel
theorem dX3_demand_2 : decode cX3_demand 2 = .ok (.invokestatic 70, 3) := by decide +kernel
theorem dX3_demand_5 : decode cX3_demand 5 = .ok (.iconst 1, 1) := by decide +kernel
theorem dX3_demand_6 : decode cX3_demand 6 = .ok (.invokevirtual 74, 3) := by decide +kernel
theorem dX3_demand_9 : decode cX3_demand 9 = .ok (.ifCond .eq 12, 3) := by decide +kernel
theorem dX3_demand_12 : decode cX3_demand 12 = .ok (.aload_n 0, 1) := by decide +kernel
theorem dX3_demand_13 : decode cX3_demand 13 = .ok (.getfield 56, 3) := by decide +kernel
theorem dX3_demand_16 : decode cX3_demand 16 = .ok (.iload_n 1, 1) := by decide +kernel
theorem dX3_demand_17 : decode cX3_demand 17 = .ok (.iaload, 1) := by decide +kernel
theorem dX3_demand_18 : decode cX3_demand 18 = .ok (.goto 4, 3) := by decide +kernel
theorem dX3_demand_21 : decode cX3_demand 21 = .ok (.iconst 0, 1) := by decide +kernel
theorem dX3_demand_22 : decode cX3_demand 22 = .ok (.ireturn, 1) := by decide +kernel
set_option maxRecDepth 20000 in
theorem ggX3_sent_X3_isVisitor : GoodIn wsX3_sent wsX3_isVisitor := goodIn_r _ [5] (by decide +kernel) (by decide +kernel)
set_option maxRecDepth 20000 in
theorem gX3_sent_X3_isVisitor : GoodIn wsX3_sent (va_wsS RX3 85 yX3_isVisitor wsX3_isVisitor) := goodIn_app (goodIn_of _ (by decide +kernel)) ggX3_sent_X3_isVisitor
set_option maxRecDepth 20000 in
theorem ggX3_sent_X3_isPavilion : GoodIn wsX3_sent wsX3_isPavilion := goodIn_r _ [8] (by decide +kernel) (by decide +kernel)
set_option maxRecDepth 20000 in
theorem gX3_sent_X3_isPavilion : GoodIn wsX3_sent (va_wsS RX3 70 yX3_isPavilion wsX3_isPavilion) := goodIn_app (goodIn_of _ (by decide +kernel)) ggX3_sent_X3_isPavilion
set_option maxRecDepth 20000 in
theorem ggX3_sent_X3_goes : GoodIn wsX3_sent wsX3_goes := goodIn_r _ [12, 13, 14, 15, 16, 17, 18, 19, 20, 21, 22, 23, 24, 25, 26, 27, 28, 29, 30, 31, 32] (by decide +kernel) (by decide +kernel)
set_option maxRecDepth 20000 in
theorem gX3_sent_X3_goes : GoodIn wsX3_sent (wsV RX3 74 RX3 yX3_goes wsX3_goes) := goodIn_app (goodIn_of _ (by decide +kernel)) ggX3_sent_X3_goes
theorem dX3_sent_0 : decode cX3_sent 0 = .ok (.aload_n 0, 1) := by decide +kernel
theorem dX3_sent_1 : decode cX3_sent 1 = .ok (.iload_n 1, 1) := by decide +kernel
theorem dX3_sent_2 : decode cX3_sent 2 = .ok (.invokestatic 85, 3) := by decide +kernel
theorem dX3_sent_5 : decode cX3_sent 5 = .ok (.ifCond .eq 14, 3) := by decide +kernel
theorem dX3_sent_8 : decode cX3_sent 8 = .ok (.iload_n 2, 1) := by decide +kernel
theorem dX3_sent_9 : decode cX3_sent 9 = .ok (.invokestatic 70, 3) := by decide +kernel
theorem dX3_sent_12 : decode cX3_sent 12 = .ok (.ifCond .eq 7, 3) := by decide +kernel
theorem dX3_sent_15 : decode cX3_sent 15 = .ok (.iconst 1, 1) := by decide +kernel
theorem dX3_sent_16 : decode cX3_sent 16 = .ok (.goto 4, 3) := by decide +kernel
theorem dX3_sent_19 : decode cX3_sent 19 = .ok (.iconst 0, 1) := by decide +kernel
theorem dX3_sent_20 : decode cX3_sent 20 = .ok (.iconst 1, 1) := by decide +kernel
theorem dX3_sent_21 : decode cX3_sent 21 = .ok (.invokevirtual 74, 3) := by decide +kernel
theorem dX3_sent_24 : decode cX3_sent 24 = .ok (.ifCond .eq 17, 3) := by decide +kernel
theorem dX3_sent_27 : decode cX3_sent 27 = .ok (.aload_n 0, 1) := by decide +kernel
theorem dX3_sent_28 : decode cX3_sent 28 = .ok (.getfield 59, 3) := by decide +kernel
theorem dX3_sent_31 : decode cX3_sent 31 = .ok (.bipush 6, 2) := by decide +kernel
theorem dX3_sent_33 : decode cX3_sent 33 = .ok (.iload_n 1, 1) := by decide +kernel
theorem dX3_sent_34 : decode cX3_sent 34 = .ok (.imul, 1) := by decide +kernel
theorem dX3_sent_35 : decode cX3_sent 35 = .ok (.iload_n 2, 1) := by decide +kernel
theorem dX3_sent_36 : decode cX3_sent 36 = .ok (.iadd, 1) := by decide +kernel
theorem dX3_sent_37 : decode cX3_sent 37 = .ok (.iaload, 1) := by decide +kernel
theorem dX3_sent_38 : decode cX3_sent 38 = .ok (.goto 4, 3) := by decide +kernel
theorem dX3_sent_41 : decode cX3_sent 41 = .ok (.iconst 0, 1) := by decide +kernel
theorem dX3_sent_42 : decode cX3_sent 42 = .ok (.ireturn, 1) := by decide +kernel
theorem dJ9_max_7cf53_0 : decode cJ9_max_7cf53 0 = .ok (.iload_n 0, 1) := by decide +kernel
theorem dJ9_max_7cf53_1 : decode cJ9_max_7cf53 1 = .ok (.iload_n 1, 1) := by decide +kernel
theorem dJ9_max_7cf53_2 : decode cJ9_max_7cf53 2 = .ok (.if_icmp .lt 7, 3) := by decide +kernel
theorem dJ9_max_7cf53_5 : decode cJ9_max_7cf53 5 = .ok (.iload_n 0, 1) := by decide +kernel
theorem dJ9_max_7cf53_6 : decode cJ9_max_7cf53 6 = .ok (.goto 4, 3) := by decide +kernel
theorem dJ9_max_7cf53_9 : decode cJ9_max_7cf53 9 = .ok (.iload_n 1, 1) := by decide +kernel
theorem dJ9_max_7cf53_10 : decode cJ9_max_7cf53 10 = .ok (.ireturn, 1) := by decide +kernel
theorem dJ9_min_7cf53_0 : decode cJ9_min_7cf53 0 = .ok (.iload_n 0, 1) := by decide +kernel
theorem dJ9_min_7cf53_1 : decode cJ9_min_7cf53 1 = .ok (.iload_n 1, 1) := by decide +kernel
theorem dJ9_min_7cf53_2 : decode cJ9_min_7cf53 2 = .ok (.if_icmp .gt 7, 3) := by decide +kernel
theorem dJ9_min_7cf53_5 : decode cJ9_min_7cf53 5 = .ok (.iload_n 0, 1) := by decide +kernel
theorem dJ9_min_7cf53_6 : decode cJ9_min_7cf53 6 = .ok (.goto 4, 3) := by decide +kernel
theorem dJ9_min_7cf53_9 : decode cJ9_min_7cf53 9 = .ok (.iload_n 1, 1) := by decide +kernel
theorem dJ9_min_7cf53_10 : decode cJ9_min_7cf53 10 = .ok (.ireturn, 1) := by decide +kernel
theorem dJxa1e45_init_da8c8_0 : decode cJxa1e45_init_da8c8 0 = .ok (.aload_n 0, 1) := by decide +kernel
theorem dJxa1e45_init_da8c8_1 : decode cJxa1e45_init_da8c8 1 = .ok (.invokespecial 1, 3) := by decide +kernel
theorem dJxa1e45_init_da8c8_4 : decode cJxa1e45_init_da8c8 4 = .ok (.return_, 1) := by decide +kernel
set_option maxRecDepth 20000 in
theorem ggJxc12de_init_da8c8_Jxa1e45_init_da8c8 : GoodIn wsJxc12de_init_da8c8 wsJxa1e45_init_da8c8 := goodIn_r _ [5, 6, 7, 8] (by decide +kernel) (by decide +kernel)
set_option maxRecDepth 20000 in
theorem gJxc12de_init_da8c8_Jxa1e45_init_da8c8 : GoodIn wsJxc12de_init_da8c8 (wsJxa1e45_init_da8c8) := ggJxc12de_init_da8c8_Jxa1e45_init_da8c8
theorem dJxc12de_init_da8c8_0 : decode cJxc12de_init_da8c8 0 = .ok (.aload_n 0, 1) := by decide +kernel
theorem dJxc12de_init_da8c8_1 : decode cJxc12de_init_da8c8 1 = .ok (.invokespecial 1, 3) := by decide +kernel
theorem dJxc12de_init_da8c8_4 : decode cJxc12de_init_da8c8 4 = .ok (.aload_n 0, 1) := by decide +kernel
theorem dJxc12de_init_da8c8_5 : decode cJxc12de_init_da8c8 5 = .ok (.iconst 0, 1) := by decide +kernel
theorem dJxc12de_init_da8c8_6 : decode cJxc12de_init_da8c8 6 = .ok (.putfield 7, 3) := by decide +kernel
theorem dJxc12de_init_da8c8_9 : decode cJxc12de_init_da8c8 9 = .ok (.return_, 1) := by decide +kernel
set_option maxRecDepth 20000 in
theorem ggJx4a65c_init_da8c8_Jxc12de_init_da8c8 : GoodIn wsJx4a65c_init_da8c8 wsJxc12de_init_da8c8 := goodIn_r _ [6, 7, 8, 9, 10, 11, 12, 13, 14, 15, 16, 17] (by decide +kernel) (by decide +kernel)
set_option maxRecDepth 20000 in
theorem gJx4a65c_init_da8c8_Jxc12de_init_da8c8 : GoodIn wsJx4a65c_init_da8c8 (wsJxc12de_init_da8c8) := ggJx4a65c_init_da8c8_Jxc12de_init_da8c8
theorem dJx4a65c_init_da8c8_0 : decode cJx4a65c_init_da8c8 0 = .ok (.aload_n 0, 1) := by decide +kernel
theorem dJx4a65c_init_da8c8_1 : decode cJx4a65c_init_da8c8 1 = .ok (.invokespecial 1, 3) := by decide +kernel
theorem dJx4a65c_init_da8c8_4 : decode cJx4a65c_init_da8c8 4 = .ok (.aload_n 0, 1) := by decide +kernel
theorem dJx4a65c_init_da8c8_5 : decode cJx4a65c_init_da8c8 5 = .ok (.getstatic 39, 3) := by decide +kernel
theorem dJx4a65c_init_da8c8_8 : decode cJx4a65c_init_da8c8 8 = .ok (.putfield 9, 3) := by decide +kernel
theorem dJx4a65c_init_da8c8_11 : decode cJx4a65c_init_da8c8 11 = .ok (.return_, 1) := by decide +kernel
set_option maxRecDepth 20000 in
theorem ggJx4a65c_grow_92f84_J8_newLength_cabcc : GoodIn wsJx4a65c_grow_92f84 wsJ8_newLength_cabcc := goodIn_r _ [11, 12, 4, 5, 6, 13, 14, 15, 10, 16] (by decide +kernel) (by decide +kernel)
set_option maxRecDepth 20000 in
theorem gJx4a65c_grow_92f84_J8_newLength_cabcc : GoodIn wsJx4a65c_grow_92f84 (va_wsS RJx4a65c 73 yJ8_newLength_cabcc wsJ8_newLength_cabcc) := goodIn_app (goodIn_of _ (by decide +kernel)) ggJx4a65c_grow_92f84_J8_newLength_cabcc
set_option maxRecDepth 20000 in
theorem ggJx4a65c_grow_92f84_J7_copyOf_1904c : GoodIn wsJx4a65c_grow_92f84 wsJ7_copyOf_1904c := goodIn_r _ [20, 21, 22, 23, 24, 25, 26, 19, 27, 28, 29, 30, 31, 5, 32, 33, 34, 35, 36] (by decide +kernel) (by decide +kernel)
set_option maxRecDepth 20000 in
theorem gJx4a65c_grow_92f84_J7_copyOf_1904c : GoodIn wsJx4a65c_grow_92f84 (va_wsS RJx4a65c 66 yJ7_copyOf_1904c wsJ7_copyOf_1904c) := goodIn_app (goodIn_of _ (by decide +kernel)) ggJx4a65c_grow_92f84_J7_copyOf_1904c
theorem dJx4a65c_grow_92f84_0 : decode cJx4a65c_grow_92f84 0 = .ok (.aload_n 0, 1) := by decide +kernel
theorem dJx4a65c_grow_92f84_1 : decode cJx4a65c_grow_92f84 1 = .ok (.getfield 9, 3) := by decide +kernel
theorem dJx4a65c_grow_92f84_4 : decode cJx4a65c_grow_92f84 4 = .ok (.arraylength, 1) := by decide +kernel
theorem dJx4a65c_grow_92f84_5 : decode cJx4a65c_grow_92f84 5 = .ok (.istore_n 2, 1) := by decide +kernel
theorem dJx4a65c_grow_92f84_6 : decode cJx4a65c_grow_92f84 6 = .ok (.iload_n 2, 1) := by decide +kernel
theorem dJx4a65c_grow_92f84_7 : decode cJx4a65c_grow_92f84 7 = .ok (.ifCond .gt 13, 3) := by decide +kernel
theorem dJx4a65c_grow_92f84_10 : decode cJx4a65c_grow_92f84 10 = .ok (.aload_n 0, 1) := by decide +kernel
theorem dJx4a65c_grow_92f84_11 : decode cJx4a65c_grow_92f84 11 = .ok (.getfield 9, 3) := by decide +kernel
theorem dJx4a65c_grow_92f84_14 : decode cJx4a65c_grow_92f84 14 = .ok (.getstatic 39, 3) := by decide +kernel
theorem dJx4a65c_grow_92f84_17 : decode cJx4a65c_grow_92f84 17 = .ok (.if_acmp .eq 28, 3) := by decide +kernel
theorem dJx4a65c_grow_92f84_20 : decode cJx4a65c_grow_92f84 20 = .ok (.iload_n 2, 1) := by decide +kernel
theorem dJx4a65c_grow_92f84_21 : decode cJx4a65c_grow_92f84 21 = .ok (.iload_n 1, 1) := by decide +kernel
theorem dJx4a65c_grow_92f84_22 : decode cJx4a65c_grow_92f84 22 = .ok (.iload_n 2, 1) := by decide +kernel
theorem dJx4a65c_grow_92f84_23 : decode cJx4a65c_grow_92f84 23 = .ok (.isub, 1) := by decide +kernel
theorem dJx4a65c_grow_92f84_24 : decode cJx4a65c_grow_92f84 24 = .ok (.iload_n 2, 1) := by decide +kernel
theorem dJx4a65c_grow_92f84_25 : decode cJx4a65c_grow_92f84 25 = .ok (.iconst 1, 1) := by decide +kernel
theorem dJx4a65c_grow_92f84_26 : decode cJx4a65c_grow_92f84 26 = .ok (.ishr, 1) := by decide +kernel
theorem dJx4a65c_grow_92f84_27 : decode cJx4a65c_grow_92f84 27 = .ok (.invokestatic 73, 3) := by decide +kernel
theorem dJx4a65c_grow_92f84_30 : decode cJx4a65c_grow_92f84 30 = .ok (.istore_n 3, 1) := by decide +kernel
theorem dJx4a65c_grow_92f84_31 : decode cJx4a65c_grow_92f84 31 = .ok (.aload_n 0, 1) := by decide +kernel
theorem dJx4a65c_grow_92f84_32 : decode cJx4a65c_grow_92f84 32 = .ok (.aload_n 0, 1) := by decide +kernel
theorem dJx4a65c_grow_92f84_33 : decode cJx4a65c_grow_92f84 33 = .ok (.getfield 9, 3) := by decide +kernel
theorem dJx4a65c_grow_92f84_36 : decode cJx4a65c_grow_92f84 36 = .ok (.iload_n 3, 1) := by decide +kernel
theorem dJx4a65c_grow_92f84_37 : decode cJx4a65c_grow_92f84 37 = .ok (.invokestatic 66, 3) := by decide +kernel
theorem dJx4a65c_grow_92f84_40 : decode cJx4a65c_grow_92f84 40 = .ok (.dup_x1, 1) := by decide +kernel
theorem dJx4a65c_grow_92f84_41 : decode cJx4a65c_grow_92f84 41 = .ok (.putfield 9, 3) := by decide +kernel
theorem dJx4a65c_grow_92f84_44 : decode cJx4a65c_grow_92f84 44 = .ok (.areturn, 1) := by decide +kernel
theorem dJx4a65c_grow_92f84_45 : decode cJx4a65c_grow_92f84 45 = .ok (.aload_n 0, 1) := by decide +kernel
theorem dJx4a65c_grow_92f84_46 : decode cJx4a65c_grow_92f84 46 = .ok (.bipush 10, 2) := by decide +kernel
theorem dJx4a65c_grow_92f84_48 : decode cJx4a65c_grow_92f84 48 = .ok (.iload_n 1, 1) := by decide +kernel
theorem dJx4a65c_grow_92f84_49 : decode cJx4a65c_grow_92f84 49 = .ok (.invokestatic 79, 3) := by decide +kernel
theorem dJx4a65c_grow_92f84_52 : decode cJx4a65c_grow_92f84 52 = .ok (.anewarray 7, 3) := by decide +kernel
theorem dJx4a65c_grow_92f84_55 : decode cJx4a65c_grow_92f84 55 = .ok (.dup_x1, 1) := by decide +kernel
theorem dJx4a65c_grow_92f84_56 : decode cJx4a65c_grow_92f84 56 = .ok (.putfield 9, 3) := by decide +kernel
theorem dJx4a65c_grow_92f84_59 : decode cJx4a65c_grow_92f84 59 = .ok (.areturn, 1) := by decide +kernel
set_option maxRecDepth 20000 in
theorem ggJx4a65c_grow_d5877_Jx4a65c_grow_92f84 : GoodIn wsJx4a65c_grow_d5877 wsJx4a65c_grow_92f84 := goodIn_r _ [6, 7, 8, 9, 10, 11, 12, 13, 14, 15, 16, 17, 18, 19, 20, 21, 22, 23, 24, 25, 26, 27, 28, 29, 30, 31, 32, 33, 34, 35, 36, 37, 38, 39, 40, 41, 42, 43, 44, 45] (by decide +kernel) (by decide +kernel)
set_option maxRecDepth 20000 in
theorem gJx4a65c_grow_d5877_Jx4a65c_grow_92f84 : GoodIn wsJx4a65c_grow_d5877 (wsV RJx4a65c 69 RJx4a65c yJx4a65c_grow_92f84 wsJx4a65c_grow_92f84) := goodIn_app (goodIn_of _ (by decide +kernel)) ggJx4a65c_grow_d5877_Jx4a65c_grow_92f84
theorem dJx4a65c_grow_d5877_0 : decode cJx4a65c_grow_d5877 0 = .ok (.aload_n 0, 1) := by decide +kernel
theorem dJx4a65c_grow_d5877_1 : decode cJx4a65c_grow_d5877 1 = .ok (.aload_n 0, 1) := by decide +kernel
theorem dJx4a65c_grow_d5877_2 : decode cJx4a65c_grow_d5877 2 = .ok (.getfield 48, 3) := by decide +kernel
theorem dJx4a65c_grow_d5877_5 : decode cJx4a65c_grow_d5877 5 = .ok (.iconst 1, 1) := by decide +kernel
theorem dJx4a65c_grow_d5877_6 : decode cJx4a65c_grow_d5877 6 = .ok (.iadd, 1) := by decide +kernel
theorem dJx4a65c_grow_d5877_7 : decode cJx4a65c_grow_d5877 7 = .ok (.invokevirtual 69, 3) := by decide +kernel
theorem dJx4a65c_grow_d5877_10 : decode cJx4a65c_grow_d5877 10 = .ok (.areturn, 1) := by decide +kernel
theorem dJx4a65c_size_8abf5_0 : decode cJx4a65c_size_8abf5 0 = .ok (.aload_n 0, 1) := by decide +kernel
theorem dJx4a65c_size_8abf5_1 : decode cJx4a65c_size_8abf5 1 = .ok (.getfield 48, 3) := by decide +kernel
theorem dJx4a65c_size_8abf5_4 : decode cJx4a65c_size_8abf5 4 = .ok (.ireturn, 1) := by decide +kernel
theorem dJx4a65c_elementData_915e3_0 : decode cJx4a65c_elementData_915e3 0 = .ok (.aload_n 0, 1) := by decide +kernel
theorem dJx4a65c_elementData_915e3_1 : decode cJx4a65c_elementData_915e3 1 = .ok (.getfield 9, 3) := by decide +kernel
theorem dJx4a65c_elementData_915e3_4 : decode cJx4a65c_elementData_915e3 4 = .ok (.iload_n 1, 1) := by decide +kernel
theorem dJx4a65c_elementData_915e3_5 : decode cJx4a65c_elementData_915e3 5 = .ok (.aaload, 1) := by decide +kernel
theorem dJx4a65c_elementData_915e3_6 : decode cJx4a65c_elementData_915e3 6 = .ok (.areturn, 1) := by decide +kernel
set_option maxRecDepth 20000 in
theorem ggJx4a65c_get_915e3_J15_checkIndex_7cf53 : GoodIn wsJx4a65c_get_915e3 wsJ15_checkIndex_7cf53 := goodIn_r _ [5, 6, 7, 8, 9] (by decide +kernel) (by decide +kernel)
set_option maxRecDepth 20000 in
theorem gJx4a65c_get_915e3_J15_checkIndex_7cf53 : GoodIn wsJx4a65c_get_915e3 (va_wsS RJx4a65c 118 yJ15_checkIndex_7cf53 wsJ15_checkIndex_7cf53) := goodIn_app (goodIn_of _ (by decide +kernel)) ggJx4a65c_get_915e3_J15_checkIndex_7cf53
set_option maxRecDepth 20000 in
theorem ggJx4a65c_get_915e3_Jx4a65c_elementData_915e3 : GoodIn wsJx4a65c_get_915e3 wsJx4a65c_elementData_915e3 := goodIn_r _ [14, 15, 16, 17, 18] (by decide +kernel) (by decide +kernel)
set_option maxRecDepth 20000 in
theorem gJx4a65c_get_915e3_Jx4a65c_elementData_915e3 : GoodIn wsJx4a65c_get_915e3 (wsV RJx4a65c 123 RJx4a65c yJx4a65c_elementData_915e3 wsJx4a65c_elementData_915e3) := goodIn_app (goodIn_of _ (by decide +kernel)) ggJx4a65c_get_915e3_Jx4a65c_elementData_915e3
theorem dJx4a65c_get_915e3_0 : decode cJx4a65c_get_915e3 0 = .ok (.iload_n 1, 1) := by decide +kernel
theorem dJx4a65c_get_915e3_1 : decode cJx4a65c_get_915e3 1 = .ok (.aload_n 0, 1) := by decide +kernel
theorem dJx4a65c_get_915e3_2 : decode cJx4a65c_get_915e3 2 = .ok (.getfield 48, 3) := by decide +kernel
theorem dJx4a65c_get_915e3_5 : decode cJx4a65c_get_915e3 5 = .ok (.invokestatic 118, 3) := by decide +kernel
theorem dJx4a65c_get_915e3_8 : decode cJx4a65c_get_915e3 8 = .ok (.pop, 1) := by decide +kernel
theorem dJx4a65c_get_915e3_9 : decode cJx4a65c_get_915e3 9 = .ok (.aload_n 0, 1) := by decide +kernel
theorem dJx4a65c_get_915e3_10 : decode cJx4a65c_get_915e3 10 = .ok (.iload_n 1, 1) := by decide +kernel
theorem dJx4a65c_get_915e3_11 : decode cJx4a65c_get_915e3 11 = .ok (.invokevirtual 123, 3) := by decide +kernel
theorem dJx4a65c_get_915e3_14 : decode cJx4a65c_get_915e3 14 = .ok (.areturn, 1) := by decide +kernel
set_option maxRecDepth 20000 in
theorem ggJx4a65c_add_72be8_Jx4a65c_grow_d5877 : GoodIn wsJx4a65c_add_72be8 wsJx4a65c_grow_d5877 := goodIn_r _ [6, 1, 7, 8, 9, 5, 10, 11, 12, 13, 14, 15, 16, 17, 18, 19, 20, 21, 22, 23, 24, 25, 26, 27, 28, 29, 30, 31, 32, 33, 34, 35, 36, 37, 38, 39, 40, 41, 42, 43, 44, 45, 46, 47, 48, 49] (by decide +kernel) (by decide +kernel)
set_option maxRecDepth 20000 in
theorem gJx4a65c_add_72be8_Jx4a65c_grow_d5877 : GoodIn wsJx4a65c_add_72be8 (wsV RJx4a65c 129 RJx4a65c yJx4a65c_grow_d5877 wsJx4a65c_grow_d5877) := goodIn_app (goodIn_of _ (by decide +kernel)) ggJx4a65c_add_72be8_Jx4a65c_grow_d5877
theorem dJx4a65c_add_72be8_0 : decode cJx4a65c_add_72be8 0 = .ok (.iload_n 3, 1) := by decide +kernel
theorem dJx4a65c_add_72be8_1 : decode cJx4a65c_add_72be8 1 = .ok (.aload_n 2, 1) := by decide +kernel
theorem dJx4a65c_add_72be8_2 : decode cJx4a65c_add_72be8 2 = .ok (.arraylength, 1) := by decide +kernel
theorem dJx4a65c_add_72be8_3 : decode cJx4a65c_add_72be8 3 = .ok (.if_icmp .ne 8, 3) := by decide +kernel
theorem dJx4a65c_add_72be8_6 : decode cJx4a65c_add_72be8 6 = .ok (.aload_n 0, 1) := by decide +kernel
theorem dJx4a65c_add_72be8_7 : decode cJx4a65c_add_72be8 7 = .ok (.invokevirtual 129, 3) := by decide +kernel
theorem dJx4a65c_add_72be8_10 : decode cJx4a65c_add_72be8 10 = .ok (.astore_n 2, 1) := by decide +kernel
theorem dJx4a65c_add_72be8_11 : decode cJx4a65c_add_72be8 11 = .ok (.aload_n 2, 1) := by decide +kernel
theorem dJx4a65c_add_72be8_12 : decode cJx4a65c_add_72be8 12 = .ok (.iload_n 3, 1) := by decide +kernel
theorem dJx4a65c_add_72be8_13 : decode cJx4a65c_add_72be8 13 = .ok (.aload_n 1, 1) := by decide +kernel
theorem dJx4a65c_add_72be8_14 : decode cJx4a65c_add_72be8 14 = .ok (.aastore, 1) := by decide +kernel
theorem dJx4a65c_add_72be8_15 : decode cJx4a65c_add_72be8 15 = .ok (.aload_n 0, 1) := by decide +kernel
theorem dJx4a65c_add_72be8_16 : decode cJx4a65c_add_72be8 16 = .ok (.iload_n 3, 1) := by decide +kernel
theorem dJx4a65c_add_72be8_17 : decode cJx4a65c_add_72be8 17 = .ok (.iconst 1, 1) := by decide +kernel
theorem dJx4a65c_add_72be8_18 : decode cJx4a65c_add_72be8 18 = .ok (.iadd, 1) := by decide +kernel
theorem dJx4a65c_add_72be8_19 : decode cJx4a65c_add_72be8 19 = .ok (.putfield 48, 3) := by decide +kernel
theorem dJx4a65c_add_72be8_22 : decode cJx4a65c_add_72be8 22 = .ok (.return_, 1) := by decide +kernel
set_option maxRecDepth 20000 in
theorem ggJx4a65c_add_9ea2d_Jx4a65c_add_72be8 : GoodIn wsJx4a65c_add_9ea2d wsJx4a65c_add_72be8 := goodIn_r _ [9, 4, 10, 11, 12, 8, 13, 14, 15, 16, 17, 3, 18, 19, 20, 21, 22, 23, 24, 25, 26, 27, 28, 29, 30, 31, 32, 33, 34, 35, 36, 37, 38, 39, 40, 41, 42, 43, 44, 45, 46, 47, 48, 49, 50, 51, 52, 53, 54, 55] (by decide +kernel) (by decide +kernel)
set_option maxRecDepth 20000 in
theorem gJx4a65c_add_9ea2d_Jx4a65c_add_72be8 : GoodIn wsJx4a65c_add_9ea2d (wsV RJx4a65c 131 RJx4a65c yJx4a65c_add_72be8 wsJx4a65c_add_72be8) := goodIn_app (goodIn_of _ (by decide +kernel)) ggJx4a65c_add_9ea2d_Jx4a65c_add_72be8
theorem dJx4a65c_add_9ea2d_0 : decode cJx4a65c_add_9ea2d 0 = .ok (.aload_n 0, 1) := by decide +kernel
theorem dJx4a65c_add_9ea2d_1 : decode cJx4a65c_add_9ea2d 1 = .ok (.dup, 1) := by decide +kernel
theorem dJx4a65c_add_9ea2d_2 : decode cJx4a65c_add_9ea2d 2 = .ok (.getfield 63, 3) := by decide +kernel
theorem dJx4a65c_add_9ea2d_5 : decode cJx4a65c_add_9ea2d 5 = .ok (.iconst 1, 1) := by decide +kernel
theorem dJx4a65c_add_9ea2d_6 : decode cJx4a65c_add_9ea2d 6 = .ok (.iadd, 1) := by decide +kernel
theorem dJx4a65c_add_9ea2d_7 : decode cJx4a65c_add_9ea2d 7 = .ok (.putfield 63, 3) := by decide +kernel
theorem dJx4a65c_add_9ea2d_10 : decode cJx4a65c_add_9ea2d 10 = .ok (.aload_n 0, 1) := by decide +kernel
theorem dJx4a65c_add_9ea2d_11 : decode cJx4a65c_add_9ea2d 11 = .ok (.aload_n 1, 1) := by decide +kernel
theorem dJx4a65c_add_9ea2d_12 : decode cJx4a65c_add_9ea2d 12 = .ok (.aload_n 0, 1) := by decide +kernel
theorem dJx4a65c_add_9ea2d_13 : decode cJx4a65c_add_9ea2d 13 = .ok (.getfield 9, 3) := by decide +kernel
theorem dJx4a65c_add_9ea2d_16 : decode cJx4a65c_add_9ea2d 16 = .ok (.aload_n 0, 1) := by decide +kernel
theorem dJx4a65c_add_9ea2d_17 : decode cJx4a65c_add_9ea2d 17 = .ok (.getfield 48, 3) := by decide +kernel
theorem dJx4a65c_add_9ea2d_20 : decode cJx4a65c_add_9ea2d 20 = .ok (.invokevirtual 131, 3) := by decide +kernel
theorem dJx4a65c_add_9ea2d_23 : decode cJx4a65c_add_9ea2d 23 = .ok (.iconst 1, 1) := by decide +kernel
theorem dJx4a65c_add_9ea2d_24 : decode cJx4a65c_add_9ea2d 24 = .ok (.ireturn, 1) := by decide +kernel
set_option maxRecDepth 20000 in
theorem ggJx4a65c_remove_915e3_J15_checkIndex_7cf53 : GoodIn wsJx4a65c_remove_915e3 wsJ15_checkIndex_7cf53 := goodIn_r _ [6, 7, 8, 9, 10] (by decide +kernel) (by decide +kernel)
set_option maxRecDepth 20000 in
theorem gJx4a65c_remove_915e3_J15_checkIndex_7cf53 : GoodIn wsJx4a65c_remove_915e3 (va_wsS RJx4a65c 118 yJ15_checkIndex_7cf53 wsJ15_checkIndex_7cf53) := goodIn_app (goodIn_of _ (by decide +kernel)) ggJx4a65c_remove_915e3_J15_checkIndex_7cf53
set_option maxRecDepth 20000 in
theorem ggJx4a65c_remove_915e3_Jx4a65c_fastRemove_b59b0 : GoodIn wsJx4a65c_remove_915e3 wsJx4a65c_fastRemove_b59b0 := goodIn_r _ [15, 16, 17, 1, 18, 19, 20, 21, 22, 23, 24] (by decide +kernel) (by decide +kernel)
set_option maxRecDepth 20000 in
theorem gJx4a65c_remove_915e3_Jx4a65c_fastRemove_b59b0 : GoodIn wsJx4a65c_remove_915e3 (wsV RJx4a65c 144 RJx4a65c yJx4a65c_fastRemove_b59b0 wsJx4a65c_fastRemove_b59b0) := goodIn_app (goodIn_of _ (by decide +kernel)) ggJx4a65c_remove_915e3_Jx4a65c_fastRemove_b59b0
theorem dJx4a65c_remove_915e3_0 : decode cJx4a65c_remove_915e3 0 = .ok (.iload_n 1, 1) := by decide +kernel
theorem dJx4a65c_remove_915e3_1 : decode cJx4a65c_remove_915e3 1 = .ok (.aload_n 0, 1) := by decide +kernel
theorem dJx4a65c_remove_915e3_2 : decode cJx4a65c_remove_915e3 2 = .ok (.getfield 48, 3) := by decide +kernel
theorem dJx4a65c_remove_915e3_5 : decode cJx4a65c_remove_915e3 5 = .ok (.invokestatic 118, 3) := by decide +kernel
theorem dJx4a65c_remove_915e3_8 : decode cJx4a65c_remove_915e3 8 = .ok (.pop, 1) := by decide +kernel
theorem dJx4a65c_remove_915e3_9 : decode cJx4a65c_remove_915e3 9 = .ok (.aload_n 0, 1) := by decide +kernel
theorem dJx4a65c_remove_915e3_10 : decode cJx4a65c_remove_915e3 10 = .ok (.getfield 9, 3) := by decide +kernel
theorem dJx4a65c_remove_915e3_13 : decode cJx4a65c_remove_915e3 13 = .ok (.astore_n 2, 1) := by decide +kernel
theorem dJx4a65c_remove_915e3_14 : decode cJx4a65c_remove_915e3 14 = .ok (.aload_n 2, 1) := by decide +kernel
theorem dJx4a65c_remove_915e3_15 : decode cJx4a65c_remove_915e3 15 = .ok (.iload_n 1, 1) := by decide +kernel
theorem dJx4a65c_remove_915e3_16 : decode cJx4a65c_remove_915e3 16 = .ok (.aaload, 1) := by decide +kernel
theorem dJx4a65c_remove_915e3_17 : decode cJx4a65c_remove_915e3 17 = .ok (.astore_n 3, 1) := by decide +kernel
theorem dJx4a65c_remove_915e3_18 : decode cJx4a65c_remove_915e3 18 = .ok (.aload_n 0, 1) := by decide +kernel
theorem dJx4a65c_remove_915e3_19 : decode cJx4a65c_remove_915e3 19 = .ok (.aload_n 2, 1) := by decide +kernel
theorem dJx4a65c_remove_915e3_20 : decode cJx4a65c_remove_915e3 20 = .ok (.iload_n 1, 1) := by decide +kernel
theorem dJx4a65c_remove_915e3_21 : decode cJx4a65c_remove_915e3 21 = .ok (.invokevirtual 144, 3) := by decide +kernel
theorem dJx4a65c_remove_915e3_24 : decode cJx4a65c_remove_915e3 24 = .ok (.aload_n 3, 1) := by decide +kernel
theorem dJx4a65c_remove_915e3_25 : decode cJx4a65c_remove_915e3 25 = .ok (.areturn, 1) := by decide +kernel
theorem dJx4a65c_fastRemove_b59b0_0 : decode cJx4a65c_fastRemove_b59b0 0 = .ok (.aload_n 0, 1) := by decide +kernel
theorem dJx4a65c_fastRemove_b59b0_1 : decode cJx4a65c_fastRemove_b59b0 1 = .ok (.dup, 1) := by decide +kernel
theorem dJx4a65c_fastRemove_b59b0_2 : decode cJx4a65c_fastRemove_b59b0 2 = .ok (.getfield 63, 3) := by decide +kernel
theorem dJx4a65c_fastRemove_b59b0_5 : decode cJx4a65c_fastRemove_b59b0 5 = .ok (.iconst 1, 1) := by decide +kernel
theorem dJx4a65c_fastRemove_b59b0_6 : decode cJx4a65c_fastRemove_b59b0 6 = .ok (.iadd, 1) := by decide +kernel
theorem dJx4a65c_fastRemove_b59b0_7 : decode cJx4a65c_fastRemove_b59b0 7 = .ok (.putfield 63, 3) := by decide +kernel
theorem dJx4a65c_fastRemove_b59b0_10 : decode cJx4a65c_fastRemove_b59b0 10 = .ok (.aload_n 0, 1) := by decide +kernel
theorem dJx4a65c_fastRemove_b59b0_11 : decode cJx4a65c_fastRemove_b59b0 11 = .ok (.getfield 48, 3) := by decide +kernel
theorem dJx4a65c_fastRemove_b59b0_14 : decode cJx4a65c_fastRemove_b59b0 14 = .ok (.iconst 1, 1) := by decide +kernel
theorem dJx4a65c_fastRemove_b59b0_15 : decode cJx4a65c_fastRemove_b59b0 15 = .ok (.isub, 1) := by decide +kernel
theorem dJx4a65c_fastRemove_b59b0_16 : decode cJx4a65c_fastRemove_b59b0 16 = .ok (.dup, 1) := by decide +kernel
theorem dJx4a65c_fastRemove_b59b0_17 : decode cJx4a65c_fastRemove_b59b0 17 = .ok (.istore_n 3, 1) := by decide +kernel
theorem dJx4a65c_fastRemove_b59b0_18 : decode cJx4a65c_fastRemove_b59b0 18 = .ok (.iload_n 2, 1) := by decide +kernel
theorem dJx4a65c_fastRemove_b59b0_19 : decode cJx4a65c_fastRemove_b59b0 19 = .ok (.if_icmp .le 15, 3) := by decide +kernel
theorem dJx4a65c_fastRemove_b59b0_22 : decode cJx4a65c_fastRemove_b59b0 22 = .ok (.aload_n 1, 1) := by decide +kernel
theorem dJx4a65c_fastRemove_b59b0_23 : decode cJx4a65c_fastRemove_b59b0 23 = .ok (.iload_n 2, 1) := by decide +kernel
theorem dJx4a65c_fastRemove_b59b0_24 : decode cJx4a65c_fastRemove_b59b0 24 = .ok (.iconst 1, 1) := by decide +kernel
theorem dJx4a65c_fastRemove_b59b0_25 : decode cJx4a65c_fastRemove_b59b0 25 = .ok (.iadd, 1) := by decide +kernel
theorem dJx4a65c_fastRemove_b59b0_26 : decode cJx4a65c_fastRemove_b59b0 26 = .ok (.aload_n 1, 1) := by decide +kernel
theorem dJx4a65c_fastRemove_b59b0_27 : decode cJx4a65c_fastRemove_b59b0 27 = .ok (.iload_n 2, 1) := by decide +kernel
theorem dJx4a65c_fastRemove_b59b0_28 : decode cJx4a65c_fastRemove_b59b0 28 = .ok (.iload_n 3, 1) := by decide +kernel
theorem dJx4a65c_fastRemove_b59b0_29 : decode cJx4a65c_fastRemove_b59b0 29 = .ok (.iload_n 2, 1) := by decide +kernel
theorem dJx4a65c_fastRemove_b59b0_30 : decode cJx4a65c_fastRemove_b59b0 30 = .ok (.isub, 1) := by decide +kernel
theorem dJx4a65c_fastRemove_b59b0_31 : decode cJx4a65c_fastRemove_b59b0 31 = .ok (.invokestatic 112, 3) := by decide +kernel
theorem dJx4a65c_fastRemove_b59b0_34 : decode cJx4a65c_fastRemove_b59b0 34 = .ok (.aload_n 1, 1) := by decide +kernel
theorem dJx4a65c_fastRemove_b59b0_35 : decode cJx4a65c_fastRemove_b59b0 35 = .ok (.aload_n 0, 1) := by decide +kernel
theorem dJx4a65c_fastRemove_b59b0_36 : decode cJx4a65c_fastRemove_b59b0 36 = .ok (.iload_n 3, 1) := by decide +kernel
theorem dJx4a65c_fastRemove_b59b0_37 : decode cJx4a65c_fastRemove_b59b0 37 = .ok (.dup_x1, 1) := by decide +kernel
theorem dJx4a65c_fastRemove_b59b0_38 : decode cJx4a65c_fastRemove_b59b0 38 = .ok (.putfield 48, 3) := by decide +kernel
theorem dJx4a65c_fastRemove_b59b0_41 : decode cJx4a65c_fastRemove_b59b0 41 = .ok (.aconst_null, 1) := by decide +kernel
theorem dJx4a65c_fastRemove_b59b0_42 : decode cJx4a65c_fastRemove_b59b0 42 = .ok (.aastore, 1) := by decide +kernel
theorem dJx4a65c_fastRemove_b59b0_43 : decode cJx4a65c_fastRemove_b59b0 43 = .ok (.return_, 1) := by decide +kernel
set_option maxRecDepth 20000 in
theorem ggJ7_copyOf_1904c_J7_copyOf_6403c : GoodIn wsJ7_copyOf_1904c wsJ7_copyOf_6403c := goodIn_r _ [8, 9, 10, 11, 12, 13, 14, 15, 16, 17, 18] (by decide +kernel) (by decide +kernel)
set_option maxRecDepth 20000 in
theorem gJ7_copyOf_1904c_J7_copyOf_6403c : GoodIn wsJ7_copyOf_1904c (va_wsS RJ7 300 yJ7_copyOf_6403c wsJ7_copyOf_6403c) := goodIn_app (goodIn_of _ (by decide +kernel)) ggJ7_copyOf_1904c_J7_copyOf_6403c
theorem dJ7_copyOf_1904c_0 : decode cJ7_copyOf_1904c 0 = .ok (.aload_n 0, 1) := by decide +kernel
theorem dJ7_copyOf_1904c_1 : decode cJ7_copyOf_1904c 1 = .ok (.iload_n 1, 1) := by decide +kernel
theorem dJ7_copyOf_1904c_2 : decode cJ7_copyOf_1904c 2 = .ok (.aload_n 0, 1) := by decide +kernel
theorem dJ7_copyOf_1904c_3 : decode cJ7_copyOf_1904c 3 = .ok (.invokevirtual 86, 3) := by decide +kernel
theorem dJ7_copyOf_1904c_6 : decode cJ7_copyOf_1904c 6 = .ok (.invokestatic 300, 3) := by decide +kernel
theorem dJ7_copyOf_1904c_9 : decode cJ7_copyOf_1904c 9 = .ok (.areturn, 1) := by decide +kernel
theorem dJ7_copyOf_6403c_0 : decode cJ7_copyOf_6403c 0 = .ok (.aload_n 2, 1) := by decide +kernel
theorem dJ7_copyOf_6403c_1 : decode cJ7_copyOf_6403c 1 = .ok (.ldc 110, 2) := by decide +kernel
theorem dJ7_copyOf_6403c_3 : decode cJ7_copyOf_6403c 3 = .ok (.if_acmp .ne 10, 3) := by decide +kernel
theorem dJ7_copyOf_6403c_6 : decode cJ7_copyOf_6403c 6 = .ok (.iload_n 1, 1) := by decide +kernel
theorem dJ7_copyOf_6403c_7 : decode cJ7_copyOf_6403c 7 = .ok (.anewarray 2, 3) := by decide +kernel
theorem dJ7_copyOf_6403c_10 : decode cJ7_copyOf_6403c 10 = .ok (.goto 14, 3) := by decide +kernel
theorem dJ7_copyOf_6403c_13 : decode cJ7_copyOf_6403c 13 = .ok (.aload_n 2, 1) := by decide +kernel
theorem dJ7_copyOf_6403c_14 : decode cJ7_copyOf_6403c 14 = .ok (.invokevirtual 90, 3) := by decide +kernel
theorem dJ7_copyOf_6403c_17 : decode cJ7_copyOf_6403c 17 = .ok (.iload_n 1, 1) := by decide +kernel
theorem dJ7_copyOf_6403c_18 : decode cJ7_copyOf_6403c 18 = .ok (.invokestatic 95, 3) := by decide +kernel
theorem dJ7_copyOf_6403c_21 : decode cJ7_copyOf_6403c 21 = .ok (.checkcast 110, 3) := by decide +kernel
theorem dJ7_copyOf_6403c_24 : decode cJ7_copyOf_6403c 24 = .ok (.astore_n 3, 1) := by decide +kernel
theorem dJ7_copyOf_6403c_25 : decode cJ7_copyOf_6403c 25 = .ok (.aload_n 0, 1) := by decide +kernel
theorem dJ7_copyOf_6403c_26 : decode cJ7_copyOf_6403c 26 = .ok (.iconst 0, 1) := by decide +kernel
theorem dJ7_copyOf_6403c_27 : decode cJ7_copyOf_6403c 27 = .ok (.aload_n 3, 1) := by decide +kernel
theorem dJ7_copyOf_6403c_28 : decode cJ7_copyOf_6403c 28 = .ok (.iconst 0, 1) := by decide +kernel
theorem dJ7_copyOf_6403c_29 : decode cJ7_copyOf_6403c 29 = .ok (.aload_n 0, 1) := by decide +kernel
theorem dJ7_copyOf_6403c_30 : decode cJ7_copyOf_6403c 30 = .ok (.arraylength, 1) := by decide +kernel
theorem dJ7_copyOf_6403c_31 : decode cJ7_copyOf_6403c 31 = .ok (.iload_n 1, 1) := by decide +kernel
theorem dJ7_copyOf_6403c_32 : decode cJ7_copyOf_6403c 32 = .ok (.invokestatic 304, 3) := by decide +kernel
theorem dJ7_copyOf_6403c_35 : decode cJ7_copyOf_6403c 35 = .ok (.invokestatic 150, 3) := by decide +kernel
theorem dJ7_copyOf_6403c_38 : decode cJ7_copyOf_6403c 38 = .ok (.aload_n 3, 1) := by decide +kernel
theorem dJ7_copyOf_6403c_39 : decode cJ7_copyOf_6403c 39 = .ok (.areturn, 1) := by decide +kernel
set_option maxRecDepth 20000 in
theorem ggJ15_checkIndex_7cf53_J3_checkIndex_8e157 : GoodIn wsJ15_checkIndex_7cf53 wsJ3_checkIndex_8e157 := goodIn_r _ [4] (by decide +kernel) (by decide +kernel)
set_option maxRecDepth 20000 in
theorem gJ15_checkIndex_7cf53_J3_checkIndex_8e157 : GoodIn wsJ15_checkIndex_7cf53 (va_wsS RJ15 105 yJ3_checkIndex_8e157 wsJ3_checkIndex_8e157) := goodIn_app (goodIn_of _ (by decide +kernel)) ggJ15_checkIndex_7cf53_J3_checkIndex_8e157
theorem dJ15_checkIndex_7cf53_0 : decode cJ15_checkIndex_7cf53 0 = .ok (.iload_n 0, 1) := by decide +kernel
theorem dJ15_checkIndex_7cf53_1 : decode cJ15_checkIndex_7cf53 1 = .ok (.iload_n 1, 1) := by decide +kernel
theorem dJ15_checkIndex_7cf53_2 : decode cJ15_checkIndex_7cf53 2 = .ok (.aconst_null, 1) := by decide +kernel
theorem dJ15_checkIndex_7cf53_3 : decode cJ15_checkIndex_7cf53 3 = .ok (.invokestatic 105, 3) := by decide +kernel
theorem dJ15_checkIndex_7cf53_6 : decode cJ15_checkIndex_7cf53 6 = .ok (.ireturn, 1) := by decide +kernel
set_option maxRecDepth 20000 in
theorem ggJ8_newLength_cabcc_J8_hugeLength_7cf53 : GoodIn wsJ8_newLength_cabcc wsJ8_hugeLength_7cf53 := goodIn_r _ [9, 5] (by decide +kernel) (by decide +kernel)
set_option maxRecDepth 20000 in
theorem gJ8_newLength_cabcc_J8_hugeLength_7cf53 : GoodIn wsJ8_newLength_cabcc (va_wsS RJ8 201 yJ8_hugeLength_7cf53 wsJ8_hugeLength_7cf53) := goodIn_app (goodIn_of _ (by decide +kernel)) ggJ8_newLength_cabcc_J8_hugeLength_7cf53
theorem dJ8_newLength_cabcc_0 : decode cJ8_newLength_cabcc 0 = .ok (.iload_n 0, 1) := by decide +kernel
theorem dJ8_newLength_cabcc_1 : decode cJ8_newLength_cabcc 1 = .ok (.iload_n 1, 1) := by decide +kernel
theorem dJ8_newLength_cabcc_2 : decode cJ8_newLength_cabcc 2 = .ok (.iload_n 2, 1) := by decide +kernel
theorem dJ8_newLength_cabcc_3 : decode cJ8_newLength_cabcc 3 = .ok (.invokestatic 194, 3) := by decide +kernel
theorem dJ8_newLength_cabcc_6 : decode cJ8_newLength_cabcc 6 = .ok (.iadd, 1) := by decide +kernel
theorem dJ8_newLength_cabcc_7 : decode cJ8_newLength_cabcc 7 = .ok (.istore_n 3, 1) := by decide +kernel
theorem dJ8_newLength_cabcc_8 : decode cJ8_newLength_cabcc 8 = .ok (.iconst 0, 1) := by decide +kernel
theorem dJ8_newLength_cabcc_9 : decode cJ8_newLength_cabcc 9 = .ok (.iload_n 3, 1) := by decide +kernel
theorem dJ8_newLength_cabcc_10 : decode cJ8_newLength_cabcc 10 = .ok (.if_icmp .ge 11, 3) := by decide +kernel
theorem dJ8_newLength_cabcc_13 : decode cJ8_newLength_cabcc 13 = .ok (.iload_n 3, 1) := by decide +kernel
theorem dJ8_newLength_cabcc_14 : decode cJ8_newLength_cabcc 14 = .ok (.ldc 200, 2) := by decide +kernel
theorem dJ8_newLength_cabcc_16 : decode cJ8_newLength_cabcc 16 = .ok (.if_icmp .gt 5, 3) := by decide +kernel
theorem dJ8_newLength_cabcc_19 : decode cJ8_newLength_cabcc 19 = .ok (.iload_n 3, 1) := by decide +kernel
theorem dJ8_newLength_cabcc_20 : decode cJ8_newLength_cabcc 20 = .ok (.ireturn, 1) := by decide +kernel
theorem dJ8_newLength_cabcc_21 : decode cJ8_newLength_cabcc 21 = .ok (.iload_n 0, 1) := by decide +kernel
theorem dJ8_newLength_cabcc_22 : decode cJ8_newLength_cabcc 22 = .ok (.iload_n 1, 1) := by decide +kernel
theorem dJ8_newLength_cabcc_23 : decode cJ8_newLength_cabcc 23 = .ok (.invokestatic 201, 3) := by decide +kernel
theorem dJ8_newLength_cabcc_26 : decode cJ8_newLength_cabcc 26 = .ok (.ireturn, 1) := by decide +kernel
theorem dJ8_hugeLength_7cf53_0 : decode cJ8_hugeLength_7cf53 0 = .ok (.iload_n 0, 1) := by decide +kernel
theorem dJ8_hugeLength_7cf53_1 : decode cJ8_hugeLength_7cf53 1 = .ok (.iload_n 1, 1) := by decide +kernel
theorem dJ8_hugeLength_7cf53_2 : decode cJ8_hugeLength_7cf53 2 = .ok (.iadd, 1) := by decide +kernel
theorem dJ8_hugeLength_7cf53_3 : decode cJ8_hugeLength_7cf53 3 = .ok (.istore_n 2, 1) := by decide +kernel
theorem dJ8_hugeLength_7cf53_4 : decode cJ8_hugeLength_7cf53 4 = .ok (.iload_n 2, 1) := by decide +kernel
theorem dJ8_hugeLength_7cf53_5 : decode cJ8_hugeLength_7cf53 5 = .ok (.ifCond .ge 44, 3) := by decide +kernel
theorem dJ8_hugeLength_7cf53_8 : decode cJ8_hugeLength_7cf53 8 = .ok (.new 204, 3) := by decide +kernel
theorem dJ8_hugeLength_7cf53_11 : decode cJ8_hugeLength_7cf53 11 = .ok (.dup, 1) := by decide +kernel
theorem dJ8_hugeLength_7cf53_12 : decode cJ8_hugeLength_7cf53 12 = .ok (.new 89, 3) := by decide +kernel
theorem dJ8_hugeLength_7cf53_15 : decode cJ8_hugeLength_7cf53 15 = .ok (.dup, 1) := by decide +kernel
theorem dJ8_hugeLength_7cf53_16 : decode cJ8_hugeLength_7cf53 16 = .ok (.invokespecial 91, 3) := by decide +kernel
theorem dJ8_hugeLength_7cf53_19 : decode cJ8_hugeLength_7cf53 19 = .ok (.ldc 206, 2) := by decide +kernel
theorem dJ8_hugeLength_7cf53_21 : decode cJ8_hugeLength_7cf53 21 = .ok (.invokevirtual 94, 3) := by decide +kernel
theorem dJ8_hugeLength_7cf53_24 : decode cJ8_hugeLength_7cf53 24 = .ok (.iload_n 0, 1) := by decide +kernel
theorem dJ8_hugeLength_7cf53_25 : decode cJ8_hugeLength_7cf53 25 = .ok (.invokevirtual 98, 3) := by decide +kernel
theorem dJ8_hugeLength_7cf53_28 : decode cJ8_hugeLength_7cf53 28 = .ok (.ldc 208, 2) := by decide +kernel
theorem dJ8_hugeLength_7cf53_30 : decode cJ8_hugeLength_7cf53 30 = .ok (.invokevirtual 94, 3) := by decide +kernel
theorem dJ8_hugeLength_7cf53_33 : decode cJ8_hugeLength_7cf53 33 = .ok (.iload_n 1, 1) := by decide +kernel
theorem dJ8_hugeLength_7cf53_34 : decode cJ8_hugeLength_7cf53 34 = .ok (.invokevirtual 98, 3) := by decide +kernel
theorem dJ8_hugeLength_7cf53_37 : decode cJ8_hugeLength_7cf53 37 = .ok (.ldc 210, 2) := by decide +kernel
theorem dJ8_hugeLength_7cf53_39 : decode cJ8_hugeLength_7cf53 39 = .ok (.invokevirtual 94, 3) := by decide +kernel
theorem dJ8_hugeLength_7cf53_42 : decode cJ8_hugeLength_7cf53 42 = .ok (.invokevirtual 101, 3) := by decide +kernel
theorem dJ8_hugeLength_7cf53_45 : decode cJ8_hugeLength_7cf53 45 = .ok (.invokespecial 212, 3) := by decide +kernel
theorem dJ8_hugeLength_7cf53_48 : decode cJ8_hugeLength_7cf53 48 = .ok (.athrow, 1) := by decide +kernel
theorem dJ8_hugeLength_7cf53_49 : decode cJ8_hugeLength_7cf53 49 = .ok (.iload_n 2, 1) := by decide +kernel
theorem dJ8_hugeLength_7cf53_50 : decode cJ8_hugeLength_7cf53 50 = .ok (.ldc 200, 2) := by decide +kernel
theorem dJ8_hugeLength_7cf53_52 : decode cJ8_hugeLength_7cf53 52 = .ok (.if_icmp .gt 6, 3) := by decide +kernel
theorem dJ8_hugeLength_7cf53_55 : decode cJ8_hugeLength_7cf53 55 = .ok (.ldc 200, 2) := by decide +kernel
theorem dJ8_hugeLength_7cf53_57 : decode cJ8_hugeLength_7cf53 57 = .ok (.ireturn, 1) := by decide +kernel
theorem dJ8_hugeLength_7cf53_58 : decode cJ8_hugeLength_7cf53 58 = .ok (.iload_n 2, 1) := by decide +kernel
theorem dJ8_hugeLength_7cf53_59 : decode cJ8_hugeLength_7cf53 59 = .ok (.ireturn, 1) := by decide +kernel
theorem dJ3_checkIndex_8e157_0 : decode cJ3_checkIndex_8e157 0 = .ok (.iload_n 0, 1) := by decide +kernel
theorem dJ3_checkIndex_8e157_1 : decode cJ3_checkIndex_8e157 1 = .ok (.ifCond .lt 8, 3) := by decide +kernel
theorem dJ3_checkIndex_8e157_4 : decode cJ3_checkIndex_8e157 4 = .ok (.iload_n 0, 1) := by decide +kernel
theorem dJ3_checkIndex_8e157_5 : decode cJ3_checkIndex_8e157 5 = .ok (.iload_n 1, 1) := by decide +kernel
theorem dJ3_checkIndex_8e157_6 : decode cJ3_checkIndex_8e157 6 = .ok (.if_icmp .lt 10, 3) := by decide +kernel
theorem dJ3_checkIndex_8e157_9 : decode cJ3_checkIndex_8e157 9 = .ok (.aload_n 2, 1) := by decide +kernel
theorem dJ3_checkIndex_8e157_10 : decode cJ3_checkIndex_8e157 10 = .ok (.iload_n 0, 1) := by decide +kernel
theorem dJ3_checkIndex_8e157_11 : decode cJ3_checkIndex_8e157 11 = .ok (.iload_n 1, 1) := by decide +kernel
theorem dJ3_checkIndex_8e157_12 : decode cJ3_checkIndex_8e157 12 = .ok (.invokestatic 95, 3) := by decide +kernel
theorem dJ3_checkIndex_8e157_15 : decode cJ3_checkIndex_8e157 15 = .ok (.athrow, 1) := by decide +kernel
theorem dJ3_checkIndex_8e157_16 : decode cJ3_checkIndex_8e157 16 = .ok (.iload_n 0, 1) := by decide +kernel
theorem dJ3_checkIndex_8e157_17 : decode cJ3_checkIndex_8e157 17 = .ok (.ireturn, 1) := by decide +kernel
set_option maxRecDepth 20000 in
theorem ggL_setPavilion_X2_setPavilion : GoodIn wsL_setPavilion wsX2_setPavilion := goodIn_ca (goodIn_ca (goodIn_r _ [7, 8, 9, 10, 11, 12, 6, 13, 14, 15, 16, 17, 18, 19, 20, 21, 22, 23, 24, 25] (by decide +kernel) (by decide +kernel)) (goodIn_sub (fun _ h => List.mem_cons_of_mem _ (List.mem_append_left _ (List.mem_append_right _ h))) (by decide +kernel))) (goodIn_sub (fun _ h => List.mem_cons_of_mem _ (List.mem_append_right _ h)) (by decide +kernel))
set_option maxRecDepth 20000 in
theorem gL_setPavilion_X2_setPavilion : GoodIn wsL_setPavilion (wsV RL 7 RX2 yX2_setPavilion wsX2_setPavilion) := goodIn_app (goodIn_of _ (by decide +kernel)) ggL_setPavilion_X2_setPavilion
theorem dL_setPavilion_0 : decode cL_setPavilion 0 = .ok (.aload_n 0, 1) := by decide +kernel
theorem dL_setPavilion_1 : decode cL_setPavilion 1 = .ok (.iload_n 1, 1) := by decide +kernel
theorem dL_setPavilion_2 : decode cL_setPavilion 2 = .ok (.iload_n 2, 1) := by decide +kernel
theorem dL_setPavilion_3 : decode cL_setPavilion 3 = .ok (.iload_n 3, 1) := by decide +kernel
theorem dL_setPavilion_4 : decode cL_setPavilion 4 = .ok (.invokevirtual 7, 3) := by decide +kernel
theorem dL_setPavilion_7 : decode cL_setPavilion 7 = .ok (.goto 11, 3) := by decide +kernel
theorem dL_setPavilion_10 : decode cL_setPavilion 10 = .ok (.astore 4, 2) := by decide +kernel
theorem dL_setPavilion_12 : decode cL_setPavilion 12 = .ok (.iconst 1, 1) := by decide +kernel
theorem dL_setPavilion_13 : decode cL_setPavilion 13 = .ok (.ireturn, 1) := by decide +kernel
theorem dL_setPavilion_14 : decode cL_setPavilion 14 = .ok (.astore 4, 2) := by decide +kernel
theorem dL_setPavilion_16 : decode cL_setPavilion 16 = .ok (.iconst 2, 1) := by decide +kernel
theorem dL_setPavilion_17 : decode cL_setPavilion 17 = .ok (.ireturn, 1) := by decide +kernel
theorem dL_setPavilion_18 : decode cL_setPavilion 18 = .ok (.iconst 0, 1) := by decide +kernel
theorem dL_setPavilion_19 : decode cL_setPavilion 19 = .ok (.ireturn, 1) := by decide +kernel
set_option maxRecDepth 20000 in
theorem ggL_open_X2_open : GoodIn wsL_open wsX2_open := goodIn_ca (goodIn_r _ [6, 7, 8, 9, 5, 10, 11, 12, 13, 14, 15, 16, 17, 18, 19, 20, 21, 22, 23, 24, 25, 26, 27, 28, 29, 30, 31, 32, 33, 34, 35, 36, 37, 38, 39, 40, 41, 42, 43, 44, 45, 46, 47, 48, 49, 50, 51, 52, 53] (by decide +kernel) (by decide +kernel)) (goodIn_sub (fun _ h => List.mem_cons_of_mem _ (List.mem_append_right _ h)) (by decide +kernel))
set_option maxRecDepth 20000 in
theorem gL_open_X2_open : GoodIn wsL_open (wsV RL 17 RX2 yX2_open wsX2_open) := goodIn_app (goodIn_of _ (by decide +kernel)) ggL_open_X2_open
theorem dL_open_0 : decode cL_open 0 = .ok (.aload_n 3, 1) := by decide +kernel
theorem dL_open_1 : decode cL_open 1 = .ok (.iconst 0, 1) := by decide +kernel
theorem dL_open_2 : decode cL_open 2 = .ok (.aload_n 0, 1) := by decide +kernel
theorem dL_open_3 : decode cL_open 3 = .ok (.iload_n 1, 1) := by decide +kernel
theorem dL_open_4 : decode cL_open 4 = .ok (.iload_n 2, 1) := by decide +kernel
theorem dL_open_5 : decode cL_open 5 = .ok (.invokevirtual 17, 3) := by decide +kernel
theorem dL_open_8 : decode cL_open 8 = .ok (.i2l, 1) := by decide +kernel
theorem dL_open_9 : decode cL_open 9 = .ok (.lastore, 1) := by decide +kernel
theorem dL_open_10 : decode cL_open 10 = .ok (.goto 7, 3) := by decide +kernel
theorem dL_open_13 : decode cL_open 13 = .ok (.astore 4, 2) := by decide +kernel
theorem dL_open_15 : decode cL_open 15 = .ok (.iconst 1, 1) := by decide +kernel
theorem dL_open_16 : decode cL_open 16 = .ok (.ireturn, 1) := by decide +kernel
theorem dL_open_17 : decode cL_open 17 = .ok (.iconst 0, 1) := by decide +kernel
theorem dL_open_18 : decode cL_open 18 = .ok (.ireturn, 1) := by decide +kernel
set_option maxRecDepth 20000 in
theorem ggL_plan_X2_plan : GoodIn wsL_plan wsX2_plan := goodIn_ca (goodIn_ca (goodIn_r _ [7, 8, 9, 10, 11, 12, 6, 13, 14, 15, 16, 17, 18, 19, 20, 21, 22, 23, 24, 25, 26, 27, 28, 29, 30, 31, 32, 33, 34, 35, 36, 37, 38, 39, 40, 41, 42, 43, 44, 45, 46, 47, 48, 49, 50, 51, 52, 53, 54, 55, 56, 57, 58, 59, 60, 61, 62, 63, 64, 65, 66, 67, 68, 69, 70, 71, 72, 73, 74, 75, 76, 77, 78, 79, 80, 81, 82, 83, 84, 85, 86, 87, 88, 89, 90, 91, 92, 93, 94, 95, 96, 97, 98, 99, 100, 101, 102, 103, 104, 105, 106, 107, 108, 109, 110, 111, 112, 113, 114, 115, 116, 117] (by decide +kernel) (by decide +kernel)) (goodIn_sub (fun _ h => List.mem_cons_of_mem _ (List.mem_append_left _ (List.mem_append_right _ h))) (by decide +kernel))) (goodIn_sub (fun _ h => List.mem_cons_of_mem _ (List.mem_append_right _ h)) (by decide +kernel))
set_option maxRecDepth 20000 in
theorem gL_plan_X2_plan : GoodIn wsL_plan (wsV RL 21 RX2 yX2_plan wsX2_plan) := goodIn_app (goodIn_of _ (by decide +kernel)) ggL_plan_X2_plan
theorem dL_plan_0 : decode cL_plan 0 = .ok (.aload_n 3, 1) := by decide +kernel
theorem dL_plan_1 : decode cL_plan 1 = .ok (.iconst 0, 1) := by decide +kernel
theorem dL_plan_2 : decode cL_plan 2 = .ok (.aload_n 0, 1) := by decide +kernel
theorem dL_plan_3 : decode cL_plan 3 = .ok (.iload_n 1, 1) := by decide +kernel
theorem dL_plan_4 : decode cL_plan 4 = .ok (.iload_n 2, 1) := by decide +kernel
theorem dL_plan_5 : decode cL_plan 5 = .ok (.invokevirtual 21, 3) := by decide +kernel
theorem dL_plan_8 : decode cL_plan 8 = .ok (.i2l, 1) := by decide +kernel
theorem dL_plan_9 : decode cL_plan 9 = .ok (.lastore, 1) := by decide +kernel
theorem dL_plan_10 : decode cL_plan 10 = .ok (.goto 11, 3) := by decide +kernel
theorem dL_plan_13 : decode cL_plan 13 = .ok (.astore 4, 2) := by decide +kernel
theorem dL_plan_15 : decode cL_plan 15 = .ok (.iconst 1, 1) := by decide +kernel
theorem dL_plan_16 : decode cL_plan 16 = .ok (.ireturn, 1) := by decide +kernel
theorem dL_plan_17 : decode cL_plan 17 = .ok (.astore 4, 2) := by decide +kernel
theorem dL_plan_19 : decode cL_plan 19 = .ok (.iconst 2, 1) := by decide +kernel
theorem dL_plan_20 : decode cL_plan 20 = .ok (.ireturn, 1) := by decide +kernel
theorem dL_plan_21 : decode cL_plan 21 = .ok (.iconst 0, 1) := by decide +kernel
theorem dL_plan_22 : decode cL_plan 22 = .ok (.ireturn, 1) := by decide +kernel
set_option maxRecDepth 20000 in
theorem ggL_drop_X2_drop : GoodIn wsL_drop wsX2_drop := goodIn_ca (goodIn_ca (goodIn_r _ [7, 8, 9, 10, 11, 12, 6, 13, 14, 15, 16, 17, 18, 19, 20, 21, 22, 23, 24, 25, 26, 27, 28, 29, 30, 31, 32, 33, 34, 35, 36, 37, 38, 39, 40, 41, 42, 43, 44, 45, 46, 47, 48, 49, 50, 51, 52, 53, 54, 55, 56, 57, 58, 59, 60, 61, 62, 63, 64, 65, 66, 67, 68, 69, 70, 71, 72, 73, 74, 75, 76, 77, 78, 79, 80, 81, 82, 83, 84, 85, 86, 87, 88, 89, 90, 91, 92, 93, 94, 95, 96, 97, 98, 99, 100] (by decide +kernel) (by decide +kernel)) (goodIn_sub (fun _ h => List.mem_cons_of_mem _ (List.mem_append_left _ (List.mem_append_right _ h))) (by decide +kernel))) (goodIn_sub (fun _ h => List.mem_cons_of_mem _ (List.mem_append_right _ h)) (by decide +kernel))
set_option maxRecDepth 20000 in
theorem gL_drop_X2_drop : GoodIn wsL_drop (wsV RL 27 RX2 yX2_drop wsX2_drop) := goodIn_app (goodIn_of _ (by decide +kernel)) ggL_drop_X2_drop
theorem dL_drop_0 : decode cL_drop 0 = .ok (.aload_n 3, 1) := by decide +kernel
theorem dL_drop_1 : decode cL_drop 1 = .ok (.iconst 0, 1) := by decide +kernel
theorem dL_drop_2 : decode cL_drop 2 = .ok (.aload_n 0, 1) := by decide +kernel
theorem dL_drop_3 : decode cL_drop 3 = .ok (.iload_n 1, 1) := by decide +kernel
theorem dL_drop_4 : decode cL_drop 4 = .ok (.iload_n 2, 1) := by decide +kernel
theorem dL_drop_5 : decode cL_drop 5 = .ok (.invokevirtual 27, 3) := by decide +kernel
theorem dL_drop_8 : decode cL_drop 8 = .ok (.i2l, 1) := by decide +kernel
theorem dL_drop_9 : decode cL_drop 9 = .ok (.lastore, 1) := by decide +kernel
theorem dL_drop_10 : decode cL_drop 10 = .ok (.goto 11, 3) := by decide +kernel
theorem dL_drop_13 : decode cL_drop 13 = .ok (.astore 4, 2) := by decide +kernel
theorem dL_drop_15 : decode cL_drop 15 = .ok (.iconst 1, 1) := by decide +kernel
theorem dL_drop_16 : decode cL_drop 16 = .ok (.ireturn, 1) := by decide +kernel
theorem dL_drop_17 : decode cL_drop 17 = .ok (.astore 4, 2) := by decide +kernel
theorem dL_drop_19 : decode cL_drop 19 = .ok (.iconst 2, 1) := by decide +kernel
theorem dL_drop_20 : decode cL_drop 20 = .ok (.ireturn, 1) := by decide +kernel
theorem dL_drop_21 : decode cL_drop 21 = .ok (.iconst 0, 1) := by decide +kernel
theorem dL_drop_22 : decode cL_drop 22 = .ok (.ireturn, 1) := by decide +kernel
set_option maxRecDepth 20000 in
theorem ggL_ask_X2_ask : GoodIn wsL_ask wsX2_ask := goodIn_ca (goodIn_ca (goodIn_r _ [7, 8, 9, 10, 11, 12, 6, 13, 14, 15, 16, 17, 18, 19, 20, 21, 22, 23, 24, 25, 26, 27, 28, 29, 30, 31, 32, 33, 34, 35, 36, 37, 38, 39, 40, 41, 42, 43, 44, 45, 46, 47, 48, 49] (by decide +kernel) (by decide +kernel)) (goodIn_sub (fun _ h => List.mem_cons_of_mem _ (List.mem_append_left _ (List.mem_append_right _ h))) (by decide +kernel))) (goodIn_sub (fun _ h => List.mem_cons_of_mem _ (List.mem_append_right _ h)) (by decide +kernel))
set_option maxRecDepth 20000 in
theorem gL_ask_X2_ask : GoodIn wsL_ask (wsV RL 30 RX2 yX2_ask wsX2_ask) := goodIn_app (goodIn_of _ (by decide +kernel)) ggL_ask_X2_ask
theorem dL_ask_0 : decode cL_ask 0 = .ok (.aload_n 3, 1) := by decide +kernel
theorem dL_ask_1 : decode cL_ask 1 = .ok (.iconst 0, 1) := by decide +kernel
theorem dL_ask_2 : decode cL_ask 2 = .ok (.aload_n 0, 1) := by decide +kernel
theorem dL_ask_3 : decode cL_ask 3 = .ok (.iload_n 1, 1) := by decide +kernel
theorem dL_ask_4 : decode cL_ask 4 = .ok (.iload_n 2, 1) := by decide +kernel
theorem dL_ask_5 : decode cL_ask 5 = .ok (.invokevirtual 30, 3) := by decide +kernel
theorem dL_ask_8 : decode cL_ask 8 = .ok (.i2l, 1) := by decide +kernel
theorem dL_ask_9 : decode cL_ask 9 = .ok (.lastore, 1) := by decide +kernel
theorem dL_ask_10 : decode cL_ask 10 = .ok (.goto 11, 3) := by decide +kernel
theorem dL_ask_13 : decode cL_ask 13 = .ok (.astore 4, 2) := by decide +kernel
theorem dL_ask_15 : decode cL_ask 15 = .ok (.iconst 1, 1) := by decide +kernel
theorem dL_ask_16 : decode cL_ask 16 = .ok (.ireturn, 1) := by decide +kernel
theorem dL_ask_17 : decode cL_ask 17 = .ok (.astore 4, 2) := by decide +kernel
theorem dL_ask_19 : decode cL_ask 19 = .ok (.iconst 2, 1) := by decide +kernel
theorem dL_ask_20 : decode cL_ask 20 = .ok (.ireturn, 1) := by decide +kernel
theorem dL_ask_21 : decode cL_ask 21 = .ok (.iconst 0, 1) := by decide +kernel
theorem dL_ask_22 : decode cL_ask 22 = .ok (.ireturn, 1) := by decide +kernel
set_option maxRecDepth 20000 in
theorem ggL_advance_X2_advance : GoodIn wsL_advance wsX2_advance := goodIn_ca (goodIn_ca (goodIn_r _ [7, 8, 9, 10, 11, 12, 13, 14, 15, 6, 16, 17, 18, 19, 20, 21, 22, 23, 24, 25, 26, 27, 28, 29, 30, 31, 32, 33, 34, 35, 36, 37, 38, 39, 40, 41, 42, 43, 44, 45, 46, 47, 48, 49, 50, 51, 52, 53, 54, 55, 56, 57, 58, 59, 60, 61, 62, 63, 64, 65, 66, 67, 68, 69, 70, 71, 72, 73, 74, 75, 76, 77, 78, 79, 80, 81, 82, 83, 84, 85, 86, 87, 88, 89, 90, 91, 92, 93, 94, 95, 96, 97, 98, 99, 100, 101, 102, 103, 104, 105, 106, 107, 108, 109, 110, 111, 112, 113, 114, 115, 116, 117, 118, 119, 120, 121, 122, 123, 124, 125, 126, 127, 128, 129, 130, 131, 132] (by decide +kernel) (by decide +kernel)) (goodIn_sub (fun _ h => List.mem_cons_of_mem _ (List.mem_append_left _ (List.mem_append_right _ h))) (by decide +kernel))) (goodIn_sub (fun _ h => List.mem_cons_of_mem _ (List.mem_append_right _ h)) (by decide +kernel))
set_option maxRecDepth 20000 in
theorem gL_advance_X2_advance : GoodIn wsL_advance (wsV RL 33 RX2 yX2_advance wsX2_advance) := goodIn_app (goodIn_of _ (by decide +kernel)) ggL_advance_X2_advance
theorem dL_advance_0 : decode cL_advance 0 = .ok (.aload_n 2, 1) := by decide +kernel
theorem dL_advance_1 : decode cL_advance 1 = .ok (.iconst 0, 1) := by decide +kernel
theorem dL_advance_2 : decode cL_advance 2 = .ok (.aload_n 0, 1) := by decide +kernel
theorem dL_advance_3 : decode cL_advance 3 = .ok (.iload_n 1, 1) := by decide +kernel
theorem dL_advance_4 : decode cL_advance 4 = .ok (.invokevirtual 33, 3) := by decide +kernel
theorem dL_advance_7 : decode cL_advance 7 = .ok (.i2l, 1) := by decide +kernel
theorem dL_advance_8 : decode cL_advance 8 = .ok (.lastore, 1) := by decide +kernel
theorem dL_advance_9 : decode cL_advance 9 = .ok (.goto 9, 3) := by decide +kernel
theorem dL_advance_12 : decode cL_advance 12 = .ok (.astore_n 3, 1) := by decide +kernel
theorem dL_advance_13 : decode cL_advance 13 = .ok (.iconst 1, 1) := by decide +kernel
theorem dL_advance_14 : decode cL_advance 14 = .ok (.ireturn, 1) := by decide +kernel
theorem dL_advance_15 : decode cL_advance 15 = .ok (.astore_n 3, 1) := by decide +kernel
theorem dL_advance_16 : decode cL_advance 16 = .ok (.iconst 2, 1) := by decide +kernel
theorem dL_advance_17 : decode cL_advance 17 = .ok (.ireturn, 1) := by decide +kernel
theorem dL_advance_18 : decode cL_advance 18 = .ok (.iconst 0, 1) := by decide +kernel
theorem dL_advance_19 : decode cL_advance 19 = .ok (.ireturn, 1) := by decide +kernel
set_option maxRecDepth 20000 in
theorem ggL_send_X2_send : GoodIn wsL_send wsX2_send := goodIn_ca (goodIn_ca (goodIn_r _ [7, 8, 9, 10, 11, 12, 6, 13, 14, 15, 16, 17, 18, 19, 20, 21, 22, 23, 24, 25, 26, 27, 28, 29, 30, 31, 32, 33, 34, 35, 36, 37, 38, 39, 40, 41, 42, 43, 44] (by decide +kernel) (by decide +kernel)) (goodIn_sub (fun _ h => List.mem_cons_of_mem _ (List.mem_append_left _ (List.mem_append_right _ h))) (by decide +kernel))) (goodIn_sub (fun _ h => List.mem_cons_of_mem _ (List.mem_append_right _ h)) (by decide +kernel))
set_option maxRecDepth 20000 in
theorem gL_send_X2_send : GoodIn wsL_send (wsV RL 37 RX2 yX2_send wsX2_send) := goodIn_app (goodIn_of _ (by decide +kernel)) ggL_send_X2_send
theorem dL_send_0 : decode cL_send 0 = .ok (.aload_n 3, 1) := by decide +kernel
theorem dL_send_1 : decode cL_send 1 = .ok (.iconst 0, 1) := by decide +kernel
theorem dL_send_2 : decode cL_send 2 = .ok (.aload_n 0, 1) := by decide +kernel
theorem dL_send_3 : decode cL_send 3 = .ok (.iload_n 1, 1) := by decide +kernel
theorem dL_send_4 : decode cL_send 4 = .ok (.iload_n 2, 1) := by decide +kernel
theorem dL_send_5 : decode cL_send 5 = .ok (.invokevirtual 37, 3) := by decide +kernel
theorem dL_send_8 : decode cL_send 8 = .ok (.ifCond .eq 7, 3) := by decide +kernel
theorem dL_send_11 : decode cL_send 11 = .ok (.lconst 1, 1) := by decide +kernel
theorem dL_send_12 : decode cL_send 12 = .ok (.goto 4, 3) := by decide +kernel
theorem dL_send_15 : decode cL_send 15 = .ok (.lconst 0, 1) := by decide +kernel
theorem dL_send_16 : decode cL_send 16 = .ok (.lastore, 1) := by decide +kernel
theorem dL_send_17 : decode cL_send 17 = .ok (.goto 11, 3) := by decide +kernel
theorem dL_send_20 : decode cL_send 20 = .ok (.astore 4, 2) := by decide +kernel
theorem dL_send_22 : decode cL_send 22 = .ok (.iconst 1, 1) := by decide +kernel
theorem dL_send_23 : decode cL_send 23 = .ok (.ireturn, 1) := by decide +kernel
theorem dL_send_24 : decode cL_send 24 = .ok (.astore 4, 2) := by decide +kernel
theorem dL_send_26 : decode cL_send 26 = .ok (.iconst 2, 1) := by decide +kernel
theorem dL_send_27 : decode cL_send 27 = .ok (.ireturn, 1) := by decide +kernel
theorem dL_send_28 : decode cL_send 28 = .ok (.iconst 0, 1) := by decide +kernel
theorem dL_send_29 : decode cL_send 29 = .ok (.ireturn, 1) := by decide +kernel
set_option maxRecDepth 20000 in
theorem ggL_reprint_X2_reprint : GoodIn wsL_reprint wsX2_reprint := goodIn_ca (goodIn_r _ [6, 7, 8, 9, 10, 11, 12, 13, 14, 15, 16, 17, 18] (by decide +kernel) (by decide +kernel)) (goodIn_sub (fun _ h => List.mem_cons_of_mem _ (List.mem_append_right _ h)) (by decide +kernel))
set_option maxRecDepth 20000 in
theorem gL_reprint_X2_reprint : GoodIn wsL_reprint (wsV RL 41 RX2 yX2_reprint wsX2_reprint) := goodIn_app (goodIn_of _ (by decide +kernel)) ggL_reprint_X2_reprint
theorem dL_reprint_0 : decode cL_reprint 0 = .ok (.aload_n 2, 1) := by decide +kernel
theorem dL_reprint_1 : decode cL_reprint 1 = .ok (.iconst 0, 1) := by decide +kernel
theorem dL_reprint_2 : decode cL_reprint 2 = .ok (.aload_n 0, 1) := by decide +kernel
theorem dL_reprint_3 : decode cL_reprint 3 = .ok (.iload_n 1, 1) := by decide +kernel
theorem dL_reprint_4 : decode cL_reprint 4 = .ok (.invokevirtual 41, 3) := by decide +kernel
theorem dL_reprint_7 : decode cL_reprint 7 = .ok (.i2l, 1) := by decide +kernel
theorem dL_reprint_8 : decode cL_reprint 8 = .ok (.lastore, 1) := by decide +kernel
theorem dL_reprint_9 : decode cL_reprint 9 = .ok (.goto 6, 3) := by decide +kernel
theorem dL_reprint_12 : decode cL_reprint 12 = .ok (.astore_n 3, 1) := by decide +kernel
theorem dL_reprint_13 : decode cL_reprint 13 = .ok (.iconst 1, 1) := by decide +kernel
theorem dL_reprint_14 : decode cL_reprint 14 = .ok (.ireturn, 1) := by decide +kernel
theorem dL_reprint_15 : decode cL_reprint 15 = .ok (.iconst 0, 1) := by decide +kernel
theorem dL_reprint_16 : decode cL_reprint 16 = .ok (.ireturn, 1) := by decide +kernel
set_option maxRecDepth 20000 in
theorem ggL_stateOf_X2_stateOf : GoodIn wsL_stateOf wsX2_stateOf := goodIn_ca (goodIn_r _ [6, 7, 8, 9, 5, 10, 11, 12, 13, 14, 15, 16, 17, 18, 19, 20, 21, 22, 23, 24, 25, 26] (by decide +kernel) (by decide +kernel)) (goodIn_sub (fun _ h => List.mem_cons_of_mem _ (List.mem_append_right _ h)) (by decide +kernel))
set_option maxRecDepth 20000 in
theorem gL_stateOf_X2_stateOf : GoodIn wsL_stateOf (wsV RL 44 RX2 yX2_stateOf wsX2_stateOf) := goodIn_app (goodIn_of _ (by decide +kernel)) ggL_stateOf_X2_stateOf
theorem dL_stateOf_0 : decode cL_stateOf 0 = .ok (.aload_n 2, 1) := by decide +kernel
theorem dL_stateOf_1 : decode cL_stateOf 1 = .ok (.iconst 0, 1) := by decide +kernel
theorem dL_stateOf_2 : decode cL_stateOf 2 = .ok (.aload_n 0, 1) := by decide +kernel
theorem dL_stateOf_3 : decode cL_stateOf 3 = .ok (.iload_n 1, 1) := by decide +kernel
theorem dL_stateOf_4 : decode cL_stateOf 4 = .ok (.invokevirtual 44, 3) := by decide +kernel
theorem dL_stateOf_7 : decode cL_stateOf 7 = .ok (.i2l, 1) := by decide +kernel
theorem dL_stateOf_8 : decode cL_stateOf 8 = .ok (.lastore, 1) := by decide +kernel
theorem dL_stateOf_9 : decode cL_stateOf 9 = .ok (.goto 6, 3) := by decide +kernel
theorem dL_stateOf_12 : decode cL_stateOf 12 = .ok (.astore_n 3, 1) := by decide +kernel
theorem dL_stateOf_13 : decode cL_stateOf 13 = .ok (.iconst 1, 1) := by decide +kernel
theorem dL_stateOf_14 : decode cL_stateOf 14 = .ok (.ireturn, 1) := by decide +kernel
theorem dL_stateOf_15 : decode cL_stateOf 15 = .ok (.iconst 0, 1) := by decide +kernel
theorem dL_stateOf_16 : decode cL_stateOf 16 = .ok (.ireturn, 1) := by decide +kernel
end
section
set_option maxRecDepth 20000 in
theorem ggL_whereIs_X2_whereIs : GoodIn wsL_whereIs wsX2_whereIs := goodIn_ca (goodIn_r _ [6, 7, 8, 9, 5, 10, 11, 12, 13, 14, 15, 16, 17, 18, 19, 20, 21, 22, 23, 24, 25, 26] (by decide +kernel) (by decide +kernel)) (goodIn_sub (fun _ h => List.mem_cons_of_mem _ (List.mem_append_right _ h)) (by decide +kernel))
set_option maxRecDepth 20000 in
theorem gL_whereIs_X2_whereIs : GoodIn wsL_whereIs (wsV RL 47 RX2 yX2_whereIs wsX2_whereIs) := goodIn_app (goodIn_of _ (by decide +kernel)) ggL_whereIs_X2_whereIs
theorem dL_whereIs_0 : decode cL_whereIs 0 = .ok (.aload_n 2, 1) := by decide +kernel
theorem dL_whereIs_1 : decode cL_whereIs 1 = .ok (.iconst 0, 1) := by decide +kernel
theorem dL_whereIs_2 : decode cL_whereIs 2 = .ok (.aload_n 0, 1) := by decide +kernel
theorem dL_whereIs_3 : decode cL_whereIs 3 = .ok (.iload_n 1, 1) := by decide +kernel
theorem dL_whereIs_4 : decode cL_whereIs 4 = .ok (.invokevirtual 47, 3) := by decide +kernel
theorem dL_whereIs_7 : decode cL_whereIs 7 = .ok (.i2l, 1) := by decide +kernel
theorem dL_whereIs_8 : decode cL_whereIs 8 = .ok (.lastore, 1) := by decide +kernel
theorem dL_whereIs_9 : decode cL_whereIs 9 = .ok (.goto 6, 3) := by decide +kernel
theorem dL_whereIs_12 : decode cL_whereIs 12 = .ok (.astore_n 3, 1) := by decide +kernel
theorem dL_whereIs_13 : decode cL_whereIs 13 = .ok (.iconst 1, 1) := by decide +kernel
theorem dL_whereIs_14 : decode cL_whereIs 14 = .ok (.ireturn, 1) := by decide +kernel
theorem dL_whereIs_15 : decode cL_whereIs 15 = .ok (.iconst 0, 1) := by decide +kernel
theorem dL_whereIs_16 : decode cL_whereIs 16 = .ok (.ireturn, 1) := by decide +kernel
set_option maxRecDepth 20000 in
theorem ggL_placeOf_X2_placeOf : GoodIn wsL_placeOf wsX2_placeOf := goodIn_ca (goodIn_r _ [6, 7, 8, 9, 5, 10, 11, 12, 13, 14, 15, 16, 17, 18, 19, 20, 21, 22, 23, 24, 25, 26] (by decide +kernel) (by decide +kernel)) (goodIn_sub (fun _ h => List.mem_cons_of_mem _ (List.mem_append_right _ h)) (by decide +kernel))
set_option maxRecDepth 20000 in
theorem gL_placeOf_X2_placeOf : GoodIn wsL_placeOf (wsV RL 50 RX2 yX2_placeOf wsX2_placeOf) := goodIn_app (goodIn_of _ (by decide +kernel)) ggL_placeOf_X2_placeOf
theorem dL_placeOf_0 : decode cL_placeOf 0 = .ok (.aload_n 2, 1) := by decide +kernel
theorem dL_placeOf_1 : decode cL_placeOf 1 = .ok (.iconst 0, 1) := by decide +kernel
theorem dL_placeOf_2 : decode cL_placeOf 2 = .ok (.aload_n 0, 1) := by decide +kernel
theorem dL_placeOf_3 : decode cL_placeOf 3 = .ok (.iload_n 1, 1) := by decide +kernel
theorem dL_placeOf_4 : decode cL_placeOf 4 = .ok (.invokevirtual 50, 3) := by decide +kernel
theorem dL_placeOf_7 : decode cL_placeOf 7 = .ok (.i2l, 1) := by decide +kernel
theorem dL_placeOf_8 : decode cL_placeOf 8 = .ok (.lastore, 1) := by decide +kernel
theorem dL_placeOf_9 : decode cL_placeOf 9 = .ok (.goto 6, 3) := by decide +kernel
theorem dL_placeOf_12 : decode cL_placeOf 12 = .ok (.astore_n 3, 1) := by decide +kernel
theorem dL_placeOf_13 : decode cL_placeOf 13 = .ok (.iconst 1, 1) := by decide +kernel
theorem dL_placeOf_14 : decode cL_placeOf 14 = .ok (.ireturn, 1) := by decide +kernel
theorem dL_placeOf_15 : decode cL_placeOf 15 = .ok (.iconst 0, 1) := by decide +kernel
theorem dL_placeOf_16 : decode cL_placeOf 16 = .ok (.ireturn, 1) := by decide +kernel
set_option maxRecDepth 20000 in
theorem ggL_turnOf_X2_turnOf : GoodIn wsL_turnOf wsX2_turnOf := goodIn_ca (goodIn_r _ [6, 7, 8, 9, 5, 10, 11, 12, 13, 14, 15, 16, 17, 18, 19, 20, 21, 22, 23, 24, 25, 26] (by decide +kernel) (by decide +kernel)) (goodIn_sub (fun _ h => List.mem_cons_of_mem _ (List.mem_append_right _ h)) (by decide +kernel))
set_option maxRecDepth 20000 in
theorem gL_turnOf_X2_turnOf : GoodIn wsL_turnOf (wsV RL 53 RX2 yX2_turnOf wsX2_turnOf) := goodIn_app (goodIn_of _ (by decide +kernel)) ggL_turnOf_X2_turnOf
theorem dL_turnOf_0 : decode cL_turnOf 0 = .ok (.aload_n 2, 1) := by decide +kernel
theorem dL_turnOf_1 : decode cL_turnOf 1 = .ok (.iconst 0, 1) := by decide +kernel
theorem dL_turnOf_2 : decode cL_turnOf 2 = .ok (.aload_n 0, 1) := by decide +kernel
theorem dL_turnOf_3 : decode cL_turnOf 3 = .ok (.iload_n 1, 1) := by decide +kernel
theorem dL_turnOf_4 : decode cL_turnOf 4 = .ok (.invokevirtual 53, 3) := by decide +kernel
theorem dL_turnOf_7 : decode cL_turnOf 7 = .ok (.i2l, 1) := by decide +kernel
theorem dL_turnOf_8 : decode cL_turnOf 8 = .ok (.lastore, 1) := by decide +kernel
theorem dL_turnOf_9 : decode cL_turnOf 9 = .ok (.goto 6, 3) := by decide +kernel
theorem dL_turnOf_12 : decode cL_turnOf 12 = .ok (.astore_n 3, 1) := by decide +kernel
theorem dL_turnOf_13 : decode cL_turnOf 13 = .ok (.iconst 1, 1) := by decide +kernel
theorem dL_turnOf_14 : decode cL_turnOf 14 = .ok (.ireturn, 1) := by decide +kernel
theorem dL_turnOf_15 : decode cL_turnOf 15 = .ok (.iconst 0, 1) := by decide +kernel
theorem dL_turnOf_16 : decode cL_turnOf 16 = .ok (.ireturn, 1) := by decide +kernel
set_option maxRecDepth 20000 in
theorem ggL_stamps_X2_stamps : GoodIn wsL_stamps wsX2_stamps := goodIn_ca (goodIn_r _ [6, 7, 8, 9, 5, 10, 11, 12, 13, 14, 15, 16, 17, 18, 19, 20, 21, 22, 23, 24, 25, 26] (by decide +kernel) (by decide +kernel)) (goodIn_sub (fun _ h => List.mem_cons_of_mem _ (List.mem_append_right _ h)) (by decide +kernel))
set_option maxRecDepth 20000 in
theorem gL_stamps_X2_stamps : GoodIn wsL_stamps (wsV RL 56 RX2 yX2_stamps wsX2_stamps) := goodIn_app (goodIn_of _ (by decide +kernel)) ggL_stamps_X2_stamps
theorem dL_stamps_0 : decode cL_stamps 0 = .ok (.aload_n 2, 1) := by decide +kernel
theorem dL_stamps_1 : decode cL_stamps 1 = .ok (.iconst 0, 1) := by decide +kernel
theorem dL_stamps_2 : decode cL_stamps 2 = .ok (.aload_n 0, 1) := by decide +kernel
theorem dL_stamps_3 : decode cL_stamps 3 = .ok (.iload_n 1, 1) := by decide +kernel
theorem dL_stamps_4 : decode cL_stamps 4 = .ok (.invokevirtual 56, 3) := by decide +kernel
theorem dL_stamps_7 : decode cL_stamps 7 = .ok (.i2l, 1) := by decide +kernel
theorem dL_stamps_8 : decode cL_stamps 8 = .ok (.lastore, 1) := by decide +kernel
theorem dL_stamps_9 : decode cL_stamps 9 = .ok (.goto 6, 3) := by decide +kernel
theorem dL_stamps_12 : decode cL_stamps 12 = .ok (.astore_n 3, 1) := by decide +kernel
theorem dL_stamps_13 : decode cL_stamps 13 = .ok (.iconst 1, 1) := by decide +kernel
theorem dL_stamps_14 : decode cL_stamps 14 = .ok (.ireturn, 1) := by decide +kernel
theorem dL_stamps_15 : decode cL_stamps 15 = .ok (.iconst 0, 1) := by decide +kernel
theorem dL_stamps_16 : decode cL_stamps 16 = .ok (.ireturn, 1) := by decide +kernel
set_option maxRecDepth 20000 in
theorem ggL_queue_X2_queue : GoodIn wsL_queue wsX2_queue := goodIn_ca (goodIn_r _ [6, 7, 8, 9, 5, 10, 11, 12, 13, 14, 15, 16, 17, 18, 19, 20, 21, 22, 23, 24, 25, 26, 27, 28, 29, 30, 31, 32, 33, 34, 35, 36, 37, 38, 39, 40, 41] (by decide +kernel) (by decide +kernel)) (goodIn_sub (fun _ h => List.mem_cons_of_mem _ (List.mem_append_right _ h)) (by decide +kernel))
set_option maxRecDepth 20000 in
theorem gL_queue_X2_queue : GoodIn wsL_queue (wsV RL 59 RX2 yX2_queue wsX2_queue) := goodIn_app (goodIn_of _ (by decide +kernel)) ggL_queue_X2_queue
theorem dL_queue_0 : decode cL_queue 0 = .ok (.aload_n 2, 1) := by decide +kernel
theorem dL_queue_1 : decode cL_queue 1 = .ok (.iconst 0, 1) := by decide +kernel
theorem dL_queue_2 : decode cL_queue 2 = .ok (.aload_n 0, 1) := by decide +kernel
theorem dL_queue_3 : decode cL_queue 3 = .ok (.iload_n 1, 1) := by decide +kernel
theorem dL_queue_4 : decode cL_queue 4 = .ok (.invokevirtual 59, 3) := by decide +kernel
theorem dL_queue_7 : decode cL_queue 7 = .ok (.i2l, 1) := by decide +kernel
theorem dL_queue_8 : decode cL_queue 8 = .ok (.lastore, 1) := by decide +kernel
theorem dL_queue_9 : decode cL_queue 9 = .ok (.goto 6, 3) := by decide +kernel
theorem dL_queue_12 : decode cL_queue 12 = .ok (.astore_n 3, 1) := by decide +kernel
theorem dL_queue_13 : decode cL_queue 13 = .ok (.iconst 1, 1) := by decide +kernel
theorem dL_queue_14 : decode cL_queue 14 = .ok (.ireturn, 1) := by decide +kernel
theorem dL_queue_15 : decode cL_queue 15 = .ok (.iconst 0, 1) := by decide +kernel
theorem dL_queue_16 : decode cL_queue 16 = .ok (.ireturn, 1) := by decide +kernel
set_option maxRecDepth 20000 in
theorem ggL_inside_X2_inside : GoodIn wsL_inside wsX2_inside := goodIn_ca (goodIn_r _ [6, 7, 8, 9, 5, 10, 11, 12, 13, 14, 15, 16, 17, 18, 19, 20, 21, 22, 23, 24, 25, 26, 27, 28, 29, 30, 31, 32, 33, 34, 35, 36, 37, 38, 39, 40, 41] (by decide +kernel) (by decide +kernel)) (goodIn_sub (fun _ h => List.mem_cons_of_mem _ (List.mem_append_right _ h)) (by decide +kernel))
set_option maxRecDepth 20000 in
theorem gL_inside_X2_inside : GoodIn wsL_inside (wsV RL 62 RX2 yX2_inside wsX2_inside) := goodIn_app (goodIn_of _ (by decide +kernel)) ggL_inside_X2_inside
theorem dL_inside_0 : decode cL_inside 0 = .ok (.aload_n 2, 1) := by decide +kernel
theorem dL_inside_1 : decode cL_inside 1 = .ok (.iconst 0, 1) := by decide +kernel
theorem dL_inside_2 : decode cL_inside 2 = .ok (.aload_n 0, 1) := by decide +kernel
theorem dL_inside_3 : decode cL_inside 3 = .ok (.iload_n 1, 1) := by decide +kernel
theorem dL_inside_4 : decode cL_inside 4 = .ok (.invokevirtual 62, 3) := by decide +kernel
theorem dL_inside_7 : decode cL_inside 7 = .ok (.i2l, 1) := by decide +kernel
theorem dL_inside_8 : decode cL_inside 8 = .ok (.lastore, 1) := by decide +kernel
theorem dL_inside_9 : decode cL_inside 9 = .ok (.goto 6, 3) := by decide +kernel
theorem dL_inside_12 : decode cL_inside 12 = .ok (.astore_n 3, 1) := by decide +kernel
theorem dL_inside_13 : decode cL_inside 13 = .ok (.iconst 1, 1) := by decide +kernel
theorem dL_inside_14 : decode cL_inside 14 = .ok (.ireturn, 1) := by decide +kernel
theorem dL_inside_15 : decode cL_inside 15 = .ok (.iconst 0, 1) := by decide +kernel
theorem dL_inside_16 : decode cL_inside 16 = .ok (.ireturn, 1) := by decide +kernel
set_option maxRecDepth 20000 in
theorem ggL_stock_X2_stock : GoodIn wsL_stock wsX2_stock := goodIn_ca (goodIn_r _ [6, 7, 8, 9, 5, 10, 11, 12, 13, 14, 15, 16, 17, 18, 19, 20, 21, 22] (by decide +kernel) (by decide +kernel)) (goodIn_sub (fun _ h => List.mem_cons_of_mem _ (List.mem_append_right _ h)) (by decide +kernel))
set_option maxRecDepth 20000 in
theorem gL_stock_X2_stock : GoodIn wsL_stock (wsV RL 65 RX2 yX2_stock wsX2_stock) := goodIn_app (goodIn_of _ (by decide +kernel)) ggL_stock_X2_stock
theorem dL_stock_0 : decode cL_stock 0 = .ok (.aload_n 2, 1) := by decide +kernel
theorem dL_stock_1 : decode cL_stock 1 = .ok (.iconst 0, 1) := by decide +kernel
theorem dL_stock_2 : decode cL_stock 2 = .ok (.aload_n 0, 1) := by decide +kernel
theorem dL_stock_3 : decode cL_stock 3 = .ok (.iload_n 1, 1) := by decide +kernel
theorem dL_stock_4 : decode cL_stock 4 = .ok (.invokevirtual 65, 3) := by decide +kernel
theorem dL_stock_7 : decode cL_stock 7 = .ok (.i2l, 1) := by decide +kernel
theorem dL_stock_8 : decode cL_stock 8 = .ok (.lastore, 1) := by decide +kernel
theorem dL_stock_9 : decode cL_stock 9 = .ok (.goto 6, 3) := by decide +kernel
theorem dL_stock_12 : decode cL_stock 12 = .ok (.astore_n 3, 1) := by decide +kernel
theorem dL_stock_13 : decode cL_stock 13 = .ok (.iconst 1, 1) := by decide +kernel
theorem dL_stock_14 : decode cL_stock 14 = .ok (.ireturn, 1) := by decide +kernel
theorem dL_stock_15 : decode cL_stock 15 = .ok (.iconst 0, 1) := by decide +kernel
theorem dL_stock_16 : decode cL_stock 16 = .ok (.ireturn, 1) := by decide +kernel
set_option maxRecDepth 20000 in
theorem ggL_demand_X2_demand : GoodIn wsL_demand wsX2_demand := goodIn_ca (goodIn_r _ [6, 7, 8, 9, 5, 10, 11, 12, 13, 14, 15, 16, 17, 18, 19, 20, 21, 22] (by decide +kernel) (by decide +kernel)) (goodIn_sub (fun _ h => List.mem_cons_of_mem _ (List.mem_append_right _ h)) (by decide +kernel))
set_option maxRecDepth 20000 in
theorem gL_demand_X2_demand : GoodIn wsL_demand (wsV RL 68 RX2 yX2_demand wsX2_demand) := goodIn_app (goodIn_of _ (by decide +kernel)) ggL_demand_X2_demand
theorem dL_demand_0 : decode cL_demand 0 = .ok (.aload_n 2, 1) := by decide +kernel
theorem dL_demand_1 : decode cL_demand 1 = .ok (.iconst 0, 1) := by decide +kernel
theorem dL_demand_2 : decode cL_demand 2 = .ok (.aload_n 0, 1) := by decide +kernel
theorem dL_demand_3 : decode cL_demand 3 = .ok (.iload_n 1, 1) := by decide +kernel
theorem dL_demand_4 : decode cL_demand 4 = .ok (.invokevirtual 68, 3) := by decide +kernel
theorem dL_demand_7 : decode cL_demand 7 = .ok (.i2l, 1) := by decide +kernel
theorem dL_demand_8 : decode cL_demand 8 = .ok (.lastore, 1) := by decide +kernel
theorem dL_demand_9 : decode cL_demand 9 = .ok (.goto 6, 3) := by decide +kernel
theorem dL_demand_12 : decode cL_demand 12 = .ok (.astore_n 3, 1) := by decide +kernel
theorem dL_demand_13 : decode cL_demand 13 = .ok (.iconst 1, 1) := by decide +kernel
theorem dL_demand_14 : decode cL_demand 14 = .ok (.ireturn, 1) := by decide +kernel
theorem dL_demand_15 : decode cL_demand 15 = .ok (.iconst 0, 1) := by decide +kernel
theorem dL_demand_16 : decode cL_demand 16 = .ok (.ireturn, 1) := by decide +kernel
set_option maxRecDepth 20000 in
theorem ggL_sent_X2_sent : GoodIn wsL_sent wsX2_sent := goodIn_ca (goodIn_r _ [6, 7, 8, 9, 5, 10, 11, 12, 13, 14, 15, 16, 17, 18, 19, 20, 21, 22, 23, 24, 25, 26, 27, 28, 29, 30, 31, 32, 33, 34, 35, 36, 37] (by decide +kernel) (by decide +kernel)) (goodIn_sub (fun _ h => List.mem_cons_of_mem _ (List.mem_append_right _ h)) (by decide +kernel))
set_option maxRecDepth 20000 in
theorem gL_sent_X2_sent : GoodIn wsL_sent (wsV RL 71 RX2 yX2_sent wsX2_sent) := goodIn_app (goodIn_of _ (by decide +kernel)) ggL_sent_X2_sent
theorem dL_sent_0 : decode cL_sent 0 = .ok (.aload_n 3, 1) := by decide +kernel
theorem dL_sent_1 : decode cL_sent 1 = .ok (.iconst 0, 1) := by decide +kernel
theorem dL_sent_2 : decode cL_sent 2 = .ok (.aload_n 0, 1) := by decide +kernel
theorem dL_sent_3 : decode cL_sent 3 = .ok (.iload_n 1, 1) := by decide +kernel
theorem dL_sent_4 : decode cL_sent 4 = .ok (.iload_n 2, 1) := by decide +kernel
theorem dL_sent_5 : decode cL_sent 5 = .ok (.invokevirtual 71, 3) := by decide +kernel
theorem dL_sent_8 : decode cL_sent 8 = .ok (.i2l, 1) := by decide +kernel
theorem dL_sent_9 : decode cL_sent 9 = .ok (.lastore, 1) := by decide +kernel
theorem dL_sent_10 : decode cL_sent 10 = .ok (.goto 7, 3) := by decide +kernel
theorem dL_sent_13 : decode cL_sent 13 = .ok (.astore 4, 2) := by decide +kernel
theorem dL_sent_15 : decode cL_sent 15 = .ok (.iconst 1, 1) := by decide +kernel
theorem dL_sent_16 : decode cL_sent 16 = .ok (.ireturn, 1) := by decide +kernel
theorem dL_sent_17 : decode cL_sent 17 = .ok (.iconst 0, 1) := by decide +kernel
theorem dL_sent_18 : decode cL_sent 18 = .ok (.ireturn, 1) := by decide +kernel
set_option maxRecDepth 20000 in
theorem ggL_law_X2_init : GoodIn wsL_law wsX2_init := goodIn_r _ [9, 10, 11, 12, 13, 14, 15, 16, 17, 18, 19, 20, 21, 22, 23, 24, 25, 26, 27, 28, 29, 30, 31, 32, 33, 34, 35, 36, 37, 38, 39, 40, 41, 42, 43, 44, 45, 46, 47, 48, 49, 50, 51, 52, 53, 54, 55, 56, 57, 58, 59, 60, 61, 62, 536, 537, 538, 558, 559, 560, 561, 562, 563, 564, 565, 566, 567, 568, 569, 570, 571, 572, 573, 574, 575, 576] (by decide +kernel) (by decide +kernel)
set_option maxRecDepth 20000 in
theorem gL_law_X2_init : GoodIn wsL_law (wsX2_init) := ggL_law_X2_init
set_option maxRecDepth 20000 in
theorem ggL_law_X3_init : GoodIn wsL_law wsX3_init := goodIn_r _ [65, 66, 11, 12, 38, 67, 68, 69, 70, 71, 72, 73, 74, 75, 76, 77, 78, 79, 80, 81, 82, 83, 84, 539, 540, 541, 542, 543, 544, 545, 546, 547, 548, 549, 550, 551, 552, 553, 554, 555, 556, 557] (by decide +kernel) (by decide +kernel)
set_option maxRecDepth 20000 in
theorem gL_law_X3_init : GoodIn wsL_law (wsX3_init) := ggL_law_X3_init
set_option maxRecDepth 20000 in
theorem ggL_law_L_setPavilion : GoodIn wsL_law wsL_setPavilion := goodIn_ca (goodIn_ca (goodIn_r _ [88, 89, 90, 91, 92, 93, 2, 94, 95, 96, 97, 98, 99, 100, 101, 102, 14, 558, 559, 560, 561, 562, 563, 536, 537, 538] (by decide +kernel) (by decide +kernel)) (goodIn_sub (fun _ h => List.mem_append_left _ (List.mem_append_left _ (List.mem_append_right _ h))) (by decide +kernel))) (goodIn_sub (fun _ h => List.mem_append_left _ (List.mem_append_right _ h)) (by decide +kernel))
set_option maxRecDepth 20000 in
theorem gL_law_L_setPavilion : GoodIn wsL_law (va_wsS RL 78 yL_setPavilion wsL_setPavilion) := goodIn_app (goodIn_of _ (by decide +kernel)) ggL_law_L_setPavilion
set_option maxRecDepth 20000 in
theorem ggL_law_X3_setPavilion : GoodIn wsL_law wsX3_setPavilion := goodIn_r _ [106, 67, 68, 107, 108, 5, 109, 110, 111, 112, 113, 114, 539, 540, 541, 542, 543, 544, 545, 546, 547, 548, 549, 550, 551, 552, 553, 554, 555, 556, 557] (by decide +kernel) (by decide +kernel)
set_option maxRecDepth 20000 in
theorem gL_law_X3_setPavilion : GoodIn wsL_law (wsV RL 83 RX3 yX3_setPavilion wsX3_setPavilion) := goodIn_app (goodIn_of _ (by decide +kernel)) ggL_law_X3_setPavilion
set_option maxRecDepth 20000 in
theorem ggL_law_X3_thrown : GoodIn wsL_law wsX3_thrown := goodIn_r _ [118, 114, 539, 540, 541, 542, 543, 544, 545, 546, 547, 548, 549, 550, 551, 552, 553, 554, 555, 556, 557] (by decide +kernel) (by decide +kernel)
set_option maxRecDepth 20000 in
theorem gL_law_X3_thrown : GoodIn wsL_law (wsV RL 84 RX3 yX3_thrown wsX3_thrown) := goodIn_app (goodIn_of _ (by decide +kernel)) ggL_law_X3_thrown
set_option maxRecDepth 20000 in
theorem ggL_law_L_open : GoodIn wsL_law wsL_open := goodIn_ca (goodIn_r _ [121, 89, 122, 123, 124, 2, 125, 97, 98, 99, 100, 101, 102, 14, 126, 127, 128, 129, 16, 130, 131, 132, 133, 134, 135, 136, 137, 138, 139, 140, 141, 142, 143, 144, 145, 558, 559, 560, 561, 562, 563, 536, 537, 538, 564, 565, 566, 567, 568, 569, 570, 571, 572, 573] (by decide +kernel) (by decide +kernel)) (goodIn_sub (fun _ h => List.mem_append_left _ (List.mem_append_right _ h)) (by decide +kernel))
set_option maxRecDepth 20000 in
theorem gL_law_L_open : GoodIn wsL_law (va_wsS RL 88 yL_open wsL_open) := goodIn_app (goodIn_of _ (by decide +kernel)) ggL_law_L_open
set_option maxRecDepth 20000 in
theorem ggL_law_X3_open : GoodIn wsL_law wsX3_open := goodIn_r _ [149, 70, 72, 71, 81, 107, 108, 5, 109, 110, 111, 112, 113, 114, 150, 151, 152, 153, 76, 75, 154, 155, 156, 157, 158, 159, 160, 161, 79, 539, 540, 541, 542, 543, 544, 545, 546, 547, 548, 549, 550, 551, 552, 553, 554, 555, 556, 557] (by decide +kernel) (by decide +kernel)
set_option maxRecDepth 20000 in
theorem gL_law_X3_open : GoodIn wsL_law (wsV RL 91 RX3 yX3_open wsX3_open) := goodIn_app (goodIn_of _ (by decide +kernel)) ggL_law_X3_open
set_option maxRecDepth 20000 in
theorem ggL_law_L_plan : GoodIn wsL_law wsL_plan := goodIn_ca (goodIn_ca (goodIn_r _ [164, 89, 165, 166, 167, 168, 2, 169, 170, 171, 172, 173, 174, 175, 101, 102, 16, 97, 98, 99, 100, 14, 176, 177, 178, 179, 180, 181, 182, 36, 183, 184, 185, 186, 187, 188, 189, 190, 191, 192, 193, 194, 195, 196, 197, 198, 199, 200, 52, 201, 202, 203, 204, 205, 206, 207, 208, 209, 210, 211, 212, 213, 214, 215, 216, 217, 218, 51, 219, 220, 221, 222, 223, 224, 225, 226, 227, 228, 229, 230, 231, 232, 233, 234, 235, 236, 237, 238, 239, 240, 241, 242, 243, 244, 245, 246, 247, 248, 249, 250, 251, 252, 564, 565, 566, 567, 568, 569, 570, 571, 572, 573, 536, 537, 538, 574, 575, 576] (by decide +kernel) (by decide +kernel)) (goodIn_sub (fun _ h => List.mem_append_right _ h) (by decide +kernel))) (goodIn_sub (fun _ h => List.mem_append_left _ (List.mem_append_right _ h)) (by decide +kernel))
set_option maxRecDepth 20000 in
theorem gL_law_L_plan : GoodIn wsL_law (va_wsS RL 92 yL_plan wsL_plan) := goodIn_app (goodIn_of _ (by decide +kernel)) ggL_law_L_plan
set_option maxRecDepth 20000 in
theorem ggL_law_X3_plan : GoodIn wsL_law wsX3_plan := goodIn_r _ [256, 73, 74, 257, 258, 5, 259, 107, 108, 109, 260, 261, 262, 263, 110, 111, 112, 113, 114, 539, 540, 541, 542, 543, 544, 545, 546, 547, 548, 549, 550, 551, 552, 553, 554, 555, 556, 557] (by decide +kernel) (by decide +kernel)
set_option maxRecDepth 20000 in
theorem gL_law_X3_plan : GoodIn wsL_law (wsV RL 95 RX3 yX3_plan wsX3_plan) := goodIn_app (goodIn_of _ (by decide +kernel)) ggL_law_X3_plan
set_option maxRecDepth 20000 in
theorem ggL_law_L_drop : GoodIn wsL_law wsL_drop := goodIn_ca (goodIn_ca (goodIn_r _ [266, 89, 165, 267, 268, 269, 2, 270, 170, 171, 172, 173, 174, 175, 101, 102, 16, 97, 98, 99, 100, 14, 176, 177, 178, 179, 180, 181, 182, 36, 183, 184, 185, 186, 187, 188, 189, 190, 191, 192, 193, 194, 195, 196, 197, 198, 199, 200, 52, 271, 272, 273, 274, 275, 276, 277, 278, 205, 206, 279, 250, 251, 252, 130, 131, 132, 133, 134, 135, 136, 137, 138, 139, 140, 141, 142, 143, 144, 145, 564, 565, 566, 567, 568, 569, 570, 571, 572, 573, 536, 537, 538, 574, 575, 576, 558, 559, 560, 561, 562, 563] (by decide +kernel) (by decide +kernel)) (goodIn_sub (fun _ h => List.mem_append_right _ h) (by decide +kernel))) (goodIn_sub (fun _ h => List.mem_append_left _ (List.mem_append_right _ h)) (by decide +kernel))
set_option maxRecDepth 20000 in
theorem gL_law_L_drop : GoodIn wsL_law (va_wsS RL 96 yL_drop wsL_drop) := goodIn_app (goodIn_of _ (by decide +kernel)) ggL_law_L_drop
set_option maxRecDepth 20000 in
theorem ggL_law_X3_drop : GoodIn wsL_law wsX3_drop := goodIn_r _ [283, 74, 73, 75, 76, 81, 257, 258, 5, 259, 107, 108, 109, 260, 261, 262, 263, 110, 111, 112, 113, 114, 150, 151, 152, 153, 72, 71, 154, 155, 156, 157, 539, 540, 541, 542, 543, 544, 545, 546, 547, 548, 549, 550, 551, 552, 553, 554, 555, 556, 557] (by decide +kernel) (by decide +kernel)
set_option maxRecDepth 20000 in
theorem gL_law_X3_drop : GoodIn wsL_law (wsV RL 98 RX3 yX3_drop wsX3_drop) := goodIn_app (goodIn_of _ (by decide +kernel)) ggL_law_X3_drop
set_option maxRecDepth 20000 in
theorem ggL_law_L_ask : GoodIn wsL_law wsL_ask := goodIn_ca (goodIn_ca (goodIn_r _ [286, 89, 165, 287, 288, 289, 2, 290, 170, 171, 172, 173, 174, 175, 101, 102, 16, 97, 98, 99, 100, 14, 291, 292, 293, 294, 17, 295, 296, 297, 298, 564, 565, 566, 567, 568, 569, 570, 571, 572, 573, 558, 559, 560, 561, 562, 563, 536, 537, 538] (by decide +kernel) (by decide +kernel)) (goodIn_sub (fun _ h => List.mem_append_right _ h) (by decide +kernel))) (goodIn_sub (fun _ h => List.mem_append_left _ (List.mem_append_right _ h)) (by decide +kernel))
set_option maxRecDepth 20000 in
theorem gL_law_L_ask : GoodIn wsL_law (va_wsS RL 99 yL_ask wsL_ask) := goodIn_app (goodIn_of _ (by decide +kernel)) ggL_law_L_ask
set_option maxRecDepth 20000 in
theorem ggL_law_X3_ask : GoodIn wsL_law wsX3_ask := goodIn_r _ [302, 79, 70, 303, 80, 81, 257, 258, 5, 259, 107, 108, 109, 110, 111, 112, 113, 114, 539, 540, 541, 542, 543, 544, 545, 546, 547, 548, 549, 550, 551, 552, 553, 554, 555, 556, 557] (by decide +kernel) (by decide +kernel)
set_option maxRecDepth 20000 in
theorem gL_law_X3_ask : GoodIn wsL_law (wsV RL 101 RX3 yX3_ask wsX3_ask) := goodIn_app (goodIn_of _ (by decide +kernel)) ggL_law_X3_ask
set_option maxRecDepth 20000 in
theorem ggL_law_L_advance : GoodIn wsL_law wsL_advance := goodIn_ca (goodIn_ca (goodIn_r _ [306, 90, 165, 307, 308, 309, 2, 310, 95, 96, 170, 171, 17, 311, 312, 313, 314, 315, 316, 317, 318, 16, 142, 143, 144, 145, 319, 320, 321, 322, 323, 324, 325, 326, 138, 139, 140, 141, 134, 135, 136, 137, 327, 328, 329, 330, 130, 131, 132, 133, 331, 332, 333, 334, 335, 336, 337, 338, 339, 340, 341, 342, 343, 180, 181, 182, 36, 183, 184, 185, 186, 187, 188, 189, 190, 191, 192, 193, 194, 195, 196, 197, 198, 199, 200, 52, 344, 345, 346, 347, 348, 349, 350, 351, 352, 353, 354, 355, 14, 356, 357, 358, 359, 360, 361, 362, 363, 364, 365, 366, 367, 536, 537, 538, 564, 565, 566, 567, 568, 569, 570, 571, 572, 573, 558, 559, 560, 561, 562, 563, 574, 575, 576] (by decide +kernel) (by decide +kernel)) (goodIn_sub (fun _ h => List.mem_append_left _ (List.mem_append_left _ (List.mem_append_right _ h))) (by decide +kernel))) (goodIn_sub (fun _ h => List.mem_append_right _ h) (by decide +kernel))
set_option maxRecDepth 20000 in
theorem gL_law_L_advance : GoodIn wsL_law (va_wsS RL 102 yL_advance wsL_advance) := goodIn_app (goodIn_of _ (by decide +kernel)) ggL_law_L_advance
set_option maxRecDepth 20000 in
theorem ggL_law_X3_advance : GoodIn wsL_law wsX3_advance := goodIn_r _ [371, 303, 110, 111, 112, 5, 113, 114, 372, 373, 374, 375, 75, 77, 78, 76, 376, 377, 378, 379, 79, 81, 80, 70, 72, 71, 158, 159, 160, 161, 150, 151, 152, 153, 154, 155, 156, 157, 380, 381, 382, 383, 384, 385, 386, 387, 74, 73, 388, 389, 390, 391, 67, 68, 392, 393, 394, 395, 539, 540, 541, 542, 543, 544, 545, 546, 547, 548, 549, 550, 551, 552, 553, 554, 555, 556, 557] (by decide +kernel) (by decide +kernel)
set_option maxRecDepth 20000 in
theorem gL_law_X3_advance : GoodIn wsL_law (wsV RL 105 RX3 yX3_advance wsX3_advance) := goodIn_app (goodIn_of _ (by decide +kernel)) ggL_law_X3_advance
set_option maxRecDepth 20000 in
theorem ggL_law_L_send : GoodIn wsL_law wsL_send := goodIn_ca (goodIn_ca (goodIn_r _ [398, 89, 165, 399, 400, 401, 2, 402, 170, 171, 172, 173, 174, 175, 101, 102, 16, 97, 98, 99, 100, 14, 344, 345, 346, 347, 558, 559, 560, 561, 562, 563, 564, 565, 566, 567, 568, 569, 570, 571, 572, 573, 536, 537, 538] (by decide +kernel) (by decide +kernel)) (goodIn_sub (fun _ h => List.mem_append_right _ h) (by decide +kernel))) (goodIn_sub (fun _ h => List.mem_append_left _ (List.mem_append_right _ h)) (by decide +kernel))
set_option maxRecDepth 20000 in
theorem gL_law_L_send : GoodIn wsL_law (va_wsS RL 106 yL_send wsL_send) := goodIn_app (goodIn_of _ (by decide +kernel)) ggL_law_L_send
set_option maxRecDepth 20000 in
theorem ggL_law_X3_send : GoodIn wsL_law wsX3_send := goodIn_r _ [406, 78, 82, 83, 84, 257, 258, 5, 259, 107, 108, 109, 110, 111, 112, 113, 114, 539, 540, 541, 542, 543, 544, 545, 546, 547, 548, 549, 550, 551, 552, 553, 554, 555, 556, 557] (by decide +kernel) (by decide +kernel)
set_option maxRecDepth 20000 in
theorem gL_law_X3_send : GoodIn wsL_law (wsV RL 108 RX3 yX3_send wsX3_send) := goodIn_app (goodIn_of _ (by decide +kernel)) ggL_law_X3_send
set_option maxRecDepth 20000 in
theorem ggL_law_L_reprint : GoodIn wsL_law wsL_reprint := goodIn_ca (goodIn_r _ [409, 90, 410, 411, 412, 2, 413, 95, 96, 14, 536, 537, 538, 558, 559, 560, 561, 562, 563] (by decide +kernel) (by decide +kernel)) (goodIn_sub (fun _ h => List.mem_append_left _ (List.mem_append_left _ (List.mem_append_right _ h))) (by decide +kernel))
set_option maxRecDepth 20000 in
theorem gL_law_L_reprint : GoodIn wsL_law (va_wsS RL 109 yL_reprint wsL_reprint) := goodIn_app (goodIn_of _ (by decide +kernel)) ggL_law_L_reprint
set_option maxRecDepth 20000 in
theorem ggL_law_X3_reprint : GoodIn wsL_law wsX3_reprint := goodIn_r _ [417, 83, 82, 110, 111, 112, 5, 113, 114, 539, 540, 541, 542, 543, 544, 545, 546, 547, 548, 549, 550, 551, 552, 553, 554, 555, 556, 557] (by decide +kernel) (by decide +kernel)
set_option maxRecDepth 20000 in
theorem gL_law_X3_reprint : GoodIn wsL_law (wsV RL 111 RX3 yX3_reprint wsX3_reprint) := goodIn_app (goodIn_of _ (by decide +kernel)) ggL_law_X3_reprint
set_option maxRecDepth 20000 in
theorem ggL_law_X2_minute : GoodIn wsL_law wsX2_minute := goodIn_r _ [421, 17, 536, 537, 538] (by decide +kernel) (by decide +kernel)
set_option maxRecDepth 20000 in
theorem gL_law_X2_minute : GoodIn wsL_law (wsV RL 112 RX2 yX2_minute wsX2_minute) := goodIn_app (goodIn_of _ (by decide +kernel)) ggL_law_X2_minute
set_option maxRecDepth 20000 in
theorem ggL_law_X3_minute : GoodIn wsL_law wsX3_minute := goodIn_r _ [425, 114, 303, 539, 540, 541, 542, 543, 544, 545, 546, 547, 548, 549, 550, 551, 552, 553, 554, 555, 556, 557] (by decide +kernel) (by decide +kernel)
set_option maxRecDepth 20000 in
theorem gL_law_X3_minute : GoodIn wsL_law (wsV RL 115 RX3 yX3_minute wsX3_minute) := goodIn_app (goodIn_of _ (by decide +kernel)) ggL_law_X3_minute
set_option maxRecDepth 20000 in
theorem ggL_law_L_stateOf : GoodIn wsL_law wsL_stateOf := goodIn_ca (goodIn_r _ [428, 89, 429, 430, 431, 2, 432, 172, 173, 174, 175, 101, 102, 16, 564, 565, 566, 567, 568, 569, 570, 571, 572, 573, 536, 537, 538] (by decide +kernel) (by decide +kernel)) (goodIn_sub (fun _ h => List.mem_append_left _ (List.mem_append_right _ h)) (by decide +kernel))
set_option maxRecDepth 20000 in
theorem gL_law_L_stateOf : GoodIn wsL_law (va_wsS RL 116 yL_stateOf wsL_stateOf) := goodIn_app (goodIn_of _ (by decide +kernel)) ggL_law_L_stateOf
set_option maxRecDepth 20000 in
theorem ggL_law_X3_stateOf : GoodIn wsL_law wsX3_stateOf := goodIn_r _ [436, 75, 257, 258, 5, 259, 110, 111, 112, 113, 114, 539, 540, 541, 542, 543, 544, 545, 546, 547, 548, 549, 550, 551, 552, 553, 554, 555, 556, 557] (by decide +kernel) (by decide +kernel)
set_option maxRecDepth 20000 in
theorem gL_law_X3_stateOf : GoodIn wsL_law (wsV RL 118 RX3 yX3_stateOf wsX3_stateOf) := goodIn_app (goodIn_of _ (by decide +kernel)) ggL_law_X3_stateOf
set_option maxRecDepth 20000 in
theorem ggL_law_L_whereIs : GoodIn wsL_law wsL_whereIs := goodIn_ca (goodIn_r _ [439, 89, 440, 441, 442, 2, 443, 172, 173, 174, 175, 101, 102, 16, 564, 565, 566, 567, 568, 569, 570, 571, 572, 573, 536, 537, 538] (by decide +kernel) (by decide +kernel)) (goodIn_sub (fun _ h => List.mem_append_left _ (List.mem_append_right _ h)) (by decide +kernel))
set_option maxRecDepth 20000 in
theorem gL_law_L_whereIs : GoodIn wsL_law (va_wsS RL 119 yL_whereIs wsL_whereIs) := goodIn_app (goodIn_of _ (by decide +kernel)) ggL_law_L_whereIs
set_option maxRecDepth 20000 in
theorem ggL_law_X3_whereIs : GoodIn wsL_law wsX3_whereIs := goodIn_r _ [447, 76, 257, 258, 5, 259, 110, 111, 112, 113, 114, 539, 540, 541, 542, 543, 544, 545, 546, 547, 548, 549, 550, 551, 552, 553, 554, 555, 556, 557] (by decide +kernel) (by decide +kernel)
set_option maxRecDepth 20000 in
theorem gL_law_X3_whereIs : GoodIn wsL_law (wsV RL 121 RX3 yX3_whereIs wsX3_whereIs) := goodIn_app (goodIn_of _ (by decide +kernel)) ggL_law_X3_whereIs
set_option maxRecDepth 20000 in
theorem ggL_law_L_placeOf : GoodIn wsL_law wsL_placeOf := goodIn_ca (goodIn_r _ [450, 89, 451, 452, 453, 2, 454, 172, 173, 174, 175, 101, 102, 16, 564, 565, 566, 567, 568, 569, 570, 571, 572, 573, 536, 537, 538] (by decide +kernel) (by decide +kernel)) (goodIn_sub (fun _ h => List.mem_append_left _ (List.mem_append_right _ h)) (by decide +kernel))
set_option maxRecDepth 20000 in
theorem gL_law_L_placeOf : GoodIn wsL_law (va_wsS RL 122 yL_placeOf wsL_placeOf) := goodIn_app (goodIn_of _ (by decide +kernel)) ggL_law_L_placeOf
set_option maxRecDepth 20000 in
theorem ggL_law_X3_placeOf : GoodIn wsL_law wsX3_placeOf := goodIn_r _ [458, 75, 76, 257, 258, 5, 259, 110, 111, 112, 113, 114, 154, 155, 156, 157, 72, 71, 539, 540, 541, 542, 543, 544, 545, 546, 547, 548, 549, 550, 551, 552, 553, 554, 555, 556, 557] (by decide +kernel) (by decide +kernel)
set_option maxRecDepth 20000 in
theorem gL_law_X3_placeOf : GoodIn wsL_law (wsV RL 124 RX3 yX3_placeOf wsX3_placeOf) := goodIn_app (goodIn_of _ (by decide +kernel)) ggL_law_X3_placeOf
set_option maxRecDepth 20000 in
theorem ggL_law_L_turnOf : GoodIn wsL_law wsL_turnOf := goodIn_ca (goodIn_r _ [461, 89, 462, 463, 464, 2, 465, 172, 173, 174, 175, 101, 102, 16, 564, 565, 566, 567, 568, 569, 570, 571, 572, 573, 536, 537, 538] (by decide +kernel) (by decide +kernel)) (goodIn_sub (fun _ h => List.mem_append_left _ (List.mem_append_right _ h)) (by decide +kernel))
set_option maxRecDepth 20000 in
theorem gL_law_L_turnOf : GoodIn wsL_law (va_wsS RL 125 yL_turnOf wsL_turnOf) := goodIn_app (goodIn_of _ (by decide +kernel)) ggL_law_L_turnOf
set_option maxRecDepth 20000 in
theorem ggL_law_X3_turnOf : GoodIn wsL_law wsX3_turnOf := goodIn_r _ [469, 79, 257, 258, 5, 259, 110, 111, 112, 113, 114, 539, 540, 541, 542, 543, 544, 545, 546, 547, 548, 549, 550, 551, 552, 553, 554, 555, 556, 557] (by decide +kernel) (by decide +kernel)
set_option maxRecDepth 20000 in
theorem gL_law_X3_turnOf : GoodIn wsL_law (wsV RL 127 RX3 yX3_turnOf wsX3_turnOf) := goodIn_app (goodIn_of _ (by decide +kernel)) ggL_law_X3_turnOf
set_option maxRecDepth 20000 in
theorem ggL_law_L_stamps : GoodIn wsL_law wsL_stamps := goodIn_ca (goodIn_r _ [472, 89, 473, 474, 475, 2, 476, 172, 173, 174, 175, 101, 102, 16, 564, 565, 566, 567, 568, 569, 570, 571, 572, 573, 536, 537, 538] (by decide +kernel) (by decide +kernel)) (goodIn_sub (fun _ h => List.mem_append_left _ (List.mem_append_right _ h)) (by decide +kernel))
set_option maxRecDepth 20000 in
theorem gL_law_L_stamps : GoodIn wsL_law (va_wsS RL 128 yL_stamps wsL_stamps) := goodIn_app (goodIn_of _ (by decide +kernel)) ggL_law_L_stamps
set_option maxRecDepth 20000 in
theorem ggL_law_X3_stamps : GoodIn wsL_law wsX3_stamps := goodIn_r _ [480, 78, 257, 258, 5, 259, 110, 111, 112, 113, 114, 539, 540, 541, 542, 543, 544, 545, 546, 547, 548, 549, 550, 551, 552, 553, 554, 555, 556, 557] (by decide +kernel) (by decide +kernel)
set_option maxRecDepth 20000 in
theorem gL_law_X3_stamps : GoodIn wsL_law (wsV RL 130 RX3 yX3_stamps wsX3_stamps) := goodIn_app (goodIn_of _ (by decide +kernel)) ggL_law_X3_stamps
set_option maxRecDepth 20000 in
theorem ggL_law_L_queue : GoodIn wsL_law wsL_queue := goodIn_ca (goodIn_r _ [483, 89, 484, 485, 486, 2, 487, 97, 98, 99, 100, 101, 102, 14, 348, 349, 350, 351, 16, 130, 131, 132, 133, 536, 537, 538, 564, 565, 566, 567, 568, 569, 570, 571, 572, 573, 558, 559, 560, 561, 562, 563] (by decide +kernel) (by decide +kernel)) (goodIn_sub (fun _ h => List.mem_append_left _ (List.mem_append_right _ h)) (by decide +kernel))
set_option maxRecDepth 20000 in
theorem gL_law_L_queue : GoodIn wsL_law (va_wsS RL 131 yL_queue wsL_queue) := goodIn_app (goodIn_of _ (by decide +kernel)) ggL_law_L_queue
set_option maxRecDepth 20000 in
theorem ggL_law_X3_queue : GoodIn wsL_law wsX3_queue := goodIn_r _ [491, 72, 107, 108, 5, 109, 110, 111, 112, 113, 114, 539, 540, 541, 542, 543, 544, 545, 546, 547, 548, 549, 550, 551, 552, 553, 554, 555, 556, 557] (by decide +kernel) (by decide +kernel)
set_option maxRecDepth 20000 in
theorem gL_law_X3_queue : GoodIn wsL_law (wsV RL 133 RX3 yX3_queue wsX3_queue) := goodIn_app (goodIn_of _ (by decide +kernel)) ggL_law_X3_queue
set_option maxRecDepth 20000 in
theorem ggL_law_L_inside : GoodIn wsL_law wsL_inside := goodIn_ca (goodIn_r _ [494, 89, 495, 496, 497, 2, 498, 97, 98, 99, 100, 101, 102, 14, 348, 349, 350, 351, 16, 130, 131, 132, 133, 536, 537, 538, 564, 565, 566, 567, 568, 569, 570, 571, 572, 573, 558, 559, 560, 561, 562, 563] (by decide +kernel) (by decide +kernel)) (goodIn_sub (fun _ h => List.mem_append_left _ (List.mem_append_right _ h)) (by decide +kernel))
set_option maxRecDepth 20000 in
theorem gL_law_L_inside : GoodIn wsL_law (va_wsS RL 134 yL_inside wsL_inside) := goodIn_app (goodIn_of _ (by decide +kernel)) ggL_law_L_inside
set_option maxRecDepth 20000 in
theorem ggL_law_X3_inside : GoodIn wsL_law wsX3_inside := goodIn_r _ [502, 107, 108, 5, 109, 110, 111, 112, 113, 114, 392, 393, 394, 395, 75, 76, 539, 540, 541, 542, 543, 544, 545, 546, 547, 548, 549, 550, 551, 552, 553, 554, 555, 556, 557] (by decide +kernel) (by decide +kernel)
set_option maxRecDepth 20000 in
theorem gL_law_X3_inside : GoodIn wsL_law (wsV RL 136 RX3 yX3_inside wsX3_inside) := goodIn_app (goodIn_of _ (by decide +kernel)) ggL_law_X3_inside
set_option maxRecDepth 20000 in
theorem ggL_law_L_stock : GoodIn wsL_law wsL_stock := goodIn_ca (goodIn_r _ [505, 89, 506, 507, 508, 2, 509, 97, 98, 99, 100, 101, 102, 14, 558, 559, 560, 561, 562, 563, 536, 537, 538] (by decide +kernel) (by decide +kernel)) (goodIn_sub (fun _ h => List.mem_append_left _ (List.mem_append_right _ h)) (by decide +kernel))
set_option maxRecDepth 20000 in
theorem gL_law_L_stock : GoodIn wsL_law (va_wsS RL 137 yL_stock wsL_stock) := goodIn_app (goodIn_of _ (by decide +kernel)) ggL_law_L_stock
set_option maxRecDepth 20000 in
theorem ggL_law_X3_stock : GoodIn wsL_law wsX3_stock := goodIn_r _ [513, 82, 107, 108, 5, 109, 110, 111, 112, 113, 114, 539, 540, 541, 542, 543, 544, 545, 546, 547, 548, 549, 550, 551, 552, 553, 554, 555, 556, 557] (by decide +kernel) (by decide +kernel)
set_option maxRecDepth 20000 in
theorem gL_law_X3_stock : GoodIn wsL_law (wsV RL 139 RX3 yX3_stock wsX3_stock) := goodIn_app (goodIn_of _ (by decide +kernel)) ggL_law_X3_stock
set_option maxRecDepth 20000 in
theorem ggL_law_L_demand : GoodIn wsL_law wsL_demand := goodIn_ca (goodIn_r _ [516, 89, 517, 518, 519, 2, 520, 97, 98, 99, 100, 101, 102, 14, 558, 559, 560, 561, 562, 563, 536, 537, 538] (by decide +kernel) (by decide +kernel)) (goodIn_sub (fun _ h => List.mem_append_left _ (List.mem_append_right _ h)) (by decide +kernel))
set_option maxRecDepth 20000 in
theorem gL_law_L_demand : GoodIn wsL_law (va_wsS RL 140 yL_demand wsL_demand) := goodIn_app (goodIn_of _ (by decide +kernel)) ggL_law_L_demand
set_option maxRecDepth 20000 in
theorem ggL_law_X3_demand : GoodIn wsL_law wsX3_demand := goodIn_r _ [524, 83, 107, 108, 5, 109, 110, 111, 112, 113, 114, 539, 540, 541, 542, 543, 544, 545, 546, 547, 548, 549, 550, 551, 552, 553, 554, 555, 556, 557] (by decide +kernel) (by decide +kernel)
set_option maxRecDepth 20000 in
theorem gL_law_X3_demand : GoodIn wsL_law (wsV RL 142 RX3 yX3_demand wsX3_demand) := goodIn_app (goodIn_of _ (by decide +kernel)) ggL_law_X3_demand
set_option maxRecDepth 20000 in
theorem ggL_law_L_sent : GoodIn wsL_law wsL_sent := goodIn_ca (goodIn_r _ [527, 89, 528, 529, 530, 2, 531, 172, 173, 174, 175, 101, 102, 16, 97, 98, 99, 100, 14, 564, 565, 566, 567, 568, 569, 570, 571, 572, 573, 558, 559, 560, 561, 562, 563, 536, 537, 538] (by decide +kernel) (by decide +kernel)) (goodIn_sub (fun _ h => List.mem_append_left _ (List.mem_append_right _ h)) (by decide +kernel))
set_option maxRecDepth 20000 in
theorem gL_law_L_sent : GoodIn wsL_law (va_wsS RL 143 yL_sent wsL_sent) := goodIn_app (goodIn_of _ (by decide +kernel)) ggL_law_L_sent
set_option maxRecDepth 20000 in
theorem ggL_law_X3_sent : GoodIn wsL_law wsX3_sent := goodIn_r _ [535, 84, 257, 258, 5, 259, 107, 108, 109, 110, 111, 112, 113, 114, 539, 540, 541, 542, 543, 544, 545, 546, 547, 548, 549, 550, 551, 552, 553, 554, 555, 556, 557] (by decide +kernel) (by decide +kernel)
set_option maxRecDepth 20000 in
theorem gL_law_X3_sent : GoodIn wsL_law (wsV RL 145 RX3 yX3_sent wsX3_sent) := goodIn_app (goodIn_of _ (by decide +kernel)) ggL_law_X3_sent
theorem dL_law_0 : decode cL_law 0 = .ok (.new 8, 3) := by decide +kernel
theorem dL_law_3 : decode cL_law 3 = .ok (.dup, 1) := by decide +kernel
theorem dL_law_4 : decode cL_law 4 = .ok (.invokespecial 74, 3) := by decide +kernel
theorem dL_law_7 : decode cL_law 7 = .ok (.astore_n 1, 1) := by decide +kernel
theorem dL_law_8 : decode cL_law 8 = .ok (.new 75, 3) := by decide +kernel
theorem dL_law_11 : decode cL_law 11 = .ok (.dup, 1) := by decide +kernel
theorem dL_law_12 : decode cL_law 12 = .ok (.invokespecial 77, 3) := by decide +kernel
theorem dL_law_15 : decode cL_law 15 = .ok (.astore_n 2, 1) := by decide +kernel
theorem dL_law_16 : decode cL_law 16 = .ok (.iconst 1, 1) := by decide +kernel
theorem dL_law_17 : decode cL_law 17 = .ok (.newarray .long, 2) := by decide +kernel
theorem dL_law_19 : decode cL_law 19 = .ok (.astore_n 3, 1) := by decide +kernel
theorem dL_law_20 : decode cL_law 20 = .ok (.iconst 0, 1) := by decide +kernel
theorem dL_law_21 : decode cL_law 21 = .ok (.istore 4, 2) := by decide +kernel
theorem dL_law_23 : decode cL_law 23 = .ok (.iload 4, 2) := by decide +kernel
theorem dL_law_25 : decode cL_law 25 = .ok (.aload_n 0, 1) := by decide +kernel
theorem dL_law_26 : decode cL_law 26 = .ok (.arraylength, 1) := by decide +kernel
theorem dL_law_27 : decode cL_law 27 = .ok (.iconst 4, 1) := by decide +kernel
theorem dL_law_28 : decode cL_law 28 = .ok (.isub, 1) := by decide +kernel
theorem dL_law_29 : decode cL_law 29 = .ok (.if_icmp .gt 1225, 3) := by decide +kernel
theorem dL_law_32 : decode cL_law 32 = .ok (.aload_n 0, 1) := by decide +kernel
theorem dL_law_33 : decode cL_law 33 = .ok (.iload 4, 2) := by decide +kernel
theorem dL_law_35 : decode cL_law 35 = .ok (.iaload, 1) := by decide +kernel
theorem dL_law_36 : decode cL_law 36 = .ok (.bipush 31, 2) := by decide +kernel
theorem dL_law_38 : decode cL_law 38 = .ok (.iand, 1) := by decide +kernel
theorem dL_law_39 : decode cL_law 39 = .ok (.tableswitch 1209 0 18 #[89, 149, 233, 301, 369, 437, 493, 568, 624, 637, 693, 749, 805, 861, 917, 973, 1029, 1085, 1141], 89) := by decide +kernel
theorem dL_law_128 : decode cL_law 128 = .ok (.aload_n 1, 1) := by decide +kernel
theorem dL_law_129 : decode cL_law 129 = .ok (.aload_n 0, 1) := by decide +kernel
theorem dL_law_130 : decode cL_law 130 = .ok (.iload 4, 2) := by decide +kernel
theorem dL_law_132 : decode cL_law 132 = .ok (.iconst 1, 1) := by decide +kernel
theorem dL_law_133 : decode cL_law 133 = .ok (.iadd, 1) := by decide +kernel
theorem dL_law_134 : decode cL_law 134 = .ok (.iaload, 1) := by decide +kernel
theorem dL_law_135 : decode cL_law 135 = .ok (.aload_n 0, 1) := by decide +kernel
theorem dL_law_136 : decode cL_law 136 = .ok (.iload 4, 2) := by decide +kernel
theorem dL_law_138 : decode cL_law 138 = .ok (.iconst 2, 1) := by decide +kernel
theorem dL_law_139 : decode cL_law 139 = .ok (.iadd, 1) := by decide +kernel
theorem dL_law_140 : decode cL_law 140 = .ok (.iaload, 1) := by decide +kernel
theorem dL_law_141 : decode cL_law 141 = .ok (.aload_n 0, 1) := by decide +kernel
theorem dL_law_142 : decode cL_law 142 = .ok (.iload 4, 2) := by decide +kernel
theorem dL_law_144 : decode cL_law 144 = .ok (.iconst 3, 1) := by decide +kernel
theorem dL_law_145 : decode cL_law 145 = .ok (.iadd, 1) := by decide +kernel
theorem dL_law_146 : decode cL_law 146 = .ok (.iaload, 1) := by decide +kernel
theorem dL_law_147 : decode cL_law 147 = .ok (.invokestatic 78, 3) := by decide +kernel
theorem dL_law_150 : decode cL_law 150 = .ok (.istore 5, 2) := by decide +kernel
theorem dL_law_152 : decode cL_law 152 = .ok (.aload_n 2, 1) := by decide +kernel
theorem dL_law_153 : decode cL_law 153 = .ok (.aload_n 0, 1) := by decide +kernel
theorem dL_law_154 : decode cL_law 154 = .ok (.iload 4, 2) := by decide +kernel
theorem dL_law_156 : decode cL_law 156 = .ok (.iconst 1, 1) := by decide +kernel
theorem dL_law_157 : decode cL_law 157 = .ok (.iadd, 1) := by decide +kernel
theorem dL_law_158 : decode cL_law 158 = .ok (.iaload, 1) := by decide +kernel
theorem dL_law_159 : decode cL_law 159 = .ok (.aload_n 0, 1) := by decide +kernel
theorem dL_law_160 : decode cL_law 160 = .ok (.iload 4, 2) := by decide +kernel
theorem dL_law_162 : decode cL_law 162 = .ok (.iconst 2, 1) := by decide +kernel
theorem dL_law_163 : decode cL_law 163 = .ok (.iadd, 1) := by decide +kernel
theorem dL_law_164 : decode cL_law 164 = .ok (.iaload, 1) := by decide +kernel
theorem dL_law_165 : decode cL_law 165 = .ok (.aload_n 0, 1) := by decide +kernel
theorem dL_law_166 : decode cL_law 166 = .ok (.iload 4, 2) := by decide +kernel
theorem dL_law_168 : decode cL_law 168 = .ok (.iconst 3, 1) := by decide +kernel
theorem dL_law_169 : decode cL_law 169 = .ok (.iadd, 1) := by decide +kernel
theorem dL_law_170 : decode cL_law 170 = .ok (.iaload, 1) := by decide +kernel
theorem dL_law_171 : decode cL_law 171 = .ok (.invokevirtual 83, 3) := by decide +kernel
theorem dL_law_174 : decode cL_law 174 = .ok (.aload_n 2, 1) := by decide +kernel
theorem dL_law_175 : decode cL_law 175 = .ok (.invokevirtual 84, 3) := by decide +kernel
theorem dL_law_178 : decode cL_law 178 = .ok (.iload 5, 2) := by decide +kernel
theorem dL_law_180 : decode cL_law 180 = .ok (.if_icmp .eq 5, 3) := by decide +kernel
theorem dL_law_183 : decode cL_law 183 = .ok (.iconst 0, 1) := by decide +kernel
theorem dL_law_184 : decode cL_law 184 = .ok (.ireturn, 1) := by decide +kernel
theorem dL_law_185 : decode cL_law 185 = .ok (.goto 1063, 3) := by decide +kernel
theorem dL_law_188 : decode cL_law 188 = .ok (.aload_n 1, 1) := by decide +kernel
theorem dL_law_189 : decode cL_law 189 = .ok (.aload_n 0, 1) := by decide +kernel
theorem dL_law_190 : decode cL_law 190 = .ok (.iload 4, 2) := by decide +kernel
theorem dL_law_192 : decode cL_law 192 = .ok (.iconst 1, 1) := by decide +kernel
theorem dL_law_193 : decode cL_law 193 = .ok (.iadd, 1) := by decide +kernel
theorem dL_law_194 : decode cL_law 194 = .ok (.iaload, 1) := by decide +kernel
theorem dL_law_195 : decode cL_law 195 = .ok (.aload_n 0, 1) := by decide +kernel
theorem dL_law_196 : decode cL_law 196 = .ok (.iload 4, 2) := by decide +kernel
theorem dL_law_198 : decode cL_law 198 = .ok (.iconst 2, 1) := by decide +kernel
theorem dL_law_199 : decode cL_law 199 = .ok (.iadd, 1) := by decide +kernel
theorem dL_law_200 : decode cL_law 200 = .ok (.iaload, 1) := by decide +kernel
theorem dL_law_201 : decode cL_law 201 = .ok (.ifCond .eq 7, 3) := by decide +kernel
theorem dL_law_204 : decode cL_law 204 = .ok (.iconst 1, 1) := by decide +kernel
theorem dL_law_205 : decode cL_law 205 = .ok (.goto 4, 3) := by decide +kernel
theorem dL_law_208 : decode cL_law 208 = .ok (.iconst 0, 1) := by decide +kernel
theorem dL_law_209 : decode cL_law 209 = .ok (.aload_n 3, 1) := by decide +kernel
theorem dL_law_210 : decode cL_law 210 = .ok (.invokestatic 88, 3) := by decide +kernel
theorem dL_law_213 : decode cL_law 213 = .ok (.istore 5, 2) := by decide +kernel
theorem dL_law_215 : decode cL_law 215 = .ok (.aload_n 2, 1) := by decide +kernel
theorem dL_law_216 : decode cL_law 216 = .ok (.aload_n 0, 1) := by decide +kernel
theorem dL_law_217 : decode cL_law 217 = .ok (.iload 4, 2) := by decide +kernel
theorem dL_law_219 : decode cL_law 219 = .ok (.iconst 1, 1) := by decide +kernel
theorem dL_law_220 : decode cL_law 220 = .ok (.iadd, 1) := by decide +kernel
theorem dL_law_221 : decode cL_law 221 = .ok (.iaload, 1) := by decide +kernel
theorem dL_law_222 : decode cL_law 222 = .ok (.aload_n 0, 1) := by decide +kernel
theorem dL_law_223 : decode cL_law 223 = .ok (.iload 4, 2) := by decide +kernel
theorem dL_law_225 : decode cL_law 225 = .ok (.iconst 2, 1) := by decide +kernel
theorem dL_law_226 : decode cL_law 226 = .ok (.iadd, 1) := by decide +kernel
theorem dL_law_227 : decode cL_law 227 = .ok (.iaload, 1) := by decide +kernel
theorem dL_law_228 : decode cL_law 228 = .ok (.ifCond .eq 7, 3) := by decide +kernel
theorem dL_law_231 : decode cL_law 231 = .ok (.iconst 1, 1) := by decide +kernel
theorem dL_law_232 : decode cL_law 232 = .ok (.goto 4, 3) := by decide +kernel
theorem dL_law_235 : decode cL_law 235 = .ok (.iconst 0, 1) := by decide +kernel
theorem dL_law_236 : decode cL_law 236 = .ok (.invokevirtual 91, 3) := by decide +kernel
theorem dL_law_239 : decode cL_law 239 = .ok (.istore 6, 2) := by decide +kernel
theorem dL_law_241 : decode cL_law 241 = .ok (.aload_n 2, 1) := by decide +kernel
theorem dL_law_242 : decode cL_law 242 = .ok (.invokevirtual 84, 3) := by decide +kernel
theorem dL_law_245 : decode cL_law 245 = .ok (.iload 5, 2) := by decide +kernel
theorem dL_law_247 : decode cL_law 247 = .ok (.if_icmp .eq 5, 3) := by decide +kernel
theorem dL_law_250 : decode cL_law 250 = .ok (.iconst 0, 1) := by decide +kernel
theorem dL_law_251 : decode cL_law 251 = .ok (.ireturn, 1) := by decide +kernel
theorem dL_law_252 : decode cL_law 252 = .ok (.iload 5, 2) := by decide +kernel
theorem dL_law_254 : decode cL_law 254 = .ok (.ifCond .ne 15, 3) := by decide +kernel
theorem dL_law_257 : decode cL_law 257 = .ok (.aload_n 3, 1) := by decide +kernel
theorem dL_law_258 : decode cL_law 258 = .ok (.iconst 0, 1) := by decide +kernel
theorem dL_law_259 : decode cL_law 259 = .ok (.laload, 1) := by decide +kernel
theorem dL_law_260 : decode cL_law 260 = .ok (.iload 6, 2) := by decide +kernel
theorem dL_law_262 : decode cL_law 262 = .ok (.i2l, 1) := by decide +kernel
theorem dL_law_263 : decode cL_law 263 = .ok (.lcmp, 1) := by decide +kernel
theorem dL_law_264 : decode cL_law 264 = .ok (.ifCond .eq 5, 3) := by decide +kernel
theorem dL_law_267 : decode cL_law 267 = .ok (.iconst 0, 1) := by decide +kernel
theorem dL_law_268 : decode cL_law 268 = .ok (.ireturn, 1) := by decide +kernel
theorem dL_law_269 : decode cL_law 269 = .ok (.goto 979, 3) := by decide +kernel
theorem dL_law_272 : decode cL_law 272 = .ok (.aload_n 1, 1) := by decide +kernel
theorem dL_law_273 : decode cL_law 273 = .ok (.aload_n 0, 1) := by decide +kernel
theorem dL_law_274 : decode cL_law 274 = .ok (.iload 4, 2) := by decide +kernel
theorem dL_law_276 : decode cL_law 276 = .ok (.iconst 1, 1) := by decide +kernel
theorem dL_law_277 : decode cL_law 277 = .ok (.iadd, 1) := by decide +kernel
theorem dL_law_278 : decode cL_law 278 = .ok (.iaload, 1) := by decide +kernel
theorem dL_law_279 : decode cL_law 279 = .ok (.aload_n 0, 1) := by decide +kernel
theorem dL_law_280 : decode cL_law 280 = .ok (.iload 4, 2) := by decide +kernel
theorem dL_law_282 : decode cL_law 282 = .ok (.iconst 2, 1) := by decide +kernel
theorem dL_law_283 : decode cL_law 283 = .ok (.iadd, 1) := by decide +kernel
theorem dL_law_284 : decode cL_law 284 = .ok (.iaload, 1) := by decide +kernel
theorem dL_law_285 : decode cL_law 285 = .ok (.aload_n 3, 1) := by decide +kernel
theorem dL_law_286 : decode cL_law 286 = .ok (.invokestatic 92, 3) := by decide +kernel
theorem dL_law_289 : decode cL_law 289 = .ok (.istore 5, 2) := by decide +kernel
theorem dL_law_291 : decode cL_law 291 = .ok (.aload_n 2, 1) := by decide +kernel
theorem dL_law_292 : decode cL_law 292 = .ok (.aload_n 0, 1) := by decide +kernel
theorem dL_law_293 : decode cL_law 293 = .ok (.iload 4, 2) := by decide +kernel
theorem dL_law_295 : decode cL_law 295 = .ok (.iconst 1, 1) := by decide +kernel
theorem dL_law_296 : decode cL_law 296 = .ok (.iadd, 1) := by decide +kernel
theorem dL_law_297 : decode cL_law 297 = .ok (.iaload, 1) := by decide +kernel
theorem dL_law_298 : decode cL_law 298 = .ok (.aload_n 0, 1) := by decide +kernel
theorem dL_law_299 : decode cL_law 299 = .ok (.iload 4, 2) := by decide +kernel
theorem dL_law_301 : decode cL_law 301 = .ok (.iconst 2, 1) := by decide +kernel
theorem dL_law_302 : decode cL_law 302 = .ok (.iadd, 1) := by decide +kernel
theorem dL_law_303 : decode cL_law 303 = .ok (.iaload, 1) := by decide +kernel
theorem dL_law_304 : decode cL_law 304 = .ok (.invokevirtual 95, 3) := by decide +kernel
theorem dL_law_307 : decode cL_law 307 = .ok (.istore 6, 2) := by decide +kernel
theorem dL_law_309 : decode cL_law 309 = .ok (.aload_n 2, 1) := by decide +kernel
theorem dL_law_310 : decode cL_law 310 = .ok (.invokevirtual 84, 3) := by decide +kernel
theorem dL_law_313 : decode cL_law 313 = .ok (.iload 5, 2) := by decide +kernel
theorem dL_law_315 : decode cL_law 315 = .ok (.if_icmp .eq 5, 3) := by decide +kernel
theorem dL_law_318 : decode cL_law 318 = .ok (.iconst 0, 1) := by decide +kernel
theorem dL_law_319 : decode cL_law 319 = .ok (.ireturn, 1) := by decide +kernel
theorem dL_law_320 : decode cL_law 320 = .ok (.iload 5, 2) := by decide +kernel
theorem dL_law_322 : decode cL_law 322 = .ok (.ifCond .ne 15, 3) := by decide +kernel
theorem dL_law_325 : decode cL_law 325 = .ok (.aload_n 3, 1) := by decide +kernel
theorem dL_law_326 : decode cL_law 326 = .ok (.iconst 0, 1) := by decide +kernel
theorem dL_law_327 : decode cL_law 327 = .ok (.laload, 1) := by decide +kernel
theorem dL_law_328 : decode cL_law 328 = .ok (.iload 6, 2) := by decide +kernel
theorem dL_law_330 : decode cL_law 330 = .ok (.i2l, 1) := by decide +kernel
theorem dL_law_331 : decode cL_law 331 = .ok (.lcmp, 1) := by decide +kernel
theorem dL_law_332 : decode cL_law 332 = .ok (.ifCond .eq 5, 3) := by decide +kernel
theorem dL_law_335 : decode cL_law 335 = .ok (.iconst 0, 1) := by decide +kernel
theorem dL_law_336 : decode cL_law 336 = .ok (.ireturn, 1) := by decide +kernel
theorem dL_law_337 : decode cL_law 337 = .ok (.goto 911, 3) := by decide +kernel
theorem dL_law_340 : decode cL_law 340 = .ok (.aload_n 1, 1) := by decide +kernel
theorem dL_law_341 : decode cL_law 341 = .ok (.aload_n 0, 1) := by decide +kernel
theorem dL_law_342 : decode cL_law 342 = .ok (.iload 4, 2) := by decide +kernel
theorem dL_law_344 : decode cL_law 344 = .ok (.iconst 1, 1) := by decide +kernel
theorem dL_law_345 : decode cL_law 345 = .ok (.iadd, 1) := by decide +kernel
theorem dL_law_346 : decode cL_law 346 = .ok (.iaload, 1) := by decide +kernel
theorem dL_law_347 : decode cL_law 347 = .ok (.aload_n 0, 1) := by decide +kernel
theorem dL_law_348 : decode cL_law 348 = .ok (.iload 4, 2) := by decide +kernel
theorem dL_law_350 : decode cL_law 350 = .ok (.iconst 2, 1) := by decide +kernel
theorem dL_law_351 : decode cL_law 351 = .ok (.iadd, 1) := by decide +kernel
theorem dL_law_352 : decode cL_law 352 = .ok (.iaload, 1) := by decide +kernel
theorem dL_law_353 : decode cL_law 353 = .ok (.aload_n 3, 1) := by decide +kernel
theorem dL_law_354 : decode cL_law 354 = .ok (.invokestatic 96, 3) := by decide +kernel
theorem dL_law_357 : decode cL_law 357 = .ok (.istore 5, 2) := by decide +kernel
theorem dL_law_359 : decode cL_law 359 = .ok (.aload_n 2, 1) := by decide +kernel
theorem dL_law_360 : decode cL_law 360 = .ok (.aload_n 0, 1) := by decide +kernel
theorem dL_law_361 : decode cL_law 361 = .ok (.iload 4, 2) := by decide +kernel
theorem dL_law_363 : decode cL_law 363 = .ok (.iconst 1, 1) := by decide +kernel
theorem dL_law_364 : decode cL_law 364 = .ok (.iadd, 1) := by decide +kernel
theorem dL_law_365 : decode cL_law 365 = .ok (.iaload, 1) := by decide +kernel
theorem dL_law_366 : decode cL_law 366 = .ok (.aload_n 0, 1) := by decide +kernel
theorem dL_law_367 : decode cL_law 367 = .ok (.iload 4, 2) := by decide +kernel
theorem dL_law_369 : decode cL_law 369 = .ok (.iconst 2, 1) := by decide +kernel
theorem dL_law_370 : decode cL_law 370 = .ok (.iadd, 1) := by decide +kernel
theorem dL_law_371 : decode cL_law 371 = .ok (.iaload, 1) := by decide +kernel
theorem dL_law_372 : decode cL_law 372 = .ok (.invokevirtual 98, 3) := by decide +kernel
theorem dL_law_375 : decode cL_law 375 = .ok (.istore 6, 2) := by decide +kernel
theorem dL_law_377 : decode cL_law 377 = .ok (.aload_n 2, 1) := by decide +kernel
theorem dL_law_378 : decode cL_law 378 = .ok (.invokevirtual 84, 3) := by decide +kernel
theorem dL_law_381 : decode cL_law 381 = .ok (.iload 5, 2) := by decide +kernel
theorem dL_law_383 : decode cL_law 383 = .ok (.if_icmp .eq 5, 3) := by decide +kernel
theorem dL_law_386 : decode cL_law 386 = .ok (.iconst 0, 1) := by decide +kernel
theorem dL_law_387 : decode cL_law 387 = .ok (.ireturn, 1) := by decide +kernel
theorem dL_law_388 : decode cL_law 388 = .ok (.iload 5, 2) := by decide +kernel
theorem dL_law_390 : decode cL_law 390 = .ok (.ifCond .ne 15, 3) := by decide +kernel
theorem dL_law_393 : decode cL_law 393 = .ok (.aload_n 3, 1) := by decide +kernel
theorem dL_law_394 : decode cL_law 394 = .ok (.iconst 0, 1) := by decide +kernel
theorem dL_law_395 : decode cL_law 395 = .ok (.laload, 1) := by decide +kernel
theorem dL_law_396 : decode cL_law 396 = .ok (.iload 6, 2) := by decide +kernel
theorem dL_law_398 : decode cL_law 398 = .ok (.i2l, 1) := by decide +kernel
theorem dL_law_399 : decode cL_law 399 = .ok (.lcmp, 1) := by decide +kernel
theorem dL_law_400 : decode cL_law 400 = .ok (.ifCond .eq 5, 3) := by decide +kernel
theorem dL_law_403 : decode cL_law 403 = .ok (.iconst 0, 1) := by decide +kernel
theorem dL_law_404 : decode cL_law 404 = .ok (.ireturn, 1) := by decide +kernel
theorem dL_law_405 : decode cL_law 405 = .ok (.goto 843, 3) := by decide +kernel
theorem dL_law_408 : decode cL_law 408 = .ok (.aload_n 1, 1) := by decide +kernel
theorem dL_law_409 : decode cL_law 409 = .ok (.aload_n 0, 1) := by decide +kernel
theorem dL_law_410 : decode cL_law 410 = .ok (.iload 4, 2) := by decide +kernel
theorem dL_law_412 : decode cL_law 412 = .ok (.iconst 1, 1) := by decide +kernel
theorem dL_law_413 : decode cL_law 413 = .ok (.iadd, 1) := by decide +kernel
theorem dL_law_414 : decode cL_law 414 = .ok (.iaload, 1) := by decide +kernel
theorem dL_law_415 : decode cL_law 415 = .ok (.aload_n 0, 1) := by decide +kernel
theorem dL_law_416 : decode cL_law 416 = .ok (.iload 4, 2) := by decide +kernel
theorem dL_law_418 : decode cL_law 418 = .ok (.iconst 2, 1) := by decide +kernel
theorem dL_law_419 : decode cL_law 419 = .ok (.iadd, 1) := by decide +kernel
theorem dL_law_420 : decode cL_law 420 = .ok (.iaload, 1) := by decide +kernel
theorem dL_law_421 : decode cL_law 421 = .ok (.aload_n 3, 1) := by decide +kernel
theorem dL_law_422 : decode cL_law 422 = .ok (.invokestatic 99, 3) := by decide +kernel
theorem dL_law_425 : decode cL_law 425 = .ok (.istore 5, 2) := by decide +kernel
theorem dL_law_427 : decode cL_law 427 = .ok (.aload_n 2, 1) := by decide +kernel
theorem dL_law_428 : decode cL_law 428 = .ok (.aload_n 0, 1) := by decide +kernel
theorem dL_law_429 : decode cL_law 429 = .ok (.iload 4, 2) := by decide +kernel
theorem dL_law_431 : decode cL_law 431 = .ok (.iconst 1, 1) := by decide +kernel
theorem dL_law_432 : decode cL_law 432 = .ok (.iadd, 1) := by decide +kernel
theorem dL_law_433 : decode cL_law 433 = .ok (.iaload, 1) := by decide +kernel
theorem dL_law_434 : decode cL_law 434 = .ok (.aload_n 0, 1) := by decide +kernel
theorem dL_law_435 : decode cL_law 435 = .ok (.iload 4, 2) := by decide +kernel
theorem dL_law_437 : decode cL_law 437 = .ok (.iconst 2, 1) := by decide +kernel
theorem dL_law_438 : decode cL_law 438 = .ok (.iadd, 1) := by decide +kernel
theorem dL_law_439 : decode cL_law 439 = .ok (.iaload, 1) := by decide +kernel
theorem dL_law_440 : decode cL_law 440 = .ok (.invokevirtual 101, 3) := by decide +kernel
theorem dL_law_443 : decode cL_law 443 = .ok (.istore 6, 2) := by decide +kernel
theorem dL_law_445 : decode cL_law 445 = .ok (.aload_n 2, 1) := by decide +kernel
theorem dL_law_446 : decode cL_law 446 = .ok (.invokevirtual 84, 3) := by decide +kernel
theorem dL_law_449 : decode cL_law 449 = .ok (.iload 5, 2) := by decide +kernel
theorem dL_law_451 : decode cL_law 451 = .ok (.if_icmp .eq 5, 3) := by decide +kernel
theorem dL_law_454 : decode cL_law 454 = .ok (.iconst 0, 1) := by decide +kernel
theorem dL_law_455 : decode cL_law 455 = .ok (.ireturn, 1) := by decide +kernel
theorem dL_law_456 : decode cL_law 456 = .ok (.iload 5, 2) := by decide +kernel
theorem dL_law_458 : decode cL_law 458 = .ok (.ifCond .ne 15, 3) := by decide +kernel
theorem dL_law_461 : decode cL_law 461 = .ok (.aload_n 3, 1) := by decide +kernel
theorem dL_law_462 : decode cL_law 462 = .ok (.iconst 0, 1) := by decide +kernel
theorem dL_law_463 : decode cL_law 463 = .ok (.laload, 1) := by decide +kernel
theorem dL_law_464 : decode cL_law 464 = .ok (.iload 6, 2) := by decide +kernel
theorem dL_law_466 : decode cL_law 466 = .ok (.i2l, 1) := by decide +kernel
theorem dL_law_467 : decode cL_law 467 = .ok (.lcmp, 1) := by decide +kernel
theorem dL_law_468 : decode cL_law 468 = .ok (.ifCond .eq 5, 3) := by decide +kernel
theorem dL_law_471 : decode cL_law 471 = .ok (.iconst 0, 1) := by decide +kernel
theorem dL_law_472 : decode cL_law 472 = .ok (.ireturn, 1) := by decide +kernel
theorem dL_law_473 : decode cL_law 473 = .ok (.goto 775, 3) := by decide +kernel
theorem dL_law_476 : decode cL_law 476 = .ok (.aload_n 1, 1) := by decide +kernel
theorem dL_law_477 : decode cL_law 477 = .ok (.aload_n 0, 1) := by decide +kernel
theorem dL_law_478 : decode cL_law 478 = .ok (.iload 4, 2) := by decide +kernel
theorem dL_law_480 : decode cL_law 480 = .ok (.iconst 1, 1) := by decide +kernel
theorem dL_law_481 : decode cL_law 481 = .ok (.iadd, 1) := by decide +kernel
theorem dL_law_482 : decode cL_law 482 = .ok (.iaload, 1) := by decide +kernel
theorem dL_law_483 : decode cL_law 483 = .ok (.aload_n 3, 1) := by decide +kernel
theorem dL_law_484 : decode cL_law 484 = .ok (.invokestatic 102, 3) := by decide +kernel
theorem dL_law_487 : decode cL_law 487 = .ok (.istore 5, 2) := by decide +kernel
theorem dL_law_489 : decode cL_law 489 = .ok (.aload_n 2, 1) := by decide +kernel
theorem dL_law_490 : decode cL_law 490 = .ok (.aload_n 0, 1) := by decide +kernel
theorem dL_law_491 : decode cL_law 491 = .ok (.iload 4, 2) := by decide +kernel
theorem dL_law_493 : decode cL_law 493 = .ok (.iconst 1, 1) := by decide +kernel
theorem dL_law_494 : decode cL_law 494 = .ok (.iadd, 1) := by decide +kernel
theorem dL_law_495 : decode cL_law 495 = .ok (.iaload, 1) := by decide +kernel
theorem dL_law_496 : decode cL_law 496 = .ok (.invokevirtual 105, 3) := by decide +kernel
theorem dL_law_499 : decode cL_law 499 = .ok (.istore 6, 2) := by decide +kernel
theorem dL_law_501 : decode cL_law 501 = .ok (.aload_n 2, 1) := by decide +kernel
theorem dL_law_502 : decode cL_law 502 = .ok (.invokevirtual 84, 3) := by decide +kernel
theorem dL_law_505 : decode cL_law 505 = .ok (.iload 5, 2) := by decide +kernel
theorem dL_law_507 : decode cL_law 507 = .ok (.if_icmp .eq 5, 3) := by decide +kernel
theorem dL_law_510 : decode cL_law 510 = .ok (.iconst 0, 1) := by decide +kernel
theorem dL_law_511 : decode cL_law 511 = .ok (.ireturn, 1) := by decide +kernel
theorem dL_law_512 : decode cL_law 512 = .ok (.iload 5, 2) := by decide +kernel
theorem dL_law_514 : decode cL_law 514 = .ok (.ifCond .ne 15, 3) := by decide +kernel
theorem dL_law_517 : decode cL_law 517 = .ok (.aload_n 3, 1) := by decide +kernel
theorem dL_law_518 : decode cL_law 518 = .ok (.iconst 0, 1) := by decide +kernel
theorem dL_law_519 : decode cL_law 519 = .ok (.laload, 1) := by decide +kernel
theorem dL_law_520 : decode cL_law 520 = .ok (.iload 6, 2) := by decide +kernel
theorem dL_law_522 : decode cL_law 522 = .ok (.i2l, 1) := by decide +kernel
theorem dL_law_523 : decode cL_law 523 = .ok (.lcmp, 1) := by decide +kernel
theorem dL_law_524 : decode cL_law 524 = .ok (.ifCond .eq 5, 3) := by decide +kernel
theorem dL_law_527 : decode cL_law 527 = .ok (.iconst 0, 1) := by decide +kernel
theorem dL_law_528 : decode cL_law 528 = .ok (.ireturn, 1) := by decide +kernel
theorem dL_law_529 : decode cL_law 529 = .ok (.goto 719, 3) := by decide +kernel
theorem dL_law_532 : decode cL_law 532 = .ok (.aload_n 1, 1) := by decide +kernel
theorem dL_law_533 : decode cL_law 533 = .ok (.aload_n 0, 1) := by decide +kernel
theorem dL_law_534 : decode cL_law 534 = .ok (.iload 4, 2) := by decide +kernel
theorem dL_law_536 : decode cL_law 536 = .ok (.iconst 1, 1) := by decide +kernel
theorem dL_law_537 : decode cL_law 537 = .ok (.iadd, 1) := by decide +kernel
theorem dL_law_538 : decode cL_law 538 = .ok (.iaload, 1) := by decide +kernel
theorem dL_law_539 : decode cL_law 539 = .ok (.aload_n 0, 1) := by decide +kernel
theorem dL_law_540 : decode cL_law 540 = .ok (.iload 4, 2) := by decide +kernel
theorem dL_law_542 : decode cL_law 542 = .ok (.iconst 2, 1) := by decide +kernel
theorem dL_law_543 : decode cL_law 543 = .ok (.iadd, 1) := by decide +kernel
theorem dL_law_544 : decode cL_law 544 = .ok (.iaload, 1) := by decide +kernel
theorem dL_law_545 : decode cL_law 545 = .ok (.aload_n 3, 1) := by decide +kernel
theorem dL_law_546 : decode cL_law 546 = .ok (.invokestatic 106, 3) := by decide +kernel
theorem dL_law_549 : decode cL_law 549 = .ok (.istore 5, 2) := by decide +kernel
theorem dL_law_551 : decode cL_law 551 = .ok (.aload_n 2, 1) := by decide +kernel
theorem dL_law_552 : decode cL_law 552 = .ok (.aload_n 0, 1) := by decide +kernel
theorem dL_law_553 : decode cL_law 553 = .ok (.iload 4, 2) := by decide +kernel
theorem dL_law_555 : decode cL_law 555 = .ok (.iconst 1, 1) := by decide +kernel
theorem dL_law_556 : decode cL_law 556 = .ok (.iadd, 1) := by decide +kernel
theorem dL_law_557 : decode cL_law 557 = .ok (.iaload, 1) := by decide +kernel
theorem dL_law_558 : decode cL_law 558 = .ok (.aload_n 0, 1) := by decide +kernel
theorem dL_law_559 : decode cL_law 559 = .ok (.iload 4, 2) := by decide +kernel
theorem dL_law_561 : decode cL_law 561 = .ok (.iconst 2, 1) := by decide +kernel
theorem dL_law_562 : decode cL_law 562 = .ok (.iadd, 1) := by decide +kernel
theorem dL_law_563 : decode cL_law 563 = .ok (.iaload, 1) := by decide +kernel
theorem dL_law_564 : decode cL_law 564 = .ok (.invokevirtual 108, 3) := by decide +kernel
theorem dL_law_567 : decode cL_law 567 = .ok (.istore 6, 2) := by decide +kernel
theorem dL_law_569 : decode cL_law 569 = .ok (.aload_n 2, 1) := by decide +kernel
theorem dL_law_570 : decode cL_law 570 = .ok (.invokevirtual 84, 3) := by decide +kernel
theorem dL_law_573 : decode cL_law 573 = .ok (.iload 5, 2) := by decide +kernel
theorem dL_law_575 : decode cL_law 575 = .ok (.if_icmp .eq 5, 3) := by decide +kernel
theorem dL_law_578 : decode cL_law 578 = .ok (.iconst 0, 1) := by decide +kernel
theorem dL_law_579 : decode cL_law 579 = .ok (.ireturn, 1) := by decide +kernel
theorem dL_law_580 : decode cL_law 580 = .ok (.iload 5, 2) := by decide +kernel
theorem dL_law_582 : decode cL_law 582 = .ok (.ifCond .ne 22, 3) := by decide +kernel
theorem dL_law_585 : decode cL_law 585 = .ok (.aload_n 3, 1) := by decide +kernel
theorem dL_law_586 : decode cL_law 586 = .ok (.iconst 0, 1) := by decide +kernel
theorem dL_law_587 : decode cL_law 587 = .ok (.laload, 1) := by decide +kernel
theorem dL_law_588 : decode cL_law 588 = .ok (.iload 6, 2) := by decide +kernel
theorem dL_law_590 : decode cL_law 590 = .ok (.ifCond .eq 7, 3) := by decide +kernel
theorem dL_law_593 : decode cL_law 593 = .ok (.lconst 1, 1) := by decide +kernel
theorem dL_law_594 : decode cL_law 594 = .ok (.goto 4, 3) := by decide +kernel
theorem dL_law_597 : decode cL_law 597 = .ok (.lconst 0, 1) := by decide +kernel
theorem dL_law_598 : decode cL_law 598 = .ok (.lcmp, 1) := by decide +kernel
theorem dL_law_599 : decode cL_law 599 = .ok (.ifCond .eq 5, 3) := by decide +kernel
theorem dL_law_602 : decode cL_law 602 = .ok (.iconst 0, 1) := by decide +kernel
theorem dL_law_603 : decode cL_law 603 = .ok (.ireturn, 1) := by decide +kernel
theorem dL_law_604 : decode cL_law 604 = .ok (.goto 644, 3) := by decide +kernel
theorem dL_law_607 : decode cL_law 607 = .ok (.aload_n 1, 1) := by decide +kernel
theorem dL_law_608 : decode cL_law 608 = .ok (.aload_n 0, 1) := by decide +kernel
theorem dL_law_609 : decode cL_law 609 = .ok (.iload 4, 2) := by decide +kernel
theorem dL_law_611 : decode cL_law 611 = .ok (.iconst 1, 1) := by decide +kernel
theorem dL_law_612 : decode cL_law 612 = .ok (.iadd, 1) := by decide +kernel
theorem dL_law_613 : decode cL_law 613 = .ok (.iaload, 1) := by decide +kernel
theorem dL_law_614 : decode cL_law 614 = .ok (.aload_n 3, 1) := by decide +kernel
theorem dL_law_615 : decode cL_law 615 = .ok (.invokestatic 109, 3) := by decide +kernel
theorem dL_law_618 : decode cL_law 618 = .ok (.istore 5, 2) := by decide +kernel
theorem dL_law_620 : decode cL_law 620 = .ok (.aload_n 2, 1) := by decide +kernel
theorem dL_law_621 : decode cL_law 621 = .ok (.aload_n 0, 1) := by decide +kernel
theorem dL_law_622 : decode cL_law 622 = .ok (.iload 4, 2) := by decide +kernel
theorem dL_law_624 : decode cL_law 624 = .ok (.iconst 1, 1) := by decide +kernel
theorem dL_law_625 : decode cL_law 625 = .ok (.iadd, 1) := by decide +kernel
theorem dL_law_626 : decode cL_law 626 = .ok (.iaload, 1) := by decide +kernel
theorem dL_law_627 : decode cL_law 627 = .ok (.invokevirtual 111, 3) := by decide +kernel
theorem dL_law_630 : decode cL_law 630 = .ok (.istore 6, 2) := by decide +kernel
theorem dL_law_632 : decode cL_law 632 = .ok (.aload_n 2, 1) := by decide +kernel
theorem dL_law_633 : decode cL_law 633 = .ok (.invokevirtual 84, 3) := by decide +kernel
theorem dL_law_636 : decode cL_law 636 = .ok (.iload 5, 2) := by decide +kernel
theorem dL_law_638 : decode cL_law 638 = .ok (.if_icmp .eq 5, 3) := by decide +kernel
theorem dL_law_641 : decode cL_law 641 = .ok (.iconst 0, 1) := by decide +kernel
theorem dL_law_642 : decode cL_law 642 = .ok (.ireturn, 1) := by decide +kernel
theorem dL_law_643 : decode cL_law 643 = .ok (.iload 5, 2) := by decide +kernel
theorem dL_law_645 : decode cL_law 645 = .ok (.ifCond .ne 15, 3) := by decide +kernel
theorem dL_law_648 : decode cL_law 648 = .ok (.aload_n 3, 1) := by decide +kernel
theorem dL_law_649 : decode cL_law 649 = .ok (.iconst 0, 1) := by decide +kernel
theorem dL_law_650 : decode cL_law 650 = .ok (.laload, 1) := by decide +kernel
theorem dL_law_651 : decode cL_law 651 = .ok (.iload 6, 2) := by decide +kernel
theorem dL_law_653 : decode cL_law 653 = .ok (.i2l, 1) := by decide +kernel
theorem dL_law_654 : decode cL_law 654 = .ok (.lcmp, 1) := by decide +kernel
theorem dL_law_655 : decode cL_law 655 = .ok (.ifCond .eq 5, 3) := by decide +kernel
theorem dL_law_658 : decode cL_law 658 = .ok (.iconst 0, 1) := by decide +kernel
theorem dL_law_659 : decode cL_law 659 = .ok (.ireturn, 1) := by decide +kernel
theorem dL_law_660 : decode cL_law 660 = .ok (.goto 588, 3) := by decide +kernel
theorem dL_law_663 : decode cL_law 663 = .ok (.aload_n 1, 1) := by decide +kernel
theorem dL_law_664 : decode cL_law 664 = .ok (.invokevirtual 112, 3) := by decide +kernel
theorem dL_law_667 : decode cL_law 667 = .ok (.aload_n 2, 1) := by decide +kernel
theorem dL_law_668 : decode cL_law 668 = .ok (.invokevirtual 115, 3) := by decide +kernel
theorem dL_law_671 : decode cL_law 671 = .ok (.if_icmp .eq 577, 3) := by decide +kernel
theorem dL_law_674 : decode cL_law 674 = .ok (.iconst 0, 1) := by decide +kernel
theorem dL_law_675 : decode cL_law 675 = .ok (.ireturn, 1) := by decide +kernel
theorem dL_law_676 : decode cL_law 676 = .ok (.aload_n 1, 1) := by decide +kernel
theorem dL_law_677 : decode cL_law 677 = .ok (.aload_n 0, 1) := by decide +kernel
theorem dL_law_678 : decode cL_law 678 = .ok (.iload 4, 2) := by decide +kernel
theorem dL_law_680 : decode cL_law 680 = .ok (.iconst 1, 1) := by decide +kernel
theorem dL_law_681 : decode cL_law 681 = .ok (.iadd, 1) := by decide +kernel
theorem dL_law_682 : decode cL_law 682 = .ok (.iaload, 1) := by decide +kernel
theorem dL_law_683 : decode cL_law 683 = .ok (.aload_n 3, 1) := by decide +kernel
theorem dL_law_684 : decode cL_law 684 = .ok (.invokestatic 116, 3) := by decide +kernel
theorem dL_law_687 : decode cL_law 687 = .ok (.istore 5, 2) := by decide +kernel
theorem dL_law_689 : decode cL_law 689 = .ok (.aload_n 2, 1) := by decide +kernel
theorem dL_law_690 : decode cL_law 690 = .ok (.aload_n 0, 1) := by decide +kernel
theorem dL_law_691 : decode cL_law 691 = .ok (.iload 4, 2) := by decide +kernel
theorem dL_law_693 : decode cL_law 693 = .ok (.iconst 1, 1) := by decide +kernel
theorem dL_law_694 : decode cL_law 694 = .ok (.iadd, 1) := by decide +kernel
theorem dL_law_695 : decode cL_law 695 = .ok (.iaload, 1) := by decide +kernel
theorem dL_law_696 : decode cL_law 696 = .ok (.invokevirtual 118, 3) := by decide +kernel
theorem dL_law_699 : decode cL_law 699 = .ok (.istore 6, 2) := by decide +kernel
theorem dL_law_701 : decode cL_law 701 = .ok (.aload_n 2, 1) := by decide +kernel
theorem dL_law_702 : decode cL_law 702 = .ok (.invokevirtual 84, 3) := by decide +kernel
theorem dL_law_705 : decode cL_law 705 = .ok (.iload 5, 2) := by decide +kernel
theorem dL_law_707 : decode cL_law 707 = .ok (.if_icmp .eq 5, 3) := by decide +kernel
theorem dL_law_710 : decode cL_law 710 = .ok (.iconst 0, 1) := by decide +kernel
theorem dL_law_711 : decode cL_law 711 = .ok (.ireturn, 1) := by decide +kernel
theorem dL_law_712 : decode cL_law 712 = .ok (.iload 5, 2) := by decide +kernel
theorem dL_law_714 : decode cL_law 714 = .ok (.ifCond .ne 15, 3) := by decide +kernel
theorem dL_law_717 : decode cL_law 717 = .ok (.aload_n 3, 1) := by decide +kernel
theorem dL_law_718 : decode cL_law 718 = .ok (.iconst 0, 1) := by decide +kernel
theorem dL_law_719 : decode cL_law 719 = .ok (.laload, 1) := by decide +kernel
theorem dL_law_720 : decode cL_law 720 = .ok (.iload 6, 2) := by decide +kernel
theorem dL_law_722 : decode cL_law 722 = .ok (.i2l, 1) := by decide +kernel
theorem dL_law_723 : decode cL_law 723 = .ok (.lcmp, 1) := by decide +kernel
theorem dL_law_724 : decode cL_law 724 = .ok (.ifCond .eq 5, 3) := by decide +kernel
theorem dL_law_727 : decode cL_law 727 = .ok (.iconst 0, 1) := by decide +kernel
theorem dL_law_728 : decode cL_law 728 = .ok (.ireturn, 1) := by decide +kernel
theorem dL_law_729 : decode cL_law 729 = .ok (.goto 519, 3) := by decide +kernel
theorem dL_law_732 : decode cL_law 732 = .ok (.aload_n 1, 1) := by decide +kernel
theorem dL_law_733 : decode cL_law 733 = .ok (.aload_n 0, 1) := by decide +kernel
theorem dL_law_734 : decode cL_law 734 = .ok (.iload 4, 2) := by decide +kernel
theorem dL_law_736 : decode cL_law 736 = .ok (.iconst 1, 1) := by decide +kernel
theorem dL_law_737 : decode cL_law 737 = .ok (.iadd, 1) := by decide +kernel
theorem dL_law_738 : decode cL_law 738 = .ok (.iaload, 1) := by decide +kernel
theorem dL_law_739 : decode cL_law 739 = .ok (.aload_n 3, 1) := by decide +kernel
theorem dL_law_740 : decode cL_law 740 = .ok (.invokestatic 119, 3) := by decide +kernel
theorem dL_law_743 : decode cL_law 743 = .ok (.istore 5, 2) := by decide +kernel
theorem dL_law_745 : decode cL_law 745 = .ok (.aload_n 2, 1) := by decide +kernel
theorem dL_law_746 : decode cL_law 746 = .ok (.aload_n 0, 1) := by decide +kernel
theorem dL_law_747 : decode cL_law 747 = .ok (.iload 4, 2) := by decide +kernel
theorem dL_law_749 : decode cL_law 749 = .ok (.iconst 1, 1) := by decide +kernel
theorem dL_law_750 : decode cL_law 750 = .ok (.iadd, 1) := by decide +kernel
theorem dL_law_751 : decode cL_law 751 = .ok (.iaload, 1) := by decide +kernel
theorem dL_law_752 : decode cL_law 752 = .ok (.invokevirtual 121, 3) := by decide +kernel
theorem dL_law_755 : decode cL_law 755 = .ok (.istore 6, 2) := by decide +kernel
theorem dL_law_757 : decode cL_law 757 = .ok (.aload_n 2, 1) := by decide +kernel
theorem dL_law_758 : decode cL_law 758 = .ok (.invokevirtual 84, 3) := by decide +kernel
theorem dL_law_761 : decode cL_law 761 = .ok (.iload 5, 2) := by decide +kernel
theorem dL_law_763 : decode cL_law 763 = .ok (.if_icmp .eq 5, 3) := by decide +kernel
theorem dL_law_766 : decode cL_law 766 = .ok (.iconst 0, 1) := by decide +kernel
theorem dL_law_767 : decode cL_law 767 = .ok (.ireturn, 1) := by decide +kernel
theorem dL_law_768 : decode cL_law 768 = .ok (.iload 5, 2) := by decide +kernel
theorem dL_law_770 : decode cL_law 770 = .ok (.ifCond .ne 15, 3) := by decide +kernel
theorem dL_law_773 : decode cL_law 773 = .ok (.aload_n 3, 1) := by decide +kernel
theorem dL_law_774 : decode cL_law 774 = .ok (.iconst 0, 1) := by decide +kernel
theorem dL_law_775 : decode cL_law 775 = .ok (.laload, 1) := by decide +kernel
theorem dL_law_776 : decode cL_law 776 = .ok (.iload 6, 2) := by decide +kernel
theorem dL_law_778 : decode cL_law 778 = .ok (.i2l, 1) := by decide +kernel
theorem dL_law_779 : decode cL_law 779 = .ok (.lcmp, 1) := by decide +kernel
theorem dL_law_780 : decode cL_law 780 = .ok (.ifCond .eq 5, 3) := by decide +kernel
theorem dL_law_783 : decode cL_law 783 = .ok (.iconst 0, 1) := by decide +kernel
theorem dL_law_784 : decode cL_law 784 = .ok (.ireturn, 1) := by decide +kernel
theorem dL_law_785 : decode cL_law 785 = .ok (.goto 463, 3) := by decide +kernel
theorem dL_law_788 : decode cL_law 788 = .ok (.aload_n 1, 1) := by decide +kernel
theorem dL_law_789 : decode cL_law 789 = .ok (.aload_n 0, 1) := by decide +kernel
theorem dL_law_790 : decode cL_law 790 = .ok (.iload 4, 2) := by decide +kernel
theorem dL_law_792 : decode cL_law 792 = .ok (.iconst 1, 1) := by decide +kernel
theorem dL_law_793 : decode cL_law 793 = .ok (.iadd, 1) := by decide +kernel
theorem dL_law_794 : decode cL_law 794 = .ok (.iaload, 1) := by decide +kernel
theorem dL_law_795 : decode cL_law 795 = .ok (.aload_n 3, 1) := by decide +kernel
theorem dL_law_796 : decode cL_law 796 = .ok (.invokestatic 122, 3) := by decide +kernel
theorem dL_law_799 : decode cL_law 799 = .ok (.istore 5, 2) := by decide +kernel
theorem dL_law_801 : decode cL_law 801 = .ok (.aload_n 2, 1) := by decide +kernel
theorem dL_law_802 : decode cL_law 802 = .ok (.aload_n 0, 1) := by decide +kernel
theorem dL_law_803 : decode cL_law 803 = .ok (.iload 4, 2) := by decide +kernel
theorem dL_law_805 : decode cL_law 805 = .ok (.iconst 1, 1) := by decide +kernel
theorem dL_law_806 : decode cL_law 806 = .ok (.iadd, 1) := by decide +kernel
theorem dL_law_807 : decode cL_law 807 = .ok (.iaload, 1) := by decide +kernel
theorem dL_law_808 : decode cL_law 808 = .ok (.invokevirtual 124, 3) := by decide +kernel
theorem dL_law_811 : decode cL_law 811 = .ok (.istore 6, 2) := by decide +kernel
theorem dL_law_813 : decode cL_law 813 = .ok (.aload_n 2, 1) := by decide +kernel
theorem dL_law_814 : decode cL_law 814 = .ok (.invokevirtual 84, 3) := by decide +kernel
theorem dL_law_817 : decode cL_law 817 = .ok (.iload 5, 2) := by decide +kernel
theorem dL_law_819 : decode cL_law 819 = .ok (.if_icmp .eq 5, 3) := by decide +kernel
theorem dL_law_822 : decode cL_law 822 = .ok (.iconst 0, 1) := by decide +kernel
theorem dL_law_823 : decode cL_law 823 = .ok (.ireturn, 1) := by decide +kernel
theorem dL_law_824 : decode cL_law 824 = .ok (.iload 5, 2) := by decide +kernel
theorem dL_law_826 : decode cL_law 826 = .ok (.ifCond .ne 15, 3) := by decide +kernel
theorem dL_law_829 : decode cL_law 829 = .ok (.aload_n 3, 1) := by decide +kernel
theorem dL_law_830 : decode cL_law 830 = .ok (.iconst 0, 1) := by decide +kernel
theorem dL_law_831 : decode cL_law 831 = .ok (.laload, 1) := by decide +kernel
theorem dL_law_832 : decode cL_law 832 = .ok (.iload 6, 2) := by decide +kernel
theorem dL_law_834 : decode cL_law 834 = .ok (.i2l, 1) := by decide +kernel
theorem dL_law_835 : decode cL_law 835 = .ok (.lcmp, 1) := by decide +kernel
theorem dL_law_836 : decode cL_law 836 = .ok (.ifCond .eq 5, 3) := by decide +kernel
theorem dL_law_839 : decode cL_law 839 = .ok (.iconst 0, 1) := by decide +kernel
theorem dL_law_840 : decode cL_law 840 = .ok (.ireturn, 1) := by decide +kernel
theorem dL_law_841 : decode cL_law 841 = .ok (.goto 407, 3) := by decide +kernel
theorem dL_law_844 : decode cL_law 844 = .ok (.aload_n 1, 1) := by decide +kernel
theorem dL_law_845 : decode cL_law 845 = .ok (.aload_n 0, 1) := by decide +kernel
theorem dL_law_846 : decode cL_law 846 = .ok (.iload 4, 2) := by decide +kernel
theorem dL_law_848 : decode cL_law 848 = .ok (.iconst 1, 1) := by decide +kernel
theorem dL_law_849 : decode cL_law 849 = .ok (.iadd, 1) := by decide +kernel
theorem dL_law_850 : decode cL_law 850 = .ok (.iaload, 1) := by decide +kernel
theorem dL_law_851 : decode cL_law 851 = .ok (.aload_n 3, 1) := by decide +kernel
theorem dL_law_852 : decode cL_law 852 = .ok (.invokestatic 125, 3) := by decide +kernel
theorem dL_law_855 : decode cL_law 855 = .ok (.istore 5, 2) := by decide +kernel
theorem dL_law_857 : decode cL_law 857 = .ok (.aload_n 2, 1) := by decide +kernel
theorem dL_law_858 : decode cL_law 858 = .ok (.aload_n 0, 1) := by decide +kernel
theorem dL_law_859 : decode cL_law 859 = .ok (.iload 4, 2) := by decide +kernel
theorem dL_law_861 : decode cL_law 861 = .ok (.iconst 1, 1) := by decide +kernel
theorem dL_law_862 : decode cL_law 862 = .ok (.iadd, 1) := by decide +kernel
theorem dL_law_863 : decode cL_law 863 = .ok (.iaload, 1) := by decide +kernel
theorem dL_law_864 : decode cL_law 864 = .ok (.invokevirtual 127, 3) := by decide +kernel
theorem dL_law_867 : decode cL_law 867 = .ok (.istore 6, 2) := by decide +kernel
theorem dL_law_869 : decode cL_law 869 = .ok (.aload_n 2, 1) := by decide +kernel
theorem dL_law_870 : decode cL_law 870 = .ok (.invokevirtual 84, 3) := by decide +kernel
theorem dL_law_873 : decode cL_law 873 = .ok (.iload 5, 2) := by decide +kernel
theorem dL_law_875 : decode cL_law 875 = .ok (.if_icmp .eq 5, 3) := by decide +kernel
theorem dL_law_878 : decode cL_law 878 = .ok (.iconst 0, 1) := by decide +kernel
theorem dL_law_879 : decode cL_law 879 = .ok (.ireturn, 1) := by decide +kernel
theorem dL_law_880 : decode cL_law 880 = .ok (.iload 5, 2) := by decide +kernel
theorem dL_law_882 : decode cL_law 882 = .ok (.ifCond .ne 15, 3) := by decide +kernel
theorem dL_law_885 : decode cL_law 885 = .ok (.aload_n 3, 1) := by decide +kernel
theorem dL_law_886 : decode cL_law 886 = .ok (.iconst 0, 1) := by decide +kernel
theorem dL_law_887 : decode cL_law 887 = .ok (.laload, 1) := by decide +kernel
theorem dL_law_888 : decode cL_law 888 = .ok (.iload 6, 2) := by decide +kernel
theorem dL_law_890 : decode cL_law 890 = .ok (.i2l, 1) := by decide +kernel
theorem dL_law_891 : decode cL_law 891 = .ok (.lcmp, 1) := by decide +kernel
theorem dL_law_892 : decode cL_law 892 = .ok (.ifCond .eq 5, 3) := by decide +kernel
theorem dL_law_895 : decode cL_law 895 = .ok (.iconst 0, 1) := by decide +kernel
theorem dL_law_896 : decode cL_law 896 = .ok (.ireturn, 1) := by decide +kernel
theorem dL_law_897 : decode cL_law 897 = .ok (.goto 351, 3) := by decide +kernel
theorem dL_law_900 : decode cL_law 900 = .ok (.aload_n 1, 1) := by decide +kernel
theorem dL_law_901 : decode cL_law 901 = .ok (.aload_n 0, 1) := by decide +kernel
theorem dL_law_902 : decode cL_law 902 = .ok (.iload 4, 2) := by decide +kernel
theorem dL_law_904 : decode cL_law 904 = .ok (.iconst 1, 1) := by decide +kernel
theorem dL_law_905 : decode cL_law 905 = .ok (.iadd, 1) := by decide +kernel
theorem dL_law_906 : decode cL_law 906 = .ok (.iaload, 1) := by decide +kernel
theorem dL_law_907 : decode cL_law 907 = .ok (.aload_n 3, 1) := by decide +kernel
theorem dL_law_908 : decode cL_law 908 = .ok (.invokestatic 128, 3) := by decide +kernel
theorem dL_law_911 : decode cL_law 911 = .ok (.istore 5, 2) := by decide +kernel
theorem dL_law_913 : decode cL_law 913 = .ok (.aload_n 2, 1) := by decide +kernel
theorem dL_law_914 : decode cL_law 914 = .ok (.aload_n 0, 1) := by decide +kernel
theorem dL_law_915 : decode cL_law 915 = .ok (.iload 4, 2) := by decide +kernel
theorem dL_law_917 : decode cL_law 917 = .ok (.iconst 1, 1) := by decide +kernel
theorem dL_law_918 : decode cL_law 918 = .ok (.iadd, 1) := by decide +kernel
theorem dL_law_919 : decode cL_law 919 = .ok (.iaload, 1) := by decide +kernel
theorem dL_law_920 : decode cL_law 920 = .ok (.invokevirtual 130, 3) := by decide +kernel
theorem dL_law_923 : decode cL_law 923 = .ok (.istore 6, 2) := by decide +kernel
theorem dL_law_925 : decode cL_law 925 = .ok (.aload_n 2, 1) := by decide +kernel
theorem dL_law_926 : decode cL_law 926 = .ok (.invokevirtual 84, 3) := by decide +kernel
theorem dL_law_929 : decode cL_law 929 = .ok (.iload 5, 2) := by decide +kernel
theorem dL_law_931 : decode cL_law 931 = .ok (.if_icmp .eq 5, 3) := by decide +kernel
theorem dL_law_934 : decode cL_law 934 = .ok (.iconst 0, 1) := by decide +kernel
theorem dL_law_935 : decode cL_law 935 = .ok (.ireturn, 1) := by decide +kernel
theorem dL_law_936 : decode cL_law 936 = .ok (.iload 5, 2) := by decide +kernel
theorem dL_law_938 : decode cL_law 938 = .ok (.ifCond .ne 15, 3) := by decide +kernel
theorem dL_law_941 : decode cL_law 941 = .ok (.aload_n 3, 1) := by decide +kernel
theorem dL_law_942 : decode cL_law 942 = .ok (.iconst 0, 1) := by decide +kernel
theorem dL_law_943 : decode cL_law 943 = .ok (.laload, 1) := by decide +kernel
theorem dL_law_944 : decode cL_law 944 = .ok (.iload 6, 2) := by decide +kernel
theorem dL_law_946 : decode cL_law 946 = .ok (.i2l, 1) := by decide +kernel
theorem dL_law_947 : decode cL_law 947 = .ok (.lcmp, 1) := by decide +kernel
theorem dL_law_948 : decode cL_law 948 = .ok (.ifCond .eq 5, 3) := by decide +kernel
theorem dL_law_951 : decode cL_law 951 = .ok (.iconst 0, 1) := by decide +kernel
theorem dL_law_952 : decode cL_law 952 = .ok (.ireturn, 1) := by decide +kernel
theorem dL_law_953 : decode cL_law 953 = .ok (.goto 295, 3) := by decide +kernel
theorem dL_law_956 : decode cL_law 956 = .ok (.aload_n 1, 1) := by decide +kernel
theorem dL_law_957 : decode cL_law 957 = .ok (.aload_n 0, 1) := by decide +kernel
theorem dL_law_958 : decode cL_law 958 = .ok (.iload 4, 2) := by decide +kernel
theorem dL_law_960 : decode cL_law 960 = .ok (.iconst 1, 1) := by decide +kernel
theorem dL_law_961 : decode cL_law 961 = .ok (.iadd, 1) := by decide +kernel
theorem dL_law_962 : decode cL_law 962 = .ok (.iaload, 1) := by decide +kernel
theorem dL_law_963 : decode cL_law 963 = .ok (.aload_n 3, 1) := by decide +kernel
theorem dL_law_964 : decode cL_law 964 = .ok (.invokestatic 131, 3) := by decide +kernel
theorem dL_law_967 : decode cL_law 967 = .ok (.istore 5, 2) := by decide +kernel
theorem dL_law_969 : decode cL_law 969 = .ok (.aload_n 2, 1) := by decide +kernel
theorem dL_law_970 : decode cL_law 970 = .ok (.aload_n 0, 1) := by decide +kernel
theorem dL_law_971 : decode cL_law 971 = .ok (.iload 4, 2) := by decide +kernel
theorem dL_law_973 : decode cL_law 973 = .ok (.iconst 1, 1) := by decide +kernel
theorem dL_law_974 : decode cL_law 974 = .ok (.iadd, 1) := by decide +kernel
theorem dL_law_975 : decode cL_law 975 = .ok (.iaload, 1) := by decide +kernel
theorem dL_law_976 : decode cL_law 976 = .ok (.invokevirtual 133, 3) := by decide +kernel
theorem dL_law_979 : decode cL_law 979 = .ok (.istore 6, 2) := by decide +kernel
theorem dL_law_981 : decode cL_law 981 = .ok (.aload_n 2, 1) := by decide +kernel
theorem dL_law_982 : decode cL_law 982 = .ok (.invokevirtual 84, 3) := by decide +kernel
theorem dL_law_985 : decode cL_law 985 = .ok (.iload 5, 2) := by decide +kernel
theorem dL_law_987 : decode cL_law 987 = .ok (.if_icmp .eq 5, 3) := by decide +kernel
theorem dL_law_990 : decode cL_law 990 = .ok (.iconst 0, 1) := by decide +kernel
theorem dL_law_991 : decode cL_law 991 = .ok (.ireturn, 1) := by decide +kernel
theorem dL_law_992 : decode cL_law 992 = .ok (.iload 5, 2) := by decide +kernel
theorem dL_law_994 : decode cL_law 994 = .ok (.ifCond .ne 15, 3) := by decide +kernel
theorem dL_law_997 : decode cL_law 997 = .ok (.aload_n 3, 1) := by decide +kernel
theorem dL_law_998 : decode cL_law 998 = .ok (.iconst 0, 1) := by decide +kernel
theorem dL_law_999 : decode cL_law 999 = .ok (.laload, 1) := by decide +kernel
theorem dL_law_1000 : decode cL_law 1000 = .ok (.iload 6, 2) := by decide +kernel
theorem dL_law_1002 : decode cL_law 1002 = .ok (.i2l, 1) := by decide +kernel
theorem dL_law_1003 : decode cL_law 1003 = .ok (.lcmp, 1) := by decide +kernel
theorem dL_law_1004 : decode cL_law 1004 = .ok (.ifCond .eq 5, 3) := by decide +kernel
theorem dL_law_1007 : decode cL_law 1007 = .ok (.iconst 0, 1) := by decide +kernel
theorem dL_law_1008 : decode cL_law 1008 = .ok (.ireturn, 1) := by decide +kernel
theorem dL_law_1009 : decode cL_law 1009 = .ok (.goto 239, 3) := by decide +kernel
theorem dL_law_1012 : decode cL_law 1012 = .ok (.aload_n 1, 1) := by decide +kernel
theorem dL_law_1013 : decode cL_law 1013 = .ok (.aload_n 0, 1) := by decide +kernel
theorem dL_law_1014 : decode cL_law 1014 = .ok (.iload 4, 2) := by decide +kernel
theorem dL_law_1016 : decode cL_law 1016 = .ok (.iconst 1, 1) := by decide +kernel
theorem dL_law_1017 : decode cL_law 1017 = .ok (.iadd, 1) := by decide +kernel
theorem dL_law_1018 : decode cL_law 1018 = .ok (.iaload, 1) := by decide +kernel
theorem dL_law_1019 : decode cL_law 1019 = .ok (.aload_n 3, 1) := by decide +kernel
theorem dL_law_1020 : decode cL_law 1020 = .ok (.invokestatic 134, 3) := by decide +kernel
theorem dL_law_1023 : decode cL_law 1023 = .ok (.istore 5, 2) := by decide +kernel
theorem dL_law_1025 : decode cL_law 1025 = .ok (.aload_n 2, 1) := by decide +kernel
theorem dL_law_1026 : decode cL_law 1026 = .ok (.aload_n 0, 1) := by decide +kernel
theorem dL_law_1027 : decode cL_law 1027 = .ok (.iload 4, 2) := by decide +kernel
theorem dL_law_1029 : decode cL_law 1029 = .ok (.iconst 1, 1) := by decide +kernel
theorem dL_law_1030 : decode cL_law 1030 = .ok (.iadd, 1) := by decide +kernel
theorem dL_law_1031 : decode cL_law 1031 = .ok (.iaload, 1) := by decide +kernel
theorem dL_law_1032 : decode cL_law 1032 = .ok (.invokevirtual 136, 3) := by decide +kernel
theorem dL_law_1035 : decode cL_law 1035 = .ok (.istore 6, 2) := by decide +kernel
theorem dL_law_1037 : decode cL_law 1037 = .ok (.aload_n 2, 1) := by decide +kernel
theorem dL_law_1038 : decode cL_law 1038 = .ok (.invokevirtual 84, 3) := by decide +kernel
theorem dL_law_1041 : decode cL_law 1041 = .ok (.iload 5, 2) := by decide +kernel
theorem dL_law_1043 : decode cL_law 1043 = .ok (.if_icmp .eq 5, 3) := by decide +kernel
theorem dL_law_1046 : decode cL_law 1046 = .ok (.iconst 0, 1) := by decide +kernel
theorem dL_law_1047 : decode cL_law 1047 = .ok (.ireturn, 1) := by decide +kernel
theorem dL_law_1048 : decode cL_law 1048 = .ok (.iload 5, 2) := by decide +kernel
theorem dL_law_1050 : decode cL_law 1050 = .ok (.ifCond .ne 15, 3) := by decide +kernel
theorem dL_law_1053 : decode cL_law 1053 = .ok (.aload_n 3, 1) := by decide +kernel
theorem dL_law_1054 : decode cL_law 1054 = .ok (.iconst 0, 1) := by decide +kernel
theorem dL_law_1055 : decode cL_law 1055 = .ok (.laload, 1) := by decide +kernel
theorem dL_law_1056 : decode cL_law 1056 = .ok (.iload 6, 2) := by decide +kernel
theorem dL_law_1058 : decode cL_law 1058 = .ok (.i2l, 1) := by decide +kernel
theorem dL_law_1059 : decode cL_law 1059 = .ok (.lcmp, 1) := by decide +kernel
theorem dL_law_1060 : decode cL_law 1060 = .ok (.ifCond .eq 5, 3) := by decide +kernel
theorem dL_law_1063 : decode cL_law 1063 = .ok (.iconst 0, 1) := by decide +kernel
theorem dL_law_1064 : decode cL_law 1064 = .ok (.ireturn, 1) := by decide +kernel
theorem dL_law_1065 : decode cL_law 1065 = .ok (.goto 183, 3) := by decide +kernel
theorem dL_law_1068 : decode cL_law 1068 = .ok (.aload_n 1, 1) := by decide +kernel
theorem dL_law_1069 : decode cL_law 1069 = .ok (.aload_n 0, 1) := by decide +kernel
theorem dL_law_1070 : decode cL_law 1070 = .ok (.iload 4, 2) := by decide +kernel
theorem dL_law_1072 : decode cL_law 1072 = .ok (.iconst 1, 1) := by decide +kernel
theorem dL_law_1073 : decode cL_law 1073 = .ok (.iadd, 1) := by decide +kernel
theorem dL_law_1074 : decode cL_law 1074 = .ok (.iaload, 1) := by decide +kernel
theorem dL_law_1075 : decode cL_law 1075 = .ok (.aload_n 3, 1) := by decide +kernel
theorem dL_law_1076 : decode cL_law 1076 = .ok (.invokestatic 137, 3) := by decide +kernel
theorem dL_law_1079 : decode cL_law 1079 = .ok (.istore 5, 2) := by decide +kernel
theorem dL_law_1081 : decode cL_law 1081 = .ok (.aload_n 2, 1) := by decide +kernel
theorem dL_law_1082 : decode cL_law 1082 = .ok (.aload_n 0, 1) := by decide +kernel
theorem dL_law_1083 : decode cL_law 1083 = .ok (.iload 4, 2) := by decide +kernel
theorem dL_law_1085 : decode cL_law 1085 = .ok (.iconst 1, 1) := by decide +kernel
theorem dL_law_1086 : decode cL_law 1086 = .ok (.iadd, 1) := by decide +kernel
theorem dL_law_1087 : decode cL_law 1087 = .ok (.iaload, 1) := by decide +kernel
theorem dL_law_1088 : decode cL_law 1088 = .ok (.invokevirtual 139, 3) := by decide +kernel
theorem dL_law_1091 : decode cL_law 1091 = .ok (.istore 6, 2) := by decide +kernel
theorem dL_law_1093 : decode cL_law 1093 = .ok (.aload_n 2, 1) := by decide +kernel
theorem dL_law_1094 : decode cL_law 1094 = .ok (.invokevirtual 84, 3) := by decide +kernel
theorem dL_law_1097 : decode cL_law 1097 = .ok (.iload 5, 2) := by decide +kernel
theorem dL_law_1099 : decode cL_law 1099 = .ok (.if_icmp .eq 5, 3) := by decide +kernel
theorem dL_law_1102 : decode cL_law 1102 = .ok (.iconst 0, 1) := by decide +kernel
theorem dL_law_1103 : decode cL_law 1103 = .ok (.ireturn, 1) := by decide +kernel
theorem dL_law_1104 : decode cL_law 1104 = .ok (.iload 5, 2) := by decide +kernel
theorem dL_law_1106 : decode cL_law 1106 = .ok (.ifCond .ne 15, 3) := by decide +kernel
theorem dL_law_1109 : decode cL_law 1109 = .ok (.aload_n 3, 1) := by decide +kernel
theorem dL_law_1110 : decode cL_law 1110 = .ok (.iconst 0, 1) := by decide +kernel
theorem dL_law_1111 : decode cL_law 1111 = .ok (.laload, 1) := by decide +kernel
theorem dL_law_1112 : decode cL_law 1112 = .ok (.iload 6, 2) := by decide +kernel
theorem dL_law_1114 : decode cL_law 1114 = .ok (.i2l, 1) := by decide +kernel
theorem dL_law_1115 : decode cL_law 1115 = .ok (.lcmp, 1) := by decide +kernel
theorem dL_law_1116 : decode cL_law 1116 = .ok (.ifCond .eq 5, 3) := by decide +kernel
theorem dL_law_1119 : decode cL_law 1119 = .ok (.iconst 0, 1) := by decide +kernel
theorem dL_law_1120 : decode cL_law 1120 = .ok (.ireturn, 1) := by decide +kernel
theorem dL_law_1121 : decode cL_law 1121 = .ok (.goto 127, 3) := by decide +kernel
theorem dL_law_1124 : decode cL_law 1124 = .ok (.aload_n 1, 1) := by decide +kernel
theorem dL_law_1125 : decode cL_law 1125 = .ok (.aload_n 0, 1) := by decide +kernel
theorem dL_law_1126 : decode cL_law 1126 = .ok (.iload 4, 2) := by decide +kernel
theorem dL_law_1128 : decode cL_law 1128 = .ok (.iconst 1, 1) := by decide +kernel
theorem dL_law_1129 : decode cL_law 1129 = .ok (.iadd, 1) := by decide +kernel
theorem dL_law_1130 : decode cL_law 1130 = .ok (.iaload, 1) := by decide +kernel
theorem dL_law_1131 : decode cL_law 1131 = .ok (.aload_n 3, 1) := by decide +kernel
theorem dL_law_1132 : decode cL_law 1132 = .ok (.invokestatic 140, 3) := by decide +kernel
theorem dL_law_1135 : decode cL_law 1135 = .ok (.istore 5, 2) := by decide +kernel
theorem dL_law_1137 : decode cL_law 1137 = .ok (.aload_n 2, 1) := by decide +kernel
theorem dL_law_1138 : decode cL_law 1138 = .ok (.aload_n 0, 1) := by decide +kernel
theorem dL_law_1139 : decode cL_law 1139 = .ok (.iload 4, 2) := by decide +kernel
theorem dL_law_1141 : decode cL_law 1141 = .ok (.iconst 1, 1) := by decide +kernel
theorem dL_law_1142 : decode cL_law 1142 = .ok (.iadd, 1) := by decide +kernel
theorem dL_law_1143 : decode cL_law 1143 = .ok (.iaload, 1) := by decide +kernel
theorem dL_law_1144 : decode cL_law 1144 = .ok (.invokevirtual 142, 3) := by decide +kernel
theorem dL_law_1147 : decode cL_law 1147 = .ok (.istore 6, 2) := by decide +kernel
theorem dL_law_1149 : decode cL_law 1149 = .ok (.aload_n 2, 1) := by decide +kernel
theorem dL_law_1150 : decode cL_law 1150 = .ok (.invokevirtual 84, 3) := by decide +kernel
theorem dL_law_1153 : decode cL_law 1153 = .ok (.iload 5, 2) := by decide +kernel
theorem dL_law_1155 : decode cL_law 1155 = .ok (.if_icmp .eq 5, 3) := by decide +kernel
theorem dL_law_1158 : decode cL_law 1158 = .ok (.iconst 0, 1) := by decide +kernel
theorem dL_law_1159 : decode cL_law 1159 = .ok (.ireturn, 1) := by decide +kernel
theorem dL_law_1160 : decode cL_law 1160 = .ok (.iload 5, 2) := by decide +kernel
theorem dL_law_1162 : decode cL_law 1162 = .ok (.ifCond .ne 15, 3) := by decide +kernel
theorem dL_law_1165 : decode cL_law 1165 = .ok (.aload_n 3, 1) := by decide +kernel
theorem dL_law_1166 : decode cL_law 1166 = .ok (.iconst 0, 1) := by decide +kernel
theorem dL_law_1167 : decode cL_law 1167 = .ok (.laload, 1) := by decide +kernel
theorem dL_law_1168 : decode cL_law 1168 = .ok (.iload 6, 2) := by decide +kernel
theorem dL_law_1170 : decode cL_law 1170 = .ok (.i2l, 1) := by decide +kernel
theorem dL_law_1171 : decode cL_law 1171 = .ok (.lcmp, 1) := by decide +kernel
theorem dL_law_1172 : decode cL_law 1172 = .ok (.ifCond .eq 5, 3) := by decide +kernel
theorem dL_law_1175 : decode cL_law 1175 = .ok (.iconst 0, 1) := by decide +kernel
theorem dL_law_1176 : decode cL_law 1176 = .ok (.ireturn, 1) := by decide +kernel
theorem dL_law_1177 : decode cL_law 1177 = .ok (.goto 71, 3) := by decide +kernel
theorem dL_law_1180 : decode cL_law 1180 = .ok (.aload_n 1, 1) := by decide +kernel
theorem dL_law_1181 : decode cL_law 1181 = .ok (.aload_n 0, 1) := by decide +kernel
theorem dL_law_1182 : decode cL_law 1182 = .ok (.iload 4, 2) := by decide +kernel
theorem dL_law_1184 : decode cL_law 1184 = .ok (.iconst 1, 1) := by decide +kernel
theorem dL_law_1185 : decode cL_law 1185 = .ok (.iadd, 1) := by decide +kernel
theorem dL_law_1186 : decode cL_law 1186 = .ok (.iaload, 1) := by decide +kernel
theorem dL_law_1187 : decode cL_law 1187 = .ok (.aload_n 0, 1) := by decide +kernel
theorem dL_law_1188 : decode cL_law 1188 = .ok (.iload 4, 2) := by decide +kernel
theorem dL_law_1190 : decode cL_law 1190 = .ok (.iconst 2, 1) := by decide +kernel
theorem dL_law_1191 : decode cL_law 1191 = .ok (.iadd, 1) := by decide +kernel
theorem dL_law_1192 : decode cL_law 1192 = .ok (.iaload, 1) := by decide +kernel
theorem dL_law_1193 : decode cL_law 1193 = .ok (.aload_n 3, 1) := by decide +kernel
theorem dL_law_1194 : decode cL_law 1194 = .ok (.invokestatic 143, 3) := by decide +kernel
theorem dL_law_1197 : decode cL_law 1197 = .ok (.istore 5, 2) := by decide +kernel
theorem dL_law_1199 : decode cL_law 1199 = .ok (.aload_n 2, 1) := by decide +kernel
theorem dL_law_1200 : decode cL_law 1200 = .ok (.aload_n 0, 1) := by decide +kernel
theorem dL_law_1201 : decode cL_law 1201 = .ok (.iload 4, 2) := by decide +kernel
theorem dL_law_1203 : decode cL_law 1203 = .ok (.iconst 1, 1) := by decide +kernel
theorem dL_law_1204 : decode cL_law 1204 = .ok (.iadd, 1) := by decide +kernel
theorem dL_law_1205 : decode cL_law 1205 = .ok (.iaload, 1) := by decide +kernel
theorem dL_law_1206 : decode cL_law 1206 = .ok (.aload_n 0, 1) := by decide +kernel
theorem dL_law_1207 : decode cL_law 1207 = .ok (.iload 4, 2) := by decide +kernel
theorem dL_law_1209 : decode cL_law 1209 = .ok (.iconst 2, 1) := by decide +kernel
theorem dL_law_1210 : decode cL_law 1210 = .ok (.iadd, 1) := by decide +kernel
theorem dL_law_1211 : decode cL_law 1211 = .ok (.iaload, 1) := by decide +kernel
theorem dL_law_1212 : decode cL_law 1212 = .ok (.invokevirtual 145, 3) := by decide +kernel
theorem dL_law_1215 : decode cL_law 1215 = .ok (.istore 6, 2) := by decide +kernel
theorem dL_law_1217 : decode cL_law 1217 = .ok (.aload_n 2, 1) := by decide +kernel
theorem dL_law_1218 : decode cL_law 1218 = .ok (.invokevirtual 84, 3) := by decide +kernel
theorem dL_law_1221 : decode cL_law 1221 = .ok (.iload 5, 2) := by decide +kernel
theorem dL_law_1223 : decode cL_law 1223 = .ok (.if_icmp .eq 5, 3) := by decide +kernel
theorem dL_law_1226 : decode cL_law 1226 = .ok (.iconst 0, 1) := by decide +kernel
theorem dL_law_1227 : decode cL_law 1227 = .ok (.ireturn, 1) := by decide +kernel
theorem dL_law_1228 : decode cL_law 1228 = .ok (.iload 5, 2) := by decide +kernel
theorem dL_law_1230 : decode cL_law 1230 = .ok (.ifCond .ne 15, 3) := by decide +kernel
theorem dL_law_1233 : decode cL_law 1233 = .ok (.aload_n 3, 1) := by decide +kernel
theorem dL_law_1234 : decode cL_law 1234 = .ok (.iconst 0, 1) := by decide +kernel
theorem dL_law_1235 : decode cL_law 1235 = .ok (.laload, 1) := by decide +kernel
theorem dL_law_1236 : decode cL_law 1236 = .ok (.iload 6, 2) := by decide +kernel
theorem dL_law_1238 : decode cL_law 1238 = .ok (.i2l, 1) := by decide +kernel
theorem dL_law_1239 : decode cL_law 1239 = .ok (.lcmp, 1) := by decide +kernel
theorem dL_law_1240 : decode cL_law 1240 = .ok (.ifCond .eq 5, 3) := by decide +kernel
theorem dL_law_1243 : decode cL_law 1243 = .ok (.iconst 0, 1) := by decide +kernel
theorem dL_law_1244 : decode cL_law 1244 = .ok (.ireturn, 1) := by decide +kernel
theorem dL_law_1245 : decode cL_law 1245 = .ok (.goto 3, 3) := by decide +kernel
theorem dL_law_1248 : decode cL_law 1248 = .ok (.iinc 4 4, 3) := by decide +kernel
theorem dL_law_1251 : decode cL_law 1251 = .ok (.goto (-1228), 3) := by decide +kernel
theorem dL_law_1254 : decode cL_law 1254 = .ok (.iconst 1, 1) := by decide +kernel
theorem dL_law_1255 : decode cL_law 1255 = .ok (.ireturn, 1) := by decide +kernel
abbrev vwCl : List vw_C := [(RJx4a65c, TJx4a65c, 3), (RX0, TX0, 6), (RX1, TX1, 10), (RX2, TX2, 3), (RX3, TX3, 19)]
end
section
/-! contracts over worlds that are passed whole; the state of the reference as a table of numbers -/
abbrev gTy : Type := List (ClassId × FieldType)
def gPre (D : va_G) (tys : gTy) (w0 : va_W) (sz : Nat) (av : List Value) : Array Value → State → Prop := fun v U =>
  v = av.toArray ∧ U.heap.size = sz ∧ va_P D vwCl w0 U.heap ∧ va_K D vwCl tys U ∧ va_D (fun _ => True) w0
theorem gPre_blind {D : va_G} {tys : gTy} {w0 : va_W} {sz : Nat} {av : List Value} : FrameBlind (gPre D tys w0 sz av) := fun a U g mk q =>
  ⟨q.1, q.2.1, q.2.2.1, va_K.moved (u := U) (U := U.calling g mk a) (Vm.Alike.refl U.vm) q.2.2.2.1, q.2.2.2.2⟩
def gB {S : Type} (D : va_G) (tys : gTy) (wf : S → va_W) (A : Nat → Prop) (u : S) (t : State) : Prop := va_P D vwCl (wf u) t.heap ∧ va_K D vwCl tys t ∧ va_D A (wf u)
/-- a contract: from the world w0 and the arguments av -/
def gM (l : Launch) (y : MethodName) (ws : List Cond) (rm : Room) (D : va_G) (tys : gTy) (w0 : va_W) (av : List Value) (Qf : (Nat → Prop) → Array Value → State → Outcome → State → Prop) (mc ms : Nat) : Prop :=
  ∀ sz : Nat, Met l y ws rm (gPre D tys w0 sz av) (Qf (va_A w0 sz)) mc ms (va_A w0 sz)
def gI {S : Type} (l : Launch) (y : MethodName) (ws : List Cond) (rm : Room) (D : va_G) (tys : gTy) (w0 : va_W) (av : List Value) (post : Int32 → S → Prop) (wf : S → va_W) (mc ms : Nat) : Prop :=
  gM l y ws rm D tys w0 av (fun A => va_Qi post (gB D tys wf A) A) mc ms
def gV {S : Type} (l : Launch) (y : MethodName) (ws : List Cond) (rm : Room) (D : va_G) (tys : gTy) (w0 : va_W) (av : List Value) (post : S → Prop) (wf : S → va_W) (mc ms : Nat) : Prop :=
  gM l y ws rm D tys w0 av (fun A => va_Qv post (gB D tys wf A) A) mc ms
def gQ {S : Type} (l : Launch) (y : MethodName) (ws : List Cond) (rm : Room) (D : va_G) (tys : gTy) (w0 : va_W) (av : List Value) (post : Option Nat → S → Prop) (wf : S → va_W) (mc ms : Nat) : Prop :=
  gM l y ws rm D tys w0 av (fun A => va_Qq post (gB D tys wf A) A) mc ms
theorem gFree {A : Nat → Prop} {ws : va_W} {H0 H : Heap} {locs : List Loc} (hD : va_D A ws) (hS : va_S A H0 H locs) (hA : ∀ q : Nat, H0.size ≤ q → A q) : ∀ q : Nat, va_A ws H.size q → A q := by
  intro q h
  rcases h with ⟨k, e, hk⟩ | h
  · exact hD.2 k (q, e) hk
  · exact hA q (Nat.le_trans hS.1 h)
theorem gM.start {l : Launch} {y : MethodName} {ws ws' : List Cond} {rm : Room} {D : va_G} {tys : gTy} {w0 : va_W} {av : List Value} {Qf : (Nat → Prop) → Array Value → State → Outcome → State → Prop} {mc ms : Nat} {cc : ByteArray} {maxL : Nat} {ret : Option FieldType} {own : String}
    (hc : y.cls = own) (hy : plainName y.cls = true) (hw : ws = Cond.code y cc maxL ret :: ws') (hn : (lg_sl av).length ≤ maxL)
    (k : ∀ (p : Program) (e : Env) (s : State) (m : MethodId) (args : Array Value) (below : List Frame) (meth : Method) (c : Code) (A : Nat → Prop) (ls : Array Slot) (H : Heap) (locs : List Loc), p.tables.exec = Jvm.exec → c.code = cc → c.maxLocals = maxL → meth.sig.returnType = ret → (∀ w ∈ ws, w.before args s = true) → s.vm.findClass own = some m.cls → meth.locks = false → meth.name = y.name → (∀ q : Nat, s.heap.size ≤ q → A q) → va_K D vwCl tys s → va_P D vwCl w0 H → va_D A w0 → va_S A s.heap H locs → lv_has ls maxL (lv_args 0 av) →
      W p l e rm s m args below meth c H locs 0 0 (MQ below (Qf A) args s mc ms A) (F0 m 0 ls [])) : gM l y ws rm D tys w0 av Qf mc ms := by
  intro sz
  refine Met.ofW (cc := cc) (maxL := maxL) (ret := ret) hy hw ?_
  intro p e s m args below meth c s₁ B hml hv
  obtain ⟨rfl, hsz, hP, hK, hD0⟩ := hv
  have hown : s.vm.findClass own = some m.cls := hc ▸ findClass_of_methodNamed B.named
  subst hsz
  rw [lg_entry_eq]
  exact k p e s m _ below meth c _ _ s.heap [] B.exec B.bytes hml B.returns (atoms_spec (ws := ws) B.pre) hown B.notSynchronized (name_of_methodNamed B.named B.method).1 (fun q h => Or.inr h) hK hP (hD0.self (sz := s.heap.size)) va_S.rf (lv_entry av hn)
section GCALL
variable {p : Program} {l : Launch} {e : Env} {R : Room} {s : State} {m : MethodId} {args : Array Value} {below : List Frame} {meth : Method} {c : Code} {H : Heap} {locs : List Loc} {cells slots : Nat} {Q : State → Prop}
variable {cc : ByteArray} {pc nL mc ms n index maxL : Nat} {ls : Array Slot} {rest st0 As : List Value} {D : va_G} {A : Nat → Prop} {tys : gTy} {w0 : va_W} {y : MethodName} {bytes : ByteArray} {ret : Option FieldType} {wsy Ts : List Cond} {rm : Room} {own C : String} {b : Addr}
theorem g_calli {S : Type} {post : Int32 → S → Prop} {wf : S → va_W} (F : CallFix p m c cc nL s args Ts own) (hM : gI l y wsy rm D tys w0 (.ref b :: As) post wf mc ms) (cw : CallW R s args own C index y bytes maxL ret wsy rm mc ms n) (hr : ∃ cell : Cell, H[b]? = some cell ∧ cell.vm.isStatics = false ∧ s.vm.findClass C = some cell.cls)
    (hK : va_K D vwCl tys s) (hP : va_P D vwCl w0 H) (hD : va_D A w0) (hS : va_S A s.heap H locs) (hA : ∀ q : Nat, s.heap.size ≤ q → A q) (hn : As.length = n) (hl : ls.size = nL) (hst : st0 = As.reverse ++ .ref b :: rest) (hW : (rest.map fun v => v.category).sum ≤ 8) (hdg : decode cc pc = .ok (.invokevirtual index, 3)) (hf : cells + mc ≤ R.cells ∧ slots + ms ≤ R.slots)
    (kk : ∀ (r : Int32) (u : S) (H1 : Heap) (locs1 : List Loc), post r u → va_P D vwCl (wf u) H1 → va_D A (wf u) → va_S A s.heap H1 locs1 → W p l e R s m args below meth c H1 locs1 (cells + mc) (slots + ms) Q (F0 m (pc + 3) ls (.int r :: rest))) : W p l e R s m args below meth c H locs cells slots Q (F0 m pc ls st0) := by
  refine va_calli (va_runV F (hM H.size) cw ⟨gPre_blind, hr, fun U hU hW => ⟨rfl, by rw [hU], by rw [hU]; exact hP, va_K.moved hW.alike hK, hD.weaken (fun _ _ _ _ => trivial)⟩⟩ rfl hn hl hst (lv_room hW) hdg hf) hS (fun q _ h => gFree hD hS hA q h) (gFree hD hS hA) (fun r u t H1 locs1 ht hvm hw hB hz1 hk1 hS1 => ?_)
  obtain ⟨hP1, hK1, hD1⟩ := hB
  rw [ht] at hP1
  exact kk r u H1 locs1 hw hP1 (hD1.weaken (fun k q _ h => gFree hD hS hA q.1 h)) hS1
theorem g_callv {S : Type} {post : S → Prop} {wf : S → va_W} (F : CallFix p m c cc nL s args Ts own) (hM : gV l y wsy rm D tys w0 (.ref b :: As) post wf mc ms) (cw : CallW R s args own C index y bytes maxL ret wsy rm mc ms n) (hr : ∃ cell : Cell, H[b]? = some cell ∧ cell.vm.isStatics = false ∧ s.vm.findClass C = some cell.cls)
    (hK : va_K D vwCl tys s) (hP : va_P D vwCl w0 H) (hD : va_D A w0) (hS : va_S A s.heap H locs) (hA : ∀ q : Nat, s.heap.size ≤ q → A q) (hn : As.length = n) (hl : ls.size = nL) (hst : st0 = As.reverse ++ .ref b :: rest) (hW : (rest.map fun v => v.category).sum ≤ 8) (hdg : decode cc pc = .ok (.invokevirtual index, 3)) (hf : cells + mc ≤ R.cells ∧ slots + ms ≤ R.slots)
    (kk : ∀ (u : S) (H1 : Heap) (locs1 : List Loc), post u → va_P D vwCl (wf u) H1 → va_D A (wf u) → va_S A s.heap H1 locs1 → W p l e R s m args below meth c H1 locs1 (cells + mc) (slots + ms) Q (F0 m (pc + 3) ls rest)) : W p l e R s m args below meth c H locs cells slots Q (F0 m pc ls st0) := by
  refine va_callv (va_runV F (hM H.size) cw ⟨gPre_blind, hr, fun U hU hW => ⟨rfl, by rw [hU], by rw [hU]; exact hP, va_K.moved hW.alike hK, hD.weaken (fun _ _ _ _ => trivial)⟩⟩ rfl hn hl hst (lv_room hW) hdg hf) hS (fun q _ h => gFree hD hS hA q h) (gFree hD hS hA) (fun u t H1 locs1 ht hvm hw hB hz1 hk1 hS1 => ?_)
  obtain ⟨hP1, hK1, hD1⟩ := hB
  rw [ht] at hP1
  exact kk u H1 locs1 hw hP1 (hD1.weaken (fun k q _ h => gFree hD hS hA q.1 h)) hS1
theorem g_callq {S : Type} {post : Option Nat → S → Prop} {wf : S → va_W} (F : CallFix p m c cc nL s args Ts own) (hM : gQ l y wsy rm D tys w0 (.ref b :: As) post wf mc ms) (cw : CallW R s args own C index y bytes maxL ret wsy rm mc ms n) (hr : ∃ cell : Cell, H[b]? = some cell ∧ cell.vm.isStatics = false ∧ s.vm.findClass C = some cell.cls)
    (hK : va_K D vwCl tys s) (hP : va_P D vwCl w0 H) (hD : va_D A w0) (hS : va_S A s.heap H locs) (hA : ∀ q : Nat, s.heap.size ≤ q → A q) (hn : As.length = n) (hl : ls.size = nL) (hst : st0 = As.reverse ++ .ref b :: rest) (hW : (rest.map fun v => v.category).sum ≤ 8) (hdg : decode cc pc = .ok (.invokevirtual index, 3)) (hf : cells + mc ≤ R.cells ∧ slots + ms ≤ R.slots)
    (kk : ∀ (r : Option Nat) (u : S) (H1 : Heap) (locs1 : List Loc), post r u → va_P D vwCl (wf u) H1 → va_D A (wf u) → va_S A s.heap H1 locs1 → W p l e R s m args below meth c H1 locs1 (cells + mc) (slots + ms) Q (F0 m (pc + 3) ls (va_rf r :: rest))) : W p l e R s m args below meth c H locs cells slots Q (F0 m pc ls st0) := by
  refine va_callq (va_runV F (hM H.size) cw ⟨gPre_blind, hr, fun U hU hW => ⟨rfl, by rw [hU], by rw [hU]; exact hP, va_K.moved hW.alike hK, hD.weaken (fun _ _ _ _ => trivial)⟩⟩ rfl hn hl hst (lv_room hW) hdg hf) hS (fun q _ h => gFree hD hS hA q h) (gFree hD hS hA) (fun r u t H1 locs1 ht hvm hw hB hz1 hk1 hS1 => ?_)
  obtain ⟨hP1, hK1, hD1⟩ := hB
  rw [ht] at hP1
  exact kk r u H1 locs1 hw hP1 (hD1.weaken (fun k q _ h => gFree hD hS hA q.1 h)) hS1
theorem g_scalli {S : Type} {post : Int32 → S → Prop} {wf : S → va_W} (F : CallFix p m c cc nL s args Ts own) (hM : gI l y wsy rm D tys w0 As post wf mc ms) (cw : CallB R s args own index y bytes maxL ret wsy rm mc ms n ∧ (Cond.static y).before args s = true)
    (hK : va_K D vwCl tys s) (hP : va_P D vwCl w0 H) (hD : va_D A w0) (hS : va_S A s.heap H locs) (hA : ∀ q : Nat, s.heap.size ≤ q → A q) (hn : As.length = n) (hl : ls.size = nL) (hst : st0 = As.reverse ++ rest) (hW : (rest.map fun v => v.category).sum ≤ 8) (hdg : decode cc pc = .ok (.invokestatic index, 3)) (hf : cells + mc ≤ R.cells ∧ slots + ms ≤ R.slots)
    (kk : ∀ (r : Int32) (u : S) (H1 : Heap) (locs1 : List Loc), post r u → va_P D vwCl (wf u) H1 → va_D A (wf u) → va_S A s.heap H1 locs1 → W p l e R s m args below meth c H1 locs1 (cells + mc) (slots + ms) Q (F0 m (pc + 3) ls (.int r :: rest))) : W p l e R s m args below meth c H locs cells slots Q (F0 m pc ls st0) := by
  refine va_calli (va_runS F (hM H.size) cw ⟨gPre_blind, fun U hU hW => ⟨rfl, by rw [hU], by rw [hU]; exact hP, va_K.moved hW.alike hK, hD.weaken (fun _ _ _ _ => trivial)⟩⟩ rfl hn hl hst (lv_room hW) hdg hf) hS (fun q _ h => gFree hD hS hA q h) (gFree hD hS hA) (fun r u t H1 locs1 ht hvm hw hB hz1 hk1 hS1 => ?_)
  obtain ⟨hP1, hK1, hD1⟩ := hB
  rw [ht] at hP1
  exact kk r u H1 locs1 hw hP1 (hD1.weaken (fun k q _ h => gFree hD hS hA q.1 h)) hS1
/-- an element of an int array, its index told by a number -/
theorem q_ild (hexec : p.tables.exec = Jvm.exec) (hb : c.code = cc) (hK : va_K D vwCl tys s) (hP : va_P D vwCl w0 H) (q0 t0 : Nat) {cA : ClassId} {k : Nat} {f : Nat → Int32} (ha : w0[q0]? = some (b, .inl (cA, k, .inl f))) (ht : tys[t0]? = some (cA, .int)) {z : Int32} (i : Nat) (hz : z = nI i) (hi : i < k) (hk : k < 2 ^ 31) (hdg : decode cc pc = .ok (.iaload, 1))
    (kk : W p l e R s m args below meth c H locs cells slots Q (F0 m (pc + 1) ls (.int (f i) :: rest))) : W p l e R s m args below meth c H locs cells slots Q (F0 m pc ls (.int z :: .ref b :: rest)) := by
  subst hz
  refine va_iald hexec hb hK hP q0 t0 ha ht (vp_in_nI hi hk) hdg ?_
  rw [nI_clamp (by omega)]
  exact kk
theorem q_zld (hexec : p.tables.exec = Jvm.exec) (hb : c.code = cc) (hK : va_K D vwCl tys s) (hP : va_P D vwCl w0 H) (q0 t0 : Nat) {cA : ClassId} {k : Nat} {f : Nat → Int32} (ha : w0[q0]? = some (b, .inl (cA, k, .inl f))) (ht : tys[t0]? = some (cA, .boolean)) {z : Int32} (i : Nat) (hz : z = nI i) (hi : i < k) (hk : k < 2 ^ 31) (hdg : decode cc pc = .ok (.baload, 1))
    (kk : W p l e R s m args below meth c H locs cells slots Q (F0 m (pc + 1) ls (.int (f i) :: rest))) : W p l e R s m args below meth c H locs cells slots Q (F0 m pc ls (.int z :: .ref b :: rest)) := by
  subst hz
  refine va_zald hexec hb hK hP q0 t0 ha ht (vp_in_nI hi hk) hdg ?_
  rw [nI_clamp (by omega)]
  exact kk
theorem q_ist (hexec : p.tables.exec = Jvm.exec) (hb : c.code = cc) (hK : va_K D vwCl tys s) (hP : va_P D vwCl w0 H) (hD : va_D A w0) (hS : va_S A s.heap H locs) (q0 t0 : Nat) {cA : ClassId} {k : Nat} {f : Nat → Int32} (ha : w0[q0]? = some (b, .inl (cA, k, .inl f))) (ht : tys[t0]? = some (cA, .int)) {z x : Int32} (i : Nat) (hz : z = nI i) (hi : i < k) (hk : k < 2 ^ 31) (hdg : decode cc pc = .ok (.iastore, 1))
    (kk : ∀ (H1 : Heap) (locs1 : List Loc), va_P D vwCl (w0.set q0 (b, .inl (cA, k, .inl (upd f i x)))) H1 → va_D A (w0.set q0 (b, .inl (cA, k, .inl (upd f i x)))) → va_S A s.heap H1 locs1 → W p l e R s m args below meth c H1 locs1 cells slots Q (F0 m (pc + 1) ls rest)) : W p l e R s m args below meth c H locs cells slots Q (F0 m pc ls (.int x :: .int z :: .ref b :: rest)) := by
  subst hz
  refine va_iast hexec hb hK hP hD hS q0 t0 ha ht (vp_in_nI hi hk) hdg ?_
  rw [nI_clamp (by omega)]
  exact kk
theorem q_zst (hexec : p.tables.exec = Jvm.exec) (hb : c.code = cc) (hK : va_K D vwCl tys s) (hP : va_P D vwCl w0 H) (hD : va_D A w0) (hS : va_S A s.heap H locs) (q0 t0 : Nat) {cA : ClassId} {k : Nat} {f : Nat → Int32} (ha : w0[q0]? = some (b, .inl (cA, k, .inl f))) (ht : tys[t0]? = some (cA, .boolean)) {z x : Int32} (i : Nat) (hz : z = nI i) (hi : i < k) (hk : k < 2 ^ 31) (hx : x = 0 ∨ x = 1) (hdg : decode cc pc = .ok (.bastore, 1))
    (kk : ∀ (H1 : Heap) (locs1 : List Loc), va_P D vwCl (w0.set q0 (b, .inl (cA, k, .inl (upd f i x)))) H1 → va_D A (w0.set q0 (b, .inl (cA, k, .inl (upd f i x)))) → va_S A s.heap H1 locs1 → W p l e R s m args below meth c H1 locs1 cells slots Q (F0 m (pc + 1) ls rest)) : W p l e R s m args below meth c H locs cells slots Q (F0 m pc ls (.int x :: .int z :: .ref b :: rest)) := by
  subst hz
  refine va_zast hexec hb hK hP hD hS q0 t0 ha ht (vp_in_nI hi hk) hdg ?_
  have hn : vp_nar .boolean x = x := by rcases hx with rfl | rfl <;> decide
  rw [nI_clamp (by omega), hn]
  exact kk
end GCALL
/-- the table of numbers, one place changed; one row changed -/
def up2 (y : Nat → Nat → Int32) (k i : Nat) (v : Int32) : Nat → Nat → Int32 := fun k' j => if k' = k then (if j = i then v else y k' j) else y k' j
def upA (y : Nat → Nat → Int32) (k : Nat) (f : Nat → Int32) : Nat → Nat → Int32 := fun k' j => if k' = k then f j else y k' j
theorem up2_s (y : Nat → Nat → Int32) (k i : Nat) (v : Int32) : up2 y k i v k i = v := by simp [up2]
theorem up2_n (y : Nat → Nat → Int32) (k i : Nat) (v : Int32) {j : Nat} (h : j ≠ i) : up2 y k i v k j = y k j := by simp [up2, h]
theorem up2_k (y : Nat → Nat → Int32) {k k' : Nat} (i j : Nat) (v : Int32) (h : k' ≠ k) : up2 y k i v k' j = y k' j := by simp [up2, h]
/-- the reference: its object's cell and its arrays' -/
abbrev mE : Type := (Nat × (Nat → Nat)) × (ClassId × ClassId)
def mV (E : mE) (y : Nat → Nat → Int32) : List Value := [.int (y 0 0), .ref (E.1.2 1), .ref (E.1.2 2), .ref (E.1.2 3), .ref (E.1.2 4), .ref (E.1.2 5), .ref (E.1.2 6), .ref (E.1.2 7), .ref (E.1.2 8), .ref (E.1.2 9), .ref (E.1.2 10), .ref (E.1.2 11), .ref (E.1.2 12), .ref (E.1.2 13), .ref (E.1.2 14), .ref (E.1.2 15), .ref (E.1.2 16), .ref (E.1.2 17), .int (y 18 0)]
def mW (E : mE) (y : Nat → Nat → Int32) : va_W := [(E.1.1, .inr (4, mV E y)), (E.1.2 1, .inl (E.2.1, 6, .inl (y 1))), (E.1.2 2, .inl (E.2.1, 6, .inl (y 2))), (E.1.2 3, .inl (E.2.2, 6, .inl (y 3))), (E.1.2 4, .inl (E.2.1, 48, .inl (y 4))), (E.1.2 5, .inl (E.2.1, 6, .inl (y 5))), (E.1.2 6, .inl (E.2.1, 48, .inl (y 6))), (E.1.2 7, .inl (E.2.1, 8, .inl (y 7))), (E.1.2 8, .inl (E.2.1, 8, .inl (y 8))), (E.1.2 9, .inl (E.2.1, 8, .inl (y 9))), (E.1.2 10, .inl (E.2.1, 8, .inl (y 10))), (E.1.2 11, .inl (E.2.1, 8, .inl (y 11))), (E.1.2 12, .inl (E.2.1, 8, .inl (y 12))), (E.1.2 13, .inl (E.2.1, 8, .inl (y 13))), (E.1.2 14, .inl (E.2.2, 8, .inl (y 14))), (E.1.2 15, .inl (E.2.1, 6, .inl (y 15))), (E.1.2 16, .inl (E.2.1, 6, .inl (y 16))), (E.1.2 17, .inl (E.2.1, 48, .inl (y 17)))]
def mT (E : mE) (tl : gTy) : gTy := (E.2.1, .int) :: (E.2.2, .boolean) :: tl
section MROWS
variable {p : Program} {l : Launch} {e : Env} {R : Room} {s : State} {m : MethodId} {args : Array Value} {below : List Frame} {meth : Method} {c : Code} {H : Heap} {locs : List Loc} {cells slots : Nat} {Q : State → Prop}
variable {cc : ByteArray} {pc index : Nat} {ls : Array Slot} {rest : List Value} {D : va_G} {A : Nat → Prop} {tys : gTy} {Ts : List Cond} {E : mE} {y : Nat → Nat → Int32}
/-- a field of the reference's object -/
theorem m_get (hexec : p.tables.exec = Jvm.exec) (hb : c.code = cc) (hts : ∀ w ∈ Ts, w.before args s = true) (hin : ∀ w ∈ wsX30, w ∈ Ts) (hown : s.vm.findClass RX3 = some m.cls) (hK : va_K D vwCl tys s) (hP : va_P D vwCl (mW E y) H) (k : Nat) (hk : k < 19) (hlink : (Cond.fieldLink RX3 index "FairFolioModel" (TX3 k).2.1 (TX3 k).2.2.1).before args s = true) (hsame : (TX3 k).1 = "FairFolioModel") {v : Value} (hv : (mV E y)[k]? = some v) (hdg : decode cc pc = .ok (.getfield index, 3))
    (kk : W p l e R s m args below meth c H locs cells slots Q (F0 m (pc + 3) ls (v :: rest))) : W p l e R s m args below meth c H locs cells slots Q (F0 m pc ls (.ref E.1.1 :: rest)) :=
  va_get (ci := 4) (C := RX3) (T := TX3) (N := 19) hexec hb hts hin hown hK hP 0 rfl rfl k hk hlink (fun _ h => by rw [hsame] at h; exact h) hv hdg kk
theorem m_recv (hK : va_K D vwCl tys s) (hP : va_P D vwCl (mW E y) H) : ∃ cell : Cell, H[E.1.1]? = some cell ∧ cell.vm.isStatics = false ∧ s.vm.findClass RX3 = some cell.cls := va_recv hK hP (ci := 4) (q0 := 0) rfl rfl
end MROWS
end
section
/-! rows over values that are natural numbers -/
section NROWS
variable {p : Program} {l : Launch} {e : Env} {R : Room} {s : State} {m : MethodId} {args : Array Value} {below : List Frame} {meth : Method} {c : Code} {H : Heap} {locs : List Loc} {cells slots : Nat} {Q : State → Prop}
variable {cc : ByteArray} {pc : Nat} {ls : Array Slot} {rest : List Value}
theorem q_add (hexec : p.tables.exec = Jvm.exec) (hb : c.code = cc) {a b : Nat} (hdg : decode cc pc = .ok (.iadd, 1)) (kk : W p l e R s m args below meth c H locs cells slots Q (F0 m (pc + 1) ls (.int (nI (a + b)) :: rest))) : W p l e R s m args below meth c H locs cells slots Q (F0 m pc ls (.int (nI b) :: .int (nI a) :: rest)) := lv_iadd hexec hb hdg (by rw [nI_add]; exact kk)
theorem q_mul (hexec : p.tables.exec = Jvm.exec) (hb : c.code = cc) {a b : Nat} (hdg : decode cc pc = .ok (.imul, 1)) (kk : W p l e R s m args below meth c H locs cells slots Q (F0 m (pc + 1) ls (.int (nI (a * b)) :: rest))) : W p l e R s m args below meth c H locs cells slots Q (F0 m pc ls (.int (nI b) :: .int (nI a) :: rest)) := lv_imul hexec hb hdg (by rw [pk_mul]; exact kk)
theorem q_sub (hexec : p.tables.exec = Jvm.exec) (hb : c.code = cc) {a b : Nat} (hle : b ≤ a) (hdg : decode cc pc = .ok (.isub, 1)) (kk : W p l e R s m args below meth c H locs cells slots Q (F0 m (pc + 1) ls (.int (nI (a - b)) :: rest))) : W p l e R s m args below meth c H locs cells slots Q (F0 m pc ls (.int (nI b) :: .int (nI a) :: rest)) := lv_isub hexec hb hdg (by rw [pk_sub hle]; exact kk)
theorem q_top {x x' : Int32} {g : Nat} (h : x = x') (kk : W p l e R s m args below meth c H locs cells slots Q (F0 m g ls (.int x' :: rest))) : W p l e R s m args below meth c H locs cells slots Q (F0 m g ls (.int x :: rest)) := by
  subst h
  exact kk
theorem q_top2 {x x' : Int32} {v : Value} {g : Nat} (h : x = x') (kk : W p l e R s m args below meth c H locs cells slots Q (F0 m g ls (v :: .int x' :: rest))) : W p l e R s m args below meth c H locs cells slots Q (F0 m g ls (v :: .int x :: rest)) := by
  subst h
  exact kk
theorem q_merge {g : JFrame} (pc2 : Nat) (st2 : Int32 → List Value) (φ : Int32 → Prop) (hk : ∀ z : Int32, φ z → W p l e R s m args below meth c H locs cells slots Q (F0 m pc2 ls (st2 z))) (h : (∀ z : Int32, φ z → W p l e R s m args below meth c H locs cells slots Q (F0 m pc2 ls (st2 z))) → W p l e R s m args below meth c H locs cells slots Q g) : W p l e R s m args below meth c H locs cells slots Q g := h hk
theorem q_icmp_eq (hexec : p.tables.exec = Jvm.exec) (hb : c.code = cc) {a b : Nat} (ha : a < 2 ^ 31) (hb2 : b < 2 ^ 31) {off : Int} {tgt : Nat} (hdg : decode cc pc = .ok (.if_icmp .eq off, 3)) (ht : (pc : Int) + off = (tgt : Int))
    (kt : a = b → W p l e R s m args below meth c H locs cells slots Q (F0 m tgt ls rest)) (kf : ¬ a = b → W p l e R s m args below meth c H locs cells slots Q (F0 m (pc + 3) ls rest)) : W p l e R s m args below meth c H locs cells slots Q (F0 m pc ls (.int (nI b) :: .int (nI a) :: rest)) :=
  lv_icmp_eq hexec hb hdg ht (fun h => kt ((nI_eq ha hb2).mp h)) (fun h => kf (fun q => h ((nI_eq ha hb2).mpr q)))
theorem q_icmp_ne (hexec : p.tables.exec = Jvm.exec) (hb : c.code = cc) {a b : Nat} (ha : a < 2 ^ 31) (hb2 : b < 2 ^ 31) {off : Int} {tgt : Nat} (hdg : decode cc pc = .ok (.if_icmp .ne off, 3)) (ht : (pc : Int) + off = (tgt : Int))
    (kt : ¬ a = b → W p l e R s m args below meth c H locs cells slots Q (F0 m tgt ls rest)) (kf : a = b → W p l e R s m args below meth c H locs cells slots Q (F0 m (pc + 3) ls rest)) : W p l e R s m args below meth c H locs cells slots Q (F0 m pc ls (.int (nI b) :: .int (nI a) :: rest)) :=
  lv_icmp_ne hexec hb hdg ht (fun h => kt (fun q => h ((nI_eq ha hb2).mpr q))) (fun h => kf ((nI_eq ha hb2).mp h))
theorem q_icmp_lt (hexec : p.tables.exec = Jvm.exec) (hb : c.code = cc) {a b : Nat} (ha : a < 2 ^ 31) (hb2 : b < 2 ^ 31) {off : Int} {tgt : Nat} (hdg : decode cc pc = .ok (.if_icmp .lt off, 3)) (ht : (pc : Int) + off = (tgt : Int))
    (kt : a < b → W p l e R s m args below meth c H locs cells slots Q (F0 m tgt ls rest)) (kf : b ≤ a → W p l e R s m args below meth c H locs cells slots Q (F0 m (pc + 3) ls rest)) : W p l e R s m args below meth c H locs cells slots Q (F0 m pc ls (.int (nI b) :: .int (nI a) :: rest)) :=
  lv_icmp_lt hexec hb hdg ht (fun h => kt ((nI_ltI ha hb2).mp h)) (fun h => kf (Nat.le_of_not_lt (fun q => h ((nI_ltI ha hb2).mpr q))))
theorem q_icmp_ge (hexec : p.tables.exec = Jvm.exec) (hb : c.code = cc) {a b : Nat} (ha : a < 2 ^ 31) (hb2 : b < 2 ^ 31) {off : Int} {tgt : Nat} (hdg : decode cc pc = .ok (.if_icmp .ge off, 3)) (ht : (pc : Int) + off = (tgt : Int))
    (kt : b ≤ a → W p l e R s m args below meth c H locs cells slots Q (F0 m tgt ls rest)) (kf : a < b → W p l e R s m args below meth c H locs cells slots Q (F0 m (pc + 3) ls rest)) : W p l e R s m args below meth c H locs cells slots Q (F0 m pc ls (.int (nI b) :: .int (nI a) :: rest)) :=
  lv_icmp_ge hexec hb hdg ht (fun h => kt ((nI_leI hb2 ha).mp h)) (fun h => kf (Nat.lt_of_not_le (fun q => h ((nI_leI hb2 ha).mpr q))))
theorem q_icmp_gt (hexec : p.tables.exec = Jvm.exec) (hb : c.code = cc) {a b : Nat} (ha : a < 2 ^ 31) (hb2 : b < 2 ^ 31) {off : Int} {tgt : Nat} (hdg : decode cc pc = .ok (.if_icmp .gt off, 3)) (ht : (pc : Int) + off = (tgt : Int))
    (kt : b < a → W p l e R s m args below meth c H locs cells slots Q (F0 m tgt ls rest)) (kf : a ≤ b → W p l e R s m args below meth c H locs cells slots Q (F0 m (pc + 3) ls rest)) : W p l e R s m args below meth c H locs cells slots Q (F0 m pc ls (.int (nI b) :: .int (nI a) :: rest)) :=
  lv_icmp_gt hexec hb hdg ht (fun h => kt ((nI_ltI hb2 ha).mp h)) (fun h => kf (Nat.le_of_not_lt (fun q => h ((nI_ltI hb2 ha).mpr q))))
theorem q_icmp_le (hexec : p.tables.exec = Jvm.exec) (hb : c.code = cc) {a b : Nat} (ha : a < 2 ^ 31) (hb2 : b < 2 ^ 31) {off : Int} {tgt : Nat} (hdg : decode cc pc = .ok (.if_icmp .le off, 3)) (ht : (pc : Int) + off = (tgt : Int))
    (kt : a ≤ b → W p l e R s m args below meth c H locs cells slots Q (F0 m tgt ls rest)) (kf : b < a → W p l e R s m args below meth c H locs cells slots Q (F0 m (pc + 3) ls rest)) : W p l e R s m args below meth c H locs cells slots Q (F0 m pc ls (.int (nI b) :: .int (nI a) :: rest)) :=
  lv_icmp_le hexec hb hdg ht (fun h => kt ((nI_leI ha hb2).mp h)) (fun h => kf (Nat.lt_of_not_le (fun q => h ((nI_leI ha hb2).mpr q))))
theorem q_if_eq (hexec : p.tables.exec = Jvm.exec) (hb : c.code = cc) {a : Nat} (ha : a < 2 ^ 31) {off : Int} {tgt : Nat} (hdg : decode cc pc = .ok (.ifCond .eq off, 3)) (ht : (pc : Int) + off = (tgt : Int))
    (kt : a = 0 → W p l e R s m args below meth c H locs cells slots Q (F0 m tgt ls rest)) (kf : ¬ a = 0 → W p l e R s m args below meth c H locs cells slots Q (F0 m (pc + 3) ls rest)) : W p l e R s m args below meth c H locs cells slots Q (F0 m pc ls (.int (nI a) :: rest)) :=
  lv_if_eq hexec hb hdg ht (fun h => kt ((nI_eq ha (by decide)).mp h)) (fun h => kf (fun q => h ((nI_eq ha (by decide)).mpr q)))
theorem q_if_ne (hexec : p.tables.exec = Jvm.exec) (hb : c.code = cc) {a : Nat} (ha : a < 2 ^ 31) {off : Int} {tgt : Nat} (hdg : decode cc pc = .ok (.ifCond .ne off, 3)) (ht : (pc : Int) + off = (tgt : Int))
    (kt : ¬ a = 0 → W p l e R s m args below meth c H locs cells slots Q (F0 m tgt ls rest)) (kf : a = 0 → W p l e R s m args below meth c H locs cells slots Q (F0 m (pc + 3) ls rest)) : W p l e R s m args below meth c H locs cells slots Q (F0 m pc ls (.int (nI a) :: rest)) :=
  lv_if_ne hexec hb hdg ht (fun h => kt (fun q => h ((nI_eq ha (by decide)).mpr q))) (fun h => kf ((nI_eq ha (by decide)).mp h))
theorem q_if_lt (hexec : p.tables.exec = Jvm.exec) (hb : c.code = cc) {a : Nat} (ha : a < 2 ^ 31) {off : Int} {tgt : Nat} (hdg : decode cc pc = .ok (.ifCond .lt off, 3)) (ht : (pc : Int) + off = (tgt : Int))
    (kt : False → W p l e R s m args below meth c H locs cells slots Q (F0 m tgt ls rest)) (kf : True → W p l e R s m args below meth c H locs cells slots Q (F0 m (pc + 3) ls rest)) : W p l e R s m args below meth c H locs cells slots Q (F0 m pc ls (.int (nI a) :: rest)) :=
  lv_if_lt hexec hb hdg ht (fun h => kt (nI_pos ha h)) (fun h => kf (trivial))
theorem q_if_ge (hexec : p.tables.exec = Jvm.exec) (hb : c.code = cc) {a : Nat} (ha : a < 2 ^ 31) {off : Int} {tgt : Nat} (hdg : decode cc pc = .ok (.ifCond .ge off, 3)) (ht : (pc : Int) + off = (tgt : Int))
    (kt : True → W p l e R s m args below meth c H locs cells slots Q (F0 m tgt ls rest)) (kf : False → W p l e R s m args below meth c H locs cells slots Q (F0 m (pc + 3) ls rest)) : W p l e R s m args below meth c H locs cells slots Q (F0 m pc ls (.int (nI a) :: rest)) :=
  lv_if_ge hexec hb hdg ht (fun h => kt (trivial)) (fun h => kf (h (nI_pos' ha)))
theorem q_if_gt (hexec : p.tables.exec = Jvm.exec) (hb : c.code = cc) {a : Nat} (ha : a < 2 ^ 31) {off : Int} {tgt : Nat} (hdg : decode cc pc = .ok (.ifCond .gt off, 3)) (ht : (pc : Int) + off = (tgt : Int))
    (kt : 0 < a → W p l e R s m args below meth c H locs cells slots Q (F0 m tgt ls rest)) (kf : a = 0 → W p l e R s m args below meth c H locs cells slots Q (F0 m (pc + 3) ls rest)) : W p l e R s m args below meth c H locs cells slots Q (F0 m pc ls (.int (nI a) :: rest)) :=
  lv_if_gt hexec hb hdg ht (fun h => kt ((nI_ltI (by decide) ha).mp h)) (fun h => kf (Nat.le_zero.mp (Nat.le_of_not_lt (fun q => h ((nI_ltI (by decide) ha).mpr q)))))
theorem q_if_le (hexec : p.tables.exec = Jvm.exec) (hb : c.code = cc) {a : Nat} (ha : a < 2 ^ 31) {off : Int} {tgt : Nat} (hdg : decode cc pc = .ok (.ifCond .le off, 3)) (ht : (pc : Int) + off = (tgt : Int))
    (kt : a = 0 → W p l e R s m args below meth c H locs cells slots Q (F0 m tgt ls rest)) (kf : 0 < a → W p l e R s m args below meth c H locs cells slots Q (F0 m (pc + 3) ls rest)) : W p l e R s m args below meth c H locs cells slots Q (F0 m pc ls (.int (nI a) :: rest)) :=
  lv_if_le hexec hb hdg ht (fun h => kt (Nat.le_zero.mp ((nI_leI ha (by decide)).mp h))) (fun h => kf (Nat.pos_of_ne_zero (fun q => h ((nI_leI ha (by decide)).mpr (Nat.le_of_eq q)))))
theorem q_inc (hexec : p.tables.exec = Jvm.exec) (hb : c.code = cc) {i nL k a : Nat} {lv lv' : List (Nat × Value)} (hdg : decode cc pc = .ok (.iinc i 1, 3)) (h : lv_has ls nL lv) (hk : lv[k]? = some (i, .int (nI a))) (hn : i < nL) (hl : (i, Value.int (nI (a + 1))) :: lv.filter (fun q => !(q.1 == i) && !(q.1 + 1 == i && q.2.category == 2)) = lv')
    (kk : ∀ ls' : Array Slot, lv_has ls' nL lv' → W p l e R s m args below meth c H locs cells slots Q (F0 m (pc + 3) ls' rest)) : W p l e R s m args below meth c H locs cells slots Q (F0 m pc ls rest) :=
  lv_iinc hexec hb hdg h hk (nI_1 a) hn hl kk
theorem q_dec (hexec : p.tables.exec = Jvm.exec) (hb : c.code = cc) {i nL k a : Nat} (ha : 1 ≤ a) {lv lv' : List (Nat × Value)} (hdg : decode cc pc = .ok (.iinc i (-1), 3)) (h : lv_has ls nL lv) (hk : lv[k]? = some (i, .int (nI a))) (hn : i < nL) (hl : (i, Value.int (nI (a - 1))) :: lv.filter (fun q => !(q.1 == i) && !(q.1 + 1 == i && q.2.category == 2)) = lv')
    (kk : ∀ ls' : Array Slot, lv_has ls' nL lv' → W p l e R s m args below meth c H locs cells slots Q (F0 m (pc + 3) ls' rest)) : W p l e R s m args below meth c H locs cells slots Q (F0 m pc ls rest) := by
  obtain ⟨b, rfl⟩ : ∃ b, a = b + 1 := ⟨a - 1, by omega⟩
  exact lv_iinc hexec hb hdg h hk (pk_m1 b) hn hl kk
end NROWS
end
section
/-! the class: its object's cell and all cells that hang on it, told by a table of numbers x and by what most methods leave as it is -/
abbrev cE : Type := (Nat × Nat × Nat) × ((Nat → Nat) × (Nat → Nat) × (Nat → Nat) × (Nat → Nat)) × (ClassId × ClassId × ClassId × ClassId × ClassId) × (Nat → Nat → Int32) × (Nat → Nat → Nat) × (Nat → Nat) × List Nat
def eO (E : cE) : Nat := E.1.1
def ePa (E : cE) : Nat := E.1.2.1
def eVa (E : cE) : Nat := E.1.2.2
def ePad (E : cE) : Nat → Nat := E.2.1.1
def eVad (E : cE) : Nat → Nat := E.2.1.2.1
def eLad (E : cE) : Nat → Nat := E.2.1.2.2.1
def eSad (E : cE) : Nat → Nat := E.2.1.2.2.2
def eI (E : cE) : ClassId := E.2.2.1.1
def eZ (E : cE) : ClassId := E.2.2.1.2.1
def eP (E : cE) : ClassId := E.2.2.1.2.2.1
def eV (E : cE) : ClassId := E.2.2.1.2.2.2.1
def eB (E : cE) : ClassId := E.2.2.1.2.2.2.2
def eS (E : cE) : Nat → Nat → Int32 := E.2.2.2.1
def ePc (E : cE) : Nat → Nat → Nat := E.2.2.2.2.1
def eEd (E : cE) : Nat → Nat := E.2.2.2.2.2.1
def eLP (E : cE) : List Nat := E.2.2.2.2.2.2
/-- other cards sent; other plans -/
def eSetS (E : cE) (f : Nat → Nat → Int32) : cE := (E.1, E.2.1, E.2.2.1, f, E.2.2.2.2)
def eSetP (E : cE) (pc : Nat → Nat → Nat) (ed : Nat → Nat) (LP : List Nat) : cE := (E.1, E.2.1, E.2.2.1, E.2.2.2.1, pc, ed, LP)
def tpO (E : cE) (z : Int32) : Option Nat := if z < 0 then none else some (ePad E z.toNatClampNeg)
theorem tpO_n (E : cE) : tpO E (-1) = none := rfl
theorem tpO_s (E : cE) {j : Nat} (h : j < 6) : tpO E (nI j) = some (ePad E j) := by
  unfold tpO
  rw [if_neg (nI_pos (by omega)), nI_clamp (by omega)]
def cP (E : cE) (x : Nat → Nat → Int32) (j : Nat) : List Value := [.int (nI j), .int (x 1 j), .int (x 2 j), .int (x 3 j), .int (x 4 j), .int (x 5 j)]
def cV (E : cE) (x : Nat → Nat → Int32) (i : Nat) : List Value := [.ref (eLad E i), .ref (eSad E i), .int (x 6 i), .int (x 7 i), .int (x 8 i), .int (x 9 i), .int (x 10 i), .int (x 11 i), va_rf (tpO E (x 12 i)), .int (x 13 i)]
def cL (E : cE) (x : Nat → Nat → Int32) (i : Nat) : List Value := [.int (x 14 i), .ref (eEd E i), .int (x 15 i)]
def cO (E : cE) (x : Nat → Nat → Int32) : List Value := [.ref (ePa E), .ref (eVa E), .int (x 0 0)]
/-- the row behind a list of n pavilions -/
def pRow (E : cE) (n : Int32) (i : Nat) : Nat → Option Nat := fun k => if k < n.toNatClampNeg then some (ePad E (ePc E i k)) else none
def cPool (E : cE) (x : Nat → Nat → Int32) : va_W := (eLP E).map (fun i => (eEd E i, .inl (eB E, 10, .inr (.inr (.inr (.inr (pRow E (x 15 i) i)))))))
def cF (E : cE) (x : Nat → Nat → Int32) : va_W := [(eO E, .inr (3, cO E x)), (ePa E, .inl (eP E, 6, .inr (.inr (.inr (.inr (fun j => if j < 6 then some (ePad E j) else none)))))), (eVa E, .inl (eV E, 8, .inr (.inr (.inr (.inr (fun i => if i < 8 then some (eVad E i) else none))))))] ++ ((List.range 6).map (fun j => (ePad E j, .inr (1, cP E x j))) ++ ((List.range 8).map (fun i => (eVad E i, .inr (2, cV E x i))) ++ ((List.range 8).map (fun i => (eLad E i, .inr (0, cL E x i))) ++ (List.range 8).map (fun i => (eSad E i, .inl (eI E, 6, .inl (eS E i)))))))
def cW (E : cE) (x : Nat → Nat → Int32) : va_W := cF E x ++ cPool E x
def cT (E : cE) (tl : gTy) : gTy := (eI E, .int) :: (eZ E, .boolean) :: (eP E, .object "FairFolio$Pavilion") :: (eV E, .object "FairFolio$Visitor") :: (eB E, .object "java/lang/Object") :: tl
theorem lt6 {P : Nat → Prop} (h0 : P 0) (h1 : P 1) (h2 : P 2) (h3 : P 3) (h4 : P 4) (h5 : P 5) {i : Nat} (h : i < 6) : P i := by
  rcases (show i = 0 ∨ i = 1 ∨ i = 2 ∨ i = 3 ∨ i = 4 ∨ i = 5 by omega) with rfl | rfl | rfl | rfl | rfl | rfl <;> assumption
theorem lt8 {P : Nat → Prop} (h0 : P 0) (h1 : P 1) (h2 : P 2) (h3 : P 3) (h4 : P 4) (h5 : P 5) (h6 : P 6) (h7 : P 7) {i : Nat} (h : i < 8) : P i := by
  rcases (show i = 0 ∨ i = 1 ∨ i = 2 ∨ i = 3 ∨ i = 4 ∨ i = 5 ∨ i = 6 ∨ i = 7 by omega) with rfl | rfl | rfl | rfl | rfl | rfl | rfl | rfl <;> assumption
theorem cW_O (E : cE) (x : Nat → Nat → Int32) : (cW E x)[0]? = some (eO E, .inr (3, cO E x)) := rfl
theorem cW_Pa (E : cE) (x : Nat → Nat → Int32) : (cW E x)[1]? = some (ePa E, .inl (eP E, 6, .inr (.inr (.inr (.inr (fun j => if j < 6 then some (ePad E j) else none)))))) := rfl
theorem cW_Va (E : cE) (x : Nat → Nat → Int32) : (cW E x)[2]? = some (eVa E, .inl (eV E, 8, .inr (.inr (.inr (.inr (fun i => if i < 8 then some (eVad E i) else none)))))) := rfl
theorem cW_P (E : cE) (x : Nat → Nat → Int32) {j : Nat} (h : j < 6) : (cW E x)[3 + j]? = some (ePad E j, .inr (1, cP E x j)) :=
  lt6 (P := fun j => (cW E x)[3 + j]? = some (ePad E j, .inr (1, cP E x j))) rfl rfl rfl rfl rfl rfl h
theorem cW_V (E : cE) (x : Nat → Nat → Int32) {i : Nat} (h : i < 8) : (cW E x)[9 + i]? = some (eVad E i, .inr (2, cV E x i)) :=
  lt8 (P := fun i => (cW E x)[9 + i]? = some (eVad E i, .inr (2, cV E x i))) rfl rfl rfl rfl rfl rfl rfl rfl h
theorem cW_L (E : cE) (x : Nat → Nat → Int32) {i : Nat} (h : i < 8) : (cW E x)[17 + i]? = some (eLad E i, .inr (0, cL E x i)) :=
  lt8 (P := fun i => (cW E x)[17 + i]? = some (eLad E i, .inr (0, cL E x i))) rfl rfl rfl rfl rfl rfl rfl rfl h
theorem cW_S (E : cE) (x : Nat → Nat → Int32) {i : Nat} (h : i < 8) : (cW E x)[25 + i]? = some (eSad E i, .inl (eI E, 6, .inl (eS E i))) :=
  lt8 (P := fun i => (cW E x)[25 + i]? = some (eSad E i, .inl (eI E, 6, .inl (eS E i)))) rfl rfl rfl rfl rfl rfl rfl rfl h
theorem cW_setO (E : cE) (x : Nat → Nat → Int32) (v : Int32) : (cW E x).set 0 (eO E, .inr (3, (cO E x).set 2 (.int v))) = cW E (up2 x 0 0 v) := rfl
theorem cW_setP1 (E : cE) (x : Nat → Nat → Int32) (v : Int32) {j : Nat} (h : j < 6) : (cW E x).set (3 + j) (ePad E j, .inr (1, (cP E x j).set 1 (.int v))) = cW E (up2 x 1 j v) :=
  lt6 (P := fun j => (cW E x).set (3 + j) (ePad E j, .inr (1, (cP E x j).set 1 (.int v))) = cW E (up2 x 1 j v)) rfl rfl rfl rfl rfl rfl h
theorem cW_setP2 (E : cE) (x : Nat → Nat → Int32) (v : Int32) {j : Nat} (h : j < 6) : (cW E x).set (3 + j) (ePad E j, .inr (1, (cP E x j).set 2 (.int v))) = cW E (up2 x 2 j v) :=
  lt6 (P := fun j => (cW E x).set (3 + j) (ePad E j, .inr (1, (cP E x j).set 2 (.int v))) = cW E (up2 x 2 j v)) rfl rfl rfl rfl rfl rfl h
theorem cW_setP3 (E : cE) (x : Nat → Nat → Int32) (v : Int32) {j : Nat} (h : j < 6) : (cW E x).set (3 + j) (ePad E j, .inr (1, (cP E x j).set 3 (.int v))) = cW E (up2 x 3 j v) :=
  lt6 (P := fun j => (cW E x).set (3 + j) (ePad E j, .inr (1, (cP E x j).set 3 (.int v))) = cW E (up2 x 3 j v)) rfl rfl rfl rfl rfl rfl h
theorem cW_setP4 (E : cE) (x : Nat → Nat → Int32) (v : Int32) {j : Nat} (h : j < 6) : (cW E x).set (3 + j) (ePad E j, .inr (1, (cP E x j).set 4 (.int v))) = cW E (up2 x 4 j v) :=
  lt6 (P := fun j => (cW E x).set (3 + j) (ePad E j, .inr (1, (cP E x j).set 4 (.int v))) = cW E (up2 x 4 j v)) rfl rfl rfl rfl rfl rfl h
theorem cW_setP5 (E : cE) (x : Nat → Nat → Int32) (v : Int32) {j : Nat} (h : j < 6) : (cW E x).set (3 + j) (ePad E j, .inr (1, (cP E x j).set 5 (.int v))) = cW E (up2 x 5 j v) :=
  lt6 (P := fun j => (cW E x).set (3 + j) (ePad E j, .inr (1, (cP E x j).set 5 (.int v))) = cW E (up2 x 5 j v)) rfl rfl rfl rfl rfl rfl h
theorem cW_setV6 (E : cE) (x : Nat → Nat → Int32) (v : Int32) {i : Nat} (h : i < 8) : (cW E x).set (9 + i) (eVad E i, .inr (2, (cV E x i).set 2 (.int v))) = cW E (up2 x 6 i v) :=
  lt8 (P := fun i => (cW E x).set (9 + i) (eVad E i, .inr (2, (cV E x i).set 2 (.int v))) = cW E (up2 x 6 i v)) rfl rfl rfl rfl rfl rfl rfl rfl h
theorem cW_setV7 (E : cE) (x : Nat → Nat → Int32) (v : Int32) {i : Nat} (h : i < 8) : (cW E x).set (9 + i) (eVad E i, .inr (2, (cV E x i).set 3 (.int v))) = cW E (up2 x 7 i v) :=
  lt8 (P := fun i => (cW E x).set (9 + i) (eVad E i, .inr (2, (cV E x i).set 3 (.int v))) = cW E (up2 x 7 i v)) rfl rfl rfl rfl rfl rfl rfl rfl h
theorem cW_setV8 (E : cE) (x : Nat → Nat → Int32) (v : Int32) {i : Nat} (h : i < 8) : (cW E x).set (9 + i) (eVad E i, .inr (2, (cV E x i).set 4 (.int v))) = cW E (up2 x 8 i v) :=
  lt8 (P := fun i => (cW E x).set (9 + i) (eVad E i, .inr (2, (cV E x i).set 4 (.int v))) = cW E (up2 x 8 i v)) rfl rfl rfl rfl rfl rfl rfl rfl h
theorem cW_setV9 (E : cE) (x : Nat → Nat → Int32) (v : Int32) {i : Nat} (h : i < 8) : (cW E x).set (9 + i) (eVad E i, .inr (2, (cV E x i).set 5 (.int v))) = cW E (up2 x 9 i v) :=
  lt8 (P := fun i => (cW E x).set (9 + i) (eVad E i, .inr (2, (cV E x i).set 5 (.int v))) = cW E (up2 x 9 i v)) rfl rfl rfl rfl rfl rfl rfl rfl h
theorem cW_setV10 (E : cE) (x : Nat → Nat → Int32) (v : Int32) {i : Nat} (h : i < 8) : (cW E x).set (9 + i) (eVad E i, .inr (2, (cV E x i).set 6 (.int v))) = cW E (up2 x 10 i v) :=
  lt8 (P := fun i => (cW E x).set (9 + i) (eVad E i, .inr (2, (cV E x i).set 6 (.int v))) = cW E (up2 x 10 i v)) rfl rfl rfl rfl rfl rfl rfl rfl h
theorem cW_setV11 (E : cE) (x : Nat → Nat → Int32) (v : Int32) {i : Nat} (h : i < 8) : (cW E x).set (9 + i) (eVad E i, .inr (2, (cV E x i).set 7 (.int v))) = cW E (up2 x 11 i v) :=
  lt8 (P := fun i => (cW E x).set (9 + i) (eVad E i, .inr (2, (cV E x i).set 7 (.int v))) = cW E (up2 x 11 i v)) rfl rfl rfl rfl rfl rfl rfl rfl h
theorem cW_setV13 (E : cE) (x : Nat → Nat → Int32) (v : Int32) {i : Nat} (h : i < 8) : (cW E x).set (9 + i) (eVad E i, .inr (2, (cV E x i).set 9 (.int v))) = cW E (up2 x 13 i v) :=
  lt8 (P := fun i => (cW E x).set (9 + i) (eVad E i, .inr (2, (cV E x i).set 9 (.int v))) = cW E (up2 x 13 i v)) rfl rfl rfl rfl rfl rfl rfl rfl h
theorem cW_setV12 (E : cE) (x : Nat → Nat → Int32) (v : Int32) {i : Nat} (h : i < 8) : (cW E x).set (9 + i) (eVad E i, .inr (2, (cV E x i).set 8 (va_rf (tpO E v)))) = cW E (up2 x 12 i v) :=
  lt8 (P := fun i => (cW E x).set (9 + i) (eVad E i, .inr (2, (cV E x i).set 8 (va_rf (tpO E v)))) = cW E (up2 x 12 i v)) rfl rfl rfl rfl rfl rfl rfl rfl h
theorem cW_setL14 (E : cE) (x : Nat → Nat → Int32) (v : Int32) {i : Nat} (h : i < 8) : (cW E x).set (17 + i) (eLad E i, .inr (0, (cL E x i).set 0 (.int v))) = cW E (up2 x 14 i v) :=
  lt8 (P := fun i => (cW E x).set (17 + i) (eLad E i, .inr (0, (cL E x i).set 0 (.int v))) = cW E (up2 x 14 i v)) rfl rfl rfl rfl rfl rfl rfl rfl h
section CROWS
variable {p : Program} {l : Launch} {e : Env} {R : Room} {s : State} {m : MethodId} {args : Array Value} {below : List Frame} {meth : Method} {c : Code} {H : Heap} {locs : List Loc} {cells slots : Nat} {Q : State → Prop}
variable {cc : ByteArray} {pc index : Nat} {ls : Array Slot} {rest : List Value} {D : va_G} {A : Nat → Prop} {tl : gTy} {tys : gTy} {Ts : List Cond} {E : cE} {x : Nat → Nat → Int32}
theorem c_getO (hexec : p.tables.exec = Jvm.exec) (hb : c.code = cc) (hts : ∀ w ∈ Ts, w.before args s = true) (hin : ∀ w ∈ wsX20, w ∈ Ts) (hown : s.vm.findClass RX2 = some m.cls) (hK : va_K D vwCl tys s) (hP : va_P D vwCl (cW E x) H)  (k : Nat) (hk : k < 3) (hlink : (Cond.fieldLink RX2 index "FairFolio" (TX2 k).2.1 (TX2 k).2.2.1).before args s = true) (hsame : (TX2 k).1 = "FairFolio") {v : Value} (hv : (cO E x)[k]? = some v) (hdg : decode cc pc = .ok (.getfield index, 3))
    (kk : W p l e R s m args below meth c H locs cells slots Q (F0 m (pc + 3) ls (v :: rest))) : W p l e R s m args below meth c H locs cells slots Q (F0 m pc ls (.ref (eO E) :: rest)) :=
  va_get (ci := 3) (C := RX2) (T := TX2) (N := 3) hexec hb hts hin hown hK hP 0 (cW_O E x) rfl k hk hlink (fun _ h => by rw [hsame] at h; exact h) hv hdg kk
theorem c_getP (hexec : p.tables.exec = Jvm.exec) (hb : c.code = cc) (hts : ∀ w ∈ Ts, w.before args s = true) (hin : ∀ w ∈ wsX00, w ∈ Ts) (hown : s.vm.findClass RX2 = some m.cls) (hK : va_K D vwCl tys s) (hP : va_P D vwCl (cW E x) H) {j : Nat} (hj : j < 6) (k : Nat) (hk : k < 6) (hlink : (Cond.fieldLink RX2 index "FairFolio$Pavilion" (TX0 k).2.1 (TX0 k).2.2.1).before args s = true) (hsame : (TX0 k).1 = "FairFolio$Pavilion") {v : Value} (hv : (cP E x j)[k]? = some v) (hdg : decode cc pc = .ok (.getfield index, 3))
    (kk : W p l e R s m args below meth c H locs cells slots Q (F0 m (pc + 3) ls (v :: rest))) : W p l e R s m args below meth c H locs cells slots Q (F0 m pc ls (.ref (ePad E j) :: rest)) :=
  va_get (ci := 1) (C := RX0) (T := TX0) (N := 6) hexec hb hts hin hown hK hP (3 + j) (cW_P E x hj) rfl k hk hlink (fun _ h => by rw [hsame] at h; exact h) hv hdg kk
theorem c_getV (hexec : p.tables.exec = Jvm.exec) (hb : c.code = cc) (hts : ∀ w ∈ Ts, w.before args s = true) (hin : ∀ w ∈ wsX10, w ∈ Ts) (hown : s.vm.findClass RX2 = some m.cls) (hK : va_K D vwCl tys s) (hP : va_P D vwCl (cW E x) H) {i : Nat} (hi : i < 8) (k : Nat) (hk : k < 10) (hlink : (Cond.fieldLink RX2 index "FairFolio$Visitor" (TX1 k).2.1 (TX1 k).2.2.1).before args s = true) (hsame : (TX1 k).1 = "FairFolio$Visitor") {v : Value} (hv : (cV E x i)[k]? = some v) (hdg : decode cc pc = .ok (.getfield index, 3))
    (kk : W p l e R s m args below meth c H locs cells slots Q (F0 m (pc + 3) ls (v :: rest))) : W p l e R s m args below meth c H locs cells slots Q (F0 m pc ls (.ref (eVad E i) :: rest)) :=
  va_get (ci := 2) (C := RX1) (T := TX1) (N := 10) hexec hb hts hin hown hK hP (9 + i) (cW_V E x hi) rfl k hk hlink (fun _ h => by rw [hsame] at h; exact h) hv hdg kk
theorem c_putO (hexec : p.tables.exec = Jvm.exec) (hb : c.code = cc) (hts : ∀ w ∈ Ts, w.before args s = true) (hin : ∀ w ∈ wsX20, w ∈ Ts) (hown : s.vm.findClass RX2 = some m.cls) (hK : va_K D vwCl tys s) (hP : va_P D vwCl (cW E x) H) (hD : va_D A (cW E x)) (hS : va_S A s.heap H locs)  (k f : Nat) (hk : k < 3) {v : Int32} (hset : (cW E x).set 0 ((eO E), .inr (3, (cO E x).set k (.int v))) = cW E (up2 x f 0 v)) (hlink : (Cond.fieldLink RX2 index "FairFolio" (TX2 k).2.1 (TX2 k).2.2.1).before args s = true) (hsame : (TX2 k).1 = "FairFolio") (hfin : (TX2 k).2.2.2 = false) {ty : FieldType} (hd : parseFieldDescriptor (TX2 k).2.2.1 = some ty) (hn : narrow ty (.int v) = .int v) (hfit : fits ty (.int v) = true) (hdg : decode cc pc = .ok (.putfield index, 3))
    (kk : ∀ (H1 : Heap) (locs1 : List Loc), va_P D vwCl (cW E (up2 x f 0 v)) H1 → va_D A (cW E (up2 x f 0 v)) → va_S A s.heap H1 locs1 → W p l e R s m args below meth c H1 locs1 cells slots Q (F0 m (pc + 3) ls rest)) : W p l e R s m args below meth c H locs cells slots Q (F0 m pc ls (.int v :: .ref (eO E) :: rest)) := by
  refine va_put (ci := 3) (C := RX2) (T := TX2) (N := 3) hexec hb hts hin tyX2 tyX2_ok nmX2 hown hK hP hD hS 0 (cW_O E x) rfl k hk hlink (fun _ h => by rw [hsame] at h; exact h) hfin hd hn hfit hk hdg ?_
  rw [hset]
  exact kk
theorem c_putP (hexec : p.tables.exec = Jvm.exec) (hb : c.code = cc) (hts : ∀ w ∈ Ts, w.before args s = true) (hin : ∀ w ∈ wsX00, w ∈ Ts) (hown : s.vm.findClass RX2 = some m.cls) (hK : va_K D vwCl tys s) (hP : va_P D vwCl (cW E x) H) (hD : va_D A (cW E x)) (hS : va_S A s.heap H locs) {j : Nat} (hj : j < 6) (k f : Nat) (hk : k < 6) {v : Int32} (hset : (cW E x).set (3 + j) ((ePad E j), .inr (1, (cP E x j).set k (.int v))) = cW E (up2 x f j v)) (hlink : (Cond.fieldLink RX2 index "FairFolio$Pavilion" (TX0 k).2.1 (TX0 k).2.2.1).before args s = true) (hsame : (TX0 k).1 = "FairFolio$Pavilion") (hfin : (TX0 k).2.2.2 = false) {ty : FieldType} (hd : parseFieldDescriptor (TX0 k).2.2.1 = some ty) (hn : narrow ty (.int v) = .int v) (hfit : fits ty (.int v) = true) (hdg : decode cc pc = .ok (.putfield index, 3))
    (kk : ∀ (H1 : Heap) (locs1 : List Loc), va_P D vwCl (cW E (up2 x f j v)) H1 → va_D A (cW E (up2 x f j v)) → va_S A s.heap H1 locs1 → W p l e R s m args below meth c H1 locs1 cells slots Q (F0 m (pc + 3) ls rest)) : W p l e R s m args below meth c H locs cells slots Q (F0 m pc ls (.int v :: .ref (ePad E j) :: rest)) := by
  refine va_put (ci := 1) (C := RX0) (T := TX0) (N := 6) hexec hb hts hin tyX0 tyX0_ok nmX0 hown hK hP hD hS (3 + j) (cW_P E x hj) rfl k hk hlink (fun _ h => by rw [hsame] at h; exact h) hfin hd hn hfit hk hdg ?_
  rw [hset]
  exact kk
theorem c_putV (hexec : p.tables.exec = Jvm.exec) (hb : c.code = cc) (hts : ∀ w ∈ Ts, w.before args s = true) (hin : ∀ w ∈ wsX10, w ∈ Ts) (hown : s.vm.findClass RX2 = some m.cls) (hK : va_K D vwCl tys s) (hP : va_P D vwCl (cW E x) H) (hD : va_D A (cW E x)) (hS : va_S A s.heap H locs) {i : Nat} (hi : i < 8) (k f : Nat) (hk : k < 10) {v : Int32} (hset : (cW E x).set (9 + i) ((eVad E i), .inr (2, (cV E x i).set k (.int v))) = cW E (up2 x f i v)) (hlink : (Cond.fieldLink RX2 index "FairFolio$Visitor" (TX1 k).2.1 (TX1 k).2.2.1).before args s = true) (hsame : (TX1 k).1 = "FairFolio$Visitor") (hfin : (TX1 k).2.2.2 = false) {ty : FieldType} (hd : parseFieldDescriptor (TX1 k).2.2.1 = some ty) (hn : narrow ty (.int v) = .int v) (hfit : fits ty (.int v) = true) (hdg : decode cc pc = .ok (.putfield index, 3))
    (kk : ∀ (H1 : Heap) (locs1 : List Loc), va_P D vwCl (cW E (up2 x f i v)) H1 → va_D A (cW E (up2 x f i v)) → va_S A s.heap H1 locs1 → W p l e R s m args below meth c H1 locs1 cells slots Q (F0 m (pc + 3) ls rest)) : W p l e R s m args below meth c H locs cells slots Q (F0 m pc ls (.int v :: .ref (eVad E i) :: rest)) := by
  refine va_put (ci := 2) (C := RX1) (T := TX1) (N := 10) hexec hb hts hin tyX1 tyX1_ok nmX1 hown hK hP hD hS (9 + i) (cW_V E x hi) rfl k hk hlink (fun _ h => by rw [hsame] at h; exact h) hfin hd hn hfit hk hdg ?_
  rw [hset]
  exact kk
/-- the pavilion of a visitor's turn is set: z is its number, or -1 -/
theorem c_putVT (hexec : p.tables.exec = Jvm.exec) (hb : c.code = cc) (hts : ∀ w ∈ Ts, w.before args s = true) (hin : ∀ w ∈ wsX10, w ∈ Ts) (hown : s.vm.findClass RX2 = some m.cls) (hK : va_K D vwCl tys s) (hP : va_P D vwCl (cW E x) H) (hD : va_D A (cW E x)) (hS : va_S A s.heap H locs) {i : Nat} (hi : i < 8) (z : Int32) {v : Value} (hv : v = va_rf (tpO E z)) (hlink : (Cond.fieldLink RX2 index "FairFolio$Visitor" "turnPavilion" "LFairFolio$Pavilion;").before args s = true) (hdg : decode cc pc = .ok (.putfield index, 3))
    (kk : ∀ (H1 : Heap) (locs1 : List Loc), va_P D vwCl (cW E (up2 x 12 i z)) H1 → va_D A (cW E (up2 x 12 i z)) → va_S A s.heap H1 locs1 → W p l e R s m args below meth c H1 locs1 cells slots Q (F0 m (pc + 3) ls rest)) : W p l e R s m args below meth c H locs cells slots Q (F0 m pc ls (v :: .ref (eVad E i) :: rest)) := by
  subst hv
  refine va_put (ci := 2) (C := RX1) (T := TX1) (N := 10) (v := va_rf (tpO E z)) (ty := .object "FairFolio$Pavilion") hexec hb hts hin tyX1 tyX1_ok nmX1 hown hK hP hD hS (9 + i) (cW_V E x hi) rfl 8 (by decide) hlink (fun _ h => h) rfl (by decide +kernel) ?_ ?_ (by show 8 < 10; decide) hdg ?_
  · cases tpO E z <;> rfl
  · cases tpO E z <;> rfl
  · rw [cW_setV12 E x z hi]
    exact kk
theorem c_plen (hexec : p.tables.exec = Jvm.exec) (hb : c.code = cc) (hK : va_K D vwCl (cT E tl) s) (hP : va_P D vwCl (cW E x) H) (hdg : decode cc pc = .ok (.arraylength, 1)) (kk : W p l e R s m args below meth c H locs cells slots Q (F0 m (pc + 1) ls (.int (nI 6) :: rest))) : W p l e R s m args below meth c H locs cells slots Q (F0 m pc ls (.ref (ePa E) :: rest)) :=
  va_alen hexec hb hK hP 1 2 (cW_Pa E x) (ty := .object "FairFolio$Pavilion") rfl rfl hdg kk
theorem c_vlen (hexec : p.tables.exec = Jvm.exec) (hb : c.code = cc) (hK : va_K D vwCl (cT E tl) s) (hP : va_P D vwCl (cW E x) H) (hdg : decode cc pc = .ok (.arraylength, 1)) (kk : W p l e R s m args below meth c H locs cells slots Q (F0 m (pc + 1) ls (.int (nI 8) :: rest))) : W p l e R s m args below meth c H locs cells slots Q (F0 m pc ls (.ref (eVa E) :: rest)) :=
  va_alen hexec hb hK hP 2 3 (cW_Va E x) (ty := .object "FairFolio$Visitor") rfl rfl hdg kk
theorem c_pald (hexec : p.tables.exec = Jvm.exec) (hb : c.code = cc) (hK : va_K D vwCl (cT E tl) s) (hP : va_P D vwCl (cW E x) H) {j : Nat} (hj : j < 6) (hdg : decode cc pc = .ok (.aaload, 1)) (kk : W p l e R s m args below meth c H locs cells slots Q (F0 m (pc + 1) ls (.ref (ePad E j) :: rest))) : W p l e R s m args below meth c H locs cells slots Q (F0 m pc ls (.int (nI j) :: .ref (ePa E) :: rest)) := by
  refine va_aldq hexec hb hK hP 1 2 (C := "FairFolio$Pavilion") (cW_Pa E x) rfl (vp_in_nI hj (by decide)) hdg ?_
  rw [nI_clamp (by omega), if_pos hj]
  exact kk
theorem c_vald (hexec : p.tables.exec = Jvm.exec) (hb : c.code = cc) (hK : va_K D vwCl (cT E tl) s) (hP : va_P D vwCl (cW E x) H) {i : Nat} (hi : i < 8) (hdg : decode cc pc = .ok (.aaload, 1)) (kk : W p l e R s m args below meth c H locs cells slots Q (F0 m (pc + 1) ls (.ref (eVad E i) :: rest))) : W p l e R s m args below meth c H locs cells slots Q (F0 m pc ls (.int (nI i) :: .ref (eVa E) :: rest)) := by
  refine va_aldq hexec hb hK hP 2 3 (C := "FairFolio$Visitor") (cW_Va E x) rfl (vp_in_nI hi (by decide)) hdg ?_
  rw [nI_clamp (by omega), if_pos hi]
  exact kk
theorem c_recv (hK : va_K D vwCl tys s) (hP : va_P D vwCl (cW E x) H) : ∃ cell : Cell, H[eO E]? = some cell ∧ cell.vm.isStatics = false ∧ s.vm.findClass RX2 = some cell.cls := va_recv hK hP (ci := 3) (q0 := 0) rfl (cW_O E x)
theorem c_recvL (hK : va_K D vwCl tys s) (hP : va_P D vwCl (cW E x) H) {i : Nat} (hi : i < 8) : ∃ cell : Cell, H[eLad E i]? = some cell ∧ cell.vm.isStatics = false ∧ s.vm.findClass RJx4a65c = some cell.cls := va_recv hK hP (ci := 0) (q0 := 17 + i) rfl (cW_L E x hi)
theorem c_recvP (hK : va_K D vwCl tys s) (hP : va_P D vwCl (cW E x) H) {j : Nat} (hj : j < 6) : ∃ cell : Cell, H[ePad E j]? = some cell ∧ cell.vm.isStatics = false ∧ s.vm.findClass RX0 = some cell.cls := va_recv hK hP (ci := 1) (q0 := 3 + j) rfl (cW_P E x hj)
end CROWS
end
section
/-! the reference's steps as functions of its table -/
def mGt (a b : Int32) : Int32 := if a = 0 then nI 1 else if b = 0 then nI 2 else nI 0
def mGr (a b : Int32) : Int32 := if a = 0 then nI 0 else if b = 0 then nI 0 else nI 1
def mLast (y : Nat → Nat → Int32) (p v : Nat) : Nat → Int32
  | 0 => -1
  | k + 1 => if y 4 (8 * p + k) = nI v then nI k else mLast y p v k
def mIns (y : Nat → Nat → Int32) (p : Nat) : Nat → Nat
  | 0 => 0
  | k + 1 => mIns y p k + (if y 8 k = nI 2 ∧ y 9 k = nI p then 1 else 0)
/-- the rows behind place a moved ahead, as far as k -/
def mLs (y : Nat → Nat → Int32) (p w a k : Nat) : Nat → Nat → Int32 := upA (up2 y 5 p (nI (w - 1))) 4 (fun j => if 8 * p + a ≤ j ∧ j < 8 * p + k then y 4 (j + 1) else y 4 j)
theorem mLs_0 (y : Nat → Nat → Int32) (p w a : Nat) : up2 y 5 p (nI (w - 1)) = mLs y p w a a := by
  funext f j
  unfold mLs upA up2
  by_cases h : f = 4
  · subst h
    rw [if_pos rfl, if_neg (by decide)]
    dsimp only
    rw [if_neg (show ¬ (8 * p + a ≤ j ∧ j < 8 * p + a) by omega)]
  · rw [if_neg h]
theorem mLs_5 (y : Nat → Nat → Int32) (p w a k : Nat) : mLs y p w a k 5 p = nI (w - 1) := by simp [mLs, upA, up2]
theorem mLs_s (y : Nat → Nat → Int32) (p w a k : Nat) (h : a ≤ k) : up2 (mLs y p w a k) 4 (8 * p + k) (mLs y p w a k 4 (8 * p + k + 1)) = mLs y p w a (k + 1) := by
  funext f j
  unfold mLs upA up2
  by_cases hf : f = 4
  · subst hf
    simp only [if_true]
    by_cases hj : j = 8 * p + k
    · subst hj
      rw [if_pos rfl, if_neg (by omega), if_pos (by omega)]
    · rw [if_neg hj]
      by_cases h1 : 8 * p + a ≤ j ∧ j < 8 * p + k
      · rw [if_pos h1, if_pos (by omega)]
      · rw [if_neg h1, if_neg (by omega)]
  · simp [hf]
def mLeave (y : Nat → Nat → Int32) (v p w a : Nat) : Nat → Nat → Int32 := up2 (up2 (mLs y p w a (w - 1)) 8 v (nI 0)) 9 v (-1)
def mLose (y : Nat → Nat → Int32) (v : Nat) : Nat → Nat → Int32 := up2 (up2 y 12 v (-1)) 14 v (nI 0)
/-- the rows from place a on moved behind, as far as place k -/
def mPs (y : Nat → Nat → Int32) (p w k : Nat) : Nat → Nat → Int32 := upA y 4 (fun j => if 8 * p + k < j ∧ j ≤ 8 * p + w then y 4 (j - 1) else y 4 j)
theorem mPs_0 (y : Nat → Nat → Int32) (p w : Nat) : y = mPs y p w w := by
  funext f j
  unfold mPs upA
  by_cases h : f = 4
  · subst h
    rw [if_pos rfl]
    dsimp only
    rw [if_neg (show ¬ (8 * p + w < j ∧ j ≤ 8 * p + w) by omega)]
  · rw [if_neg h]
theorem mPs_s (y : Nat → Nat → Int32) (p w k : Nat) (h : k + 1 ≤ w) : up2 (mPs y p w (k + 1)) 4 (8 * p + (k + 1)) (mPs y p w (k + 1) 4 (8 * p + (k + 1) - 1)) = mPs y p w k := by
  funext f j
  unfold mPs upA up2
  by_cases hf : f = 4
  · subst hf
    simp only [if_true]
    by_cases hj : j = 8 * p + (k + 1)
    · subst hj
      rw [if_pos rfl, if_neg (by omega), if_pos (by omega)]
    · rw [if_neg hj]
      by_cases h1 : 8 * p + (k + 1) < j ∧ j ≤ 8 * p + w
      · rw [if_pos h1, if_pos (by omega)]
      · rw [if_neg h1, if_neg (by omega)]
  · simp [hf]
def mPuts (y : Nat → Nat → Int32) (p at0 v w : Nat) : Nat → Nat → Int32 := up2 (up2 (up2 (up2 (mPs y p w at0) 4 (8 * p + at0) (nI v)) 5 p (nI (w + 1))) 8 v (nI 1)) 9 v (nI p)
end
section
set_option maxHeartbeats 4000000 in
set_option maxRecDepth 100000 in
theorem c_X3_thrown (l : Launch) (D : va_G) (E : mE) (tl : gTy) (y : Nat → Nat → Int32)   : gI l yX3_thrown wsX3_thrown ({ frames := 0, cells := 0, slots := 0, locals := 0 } : Room) D (mT E tl) (mW E y) [.ref E.1.1] (fun (r : Int32) (u : Nat → Nat → Int32) => r = y 18 0 ∧ u = y) (mW E) 0 0 := by
  refine gM.start (cc := cX3_thrown) (maxL := 1) (ret := (some .int)) (own := RX3) rfl (by decide) rfl (Nat.le_of_ble_eq_true rfl) ?_
  intro pr e s m args below meth c A ls H locs hx hb hml hr hts hown hlocks hname hA hK hP hD hS hl
  replace hl : lv_has ls 1 [(0, .ref E.1.1)] := hl
  have hin : ∀ w ∈ wsX30, w ∈ wsX3_thrown := by decide +kernel
  have k62 := hts (.fieldLink RX3 62 "FairFolioModel" "thrown" "I") (by decide +kernel)
  refine lv_aload_n hx hb dX3_thrown_0 rfl (lv_at hl 0 rfl) ?_
  refine m_get hx hb hts hin hown hK hP 18 (by decide) k62 rfl rfl dX3_thrown_1 ?_
  exact W.iret hx hb hr (fun t ht hW => ⟨⟨_, y, rfl, ⟨rfl, rfl⟩, by rw [ht]; exact hP, va_K.moved hW.alike hK, hD⟩, hS.F ht⟩) hS.2.2 dX3_thrown_4

set_option maxHeartbeats 4000000 in
set_option maxRecDepth 100000 in
theorem c_X3_minute (l : Launch) (D : va_G) (E : mE) (tl : gTy) (y : Nat → Nat → Int32)   : gI l yX3_minute wsX3_minute ({ frames := 0, cells := 0, slots := 0, locals := 0 } : Room) D (mT E tl) (mW E y) [.ref E.1.1] (fun (r : Int32) (u : Nat → Nat → Int32) => r = y 0 0 ∧ u = up2 y 18 0 (nI 0)) (mW E) 0 0 := by
  refine gM.start (cc := cX3_minute) (maxL := 1) (ret := (some .int)) (own := RX3) rfl (by decide) rfl (Nat.le_of_ble_eq_true rfl) ?_
  intro pr e s m args below meth c A ls H locs hx hb hml hr hts hown hlocks hname hA hK hP hD hS hl
  replace hl : lv_has ls 1 [(0, .ref E.1.1)] := hl
  have hin : ∀ w ∈ wsX30, w ∈ wsX3_minute := by decide +kernel
  have k62 := hts (.fieldLink RX3 62 "FairFolioModel" "thrown" "I") (by decide +kernel)
  have k91 := hts (.fieldLink RX3 91 "FairFolioModel" "minute" "I") (by decide +kernel)
  refine lv_aload_n hx hb dX3_minute_0 rfl (lv_at hl 0 rfl) ?_
  refine lv_iconst (v := nI 0) hx hb dX3_minute_1 (by decide) ?_
  refine va_put (D := D) (ci := 4) (v := .int (nI 0)) (ty := .int) (C := RX3) (T := TX3) (N := 19) hx hb hts hin tyX3 tyX3_ok nmX3 hown hK hP hD hS 0 rfl rfl 18 (by decide) k62 (fun _ h9 => h9) rfl (by decide +kernel) rfl rfl (Nat.le_of_ble_eq_true rfl) dX3_minute_2 (fun H locs hP hD hS => ?_)
  replace hP : va_P D vwCl (mW E (up2 y 18 0 (nI 0))) H := hP
  replace hD : va_D A (mW E (up2 y 18 0 (nI 0))) := hD
  refine lv_aload_n hx hb dX3_minute_5 rfl (lv_at hl 0 rfl) ?_
  refine m_get hx hb hts hin hown hK hP 0 (by decide) k91 rfl rfl dX3_minute_6 ?_
  exact W.iret hx hb hr (fun t ht hW => ⟨⟨_, up2 y 18 0 (nI 0), rfl, ⟨rfl, rfl⟩, by rw [ht]; exact hP, va_K.moved hW.alike hK, hD⟩, hS.F ht⟩) hS.2.2 dX3_minute_9

set_option maxHeartbeats 4000000 in
set_option maxRecDepth 100000 in
theorem c_X3_goes (l : Launch) (D : va_G) (E : mE) (tl : gTy) (y : Nat → Nat → Int32) (a b : Int32)  : gI l yX3_goes wsX3_goes ({ frames := 0, cells := 0, slots := 0, locals := 0 } : Room) D (mT E tl) (mW E y) [.ref E.1.1, .int a, .int b] (fun (r : Int32) (u : Nat → Nat → Int32) => r = mGr a b ∧ u = up2 y 18 0 (mGt a b)) (mW E) 0 0 := by
  refine gM.start (cc := cX3_goes) (maxL := 3) (ret := (some .boolean)) (own := RX3) rfl (by decide) rfl (Nat.le_of_ble_eq_true rfl) ?_
  intro pr e s m args below meth c A ls H locs hx hb hml hr hts hown hlocks hname hA hK hP hD hS hl
  replace hl : lv_has ls 3 [(0, .ref E.1.1), (1, .int a), (2, .int b)] := hl
  have hin : ∀ w ∈ wsX30, w ∈ wsX3_goes := by decide +kernel
  have k62 := hts (.fieldLink RX3 62 "FairFolioModel" "thrown" "I") (by decide +kernel)
  refine lv_aload_n hx hb dX3_goes_0 rfl (lv_at hl 0 rfl) ?_
  refine lv_iload_n hx hb dX3_goes_1 rfl (lv_at hl 1 rfl) ?_
  refine lv_if_ne (tgt := 9) hx hb dX3_goes_2 (by decide) (fun c1 => ?_) (fun c1 => ?_)
  · refine lv_iload_n hx hb dX3_goes_9 rfl (lv_at hl 2 rfl) ?_
    refine lv_if_ne (tgt := 17) hx hb dX3_goes_10 (by decide) (fun c2 => ?_) (fun c2 => ?_)
    · refine lv_iconst (v := nI 0) hx hb dX3_goes_17 (by decide) ?_
      refine q_top (x' := (mGt a b)) (by simp [mGt, c1, c2]) ?_
      refine va_put (D := D) (ci := 4) (v := .int (mGt a b)) (ty := .int) (C := RX3) (T := TX3) (N := 19) hx hb hts hin tyX3 tyX3_ok nmX3 hown hK hP hD hS 0 rfl rfl 18 (by decide) k62 (fun _ h9 => h9) rfl (by decide +kernel) rfl rfl (Nat.le_of_ble_eq_true rfl) dX3_goes_18 (fun H locs hP hD hS => ?_)
      replace hP : va_P D vwCl (mW E (up2 y 18 0 (mGt a b))) H := hP
      replace hD : va_D A (mW E (up2 y 18 0 (mGt a b))) := hD
      refine lv_aload_n hx hb dX3_goes_21 rfl (lv_at hl 0 rfl) ?_
      refine m_get hx hb hts hin hown hK hP 18 (by decide) k62 rfl rfl dX3_goes_22 ?_
      refine q_top (x' := (mGt a b)) (up2_s _ _ _ _) ?_
      refine lv_if_ne (tgt := 32) hx hb dX3_goes_25 (by decide) (fun c9 => absurd c9 (by simp [mGt, c1, c2]; decide)) (fun c9 => ?_)
      refine lv_iconst (v := nI 1) hx hb dX3_goes_28 (by decide) ?_
      refine lv_goto (tgt := 33) hx hb dX3_goes_29 (by decide) ?_
      refine q_top (x' := (mGr a b)) (by simp [mGr, c1, c2]) ?_
      exact W.zret (ty := .boolean) hx hb hr (by simp [mGr, c1, c2]; decide) (fun t ht hW => ⟨⟨_, up2 y 18 0 (mGt a b), rfl, ⟨rfl, rfl⟩, by rw [ht]; exact hP, va_K.moved hW.alike hK, hD⟩, hS.F ht⟩) hS.2.2 dX3_goes_33
    · refine lv_iconst (v := nI 2) hx hb dX3_goes_13 (by decide) ?_
      refine lv_goto (tgt := 18) hx hb dX3_goes_14 (by decide) ?_
      refine q_top (x' := (mGt a b)) (by simp [mGt, c1, c2]) ?_
      refine va_put (D := D) (ci := 4) (v := .int (mGt a b)) (ty := .int) (C := RX3) (T := TX3) (N := 19) hx hb hts hin tyX3 tyX3_ok nmX3 hown hK hP hD hS 0 rfl rfl 18 (by decide) k62 (fun _ h9 => h9) rfl (by decide +kernel) rfl rfl (Nat.le_of_ble_eq_true rfl) dX3_goes_18 (fun H locs hP hD hS => ?_)
      replace hP : va_P D vwCl (mW E (up2 y 18 0 (mGt a b))) H := hP
      replace hD : va_D A (mW E (up2 y 18 0 (mGt a b))) := hD
      refine lv_aload_n hx hb dX3_goes_21 rfl (lv_at hl 0 rfl) ?_
      refine m_get hx hb hts hin hown hK hP 18 (by decide) k62 rfl rfl dX3_goes_22 ?_
      refine q_top (x' := (mGt a b)) (up2_s _ _ _ _) ?_
      refine lv_if_ne (tgt := 32) hx hb dX3_goes_25 (by decide) (fun c9 => ?_) (fun c9 => absurd c9 (by simp [mGt, c1, c2]; decide))
      refine lv_iconst (v := nI 0) hx hb dX3_goes_32 (by decide) ?_
      refine q_top (x' := (mGr a b)) (by simp [mGr, c1, c2]) ?_
      exact W.zret (ty := .boolean) hx hb hr (by simp [mGr, c1, c2]; decide) (fun t ht hW => ⟨⟨_, up2 y 18 0 (mGt a b), rfl, ⟨rfl, rfl⟩, by rw [ht]; exact hP, va_K.moved hW.alike hK, hD⟩, hS.F ht⟩) hS.2.2 dX3_goes_33
  · refine lv_iconst (v := nI 1) hx hb dX3_goes_5 (by decide) ?_
    refine lv_goto (tgt := 18) hx hb dX3_goes_6 (by decide) ?_
    refine q_top (x' := (mGt a b)) (by simp [mGt, c1]) ?_
    refine va_put (D := D) (ci := 4) (v := .int (mGt a b)) (ty := .int) (C := RX3) (T := TX3) (N := 19) hx hb hts hin tyX3 tyX3_ok nmX3 hown hK hP hD hS 0 rfl rfl 18 (by decide) k62 (fun _ h9 => h9) rfl (by decide +kernel) rfl rfl (Nat.le_of_ble_eq_true rfl) dX3_goes_18 (fun H locs hP hD hS => ?_)
    replace hP : va_P D vwCl (mW E (up2 y 18 0 (mGt a b))) H := hP
    replace hD : va_D A (mW E (up2 y 18 0 (mGt a b))) := hD
    refine lv_aload_n hx hb dX3_goes_21 rfl (lv_at hl 0 rfl) ?_
    refine m_get hx hb hts hin hown hK hP 18 (by decide) k62 rfl rfl dX3_goes_22 ?_
    refine q_top (x' := (mGt a b)) (up2_s _ _ _ _) ?_
    refine lv_if_ne (tgt := 32) hx hb dX3_goes_25 (by decide) (fun c9 => ?_) (fun c9 => absurd c9 (by simp [mGt, c1]; decide))
    refine lv_iconst (v := nI 0) hx hb dX3_goes_32 (by decide) ?_
    refine q_top (x' := (mGr a b)) (by simp [mGr, c1]) ?_
    exact W.zret (ty := .boolean) hx hb hr (by simp [mGr, c1]; decide) (fun t ht hW => ⟨⟨_, up2 y 18 0 (mGt a b), rfl, ⟨rfl, rfl⟩, by rw [ht]; exact hP, va_K.moved hW.alike hK, hD⟩, hS.F ht⟩) hS.2.2 dX3_goes_33

set_option maxHeartbeats 4000000 in
set_option maxRecDepth 100000 in
theorem c_X3_isPavilion_y (l : Launch) (D : va_G) (E : mE) (tl : gTy) (y : Nat → Nat → Int32) (p : Nat) (hp : p < 6)  : gI l yX3_isPavilion wsX3_isPavilion ({ frames := 0, cells := 0, slots := 0, locals := 0 } : Room) D (mT E tl) (mW E y) [.int (nI p)] (fun (r : Int32) (u : Nat → Nat → Int32) => r = nI 1 ∧ u = y) (mW E) 0 0 := by
  refine gM.start (cc := cX3_isPavilion) (maxL := 1) (ret := (some .boolean)) (own := RX3) rfl (by decide) rfl (Nat.le_of_ble_eq_true rfl) ?_
  intro pr e s m args below meth c A ls H locs hx hb hml hr hts hown hlocks hname hA hK hP hD hS hl
  replace hl : lv_has ls 1 [(0, .int (nI p))] := hl
  refine lv_iload_n hx hb dX3_isPavilion_0 rfl (lv_at hl 0 rfl) ?_
  refine q_if_lt (tgt := 14) hx hb (by omega) dX3_isPavilion_1 (by decide) (fun c1 => c1.elim) (fun c1 => ?_)
  refine lv_iload_n hx hb dX3_isPavilion_4 rfl (lv_at hl 0 rfl) ?_
  refine lv_bipush (v := nI 6) hx hb dX3_isPavilion_5 (by decide) ?_
  refine q_icmp_ge (tgt := 14) hx hb (by omega) (by omega) dX3_isPavilion_7 (by decide) (fun c2 => absurd c2 (by omega)) (fun c2 => ?_)
  refine lv_iconst (v := nI 1) hx hb dX3_isPavilion_10 (by decide) ?_
  refine lv_goto (tgt := 15) hx hb dX3_isPavilion_11 (by decide) ?_
  exact W.zret (ty := .boolean) hx hb hr (by decide) (fun t ht hW => ⟨⟨_, y, rfl, ⟨rfl, rfl⟩, by rw [ht]; exact hP, va_K.moved hW.alike hK, hD⟩, hS.F ht⟩) hS.2.2 dX3_isPavilion_15

set_option maxHeartbeats 4000000 in
set_option maxRecDepth 100000 in
theorem c_X3_isPavilion_n (l : Launch) (D : va_G) (E : mE) (tl : gTy) (y : Nat → Nat → Int32) (p : Int32) (hp : p < 0 ∨ nI 6 ≤ p)  : gI l yX3_isPavilion wsX3_isPavilion ({ frames := 0, cells := 0, slots := 0, locals := 0 } : Room) D (mT E tl) (mW E y) [.int p] (fun (r : Int32) (u : Nat → Nat → Int32) => r = nI 0 ∧ u = y) (mW E) 0 0 := by
  refine gM.start (cc := cX3_isPavilion) (maxL := 1) (ret := (some .boolean)) (own := RX3) rfl (by decide) rfl (Nat.le_of_ble_eq_true rfl) ?_
  intro pr e s m args below meth c A ls H locs hx hb hml hr hts hown hlocks hname hA hK hP hD hS hl
  replace hl : lv_has ls 1 [(0, .int p)] := hl
  refine lv_iload_n hx hb dX3_isPavilion_0 rfl (lv_at hl 0 rfl) ?_
  refine lv_if_lt (tgt := 14) hx hb dX3_isPavilion_1 (by decide) (fun c1 => ?_) (fun c1 => ?_)
  · refine lv_iconst (v := nI 0) hx hb dX3_isPavilion_14 (by decide) ?_
    exact W.zret (ty := .boolean) hx hb hr (by decide) (fun t ht hW => ⟨⟨_, y, rfl, ⟨rfl, rfl⟩, by rw [ht]; exact hP, va_K.moved hW.alike hK, hD⟩, hS.F ht⟩) hS.2.2 dX3_isPavilion_15
  · refine lv_iload_n hx hb dX3_isPavilion_4 rfl (lv_at hl 0 rfl) ?_
    refine lv_bipush (v := nI 6) hx hb dX3_isPavilion_5 (by decide) ?_
    refine lv_icmp_ge (tgt := 14) hx hb dX3_isPavilion_7 (by decide) (fun c2 => ?_) (fun c2 => absurd hp (fun h => h.elim c1 c2))
    refine lv_iconst (v := nI 0) hx hb dX3_isPavilion_14 (by decide) ?_
    exact W.zret (ty := .boolean) hx hb hr (by decide) (fun t ht hW => ⟨⟨_, y, rfl, ⟨rfl, rfl⟩, by rw [ht]; exact hP, va_K.moved hW.alike hK, hD⟩, hS.F ht⟩) hS.2.2 dX3_isPavilion_15

set_option maxHeartbeats 4000000 in
set_option maxRecDepth 100000 in
theorem c_X3_isVisitor_y (l : Launch) (D : va_G) (E : mE) (tl : gTy) (y : Nat → Nat → Int32) (p : Nat) (hp : p < 8)  : gI l yX3_isVisitor wsX3_isVisitor ({ frames := 0, cells := 0, slots := 0, locals := 0 } : Room) D (mT E tl) (mW E y) [.int (nI p)] (fun (r : Int32) (u : Nat → Nat → Int32) => r = nI 1 ∧ u = y) (mW E) 0 0 := by
  refine gM.start (cc := cX3_isVisitor) (maxL := 1) (ret := (some .boolean)) (own := RX3) rfl (by decide) rfl (Nat.le_of_ble_eq_true rfl) ?_
  intro pr e s m args below meth c A ls H locs hx hb hml hr hts hown hlocks hname hA hK hP hD hS hl
  replace hl : lv_has ls 1 [(0, .int (nI p))] := hl
  refine lv_iload_n hx hb dX3_isVisitor_0 rfl (lv_at hl 0 rfl) ?_
  refine q_if_lt (tgt := 14) hx hb (by omega) dX3_isVisitor_1 (by decide) (fun c1 => c1.elim) (fun c1 => ?_)
  refine lv_iload_n hx hb dX3_isVisitor_4 rfl (lv_at hl 0 rfl) ?_
  refine lv_bipush (v := nI 8) hx hb dX3_isVisitor_5 (by decide) ?_
  refine q_icmp_ge (tgt := 14) hx hb (by omega) (by omega) dX3_isVisitor_7 (by decide) (fun c2 => absurd c2 (by omega)) (fun c2 => ?_)
  refine lv_iconst (v := nI 1) hx hb dX3_isVisitor_10 (by decide) ?_
  refine lv_goto (tgt := 15) hx hb dX3_isVisitor_11 (by decide) ?_
  exact W.zret (ty := .boolean) hx hb hr (by decide) (fun t ht hW => ⟨⟨_, y, rfl, ⟨rfl, rfl⟩, by rw [ht]; exact hP, va_K.moved hW.alike hK, hD⟩, hS.F ht⟩) hS.2.2 dX3_isVisitor_15

set_option maxHeartbeats 4000000 in
set_option maxRecDepth 100000 in
theorem c_X3_isVisitor_n (l : Launch) (D : va_G) (E : mE) (tl : gTy) (y : Nat → Nat → Int32) (p : Int32) (hp : p < 0 ∨ nI 8 ≤ p)  : gI l yX3_isVisitor wsX3_isVisitor ({ frames := 0, cells := 0, slots := 0, locals := 0 } : Room) D (mT E tl) (mW E y) [.int p] (fun (r : Int32) (u : Nat → Nat → Int32) => r = nI 0 ∧ u = y) (mW E) 0 0 := by
  refine gM.start (cc := cX3_isVisitor) (maxL := 1) (ret := (some .boolean)) (own := RX3) rfl (by decide) rfl (Nat.le_of_ble_eq_true rfl) ?_
  intro pr e s m args below meth c A ls H locs hx hb hml hr hts hown hlocks hname hA hK hP hD hS hl
  replace hl : lv_has ls 1 [(0, .int p)] := hl
  refine lv_iload_n hx hb dX3_isVisitor_0 rfl (lv_at hl 0 rfl) ?_
  refine lv_if_lt (tgt := 14) hx hb dX3_isVisitor_1 (by decide) (fun c1 => ?_) (fun c1 => ?_)
  · refine lv_iconst (v := nI 0) hx hb dX3_isVisitor_14 (by decide) ?_
    exact W.zret (ty := .boolean) hx hb hr (by decide) (fun t ht hW => ⟨⟨_, y, rfl, ⟨rfl, rfl⟩, by rw [ht]; exact hP, va_K.moved hW.alike hK, hD⟩, hS.F ht⟩) hS.2.2 dX3_isVisitor_15
  · refine lv_iload_n hx hb dX3_isVisitor_4 rfl (lv_at hl 0 rfl) ?_
    refine lv_bipush (v := nI 8) hx hb dX3_isVisitor_5 (by decide) ?_
    refine lv_icmp_ge (tgt := 14) hx hb dX3_isVisitor_7 (by decide) (fun c2 => ?_) (fun c2 => absurd hp (fun h => h.elim c1 c2))
    refine lv_iconst (v := nI 0) hx hb dX3_isVisitor_14 (by decide) ?_
    exact W.zret (ty := .boolean) hx hb hr (by decide) (fun t ht hW => ⟨⟨_, y, rfl, ⟨rfl, rfl⟩, by rw [ht]; exact hP, va_K.moved hW.alike hK, hD⟩, hS.F ht⟩) hS.2.2 dX3_isVisitor_15

set_option maxHeartbeats 4000000 in
set_option maxRecDepth 100000 in
theorem c_X3_placeIn (l : Launch) (D : va_G) (E : mE) (tl : gTy) (y : Nat → Nat → Int32) (p v w : Nat) (hp : p < 6) (hv : v < 8) (hw8 : w ≤ 8) (h5 : y 5 p = nI w)  : gI l yX3_placeIn wsX3_placeIn ({ frames := 0, cells := 0, slots := 0, locals := 0 } : Room) D (mT E tl) (mW E y) [.ref E.1.1, .int (nI p), .int (nI v)] (fun (r : Int32) (u : Nat → Nat → Int32) => r = mLast y p v w ∧ u = y) (mW E) 0 0 := by
  refine gM.start (cc := cX3_placeIn) (maxL := 5) (ret := (some .int)) (own := RX3) rfl (by decide) rfl (Nat.le_of_ble_eq_true rfl) ?_
  intro pr e s m args below meth c A ls H locs hx hb hml hr hts hown hlocks hname hA hK hP hD hS hl
  replace hl : lv_has ls 5 [(0, .ref E.1.1), (1, .int (nI p)), (2, .int (nI v))] := hl
  have hin : ∀ w ∈ wsX30, w ∈ wsX3_placeIn := by decide +kernel
  have k23 := hts (.fieldLink RX3 23 "FairFolioModel" "waiting" "[I") (by decide +kernel)
  have k20 := hts (.fieldLink RX3 20 "FairFolioModel" "queue" "[I") (by decide +kernel)
  refine lv_iconst (v := -1) hx hb dX3_placeIn_0 (by decide) ?_
  refine lv_istore_n (lv' := [(3, .int (-1)), (0, .ref E.1.1), (1, .int (nI p)), (2, .int (nI v))]) hx hb dX3_placeIn_1 rfl hl (by decide) rfl (fun ls hl => ?_)
  refine lv_iconst (v := nI 0) hx hb dX3_placeIn_2 (by decide) ?_
  refine lv_istore (lv' := [(4, .int (nI 0)), (3, .int (-1)), (0, .ref E.1.1), (1, .int (nI p)), (2, .int (nI v))]) hx hb dX3_placeIn_3 hl (by decide) rfl (fun ls hl => ?_)
  obtain ⟨k, hk⟩ : ∃ k : Nat, k = 0 := ⟨_, rfl⟩
  obtain ⟨nn, hn⟩ : ∃ nn : Nat, k + nn = w := ⟨w - 0, by omega⟩
  replace hl : lv_has ls 5 [(4, .int (nI k)), (3, .int (mLast y p v k)), (0, .ref E.1.1), (1, .int (nI p)), (2, .int (nI v))] := by rw [hk]; exact hl
  clear hk
  induction nn generalizing k H locs ls with
  | zero =>
    obtain rfl : w = k := by omega
    refine lv_iload hx hb dX3_placeIn_5 (lv_at hl 0 rfl) ?_
    refine lv_aload_n hx hb dX3_placeIn_7 rfl (lv_at hl 2 rfl) ?_
    refine m_get hx hb hts hin hown hK hP 5 (by decide) k23 rfl rfl dX3_placeIn_8 ?_
    refine lv_iload_n hx hb dX3_placeIn_11 rfl (lv_at hl 3 rfl) ?_
    refine q_ild hx hb hK hP 5 0 rfl rfl p rfl (by omega) (by decide) dX3_placeIn_12 ?_
    refine q_top (x' := (nI w)) h5 ?_
    refine q_icmp_ge (tgt := 45) hx hb (by omega) (by omega) dX3_placeIn_13 (by decide) (fun c1 => ?_) (fun c1 => absurd c1 (by omega))
    refine lv_iload_n hx hb dX3_placeIn_45 rfl (lv_at hl 1 rfl) ?_
    exact W.iret hx hb hr (fun t ht hW => ⟨⟨_, y, rfl, ⟨rfl, rfl⟩, by rw [ht]; exact hP, va_K.moved hW.alike hK, hD⟩, hS.F ht⟩) hS.2.2 dX3_placeIn_46
  | succ nn ih =>
    refine lv_iload hx hb dX3_placeIn_5 (lv_at hl 0 rfl) ?_
    refine lv_aload_n hx hb dX3_placeIn_7 rfl (lv_at hl 2 rfl) ?_
    refine m_get hx hb hts hin hown hK hP 5 (by decide) k23 rfl rfl dX3_placeIn_8 ?_
    refine lv_iload_n hx hb dX3_placeIn_11 rfl (lv_at hl 3 rfl) ?_
    refine q_ild hx hb hK hP 5 0 rfl rfl p rfl (by omega) (by decide) dX3_placeIn_12 ?_
    refine q_top (x' := (nI w)) h5 ?_
    refine q_icmp_ge (tgt := 45) hx hb (by omega) (by omega) dX3_placeIn_13 (by decide) (fun c1 => absurd c1 (by omega)) (fun c1 => ?_)
    refine lv_aload_n hx hb dX3_placeIn_16 rfl (lv_at hl 2 rfl) ?_
    refine m_get hx hb hts hin hown hK hP 4 (by decide) k20 rfl rfl dX3_placeIn_17 ?_
    refine lv_bipush (v := nI 8) hx hb dX3_placeIn_20 (by decide) ?_
    refine lv_iload_n hx hb dX3_placeIn_22 rfl (lv_at hl 3 rfl) ?_
    refine q_mul hx hb dX3_placeIn_23 ?_
    refine lv_iload hx hb dX3_placeIn_24 (lv_at hl 0 rfl) ?_
    refine q_add hx hb dX3_placeIn_26 ?_
    refine q_ild hx hb hK hP 4 0 rfl rfl ((8 * p) + k) rfl (by omega) (by decide) dX3_placeIn_27 ?_
    refine lv_iload_n hx hb dX3_placeIn_28 rfl (lv_at hl 4 rfl) ?_
    refine lv_icmp_ne (tgt := 37) hx hb dX3_placeIn_29 (by decide) (fun c2 => ?_) (fun c2 => ?_)
    · refine lv_iload_n hx hb dX3_placeIn_37 rfl (lv_at hl 1 rfl) ?_
      refine q_top (x' := (mLast y p v (k + 1))) (by rw [mLast, if_neg c2]) ?_
      refine lv_istore_n (lv' := [(3, .int (mLast y p v (k + 1))), (4, .int (nI k)), (0, .ref E.1.1), (1, .int (nI p)), (2, .int (nI v))]) hx hb dX3_placeIn_38 rfl hl (by decide) rfl (fun ls hl => ?_)
      refine q_inc (k := 1) (lv' := [(4, .int (nI (k + 1))), (3, .int (mLast y p v (k + 1))), (0, .ref E.1.1), (1, .int (nI p)), (2, .int (nI v))]) hx hb dX3_placeIn_39 hl rfl (by decide) rfl (fun ls hl => ?_)
      refine lv_goto (tgt := 5) hx hb dX3_placeIn_42 (by decide) ?_
      apply ih (k := k + 1) (H := H) (locs := locs) (ls := ls)
      all_goals first | omega | assumption
    · refine lv_iload hx hb dX3_placeIn_32 (lv_at hl 0 rfl) ?_
      refine lv_goto (tgt := 38) hx hb dX3_placeIn_34 (by decide) ?_
      refine q_top (x' := (mLast y p v (k + 1))) (by rw [mLast, if_pos c2]) ?_
      refine lv_istore_n (lv' := [(3, .int (mLast y p v (k + 1))), (4, .int (nI k)), (0, .ref E.1.1), (1, .int (nI p)), (2, .int (nI v))]) hx hb dX3_placeIn_38 rfl hl (by decide) rfl (fun ls hl => ?_)
      refine q_inc (k := 1) (lv' := [(4, .int (nI (k + 1))), (3, .int (mLast y p v (k + 1))), (0, .ref E.1.1), (1, .int (nI p)), (2, .int (nI v))]) hx hb dX3_placeIn_39 hl rfl (by decide) rfl (fun ls hl => ?_)
      refine lv_goto (tgt := 5) hx hb dX3_placeIn_42 (by decide) ?_
      apply ih (k := k + 1) (H := H) (locs := locs) (ls := ls)
      all_goals first | omega | assumption

set_option maxHeartbeats 4000000 in
set_option maxRecDepth 100000 in
theorem c_X3_loses (l : Launch) (D : va_G) (E : mE) (tl : gTy) (y : Nat → Nat → Int32) (v : Nat) (hv : v < 8)  : gV l yX3_loses wsX3_loses ({ frames := 0, cells := 0, slots := 0, locals := 0 } : Room) D (mT E tl) (mW E y) [.ref E.1.1, .int (nI v)] (fun u : Nat → Nat → Int32 => u = mLose y v) (mW E) 0 0 := by
  refine gM.start (cc := cX3_loses) (maxL := 2) (ret := none) (own := RX3) rfl (by decide) rfl (Nat.le_of_ble_eq_true rfl) ?_
  intro pr e s m args below meth c A ls H locs hx hb hml hr hts hown hlocks hname hA hK hP hD hS hl
  replace hl : lv_has ls 2 [(0, .ref E.1.1), (1, .int (nI v))] := hl
  have hin : ∀ w ∈ wsX30, w ∈ wsX3_loses := by decide +kernel
  have k44 := hts (.fieldLink RX3 44 "FairFolioModel" "turn" "[I") (by decide +kernel)
  have k50 := hts (.fieldLink RX3 50 "FairFolioModel" "isByTurn" "[Z") (by decide +kernel)
  refine lv_aload_n hx hb dX3_loses_0 rfl (lv_at hl 0 rfl) ?_
  refine m_get hx hb hts hin hown hK hP 12 (by decide) k44 rfl rfl dX3_loses_1 ?_
  refine lv_iload_n hx hb dX3_loses_4 rfl (lv_at hl 1 rfl) ?_
  refine lv_iconst (v := -1) hx hb dX3_loses_5 (by decide) ?_
  refine q_ist hx hb hK hP hD hS 12 0 rfl rfl v rfl (by omega) (by decide) dX3_loses_6 (fun H locs hP hD hS => ?_)
  replace hP : va_P D vwCl (mW E (up2 y 12 v (-1))) H := hP
  replace hD : va_D A (mW E (up2 y 12 v (-1))) := hD
  refine lv_aload_n hx hb dX3_loses_7 rfl (lv_at hl 0 rfl) ?_
  refine m_get hx hb hts hin hown hK hP 14 (by decide) k50 rfl rfl dX3_loses_8 ?_
  refine lv_iload_n hx hb dX3_loses_11 rfl (lv_at hl 1 rfl) ?_
  refine lv_iconst (v := nI 0) hx hb dX3_loses_12 (by decide) ?_
  refine q_zst hx hb hK hP hD hS 14 1 rfl rfl v rfl (by omega) (by decide) (Or.inl rfl) dX3_loses_13 (fun H locs hP hD hS => ?_)
  replace hP : va_P D vwCl (mW E (up2 (up2 y 12 v (-1)) 14 v (nI 0))) H := hP
  replace hD : va_D A (mW E (up2 (up2 y 12 v (-1)) 14 v (nI 0))) := hD
  exact W.vret hx hb hr (fun t ht hW => ⟨⟨up2 (up2 y 12 v (-1)) 14 v (nI 0), rfl, rfl, by rw [ht]; exact hP, va_K.moved hW.alike hK, hD⟩, hS.F ht⟩) hS.2.2 dX3_loses_14

set_option maxHeartbeats 4000000 in
set_option maxRecDepth 100000 in
theorem c_X3_insideOf (l : Launch) (D : va_G) (E : mE) (tl : gTy) (y : Nat → Nat → Int32) (p : Nat) (hp : p < 6)  : gI l yX3_insideOf wsX3_insideOf ({ frames := 0, cells := 0, slots := 0, locals := 0 } : Room) D (mT E tl) (mW E y) [.ref E.1.1, .int (nI p)] (fun (r : Int32) (u : Nat → Nat → Int32) => r = nI (mIns y p 8) ∧ u = y) (mW E) 0 0 := by
  refine gM.start (cc := cX3_insideOf) (maxL := 4) (ret := (some .int)) (own := RX3) rfl (by decide) rfl (Nat.le_of_ble_eq_true rfl) ?_
  intro pr e s m args below meth c A ls H locs hx hb hml hr hts hown hlocks hname hA hK hP hD hS hl
  replace hl : lv_has ls 4 [(0, .ref E.1.1), (1, .int (nI p))] := hl
  have hin : ∀ w ∈ wsX30, w ∈ wsX3_insideOf := by decide +kernel
  have k32 := hts (.fieldLink RX3 32 "FairFolioModel" "state" "[I") (by decide +kernel)
  have k35 := hts (.fieldLink RX3 35 "FairFolioModel" "where" "[I") (by decide +kernel)
  refine lv_iconst (v := nI 0) hx hb dX3_insideOf_0 (by decide) ?_
  refine lv_istore_n (lv' := [(2, .int (nI 0)), (0, .ref E.1.1), (1, .int (nI p))]) hx hb dX3_insideOf_1 rfl hl (by decide) rfl (fun ls hl => ?_)
  refine lv_iconst (v := nI 0) hx hb dX3_insideOf_2 (by decide) ?_
  refine lv_istore_n (lv' := [(3, .int (nI 0)), (2, .int (nI 0)), (0, .ref E.1.1), (1, .int (nI p))]) hx hb dX3_insideOf_3 rfl hl (by decide) rfl (fun ls hl => ?_)
  obtain ⟨k, hk⟩ : ∃ k : Nat, k = 0 := ⟨_, rfl⟩
  obtain ⟨nn, hn⟩ : ∃ nn : Nat, k + nn = 8 := ⟨8 - 0, by omega⟩
  replace hl : lv_has ls 4 [(3, .int (nI k)), (2, .int (nI (mIns y p k))), (0, .ref E.1.1), (1, .int (nI p))] := by rw [hk]; exact hl
  clear hk
  induction nn generalizing k H locs ls with
  | zero =>
    obtain rfl : k = 8 := by omega
    refine lv_iload_n hx hb dX3_insideOf_4 rfl (lv_at hl 0 rfl) ?_
    refine lv_bipush (v := nI 8) hx hb dX3_insideOf_5 (by decide) ?_
    refine q_icmp_ge (tgt := 44) hx hb (by omega) (by omega) dX3_insideOf_7 (by decide) (fun c1 => ?_) (fun c1 => absurd c1 (by omega))
    refine lv_iload_n hx hb dX3_insideOf_44 rfl (lv_at hl 1 rfl) ?_
    exact W.iret hx hb hr (fun t ht hW => ⟨⟨_, y, rfl, ⟨rfl, rfl⟩, by rw [ht]; exact hP, va_K.moved hW.alike hK, hD⟩, hS.F ht⟩) hS.2.2 dX3_insideOf_45
  | succ nn ih =>
    refine lv_iload_n hx hb dX3_insideOf_4 rfl (lv_at hl 0 rfl) ?_
    refine lv_bipush (v := nI 8) hx hb dX3_insideOf_5 (by decide) ?_
    refine q_icmp_ge (tgt := 44) hx hb (by omega) (by omega) dX3_insideOf_7 (by decide) (fun c1 => absurd c1 (by omega)) (fun c1 => ?_)
    refine lv_iload_n hx hb dX3_insideOf_10 rfl (lv_at hl 1 rfl) ?_
    refine lv_aload_n hx hb dX3_insideOf_11 rfl (lv_at hl 2 rfl) ?_
    refine m_get hx hb hts hin hown hK hP 8 (by decide) k32 rfl rfl dX3_insideOf_12 ?_
    refine lv_iload_n hx hb dX3_insideOf_15 rfl (lv_at hl 0 rfl) ?_
    refine q_ild hx hb hK hP 8 0 rfl rfl k rfl (by omega) (by decide) dX3_insideOf_16 ?_
    refine lv_iconst (v := nI 2) hx hb dX3_insideOf_17 (by decide) ?_
    refine lv_icmp_ne (tgt := 35) hx hb dX3_insideOf_18 (by decide) (fun c2 => ?_) (fun c2 => ?_)
    · refine lv_iconst (v := nI 0) hx hb dX3_insideOf_35 (by decide) ?_
      refine q_add hx hb dX3_insideOf_36 ?_
      refine q_top (x' := (nI (mIns y p (k + 1)))) (by simp [mIns, c2]) ?_
      refine lv_istore_n (lv' := [(2, .int (nI (mIns y p (k + 1)))), (3, .int (nI k)), (0, .ref E.1.1), (1, .int (nI p))]) hx hb dX3_insideOf_37 rfl hl (by decide) rfl (fun ls hl => ?_)
      refine q_inc (k := 1) (lv' := [(3, .int (nI (k + 1))), (2, .int (nI (mIns y p (k + 1)))), (0, .ref E.1.1), (1, .int (nI p))]) hx hb dX3_insideOf_38 hl rfl (by decide) rfl (fun ls hl => ?_)
      refine lv_goto (tgt := 4) hx hb dX3_insideOf_41 (by decide) ?_
      apply ih (k := k + 1) (H := H) (locs := locs) (ls := ls)
      all_goals first | omega | assumption
    · refine lv_aload_n hx hb dX3_insideOf_21 rfl (lv_at hl 2 rfl) ?_
      refine m_get hx hb hts hin hown hK hP 9 (by decide) k35 rfl rfl dX3_insideOf_22 ?_
      refine lv_iload_n hx hb dX3_insideOf_25 rfl (lv_at hl 0 rfl) ?_
      refine q_ild hx hb hK hP 9 0 rfl rfl k rfl (by omega) (by decide) dX3_insideOf_26 ?_
      refine lv_iload_n hx hb dX3_insideOf_27 rfl (lv_at hl 3 rfl) ?_
      refine lv_icmp_ne (tgt := 35) hx hb dX3_insideOf_28 (by decide) (fun c3 => ?_) (fun c3 => ?_)
      · refine lv_iconst (v := nI 0) hx hb dX3_insideOf_35 (by decide) ?_
        refine q_add hx hb dX3_insideOf_36 ?_
        refine q_top (x' := (nI (mIns y p (k + 1)))) (by simp [mIns, c3]) ?_
        refine lv_istore_n (lv' := [(2, .int (nI (mIns y p (k + 1)))), (3, .int (nI k)), (0, .ref E.1.1), (1, .int (nI p))]) hx hb dX3_insideOf_37 rfl hl (by decide) rfl (fun ls hl => ?_)
        refine q_inc (k := 1) (lv' := [(3, .int (nI (k + 1))), (2, .int (nI (mIns y p (k + 1)))), (0, .ref E.1.1), (1, .int (nI p))]) hx hb dX3_insideOf_38 hl rfl (by decide) rfl (fun ls hl => ?_)
        refine lv_goto (tgt := 4) hx hb dX3_insideOf_41 (by decide) ?_
        apply ih (k := k + 1) (H := H) (locs := locs) (ls := ls)
        all_goals first | omega | assumption
      · refine lv_iconst (v := nI 1) hx hb dX3_insideOf_31 (by decide) ?_
        refine lv_goto (tgt := 36) hx hb dX3_insideOf_32 (by decide) ?_
        refine q_add hx hb dX3_insideOf_36 ?_
        refine q_top (x' := (nI (mIns y p (k + 1)))) (by simp [mIns, c2, c3]) ?_
        refine lv_istore_n (lv' := [(2, .int (nI (mIns y p (k + 1)))), (3, .int (nI k)), (0, .ref E.1.1), (1, .int (nI p))]) hx hb dX3_insideOf_37 rfl hl (by decide) rfl (fun ls hl => ?_)
        refine q_inc (k := 1) (lv' := [(3, .int (nI (k + 1))), (2, .int (nI (mIns y p (k + 1)))), (0, .ref E.1.1), (1, .int (nI p))]) hx hb dX3_insideOf_38 hl rfl (by decide) rfl (fun ls hl => ?_)
        refine lv_goto (tgt := 4) hx hb dX3_insideOf_41 (by decide) ?_
        apply ih (k := k + 1) (H := H) (locs := locs) (ls := ls)
        all_goals first | omega | assumption

set_option maxHeartbeats 4000000 in
set_option maxRecDepth 100000 in
theorem c_X3_leaves (l : Launch) (D : va_G) (E : mE) (tl : gTy) (y : Nat → Nat → Int32) (v p w a : Nat) (hv : v < 8) (hp : p < 6) (hw1 : 1 ≤ w) (hw8 : w ≤ 8) (haw : a < w) (h9 : y 9 v = nI p) (h5 : y 5 p = nI w) (hla : mLast y p v w = nI a)  : gV l yX3_leaves wsX3_leaves ({ frames := 1, cells := 0, slots := 0, locals := 24 } : Room) D (mT E tl) (mW E y) [.ref E.1.1, .int (nI v)] (fun u : Nat → Nat → Int32 => u = mLeave y v p w a) (mW E) 0 0 := by
  refine gM.start (cc := cX3_leaves) (maxL := 5) (ret := none) (own := RX3) rfl (by decide) rfl (Nat.le_of_ble_eq_true rfl) ?_
  intro pr e s m args below meth c A ls H locs hx hb hml hr hts hown hlocks hname hA hK hP hD hS hl
  replace hl : lv_has ls 5 [(0, .ref E.1.1), (1, .int (nI v))] := hl
  have hin : ∀ w ∈ wsX30, w ∈ wsX3_leaves := by decide +kernel
  have k35 := hts (.fieldLink RX3 35 "FairFolioModel" "where" "[I") (by decide +kernel)
  have k23 := hts (.fieldLink RX3 23 "FairFolioModel" "waiting" "[I") (by decide +kernel)
  have k32 := hts (.fieldLink RX3 32 "FairFolioModel" "state" "[I") (by decide +kernel)
  have k20 := hts (.fieldLink RX3 20 "FairFolioModel" "queue" "[I") (by decide +kernel)
  refine lv_aload_n hx hb dX3_leaves_0 rfl (lv_at hl 0 rfl) ?_
  refine m_get hx hb hts hin hown hK hP 9 (by decide) k35 rfl rfl dX3_leaves_1 ?_
  refine lv_iload_n hx hb dX3_leaves_4 rfl (lv_at hl 1 rfl) ?_
  refine q_ild hx hb hK hP 9 0 rfl rfl v rfl (by omega) (by decide) dX3_leaves_5 ?_
  refine q_top (x' := (nI p)) h9 ?_
  refine lv_istore_n (lv' := [(2, .int (nI p)), (0, .ref E.1.1), (1, .int (nI v))]) hx hb dX3_leaves_6 rfl hl (by decide) rfl (fun ls hl => ?_)
  refine lv_aload_n hx hb dX3_leaves_7 rfl (lv_at hl 1 rfl) ?_
  refine lv_iload_n hx hb dX3_leaves_8 rfl (lv_at hl 0 rfl) ?_
  refine lv_iload_n hx hb dX3_leaves_9 rfl (lv_at hl 2 rfl) ?_
  refine g_calli (As := [.int (nI p), .int (nI v)]) (rest := []) ⟨hx, hb, hml, hown, hts⟩ (c_X3_placeIn l D E tl y p v w hp hv hw8 h5) (cwV 2 hts gX3_leaves_X3_placeIn rfl rfl rfl (by decide +kernel) ⟨Nat.le_of_ble_eq_true rfl, Nat.le_of_ble_eq_true rfl⟩) (m_recv hK hP) hK hP hD hS hA rfl hl.1 rfl (Nat.le_of_ble_eq_true rfl) dX3_leaves_10 ⟨Nat.le_of_ble_eq_true rfl, Nat.le_of_ble_eq_true rfl⟩ (fun r_3 u_2 H locs hw hP hD hS => ?_)
  obtain ⟨hr_3, hu_2⟩ := hw
  rw [hu_2] at hP hD
  refine q_top (x' := (nI a)) (hr_3.trans hla) ?_
  refine lv_istore_n (lv' := [(3, .int (nI a)), (2, .int (nI p)), (0, .ref E.1.1), (1, .int (nI v))]) hx hb dX3_leaves_13 rfl hl (by decide) rfl (fun ls hl => ?_)
  refine lv_aload_n hx hb dX3_leaves_14 rfl (lv_at hl 2 rfl) ?_
  refine m_get hx hb hts hin hown hK hP 5 (by decide) k23 rfl rfl dX3_leaves_15 ?_
  refine lv_iload_n hx hb dX3_leaves_18 rfl (lv_at hl 1 rfl) ?_
  refine lv_dup2_11 hx hb dX3_leaves_19 rfl rfl ?_
  refine q_ild hx hb hK hP 5 0 rfl rfl p rfl (by omega) (by decide) dX3_leaves_20 ?_
  refine q_top (x' := (nI w)) h5 ?_
  refine lv_iconst (v := nI 1) hx hb dX3_leaves_21 (by decide) ?_
  refine q_sub hx hb hw1 dX3_leaves_22 ?_
  refine q_ist hx hb hK hP hD hS 5 0 rfl rfl p rfl (by omega) (by decide) dX3_leaves_23 (fun H locs hP hD hS => ?_)
  replace hP : va_P D vwCl (mW E (up2 y 5 p (nI (w - 1)))) H := hP
  replace hD : va_D A (mW E (up2 y 5 p (nI (w - 1)))) := hD
  refine lv_iload_n hx hb dX3_leaves_24 rfl (lv_at hl 0 rfl) ?_
  refine lv_istore (lv' := [(4, .int (nI a)), (3, .int (nI a)), (2, .int (nI p)), (0, .ref E.1.1), (1, .int (nI v))]) hx hb dX3_leaves_25 hl (by decide) rfl (fun ls hl => ?_)
  have ey : up2 y 5 p (nI (w - 1)) = mLs y p w a a := (mLs_0 y p w a)
  rw [ey] at hP hD
  clear ey
  obtain ⟨k, hk⟩ : ∃ k : Nat, k = a := ⟨_, rfl⟩
  obtain ⟨nn, hn⟩ : ∃ nn : Nat, k + nn = w - 1 := ⟨(w - 1) - a, by omega⟩
  replace hl : lv_has ls 5 [(4, .int (nI k)), (3, .int (nI a)), (2, .int (nI p)), (0, .ref E.1.1), (1, .int (nI v))] := by rw [hk]; exact hl
  replace hP : va_P D vwCl (mW E (mLs y p w a k)) H := by rw [hk]; exact hP
  replace hD : va_D A (mW E (mLs y p w a k)) := by rw [hk]; exact hD
  have hak : a ≤ k := by omega
  clear hk
  induction nn generalizing k H locs ls with
  | zero =>
    obtain rfl : k = w - 1 := by omega
    refine lv_iload hx hb dX3_leaves_27 (lv_at hl 0 rfl) ?_
    refine lv_aload_n hx hb dX3_leaves_29 rfl (lv_at hl 3 rfl) ?_
    refine m_get hx hb hts hin hown hK hP 5 (by decide) k23 rfl rfl dX3_leaves_30 ?_
    refine lv_iload_n hx hb dX3_leaves_33 rfl (lv_at hl 2 rfl) ?_
    refine q_ild hx hb hK hP 5 0 rfl rfl p rfl (by omega) (by decide) dX3_leaves_34 ?_
    refine q_top (x' := (nI (w - 1))) (mLs_5 y p w a _) ?_
    refine q_icmp_ge (tgt := 70) hx hb (by omega) (by omega) dX3_leaves_35 (by decide) (fun c1 => ?_) (fun c1 => absurd c1 (by omega))
    refine lv_aload_n hx hb dX3_leaves_70 rfl (lv_at hl 3 rfl) ?_
    refine m_get hx hb hts hin hown hK hP 8 (by decide) k32 rfl rfl dX3_leaves_71 ?_
    refine lv_iload_n hx hb dX3_leaves_74 rfl (lv_at hl 4 rfl) ?_
    refine lv_iconst (v := nI 0) hx hb dX3_leaves_75 (by decide) ?_
    refine q_ist hx hb hK hP hD hS 8 0 rfl rfl v rfl (by omega) (by decide) dX3_leaves_76 (fun H locs hP hD hS => ?_)
    replace hP : va_P D vwCl (mW E (up2 (mLs y p w a (w - 1)) 8 v (nI 0))) H := hP
    replace hD : va_D A (mW E (up2 (mLs y p w a (w - 1)) 8 v (nI 0))) := hD
    refine lv_aload_n hx hb dX3_leaves_77 rfl (lv_at hl 3 rfl) ?_
    refine m_get hx hb hts hin hown hK hP 9 (by decide) k35 rfl rfl dX3_leaves_78 ?_
    refine lv_iload_n hx hb dX3_leaves_81 rfl (lv_at hl 4 rfl) ?_
    refine lv_iconst (v := -1) hx hb dX3_leaves_82 (by decide) ?_
    refine q_ist hx hb hK hP hD hS 9 0 rfl rfl v rfl (by omega) (by decide) dX3_leaves_83 (fun H locs hP hD hS => ?_)
    replace hP : va_P D vwCl (mW E (up2 (up2 (mLs y p w a (w - 1)) 8 v (nI 0)) 9 v (-1))) H := hP
    replace hD : va_D A (mW E (up2 (up2 (mLs y p w a (w - 1)) 8 v (nI 0)) 9 v (-1))) := hD
    exact W.vret hx hb hr (fun t ht hW => ⟨⟨up2 (up2 (mLs y p w a (w - 1)) 8 v (nI 0)) 9 v (-1), rfl, rfl, by rw [ht]; exact hP, va_K.moved hW.alike hK, hD⟩, hS.F ht⟩) hS.2.2 dX3_leaves_84
  | succ nn ih =>
    refine lv_iload hx hb dX3_leaves_27 (lv_at hl 0 rfl) ?_
    refine lv_aload_n hx hb dX3_leaves_29 rfl (lv_at hl 3 rfl) ?_
    refine m_get hx hb hts hin hown hK hP 5 (by decide) k23 rfl rfl dX3_leaves_30 ?_
    refine lv_iload_n hx hb dX3_leaves_33 rfl (lv_at hl 2 rfl) ?_
    refine q_ild hx hb hK hP 5 0 rfl rfl p rfl (by omega) (by decide) dX3_leaves_34 ?_
    refine q_top (x' := (nI (w - 1))) (mLs_5 y p w a k) ?_
    refine q_icmp_ge (tgt := 70) hx hb (by omega) (by omega) dX3_leaves_35 (by decide) (fun c1 => absurd c1 (by omega)) (fun c1 => ?_)
    refine lv_aload_n hx hb dX3_leaves_38 rfl (lv_at hl 3 rfl) ?_
    refine m_get hx hb hts hin hown hK hP 4 (by decide) k20 rfl rfl dX3_leaves_39 ?_
    refine lv_bipush (v := nI 8) hx hb dX3_leaves_42 (by decide) ?_
    refine lv_iload_n hx hb dX3_leaves_44 rfl (lv_at hl 2 rfl) ?_
    refine q_mul hx hb dX3_leaves_45 ?_
    refine lv_iload hx hb dX3_leaves_46 (lv_at hl 0 rfl) ?_
    refine q_add hx hb dX3_leaves_48 ?_
    refine lv_aload_n hx hb dX3_leaves_49 rfl (lv_at hl 3 rfl) ?_
    refine m_get hx hb hts hin hown hK hP 4 (by decide) k20 rfl rfl dX3_leaves_50 ?_
    refine lv_bipush (v := nI 8) hx hb dX3_leaves_53 (by decide) ?_
    refine lv_iload_n hx hb dX3_leaves_55 rfl (lv_at hl 2 rfl) ?_
    refine q_mul hx hb dX3_leaves_56 ?_
    refine lv_iload hx hb dX3_leaves_57 (lv_at hl 0 rfl) ?_
    refine q_add hx hb dX3_leaves_59 ?_
    refine lv_iconst (v := nI 1) hx hb dX3_leaves_60 (by decide) ?_
    refine q_add hx hb dX3_leaves_61 ?_
    refine q_ild hx hb hK hP 4 0 rfl rfl (((8 * p) + k) + 1) rfl (by omega) (by decide) dX3_leaves_62 ?_
    refine q_ist hx hb hK hP hD hS 4 0 rfl rfl ((8 * p) + k) rfl (by omega) (by decide) dX3_leaves_63 (fun H locs hP hD hS => ?_)
    replace hP : va_P D vwCl (mW E (up2 (mLs y p w a k) 4 ((8 * p) + k) ((mLs y p w a k) 4 (((8 * p) + k) + 1)))) H := hP
    replace hD : va_D A (mW E (up2 (mLs y p w a k) 4 ((8 * p) + k) ((mLs y p w a k) 4 (((8 * p) + k) + 1)))) := hD
    have ey : up2 (mLs y p w a k) 4 ((8 * p) + k) ((mLs y p w a k) 4 (((8 * p) + k) + 1)) = mLs y p w a (k + 1) := (mLs_s y p w a k hak)
    rw [ey] at hP hD
    clear ey
    refine q_inc (k := 0) (lv' := [(4, .int (nI (k + 1))), (3, .int (nI a)), (2, .int (nI p)), (0, .ref E.1.1), (1, .int (nI v))]) hx hb dX3_leaves_64 hl rfl (by decide) rfl (fun ls hl => ?_)
    refine lv_goto (tgt := 27) hx hb dX3_leaves_67 (by decide) ?_
    apply ih (k := k + 1) (H := H) (locs := locs) (ls := ls)
    all_goals first | omega | assumption

set_option maxHeartbeats 4000000 in
set_option maxRecDepth 100000 in
theorem c_X3_puts (l : Launch) (D : va_G) (E : mE) (tl : gTy) (y : Nat → Nat → Int32) (p at0 v w : Nat) (hp : p < 6) (hat : at0 ≤ w) (hw7 : w ≤ 7) (hv : v < 8) (h5 : y 5 p = nI w)  : gV l yX3_puts wsX3_puts ({ frames := 0, cells := 0, slots := 0, locals := 0 } : Room) D (mT E tl) (mW E y) [.ref E.1.1, .int (nI p), .int (nI at0), .int (nI v)] (fun u : Nat → Nat → Int32 => u = mPuts y p at0 v w) (mW E) 0 0 := by
  refine gM.start (cc := cX3_puts) (maxL := 5) (ret := none) (own := RX3) rfl (by decide) rfl (Nat.le_of_ble_eq_true rfl) ?_
  intro pr e s m args below meth c A ls H locs hx hb hml hr hts hown hlocks hname hA hK hP hD hS hl
  replace hl : lv_has ls 5 [(0, .ref E.1.1), (1, .int (nI p)), (2, .int (nI at0)), (3, .int (nI v))] := hl
  have hin : ∀ w ∈ wsX30, w ∈ wsX3_puts := by decide +kernel
  have k23 := hts (.fieldLink RX3 23 "FairFolioModel" "waiting" "[I") (by decide +kernel)
  have k20 := hts (.fieldLink RX3 20 "FairFolioModel" "queue" "[I") (by decide +kernel)
  have k32 := hts (.fieldLink RX3 32 "FairFolioModel" "state" "[I") (by decide +kernel)
  have k35 := hts (.fieldLink RX3 35 "FairFolioModel" "where" "[I") (by decide +kernel)
  refine lv_aload_n hx hb dX3_puts_0 rfl (lv_at hl 0 rfl) ?_
  refine m_get hx hb hts hin hown hK hP 5 (by decide) k23 rfl rfl dX3_puts_1 ?_
  refine lv_iload_n hx hb dX3_puts_4 rfl (lv_at hl 1 rfl) ?_
  refine q_ild hx hb hK hP 5 0 rfl rfl p rfl (by omega) (by decide) dX3_puts_5 ?_
  refine q_top (x' := (nI w)) h5 ?_
  refine lv_istore (lv' := [(4, .int (nI w)), (0, .ref E.1.1), (1, .int (nI p)), (2, .int (nI at0)), (3, .int (nI v))]) hx hb dX3_puts_6 hl (by decide) rfl (fun ls hl => ?_)
  rw [mPs_0 y p w] at hP hD
  obtain ⟨k, hk⟩ : ∃ k : Nat, k = w := ⟨_, rfl⟩
  obtain ⟨nn, hn⟩ : ∃ nn : Nat, at0 + nn = k := ⟨k - at0, by omega⟩
  replace hl : lv_has ls 5 [(4, .int (nI k)), (0, .ref E.1.1), (1, .int (nI p)), (2, .int (nI at0)), (3, .int (nI v))] := by rw [hk]; exact hl
  replace hP : va_P D vwCl (mW E (mPs y p w k)) H := by rw [hk]; exact hP
  replace hD : va_D A (mW E (mPs y p w k)) := by rw [hk]; exact hD
  have hkw : k ≤ w := by omega
  clear hk
  induction nn generalizing k H locs ls with
  | zero =>
    obtain rfl : at0 = k := by omega
    refine lv_iload hx hb dX3_puts_8 (lv_at hl 0 rfl) ?_
    refine lv_iload_n hx hb dX3_puts_10 rfl (lv_at hl 3 rfl) ?_
    refine q_icmp_le (tgt := 46) hx hb (by omega) (by omega) dX3_puts_11 (by decide) (fun c1 => ?_) (fun c1 => absurd c1 (by omega))
    refine lv_aload_n hx hb dX3_puts_46 rfl (lv_at hl 1 rfl) ?_
    refine m_get hx hb hts hin hown hK hP 4 (by decide) k20 rfl rfl dX3_puts_47 ?_
    refine lv_bipush (v := nI 8) hx hb dX3_puts_50 (by decide) ?_
    refine lv_iload_n hx hb dX3_puts_52 rfl (lv_at hl 2 rfl) ?_
    refine q_mul hx hb dX3_puts_53 ?_
    refine lv_iload_n hx hb dX3_puts_54 rfl (lv_at hl 3 rfl) ?_
    refine q_add hx hb dX3_puts_55 ?_
    refine lv_iload_n hx hb dX3_puts_56 rfl (lv_at hl 4 rfl) ?_
    refine q_ist hx hb hK hP hD hS 4 0 rfl rfl ((8 * p) + at0) rfl (by omega) (by decide) dX3_puts_57 (fun H locs hP hD hS => ?_)
    replace hP : va_P D vwCl (mW E (up2 (mPs y p w at0) 4 ((8 * p) + at0) (nI v))) H := hP
    replace hD : va_D A (mW E (up2 (mPs y p w at0) 4 ((8 * p) + at0) (nI v))) := hD
    refine lv_aload_n hx hb dX3_puts_58 rfl (lv_at hl 1 rfl) ?_
    refine m_get hx hb hts hin hown hK hP 5 (by decide) k23 rfl rfl dX3_puts_59 ?_
    refine lv_iload_n hx hb dX3_puts_62 rfl (lv_at hl 2 rfl) ?_
    refine lv_dup2_11 hx hb dX3_puts_63 rfl rfl ?_
    refine q_ild hx hb hK hP 5 0 rfl rfl p rfl (by omega) (by decide) dX3_puts_64 ?_
    refine q_top (x' := (nI w)) h5 ?_
    refine lv_iconst (v := nI 1) hx hb dX3_puts_65 (by decide) ?_
    refine q_add hx hb dX3_puts_66 ?_
    refine q_ist hx hb hK hP hD hS 5 0 rfl rfl p rfl (by omega) (by decide) dX3_puts_67 (fun H locs hP hD hS => ?_)
    replace hP : va_P D vwCl (mW E (up2 (up2 (mPs y p w at0) 4 ((8 * p) + at0) (nI v)) 5 p (nI (w + 1)))) H := hP
    replace hD : va_D A (mW E (up2 (up2 (mPs y p w at0) 4 ((8 * p) + at0) (nI v)) 5 p (nI (w + 1)))) := hD
    refine lv_aload_n hx hb dX3_puts_68 rfl (lv_at hl 1 rfl) ?_
    refine m_get hx hb hts hin hown hK hP 8 (by decide) k32 rfl rfl dX3_puts_69 ?_
    refine lv_iload_n hx hb dX3_puts_72 rfl (lv_at hl 4 rfl) ?_
    refine lv_iconst (v := nI 1) hx hb dX3_puts_73 (by decide) ?_
    refine q_ist hx hb hK hP hD hS 8 0 rfl rfl v rfl (by omega) (by decide) dX3_puts_74 (fun H locs hP hD hS => ?_)
    replace hP : va_P D vwCl (mW E (up2 (up2 (up2 (mPs y p w at0) 4 ((8 * p) + at0) (nI v)) 5 p (nI (w + 1))) 8 v (nI 1))) H := hP
    replace hD : va_D A (mW E (up2 (up2 (up2 (mPs y p w at0) 4 ((8 * p) + at0) (nI v)) 5 p (nI (w + 1))) 8 v (nI 1))) := hD
    refine lv_aload_n hx hb dX3_puts_75 rfl (lv_at hl 1 rfl) ?_
    refine m_get hx hb hts hin hown hK hP 9 (by decide) k35 rfl rfl dX3_puts_76 ?_
    refine lv_iload_n hx hb dX3_puts_79 rfl (lv_at hl 4 rfl) ?_
    refine lv_iload_n hx hb dX3_puts_80 rfl (lv_at hl 2 rfl) ?_
    refine q_ist hx hb hK hP hD hS 9 0 rfl rfl v rfl (by omega) (by decide) dX3_puts_81 (fun H locs hP hD hS => ?_)
    replace hP : va_P D vwCl (mW E (up2 (up2 (up2 (up2 (mPs y p w at0) 4 ((8 * p) + at0) (nI v)) 5 p (nI (w + 1))) 8 v (nI 1)) 9 v (nI p))) H := hP
    replace hD : va_D A (mW E (up2 (up2 (up2 (up2 (mPs y p w at0) 4 ((8 * p) + at0) (nI v)) 5 p (nI (w + 1))) 8 v (nI 1)) 9 v (nI p))) := hD
    exact W.vret hx hb hr (fun t ht hW => ⟨⟨up2 (up2 (up2 (up2 (mPs y p w at0) 4 ((8 * p) + at0) (nI v)) 5 p (nI (w + 1))) 8 v (nI 1)) 9 v (nI p), rfl, rfl, by rw [ht]; exact hP, va_K.moved hW.alike hK, hD⟩, hS.F ht⟩) hS.2.2 dX3_puts_82
  | succ nn ih =>
    obtain ⟨j, rfl⟩ : ∃ j, k = j + 1 := ⟨k - 1, by omega⟩
    refine lv_iload hx hb dX3_puts_8 (lv_at hl 0 rfl) ?_
    refine lv_iload_n hx hb dX3_puts_10 rfl (lv_at hl 3 rfl) ?_
    refine q_icmp_le (tgt := 46) hx hb (by omega) (by omega) dX3_puts_11 (by decide) (fun c1 => absurd c1 (by omega)) (fun c1 => ?_)
    refine lv_aload_n hx hb dX3_puts_14 rfl (lv_at hl 1 rfl) ?_
    refine m_get hx hb hts hin hown hK hP 4 (by decide) k20 rfl rfl dX3_puts_15 ?_
    refine lv_bipush (v := nI 8) hx hb dX3_puts_18 (by decide) ?_
    refine lv_iload_n hx hb dX3_puts_20 rfl (lv_at hl 2 rfl) ?_
    refine q_mul hx hb dX3_puts_21 ?_
    refine lv_iload hx hb dX3_puts_22 (lv_at hl 0 rfl) ?_
    refine q_add hx hb dX3_puts_24 ?_
    refine lv_aload_n hx hb dX3_puts_25 rfl (lv_at hl 1 rfl) ?_
    refine m_get hx hb hts hin hown hK hP 4 (by decide) k20 rfl rfl dX3_puts_26 ?_
    refine lv_bipush (v := nI 8) hx hb dX3_puts_29 (by decide) ?_
    refine lv_iload_n hx hb dX3_puts_31 rfl (lv_at hl 2 rfl) ?_
    refine q_mul hx hb dX3_puts_32 ?_
    refine lv_iload hx hb dX3_puts_33 (lv_at hl 0 rfl) ?_
    refine q_add hx hb dX3_puts_35 ?_
    refine lv_iconst (v := nI 1) hx hb dX3_puts_36 (by decide) ?_
    refine q_sub hx hb (by omega) dX3_puts_37 ?_
    refine q_ild hx hb hK hP 4 0 rfl rfl (((8 * p) + (j + 1)) - 1) rfl (by omega) (by decide) dX3_puts_38 ?_
    refine q_ist hx hb hK hP hD hS 4 0 rfl rfl ((8 * p) + (j + 1)) rfl (by omega) (by decide) dX3_puts_39 (fun H locs hP hD hS => ?_)
    replace hP : va_P D vwCl (mW E (up2 (mPs y p w (j + 1)) 4 ((8 * p) + (j + 1)) ((mPs y p w (j + 1)) 4 (((8 * p) + (j + 1)) - 1)))) H := hP
    replace hD : va_D A (mW E (up2 (mPs y p w (j + 1)) 4 ((8 * p) + (j + 1)) ((mPs y p w (j + 1)) 4 (((8 * p) + (j + 1)) - 1)))) := hD
    have ey : up2 (mPs y p w (j + 1)) 4 ((8 * p) + (j + 1)) ((mPs y p w (j + 1)) 4 (((8 * p) + (j + 1)) - 1)) = mPs y p w j := (mPs_s y p w j hkw)
    rw [ey] at hP hD
    clear ey
    refine q_dec (k := 0) (lv' := [(4, .int (nI (j + 1 - 1))), (0, .ref E.1.1), (1, .int (nI p)), (2, .int (nI at0)), (3, .int (nI v))]) hx hb (by omega) dX3_puts_40 hl rfl (by decide) rfl (fun ls hl => ?_)
    refine lv_goto (tgt := 8) hx hb dX3_puts_43 (by decide) ?_
    replace hl : lv_has ls 5 [(4, .int (nI (j + 1 - 1))), (0, .ref E.1.1), (1, .int (nI p)), (2, .int (nI at0)), (3, .int (nI v))] := hl
    apply ih (k := j) (H := H) (locs := locs) (ls := ls)
    all_goals first | omega | assumption
end
section
/-! the reference's steps that are told by relations: each says what must hold where it is used, and the table behind it -/
def mQ (y : Nat → Nat → Int32) (p w : Nat) : Prop := w ≤ 8 ∧ y 5 p = nI w ∧ (∀ k, k < w → ∃ v, v < 8 ∧ y 4 (8 * p + k) = nI v) ∧ (∀ i k, i < k → k < w → y 4 (8 * p + i) ≠ y 4 (8 * p + k))
theorem mLast_of {y : Nat → Nat → Int32} {p w a v : Nat} (h : ∀ i k, i < k → k < w → y 4 (8 * p + i) ≠ y 4 (8 * p + k)) (ha : y 4 (8 * p + a) = nI v) : ∀ k, a < k → k ≤ w → mLast y p v k = nI a := by
  intro k
  induction k with
  | zero => intro h1; omega
  | succ k ih =>
    intro h1 h2
    by_cases hk : y 4 (8 * p + k) = nI v
    · rw [mLast, if_pos hk]
      by_cases e : a = k
      · rw [e]
      · exact absurd (ha.trans hk.symm) (h a k (by omega) (by omega))
    · rw [mLast, if_neg hk]
      refine ih ?_ (by omega)
      rcases Nat.lt_or_ge a k with q | q
      · exact q
      · exact absurd (by rw [← show a = k by omega]; exact ha) hk
def mLeaveR (y : Nat → Nat → Int32) (v : Nat) (y' : Nat → Nat → Int32) : Prop := ∃ p w a, p < 6 ∧ 1 ≤ w ∧ w ≤ 8 ∧ a < w ∧ y 9 v = nI p ∧ y 5 p = nI w ∧ mLast y p v w = nI a ∧ y' = mLeave y v p w a
def mOffR (y : Nat → Nat → Int32) (v : Nat) (y' : Nat → Nat → Int32) : Prop := ∃ y1, mLeaveR y v y1 ∧ ((y1 14 v = nI 0 ∧ y' = y1) ∨ (y1 14 v = nI 1 ∧ y' = mLose y1 v))
/-- closing: all n that wait leave -/
def mDrain (p : Nat) : Nat → (Nat → Nat → Int32) → (Nat → Nat → Int32) → Prop
  | 0, y, y' => y 5 p = nI 0 ∧ y' = y
  | n + 1, y, y' => y 5 p = nI (n + 1) ∧ n + 1 ≤ 8 ∧ ∃ v y1, v < 8 ∧ y 4 (8 * p) = nI v ∧ mOffR y v y1 ∧ mDrain p n y1 y'
def mLastP (y : Nat → Nat → Int32) (v p : Nat) : Nat → Int32
  | 0 => -1
  | k + 1 => if y 6 (6 * v + k) = nI p then nI k else mLastP y v p k
/-- a plan's rows behind place a moved ahead, as far as k -/
def mDs (y : Nat → Nat → Int32) (v w a k : Nat) : Nat → Nat → Int32 := upA (up2 y 7 v (nI (w - 1))) 6 (fun j => if 6 * v + a ≤ j ∧ j < 6 * v + k then y 6 (j + 1) else y 6 j)
theorem mDs_0 (y : Nat → Nat → Int32) (v w a : Nat) : up2 y 7 v (nI (w - 1)) = mDs y v w a a := by
  funext f j
  unfold mDs upA up2
  by_cases h : f = 6
  · subst h
    rw [if_pos rfl, if_neg (by decide)]
    dsimp only
    rw [if_neg (show ¬ (6 * v + a ≤ j ∧ j < 6 * v + a) by omega)]
  · rw [if_neg h]
theorem mDs_7 (y : Nat → Nat → Int32) (v w a k : Nat) : mDs y v w a k 7 v = nI (w - 1) := by simp [mDs, upA, up2]
theorem mDs_s (y : Nat → Nat → Int32) (v w a k : Nat) (h : a ≤ k) : up2 (mDs y v w a k) 6 (6 * v + k) (mDs y v w a k 6 (6 * v + k + 1)) = mDs y v w a (k + 1) := by
  funext f j
  unfold mDs upA up2
  by_cases hf : f = 6
  · subst hf
    simp only [if_true]
    by_cases hj : j = 6 * v + k
    · subst hj
      rw [if_pos rfl, if_neg (by omega), if_pos (by omega)]
    · rw [if_neg hj]
      by_cases h1 : 6 * v + a ≤ j ∧ j < 6 * v + k
      · rw [if_pos h1, if_pos (by omega)]
      · rw [if_neg h1, if_neg (by omega)]
  · simp [hf]
def mDropR (y : Nat → Nat → Int32) (v p w : Nat) (y' : Nat → Nat → Int32) : Prop :=
  (y 8 v = nI 1 ∧ y 9 v = nI p ∧ y 14 v = nI 0 ∧ mLeaveR y v y') ∨ ((¬ y 8 v = nI 1 ∨ ¬ y 9 v = nI p ∨ ¬ y 14 v = nI 0) ∧ y' = y)
def mTaken (y : Nat → Nat → Int32) (p : Nat) (f : Int32) : Nat → Nat
  | 0 => 0
  | k + 1 => if mTaken y p f k = 1 then 1 else if y 12 k = f ∧ y 13 k = nI p then 1 else 0
theorem mTaken_01 (y : Nat → Nat → Int32) (p : Nat) (f : Int32) (k : Nat) : mTaken y p f k = 0 ∨ mTaken y p f k = 1 := by
  cases k with
  | zero => exact Or.inl rfl
  | succ k =>
    rw [mTaken]
    split
    · exact Or.inr rfl
    · split
      · exact Or.inr rfl
      · exact Or.inl rfl
def mAskR (y : Nat → Nat → Int32) (p : Nat) : Nat → Int32 → Int32 → Prop
  | 0, f, f' => mTaken y p f 8 = 0 ∧ f' = f
  | n + 1, f, f' => mTaken y p f 8 = 1 ∧ mAskR y p n (f + nI 5) f'
def mOut1 (z : Nat → Nat → Int32) (k : Nat) : Nat → Nat → Int32 := if z 8 k = nI 2 ∧ z 10 k ≤ z 0 0 then up2 (up2 (up2 z 11 k (z 11 k ||| (nI 1 <<< (z 9 k &&& 31)))) 8 k (nI 0)) 9 k (-1) else z
def mOut (y : Nat → Nat → Int32) : Nat → Nat → Nat → Int32
  | 0 => y
  | k + 1 => mOut1 (mOut y k) k
/-- the place behind those who wait by a turn: from a on, n of the queue left -/
def mAtR (y : Nat → Nat → Int32) (p : Nat) : Nat → Nat → Nat → Prop
  | 0, a, a' => a' = a
  | n + 1, a, a' => ∃ u, u < 8 ∧ y 4 (8 * p + a) = nI u ∧ ((y 14 u = nI 0 ∧ a' = a) ∨ (y 14 u = nI 1 ∧ mAtR y p n (a + 1) a'))
def mTTR (y : Nat → Nat → Int32) (k : Nat) (y' : Nat → Nat → Int32) : Prop :=
  ((¬ y 12 k = y 0 0 ∨ ¬ y 14 k = nI 0) ∧ y' = y) ∨
  (y 12 k = y 0 0 ∧ y 14 k = nI 0 ∧ ∃ p, p < 6 ∧ y 13 k = nI p ∧
    (((y 8 k = nI 2 ∨ ¬ y 3 p = nI 0) ∧ y' = mLose y k) ∨
     (¬ y 8 k = nI 2 ∧ y 3 p = nI 0 ∧ ∃ y1 w a, ((y 8 k = nI 1 ∧ mLeaveR y k y1) ∨ (¬ y 8 k = nI 1 ∧ y1 = y)) ∧ w ≤ 7 ∧ y1 5 p = nI w ∧ mAtR y1 p w 0 a ∧ a ≤ w ∧ y' = up2 (mPuts y1 p a k w) 14 k (nI 1))))
def mTTs : Nat → Nat → (Nat → Nat → Int32) → (Nat → Nat → Int32) → Prop
  | 0, _, y, y' => y' = y
  | n + 1, k, y, y' => ∃ y1, mTTR y k y1 ∧ mTTs n (k + 1) y1 y'
def mGoOn (v m : Nat) : Nat → Nat → (Nat → Nat → Int32) → (Nat → Nat → Int32) → Prop
  | 0, _, y, y' => y' = y
  | n + 1, k, y, y' => (¬ y 8 v = nI 0 ∧ y' = y) ∨ (y 8 v = nI 0 ∧ ∃ p, p < 6 ∧ y 6 (6 * v + k) = nI p ∧
      ((¬ y 3 p = nI 0 ∧ mGoOn v m n (k + 1) y y') ∨ (y 3 p = nI 0 ∧ ¬ (y 11 v >>> (nI p &&& 31)) &&& nI 1 = nI 0 ∧ mGoOn v m n (k + 1) y y') ∨
       (y 3 p = nI 0 ∧ (y 11 v >>> (nI p &&& 31)) &&& nI 1 = nI 0 ∧ ∃ w, w ≤ 7 ∧ y 5 p = nI w ∧ mGoOn v m n (k + 1) (mPuts y p w v w) y')))
def mGoOnR (y : Nat → Nat → Int32) (v : Nat) (y' : Nat → Nat → Int32) : Prop := ∃ m, m ≤ 6 ∧ y 7 v = nI m ∧ mGoOn v m m 0 y y'
def mGoOns : Nat → Nat → (Nat → Nat → Int32) → (Nat → Nat → Int32) → Prop
  | 0, _, y, y' => y' = y
  | n + 1, k, y, y' => ∃ y1, mGoOnR y k y1 ∧ mGoOns n (k + 1) y1 y'
def mEnter (y : Nat → Nat → Int32) (v p : Nat) : Nat → Nat → Int32 := up2 (up2 (up2 y 8 v (nI 2)) 9 v (nI p)) 10 v (y 0 0 + y 2 p)
def mGoIn (p : Nat) : Nat → (Nat → Nat → Int32) → (Nat → Nat → Int32) → Prop
  | 0, y, y' => (¬ y 3 p = nI 0 ∨ (y 3 p = nI 0 ∧ y 5 p = nI 0) ∨ (y 3 p = nI 0 ∧ (∃ w, w ≤ 8 ∧ y 5 p = nI w) ∧ y 1 p ≤ nI (mIns y p 8))) ∧ y' = y
  | n + 1, y, y' => y 3 p = nI 0 ∧ ¬ y 1 p ≤ nI (mIns y p 8) ∧ ∃ w v y1, w + 1 ≤ 8 ∧ y 5 p = nI (w + 1) ∧ v < 8 ∧ y 4 (8 * p) = nI v ∧ mOffR y v y1 ∧ mGoIn p n (mEnter y1 v p) y'
def mGoIns : Nat → Nat → (Nat → Nat → Int32) → (Nat → Nat → Int32) → Prop
  | 0, _, y, y' => y' = y
  | n + 1, k, y, y' => ∃ i y1, mGoIn k i y y1 ∧ mGoIns n (k + 1) y1 y'
def mMin (y y' : Nat → Nat → Int32) : Prop := ∃ y2 y3, mTTs 8 0 (mOut (up2 y 0 0 (y 0 0 + nI 1)) 8) y2 ∧ mGoOns 8 0 y2 y3 ∧ mGoIns 6 0 y3 y'
def mMins : Nat → (Nat → Nat → Int32) → (Nat → Nat → Int32) → Prop
  | 0, y, y' => y' = y
  | n + 1, y, y' => ∃ y1, mMin y y1 ∧ mMins n y1 y'
def mRepY (y : Nat → Nat → Int32) (t : Int32) : Nat → Nat → Nat → Int32
  | 0 => y
  | k + 1 => if mRepY y t k 16 k < t then mRepY y t k else up2 (up2 (mRepY y t k) 15 k (mRepY y t k 15 k + mRepY y t k 16 k)) 16 k (nI 0)
def mRepV (y : Nat → Nat → Int32) (t : Int32) : Nat → Int32
  | 0 => nI 0
  | k + 1 => if mRepY y t k 16 k < t then mRepV y t k else mRepV y t k + mRepY y t k 16 k
/-- room and time are in range, as both sides test it -/
def sOK (a b : Int32) : Prop := ¬ a < nI 1 ∧ ¬ nI 8 < a ∧ ¬ b < nI 1 ∧ ¬ nI 60 < b
end
section
set_option maxHeartbeats 4000000 in
set_option maxRecDepth 100000 in
theorem c_X3_stateOf (l : Launch) (D : va_G) (E : mE) (tl : gTy) (y : Nat → Nat → Int32) (v : Nat) (hv : v < 8)  : gI l yX3_stateOf wsX3_stateOf ({ frames := 1, cells := 0, slots := 0, locals := 22 } : Room) D (mT E tl) (mW E y) [.ref E.1.1, .int (nI v)] (fun (r : Int32) (u : Nat → Nat → Int32) => r = y 8 v ∧ u = up2 y 18 0 (nI 0)) (mW E) 0 0 := by
  refine gM.start (cc := cX3_stateOf) (maxL := 2) (ret := (some .int)) (own := RX3) rfl (by decide) rfl (Nat.le_of_ble_eq_true rfl) ?_
  intro pr e s m args below meth c A ls H locs hx hb hml hr hts hown hlocks hname hA hK hP hD hS hl
  replace hl : lv_has ls 2 [(0, .ref E.1.1), (1, .int (nI v))] := hl
  have hin : ∀ w ∈ wsX30, w ∈ wsX3_stateOf := by decide +kernel
  have k32 := hts (.fieldLink RX3 32 "FairFolioModel" "state" "[I") (by decide +kernel)
  refine lv_aload_n hx hb dX3_stateOf_0 rfl (lv_at hl 0 rfl) ?_
  refine lv_iload_n hx hb dX3_stateOf_1 rfl (lv_at hl 1 rfl) ?_
  refine g_scalli (As := [.int (nI v)]) (rest := [.ref E.1.1]) ⟨hx, hb, hml, hown, hts⟩ (c_X3_isVisitor_y l D E tl y v hv) (va_cwS 1 hts gX3_stateOf_X3_isVisitor rfl rfl rfl (by decide +kernel) ⟨Nat.le_of_ble_eq_true rfl, Nat.le_of_ble_eq_true rfl⟩) hK hP hD hS hA rfl hl.1 rfl (Nat.le_of_ble_eq_true rfl) dX3_stateOf_2 ⟨Nat.le_of_ble_eq_true rfl, Nat.le_of_ble_eq_true rfl⟩ (fun r_3 u_2 H locs hw hP hD hS => ?_)
  obtain ⟨hr_3, hu_2⟩ := hw
  rw [hu_2] at hP hD
  refine q_top (x' := (nI 1)) hr_3 ?_
  refine lv_iconst (v := nI 1) hx hb dX3_stateOf_5 (by decide) ?_
  refine g_calli (As := [.int (nI 1), .int (nI 1)]) (rest := []) ⟨hx, hb, hml, hown, hts⟩ (c_X3_goes l D E tl y (nI 1) (nI 1)) (cwV 2 hts gX3_stateOf_X3_goes rfl rfl rfl (by decide +kernel) ⟨Nat.le_of_ble_eq_true rfl, Nat.le_of_ble_eq_true rfl⟩) (m_recv hK hP) hK hP hD hS hA rfl hl.1 rfl (Nat.le_of_ble_eq_true rfl) dX3_stateOf_6 ⟨Nat.le_of_ble_eq_true rfl, Nat.le_of_ble_eq_true rfl⟩ (fun r_6 u_5 H locs hw hP hD hS => ?_)
  obtain ⟨hr_6, hu_5⟩ := hw
  rw [hu_5] at hP hD
  rw [show mGt (nI 1) (nI 1) = nI 0 from by decide] at hP hD
  refine q_top (x' := (nI 1)) (hr_6.trans (by decide)) ?_
  refine q_if_eq (tgt := 21) hx hb (by omega) dX3_stateOf_9 (by decide) (fun c_7 => absurd c_7 (by decide)) (fun c_7 => ?_)
  refine lv_aload_n hx hb dX3_stateOf_12 rfl (lv_at hl 0 rfl) ?_
  refine m_get hx hb hts hin hown hK hP 8 (by decide) k32 rfl rfl dX3_stateOf_13 ?_
  refine lv_iload_n hx hb dX3_stateOf_16 rfl (lv_at hl 1 rfl) ?_
  refine q_ild hx hb hK hP 8 0 rfl rfl v rfl (by omega) (by decide) dX3_stateOf_17 ?_
  refine lv_goto (tgt := 22) hx hb dX3_stateOf_18 (by decide) ?_
  exact W.iret hx hb hr (fun t ht hW => ⟨⟨_, up2 y 18 0 (nI 0), rfl, ⟨rfl, rfl⟩, by rw [ht]; exact hP, va_K.moved hW.alike hK, hD⟩, hS.F ht⟩) hS.2.2 dX3_stateOf_22

set_option maxHeartbeats 4000000 in
set_option maxRecDepth 100000 in
theorem c_X3_stateOf_n (l : Launch) (D : va_G) (E : mE) (tl : gTy) (y : Nat → Nat → Int32) (v : Int32) (hv : v < 0 ∨ nI 8 ≤ v)  : gI l yX3_stateOf wsX3_stateOf ({ frames := 1, cells := 0, slots := 0, locals := 22 } : Room) D (mT E tl) (mW E y) [.ref E.1.1, .int v] (fun (r : Int32) (u : Nat → Nat → Int32) => u = up2 y 18 0 (nI 1)) (mW E) 0 0 := by
  refine gM.start (cc := cX3_stateOf) (maxL := 2) (ret := (some .int)) (own := RX3) rfl (by decide) rfl (Nat.le_of_ble_eq_true rfl) ?_
  intro pr e s m args below meth c A ls H locs hx hb hml hr hts hown hlocks hname hA hK hP hD hS hl
  replace hl : lv_has ls 2 [(0, .ref E.1.1), (1, .int v)] := hl
  refine lv_aload_n hx hb dX3_stateOf_0 rfl (lv_at hl 0 rfl) ?_
  refine lv_iload_n hx hb dX3_stateOf_1 rfl (lv_at hl 1 rfl) ?_
  refine g_scalli (As := [.int v]) (rest := [.ref E.1.1]) ⟨hx, hb, hml, hown, hts⟩ (c_X3_isVisitor_n l D E tl y v hv) (va_cwS 1 hts gX3_stateOf_X3_isVisitor rfl rfl rfl (by decide +kernel) ⟨Nat.le_of_ble_eq_true rfl, Nat.le_of_ble_eq_true rfl⟩) hK hP hD hS hA rfl hl.1 rfl (Nat.le_of_ble_eq_true rfl) dX3_stateOf_2 ⟨Nat.le_of_ble_eq_true rfl, Nat.le_of_ble_eq_true rfl⟩ (fun r_3 u_2 H locs hw hP hD hS => ?_)
  obtain ⟨hr_3, hu_2⟩ := hw
  rw [hu_2] at hP hD
  refine q_top (x' := (nI 0)) hr_3 ?_
  refine lv_iconst (v := nI 1) hx hb dX3_stateOf_5 (by decide) ?_
  refine g_calli (As := [.int (nI 0), .int (nI 1)]) (rest := []) ⟨hx, hb, hml, hown, hts⟩ (c_X3_goes l D E tl y (nI 0) (nI 1)) (cwV 2 hts gX3_stateOf_X3_goes rfl rfl rfl (by decide +kernel) ⟨Nat.le_of_ble_eq_true rfl, Nat.le_of_ble_eq_true rfl⟩) (m_recv hK hP) hK hP hD hS hA rfl hl.1 rfl (Nat.le_of_ble_eq_true rfl) dX3_stateOf_6 ⟨Nat.le_of_ble_eq_true rfl, Nat.le_of_ble_eq_true rfl⟩ (fun r_6 u_5 H locs hw hP hD hS => ?_)
  obtain ⟨hr_6, hu_5⟩ := hw
  rw [hu_5] at hP hD
  rw [show mGt (nI 0) (nI 1) = nI 1 from by decide] at hP hD
  refine q_top (x' := (nI 0)) (hr_6.trans (by decide)) ?_
  refine q_if_eq (tgt := 21) hx hb (by omega) dX3_stateOf_9 (by decide) (fun c_7 => ?_) (fun c_7 => absurd c_7 (by decide))
  refine lv_iconst (v := nI 0) hx hb dX3_stateOf_21 (by decide) ?_
  exact W.iret hx hb hr (fun t ht hW => ⟨⟨_, up2 y 18 0 (nI 1), rfl, rfl, by rw [ht]; exact hP, va_K.moved hW.alike hK, hD⟩, hS.F ht⟩) hS.2.2 dX3_stateOf_22

set_option maxHeartbeats 4000000 in
set_option maxRecDepth 100000 in
theorem c_X3_whereIs (l : Launch) (D : va_G) (E : mE) (tl : gTy) (y : Nat → Nat → Int32) (v : Nat) (hv : v < 8)  : gI l yX3_whereIs wsX3_whereIs ({ frames := 1, cells := 0, slots := 0, locals := 22 } : Room) D (mT E tl) (mW E y) [.ref E.1.1, .int (nI v)] (fun (r : Int32) (u : Nat → Nat → Int32) => r = y 9 v ∧ u = up2 y 18 0 (nI 0)) (mW E) 0 0 := by
  refine gM.start (cc := cX3_whereIs) (maxL := 2) (ret := (some .int)) (own := RX3) rfl (by decide) rfl (Nat.le_of_ble_eq_true rfl) ?_
  intro pr e s m args below meth c A ls H locs hx hb hml hr hts hown hlocks hname hA hK hP hD hS hl
  replace hl : lv_has ls 2 [(0, .ref E.1.1), (1, .int (nI v))] := hl
  have hin : ∀ w ∈ wsX30, w ∈ wsX3_whereIs := by decide +kernel
  have k35 := hts (.fieldLink RX3 35 "FairFolioModel" "where" "[I") (by decide +kernel)
  refine lv_aload_n hx hb dX3_whereIs_0 rfl (lv_at hl 0 rfl) ?_
  refine lv_iload_n hx hb dX3_whereIs_1 rfl (lv_at hl 1 rfl) ?_
  refine g_scalli (As := [.int (nI v)]) (rest := [.ref E.1.1]) ⟨hx, hb, hml, hown, hts⟩ (c_X3_isVisitor_y l D E tl y v hv) (va_cwS 1 hts gX3_whereIs_X3_isVisitor rfl rfl rfl (by decide +kernel) ⟨Nat.le_of_ble_eq_true rfl, Nat.le_of_ble_eq_true rfl⟩) hK hP hD hS hA rfl hl.1 rfl (Nat.le_of_ble_eq_true rfl) dX3_whereIs_2 ⟨Nat.le_of_ble_eq_true rfl, Nat.le_of_ble_eq_true rfl⟩ (fun r_3 u_2 H locs hw hP hD hS => ?_)
  obtain ⟨hr_3, hu_2⟩ := hw
  rw [hu_2] at hP hD
  refine q_top (x' := (nI 1)) hr_3 ?_
  refine lv_iconst (v := nI 1) hx hb dX3_whereIs_5 (by decide) ?_
  refine g_calli (As := [.int (nI 1), .int (nI 1)]) (rest := []) ⟨hx, hb, hml, hown, hts⟩ (c_X3_goes l D E tl y (nI 1) (nI 1)) (cwV 2 hts gX3_whereIs_X3_goes rfl rfl rfl (by decide +kernel) ⟨Nat.le_of_ble_eq_true rfl, Nat.le_of_ble_eq_true rfl⟩) (m_recv hK hP) hK hP hD hS hA rfl hl.1 rfl (Nat.le_of_ble_eq_true rfl) dX3_whereIs_6 ⟨Nat.le_of_ble_eq_true rfl, Nat.le_of_ble_eq_true rfl⟩ (fun r_6 u_5 H locs hw hP hD hS => ?_)
  obtain ⟨hr_6, hu_5⟩ := hw
  rw [hu_5] at hP hD
  rw [show mGt (nI 1) (nI 1) = nI 0 from by decide] at hP hD
  refine q_top (x' := (nI 1)) (hr_6.trans (by decide)) ?_
  refine q_if_eq (tgt := 21) hx hb (by omega) dX3_whereIs_9 (by decide) (fun c_7 => absurd c_7 (by decide)) (fun c_7 => ?_)
  refine lv_aload_n hx hb dX3_whereIs_12 rfl (lv_at hl 0 rfl) ?_
  refine m_get hx hb hts hin hown hK hP 9 (by decide) k35 rfl rfl dX3_whereIs_13 ?_
  refine lv_iload_n hx hb dX3_whereIs_16 rfl (lv_at hl 1 rfl) ?_
  refine q_ild hx hb hK hP 9 0 rfl rfl v rfl (by omega) (by decide) dX3_whereIs_17 ?_
  refine lv_goto (tgt := 22) hx hb dX3_whereIs_18 (by decide) ?_
  exact W.iret hx hb hr (fun t ht hW => ⟨⟨_, up2 y 18 0 (nI 0), rfl, ⟨rfl, rfl⟩, by rw [ht]; exact hP, va_K.moved hW.alike hK, hD⟩, hS.F ht⟩) hS.2.2 dX3_whereIs_22

set_option maxHeartbeats 4000000 in
set_option maxRecDepth 100000 in
theorem c_X3_whereIs_n (l : Launch) (D : va_G) (E : mE) (tl : gTy) (y : Nat → Nat → Int32) (v : Int32) (hv : v < 0 ∨ nI 8 ≤ v)  : gI l yX3_whereIs wsX3_whereIs ({ frames := 1, cells := 0, slots := 0, locals := 22 } : Room) D (mT E tl) (mW E y) [.ref E.1.1, .int v] (fun (r : Int32) (u : Nat → Nat → Int32) => u = up2 y 18 0 (nI 1)) (mW E) 0 0 := by
  refine gM.start (cc := cX3_whereIs) (maxL := 2) (ret := (some .int)) (own := RX3) rfl (by decide) rfl (Nat.le_of_ble_eq_true rfl) ?_
  intro pr e s m args below meth c A ls H locs hx hb hml hr hts hown hlocks hname hA hK hP hD hS hl
  replace hl : lv_has ls 2 [(0, .ref E.1.1), (1, .int v)] := hl
  refine lv_aload_n hx hb dX3_whereIs_0 rfl (lv_at hl 0 rfl) ?_
  refine lv_iload_n hx hb dX3_whereIs_1 rfl (lv_at hl 1 rfl) ?_
  refine g_scalli (As := [.int v]) (rest := [.ref E.1.1]) ⟨hx, hb, hml, hown, hts⟩ (c_X3_isVisitor_n l D E tl y v hv) (va_cwS 1 hts gX3_whereIs_X3_isVisitor rfl rfl rfl (by decide +kernel) ⟨Nat.le_of_ble_eq_true rfl, Nat.le_of_ble_eq_true rfl⟩) hK hP hD hS hA rfl hl.1 rfl (Nat.le_of_ble_eq_true rfl) dX3_whereIs_2 ⟨Nat.le_of_ble_eq_true rfl, Nat.le_of_ble_eq_true rfl⟩ (fun r_3 u_2 H locs hw hP hD hS => ?_)
  obtain ⟨hr_3, hu_2⟩ := hw
  rw [hu_2] at hP hD
  refine q_top (x' := (nI 0)) hr_3 ?_
  refine lv_iconst (v := nI 1) hx hb dX3_whereIs_5 (by decide) ?_
  refine g_calli (As := [.int (nI 0), .int (nI 1)]) (rest := []) ⟨hx, hb, hml, hown, hts⟩ (c_X3_goes l D E tl y (nI 0) (nI 1)) (cwV 2 hts gX3_whereIs_X3_goes rfl rfl rfl (by decide +kernel) ⟨Nat.le_of_ble_eq_true rfl, Nat.le_of_ble_eq_true rfl⟩) (m_recv hK hP) hK hP hD hS hA rfl hl.1 rfl (Nat.le_of_ble_eq_true rfl) dX3_whereIs_6 ⟨Nat.le_of_ble_eq_true rfl, Nat.le_of_ble_eq_true rfl⟩ (fun r_6 u_5 H locs hw hP hD hS => ?_)
  obtain ⟨hr_6, hu_5⟩ := hw
  rw [hu_5] at hP hD
  rw [show mGt (nI 0) (nI 1) = nI 1 from by decide] at hP hD
  refine q_top (x' := (nI 0)) (hr_6.trans (by decide)) ?_
  refine q_if_eq (tgt := 21) hx hb (by omega) dX3_whereIs_9 (by decide) (fun c_7 => ?_) (fun c_7 => absurd c_7 (by decide))
  refine lv_iconst (v := nI 0) hx hb dX3_whereIs_21 (by decide) ?_
  exact W.iret hx hb hr (fun t ht hW => ⟨⟨_, up2 y 18 0 (nI 1), rfl, rfl, by rw [ht]; exact hP, va_K.moved hW.alike hK, hD⟩, hS.F ht⟩) hS.2.2 dX3_whereIs_22

set_option maxHeartbeats 4000000 in
set_option maxRecDepth 100000 in
theorem c_X3_turnOf (l : Launch) (D : va_G) (E : mE) (tl : gTy) (y : Nat → Nat → Int32) (v : Nat) (hv : v < 8)  : gI l yX3_turnOf wsX3_turnOf ({ frames := 1, cells := 0, slots := 0, locals := 22 } : Room) D (mT E tl) (mW E y) [.ref E.1.1, .int (nI v)] (fun (r : Int32) (u : Nat → Nat → Int32) => r = y 12 v ∧ u = up2 y 18 0 (nI 0)) (mW E) 0 0 := by
  refine gM.start (cc := cX3_turnOf) (maxL := 2) (ret := (some .int)) (own := RX3) rfl (by decide) rfl (Nat.le_of_ble_eq_true rfl) ?_
  intro pr e s m args below meth c A ls H locs hx hb hml hr hts hown hlocks hname hA hK hP hD hS hl
  replace hl : lv_has ls 2 [(0, .ref E.1.1), (1, .int (nI v))] := hl
  have hin : ∀ w ∈ wsX30, w ∈ wsX3_turnOf := by decide +kernel
  have k44 := hts (.fieldLink RX3 44 "FairFolioModel" "turn" "[I") (by decide +kernel)
  refine lv_aload_n hx hb dX3_turnOf_0 rfl (lv_at hl 0 rfl) ?_
  refine lv_iload_n hx hb dX3_turnOf_1 rfl (lv_at hl 1 rfl) ?_
  refine g_scalli (As := [.int (nI v)]) (rest := [.ref E.1.1]) ⟨hx, hb, hml, hown, hts⟩ (c_X3_isVisitor_y l D E tl y v hv) (va_cwS 1 hts gX3_turnOf_X3_isVisitor rfl rfl rfl (by decide +kernel) ⟨Nat.le_of_ble_eq_true rfl, Nat.le_of_ble_eq_true rfl⟩) hK hP hD hS hA rfl hl.1 rfl (Nat.le_of_ble_eq_true rfl) dX3_turnOf_2 ⟨Nat.le_of_ble_eq_true rfl, Nat.le_of_ble_eq_true rfl⟩ (fun r_3 u_2 H locs hw hP hD hS => ?_)
  obtain ⟨hr_3, hu_2⟩ := hw
  rw [hu_2] at hP hD
  refine q_top (x' := (nI 1)) hr_3 ?_
  refine lv_iconst (v := nI 1) hx hb dX3_turnOf_5 (by decide) ?_
  refine g_calli (As := [.int (nI 1), .int (nI 1)]) (rest := []) ⟨hx, hb, hml, hown, hts⟩ (c_X3_goes l D E tl y (nI 1) (nI 1)) (cwV 2 hts gX3_turnOf_X3_goes rfl rfl rfl (by decide +kernel) ⟨Nat.le_of_ble_eq_true rfl, Nat.le_of_ble_eq_true rfl⟩) (m_recv hK hP) hK hP hD hS hA rfl hl.1 rfl (Nat.le_of_ble_eq_true rfl) dX3_turnOf_6 ⟨Nat.le_of_ble_eq_true rfl, Nat.le_of_ble_eq_true rfl⟩ (fun r_6 u_5 H locs hw hP hD hS => ?_)
  obtain ⟨hr_6, hu_5⟩ := hw
  rw [hu_5] at hP hD
  rw [show mGt (nI 1) (nI 1) = nI 0 from by decide] at hP hD
  refine q_top (x' := (nI 1)) (hr_6.trans (by decide)) ?_
  refine q_if_eq (tgt := 21) hx hb (by omega) dX3_turnOf_9 (by decide) (fun c_7 => absurd c_7 (by decide)) (fun c_7 => ?_)
  refine lv_aload_n hx hb dX3_turnOf_12 rfl (lv_at hl 0 rfl) ?_
  refine m_get hx hb hts hin hown hK hP 12 (by decide) k44 rfl rfl dX3_turnOf_13 ?_
  refine lv_iload_n hx hb dX3_turnOf_16 rfl (lv_at hl 1 rfl) ?_
  refine q_ild hx hb hK hP 12 0 rfl rfl v rfl (by omega) (by decide) dX3_turnOf_17 ?_
  refine lv_goto (tgt := 22) hx hb dX3_turnOf_18 (by decide) ?_
  exact W.iret hx hb hr (fun t ht hW => ⟨⟨_, up2 y 18 0 (nI 0), rfl, ⟨rfl, rfl⟩, by rw [ht]; exact hP, va_K.moved hW.alike hK, hD⟩, hS.F ht⟩) hS.2.2 dX3_turnOf_22

set_option maxHeartbeats 4000000 in
set_option maxRecDepth 100000 in
theorem c_X3_turnOf_n (l : Launch) (D : va_G) (E : mE) (tl : gTy) (y : Nat → Nat → Int32) (v : Int32) (hv : v < 0 ∨ nI 8 ≤ v)  : gI l yX3_turnOf wsX3_turnOf ({ frames := 1, cells := 0, slots := 0, locals := 22 } : Room) D (mT E tl) (mW E y) [.ref E.1.1, .int v] (fun (r : Int32) (u : Nat → Nat → Int32) => u = up2 y 18 0 (nI 1)) (mW E) 0 0 := by
  refine gM.start (cc := cX3_turnOf) (maxL := 2) (ret := (some .int)) (own := RX3) rfl (by decide) rfl (Nat.le_of_ble_eq_true rfl) ?_
  intro pr e s m args below meth c A ls H locs hx hb hml hr hts hown hlocks hname hA hK hP hD hS hl
  replace hl : lv_has ls 2 [(0, .ref E.1.1), (1, .int v)] := hl
  refine lv_aload_n hx hb dX3_turnOf_0 rfl (lv_at hl 0 rfl) ?_
  refine lv_iload_n hx hb dX3_turnOf_1 rfl (lv_at hl 1 rfl) ?_
  refine g_scalli (As := [.int v]) (rest := [.ref E.1.1]) ⟨hx, hb, hml, hown, hts⟩ (c_X3_isVisitor_n l D E tl y v hv) (va_cwS 1 hts gX3_turnOf_X3_isVisitor rfl rfl rfl (by decide +kernel) ⟨Nat.le_of_ble_eq_true rfl, Nat.le_of_ble_eq_true rfl⟩) hK hP hD hS hA rfl hl.1 rfl (Nat.le_of_ble_eq_true rfl) dX3_turnOf_2 ⟨Nat.le_of_ble_eq_true rfl, Nat.le_of_ble_eq_true rfl⟩ (fun r_3 u_2 H locs hw hP hD hS => ?_)
  obtain ⟨hr_3, hu_2⟩ := hw
  rw [hu_2] at hP hD
  refine q_top (x' := (nI 0)) hr_3 ?_
  refine lv_iconst (v := nI 1) hx hb dX3_turnOf_5 (by decide) ?_
  refine g_calli (As := [.int (nI 0), .int (nI 1)]) (rest := []) ⟨hx, hb, hml, hown, hts⟩ (c_X3_goes l D E tl y (nI 0) (nI 1)) (cwV 2 hts gX3_turnOf_X3_goes rfl rfl rfl (by decide +kernel) ⟨Nat.le_of_ble_eq_true rfl, Nat.le_of_ble_eq_true rfl⟩) (m_recv hK hP) hK hP hD hS hA rfl hl.1 rfl (Nat.le_of_ble_eq_true rfl) dX3_turnOf_6 ⟨Nat.le_of_ble_eq_true rfl, Nat.le_of_ble_eq_true rfl⟩ (fun r_6 u_5 H locs hw hP hD hS => ?_)
  obtain ⟨hr_6, hu_5⟩ := hw
  rw [hu_5] at hP hD
  rw [show mGt (nI 0) (nI 1) = nI 1 from by decide] at hP hD
  refine q_top (x' := (nI 0)) (hr_6.trans (by decide)) ?_
  refine q_if_eq (tgt := 21) hx hb (by omega) dX3_turnOf_9 (by decide) (fun c_7 => ?_) (fun c_7 => absurd c_7 (by decide))
  refine lv_iconst (v := nI 0) hx hb dX3_turnOf_21 (by decide) ?_
  exact W.iret hx hb hr (fun t ht hW => ⟨⟨_, up2 y 18 0 (nI 1), rfl, rfl, by rw [ht]; exact hP, va_K.moved hW.alike hK, hD⟩, hS.F ht⟩) hS.2.2 dX3_turnOf_22

set_option maxHeartbeats 4000000 in
set_option maxRecDepth 100000 in
theorem c_X3_stamps (l : Launch) (D : va_G) (E : mE) (tl : gTy) (y : Nat → Nat → Int32) (v : Nat) (hv : v < 8)  : gI l yX3_stamps wsX3_stamps ({ frames := 1, cells := 0, slots := 0, locals := 22 } : Room) D (mT E tl) (mW E y) [.ref E.1.1, .int (nI v)] (fun (r : Int32) (u : Nat → Nat → Int32) => r = y 11 v ∧ u = up2 y 18 0 (nI 0)) (mW E) 0 0 := by
  refine gM.start (cc := cX3_stamps) (maxL := 2) (ret := (some .int)) (own := RX3) rfl (by decide) rfl (Nat.le_of_ble_eq_true rfl) ?_
  intro pr e s m args below meth c A ls H locs hx hb hml hr hts hown hlocks hname hA hK hP hD hS hl
  replace hl : lv_has ls 2 [(0, .ref E.1.1), (1, .int (nI v))] := hl
  have hin : ∀ w ∈ wsX30, w ∈ wsX3_stamps := by decide +kernel
  have k41 := hts (.fieldLink RX3 41 "FairFolioModel" "stamps" "[I") (by decide +kernel)
  refine lv_aload_n hx hb dX3_stamps_0 rfl (lv_at hl 0 rfl) ?_
  refine lv_iload_n hx hb dX3_stamps_1 rfl (lv_at hl 1 rfl) ?_
  refine g_scalli (As := [.int (nI v)]) (rest := [.ref E.1.1]) ⟨hx, hb, hml, hown, hts⟩ (c_X3_isVisitor_y l D E tl y v hv) (va_cwS 1 hts gX3_stamps_X3_isVisitor rfl rfl rfl (by decide +kernel) ⟨Nat.le_of_ble_eq_true rfl, Nat.le_of_ble_eq_true rfl⟩) hK hP hD hS hA rfl hl.1 rfl (Nat.le_of_ble_eq_true rfl) dX3_stamps_2 ⟨Nat.le_of_ble_eq_true rfl, Nat.le_of_ble_eq_true rfl⟩ (fun r_3 u_2 H locs hw hP hD hS => ?_)
  obtain ⟨hr_3, hu_2⟩ := hw
  rw [hu_2] at hP hD
  refine q_top (x' := (nI 1)) hr_3 ?_
  refine lv_iconst (v := nI 1) hx hb dX3_stamps_5 (by decide) ?_
  refine g_calli (As := [.int (nI 1), .int (nI 1)]) (rest := []) ⟨hx, hb, hml, hown, hts⟩ (c_X3_goes l D E tl y (nI 1) (nI 1)) (cwV 2 hts gX3_stamps_X3_goes rfl rfl rfl (by decide +kernel) ⟨Nat.le_of_ble_eq_true rfl, Nat.le_of_ble_eq_true rfl⟩) (m_recv hK hP) hK hP hD hS hA rfl hl.1 rfl (Nat.le_of_ble_eq_true rfl) dX3_stamps_6 ⟨Nat.le_of_ble_eq_true rfl, Nat.le_of_ble_eq_true rfl⟩ (fun r_6 u_5 H locs hw hP hD hS => ?_)
  obtain ⟨hr_6, hu_5⟩ := hw
  rw [hu_5] at hP hD
  rw [show mGt (nI 1) (nI 1) = nI 0 from by decide] at hP hD
  refine q_top (x' := (nI 1)) (hr_6.trans (by decide)) ?_
  refine q_if_eq (tgt := 21) hx hb (by omega) dX3_stamps_9 (by decide) (fun c_7 => absurd c_7 (by decide)) (fun c_7 => ?_)
  refine lv_aload_n hx hb dX3_stamps_12 rfl (lv_at hl 0 rfl) ?_
  refine m_get hx hb hts hin hown hK hP 11 (by decide) k41 rfl rfl dX3_stamps_13 ?_
  refine lv_iload_n hx hb dX3_stamps_16 rfl (lv_at hl 1 rfl) ?_
  refine q_ild hx hb hK hP 11 0 rfl rfl v rfl (by omega) (by decide) dX3_stamps_17 ?_
  refine lv_goto (tgt := 22) hx hb dX3_stamps_18 (by decide) ?_
  exact W.iret hx hb hr (fun t ht hW => ⟨⟨_, up2 y 18 0 (nI 0), rfl, ⟨rfl, rfl⟩, by rw [ht]; exact hP, va_K.moved hW.alike hK, hD⟩, hS.F ht⟩) hS.2.2 dX3_stamps_22

set_option maxHeartbeats 4000000 in
set_option maxRecDepth 100000 in
theorem c_X3_stamps_n (l : Launch) (D : va_G) (E : mE) (tl : gTy) (y : Nat → Nat → Int32) (v : Int32) (hv : v < 0 ∨ nI 8 ≤ v)  : gI l yX3_stamps wsX3_stamps ({ frames := 1, cells := 0, slots := 0, locals := 22 } : Room) D (mT E tl) (mW E y) [.ref E.1.1, .int v] (fun (r : Int32) (u : Nat → Nat → Int32) => u = up2 y 18 0 (nI 1)) (mW E) 0 0 := by
  refine gM.start (cc := cX3_stamps) (maxL := 2) (ret := (some .int)) (own := RX3) rfl (by decide) rfl (Nat.le_of_ble_eq_true rfl) ?_
  intro pr e s m args below meth c A ls H locs hx hb hml hr hts hown hlocks hname hA hK hP hD hS hl
  replace hl : lv_has ls 2 [(0, .ref E.1.1), (1, .int v)] := hl
  refine lv_aload_n hx hb dX3_stamps_0 rfl (lv_at hl 0 rfl) ?_
  refine lv_iload_n hx hb dX3_stamps_1 rfl (lv_at hl 1 rfl) ?_
  refine g_scalli (As := [.int v]) (rest := [.ref E.1.1]) ⟨hx, hb, hml, hown, hts⟩ (c_X3_isVisitor_n l D E tl y v hv) (va_cwS 1 hts gX3_stamps_X3_isVisitor rfl rfl rfl (by decide +kernel) ⟨Nat.le_of_ble_eq_true rfl, Nat.le_of_ble_eq_true rfl⟩) hK hP hD hS hA rfl hl.1 rfl (Nat.le_of_ble_eq_true rfl) dX3_stamps_2 ⟨Nat.le_of_ble_eq_true rfl, Nat.le_of_ble_eq_true rfl⟩ (fun r_3 u_2 H locs hw hP hD hS => ?_)
  obtain ⟨hr_3, hu_2⟩ := hw
  rw [hu_2] at hP hD
  refine q_top (x' := (nI 0)) hr_3 ?_
  refine lv_iconst (v := nI 1) hx hb dX3_stamps_5 (by decide) ?_
  refine g_calli (As := [.int (nI 0), .int (nI 1)]) (rest := []) ⟨hx, hb, hml, hown, hts⟩ (c_X3_goes l D E tl y (nI 0) (nI 1)) (cwV 2 hts gX3_stamps_X3_goes rfl rfl rfl (by decide +kernel) ⟨Nat.le_of_ble_eq_true rfl, Nat.le_of_ble_eq_true rfl⟩) (m_recv hK hP) hK hP hD hS hA rfl hl.1 rfl (Nat.le_of_ble_eq_true rfl) dX3_stamps_6 ⟨Nat.le_of_ble_eq_true rfl, Nat.le_of_ble_eq_true rfl⟩ (fun r_6 u_5 H locs hw hP hD hS => ?_)
  obtain ⟨hr_6, hu_5⟩ := hw
  rw [hu_5] at hP hD
  rw [show mGt (nI 0) (nI 1) = nI 1 from by decide] at hP hD
  refine q_top (x' := (nI 0)) (hr_6.trans (by decide)) ?_
  refine q_if_eq (tgt := 21) hx hb (by omega) dX3_stamps_9 (by decide) (fun c_7 => ?_) (fun c_7 => absurd c_7 (by decide))
  refine lv_iconst (v := nI 0) hx hb dX3_stamps_21 (by decide) ?_
  exact W.iret hx hb hr (fun t ht hW => ⟨⟨_, up2 y 18 0 (nI 1), rfl, rfl, by rw [ht]; exact hP, va_K.moved hW.alike hK, hD⟩, hS.F ht⟩) hS.2.2 dX3_stamps_22

set_option maxHeartbeats 4000000 in
set_option maxRecDepth 100000 in
theorem c_X3_queue (l : Launch) (D : va_G) (E : mE) (tl : gTy) (y : Nat → Nat → Int32) (v : Nat) (hv : v < 6)  : gI l yX3_queue wsX3_queue ({ frames := 1, cells := 0, slots := 0, locals := 22 } : Room) D (mT E tl) (mW E y) [.ref E.1.1, .int (nI v)] (fun (r : Int32) (u : Nat → Nat → Int32) => r = y 5 v ∧ u = up2 y 18 0 (nI 0)) (mW E) 0 0 := by
  refine gM.start (cc := cX3_queue) (maxL := 2) (ret := (some .int)) (own := RX3) rfl (by decide) rfl (Nat.le_of_ble_eq_true rfl) ?_
  intro pr e s m args below meth c A ls H locs hx hb hml hr hts hown hlocks hname hA hK hP hD hS hl
  replace hl : lv_has ls 2 [(0, .ref E.1.1), (1, .int (nI v))] := hl
  have hin : ∀ w ∈ wsX30, w ∈ wsX3_queue := by decide +kernel
  have k23 := hts (.fieldLink RX3 23 "FairFolioModel" "waiting" "[I") (by decide +kernel)
  refine lv_aload_n hx hb dX3_queue_0 rfl (lv_at hl 0 rfl) ?_
  refine lv_iload_n hx hb dX3_queue_1 rfl (lv_at hl 1 rfl) ?_
  refine g_scalli (As := [.int (nI v)]) (rest := [.ref E.1.1]) ⟨hx, hb, hml, hown, hts⟩ (c_X3_isPavilion_y l D E tl y v hv) (va_cwS 1 hts gX3_queue_X3_isPavilion rfl rfl rfl (by decide +kernel) ⟨Nat.le_of_ble_eq_true rfl, Nat.le_of_ble_eq_true rfl⟩) hK hP hD hS hA rfl hl.1 rfl (Nat.le_of_ble_eq_true rfl) dX3_queue_2 ⟨Nat.le_of_ble_eq_true rfl, Nat.le_of_ble_eq_true rfl⟩ (fun r_3 u_2 H locs hw hP hD hS => ?_)
  obtain ⟨hr_3, hu_2⟩ := hw
  rw [hu_2] at hP hD
  refine q_top (x' := (nI 1)) hr_3 ?_
  refine lv_iconst (v := nI 1) hx hb dX3_queue_5 (by decide) ?_
  refine g_calli (As := [.int (nI 1), .int (nI 1)]) (rest := []) ⟨hx, hb, hml, hown, hts⟩ (c_X3_goes l D E tl y (nI 1) (nI 1)) (cwV 2 hts gX3_queue_X3_goes rfl rfl rfl (by decide +kernel) ⟨Nat.le_of_ble_eq_true rfl, Nat.le_of_ble_eq_true rfl⟩) (m_recv hK hP) hK hP hD hS hA rfl hl.1 rfl (Nat.le_of_ble_eq_true rfl) dX3_queue_6 ⟨Nat.le_of_ble_eq_true rfl, Nat.le_of_ble_eq_true rfl⟩ (fun r_6 u_5 H locs hw hP hD hS => ?_)
  obtain ⟨hr_6, hu_5⟩ := hw
  rw [hu_5] at hP hD
  rw [show mGt (nI 1) (nI 1) = nI 0 from by decide] at hP hD
  refine q_top (x' := (nI 1)) (hr_6.trans (by decide)) ?_
  refine q_if_eq (tgt := 21) hx hb (by omega) dX3_queue_9 (by decide) (fun c_7 => absurd c_7 (by decide)) (fun c_7 => ?_)
  refine lv_aload_n hx hb dX3_queue_12 rfl (lv_at hl 0 rfl) ?_
  refine m_get hx hb hts hin hown hK hP 5 (by decide) k23 rfl rfl dX3_queue_13 ?_
  refine lv_iload_n hx hb dX3_queue_16 rfl (lv_at hl 1 rfl) ?_
  refine q_ild hx hb hK hP 5 0 rfl rfl v rfl (by omega) (by decide) dX3_queue_17 ?_
  refine lv_goto (tgt := 22) hx hb dX3_queue_18 (by decide) ?_
  exact W.iret hx hb hr (fun t ht hW => ⟨⟨_, up2 y 18 0 (nI 0), rfl, ⟨rfl, rfl⟩, by rw [ht]; exact hP, va_K.moved hW.alike hK, hD⟩, hS.F ht⟩) hS.2.2 dX3_queue_22

set_option maxHeartbeats 4000000 in
set_option maxRecDepth 100000 in
theorem c_X3_queue_n (l : Launch) (D : va_G) (E : mE) (tl : gTy) (y : Nat → Nat → Int32) (v : Int32) (hv : v < 0 ∨ nI 6 ≤ v)  : gI l yX3_queue wsX3_queue ({ frames := 1, cells := 0, slots := 0, locals := 22 } : Room) D (mT E tl) (mW E y) [.ref E.1.1, .int v] (fun (r : Int32) (u : Nat → Nat → Int32) => u = up2 y 18 0 (nI 1)) (mW E) 0 0 := by
  refine gM.start (cc := cX3_queue) (maxL := 2) (ret := (some .int)) (own := RX3) rfl (by decide) rfl (Nat.le_of_ble_eq_true rfl) ?_
  intro pr e s m args below meth c A ls H locs hx hb hml hr hts hown hlocks hname hA hK hP hD hS hl
  replace hl : lv_has ls 2 [(0, .ref E.1.1), (1, .int v)] := hl
  refine lv_aload_n hx hb dX3_queue_0 rfl (lv_at hl 0 rfl) ?_
  refine lv_iload_n hx hb dX3_queue_1 rfl (lv_at hl 1 rfl) ?_
  refine g_scalli (As := [.int v]) (rest := [.ref E.1.1]) ⟨hx, hb, hml, hown, hts⟩ (c_X3_isPavilion_n l D E tl y v hv) (va_cwS 1 hts gX3_queue_X3_isPavilion rfl rfl rfl (by decide +kernel) ⟨Nat.le_of_ble_eq_true rfl, Nat.le_of_ble_eq_true rfl⟩) hK hP hD hS hA rfl hl.1 rfl (Nat.le_of_ble_eq_true rfl) dX3_queue_2 ⟨Nat.le_of_ble_eq_true rfl, Nat.le_of_ble_eq_true rfl⟩ (fun r_3 u_2 H locs hw hP hD hS => ?_)
  obtain ⟨hr_3, hu_2⟩ := hw
  rw [hu_2] at hP hD
  refine q_top (x' := (nI 0)) hr_3 ?_
  refine lv_iconst (v := nI 1) hx hb dX3_queue_5 (by decide) ?_
  refine g_calli (As := [.int (nI 0), .int (nI 1)]) (rest := []) ⟨hx, hb, hml, hown, hts⟩ (c_X3_goes l D E tl y (nI 0) (nI 1)) (cwV 2 hts gX3_queue_X3_goes rfl rfl rfl (by decide +kernel) ⟨Nat.le_of_ble_eq_true rfl, Nat.le_of_ble_eq_true rfl⟩) (m_recv hK hP) hK hP hD hS hA rfl hl.1 rfl (Nat.le_of_ble_eq_true rfl) dX3_queue_6 ⟨Nat.le_of_ble_eq_true rfl, Nat.le_of_ble_eq_true rfl⟩ (fun r_6 u_5 H locs hw hP hD hS => ?_)
  obtain ⟨hr_6, hu_5⟩ := hw
  rw [hu_5] at hP hD
  rw [show mGt (nI 0) (nI 1) = nI 1 from by decide] at hP hD
  refine q_top (x' := (nI 0)) (hr_6.trans (by decide)) ?_
  refine q_if_eq (tgt := 21) hx hb (by omega) dX3_queue_9 (by decide) (fun c_7 => ?_) (fun c_7 => absurd c_7 (by decide))
  refine lv_iconst (v := nI 0) hx hb dX3_queue_21 (by decide) ?_
  exact W.iret hx hb hr (fun t ht hW => ⟨⟨_, up2 y 18 0 (nI 1), rfl, rfl, by rw [ht]; exact hP, va_K.moved hW.alike hK, hD⟩, hS.F ht⟩) hS.2.2 dX3_queue_22

set_option maxHeartbeats 4000000 in
set_option maxRecDepth 100000 in
theorem c_X3_stock (l : Launch) (D : va_G) (E : mE) (tl : gTy) (y : Nat → Nat → Int32) (v : Nat) (hv : v < 6)  : gI l yX3_stock wsX3_stock ({ frames := 1, cells := 0, slots := 0, locals := 22 } : Room) D (mT E tl) (mW E y) [.ref E.1.1, .int (nI v)] (fun (r : Int32) (u : Nat → Nat → Int32) => r = y 15 v ∧ u = up2 y 18 0 (nI 0)) (mW E) 0 0 := by
  refine gM.start (cc := cX3_stock) (maxL := 2) (ret := (some .int)) (own := RX3) rfl (by decide) rfl (Nat.le_of_ble_eq_true rfl) ?_
  intro pr e s m args below meth c A ls H locs hx hb hml hr hts hown hlocks hname hA hK hP hD hS hl
  replace hl : lv_has ls 2 [(0, .ref E.1.1), (1, .int (nI v))] := hl
  have hin : ∀ w ∈ wsX30, w ∈ wsX3_stock := by decide +kernel
  have k53 := hts (.fieldLink RX3 53 "FairFolioModel" "stock" "[I") (by decide +kernel)
  refine lv_aload_n hx hb dX3_stock_0 rfl (lv_at hl 0 rfl) ?_
  refine lv_iload_n hx hb dX3_stock_1 rfl (lv_at hl 1 rfl) ?_
  refine g_scalli (As := [.int (nI v)]) (rest := [.ref E.1.1]) ⟨hx, hb, hml, hown, hts⟩ (c_X3_isPavilion_y l D E tl y v hv) (va_cwS 1 hts gX3_stock_X3_isPavilion rfl rfl rfl (by decide +kernel) ⟨Nat.le_of_ble_eq_true rfl, Nat.le_of_ble_eq_true rfl⟩) hK hP hD hS hA rfl hl.1 rfl (Nat.le_of_ble_eq_true rfl) dX3_stock_2 ⟨Nat.le_of_ble_eq_true rfl, Nat.le_of_ble_eq_true rfl⟩ (fun r_3 u_2 H locs hw hP hD hS => ?_)
  obtain ⟨hr_3, hu_2⟩ := hw
  rw [hu_2] at hP hD
  refine q_top (x' := (nI 1)) hr_3 ?_
  refine lv_iconst (v := nI 1) hx hb dX3_stock_5 (by decide) ?_
  refine g_calli (As := [.int (nI 1), .int (nI 1)]) (rest := []) ⟨hx, hb, hml, hown, hts⟩ (c_X3_goes l D E tl y (nI 1) (nI 1)) (cwV 2 hts gX3_stock_X3_goes rfl rfl rfl (by decide +kernel) ⟨Nat.le_of_ble_eq_true rfl, Nat.le_of_ble_eq_true rfl⟩) (m_recv hK hP) hK hP hD hS hA rfl hl.1 rfl (Nat.le_of_ble_eq_true rfl) dX3_stock_6 ⟨Nat.le_of_ble_eq_true rfl, Nat.le_of_ble_eq_true rfl⟩ (fun r_6 u_5 H locs hw hP hD hS => ?_)
  obtain ⟨hr_6, hu_5⟩ := hw
  rw [hu_5] at hP hD
  rw [show mGt (nI 1) (nI 1) = nI 0 from by decide] at hP hD
  refine q_top (x' := (nI 1)) (hr_6.trans (by decide)) ?_
  refine q_if_eq (tgt := 21) hx hb (by omega) dX3_stock_9 (by decide) (fun c_7 => absurd c_7 (by decide)) (fun c_7 => ?_)
  refine lv_aload_n hx hb dX3_stock_12 rfl (lv_at hl 0 rfl) ?_
  refine m_get hx hb hts hin hown hK hP 15 (by decide) k53 rfl rfl dX3_stock_13 ?_
  refine lv_iload_n hx hb dX3_stock_16 rfl (lv_at hl 1 rfl) ?_
  refine q_ild hx hb hK hP 15 0 rfl rfl v rfl (by omega) (by decide) dX3_stock_17 ?_
  refine lv_goto (tgt := 22) hx hb dX3_stock_18 (by decide) ?_
  exact W.iret hx hb hr (fun t ht hW => ⟨⟨_, up2 y 18 0 (nI 0), rfl, ⟨rfl, rfl⟩, by rw [ht]; exact hP, va_K.moved hW.alike hK, hD⟩, hS.F ht⟩) hS.2.2 dX3_stock_22

set_option maxHeartbeats 4000000 in
set_option maxRecDepth 100000 in
theorem c_X3_stock_n (l : Launch) (D : va_G) (E : mE) (tl : gTy) (y : Nat → Nat → Int32) (v : Int32) (hv : v < 0 ∨ nI 6 ≤ v)  : gI l yX3_stock wsX3_stock ({ frames := 1, cells := 0, slots := 0, locals := 22 } : Room) D (mT E tl) (mW E y) [.ref E.1.1, .int v] (fun (r : Int32) (u : Nat → Nat → Int32) => u = up2 y 18 0 (nI 1)) (mW E) 0 0 := by
  refine gM.start (cc := cX3_stock) (maxL := 2) (ret := (some .int)) (own := RX3) rfl (by decide) rfl (Nat.le_of_ble_eq_true rfl) ?_
  intro pr e s m args below meth c A ls H locs hx hb hml hr hts hown hlocks hname hA hK hP hD hS hl
  replace hl : lv_has ls 2 [(0, .ref E.1.1), (1, .int v)] := hl
  refine lv_aload_n hx hb dX3_stock_0 rfl (lv_at hl 0 rfl) ?_
  refine lv_iload_n hx hb dX3_stock_1 rfl (lv_at hl 1 rfl) ?_
  refine g_scalli (As := [.int v]) (rest := [.ref E.1.1]) ⟨hx, hb, hml, hown, hts⟩ (c_X3_isPavilion_n l D E tl y v hv) (va_cwS 1 hts gX3_stock_X3_isPavilion rfl rfl rfl (by decide +kernel) ⟨Nat.le_of_ble_eq_true rfl, Nat.le_of_ble_eq_true rfl⟩) hK hP hD hS hA rfl hl.1 rfl (Nat.le_of_ble_eq_true rfl) dX3_stock_2 ⟨Nat.le_of_ble_eq_true rfl, Nat.le_of_ble_eq_true rfl⟩ (fun r_3 u_2 H locs hw hP hD hS => ?_)
  obtain ⟨hr_3, hu_2⟩ := hw
  rw [hu_2] at hP hD
  refine q_top (x' := (nI 0)) hr_3 ?_
  refine lv_iconst (v := nI 1) hx hb dX3_stock_5 (by decide) ?_
  refine g_calli (As := [.int (nI 0), .int (nI 1)]) (rest := []) ⟨hx, hb, hml, hown, hts⟩ (c_X3_goes l D E tl y (nI 0) (nI 1)) (cwV 2 hts gX3_stock_X3_goes rfl rfl rfl (by decide +kernel) ⟨Nat.le_of_ble_eq_true rfl, Nat.le_of_ble_eq_true rfl⟩) (m_recv hK hP) hK hP hD hS hA rfl hl.1 rfl (Nat.le_of_ble_eq_true rfl) dX3_stock_6 ⟨Nat.le_of_ble_eq_true rfl, Nat.le_of_ble_eq_true rfl⟩ (fun r_6 u_5 H locs hw hP hD hS => ?_)
  obtain ⟨hr_6, hu_5⟩ := hw
  rw [hu_5] at hP hD
  rw [show mGt (nI 0) (nI 1) = nI 1 from by decide] at hP hD
  refine q_top (x' := (nI 0)) (hr_6.trans (by decide)) ?_
  refine q_if_eq (tgt := 21) hx hb (by omega) dX3_stock_9 (by decide) (fun c_7 => ?_) (fun c_7 => absurd c_7 (by decide))
  refine lv_iconst (v := nI 0) hx hb dX3_stock_21 (by decide) ?_
  exact W.iret hx hb hr (fun t ht hW => ⟨⟨_, up2 y 18 0 (nI 1), rfl, rfl, by rw [ht]; exact hP, va_K.moved hW.alike hK, hD⟩, hS.F ht⟩) hS.2.2 dX3_stock_22

set_option maxHeartbeats 4000000 in
set_option maxRecDepth 100000 in
theorem c_X3_demand (l : Launch) (D : va_G) (E : mE) (tl : gTy) (y : Nat → Nat → Int32) (v : Nat) (hv : v < 6)  : gI l yX3_demand wsX3_demand ({ frames := 1, cells := 0, slots := 0, locals := 22 } : Room) D (mT E tl) (mW E y) [.ref E.1.1, .int (nI v)] (fun (r : Int32) (u : Nat → Nat → Int32) => r = y 16 v ∧ u = up2 y 18 0 (nI 0)) (mW E) 0 0 := by
  refine gM.start (cc := cX3_demand) (maxL := 2) (ret := (some .int)) (own := RX3) rfl (by decide) rfl (Nat.le_of_ble_eq_true rfl) ?_
  intro pr e s m args below meth c A ls H locs hx hb hml hr hts hown hlocks hname hA hK hP hD hS hl
  replace hl : lv_has ls 2 [(0, .ref E.1.1), (1, .int (nI v))] := hl
  have hin : ∀ w ∈ wsX30, w ∈ wsX3_demand := by decide +kernel
  have k56 := hts (.fieldLink RX3 56 "FairFolioModel" "demand" "[I") (by decide +kernel)
  refine lv_aload_n hx hb dX3_demand_0 rfl (lv_at hl 0 rfl) ?_
  refine lv_iload_n hx hb dX3_demand_1 rfl (lv_at hl 1 rfl) ?_
  refine g_scalli (As := [.int (nI v)]) (rest := [.ref E.1.1]) ⟨hx, hb, hml, hown, hts⟩ (c_X3_isPavilion_y l D E tl y v hv) (va_cwS 1 hts gX3_demand_X3_isPavilion rfl rfl rfl (by decide +kernel) ⟨Nat.le_of_ble_eq_true rfl, Nat.le_of_ble_eq_true rfl⟩) hK hP hD hS hA rfl hl.1 rfl (Nat.le_of_ble_eq_true rfl) dX3_demand_2 ⟨Nat.le_of_ble_eq_true rfl, Nat.le_of_ble_eq_true rfl⟩ (fun r_3 u_2 H locs hw hP hD hS => ?_)
  obtain ⟨hr_3, hu_2⟩ := hw
  rw [hu_2] at hP hD
  refine q_top (x' := (nI 1)) hr_3 ?_
  refine lv_iconst (v := nI 1) hx hb dX3_demand_5 (by decide) ?_
  refine g_calli (As := [.int (nI 1), .int (nI 1)]) (rest := []) ⟨hx, hb, hml, hown, hts⟩ (c_X3_goes l D E tl y (nI 1) (nI 1)) (cwV 2 hts gX3_demand_X3_goes rfl rfl rfl (by decide +kernel) ⟨Nat.le_of_ble_eq_true rfl, Nat.le_of_ble_eq_true rfl⟩) (m_recv hK hP) hK hP hD hS hA rfl hl.1 rfl (Nat.le_of_ble_eq_true rfl) dX3_demand_6 ⟨Nat.le_of_ble_eq_true rfl, Nat.le_of_ble_eq_true rfl⟩ (fun r_6 u_5 H locs hw hP hD hS => ?_)
  obtain ⟨hr_6, hu_5⟩ := hw
  rw [hu_5] at hP hD
  rw [show mGt (nI 1) (nI 1) = nI 0 from by decide] at hP hD
  refine q_top (x' := (nI 1)) (hr_6.trans (by decide)) ?_
  refine q_if_eq (tgt := 21) hx hb (by omega) dX3_demand_9 (by decide) (fun c_7 => absurd c_7 (by decide)) (fun c_7 => ?_)
  refine lv_aload_n hx hb dX3_demand_12 rfl (lv_at hl 0 rfl) ?_
  refine m_get hx hb hts hin hown hK hP 16 (by decide) k56 rfl rfl dX3_demand_13 ?_
  refine lv_iload_n hx hb dX3_demand_16 rfl (lv_at hl 1 rfl) ?_
  refine q_ild hx hb hK hP 16 0 rfl rfl v rfl (by omega) (by decide) dX3_demand_17 ?_
  refine lv_goto (tgt := 22) hx hb dX3_demand_18 (by decide) ?_
  exact W.iret hx hb hr (fun t ht hW => ⟨⟨_, up2 y 18 0 (nI 0), rfl, ⟨rfl, rfl⟩, by rw [ht]; exact hP, va_K.moved hW.alike hK, hD⟩, hS.F ht⟩) hS.2.2 dX3_demand_22

set_option maxHeartbeats 4000000 in
set_option maxRecDepth 100000 in
theorem c_X3_demand_n (l : Launch) (D : va_G) (E : mE) (tl : gTy) (y : Nat → Nat → Int32) (v : Int32) (hv : v < 0 ∨ nI 6 ≤ v)  : gI l yX3_demand wsX3_demand ({ frames := 1, cells := 0, slots := 0, locals := 22 } : Room) D (mT E tl) (mW E y) [.ref E.1.1, .int v] (fun (r : Int32) (u : Nat → Nat → Int32) => u = up2 y 18 0 (nI 1)) (mW E) 0 0 := by
  refine gM.start (cc := cX3_demand) (maxL := 2) (ret := (some .int)) (own := RX3) rfl (by decide) rfl (Nat.le_of_ble_eq_true rfl) ?_
  intro pr e s m args below meth c A ls H locs hx hb hml hr hts hown hlocks hname hA hK hP hD hS hl
  replace hl : lv_has ls 2 [(0, .ref E.1.1), (1, .int v)] := hl
  refine lv_aload_n hx hb dX3_demand_0 rfl (lv_at hl 0 rfl) ?_
  refine lv_iload_n hx hb dX3_demand_1 rfl (lv_at hl 1 rfl) ?_
  refine g_scalli (As := [.int v]) (rest := [.ref E.1.1]) ⟨hx, hb, hml, hown, hts⟩ (c_X3_isPavilion_n l D E tl y v hv) (va_cwS 1 hts gX3_demand_X3_isPavilion rfl rfl rfl (by decide +kernel) ⟨Nat.le_of_ble_eq_true rfl, Nat.le_of_ble_eq_true rfl⟩) hK hP hD hS hA rfl hl.1 rfl (Nat.le_of_ble_eq_true rfl) dX3_demand_2 ⟨Nat.le_of_ble_eq_true rfl, Nat.le_of_ble_eq_true rfl⟩ (fun r_3 u_2 H locs hw hP hD hS => ?_)
  obtain ⟨hr_3, hu_2⟩ := hw
  rw [hu_2] at hP hD
  refine q_top (x' := (nI 0)) hr_3 ?_
  refine lv_iconst (v := nI 1) hx hb dX3_demand_5 (by decide) ?_
  refine g_calli (As := [.int (nI 0), .int (nI 1)]) (rest := []) ⟨hx, hb, hml, hown, hts⟩ (c_X3_goes l D E tl y (nI 0) (nI 1)) (cwV 2 hts gX3_demand_X3_goes rfl rfl rfl (by decide +kernel) ⟨Nat.le_of_ble_eq_true rfl, Nat.le_of_ble_eq_true rfl⟩) (m_recv hK hP) hK hP hD hS hA rfl hl.1 rfl (Nat.le_of_ble_eq_true rfl) dX3_demand_6 ⟨Nat.le_of_ble_eq_true rfl, Nat.le_of_ble_eq_true rfl⟩ (fun r_6 u_5 H locs hw hP hD hS => ?_)
  obtain ⟨hr_6, hu_5⟩ := hw
  rw [hu_5] at hP hD
  rw [show mGt (nI 0) (nI 1) = nI 1 from by decide] at hP hD
  refine q_top (x' := (nI 0)) (hr_6.trans (by decide)) ?_
  refine q_if_eq (tgt := 21) hx hb (by omega) dX3_demand_9 (by decide) (fun c_7 => ?_) (fun c_7 => absurd c_7 (by decide))
  refine lv_iconst (v := nI 0) hx hb dX3_demand_21 (by decide) ?_
  exact W.iret hx hb hr (fun t ht hW => ⟨⟨_, up2 y 18 0 (nI 1), rfl, rfl, by rw [ht]; exact hP, va_K.moved hW.alike hK, hD⟩, hS.F ht⟩) hS.2.2 dX3_demand_22
end
section
set_option maxHeartbeats 4000000 in
set_option maxRecDepth 100000 in
theorem c_X3_inside (l : Launch) (D : va_G) (E : mE) (tl : gTy) (y : Nat → Nat → Int32) (p : Nat) (hp : p < 6)  : gI l yX3_inside wsX3_inside ({ frames := 1, cells := 0, slots := 0, locals := 23 } : Room) D (mT E tl) (mW E y) [.ref E.1.1, .int (nI p)] (fun (r : Int32) (u : Nat → Nat → Int32) => r = nI (mIns y p 8) ∧ u = up2 y 18 0 (nI 0)) (mW E) 0 0 := by
  refine gM.start (cc := cX3_inside) (maxL := 2) (ret := (some .int)) (own := RX3) rfl (by decide) rfl (Nat.le_of_ble_eq_true rfl) ?_
  intro pr e s m args below meth c A ls H locs hx hb hml hr hts hown hlocks hname hA hK hP hD hS hl
  replace hl : lv_has ls 2 [(0, .ref E.1.1), (1, .int (nI p))] := hl
  refine lv_aload_n hx hb dX3_inside_0 rfl (lv_at hl 0 rfl) ?_
  refine lv_iload_n hx hb dX3_inside_1 rfl (lv_at hl 1 rfl) ?_
  refine g_scalli (As := [.int (nI p)]) (rest := [.ref E.1.1]) ⟨hx, hb, hml, hown, hts⟩ (c_X3_isPavilion_y l D E tl y p hp) (va_cwS 1 hts gX3_inside_X3_isPavilion rfl rfl rfl (by decide +kernel) ⟨Nat.le_of_ble_eq_true rfl, Nat.le_of_ble_eq_true rfl⟩) hK hP hD hS hA rfl hl.1 rfl (Nat.le_of_ble_eq_true rfl) dX3_inside_2 ⟨Nat.le_of_ble_eq_true rfl, Nat.le_of_ble_eq_true rfl⟩ (fun r_3 u_2 H locs hw hP hD hS => ?_)
  obtain ⟨hr_3, hu_2⟩ := hw
  rw [hu_2] at hP hD
  refine q_top (x' := (nI 1)) hr_3 ?_
  refine lv_iconst (v := nI 1) hx hb dX3_inside_5 (by decide) ?_
  refine g_calli (As := [.int (nI 1), .int (nI 1)]) (rest := []) ⟨hx, hb, hml, hown, hts⟩ (c_X3_goes l D E tl y (nI 1) (nI 1)) (cwV 2 hts gX3_inside_X3_goes rfl rfl rfl (by decide +kernel) ⟨Nat.le_of_ble_eq_true rfl, Nat.le_of_ble_eq_true rfl⟩) (m_recv hK hP) hK hP hD hS hA rfl hl.1 rfl (Nat.le_of_ble_eq_true rfl) dX3_inside_6 ⟨Nat.le_of_ble_eq_true rfl, Nat.le_of_ble_eq_true rfl⟩ (fun r_6 u_5 H locs hw hP hD hS => ?_)
  obtain ⟨hr_6, hu_5⟩ := hw
  rw [hu_5] at hP hD
  rw [show mGt (nI 1) (nI 1) = nI 0 from by decide] at hP hD
  refine q_top (x' := (nI 1)) (hr_6.trans (by decide)) ?_
  refine q_if_eq (tgt := 20) hx hb (by omega) dX3_inside_9 (by decide) (fun c_7 => absurd c_7 (by decide)) (fun c_7 => ?_)
  refine lv_aload_n hx hb dX3_inside_12 rfl (lv_at hl 0 rfl) ?_
  refine lv_iload_n hx hb dX3_inside_13 rfl (lv_at hl 1 rfl) ?_
  refine g_calli (As := [.int (nI p)]) (rest := []) ⟨hx, hb, hml, hown, hts⟩ (c_X3_insideOf l D E tl (up2 y 18 0 (nI 0)) p hp) (cwV 1 hts gX3_inside_X3_insideOf rfl rfl rfl (by decide +kernel) ⟨Nat.le_of_ble_eq_true rfl, Nat.le_of_ble_eq_true rfl⟩) (m_recv hK hP) hK hP hD hS hA rfl hl.1 rfl (Nat.le_of_ble_eq_true rfl) dX3_inside_14 ⟨Nat.le_of_ble_eq_true rfl, Nat.le_of_ble_eq_true rfl⟩ (fun r_10 u_9 H locs hw hP hD hS => ?_)
  obtain ⟨hr_10, hu_9⟩ := hw
  rw [hu_9] at hP hD
  refine q_top (x' := (nI (mIns y p 8))) (hr_10.trans (by rw [show mIns (up2 y 18 0 (nI 0)) p 8 = mIns y p 8 from rfl])) ?_
  refine lv_goto (tgt := 21) hx hb dX3_inside_17 (by decide) ?_
  exact W.iret hx hb hr (fun t ht hW => ⟨⟨_, up2 y 18 0 (nI 0), rfl, ⟨rfl, rfl⟩, by rw [ht]; exact hP, va_K.moved hW.alike hK, hD⟩, hS.F ht⟩) hS.2.2 dX3_inside_21

set_option maxHeartbeats 4000000 in
set_option maxRecDepth 100000 in
theorem c_X3_inside_n (l : Launch) (D : va_G) (E : mE) (tl : gTy) (y : Nat → Nat → Int32) (v : Int32) (hv : v < 0 ∨ nI 6 ≤ v)  : gI l yX3_inside wsX3_inside ({ frames := 1, cells := 0, slots := 0, locals := 23 } : Room) D (mT E tl) (mW E y) [.ref E.1.1, .int v] (fun (r : Int32) (u : Nat → Nat → Int32) => u = up2 y 18 0 (nI 1)) (mW E) 0 0 := by
  refine gM.start (cc := cX3_inside) (maxL := 2) (ret := (some .int)) (own := RX3) rfl (by decide) rfl (Nat.le_of_ble_eq_true rfl) ?_
  intro pr e s m args below meth c A ls H locs hx hb hml hr hts hown hlocks hname hA hK hP hD hS hl
  replace hl : lv_has ls 2 [(0, .ref E.1.1), (1, .int v)] := hl
  refine lv_aload_n hx hb dX3_inside_0 rfl (lv_at hl 0 rfl) ?_
  refine lv_iload_n hx hb dX3_inside_1 rfl (lv_at hl 1 rfl) ?_
  refine g_scalli (As := [.int v]) (rest := [.ref E.1.1]) ⟨hx, hb, hml, hown, hts⟩ (c_X3_isPavilion_n l D E tl y v hv) (va_cwS 1 hts gX3_inside_X3_isPavilion rfl rfl rfl (by decide +kernel) ⟨Nat.le_of_ble_eq_true rfl, Nat.le_of_ble_eq_true rfl⟩) hK hP hD hS hA rfl hl.1 rfl (Nat.le_of_ble_eq_true rfl) dX3_inside_2 ⟨Nat.le_of_ble_eq_true rfl, Nat.le_of_ble_eq_true rfl⟩ (fun r_3 u_2 H locs hw hP hD hS => ?_)
  obtain ⟨hr_3, hu_2⟩ := hw
  rw [hu_2] at hP hD
  refine q_top (x' := (nI 0)) hr_3 ?_
  refine lv_iconst (v := nI 1) hx hb dX3_inside_5 (by decide) ?_
  refine g_calli (As := [.int (nI 0), .int (nI 1)]) (rest := []) ⟨hx, hb, hml, hown, hts⟩ (c_X3_goes l D E tl y (nI 0) (nI 1)) (cwV 2 hts gX3_inside_X3_goes rfl rfl rfl (by decide +kernel) ⟨Nat.le_of_ble_eq_true rfl, Nat.le_of_ble_eq_true rfl⟩) (m_recv hK hP) hK hP hD hS hA rfl hl.1 rfl (Nat.le_of_ble_eq_true rfl) dX3_inside_6 ⟨Nat.le_of_ble_eq_true rfl, Nat.le_of_ble_eq_true rfl⟩ (fun r_6 u_5 H locs hw hP hD hS => ?_)
  obtain ⟨hr_6, hu_5⟩ := hw
  rw [hu_5] at hP hD
  rw [show mGt (nI 0) (nI 1) = nI 1 from by decide] at hP hD
  refine q_top (x' := (nI 0)) (hr_6.trans (by decide)) ?_
  refine q_if_eq (tgt := 20) hx hb (by omega) dX3_inside_9 (by decide) (fun c_7 => ?_) (fun c_7 => absurd c_7 (by decide))
  refine lv_iconst (v := nI 0) hx hb dX3_inside_20 (by decide) ?_
  exact W.iret hx hb hr (fun t ht hW => ⟨⟨_, up2 y 18 0 (nI 1), rfl, rfl, by rw [ht]; exact hP, va_K.moved hW.alike hK, hD⟩, hS.F ht⟩) hS.2.2 dX3_inside_21

set_option maxHeartbeats 4000000 in
set_option maxRecDepth 100000 in
theorem c_X3_placeOf_i (l : Launch) (D : va_G) (E : mE) (tl : gTy) (y : Nat → Nat → Int32) (v : Nat) (hv : v < 8) (h8 : ¬ y 8 v = nI 1)  : gI l yX3_placeOf wsX3_placeOf ({ frames := 1, cells := 0, slots := 0, locals := 22 } : Room) D (mT E tl) (mW E y) [.ref E.1.1, .int (nI v)] (fun (r : Int32) (u : Nat → Nat → Int32) => r = -1 ∧ u = up2 y 18 0 (nI 0)) (mW E) 0 0 := by
  refine gM.start (cc := cX3_placeOf) (maxL := 2) (ret := (some .int)) (own := RX3) rfl (by decide) rfl (Nat.le_of_ble_eq_true rfl) ?_
  intro pr e s m args below meth c A ls H locs hx hb hml hr hts hown hlocks hname hA hK hP hD hS hl
  replace hl : lv_has ls 2 [(0, .ref E.1.1), (1, .int (nI v))] := hl
  have hin : ∀ w ∈ wsX30, w ∈ wsX3_placeOf := by decide +kernel
  have k32 := hts (.fieldLink RX3 32 "FairFolioModel" "state" "[I") (by decide +kernel)
  refine lv_aload_n hx hb dX3_placeOf_0 rfl (lv_at hl 0 rfl) ?_
  refine lv_iload_n hx hb dX3_placeOf_1 rfl (lv_at hl 1 rfl) ?_
  refine g_scalli (As := [.int (nI v)]) (rest := [.ref E.1.1]) ⟨hx, hb, hml, hown, hts⟩ (c_X3_isVisitor_y l D E tl y v hv) (va_cwS 1 hts gX3_placeOf_X3_isVisitor rfl rfl rfl (by decide +kernel) ⟨Nat.le_of_ble_eq_true rfl, Nat.le_of_ble_eq_true rfl⟩) hK hP hD hS hA rfl hl.1 rfl (Nat.le_of_ble_eq_true rfl) dX3_placeOf_2 ⟨Nat.le_of_ble_eq_true rfl, Nat.le_of_ble_eq_true rfl⟩ (fun r_3 u_2 H locs hw hP hD hS => ?_)
  obtain ⟨hr_3, hu_2⟩ := hw
  rw [hu_2] at hP hD
  refine q_top (x' := (nI 1)) hr_3 ?_
  refine lv_iconst (v := nI 1) hx hb dX3_placeOf_5 (by decide) ?_
  refine g_calli (As := [.int (nI 1), .int (nI 1)]) (rest := []) ⟨hx, hb, hml, hown, hts⟩ (c_X3_goes l D E tl y (nI 1) (nI 1)) (cwV 2 hts gX3_placeOf_X3_goes rfl rfl rfl (by decide +kernel) ⟨Nat.le_of_ble_eq_true rfl, Nat.le_of_ble_eq_true rfl⟩) (m_recv hK hP) hK hP hD hS hA rfl hl.1 rfl (Nat.le_of_ble_eq_true rfl) dX3_placeOf_6 ⟨Nat.le_of_ble_eq_true rfl, Nat.le_of_ble_eq_true rfl⟩ (fun r_6 u_5 H locs hw hP hD hS => ?_)
  obtain ⟨hr_6, hu_5⟩ := hw
  rw [hu_5] at hP hD
  rw [show mGt (nI 1) (nI 1) = nI 0 from by decide] at hP hD
  refine q_top (x' := (nI 1)) (hr_6.trans (by decide)) ?_
  refine q_if_ne (tgt := 14) hx hb (by omega) dX3_placeOf_9 (by decide) (fun c_7 => ?_) (fun c_7 => absurd c_7 (by decide))
  refine lv_aload_n hx hb dX3_placeOf_14 rfl (lv_at hl 0 rfl) ?_
  refine m_get hx hb hts hin hown hK hP 8 (by decide) k32 rfl rfl dX3_placeOf_15 ?_
  refine lv_iload_n hx hb dX3_placeOf_18 rfl (lv_at hl 1 rfl) ?_
  refine q_ild hx hb hK hP 8 0 rfl rfl v rfl (by omega) (by decide) dX3_placeOf_19 ?_
  refine lv_iconst (v := nI 1) hx hb dX3_placeOf_20 (by decide) ?_
  refine lv_icmp_ne (tgt := 38) hx hb dX3_placeOf_21 (by decide) (fun c2 => ?_) (fun c2 => absurd c2 h8)
  refine lv_iconst (v := -1) hx hb dX3_placeOf_38 (by decide) ?_
  exact W.iret hx hb hr (fun t ht hW => ⟨⟨_, up2 y 18 0 (nI 0), rfl, ⟨rfl, rfl⟩, by rw [ht]; exact hP, va_K.moved hW.alike hK, hD⟩, hS.F ht⟩) hS.2.2 dX3_placeOf_39

theorem mLast_18 (y : Nat → Nat → Int32) (p v w : Nat) (t : Int32) : mLast (up2 y 18 0 t) p v w = mLast y p v w := by
  induction w with
  | zero => rfl
  | succ w ih =>
    rw [mLast, mLast, ih]
    rfl

set_option maxHeartbeats 4000000 in
set_option maxRecDepth 100000 in
theorem c_X3_placeOf_w (l : Launch) (D : va_G) (E : mE) (tl : gTy) (y : Nat → Nat → Int32) (v p w a : Nat) (hv : v < 8) (hp : p < 6) (hw : w ≤ 8) (h8 : y 8 v = nI 1) (h9 : y 9 v = nI p) (h5 : y 5 p = nI w) (hla : mLast y p v w = nI a)  : gI l yX3_placeOf wsX3_placeOf ({ frames := 1, cells := 0, slots := 0, locals := 24 } : Room) D (mT E tl) (mW E y) [.ref E.1.1, .int (nI v)] (fun (r : Int32) (u : Nat → Nat → Int32) => r = nI a ∧ u = up2 y 18 0 (nI 0)) (mW E) 0 0 := by
  refine gM.start (cc := cX3_placeOf) (maxL := 2) (ret := (some .int)) (own := RX3) rfl (by decide) rfl (Nat.le_of_ble_eq_true rfl) ?_
  intro pr e s m args below meth c A ls H locs hx hb hml hr hts hown hlocks hname hA hK hP hD hS hl
  replace hl : lv_has ls 2 [(0, .ref E.1.1), (1, .int (nI v))] := hl
  have hin : ∀ w ∈ wsX30, w ∈ wsX3_placeOf := by decide +kernel
  have k32 := hts (.fieldLink RX3 32 "FairFolioModel" "state" "[I") (by decide +kernel)
  have k35 := hts (.fieldLink RX3 35 "FairFolioModel" "where" "[I") (by decide +kernel)
  refine lv_aload_n hx hb dX3_placeOf_0 rfl (lv_at hl 0 rfl) ?_
  refine lv_iload_n hx hb dX3_placeOf_1 rfl (lv_at hl 1 rfl) ?_
  refine g_scalli (As := [.int (nI v)]) (rest := [.ref E.1.1]) ⟨hx, hb, hml, hown, hts⟩ (c_X3_isVisitor_y l D E tl y v hv) (va_cwS 1 hts gX3_placeOf_X3_isVisitor rfl rfl rfl (by decide +kernel) ⟨Nat.le_of_ble_eq_true rfl, Nat.le_of_ble_eq_true rfl⟩) hK hP hD hS hA rfl hl.1 rfl (Nat.le_of_ble_eq_true rfl) dX3_placeOf_2 ⟨Nat.le_of_ble_eq_true rfl, Nat.le_of_ble_eq_true rfl⟩ (fun r_3 u_2 H locs hw hP hD hS => ?_)
  obtain ⟨hr_3, hu_2⟩ := hw
  rw [hu_2] at hP hD
  refine q_top (x' := (nI 1)) hr_3 ?_
  refine lv_iconst (v := nI 1) hx hb dX3_placeOf_5 (by decide) ?_
  refine g_calli (As := [.int (nI 1), .int (nI 1)]) (rest := []) ⟨hx, hb, hml, hown, hts⟩ (c_X3_goes l D E tl y (nI 1) (nI 1)) (cwV 2 hts gX3_placeOf_X3_goes rfl rfl rfl (by decide +kernel) ⟨Nat.le_of_ble_eq_true rfl, Nat.le_of_ble_eq_true rfl⟩) (m_recv hK hP) hK hP hD hS hA rfl hl.1 rfl (Nat.le_of_ble_eq_true rfl) dX3_placeOf_6 ⟨Nat.le_of_ble_eq_true rfl, Nat.le_of_ble_eq_true rfl⟩ (fun r_6 u_5 H locs hw hP hD hS => ?_)
  obtain ⟨hr_6, hu_5⟩ := hw
  rw [hu_5] at hP hD
  rw [show mGt (nI 1) (nI 1) = nI 0 from by decide] at hP hD
  refine q_top (x' := (nI 1)) (hr_6.trans (by decide)) ?_
  refine q_if_ne (tgt := 14) hx hb (by omega) dX3_placeOf_9 (by decide) (fun c_7 => ?_) (fun c_7 => absurd c_7 (by decide))
  refine lv_aload_n hx hb dX3_placeOf_14 rfl (lv_at hl 0 rfl) ?_
  refine m_get hx hb hts hin hown hK hP 8 (by decide) k32 rfl rfl dX3_placeOf_15 ?_
  refine lv_iload_n hx hb dX3_placeOf_18 rfl (lv_at hl 1 rfl) ?_
  refine q_ild hx hb hK hP 8 0 rfl rfl v rfl (by omega) (by decide) dX3_placeOf_19 ?_
  refine lv_iconst (v := nI 1) hx hb dX3_placeOf_20 (by decide) ?_
  refine lv_icmp_ne (tgt := 38) hx hb dX3_placeOf_21 (by decide) (fun c2 => absurd h8 c2) (fun c2 => ?_)
  refine lv_aload_n hx hb dX3_placeOf_24 rfl (lv_at hl 0 rfl) ?_
  refine lv_aload_n hx hb dX3_placeOf_25 rfl (lv_at hl 0 rfl) ?_
  refine m_get hx hb hts hin hown hK hP 9 (by decide) k35 rfl rfl dX3_placeOf_26 ?_
  refine lv_iload_n hx hb dX3_placeOf_29 rfl (lv_at hl 1 rfl) ?_
  refine q_ild hx hb hK hP 9 0 rfl rfl v rfl (by omega) (by decide) dX3_placeOf_30 ?_
  refine q_top (x' := (nI p)) h9 ?_
  refine lv_iload_n hx hb dX3_placeOf_31 rfl (lv_at hl 1 rfl) ?_
  refine g_calli (As := [.int (nI p), .int (nI v)]) (rest := []) ⟨hx, hb, hml, hown, hts⟩ (c_X3_placeIn l D E tl (up2 y 18 0 (nI 0)) p v w hp hv hw h5) (cwV 2 hts gX3_placeOf_X3_placeIn rfl rfl rfl (by decide +kernel) ⟨Nat.le_of_ble_eq_true rfl, Nat.le_of_ble_eq_true rfl⟩) (m_recv hK hP) hK hP hD hS hA rfl hl.1 rfl (Nat.le_of_ble_eq_true rfl) dX3_placeOf_32 ⟨Nat.le_of_ble_eq_true rfl, Nat.le_of_ble_eq_true rfl⟩ (fun r_10 u_9 H locs hw hP hD hS => ?_)
  obtain ⟨hr_10, hu_9⟩ := hw
  rw [hu_9] at hP hD
  refine q_top (x' := (nI a)) (hr_10.trans ((show mLast (up2 y 18 0 (nI 0)) p v w = mLast y p v w from mLast_18 y p v w (nI 0)).trans hla)) ?_
  refine lv_goto (tgt := 39) hx hb dX3_placeOf_35 (by decide) ?_
  exact W.iret hx hb hr (fun t ht hW => ⟨⟨_, up2 y 18 0 (nI 0), rfl, ⟨rfl, rfl⟩, by rw [ht]; exact hP, va_K.moved hW.alike hK, hD⟩, hS.F ht⟩) hS.2.2 dX3_placeOf_39

set_option maxHeartbeats 4000000 in
set_option maxRecDepth 100000 in
theorem c_X3_placeOf_n (l : Launch) (D : va_G) (E : mE) (tl : gTy) (y : Nat → Nat → Int32) (v : Int32) (hv : v < 0 ∨ nI 8 ≤ v)  : gI l yX3_placeOf wsX3_placeOf ({ frames := 1, cells := 0, slots := 0, locals := 24 } : Room) D (mT E tl) (mW E y) [.ref E.1.1, .int v] (fun (r : Int32) (u : Nat → Nat → Int32) => u = up2 y 18 0 (nI 1)) (mW E) 0 0 := by
  refine gM.start (cc := cX3_placeOf) (maxL := 2) (ret := (some .int)) (own := RX3) rfl (by decide) rfl (Nat.le_of_ble_eq_true rfl) ?_
  intro pr e s m args below meth c A ls H locs hx hb hml hr hts hown hlocks hname hA hK hP hD hS hl
  replace hl : lv_has ls 2 [(0, .ref E.1.1), (1, .int v)] := hl
  refine lv_aload_n hx hb dX3_placeOf_0 rfl (lv_at hl 0 rfl) ?_
  refine lv_iload_n hx hb dX3_placeOf_1 rfl (lv_at hl 1 rfl) ?_
  refine g_scalli (As := [.int v]) (rest := [.ref E.1.1]) ⟨hx, hb, hml, hown, hts⟩ (c_X3_isVisitor_n l D E tl y v hv) (va_cwS 1 hts gX3_placeOf_X3_isVisitor rfl rfl rfl (by decide +kernel) ⟨Nat.le_of_ble_eq_true rfl, Nat.le_of_ble_eq_true rfl⟩) hK hP hD hS hA rfl hl.1 rfl (Nat.le_of_ble_eq_true rfl) dX3_placeOf_2 ⟨Nat.le_of_ble_eq_true rfl, Nat.le_of_ble_eq_true rfl⟩ (fun r_3 u_2 H locs hw hP hD hS => ?_)
  obtain ⟨hr_3, hu_2⟩ := hw
  rw [hu_2] at hP hD
  refine q_top (x' := (nI 0)) hr_3 ?_
  refine lv_iconst (v := nI 1) hx hb dX3_placeOf_5 (by decide) ?_
  refine g_calli (As := [.int (nI 0), .int (nI 1)]) (rest := []) ⟨hx, hb, hml, hown, hts⟩ (c_X3_goes l D E tl y (nI 0) (nI 1)) (cwV 2 hts gX3_placeOf_X3_goes rfl rfl rfl (by decide +kernel) ⟨Nat.le_of_ble_eq_true rfl, Nat.le_of_ble_eq_true rfl⟩) (m_recv hK hP) hK hP hD hS hA rfl hl.1 rfl (Nat.le_of_ble_eq_true rfl) dX3_placeOf_6 ⟨Nat.le_of_ble_eq_true rfl, Nat.le_of_ble_eq_true rfl⟩ (fun r_6 u_5 H locs hw hP hD hS => ?_)
  obtain ⟨hr_6, hu_5⟩ := hw
  rw [hu_5] at hP hD
  rw [show mGt (nI 0) (nI 1) = nI 1 from by decide] at hP hD
  refine q_top (x' := (nI 0)) (hr_6.trans (by decide)) ?_
  refine q_if_ne (tgt := 14) hx hb (by omega) dX3_placeOf_9 (by decide) (fun c_7 => absurd c_7 (by decide)) (fun c_7 => ?_)
  refine lv_iconst (v := nI 0) hx hb dX3_placeOf_12 (by decide) ?_
  exact W.iret hx hb hr (fun t ht hW => ⟨⟨_, up2 y 18 0 (nI 1), rfl, rfl, by rw [ht]; exact hP, va_K.moved hW.alike hK, hD⟩, hS.F ht⟩) hS.2.2 dX3_placeOf_13

set_option maxHeartbeats 4000000 in
set_option maxRecDepth 100000 in
theorem c_X3_setPavilion (l : Launch) (D : va_G) (E : mE) (tl : gTy) (y : Nat → Nat → Int32) (p : Nat) (a b : Int32) (hp : p < 6) (hok : sOK a b)  : gV l yX3_setPavilion wsX3_setPavilion ({ frames := 1, cells := 0, slots := 0, locals := 22 } : Room) D (mT E tl) (mW E y) [.ref E.1.1, .int (nI p), .int a, .int b] (fun u : Nat → Nat → Int32 => u = up2 (up2 (up2 y 18 0 (nI 0)) 1 p a) 2 p b) (mW E) 0 0 := by
  refine gM.start (cc := cX3_setPavilion) (maxL := 4) (ret := none) (own := RX3) rfl (by decide) rfl (Nat.le_of_ble_eq_true rfl) ?_
  intro pr e s m args below meth c A ls H locs hx hb hml hr hts hown hlocks hname hA hK hP hD hS hl
  replace hl : lv_has ls 4 [(0, .ref E.1.1), (1, .int (nI p)), (2, .int a), (3, .int b)] := hl
  have hin : ∀ w ∈ wsX30, w ∈ wsX3_setPavilion := by decide +kernel
  have k7 := hts (.fieldLink RX3 7 "FairFolioModel" "room" "[I") (by decide +kernel)
  have k13 := hts (.fieldLink RX3 13 "FairFolioModel" "takes" "[I") (by decide +kernel)
  refine lv_aload_n hx hb dX3_setPavilion_0 rfl (lv_at hl 0 rfl) ?_
  refine lv_iload_n hx hb dX3_setPavilion_1 rfl (lv_at hl 1 rfl) ?_
  refine g_scalli (As := [.int (nI p)]) (rest := [.ref E.1.1]) ⟨hx, hb, hml, hown, hts⟩ (c_X3_isPavilion_y l D E tl y p hp) (va_cwS 1 hts gX3_setPavilion_X3_isPavilion rfl rfl rfl (by decide +kernel) ⟨Nat.le_of_ble_eq_true rfl, Nat.le_of_ble_eq_true rfl⟩) hK hP hD hS hA rfl hl.1 rfl (Nat.le_of_ble_eq_true rfl) dX3_setPavilion_2 ⟨Nat.le_of_ble_eq_true rfl, Nat.le_of_ble_eq_true rfl⟩ (fun r_3 u_2 H locs hw hP hD hS => ?_)
  obtain ⟨hr_3, hu_2⟩ := hw
  rw [hu_2] at hP hD
  refine q_top (x' := (nI 1)) hr_3 ?_
  refine lv_iload_n hx hb dX3_setPavilion_5 rfl (lv_at hl 2 rfl) ?_
  refine lv_iconst (v := nI 1) hx hb dX3_setPavilion_6 (by decide) ?_
  refine lv_icmp_lt (tgt := 31) hx hb dX3_setPavilion_7 (by decide) (fun c1 => absurd c1 hok.1) (fun c1 => ?_)
  refine lv_iload_n hx hb dX3_setPavilion_10 rfl (lv_at hl 2 rfl) ?_
  refine lv_bipush (v := nI 8) hx hb dX3_setPavilion_11 (by decide) ?_
  refine lv_icmp_gt (tgt := 31) hx hb dX3_setPavilion_13 (by decide) (fun c2 => absurd c2 hok.2.1) (fun c2 => ?_)
  refine lv_iload_n hx hb dX3_setPavilion_16 rfl (lv_at hl 3 rfl) ?_
  refine lv_iconst (v := nI 1) hx hb dX3_setPavilion_17 (by decide) ?_
  refine lv_icmp_lt (tgt := 31) hx hb dX3_setPavilion_18 (by decide) (fun c3 => absurd c3 hok.2.2.1) (fun c3 => ?_)
  refine lv_iload_n hx hb dX3_setPavilion_21 rfl (lv_at hl 3 rfl) ?_
  refine lv_bipush (v := nI 60) hx hb dX3_setPavilion_22 (by decide) ?_
  refine lv_icmp_gt (tgt := 31) hx hb dX3_setPavilion_24 (by decide) (fun c4 => absurd c4 hok.2.2.2) (fun c4 => ?_)
  refine lv_iconst (v := nI 1) hx hb dX3_setPavilion_27 (by decide) ?_
  refine lv_goto (tgt := 32) hx hb dX3_setPavilion_28 (by decide) ?_
  refine g_calli (As := [.int (nI 1), .int (nI 1)]) (rest := []) ⟨hx, hb, hml, hown, hts⟩ (c_X3_goes l D E tl y (nI 1) (nI 1)) (cwV 2 hts gX3_setPavilion_X3_goes rfl rfl rfl (by decide +kernel) ⟨Nat.le_of_ble_eq_true rfl, Nat.le_of_ble_eq_true rfl⟩) (m_recv hK hP) hK hP hD hS hA rfl hl.1 rfl (Nat.le_of_ble_eq_true rfl) dX3_setPavilion_32 ⟨Nat.le_of_ble_eq_true rfl, Nat.le_of_ble_eq_true rfl⟩ (fun r_6 u_5 H locs hw hP hD hS => ?_)
  obtain ⟨hr_6, hu_5⟩ := hw
  rw [hu_5] at hP hD
  rw [show mGt (nI 1) (nI 1) = nI 0 from by decide] at hP hD
  refine q_top (x' := (nI 1)) (hr_6.trans (by decide)) ?_
  refine q_if_eq (tgt := 52) hx hb (by omega) dX3_setPavilion_35 (by decide) (fun c_7 => absurd c_7 (by decide)) (fun c_7 => ?_)
  refine lv_aload_n hx hb dX3_setPavilion_38 rfl (lv_at hl 0 rfl) ?_
  refine m_get hx hb hts hin hown hK hP 1 (by decide) k7 rfl rfl dX3_setPavilion_39 ?_
  refine lv_iload_n hx hb dX3_setPavilion_42 rfl (lv_at hl 1 rfl) ?_
  refine lv_iload_n hx hb dX3_setPavilion_43 rfl (lv_at hl 2 rfl) ?_
  refine q_ist hx hb hK hP hD hS 1 0 rfl rfl p rfl (by omega) (by decide) dX3_setPavilion_44 (fun H locs hP hD hS => ?_)
  replace hP : va_P D vwCl (mW E (up2 (up2 y 18 0 (nI 0)) 1 p a)) H := hP
  replace hD : va_D A (mW E (up2 (up2 y 18 0 (nI 0)) 1 p a)) := hD
  refine lv_aload_n hx hb dX3_setPavilion_45 rfl (lv_at hl 0 rfl) ?_
  refine m_get hx hb hts hin hown hK hP 2 (by decide) k13 rfl rfl dX3_setPavilion_46 ?_
  refine lv_iload_n hx hb dX3_setPavilion_49 rfl (lv_at hl 1 rfl) ?_
  refine lv_iload_n hx hb dX3_setPavilion_50 rfl (lv_at hl 3 rfl) ?_
  refine q_ist hx hb hK hP hD hS 2 0 rfl rfl p rfl (by omega) (by decide) dX3_setPavilion_51 (fun H locs hP hD hS => ?_)
  replace hP : va_P D vwCl (mW E (up2 (up2 (up2 y 18 0 (nI 0)) 1 p a) 2 p b)) H := hP
  replace hD : va_D A (mW E (up2 (up2 (up2 y 18 0 (nI 0)) 1 p a) 2 p b)) := hD
  exact W.vret hx hb hr (fun t ht hW => ⟨⟨up2 (up2 (up2 y 18 0 (nI 0)) 1 p a) 2 p b, rfl, rfl, by rw [ht]; exact hP, va_K.moved hW.alike hK, hD⟩, hS.F ht⟩) hS.2.2 dX3_setPavilion_52

set_option maxHeartbeats 4000000 in
set_option maxRecDepth 100000 in
theorem c_X3_setPavilion_b (l : Launch) (D : va_G) (E : mE) (tl : gTy) (y : Nat → Nat → Int32) (p : Nat) (a b : Int32) (hp : p < 6) (hok : ¬ sOK a b)  : gV l yX3_setPavilion wsX3_setPavilion ({ frames := 1, cells := 0, slots := 0, locals := 22 } : Room) D (mT E tl) (mW E y) [.ref E.1.1, .int (nI p), .int a, .int b] (fun u : Nat → Nat → Int32 => u = up2 y 18 0 (nI 2)) (mW E) 0 0 := by
  refine gM.start (cc := cX3_setPavilion) (maxL := 4) (ret := none) (own := RX3) rfl (by decide) rfl (Nat.le_of_ble_eq_true rfl) ?_
  intro pr e s m args below meth c A ls H locs hx hb hml hr hts hown hlocks hname hA hK hP hD hS hl
  replace hl : lv_has ls 4 [(0, .ref E.1.1), (1, .int (nI p)), (2, .int a), (3, .int b)] := hl
  refine lv_aload_n hx hb dX3_setPavilion_0 rfl (lv_at hl 0 rfl) ?_
  refine lv_iload_n hx hb dX3_setPavilion_1 rfl (lv_at hl 1 rfl) ?_
  refine g_scalli (As := [.int (nI p)]) (rest := [.ref E.1.1]) ⟨hx, hb, hml, hown, hts⟩ (c_X3_isPavilion_y l D E tl y p hp) (va_cwS 1 hts gX3_setPavilion_X3_isPavilion rfl rfl rfl (by decide +kernel) ⟨Nat.le_of_ble_eq_true rfl, Nat.le_of_ble_eq_true rfl⟩) hK hP hD hS hA rfl hl.1 rfl (Nat.le_of_ble_eq_true rfl) dX3_setPavilion_2 ⟨Nat.le_of_ble_eq_true rfl, Nat.le_of_ble_eq_true rfl⟩ (fun r_3 u_2 H locs hw hP hD hS => ?_)
  obtain ⟨hr_3, hu_2⟩ := hw
  rw [hu_2] at hP hD
  refine q_top (x' := (nI 1)) hr_3 ?_
  refine lv_iload_n hx hb dX3_setPavilion_5 rfl (lv_at hl 2 rfl) ?_
  refine lv_iconst (v := nI 1) hx hb dX3_setPavilion_6 (by decide) ?_
  refine lv_icmp_lt (tgt := 31) hx hb dX3_setPavilion_7 (by decide) (fun c1 => ?_) (fun c1 => ?_)
  · refine lv_iconst (v := nI 0) hx hb dX3_setPavilion_31 (by decide) ?_
    refine g_calli (As := [.int (nI 1), .int (nI 0)]) (rest := []) ⟨hx, hb, hml, hown, hts⟩ (c_X3_goes l D E tl y (nI 1) (nI 0)) (cwV 2 hts gX3_setPavilion_X3_goes rfl rfl rfl (by decide +kernel) ⟨Nat.le_of_ble_eq_true rfl, Nat.le_of_ble_eq_true rfl⟩) (m_recv hK hP) hK hP hD hS hA rfl hl.1 rfl (Nat.le_of_ble_eq_true rfl) dX3_setPavilion_32 ⟨Nat.le_of_ble_eq_true rfl, Nat.le_of_ble_eq_true rfl⟩ (fun r_6 u_5 H locs hw hP hD hS => ?_)
    obtain ⟨hr_6, hu_5⟩ := hw
    rw [hu_5] at hP hD
    rw [show mGt (nI 1) (nI 0) = nI 2 from by decide] at hP hD
    refine q_top (x' := (nI 0)) (hr_6.trans (by decide)) ?_
    refine q_if_eq (tgt := 52) hx hb (by omega) dX3_setPavilion_35 (by decide) (fun c_7 => ?_) (fun c_7 => absurd c_7 (by decide))
    exact W.vret hx hb hr (fun t ht hW => ⟨⟨up2 y 18 0 (nI 2), rfl, rfl, by rw [ht]; exact hP, va_K.moved hW.alike hK, hD⟩, hS.F ht⟩) hS.2.2 dX3_setPavilion_52
  · refine lv_iload_n hx hb dX3_setPavilion_10 rfl (lv_at hl 2 rfl) ?_
    refine lv_bipush (v := nI 8) hx hb dX3_setPavilion_11 (by decide) ?_
    refine lv_icmp_gt (tgt := 31) hx hb dX3_setPavilion_13 (by decide) (fun c2 => ?_) (fun c2 => ?_)
    · refine lv_iconst (v := nI 0) hx hb dX3_setPavilion_31 (by decide) ?_
      refine g_calli (As := [.int (nI 1), .int (nI 0)]) (rest := []) ⟨hx, hb, hml, hown, hts⟩ (c_X3_goes l D E tl y (nI 1) (nI 0)) (cwV 2 hts gX3_setPavilion_X3_goes rfl rfl rfl (by decide +kernel) ⟨Nat.le_of_ble_eq_true rfl, Nat.le_of_ble_eq_true rfl⟩) (m_recv hK hP) hK hP hD hS hA rfl hl.1 rfl (Nat.le_of_ble_eq_true rfl) dX3_setPavilion_32 ⟨Nat.le_of_ble_eq_true rfl, Nat.le_of_ble_eq_true rfl⟩ (fun r_10 u_9 H locs hw hP hD hS => ?_)
      obtain ⟨hr_10, hu_9⟩ := hw
      rw [hu_9] at hP hD
      rw [show mGt (nI 1) (nI 0) = nI 2 from by decide] at hP hD
      refine q_top (x' := (nI 0)) (hr_10.trans (by decide)) ?_
      refine q_if_eq (tgt := 52) hx hb (by omega) dX3_setPavilion_35 (by decide) (fun c_11 => ?_) (fun c_11 => absurd c_11 (by decide))
      exact W.vret hx hb hr (fun t ht hW => ⟨⟨up2 y 18 0 (nI 2), rfl, rfl, by rw [ht]; exact hP, va_K.moved hW.alike hK, hD⟩, hS.F ht⟩) hS.2.2 dX3_setPavilion_52
    · refine lv_iload_n hx hb dX3_setPavilion_16 rfl (lv_at hl 3 rfl) ?_
      refine lv_iconst (v := nI 1) hx hb dX3_setPavilion_17 (by decide) ?_
      refine lv_icmp_lt (tgt := 31) hx hb dX3_setPavilion_18 (by decide) (fun c3 => ?_) (fun c3 => ?_)
      · refine lv_iconst (v := nI 0) hx hb dX3_setPavilion_31 (by decide) ?_
        refine g_calli (As := [.int (nI 1), .int (nI 0)]) (rest := []) ⟨hx, hb, hml, hown, hts⟩ (c_X3_goes l D E tl y (nI 1) (nI 0)) (cwV 2 hts gX3_setPavilion_X3_goes rfl rfl rfl (by decide +kernel) ⟨Nat.le_of_ble_eq_true rfl, Nat.le_of_ble_eq_true rfl⟩) (m_recv hK hP) hK hP hD hS hA rfl hl.1 rfl (Nat.le_of_ble_eq_true rfl) dX3_setPavilion_32 ⟨Nat.le_of_ble_eq_true rfl, Nat.le_of_ble_eq_true rfl⟩ (fun r_14 u_13 H locs hw hP hD hS => ?_)
        obtain ⟨hr_14, hu_13⟩ := hw
        rw [hu_13] at hP hD
        rw [show mGt (nI 1) (nI 0) = nI 2 from by decide] at hP hD
        refine q_top (x' := (nI 0)) (hr_14.trans (by decide)) ?_
        refine q_if_eq (tgt := 52) hx hb (by omega) dX3_setPavilion_35 (by decide) (fun c_15 => ?_) (fun c_15 => absurd c_15 (by decide))
        exact W.vret hx hb hr (fun t ht hW => ⟨⟨up2 y 18 0 (nI 2), rfl, rfl, by rw [ht]; exact hP, va_K.moved hW.alike hK, hD⟩, hS.F ht⟩) hS.2.2 dX3_setPavilion_52
      · refine lv_iload_n hx hb dX3_setPavilion_21 rfl (lv_at hl 3 rfl) ?_
        refine lv_bipush (v := nI 60) hx hb dX3_setPavilion_22 (by decide) ?_
        refine lv_icmp_gt (tgt := 31) hx hb dX3_setPavilion_24 (by decide) (fun c4 => ?_) (fun c4 => absurd ⟨c1, c2, c3, c4⟩ hok)
        refine lv_iconst (v := nI 0) hx hb dX3_setPavilion_31 (by decide) ?_
        refine g_calli (As := [.int (nI 1), .int (nI 0)]) (rest := []) ⟨hx, hb, hml, hown, hts⟩ (c_X3_goes l D E tl y (nI 1) (nI 0)) (cwV 2 hts gX3_setPavilion_X3_goes rfl rfl rfl (by decide +kernel) ⟨Nat.le_of_ble_eq_true rfl, Nat.le_of_ble_eq_true rfl⟩) (m_recv hK hP) hK hP hD hS hA rfl hl.1 rfl (Nat.le_of_ble_eq_true rfl) dX3_setPavilion_32 ⟨Nat.le_of_ble_eq_true rfl, Nat.le_of_ble_eq_true rfl⟩ (fun r_18 u_17 H locs hw hP hD hS => ?_)
        obtain ⟨hr_18, hu_17⟩ := hw
        rw [hu_17] at hP hD
        rw [show mGt (nI 1) (nI 0) = nI 2 from by decide] at hP hD
        refine q_top (x' := (nI 0)) (hr_18.trans (by decide)) ?_
        refine q_if_eq (tgt := 52) hx hb (by omega) dX3_setPavilion_35 (by decide) (fun c_19 => ?_) (fun c_19 => absurd c_19 (by decide))
        exact W.vret hx hb hr (fun t ht hW => ⟨⟨up2 y 18 0 (nI 2), rfl, rfl, by rw [ht]; exact hP, va_K.moved hW.alike hK, hD⟩, hS.F ht⟩) hS.2.2 dX3_setPavilion_52

set_option maxHeartbeats 4000000 in
set_option maxRecDepth 100000 in
theorem c_X3_setPavilion_n (l : Launch) (D : va_G) (E : mE) (tl : gTy) (y : Nat → Nat → Int32) (p a b : Int32) (hp : p < 0 ∨ nI 6 ≤ p)  : gV l yX3_setPavilion wsX3_setPavilion ({ frames := 1, cells := 0, slots := 0, locals := 22 } : Room) D (mT E tl) (mW E y) [.ref E.1.1, .int p, .int a, .int b] (fun u : Nat → Nat → Int32 => u = up2 y 18 0 (nI 1)) (mW E) 0 0 := by
  refine gM.start (cc := cX3_setPavilion) (maxL := 4) (ret := none) (own := RX3) rfl (by decide) rfl (Nat.le_of_ble_eq_true rfl) ?_
  intro pr e s m args below meth c A ls H locs hx hb hml hr hts hown hlocks hname hA hK hP hD hS hl
  replace hl : lv_has ls 4 [(0, .ref E.1.1), (1, .int p), (2, .int a), (3, .int b)] := hl
  refine lv_aload_n hx hb dX3_setPavilion_0 rfl (lv_at hl 0 rfl) ?_
  refine lv_iload_n hx hb dX3_setPavilion_1 rfl (lv_at hl 1 rfl) ?_
  refine g_scalli (As := [.int p]) (rest := [.ref E.1.1]) ⟨hx, hb, hml, hown, hts⟩ (c_X3_isPavilion_n l D E tl y p hp) (va_cwS 1 hts gX3_setPavilion_X3_isPavilion rfl rfl rfl (by decide +kernel) ⟨Nat.le_of_ble_eq_true rfl, Nat.le_of_ble_eq_true rfl⟩) hK hP hD hS hA rfl hl.1 rfl (Nat.le_of_ble_eq_true rfl) dX3_setPavilion_2 ⟨Nat.le_of_ble_eq_true rfl, Nat.le_of_ble_eq_true rfl⟩ (fun r_3 u_2 H locs hw hP hD hS => ?_)
  obtain ⟨hr_3, hu_2⟩ := hw
  rw [hu_2] at hP hD
  refine q_top (x' := (nI 0)) hr_3 ?_
  refine lv_iload_n hx hb dX3_setPavilion_5 rfl (lv_at hl 2 rfl) ?_
  refine lv_iconst (v := nI 1) hx hb dX3_setPavilion_6 (by decide) ?_
  refine lv_icmp_lt (tgt := 31) hx hb dX3_setPavilion_7 (by decide) (fun c1 => ?_) (fun c1 => ?_)
  · refine lv_iconst (v := nI 0) hx hb dX3_setPavilion_31 (by decide) ?_
    refine g_calli (As := [.int (nI 0), .int (nI 0)]) (rest := []) ⟨hx, hb, hml, hown, hts⟩ (c_X3_goes l D E tl y (nI 0) (nI 0)) (cwV 2 hts gX3_setPavilion_X3_goes rfl rfl rfl (by decide +kernel) ⟨Nat.le_of_ble_eq_true rfl, Nat.le_of_ble_eq_true rfl⟩) (m_recv hK hP) hK hP hD hS hA rfl hl.1 rfl (Nat.le_of_ble_eq_true rfl) dX3_setPavilion_32 ⟨Nat.le_of_ble_eq_true rfl, Nat.le_of_ble_eq_true rfl⟩ (fun r_6 u_5 H locs hw hP hD hS => ?_)
    obtain ⟨hr_6, hu_5⟩ := hw
    rw [hu_5] at hP hD
    rw [show mGt (nI 0) (nI 0) = nI 1 from by decide] at hP hD
    refine q_top (x' := (nI 0)) (hr_6.trans (by decide)) ?_
    refine q_if_eq (tgt := 52) hx hb (by omega) dX3_setPavilion_35 (by decide) (fun c_7 => ?_) (fun c_7 => absurd c_7 (by decide))
    exact W.vret hx hb hr (fun t ht hW => ⟨⟨up2 y 18 0 (nI 1), rfl, rfl, by rw [ht]; exact hP, va_K.moved hW.alike hK, hD⟩, hS.F ht⟩) hS.2.2 dX3_setPavilion_52
  · refine lv_iload_n hx hb dX3_setPavilion_10 rfl (lv_at hl 2 rfl) ?_
    refine lv_bipush (v := nI 8) hx hb dX3_setPavilion_11 (by decide) ?_
    refine lv_icmp_gt (tgt := 31) hx hb dX3_setPavilion_13 (by decide) (fun c2 => ?_) (fun c2 => ?_)
    · refine lv_iconst (v := nI 0) hx hb dX3_setPavilion_31 (by decide) ?_
      refine g_calli (As := [.int (nI 0), .int (nI 0)]) (rest := []) ⟨hx, hb, hml, hown, hts⟩ (c_X3_goes l D E tl y (nI 0) (nI 0)) (cwV 2 hts gX3_setPavilion_X3_goes rfl rfl rfl (by decide +kernel) ⟨Nat.le_of_ble_eq_true rfl, Nat.le_of_ble_eq_true rfl⟩) (m_recv hK hP) hK hP hD hS hA rfl hl.1 rfl (Nat.le_of_ble_eq_true rfl) dX3_setPavilion_32 ⟨Nat.le_of_ble_eq_true rfl, Nat.le_of_ble_eq_true rfl⟩ (fun r_10 u_9 H locs hw hP hD hS => ?_)
      obtain ⟨hr_10, hu_9⟩ := hw
      rw [hu_9] at hP hD
      rw [show mGt (nI 0) (nI 0) = nI 1 from by decide] at hP hD
      refine q_top (x' := (nI 0)) (hr_10.trans (by decide)) ?_
      refine q_if_eq (tgt := 52) hx hb (by omega) dX3_setPavilion_35 (by decide) (fun c_11 => ?_) (fun c_11 => absurd c_11 (by decide))
      exact W.vret hx hb hr (fun t ht hW => ⟨⟨up2 y 18 0 (nI 1), rfl, rfl, by rw [ht]; exact hP, va_K.moved hW.alike hK, hD⟩, hS.F ht⟩) hS.2.2 dX3_setPavilion_52
    · refine lv_iload_n hx hb dX3_setPavilion_16 rfl (lv_at hl 3 rfl) ?_
      refine lv_iconst (v := nI 1) hx hb dX3_setPavilion_17 (by decide) ?_
      refine lv_icmp_lt (tgt := 31) hx hb dX3_setPavilion_18 (by decide) (fun c3 => ?_) (fun c3 => ?_)
      · refine lv_iconst (v := nI 0) hx hb dX3_setPavilion_31 (by decide) ?_
        refine g_calli (As := [.int (nI 0), .int (nI 0)]) (rest := []) ⟨hx, hb, hml, hown, hts⟩ (c_X3_goes l D E tl y (nI 0) (nI 0)) (cwV 2 hts gX3_setPavilion_X3_goes rfl rfl rfl (by decide +kernel) ⟨Nat.le_of_ble_eq_true rfl, Nat.le_of_ble_eq_true rfl⟩) (m_recv hK hP) hK hP hD hS hA rfl hl.1 rfl (Nat.le_of_ble_eq_true rfl) dX3_setPavilion_32 ⟨Nat.le_of_ble_eq_true rfl, Nat.le_of_ble_eq_true rfl⟩ (fun r_14 u_13 H locs hw hP hD hS => ?_)
        obtain ⟨hr_14, hu_13⟩ := hw
        rw [hu_13] at hP hD
        rw [show mGt (nI 0) (nI 0) = nI 1 from by decide] at hP hD
        refine q_top (x' := (nI 0)) (hr_14.trans (by decide)) ?_
        refine q_if_eq (tgt := 52) hx hb (by omega) dX3_setPavilion_35 (by decide) (fun c_15 => ?_) (fun c_15 => absurd c_15 (by decide))
        exact W.vret hx hb hr (fun t ht hW => ⟨⟨up2 y 18 0 (nI 1), rfl, rfl, by rw [ht]; exact hP, va_K.moved hW.alike hK, hD⟩, hS.F ht⟩) hS.2.2 dX3_setPavilion_52
      · refine lv_iload_n hx hb dX3_setPavilion_21 rfl (lv_at hl 3 rfl) ?_
        refine lv_bipush (v := nI 60) hx hb dX3_setPavilion_22 (by decide) ?_
        refine lv_icmp_gt (tgt := 31) hx hb dX3_setPavilion_24 (by decide) (fun c4 => ?_) (fun c4 => ?_)
        · refine lv_iconst (v := nI 0) hx hb dX3_setPavilion_31 (by decide) ?_
          refine g_calli (As := [.int (nI 0), .int (nI 0)]) (rest := []) ⟨hx, hb, hml, hown, hts⟩ (c_X3_goes l D E tl y (nI 0) (nI 0)) (cwV 2 hts gX3_setPavilion_X3_goes rfl rfl rfl (by decide +kernel) ⟨Nat.le_of_ble_eq_true rfl, Nat.le_of_ble_eq_true rfl⟩) (m_recv hK hP) hK hP hD hS hA rfl hl.1 rfl (Nat.le_of_ble_eq_true rfl) dX3_setPavilion_32 ⟨Nat.le_of_ble_eq_true rfl, Nat.le_of_ble_eq_true rfl⟩ (fun r_18 u_17 H locs hw hP hD hS => ?_)
          obtain ⟨hr_18, hu_17⟩ := hw
          rw [hu_17] at hP hD
          rw [show mGt (nI 0) (nI 0) = nI 1 from by decide] at hP hD
          refine q_top (x' := (nI 0)) (hr_18.trans (by decide)) ?_
          refine q_if_eq (tgt := 52) hx hb (by omega) dX3_setPavilion_35 (by decide) (fun c_19 => ?_) (fun c_19 => absurd c_19 (by decide))
          exact W.vret hx hb hr (fun t ht hW => ⟨⟨up2 y 18 0 (nI 1), rfl, rfl, by rw [ht]; exact hP, va_K.moved hW.alike hK, hD⟩, hS.F ht⟩) hS.2.2 dX3_setPavilion_52
        · refine lv_iconst (v := nI 1) hx hb dX3_setPavilion_27 (by decide) ?_
          refine lv_goto (tgt := 32) hx hb dX3_setPavilion_28 (by decide) ?_
          refine g_calli (As := [.int (nI 0), .int (nI 1)]) (rest := []) ⟨hx, hb, hml, hown, hts⟩ (c_X3_goes l D E tl y (nI 0) (nI 1)) (cwV 2 hts gX3_setPavilion_X3_goes rfl rfl rfl (by decide +kernel) ⟨Nat.le_of_ble_eq_true rfl, Nat.le_of_ble_eq_true rfl⟩) (m_recv hK hP) hK hP hD hS hA rfl hl.1 rfl (Nat.le_of_ble_eq_true rfl) dX3_setPavilion_32 ⟨Nat.le_of_ble_eq_true rfl, Nat.le_of_ble_eq_true rfl⟩ (fun r_22 u_21 H locs hw hP hD hS => ?_)
          obtain ⟨hr_22, hu_21⟩ := hw
          rw [hu_21] at hP hD
          rw [show mGt (nI 0) (nI 1) = nI 1 from by decide] at hP hD
          refine q_top (x' := (nI 0)) (hr_22.trans (by decide)) ?_
          refine q_if_eq (tgt := 52) hx hb (by omega) dX3_setPavilion_35 (by decide) (fun c_23 => ?_) (fun c_23 => absurd c_23 (by decide))
          exact W.vret hx hb hr (fun t ht hW => ⟨⟨up2 y 18 0 (nI 1), rfl, rfl, by rw [ht]; exact hP, va_K.moved hW.alike hK, hD⟩, hS.F ht⟩) hS.2.2 dX3_setPavilion_52

set_option maxHeartbeats 4000000 in
set_option maxRecDepth 100000 in
theorem c_X3_open_o (l : Launch) (D : va_G) (E : mE) (tl : gTy) (y : Nat → Nat → Int32) (p : Nat) (hp : p < 6)  : gI l yX3_open wsX3_open ({ frames := 1, cells := 0, slots := 0, locals := 22 } : Room) D (mT E tl) (mW E y) [.ref E.1.1, .int (nI p), .int (nI 1)] (fun (r : Int32) (u : Nat → Nat → Int32) => r = nI 0 ∧ u = up2 (up2 y 18 0 (nI 0)) 3 p (nI 0)) (mW E) 0 0 := by
  refine gM.start (cc := cX3_open) (maxL := 5) (ret := (some .int)) (own := RX3) rfl (by decide) rfl (Nat.le_of_ble_eq_true rfl) ?_
  intro pr e s m args below meth c A ls H locs hx hb hml hr hts hown hlocks hname hA hK hP hD hS hl
  replace hl : lv_has ls 5 [(0, .ref E.1.1), (1, .int (nI p)), (2, .int (nI 1))] := hl
  have hin : ∀ w ∈ wsX30, w ∈ wsX3_open := by decide +kernel
  have k16 := hts (.fieldLink RX3 16 "FairFolioModel" "isClosed" "[Z") (by decide +kernel)
  refine lv_aload_n hx hb dX3_open_0 rfl (lv_at hl 0 rfl) ?_
  refine lv_iload_n hx hb dX3_open_1 rfl (lv_at hl 1 rfl) ?_
  refine g_scalli (As := [.int (nI p)]) (rest := [.ref E.1.1]) ⟨hx, hb, hml, hown, hts⟩ (c_X3_isPavilion_y l D E tl y p hp) (va_cwS 1 hts gX3_open_X3_isPavilion rfl rfl rfl (by decide +kernel) ⟨Nat.le_of_ble_eq_true rfl, Nat.le_of_ble_eq_true rfl⟩) hK hP hD hS hA rfl hl.1 rfl (Nat.le_of_ble_eq_true rfl) dX3_open_2 ⟨Nat.le_of_ble_eq_true rfl, Nat.le_of_ble_eq_true rfl⟩ (fun r_3 u_2 H locs hw hP hD hS => ?_)
  obtain ⟨hr_3, hu_2⟩ := hw
  rw [hu_2] at hP hD
  refine q_top (x' := (nI 1)) hr_3 ?_
  refine lv_iconst (v := nI 1) hx hb dX3_open_5 (by decide) ?_
  refine g_calli (As := [.int (nI 1), .int (nI 1)]) (rest := []) ⟨hx, hb, hml, hown, hts⟩ (c_X3_goes l D E tl y (nI 1) (nI 1)) (cwV 2 hts gX3_open_X3_goes rfl rfl rfl (by decide +kernel) ⟨Nat.le_of_ble_eq_true rfl, Nat.le_of_ble_eq_true rfl⟩) (m_recv hK hP) hK hP hD hS hA rfl hl.1 rfl (Nat.le_of_ble_eq_true rfl) dX3_open_6 ⟨Nat.le_of_ble_eq_true rfl, Nat.le_of_ble_eq_true rfl⟩ (fun r_6 u_5 H locs hw hP hD hS => ?_)
  obtain ⟨hr_6, hu_5⟩ := hw
  rw [hu_5] at hP hD
  rw [show mGt (nI 1) (nI 1) = nI 0 from by decide] at hP hD
  refine q_top (x' := (nI 1)) (hr_6.trans (by decide)) ?_
  refine q_if_ne (tgt := 14) hx hb (by omega) dX3_open_9 (by decide) (fun c_7 => ?_) (fun c_7 => absurd c_7 (by decide))
  refine lv_iconst (v := nI 0) hx hb dX3_open_14 (by decide) ?_
  refine lv_istore_n (lv' := [(3, .int (nI 0)), (0, .ref E.1.1), (1, .int (nI p)), (2, .int (nI 1))]) hx hb dX3_open_15 rfl hl (by decide) rfl (fun ls hl => ?_)
  refine lv_aload_n hx hb dX3_open_16 rfl (lv_at hl 1 rfl) ?_
  refine m_get hx hb hts hin hown hK hP 3 (by decide) k16 rfl rfl dX3_open_17 ?_
  refine lv_iload_n hx hb dX3_open_20 rfl (lv_at hl 2 rfl) ?_
  refine lv_iload_n hx hb dX3_open_21 rfl (lv_at hl 3 rfl) ?_
  refine q_if_ne (tgt := 29) hx hb (by omega) dX3_open_22 (by decide) (fun c_8 => ?_) (fun c_8 => absurd c_8 (by decide))
  refine lv_iconst (v := nI 0) hx hb dX3_open_29 (by decide) ?_
  refine q_zst hx hb hK hP hD hS 3 1 rfl rfl p rfl (by omega) (by decide) (Or.inl rfl) dX3_open_30 (fun H locs hP hD hS => ?_)
  replace hP : va_P D vwCl (mW E (up2 (up2 y 18 0 (nI 0)) 3 p (nI 0))) H := hP
  replace hD : va_D A (mW E (up2 (up2 y 18 0 (nI 0)) 3 p (nI 0))) := hD
  refine lv_iload_n hx hb dX3_open_31 rfl (lv_at hl 3 rfl) ?_
  refine q_if_ne (tgt := 83) hx hb (by omega) dX3_open_32 (by decide) (fun c_9 => ?_) (fun c_9 => absurd c_9 (by decide))
  refine lv_iload_n hx hb dX3_open_83 rfl (lv_at hl 0 rfl) ?_
  exact W.iret hx hb hr (fun t ht hW => ⟨⟨_, up2 (up2 y 18 0 (nI 0)) 3 p (nI 0), rfl, ⟨rfl, rfl⟩, by rw [ht]; exact hP, va_K.moved hW.alike hK, hD⟩, hS.F ht⟩) hS.2.2 dX3_open_84

set_option maxHeartbeats 4000000 in
set_option maxRecDepth 100000 in
theorem c_X3_open_c (l : Launch) (D : va_G) (E : mE) (tl : gTy) (y : Nat → Nat → Int32) (p : Nat) (hp : p < 6) (n0 : Nat) (y1 : Nat → Nat → Int32) (hdr : mDrain p n0 (up2 (up2 y 18 0 (nI 0)) 3 p (nI 1)) y1)  : gI l yX3_open wsX3_open ({ frames := 2, cells := 0, slots := 0, locals := 48 } : Room) D (mT E tl) (mW E y) [.ref E.1.1, .int (nI p), .int (nI 0)] (fun (r : Int32) (u : Nat → Nat → Int32) => r = nI n0 ∧ u = y1) (mW E) 0 0 := by
  refine gM.start (cc := cX3_open) (maxL := 5) (ret := (some .int)) (own := RX3) rfl (by decide) rfl (Nat.le_of_ble_eq_true rfl) ?_
  intro pr e s m args below meth c A ls H locs hx hb hml hr hts hown hlocks hname hA hK hP hD hS hl
  replace hl : lv_has ls 5 [(0, .ref E.1.1), (1, .int (nI p)), (2, .int (nI 0))] := hl
  have hin : ∀ w ∈ wsX30, w ∈ wsX3_open := by decide +kernel
  have k16 := hts (.fieldLink RX3 16 "FairFolioModel" "isClosed" "[Z") (by decide +kernel)
  have k23 := hts (.fieldLink RX3 23 "FairFolioModel" "waiting" "[I") (by decide +kernel)
  have k20 := hts (.fieldLink RX3 20 "FairFolioModel" "queue" "[I") (by decide +kernel)
  have k50 := hts (.fieldLink RX3 50 "FairFolioModel" "isByTurn" "[Z") (by decide +kernel)
  refine lv_aload_n hx hb dX3_open_0 rfl (lv_at hl 0 rfl) ?_
  refine lv_iload_n hx hb dX3_open_1 rfl (lv_at hl 1 rfl) ?_
  refine g_scalli (As := [.int (nI p)]) (rest := [.ref E.1.1]) ⟨hx, hb, hml, hown, hts⟩ (c_X3_isPavilion_y l D E tl y p hp) (va_cwS 1 hts gX3_open_X3_isPavilion rfl rfl rfl (by decide +kernel) ⟨Nat.le_of_ble_eq_true rfl, Nat.le_of_ble_eq_true rfl⟩) hK hP hD hS hA rfl hl.1 rfl (Nat.le_of_ble_eq_true rfl) dX3_open_2 ⟨Nat.le_of_ble_eq_true rfl, Nat.le_of_ble_eq_true rfl⟩ (fun r_3 u_2 H locs hw hP hD hS => ?_)
  obtain ⟨hr_3, hu_2⟩ := hw
  rw [hu_2] at hP hD
  refine q_top (x' := (nI 1)) hr_3 ?_
  refine lv_iconst (v := nI 1) hx hb dX3_open_5 (by decide) ?_
  refine g_calli (As := [.int (nI 1), .int (nI 1)]) (rest := []) ⟨hx, hb, hml, hown, hts⟩ (c_X3_goes l D E tl y (nI 1) (nI 1)) (cwV 2 hts gX3_open_X3_goes rfl rfl rfl (by decide +kernel) ⟨Nat.le_of_ble_eq_true rfl, Nat.le_of_ble_eq_true rfl⟩) (m_recv hK hP) hK hP hD hS hA rfl hl.1 rfl (Nat.le_of_ble_eq_true rfl) dX3_open_6 ⟨Nat.le_of_ble_eq_true rfl, Nat.le_of_ble_eq_true rfl⟩ (fun r_6 u_5 H locs hw hP hD hS => ?_)
  obtain ⟨hr_6, hu_5⟩ := hw
  rw [hu_5] at hP hD
  rw [show mGt (nI 1) (nI 1) = nI 0 from by decide] at hP hD
  refine q_top (x' := (nI 1)) (hr_6.trans (by decide)) ?_
  refine q_if_ne (tgt := 14) hx hb (by omega) dX3_open_9 (by decide) (fun c_7 => ?_) (fun c_7 => absurd c_7 (by decide))
  refine lv_iconst (v := nI 0) hx hb dX3_open_14 (by decide) ?_
  refine lv_istore_n (lv' := [(3, .int (nI 0)), (0, .ref E.1.1), (1, .int (nI p)), (2, .int (nI 0))]) hx hb dX3_open_15 rfl hl (by decide) rfl (fun ls hl => ?_)
  refine lv_aload_n hx hb dX3_open_16 rfl (lv_at hl 1 rfl) ?_
  refine m_get hx hb hts hin hown hK hP 3 (by decide) k16 rfl rfl dX3_open_17 ?_
  refine lv_iload_n hx hb dX3_open_20 rfl (lv_at hl 2 rfl) ?_
  refine lv_iload_n hx hb dX3_open_21 rfl (lv_at hl 3 rfl) ?_
  refine q_if_ne (tgt := 29) hx hb (by omega) dX3_open_22 (by decide) (fun c_8 => absurd c_8 (by decide)) (fun c_8 => ?_)
  refine lv_iconst (v := nI 1) hx hb dX3_open_25 (by decide) ?_
  refine lv_goto (tgt := 30) hx hb dX3_open_26 (by decide) ?_
  refine q_zst hx hb hK hP hD hS 3 1 rfl rfl p rfl (by omega) (by decide) (Or.inr rfl) dX3_open_30 (fun H locs hP hD hS => ?_)
  replace hP : va_P D vwCl (mW E (up2 (up2 y 18 0 (nI 0)) 3 p (nI 1))) H := hP
  replace hD : va_D A (mW E (up2 (up2 y 18 0 (nI 0)) 3 p (nI 1))) := hD
  generalize up2 (up2 y 18 0 (nI 0)) 3 p (nI 1) = z at hP hD hdr
  obtain ⟨k, hk⟩ : ∃ k : Nat, k = 0 := ⟨_, rfl⟩
  obtain ⟨nn, hnn⟩ : ∃ nn : Nat, nn = n0 := ⟨_, rfl⟩
  replace hl : lv_has ls 5 [(3, .int (nI k)), (0, .ref E.1.1), (1, .int (nI p)), (2, .int (nI 0))] := by rw [hk]; exact hl
  have hkn : k + nn = n0 := by omega
  rw [← hnn] at hdr
  clear hk hnn
  induction nn generalizing k z H locs ls with
  | zero =>
    obtain ⟨h5, rfl⟩ := hdr
    obtain rfl : k = n0 := by omega
    refine lv_iload_n hx hb dX3_open_31 rfl (lv_at hl 3 rfl) ?_
    refine q_if_ne (tgt := 83) hx hb (by omega) dX3_open_32 (by decide) (fun c_9 => absurd c_9 (by decide)) (fun c_9 => ?_)
    refine lv_aload_n hx hb dX3_open_35 rfl (lv_at hl 1 rfl) ?_
    refine m_get hx hb hts hin hown hK hP 5 (by decide) k23 rfl rfl dX3_open_36 ?_
    refine lv_iload_n hx hb dX3_open_39 rfl (lv_at hl 2 rfl) ?_
    refine q_ild hx hb hK hP 5 0 rfl rfl p rfl (by omega) (by decide) dX3_open_40 ?_
    refine q_top (x' := (nI 0)) h5 ?_
    refine q_if_le (tgt := 83) hx hb (by omega) dX3_open_41 (by decide) (fun c9 => ?_) (fun c9 => absurd c9 (by omega))
    refine lv_iload_n hx hb dX3_open_83 rfl (lv_at hl 0 rfl) ?_
    exact W.iret hx hb hr (fun t ht hW => ⟨⟨_, y1, rfl, ⟨rfl, rfl⟩, by rw [ht]; exact hP, va_K.moved hW.alike hK, hD⟩, hS.F ht⟩) hS.2.2 dX3_open_84
  | succ nn ih =>
    obtain ⟨h5, h8, v, y2, hv, hq, ⟨y3, ⟨p1, w1, a1, g1, g2, g3, g4, g5, g6, g7, rfl⟩, hof⟩, hdr⟩ := hdr
    refine lv_iload_n hx hb dX3_open_31 rfl (lv_at hl 3 rfl) ?_
    refine q_if_ne (tgt := 83) hx hb (by omega) dX3_open_32 (by decide) (fun c_10 => absurd c_10 (by decide)) (fun c_10 => ?_)
    refine lv_aload_n hx hb dX3_open_35 rfl (lv_at hl 1 rfl) ?_
    refine m_get hx hb hts hin hown hK hP 5 (by decide) k23 rfl rfl dX3_open_36 ?_
    refine lv_iload_n hx hb dX3_open_39 rfl (lv_at hl 2 rfl) ?_
    refine q_ild hx hb hK hP 5 0 rfl rfl p rfl (by omega) (by decide) dX3_open_40 ?_
    refine q_top (x' := (nI (nn + 1))) h5 ?_
    refine q_if_le (tgt := 83) hx hb (by omega) dX3_open_41 (by decide) (fun c8 => absurd c8 (by omega)) (fun c8 => ?_)
    refine lv_aload_n hx hb dX3_open_44 rfl (lv_at hl 1 rfl) ?_
    refine m_get hx hb hts hin hown hK hP 4 (by decide) k20 rfl rfl dX3_open_45 ?_
    refine lv_bipush (v := nI 8) hx hb dX3_open_48 (by decide) ?_
    refine lv_iload_n hx hb dX3_open_50 rfl (lv_at hl 2 rfl) ?_
    refine q_mul hx hb dX3_open_51 ?_
    refine q_ild hx hb hK hP 4 0 rfl rfl (8 * p) rfl (by omega) (by decide) dX3_open_52 ?_
    refine q_top (x' := (nI v)) hq ?_
    refine lv_istore (lv' := [(4, .int (nI v)), (3, .int (nI k)), (0, .ref E.1.1), (1, .int (nI p)), (2, .int (nI 0))]) hx hb dX3_open_53 hl (by decide) rfl (fun ls hl => ?_)
    refine lv_aload_n hx hb dX3_open_55 rfl (lv_at hl 2 rfl) ?_
    refine lv_iload hx hb dX3_open_56 (lv_at hl 0 rfl) ?_
    refine g_callv (As := [.int (nI v)]) (rest := []) ⟨hx, hb, hml, hown, hts⟩ (c_X3_leaves l D E tl z v p1 w1 a1 hv g1 g2 g3 g4 g5 g6 g7) (cwV 1 hts gX3_open_X3_leaves rfl rfl rfl (by decide +kernel) ⟨Nat.le_of_ble_eq_true rfl, Nat.le_of_ble_eq_true rfl⟩) (m_recv hK hP) hK hP hD hS hA rfl hl.1 rfl (Nat.le_of_ble_eq_true rfl) dX3_open_58 ⟨Nat.le_of_ble_eq_true rfl, Nat.le_of_ble_eq_true rfl⟩ (fun u_12 H locs hw hP hD hS => ?_)
    rw [hw] at hP hD
    rcases hof with ⟨g8, rfl⟩ | ⟨g8, rfl⟩
    · refine lv_aload_n hx hb dX3_open_61 rfl (lv_at hl 2 rfl) ?_
      refine m_get hx hb hts hin hown hK hP 14 (by decide) k50 rfl rfl dX3_open_62 ?_
      refine lv_iload hx hb dX3_open_65 (lv_at hl 0 rfl) ?_
      refine q_zld hx hb hK hP 14 1 rfl rfl v rfl (by omega) (by decide) dX3_open_67 ?_
      refine q_top (x' := (nI 0)) g8 ?_
      refine q_if_eq (tgt := 77) hx hb (by omega) dX3_open_68 (by decide) (fun c_14 => ?_) (fun c_14 => absurd c_14 (by decide))
      refine q_inc (k := 1) (lv' := [(3, .int (nI (k + 1))), (4, .int (nI v)), (0, .ref E.1.1), (1, .int (nI p)), (2, .int (nI 0))]) hx hb dX3_open_77 hl rfl (by decide) rfl (fun ls hl => ?_)
      refine lv_goto (tgt := 31) hx hb dX3_open_80 (by decide) ?_
      replace hl : lv_has ls 5 [(3, .int (nI (k + 1))), (0, .ref E.1.1), (1, .int (nI p)), (2, .int (nI 0))] := lv_sub hl [0, 2, 3, 4] rfl
      apply ih (k := k + 1) (H := H) (locs := locs) (ls := ls)
      all_goals first | omega | assumption
    · refine lv_aload_n hx hb dX3_open_61 rfl (lv_at hl 2 rfl) ?_
      refine m_get hx hb hts hin hown hK hP 14 (by decide) k50 rfl rfl dX3_open_62 ?_
      refine lv_iload hx hb dX3_open_65 (lv_at hl 0 rfl) ?_
      refine q_zld hx hb hK hP 14 1 rfl rfl v rfl (by omega) (by decide) dX3_open_67 ?_
      refine q_top (x' := (nI 1)) g8 ?_
      refine q_if_eq (tgt := 77) hx hb (by omega) dX3_open_68 (by decide) (fun c_15 => absurd c_15 (by decide)) (fun c_15 => ?_)
      refine lv_aload_n hx hb dX3_open_71 rfl (lv_at hl 2 rfl) ?_
      refine lv_iload hx hb dX3_open_72 (lv_at hl 0 rfl) ?_
      refine g_callv (As := [.int (nI v)]) (rest := []) ⟨hx, hb, hml, hown, hts⟩ (c_X3_loses l D E tl (mLeave z v p1 w1 a1) v hv) (cwV 1 hts gX3_open_X3_loses rfl rfl rfl (by decide +kernel) ⟨Nat.le_of_ble_eq_true rfl, Nat.le_of_ble_eq_true rfl⟩) (m_recv hK hP) hK hP hD hS hA rfl hl.1 rfl (Nat.le_of_ble_eq_true rfl) dX3_open_74 ⟨Nat.le_of_ble_eq_true rfl, Nat.le_of_ble_eq_true rfl⟩ (fun u_17 H locs hw hP hD hS => ?_)
      rw [hw] at hP hD
      refine q_inc (k := 1) (lv' := [(3, .int (nI (k + 1))), (4, .int (nI v)), (0, .ref E.1.1), (1, .int (nI p)), (2, .int (nI 0))]) hx hb dX3_open_77 hl rfl (by decide) rfl (fun ls hl => ?_)
      refine lv_goto (tgt := 31) hx hb dX3_open_80 (by decide) ?_
      replace hl : lv_has ls 5 [(3, .int (nI (k + 1))), (0, .ref E.1.1), (1, .int (nI p)), (2, .int (nI 0))] := lv_sub hl [0, 2, 3, 4] rfl
      apply ih (k := k + 1) (H := H) (locs := locs) (ls := ls)
      all_goals first | omega | assumption

set_option maxHeartbeats 4000000 in
set_option maxRecDepth 100000 in
theorem c_X3_open_n (l : Launch) (D : va_G) (E : mE) (tl : gTy) (y : Nat → Nat → Int32) (p : Int32) (b : Nat) (hp : p < 0 ∨ nI 6 ≤ p)  : gI l yX3_open wsX3_open ({ frames := 2, cells := 0, slots := 0, locals := 48 } : Room) D (mT E tl) (mW E y) [.ref E.1.1, .int p, .int (nI b)] (fun (r : Int32) (u : Nat → Nat → Int32) => u = up2 y 18 0 (nI 1)) (mW E) 0 0 := by
  refine gM.start (cc := cX3_open) (maxL := 5) (ret := (some .int)) (own := RX3) rfl (by decide) rfl (Nat.le_of_ble_eq_true rfl) ?_
  intro pr e s m args below meth c A ls H locs hx hb hml hr hts hown hlocks hname hA hK hP hD hS hl
  replace hl : lv_has ls 5 [(0, .ref E.1.1), (1, .int p), (2, .int (nI b))] := hl
  refine lv_aload_n hx hb dX3_open_0 rfl (lv_at hl 0 rfl) ?_
  refine lv_iload_n hx hb dX3_open_1 rfl (lv_at hl 1 rfl) ?_
  refine g_scalli (As := [.int p]) (rest := [.ref E.1.1]) ⟨hx, hb, hml, hown, hts⟩ (c_X3_isPavilion_n l D E tl y p hp) (va_cwS 1 hts gX3_open_X3_isPavilion rfl rfl rfl (by decide +kernel) ⟨Nat.le_of_ble_eq_true rfl, Nat.le_of_ble_eq_true rfl⟩) hK hP hD hS hA rfl hl.1 rfl (Nat.le_of_ble_eq_true rfl) dX3_open_2 ⟨Nat.le_of_ble_eq_true rfl, Nat.le_of_ble_eq_true rfl⟩ (fun r_3 u_2 H locs hw hP hD hS => ?_)
  obtain ⟨hr_3, hu_2⟩ := hw
  rw [hu_2] at hP hD
  refine q_top (x' := (nI 0)) hr_3 ?_
  refine lv_iconst (v := nI 1) hx hb dX3_open_5 (by decide) ?_
  refine g_calli (As := [.int (nI 0), .int (nI 1)]) (rest := []) ⟨hx, hb, hml, hown, hts⟩ (c_X3_goes l D E tl y (nI 0) (nI 1)) (cwV 2 hts gX3_open_X3_goes rfl rfl rfl (by decide +kernel) ⟨Nat.le_of_ble_eq_true rfl, Nat.le_of_ble_eq_true rfl⟩) (m_recv hK hP) hK hP hD hS hA rfl hl.1 rfl (Nat.le_of_ble_eq_true rfl) dX3_open_6 ⟨Nat.le_of_ble_eq_true rfl, Nat.le_of_ble_eq_true rfl⟩ (fun r_6 u_5 H locs hw hP hD hS => ?_)
  obtain ⟨hr_6, hu_5⟩ := hw
  rw [hu_5] at hP hD
  rw [show mGt (nI 0) (nI 1) = nI 1 from by decide] at hP hD
  refine q_top (x' := (nI 0)) (hr_6.trans (by decide)) ?_
  refine q_if_ne (tgt := 14) hx hb (by omega) dX3_open_9 (by decide) (fun c_7 => absurd c_7 (by decide)) (fun c_7 => ?_)
  refine lv_iconst (v := nI 0) hx hb dX3_open_12 (by decide) ?_
  exact W.iret hx hb hr (fun t ht hW => ⟨⟨_, up2 y 18 0 (nI 1), rfl, rfl, by rw [ht]; exact hP, va_K.moved hW.alike hK, hD⟩, hS.F ht⟩) hS.2.2 dX3_open_13
end
section
set_option maxHeartbeats 4000000 in
set_option maxRecDepth 100000 in
theorem c_X3_placeInPlan (l : Launch) (D : va_G) (E : mE) (tl : gTy) (y : Nat → Nat → Int32) (v p w : Nat) (hv : v < 8) (hw6 : w ≤ 6) (h7 : y 7 v = nI w)  : gI l yX3_placeInPlan wsX3_placeInPlan ({ frames := 0, cells := 0, slots := 0, locals := 0 } : Room) D (mT E tl) (mW E y) [.ref E.1.1, .int (nI v), .int (nI p)] (fun (r : Int32) (u : Nat → Nat → Int32) => r = mLastP y v p w ∧ u = y) (mW E) 0 0 := by
  refine gM.start (cc := cX3_placeInPlan) (maxL := 5) (ret := (some .int)) (own := RX3) rfl (by decide) rfl (Nat.le_of_ble_eq_true rfl) ?_
  intro pr e s m args below meth c A ls H locs hx hb hml hr hts hown hlocks hname hA hK hP hD hS hl
  replace hl : lv_has ls 5 [(0, .ref E.1.1), (1, .int (nI v)), (2, .int (nI p))] := hl
  have hin : ∀ w ∈ wsX30, w ∈ wsX3_placeInPlan := by decide +kernel
  have k29 := hts (.fieldLink RX3 29 "FairFolioModel" "planned" "[I") (by decide +kernel)
  have k26 := hts (.fieldLink RX3 26 "FairFolioModel" "plan" "[I") (by decide +kernel)
  refine lv_iconst (v := -1) hx hb dX3_placeInPlan_0 (by decide) ?_
  refine lv_istore_n (lv' := [(3, .int (-1)), (0, .ref E.1.1), (1, .int (nI v)), (2, .int (nI p))]) hx hb dX3_placeInPlan_1 rfl hl (by decide) rfl (fun ls hl => ?_)
  refine lv_iconst (v := nI 0) hx hb dX3_placeInPlan_2 (by decide) ?_
  refine lv_istore (lv' := [(4, .int (nI 0)), (3, .int (-1)), (0, .ref E.1.1), (1, .int (nI v)), (2, .int (nI p))]) hx hb dX3_placeInPlan_3 hl (by decide) rfl (fun ls hl => ?_)
  obtain ⟨k, hk⟩ : ∃ k : Nat, k = 0 := ⟨_, rfl⟩
  obtain ⟨nn, hn⟩ : ∃ nn : Nat, k + nn = w := ⟨w - 0, by omega⟩
  replace hl : lv_has ls 5 [(4, .int (nI k)), (3, .int (mLastP y v p k)), (0, .ref E.1.1), (1, .int (nI v)), (2, .int (nI p))] := by rw [hk]; exact hl
  clear hk
  induction nn generalizing k H locs ls with
  | zero =>
    obtain rfl : w = k := by omega
    refine lv_iload hx hb dX3_placeInPlan_5 (lv_at hl 0 rfl) ?_
    refine lv_aload_n hx hb dX3_placeInPlan_7 rfl (lv_at hl 2 rfl) ?_
    refine m_get hx hb hts hin hown hK hP 7 (by decide) k29 rfl rfl dX3_placeInPlan_8 ?_
    refine lv_iload_n hx hb dX3_placeInPlan_11 rfl (lv_at hl 3 rfl) ?_
    refine q_ild hx hb hK hP 7 0 rfl rfl v rfl (by omega) (by decide) dX3_placeInPlan_12 ?_
    refine q_top (x' := (nI w)) h7 ?_
    refine q_icmp_ge (tgt := 45) hx hb (by omega) (by omega) dX3_placeInPlan_13 (by decide) (fun c1 => ?_) (fun c1 => absurd c1 (by omega))
    refine lv_iload_n hx hb dX3_placeInPlan_45 rfl (lv_at hl 1 rfl) ?_
    exact W.iret hx hb hr (fun t ht hW => ⟨⟨_, y, rfl, ⟨rfl, rfl⟩, by rw [ht]; exact hP, va_K.moved hW.alike hK, hD⟩, hS.F ht⟩) hS.2.2 dX3_placeInPlan_46
  | succ nn ih =>
    refine lv_iload hx hb dX3_placeInPlan_5 (lv_at hl 0 rfl) ?_
    refine lv_aload_n hx hb dX3_placeInPlan_7 rfl (lv_at hl 2 rfl) ?_
    refine m_get hx hb hts hin hown hK hP 7 (by decide) k29 rfl rfl dX3_placeInPlan_8 ?_
    refine lv_iload_n hx hb dX3_placeInPlan_11 rfl (lv_at hl 3 rfl) ?_
    refine q_ild hx hb hK hP 7 0 rfl rfl v rfl (by omega) (by decide) dX3_placeInPlan_12 ?_
    refine q_top (x' := (nI w)) h7 ?_
    refine q_icmp_ge (tgt := 45) hx hb (by omega) (by omega) dX3_placeInPlan_13 (by decide) (fun c1 => absurd c1 (by omega)) (fun c1 => ?_)
    refine lv_aload_n hx hb dX3_placeInPlan_16 rfl (lv_at hl 2 rfl) ?_
    refine m_get hx hb hts hin hown hK hP 6 (by decide) k26 rfl rfl dX3_placeInPlan_17 ?_
    refine lv_bipush (v := nI 6) hx hb dX3_placeInPlan_20 (by decide) ?_
    refine lv_iload_n hx hb dX3_placeInPlan_22 rfl (lv_at hl 3 rfl) ?_
    refine q_mul hx hb dX3_placeInPlan_23 ?_
    refine lv_iload hx hb dX3_placeInPlan_24 (lv_at hl 0 rfl) ?_
    refine q_add hx hb dX3_placeInPlan_26 ?_
    refine q_ild hx hb hK hP 6 0 rfl rfl ((6 * v) + k) rfl (by omega) (by decide) dX3_placeInPlan_27 ?_
    refine lv_iload_n hx hb dX3_placeInPlan_28 rfl (lv_at hl 4 rfl) ?_
    refine lv_icmp_ne (tgt := 37) hx hb dX3_placeInPlan_29 (by decide) (fun c2 => ?_) (fun c2 => ?_)
    · refine lv_iload_n hx hb dX3_placeInPlan_37 rfl (lv_at hl 1 rfl) ?_
      refine q_top (x' := (mLastP y v p (k + 1))) (by rw [mLastP, if_neg c2]) ?_
      refine lv_istore_n (lv' := [(3, .int (mLastP y v p (k + 1))), (4, .int (nI k)), (0, .ref E.1.1), (1, .int (nI v)), (2, .int (nI p))]) hx hb dX3_placeInPlan_38 rfl hl (by decide) rfl (fun ls hl => ?_)
      refine q_inc (k := 1) (lv' := [(4, .int (nI (k + 1))), (3, .int (mLastP y v p (k + 1))), (0, .ref E.1.1), (1, .int (nI v)), (2, .int (nI p))]) hx hb dX3_placeInPlan_39 hl rfl (by decide) rfl (fun ls hl => ?_)
      refine lv_goto (tgt := 5) hx hb dX3_placeInPlan_42 (by decide) ?_
      apply ih (k := k + 1) (H := H) (locs := locs) (ls := ls)
      all_goals first | omega | assumption
    · refine lv_iload hx hb dX3_placeInPlan_32 (lv_at hl 0 rfl) ?_
      refine lv_goto (tgt := 38) hx hb dX3_placeInPlan_34 (by decide) ?_
      refine q_top (x' := (mLastP y v p (k + 1))) (by rw [mLastP, if_pos c2]) ?_
      refine lv_istore_n (lv' := [(3, .int (mLastP y v p (k + 1))), (4, .int (nI k)), (0, .ref E.1.1), (1, .int (nI v)), (2, .int (nI p))]) hx hb dX3_placeInPlan_38 rfl hl (by decide) rfl (fun ls hl => ?_)
      refine q_inc (k := 1) (lv' := [(4, .int (nI (k + 1))), (3, .int (mLastP y v p (k + 1))), (0, .ref E.1.1), (1, .int (nI v)), (2, .int (nI p))]) hx hb dX3_placeInPlan_39 hl rfl (by decide) rfl (fun ls hl => ?_)
      refine lv_goto (tgt := 5) hx hb dX3_placeInPlan_42 (by decide) ?_
      apply ih (k := k + 1) (H := H) (locs := locs) (ls := ls)
      all_goals first | omega | assumption

theorem mLastP_18 (y : Nat → Nat → Int32) (v p w : Nat) (t : Int32) : mLastP (up2 y 18 0 t) v p w = mLastP y v p w := by
  induction w with
  | zero => rfl
  | succ w ih =>
    rw [mLastP, mLastP, ih]
    rfl

set_option maxHeartbeats 4000000 in
set_option maxRecDepth 100000 in
theorem c_X3_plan (l : Launch) (D : va_G) (E : mE) (tl : gTy) (y : Nat → Nat → Int32) (v p w : Nat) (hv : v < 8) (hp : p < 6) (hw5 : w ≤ 5) (h7 : y 7 v = nI w) (hla : mLastP y v p w = -1)  : gI l yX3_plan wsX3_plan ({ frames := 1, cells := 0, slots := 0, locals := 24 } : Room) D (mT E tl) (mW E y) [.ref E.1.1, .int (nI v), .int (nI p)] (fun (r : Int32) (u : Nat → Nat → Int32) => r = nI (w + 1) ∧ u = up2 (up2 (up2 y 18 0 (nI 0)) 6 (6 * v + w) (nI p)) 7 v (nI (w + 1))) (mW E) 0 0 := by
  refine gM.start (cc := cX3_plan) (maxL := 4) (ret := (some .int)) (own := RX3) rfl (by decide) rfl (Nat.le_of_ble_eq_true rfl) ?_
  intro pr e s m args below meth c A ls H locs hx hb hml hr hts hown hlocks hname hA hK hP hD hS hl
  replace hl : lv_has ls 4 [(0, .ref E.1.1), (1, .int (nI v)), (2, .int (nI p))] := hl
  have hin : ∀ w ∈ wsX30, w ∈ wsX3_plan := by decide +kernel
  have k26 := hts (.fieldLink RX3 26 "FairFolioModel" "plan" "[I") (by decide +kernel)
  have k29 := hts (.fieldLink RX3 29 "FairFolioModel" "planned" "[I") (by decide +kernel)
  refine lv_iload_n hx hb dX3_plan_0 rfl (lv_at hl 1 rfl) ?_
  refine g_scalli (As := [.int (nI v)]) (rest := []) ⟨hx, hb, hml, hown, hts⟩ (c_X3_isVisitor_y l D E tl y v hv) (va_cwS 1 hts gX3_plan_X3_isVisitor rfl rfl rfl (by decide +kernel) ⟨Nat.le_of_ble_eq_true rfl, Nat.le_of_ble_eq_true rfl⟩) hK hP hD hS hA rfl hl.1 rfl (Nat.le_of_ble_eq_true rfl) dX3_plan_1 ⟨Nat.le_of_ble_eq_true rfl, Nat.le_of_ble_eq_true rfl⟩ (fun r_3 u_2 H locs hw hP hD hS => ?_)
  obtain ⟨hr_3, hu_2⟩ := hw
  rw [hu_2] at hP hD
  refine q_top (x' := (nI 1)) hr_3 ?_
  refine q_if_eq (tgt := 18) hx hb (by omega) dX3_plan_4 (by decide) (fun c_4 => absurd c_4 (by decide)) (fun c_4 => ?_)
  refine lv_iload_n hx hb dX3_plan_7 rfl (lv_at hl 2 rfl) ?_
  refine g_scalli (As := [.int (nI p)]) (rest := []) ⟨hx, hb, hml, hown, hts⟩ (c_X3_isPavilion_y l D E tl y p hp) (va_cwS 1 hts gX3_plan_X3_isPavilion rfl rfl rfl (by decide +kernel) ⟨Nat.le_of_ble_eq_true rfl, Nat.le_of_ble_eq_true rfl⟩) hK hP hD hS hA rfl hl.1 rfl (Nat.le_of_ble_eq_true rfl) dX3_plan_8 ⟨Nat.le_of_ble_eq_true rfl, Nat.le_of_ble_eq_true rfl⟩ (fun r_7 u_6 H locs hw hP hD hS => ?_)
  obtain ⟨hr_7, hu_6⟩ := hw
  rw [hu_6] at hP hD
  refine q_top (x' := (nI 1)) hr_7 ?_
  refine q_if_eq (tgt := 18) hx hb (by omega) dX3_plan_11 (by decide) (fun c_8 => absurd c_8 (by decide)) (fun c_8 => ?_)
  refine lv_iconst (v := nI 1) hx hb dX3_plan_14 (by decide) ?_
  refine lv_goto (tgt := 19) hx hb dX3_plan_15 (by decide) ?_
  refine lv_istore_n (lv' := [(3, .int (nI 1)), (0, .ref E.1.1), (1, .int (nI v)), (2, .int (nI p))]) hx hb dX3_plan_19 rfl hl (by decide) rfl (fun ls hl => ?_)
  refine lv_aload_n hx hb dX3_plan_20 rfl (lv_at hl 1 rfl) ?_
  refine lv_iload_n hx hb dX3_plan_21 rfl (lv_at hl 0 rfl) ?_
  refine lv_iload_n hx hb dX3_plan_22 rfl (lv_at hl 0 rfl) ?_
  refine q_if_eq (tgt := 39) hx hb (by omega) dX3_plan_23 (by decide) (fun c_9 => absurd c_9 (by decide)) (fun c_9 => ?_)
  refine lv_aload_n hx hb dX3_plan_26 rfl (lv_at hl 1 rfl) ?_
  refine lv_iload_n hx hb dX3_plan_27 rfl (lv_at hl 2 rfl) ?_
  refine lv_iload_n hx hb dX3_plan_28 rfl (lv_at hl 3 rfl) ?_
  refine g_calli (As := [.int (nI v), .int (nI p)]) (rest := [.int (nI 1), .ref E.1.1]) ⟨hx, hb, hml, hown, hts⟩ (c_X3_placeInPlan l D E tl y v p w hv (by omega) h7) (cwV 2 hts gX3_plan_X3_placeInPlan rfl rfl rfl (by decide +kernel) ⟨Nat.le_of_ble_eq_true rfl, Nat.le_of_ble_eq_true rfl⟩) (m_recv hK hP) hK hP hD hS hA rfl hl.1 rfl (Nat.le_of_ble_eq_true rfl) dX3_plan_29 ⟨Nat.le_of_ble_eq_true rfl, Nat.le_of_ble_eq_true rfl⟩ (fun r_12 u_11 H locs hw hP hD hS => ?_)
  obtain ⟨hr_12, hu_11⟩ := hw
  rw [hu_11] at hP hD
  refine q_top (x' := (-1)) (hr_12.trans hla) ?_
  refine lv_if_ge (tgt := 39) hx hb dX3_plan_32 (by decide) (fun c7 => absurd c7 (by decide)) (fun c7 => ?_)
  refine lv_iconst (v := nI 1) hx hb dX3_plan_35 (by decide) ?_
  refine lv_goto (tgt := 40) hx hb dX3_plan_36 (by decide) ?_
  refine g_calli (As := [.int (nI 1), .int (nI 1)]) (rest := []) ⟨hx, hb, hml, hown, hts⟩ (c_X3_goes l D E tl y (nI 1) (nI 1)) (cwV 2 hts gX3_plan_X3_goes rfl rfl rfl (by decide +kernel) ⟨Nat.le_of_ble_eq_true rfl, Nat.le_of_ble_eq_true rfl⟩) (m_recv hK hP) hK hP hD hS hA rfl hl.1 rfl (Nat.le_of_ble_eq_true rfl) dX3_plan_40 ⟨Nat.le_of_ble_eq_true rfl, Nat.le_of_ble_eq_true rfl⟩ (fun r_15 u_14 H locs hw hP hD hS => ?_)
  obtain ⟨hr_15, hu_14⟩ := hw
  rw [hu_14] at hP hD
  rw [show mGt (nI 1) (nI 1) = nI 0 from by decide] at hP hD
  refine q_top (x' := (nI 1)) (hr_15.trans (by decide)) ?_
  refine q_if_ne (tgt := 48) hx hb (by omega) dX3_plan_43 (by decide) (fun c_16 => ?_) (fun c_16 => absurd c_16 (by decide))
  refine lv_aload_n hx hb dX3_plan_48 rfl (lv_at hl 1 rfl) ?_
  refine m_get hx hb hts hin hown hK hP 6 (by decide) k26 rfl rfl dX3_plan_49 ?_
  refine lv_bipush (v := nI 6) hx hb dX3_plan_52 (by decide) ?_
  refine lv_iload_n hx hb dX3_plan_54 rfl (lv_at hl 2 rfl) ?_
  refine q_mul hx hb dX3_plan_55 ?_
  refine lv_aload_n hx hb dX3_plan_56 rfl (lv_at hl 1 rfl) ?_
  refine m_get hx hb hts hin hown hK hP 7 (by decide) k29 rfl rfl dX3_plan_57 ?_
  refine lv_iload_n hx hb dX3_plan_60 rfl (lv_at hl 2 rfl) ?_
  refine q_ild hx hb hK hP 7 0 rfl rfl v rfl (by omega) (by decide) dX3_plan_61 ?_
  refine q_top (x' := (nI w)) h7 ?_
  refine q_add hx hb dX3_plan_62 ?_
  refine lv_iload_n hx hb dX3_plan_63 rfl (lv_at hl 3 rfl) ?_
  refine q_ist hx hb hK hP hD hS 6 0 rfl rfl ((6 * v) + w) rfl (by omega) (by decide) dX3_plan_64 (fun H locs hP hD hS => ?_)
  replace hP : va_P D vwCl (mW E (up2 (up2 y 18 0 (nI 0)) 6 ((6 * v) + w) (nI p))) H := hP
  replace hD : va_D A (mW E (up2 (up2 y 18 0 (nI 0)) 6 ((6 * v) + w) (nI p))) := hD
  refine lv_aload_n hx hb dX3_plan_65 rfl (lv_at hl 1 rfl) ?_
  refine m_get hx hb hts hin hown hK hP 7 (by decide) k29 rfl rfl dX3_plan_66 ?_
  refine lv_iload_n hx hb dX3_plan_69 rfl (lv_at hl 2 rfl) ?_
  refine lv_dup2_11 hx hb dX3_plan_70 rfl rfl ?_
  refine q_ild hx hb hK hP 7 0 rfl rfl v rfl (by omega) (by decide) dX3_plan_71 ?_
  refine q_top (x' := (nI w)) h7 ?_
  refine lv_iconst (v := nI 1) hx hb dX3_plan_72 (by decide) ?_
  refine q_add hx hb dX3_plan_73 ?_
  refine q_ist hx hb hK hP hD hS 7 0 rfl rfl v rfl (by omega) (by decide) dX3_plan_74 (fun H locs hP hD hS => ?_)
  replace hP : va_P D vwCl (mW E (up2 (up2 (up2 y 18 0 (nI 0)) 6 ((6 * v) + w) (nI p)) 7 v (nI (w + 1)))) H := hP
  replace hD : va_D A (mW E (up2 (up2 (up2 y 18 0 (nI 0)) 6 ((6 * v) + w) (nI p)) 7 v (nI (w + 1)))) := hD
  refine lv_aload_n hx hb dX3_plan_75 rfl (lv_at hl 1 rfl) ?_
  refine m_get hx hb hts hin hown hK hP 7 (by decide) k29 rfl rfl dX3_plan_76 ?_
  refine lv_iload_n hx hb dX3_plan_79 rfl (lv_at hl 2 rfl) ?_
  refine q_ild hx hb hK hP 7 0 rfl rfl v rfl (by omega) (by decide) dX3_plan_80 ?_
  refine q_top (x' := (nI (w + 1))) (up2_s _ _ _ _) ?_
  exact W.iret hx hb hr (fun t ht hW => ⟨⟨_, up2 (up2 (up2 y 18 0 (nI 0)) 6 ((6 * v) + w) (nI p)) 7 v (nI (w + 1)), rfl, ⟨rfl, rfl⟩, by rw [ht]; exact hP, va_K.moved hW.alike hK, hD⟩, hS.F ht⟩) hS.2.2 dX3_plan_81

set_option maxHeartbeats 4000000 in
set_option maxRecDepth 100000 in
theorem c_X3_plan_b (l : Launch) (D : va_G) (E : mE) (tl : gTy) (y : Nat → Nat → Int32) (v p w a : Nat) (hv : v < 8) (hp : p < 6) (hw6 : w ≤ 6) (ha : a < w) (h7 : y 7 v = nI w) (hla : mLastP y v p w = nI a)  : gI l yX3_plan wsX3_plan ({ frames := 1, cells := 0, slots := 0, locals := 24 } : Room) D (mT E tl) (mW E y) [.ref E.1.1, .int (nI v), .int (nI p)] (fun (r : Int32) (u : Nat → Nat → Int32) => u = up2 y 18 0 (nI 2)) (mW E) 0 0 := by
  refine gM.start (cc := cX3_plan) (maxL := 4) (ret := (some .int)) (own := RX3) rfl (by decide) rfl (Nat.le_of_ble_eq_true rfl) ?_
  intro pr e s m args below meth c A ls H locs hx hb hml hr hts hown hlocks hname hA hK hP hD hS hl
  replace hl : lv_has ls 4 [(0, .ref E.1.1), (1, .int (nI v)), (2, .int (nI p))] := hl
  refine lv_iload_n hx hb dX3_plan_0 rfl (lv_at hl 1 rfl) ?_
  refine g_scalli (As := [.int (nI v)]) (rest := []) ⟨hx, hb, hml, hown, hts⟩ (c_X3_isVisitor_y l D E tl y v hv) (va_cwS 1 hts gX3_plan_X3_isVisitor rfl rfl rfl (by decide +kernel) ⟨Nat.le_of_ble_eq_true rfl, Nat.le_of_ble_eq_true rfl⟩) hK hP hD hS hA rfl hl.1 rfl (Nat.le_of_ble_eq_true rfl) dX3_plan_1 ⟨Nat.le_of_ble_eq_true rfl, Nat.le_of_ble_eq_true rfl⟩ (fun r_3 u_2 H locs hw hP hD hS => ?_)
  obtain ⟨hr_3, hu_2⟩ := hw
  rw [hu_2] at hP hD
  refine q_top (x' := (nI 1)) hr_3 ?_
  refine q_if_eq (tgt := 18) hx hb (by omega) dX3_plan_4 (by decide) (fun c_4 => absurd c_4 (by decide)) (fun c_4 => ?_)
  refine lv_iload_n hx hb dX3_plan_7 rfl (lv_at hl 2 rfl) ?_
  refine g_scalli (As := [.int (nI p)]) (rest := []) ⟨hx, hb, hml, hown, hts⟩ (c_X3_isPavilion_y l D E tl y p hp) (va_cwS 1 hts gX3_plan_X3_isPavilion rfl rfl rfl (by decide +kernel) ⟨Nat.le_of_ble_eq_true rfl, Nat.le_of_ble_eq_true rfl⟩) hK hP hD hS hA rfl hl.1 rfl (Nat.le_of_ble_eq_true rfl) dX3_plan_8 ⟨Nat.le_of_ble_eq_true rfl, Nat.le_of_ble_eq_true rfl⟩ (fun r_7 u_6 H locs hw hP hD hS => ?_)
  obtain ⟨hr_7, hu_6⟩ := hw
  rw [hu_6] at hP hD
  refine q_top (x' := (nI 1)) hr_7 ?_
  refine q_if_eq (tgt := 18) hx hb (by omega) dX3_plan_11 (by decide) (fun c_8 => absurd c_8 (by decide)) (fun c_8 => ?_)
  refine lv_iconst (v := nI 1) hx hb dX3_plan_14 (by decide) ?_
  refine lv_goto (tgt := 19) hx hb dX3_plan_15 (by decide) ?_
  refine lv_istore_n (lv' := [(3, .int (nI 1)), (0, .ref E.1.1), (1, .int (nI v)), (2, .int (nI p))]) hx hb dX3_plan_19 rfl hl (by decide) rfl (fun ls hl => ?_)
  refine lv_aload_n hx hb dX3_plan_20 rfl (lv_at hl 1 rfl) ?_
  refine lv_iload_n hx hb dX3_plan_21 rfl (lv_at hl 0 rfl) ?_
  refine lv_iload_n hx hb dX3_plan_22 rfl (lv_at hl 0 rfl) ?_
  refine q_if_eq (tgt := 39) hx hb (by omega) dX3_plan_23 (by decide) (fun c_9 => absurd c_9 (by decide)) (fun c_9 => ?_)
  refine lv_aload_n hx hb dX3_plan_26 rfl (lv_at hl 1 rfl) ?_
  refine lv_iload_n hx hb dX3_plan_27 rfl (lv_at hl 2 rfl) ?_
  refine lv_iload_n hx hb dX3_plan_28 rfl (lv_at hl 3 rfl) ?_
  refine g_calli (As := [.int (nI v), .int (nI p)]) (rest := [.int (nI 1), .ref E.1.1]) ⟨hx, hb, hml, hown, hts⟩ (c_X3_placeInPlan l D E tl y v p w hv hw6 h7) (cwV 2 hts gX3_plan_X3_placeInPlan rfl rfl rfl (by decide +kernel) ⟨Nat.le_of_ble_eq_true rfl, Nat.le_of_ble_eq_true rfl⟩) (m_recv hK hP) hK hP hD hS hA rfl hl.1 rfl (Nat.le_of_ble_eq_true rfl) dX3_plan_29 ⟨Nat.le_of_ble_eq_true rfl, Nat.le_of_ble_eq_true rfl⟩ (fun r_12 u_11 H locs hw hP hD hS => ?_)
  obtain ⟨hr_12, hu_11⟩ := hw
  rw [hu_11] at hP hD
  refine q_top (x' := (nI a)) (hr_12.trans hla) ?_
  refine q_if_ge (tgt := 39) hx hb (by omega) dX3_plan_32 (by decide) (fun c7 => ?_) (fun c7 => c7.elim)
  refine lv_iconst (v := nI 0) hx hb dX3_plan_39 (by decide) ?_
  refine g_calli (As := [.int (nI 1), .int (nI 0)]) (rest := []) ⟨hx, hb, hml, hown, hts⟩ (c_X3_goes l D E tl y (nI 1) (nI 0)) (cwV 2 hts gX3_plan_X3_goes rfl rfl rfl (by decide +kernel) ⟨Nat.le_of_ble_eq_true rfl, Nat.le_of_ble_eq_true rfl⟩) (m_recv hK hP) hK hP hD hS hA rfl hl.1 rfl (Nat.le_of_ble_eq_true rfl) dX3_plan_40 ⟨Nat.le_of_ble_eq_true rfl, Nat.le_of_ble_eq_true rfl⟩ (fun r_15 u_14 H locs hw hP hD hS => ?_)
  obtain ⟨hr_15, hu_14⟩ := hw
  rw [hu_14] at hP hD
  rw [show mGt (nI 1) (nI 0) = nI 2 from by decide] at hP hD
  refine q_top (x' := (nI 0)) (hr_15.trans (by decide)) ?_
  refine q_if_ne (tgt := 48) hx hb (by omega) dX3_plan_43 (by decide) (fun c_16 => absurd c_16 (by decide)) (fun c_16 => ?_)
  refine lv_iconst (v := nI 0) hx hb dX3_plan_46 (by decide) ?_
  exact W.iret hx hb hr (fun t ht hW => ⟨⟨_, up2 y 18 0 (nI 2), rfl, rfl, by rw [ht]; exact hP, va_K.moved hW.alike hK, hD⟩, hS.F ht⟩) hS.2.2 dX3_plan_47

set_option maxHeartbeats 4000000 in
set_option maxRecDepth 100000 in
theorem c_X3_plan_nv (l : Launch) (D : va_G) (E : mE) (tl : gTy) (y : Nat → Nat → Int32) (v p : Int32) (hv : v < 0 ∨ nI 8 ≤ v)  : gI l yX3_plan wsX3_plan ({ frames := 1, cells := 0, slots := 0, locals := 24 } : Room) D (mT E tl) (mW E y) [.ref E.1.1, .int v, .int p] (fun (r : Int32) (u : Nat → Nat → Int32) => u = up2 y 18 0 (nI 1)) (mW E) 0 0 := by
  refine gM.start (cc := cX3_plan) (maxL := 4) (ret := (some .int)) (own := RX3) rfl (by decide) rfl (Nat.le_of_ble_eq_true rfl) ?_
  intro pr e s m args below meth c A ls H locs hx hb hml hr hts hown hlocks hname hA hK hP hD hS hl
  replace hl : lv_has ls 4 [(0, .ref E.1.1), (1, .int v), (2, .int p)] := hl
  refine lv_iload_n hx hb dX3_plan_0 rfl (lv_at hl 1 rfl) ?_
  refine g_scalli (As := [.int v]) (rest := []) ⟨hx, hb, hml, hown, hts⟩ (c_X3_isVisitor_n l D E tl y v hv) (va_cwS 1 hts gX3_plan_X3_isVisitor rfl rfl rfl (by decide +kernel) ⟨Nat.le_of_ble_eq_true rfl, Nat.le_of_ble_eq_true rfl⟩) hK hP hD hS hA rfl hl.1 rfl (Nat.le_of_ble_eq_true rfl) dX3_plan_1 ⟨Nat.le_of_ble_eq_true rfl, Nat.le_of_ble_eq_true rfl⟩ (fun r_3 u_2 H locs hw hP hD hS => ?_)
  obtain ⟨hr_3, hu_2⟩ := hw
  rw [hu_2] at hP hD
  refine q_top (x' := (nI 0)) hr_3 ?_
  refine q_if_eq (tgt := 18) hx hb (by omega) dX3_plan_4 (by decide) (fun c_4 => ?_) (fun c_4 => absurd c_4 (by decide))
  refine lv_iconst (v := nI 0) hx hb dX3_plan_18 (by decide) ?_
  refine lv_istore_n (lv' := [(3, .int (nI 0)), (0, .ref E.1.1), (1, .int v), (2, .int p)]) hx hb dX3_plan_19 rfl hl (by decide) rfl (fun ls hl => ?_)
  refine lv_aload_n hx hb dX3_plan_20 rfl (lv_at hl 1 rfl) ?_
  refine lv_iload_n hx hb dX3_plan_21 rfl (lv_at hl 0 rfl) ?_
  refine lv_iload_n hx hb dX3_plan_22 rfl (lv_at hl 0 rfl) ?_
  refine q_if_eq (tgt := 39) hx hb (by omega) dX3_plan_23 (by decide) (fun c_5 => ?_) (fun c_5 => absurd c_5 (by decide))
  refine lv_iconst (v := nI 0) hx hb dX3_plan_39 (by decide) ?_
  refine g_calli (As := [.int (nI 0), .int (nI 0)]) (rest := []) ⟨hx, hb, hml, hown, hts⟩ (c_X3_goes l D E tl y (nI 0) (nI 0)) (cwV 2 hts gX3_plan_X3_goes rfl rfl rfl (by decide +kernel) ⟨Nat.le_of_ble_eq_true rfl, Nat.le_of_ble_eq_true rfl⟩) (m_recv hK hP) hK hP hD hS hA rfl hl.1 rfl (Nat.le_of_ble_eq_true rfl) dX3_plan_40 ⟨Nat.le_of_ble_eq_true rfl, Nat.le_of_ble_eq_true rfl⟩ (fun r_8 u_7 H locs hw hP hD hS => ?_)
  obtain ⟨hr_8, hu_7⟩ := hw
  rw [hu_7] at hP hD
  rw [show mGt (nI 0) (nI 0) = nI 1 from by decide] at hP hD
  refine q_top (x' := (nI 0)) (hr_8.trans (by decide)) ?_
  refine q_if_ne (tgt := 48) hx hb (by omega) dX3_plan_43 (by decide) (fun c_9 => absurd c_9 (by decide)) (fun c_9 => ?_)
  refine lv_iconst (v := nI 0) hx hb dX3_plan_46 (by decide) ?_
  exact W.iret hx hb hr (fun t ht hW => ⟨⟨_, up2 y 18 0 (nI 1), rfl, rfl, by rw [ht]; exact hP, va_K.moved hW.alike hK, hD⟩, hS.F ht⟩) hS.2.2 dX3_plan_47

set_option maxHeartbeats 4000000 in
set_option maxRecDepth 100000 in
theorem c_X3_plan_np (l : Launch) (D : va_G) (E : mE) (tl : gTy) (y : Nat → Nat → Int32) (v : Nat) (p : Int32) (hv : v < 8) (hp : p < 0 ∨ nI 6 ≤ p)  : gI l yX3_plan wsX3_plan ({ frames := 1, cells := 0, slots := 0, locals := 24 } : Room) D (mT E tl) (mW E y) [.ref E.1.1, .int (nI v), .int p] (fun (r : Int32) (u : Nat → Nat → Int32) => u = up2 y 18 0 (nI 1)) (mW E) 0 0 := by
  refine gM.start (cc := cX3_plan) (maxL := 4) (ret := (some .int)) (own := RX3) rfl (by decide) rfl (Nat.le_of_ble_eq_true rfl) ?_
  intro pr e s m args below meth c A ls H locs hx hb hml hr hts hown hlocks hname hA hK hP hD hS hl
  replace hl : lv_has ls 4 [(0, .ref E.1.1), (1, .int (nI v)), (2, .int p)] := hl
  refine lv_iload_n hx hb dX3_plan_0 rfl (lv_at hl 1 rfl) ?_
  refine g_scalli (As := [.int (nI v)]) (rest := []) ⟨hx, hb, hml, hown, hts⟩ (c_X3_isVisitor_y l D E tl y v hv) (va_cwS 1 hts gX3_plan_X3_isVisitor rfl rfl rfl (by decide +kernel) ⟨Nat.le_of_ble_eq_true rfl, Nat.le_of_ble_eq_true rfl⟩) hK hP hD hS hA rfl hl.1 rfl (Nat.le_of_ble_eq_true rfl) dX3_plan_1 ⟨Nat.le_of_ble_eq_true rfl, Nat.le_of_ble_eq_true rfl⟩ (fun r_3 u_2 H locs hw hP hD hS => ?_)
  obtain ⟨hr_3, hu_2⟩ := hw
  rw [hu_2] at hP hD
  refine q_top (x' := (nI 1)) hr_3 ?_
  refine q_if_eq (tgt := 18) hx hb (by omega) dX3_plan_4 (by decide) (fun c_4 => absurd c_4 (by decide)) (fun c_4 => ?_)
  refine lv_iload_n hx hb dX3_plan_7 rfl (lv_at hl 2 rfl) ?_
  refine g_scalli (As := [.int p]) (rest := []) ⟨hx, hb, hml, hown, hts⟩ (c_X3_isPavilion_n l D E tl y p hp) (va_cwS 1 hts gX3_plan_X3_isPavilion rfl rfl rfl (by decide +kernel) ⟨Nat.le_of_ble_eq_true rfl, Nat.le_of_ble_eq_true rfl⟩) hK hP hD hS hA rfl hl.1 rfl (Nat.le_of_ble_eq_true rfl) dX3_plan_8 ⟨Nat.le_of_ble_eq_true rfl, Nat.le_of_ble_eq_true rfl⟩ (fun r_7 u_6 H locs hw hP hD hS => ?_)
  obtain ⟨hr_7, hu_6⟩ := hw
  rw [hu_6] at hP hD
  refine q_top (x' := (nI 0)) hr_7 ?_
  refine q_if_eq (tgt := 18) hx hb (by omega) dX3_plan_11 (by decide) (fun c_8 => ?_) (fun c_8 => absurd c_8 (by decide))
  refine lv_iconst (v := nI 0) hx hb dX3_plan_18 (by decide) ?_
  refine lv_istore_n (lv' := [(3, .int (nI 0)), (0, .ref E.1.1), (1, .int (nI v)), (2, .int p)]) hx hb dX3_plan_19 rfl hl (by decide) rfl (fun ls hl => ?_)
  refine lv_aload_n hx hb dX3_plan_20 rfl (lv_at hl 1 rfl) ?_
  refine lv_iload_n hx hb dX3_plan_21 rfl (lv_at hl 0 rfl) ?_
  refine lv_iload_n hx hb dX3_plan_22 rfl (lv_at hl 0 rfl) ?_
  refine q_if_eq (tgt := 39) hx hb (by omega) dX3_plan_23 (by decide) (fun c_9 => ?_) (fun c_9 => absurd c_9 (by decide))
  refine lv_iconst (v := nI 0) hx hb dX3_plan_39 (by decide) ?_
  refine g_calli (As := [.int (nI 0), .int (nI 0)]) (rest := []) ⟨hx, hb, hml, hown, hts⟩ (c_X3_goes l D E tl y (nI 0) (nI 0)) (cwV 2 hts gX3_plan_X3_goes rfl rfl rfl (by decide +kernel) ⟨Nat.le_of_ble_eq_true rfl, Nat.le_of_ble_eq_true rfl⟩) (m_recv hK hP) hK hP hD hS hA rfl hl.1 rfl (Nat.le_of_ble_eq_true rfl) dX3_plan_40 ⟨Nat.le_of_ble_eq_true rfl, Nat.le_of_ble_eq_true rfl⟩ (fun r_12 u_11 H locs hw hP hD hS => ?_)
  obtain ⟨hr_12, hu_11⟩ := hw
  rw [hu_11] at hP hD
  rw [show mGt (nI 0) (nI 0) = nI 1 from by decide] at hP hD
  refine q_top (x' := (nI 0)) (hr_12.trans (by decide)) ?_
  refine q_if_ne (tgt := 48) hx hb (by omega) dX3_plan_43 (by decide) (fun c_13 => absurd c_13 (by decide)) (fun c_13 => ?_)
  refine lv_iconst (v := nI 0) hx hb dX3_plan_46 (by decide) ?_
  exact W.iret hx hb hr (fun t ht hW => ⟨⟨_, up2 y 18 0 (nI 1), rfl, rfl, by rw [ht]; exact hP, va_K.moved hW.alike hK, hD⟩, hS.F ht⟩) hS.2.2 dX3_plan_47

set_option maxHeartbeats 4000000 in
set_option maxRecDepth 100000 in
theorem c_X3_drop_b (l : Launch) (D : va_G) (E : mE) (tl : gTy) (y : Nat → Nat → Int32) (v p w : Nat) (hv : v < 8) (hp : p < 6) (hw6 : w ≤ 6) (h7 : y 7 v = nI w) (hla : mLastP y v p w = -1)  : gI l yX3_drop wsX3_drop ({ frames := 1, cells := 0, slots := 0, locals := 24 } : Room) D (mT E tl) (mW E y) [.ref E.1.1, .int (nI v), .int (nI p)] (fun (r : Int32) (u : Nat → Nat → Int32) => u = up2 y 18 0 (nI 2)) (mW E) 0 0 := by
  refine gM.start (cc := cX3_drop) (maxL := 6) (ret := (some .int)) (own := RX3) rfl (by decide) rfl (Nat.le_of_ble_eq_true rfl) ?_
  intro pr e s m args below meth c A ls H locs hx hb hml hr hts hown hlocks hname hA hK hP hD hS hl
  replace hl : lv_has ls 6 [(0, .ref E.1.1), (1, .int (nI v)), (2, .int (nI p))] := hl
  refine lv_iload_n hx hb dX3_drop_0 rfl (lv_at hl 1 rfl) ?_
  refine g_scalli (As := [.int (nI v)]) (rest := []) ⟨hx, hb, hml, hown, hts⟩ (c_X3_isVisitor_y l D E tl y v hv) (va_cwS 1 hts gX3_drop_X3_isVisitor rfl rfl rfl (by decide +kernel) ⟨Nat.le_of_ble_eq_true rfl, Nat.le_of_ble_eq_true rfl⟩) hK hP hD hS hA rfl hl.1 rfl (Nat.le_of_ble_eq_true rfl) dX3_drop_1 ⟨Nat.le_of_ble_eq_true rfl, Nat.le_of_ble_eq_true rfl⟩ (fun r_3 u_2 H locs hw hP hD hS => ?_)
  obtain ⟨hr_3, hu_2⟩ := hw
  rw [hu_2] at hP hD
  refine q_top (x' := (nI 1)) hr_3 ?_
  refine q_if_eq (tgt := 18) hx hb (by omega) dX3_drop_4 (by decide) (fun c_4 => absurd c_4 (by decide)) (fun c_4 => ?_)
  refine lv_iload_n hx hb dX3_drop_7 rfl (lv_at hl 2 rfl) ?_
  refine g_scalli (As := [.int (nI p)]) (rest := []) ⟨hx, hb, hml, hown, hts⟩ (c_X3_isPavilion_y l D E tl y p hp) (va_cwS 1 hts gX3_drop_X3_isPavilion rfl rfl rfl (by decide +kernel) ⟨Nat.le_of_ble_eq_true rfl, Nat.le_of_ble_eq_true rfl⟩) hK hP hD hS hA rfl hl.1 rfl (Nat.le_of_ble_eq_true rfl) dX3_drop_8 ⟨Nat.le_of_ble_eq_true rfl, Nat.le_of_ble_eq_true rfl⟩ (fun r_7 u_6 H locs hw hP hD hS => ?_)
  obtain ⟨hr_7, hu_6⟩ := hw
  rw [hu_6] at hP hD
  refine q_top (x' := (nI 1)) hr_7 ?_
  refine q_if_eq (tgt := 18) hx hb (by omega) dX3_drop_11 (by decide) (fun c_8 => absurd c_8 (by decide)) (fun c_8 => ?_)
  refine lv_iconst (v := nI 1) hx hb dX3_drop_14 (by decide) ?_
  refine lv_goto (tgt := 19) hx hb dX3_drop_15 (by decide) ?_
  refine lv_istore_n (lv' := [(3, .int (nI 1)), (0, .ref E.1.1), (1, .int (nI v)), (2, .int (nI p))]) hx hb dX3_drop_19 rfl hl (by decide) rfl (fun ls hl => ?_)
  refine lv_aload_n hx hb dX3_drop_20 rfl (lv_at hl 1 rfl) ?_
  refine lv_iload_n hx hb dX3_drop_21 rfl (lv_at hl 0 rfl) ?_
  refine lv_iload_n hx hb dX3_drop_22 rfl (lv_at hl 0 rfl) ?_
  refine q_if_eq (tgt := 39) hx hb (by omega) dX3_drop_23 (by decide) (fun c_9 => absurd c_9 (by decide)) (fun c_9 => ?_)
  refine lv_aload_n hx hb dX3_drop_26 rfl (lv_at hl 1 rfl) ?_
  refine lv_iload_n hx hb dX3_drop_27 rfl (lv_at hl 2 rfl) ?_
  refine lv_iload_n hx hb dX3_drop_28 rfl (lv_at hl 3 rfl) ?_
  refine g_calli (As := [.int (nI v), .int (nI p)]) (rest := [.int (nI 1), .ref E.1.1]) ⟨hx, hb, hml, hown, hts⟩ (c_X3_placeInPlan l D E tl y v p w hv hw6 h7) (cwV 2 hts gX3_drop_X3_placeInPlan rfl rfl rfl (by decide +kernel) ⟨Nat.le_of_ble_eq_true rfl, Nat.le_of_ble_eq_true rfl⟩) (m_recv hK hP) hK hP hD hS hA rfl hl.1 rfl (Nat.le_of_ble_eq_true rfl) dX3_drop_29 ⟨Nat.le_of_ble_eq_true rfl, Nat.le_of_ble_eq_true rfl⟩ (fun r_12 u_11 H locs hw hP hD hS => ?_)
  obtain ⟨hr_12, hu_11⟩ := hw
  rw [hu_11] at hP hD
  refine q_top (x' := (-1)) (hr_12.trans hla) ?_
  refine lv_if_lt (tgt := 39) hx hb dX3_drop_32 (by decide) (fun c7 => ?_) (fun c7 => absurd (show (-1 : Int32) < 0 by decide) c7)
  refine lv_iconst (v := nI 0) hx hb dX3_drop_39 (by decide) ?_
  refine g_calli (As := [.int (nI 1), .int (nI 0)]) (rest := []) ⟨hx, hb, hml, hown, hts⟩ (c_X3_goes l D E tl y (nI 1) (nI 0)) (cwV 2 hts gX3_drop_X3_goes rfl rfl rfl (by decide +kernel) ⟨Nat.le_of_ble_eq_true rfl, Nat.le_of_ble_eq_true rfl⟩) (m_recv hK hP) hK hP hD hS hA rfl hl.1 rfl (Nat.le_of_ble_eq_true rfl) dX3_drop_40 ⟨Nat.le_of_ble_eq_true rfl, Nat.le_of_ble_eq_true rfl⟩ (fun r_15 u_14 H locs hw hP hD hS => ?_)
  obtain ⟨hr_15, hu_14⟩ := hw
  rw [hu_14] at hP hD
  rw [show mGt (nI 1) (nI 0) = nI 2 from by decide] at hP hD
  refine q_top (x' := (nI 0)) (hr_15.trans (by decide)) ?_
  refine q_if_ne (tgt := 48) hx hb (by omega) dX3_drop_43 (by decide) (fun c_16 => absurd c_16 (by decide)) (fun c_16 => ?_)
  refine lv_iconst (v := nI 0) hx hb dX3_drop_46 (by decide) ?_
  exact W.iret hx hb hr (fun t ht hW => ⟨⟨_, up2 y 18 0 (nI 2), rfl, rfl, by rw [ht]; exact hP, va_K.moved hW.alike hK, hD⟩, hS.F ht⟩) hS.2.2 dX3_drop_47

set_option maxHeartbeats 4000000 in
set_option maxRecDepth 100000 in
theorem c_X3_drop (l : Launch) (D : va_G) (E : mE) (tl : gTy) (y : Nat → Nat → Int32) (v p w a : Nat) (y1 : Nat → Nat → Int32) (hv : v < 8) (hp : p < 6) (hw6 : w ≤ 6) (ha : a < w) (h7 : y 7 v = nI w) (hla : mLastP y v p w = nI a) (hdr : mDropR (mDs (up2 y 18 0 (nI 0)) v w a (w - 1)) v p w y1)  : gI l yX3_drop wsX3_drop ({ frames := 2, cells := 0, slots := 0, locals := 48 } : Room) D (mT E tl) (mW E y) [.ref E.1.1, .int (nI v), .int (nI p)] (fun (r : Int32) (u : Nat → Nat → Int32) => r = nI (w - 1) ∧ u = y1) (mW E) 0 0 := by
  refine gM.start (cc := cX3_drop) (maxL := 6) (ret := (some .int)) (own := RX3) rfl (by decide) rfl (Nat.le_of_ble_eq_true rfl) ?_
  intro pr e s m args below meth c A ls H locs hx hb hml hr hts hown hlocks hname hA hK hP hD hS hl
  replace hl : lv_has ls 6 [(0, .ref E.1.1), (1, .int (nI v)), (2, .int (nI p))] := hl
  have hin : ∀ w ∈ wsX30, w ∈ wsX3_drop := by decide +kernel
  have k29 := hts (.fieldLink RX3 29 "FairFolioModel" "planned" "[I") (by decide +kernel)
  have k32 := hts (.fieldLink RX3 32 "FairFolioModel" "state" "[I") (by decide +kernel)
  have k35 := hts (.fieldLink RX3 35 "FairFolioModel" "where" "[I") (by decide +kernel)
  have k50 := hts (.fieldLink RX3 50 "FairFolioModel" "isByTurn" "[Z") (by decide +kernel)
  have k26 := hts (.fieldLink RX3 26 "FairFolioModel" "plan" "[I") (by decide +kernel)
  refine lv_iload_n hx hb dX3_drop_0 rfl (lv_at hl 1 rfl) ?_
  refine g_scalli (As := [.int (nI v)]) (rest := []) ⟨hx, hb, hml, hown, hts⟩ (c_X3_isVisitor_y l D E tl y v hv) (va_cwS 1 hts gX3_drop_X3_isVisitor rfl rfl rfl (by decide +kernel) ⟨Nat.le_of_ble_eq_true rfl, Nat.le_of_ble_eq_true rfl⟩) hK hP hD hS hA rfl hl.1 rfl (Nat.le_of_ble_eq_true rfl) dX3_drop_1 ⟨Nat.le_of_ble_eq_true rfl, Nat.le_of_ble_eq_true rfl⟩ (fun r_3 u_2 H locs hw hP hD hS => ?_)
  obtain ⟨hr_3, hu_2⟩ := hw
  rw [hu_2] at hP hD
  refine q_top (x' := (nI 1)) hr_3 ?_
  refine q_if_eq (tgt := 18) hx hb (by omega) dX3_drop_4 (by decide) (fun c_4 => absurd c_4 (by decide)) (fun c_4 => ?_)
  refine lv_iload_n hx hb dX3_drop_7 rfl (lv_at hl 2 rfl) ?_
  refine g_scalli (As := [.int (nI p)]) (rest := []) ⟨hx, hb, hml, hown, hts⟩ (c_X3_isPavilion_y l D E tl y p hp) (va_cwS 1 hts gX3_drop_X3_isPavilion rfl rfl rfl (by decide +kernel) ⟨Nat.le_of_ble_eq_true rfl, Nat.le_of_ble_eq_true rfl⟩) hK hP hD hS hA rfl hl.1 rfl (Nat.le_of_ble_eq_true rfl) dX3_drop_8 ⟨Nat.le_of_ble_eq_true rfl, Nat.le_of_ble_eq_true rfl⟩ (fun r_7 u_6 H locs hw hP hD hS => ?_)
  obtain ⟨hr_7, hu_6⟩ := hw
  rw [hu_6] at hP hD
  refine q_top (x' := (nI 1)) hr_7 ?_
  refine q_if_eq (tgt := 18) hx hb (by omega) dX3_drop_11 (by decide) (fun c_8 => absurd c_8 (by decide)) (fun c_8 => ?_)
  refine lv_iconst (v := nI 1) hx hb dX3_drop_14 (by decide) ?_
  refine lv_goto (tgt := 19) hx hb dX3_drop_15 (by decide) ?_
  refine lv_istore_n (lv' := [(3, .int (nI 1)), (0, .ref E.1.1), (1, .int (nI v)), (2, .int (nI p))]) hx hb dX3_drop_19 rfl hl (by decide) rfl (fun ls hl => ?_)
  refine lv_aload_n hx hb dX3_drop_20 rfl (lv_at hl 1 rfl) ?_
  refine lv_iload_n hx hb dX3_drop_21 rfl (lv_at hl 0 rfl) ?_
  refine lv_iload_n hx hb dX3_drop_22 rfl (lv_at hl 0 rfl) ?_
  refine q_if_eq (tgt := 39) hx hb (by omega) dX3_drop_23 (by decide) (fun c_9 => absurd c_9 (by decide)) (fun c_9 => ?_)
  refine lv_aload_n hx hb dX3_drop_26 rfl (lv_at hl 1 rfl) ?_
  refine lv_iload_n hx hb dX3_drop_27 rfl (lv_at hl 2 rfl) ?_
  refine lv_iload_n hx hb dX3_drop_28 rfl (lv_at hl 3 rfl) ?_
  refine g_calli (As := [.int (nI v), .int (nI p)]) (rest := [.int (nI 1), .ref E.1.1]) ⟨hx, hb, hml, hown, hts⟩ (c_X3_placeInPlan l D E tl y v p w hv hw6 h7) (cwV 2 hts gX3_drop_X3_placeInPlan rfl rfl rfl (by decide +kernel) ⟨Nat.le_of_ble_eq_true rfl, Nat.le_of_ble_eq_true rfl⟩) (m_recv hK hP) hK hP hD hS hA rfl hl.1 rfl (Nat.le_of_ble_eq_true rfl) dX3_drop_29 ⟨Nat.le_of_ble_eq_true rfl, Nat.le_of_ble_eq_true rfl⟩ (fun r_12 u_11 H locs hw hP hD hS => ?_)
  obtain ⟨hr_12, hu_11⟩ := hw
  rw [hu_11] at hP hD
  refine q_top (x' := (nI a)) (hr_12.trans hla) ?_
  refine q_if_lt (tgt := 39) hx hb (by omega) dX3_drop_32 (by decide) (fun c7 => False.elim c7) (fun c7 => ?_)
  refine lv_iconst (v := nI 1) hx hb dX3_drop_35 (by decide) ?_
  refine lv_goto (tgt := 40) hx hb dX3_drop_36 (by decide) ?_
  refine g_calli (As := [.int (nI 1), .int (nI 1)]) (rest := []) ⟨hx, hb, hml, hown, hts⟩ (c_X3_goes l D E tl y (nI 1) (nI 1)) (cwV 2 hts gX3_drop_X3_goes rfl rfl rfl (by decide +kernel) ⟨Nat.le_of_ble_eq_true rfl, Nat.le_of_ble_eq_true rfl⟩) (m_recv hK hP) hK hP hD hS hA rfl hl.1 rfl (Nat.le_of_ble_eq_true rfl) dX3_drop_40 ⟨Nat.le_of_ble_eq_true rfl, Nat.le_of_ble_eq_true rfl⟩ (fun r_15 u_14 H locs hw hP hD hS => ?_)
  obtain ⟨hr_15, hu_14⟩ := hw
  rw [hu_14] at hP hD
  rw [show mGt (nI 1) (nI 1) = nI 0 from by decide] at hP hD
  refine q_top (x' := (nI 1)) (hr_15.trans (by decide)) ?_
  refine q_if_ne (tgt := 48) hx hb (by omega) dX3_drop_43 (by decide) (fun c_16 => ?_) (fun c_16 => absurd c_16 (by decide))
  refine lv_aload_n hx hb dX3_drop_48 rfl (lv_at hl 1 rfl) ?_
  refine lv_iload_n hx hb dX3_drop_49 rfl (lv_at hl 2 rfl) ?_
  refine lv_iload_n hx hb dX3_drop_50 rfl (lv_at hl 3 rfl) ?_
  refine g_calli (As := [.int (nI v), .int (nI p)]) (rest := []) ⟨hx, hb, hml, hown, hts⟩ (c_X3_placeInPlan l D E tl (up2 y 18 0 (nI 0)) v p w hv hw6 h7) (cwV 2 hts gX3_drop_X3_placeInPlan rfl rfl rfl (by decide +kernel) ⟨Nat.le_of_ble_eq_true rfl, Nat.le_of_ble_eq_true rfl⟩) (m_recv hK hP) hK hP hD hS hA rfl hl.1 rfl (Nat.le_of_ble_eq_true rfl) dX3_drop_51 ⟨Nat.le_of_ble_eq_true rfl, Nat.le_of_ble_eq_true rfl⟩ (fun r_19 u_18 H locs hw hP hD hS => ?_)
  obtain ⟨hr_19, hu_18⟩ := hw
  rw [hu_18] at hP hD
  refine q_top (x' := (nI a)) (hr_19.trans ((mLastP_18 y v p w (nI 0)).trans hla)) ?_
  refine lv_istore (lv' := [(4, .int (nI a)), (3, .int (nI 1)), (0, .ref E.1.1), (1, .int (nI v)), (2, .int (nI p))]) hx hb dX3_drop_54 hl (by decide) rfl (fun ls hl => ?_)
  refine lv_aload_n hx hb dX3_drop_56 rfl (lv_at hl 2 rfl) ?_
  refine m_get hx hb hts hin hown hK hP 7 (by decide) k29 rfl rfl dX3_drop_57 ?_
  refine lv_iload_n hx hb dX3_drop_60 rfl (lv_at hl 3 rfl) ?_
  refine lv_dup2_11 hx hb dX3_drop_61 rfl rfl ?_
  refine q_ild hx hb hK hP 7 0 rfl rfl v rfl (by omega) (by decide) dX3_drop_62 ?_
  refine q_top (x' := (nI w)) h7 ?_
  refine lv_iconst (v := nI 1) hx hb dX3_drop_63 (by decide) ?_
  refine q_sub hx hb (by omega) dX3_drop_64 ?_
  refine q_ist hx hb hK hP hD hS 7 0 rfl rfl v rfl (by omega) (by decide) dX3_drop_65 (fun H locs hP hD hS => ?_)
  replace hP : va_P D vwCl (mW E (up2 (up2 y 18 0 (nI 0)) 7 v (nI (w - 1)))) H := hP
  replace hD : va_D A (mW E (up2 (up2 y 18 0 (nI 0)) 7 v (nI (w - 1)))) := hD
  refine lv_iload hx hb dX3_drop_66 (lv_at hl 0 rfl) ?_
  refine lv_istore (lv' := [(5, .int (nI a)), (4, .int (nI a)), (3, .int (nI 1)), (0, .ref E.1.1), (1, .int (nI v)), (2, .int (nI p))]) hx hb dX3_drop_68 hl (by decide) rfl (fun ls hl => ?_)
  have ey : up2 (up2 y 18 0 (nI 0)) 7 v (nI (w - 1)) = mDs (up2 y 18 0 (nI 0)) v w a a := (mDs_0 (up2 y 18 0 (nI 0)) v w a)
  rw [ey] at hP hD
  clear ey
  obtain ⟨k, hk⟩ : ∃ k : Nat, k = a := ⟨_, rfl⟩
  obtain ⟨nn, hn⟩ : ∃ nn : Nat, k + nn = w - 1 := ⟨(w - 1) - a, by omega⟩
  replace hl : lv_has ls 6 [(5, .int (nI k)), (4, .int (nI a)), (3, .int (nI 1)), (0, .ref E.1.1), (1, .int (nI v)), (2, .int (nI p))] := by rw [hk]; exact hl
  replace hP : va_P D vwCl (mW E (mDs (up2 y 18 0 (nI 0)) v w a k)) H := by rw [hk]; exact hP
  replace hD : va_D A (mW E (mDs (up2 y 18 0 (nI 0)) v w a k)) := by rw [hk]; exact hD
  have hak : a ≤ k := by omega
  clear hk
  induction nn generalizing k H locs ls with
  | zero =>
    obtain rfl : k = w - 1 := by omega
    refine lv_iload hx hb dX3_drop_70 (lv_at hl 0 rfl) ?_
    refine lv_aload_n hx hb dX3_drop_72 rfl (lv_at hl 3 rfl) ?_
    refine m_get hx hb hts hin hown hK hP 7 (by decide) k29 rfl rfl dX3_drop_73 ?_
    refine lv_iload_n hx hb dX3_drop_76 rfl (lv_at hl 4 rfl) ?_
    refine q_ild hx hb hK hP 7 0 rfl rfl v rfl (by omega) (by decide) dX3_drop_77 ?_
    refine q_top (x' := (nI (w - 1))) (mDs_7 (up2 y 18 0 (nI 0)) v w a _) ?_
    refine q_icmp_ge (tgt := 113) hx hb (by omega) (by omega) dX3_drop_78 (by decide) (fun c1 => ?_) (fun c1 => absurd c1 (by omega))
    generalize hz : mDs (up2 y 18 0 (nI 0)) v w a (w - 1) = z at hP hD hdr
    have hz7 : z 7 v = nI (w - 1) := by rw [← hz]; exact mDs_7 _ v w a _
    rcases hdr with ⟨g1, g2, g3, p1, w1, a1, q1, q2, q3, q4, q5, q6, q7, rfl⟩ | ⟨gn, rfl⟩
    · refine lv_aload_n hx hb dX3_drop_113 rfl (lv_at hl 3 rfl) ?_
      refine m_get hx hb hts hin hown hK hP 8 (by decide) k32 rfl rfl dX3_drop_114 ?_
      refine lv_iload_n hx hb dX3_drop_117 rfl (lv_at hl 4 rfl) ?_
      refine q_ild hx hb hK hP 8 0 rfl rfl v rfl (by omega) (by decide) dX3_drop_118 ?_
      refine q_top (x' := (nI 1)) g1 ?_
      refine lv_iconst (v := nI 1) hx hb dX3_drop_119 (by decide) ?_
      refine q_icmp_ne (tgt := 147) hx hb (by omega) (by omega) dX3_drop_120 (by decide) (fun c_20 => absurd c_20 (by decide)) (fun c_20 => ?_)
      refine lv_aload_n hx hb dX3_drop_123 rfl (lv_at hl 3 rfl) ?_
      refine m_get hx hb hts hin hown hK hP 9 (by decide) k35 rfl rfl dX3_drop_124 ?_
      refine lv_iload_n hx hb dX3_drop_127 rfl (lv_at hl 4 rfl) ?_
      refine q_ild hx hb hK hP 9 0 rfl rfl v rfl (by omega) (by decide) dX3_drop_128 ?_
      refine q_top (x' := (nI p)) g2 ?_
      refine lv_iload_n hx hb dX3_drop_129 rfl (lv_at hl 5 rfl) ?_
      refine q_icmp_ne (tgt := 147) hx hb (by omega) (by omega) dX3_drop_130 (by decide) (fun c8 => absurd rfl c8) (fun c8 => ?_)
      refine lv_aload_n hx hb dX3_drop_133 rfl (lv_at hl 3 rfl) ?_
      refine m_get hx hb hts hin hown hK hP 14 (by decide) k50 rfl rfl dX3_drop_134 ?_
      refine lv_iload_n hx hb dX3_drop_137 rfl (lv_at hl 4 rfl) ?_
      refine q_zld hx hb hK hP 14 1 rfl rfl v rfl (by omega) (by decide) dX3_drop_138 ?_
      refine q_top (x' := (nI 0)) g3 ?_
      refine q_if_ne (tgt := 147) hx hb (by omega) dX3_drop_139 (by decide) (fun c_21 => absurd c_21 (by decide)) (fun c_21 => ?_)
      refine lv_aload_n hx hb dX3_drop_142 rfl (lv_at hl 3 rfl) ?_
      refine lv_iload_n hx hb dX3_drop_143 rfl (lv_at hl 4 rfl) ?_
      refine g_callv (As := [.int (nI v)]) (rest := []) ⟨hx, hb, hml, hown, hts⟩ (c_X3_leaves l D E tl z v p1 w1 a1 hv q1 q2 q3 q4 q5 q6 q7) (cwV 1 hts gX3_drop_X3_leaves rfl rfl rfl (by decide +kernel) ⟨Nat.le_of_ble_eq_true rfl, Nat.le_of_ble_eq_true rfl⟩) (m_recv hK hP) hK hP hD hS hA rfl hl.1 rfl (Nat.le_of_ble_eq_true rfl) dX3_drop_144 ⟨Nat.le_of_ble_eq_true rfl, Nat.le_of_ble_eq_true rfl⟩ (fun u_23 H locs hw hP hD hS => ?_)
      rw [hw] at hP hD
      refine lv_aload_n hx hb dX3_drop_147 rfl (lv_at hl 3 rfl) ?_
      refine m_get hx hb hts hin hown hK hP 7 (by decide) k29 rfl rfl dX3_drop_148 ?_
      refine lv_iload_n hx hb dX3_drop_151 rfl (lv_at hl 4 rfl) ?_
      refine q_ild hx hb hK hP 7 0 rfl rfl v rfl (by omega) (by decide) dX3_drop_152 ?_
      refine q_top (x' := (nI (w - 1))) hz7 ?_
      exact W.iret hx hb hr (fun t ht hW => ⟨⟨_, (mLeave z v p1 w1 a1), rfl, ⟨rfl, rfl⟩, by rw [ht]; exact hP, va_K.moved hW.alike hK, hD⟩, hS.F ht⟩) hS.2.2 dX3_drop_153
    · refine lv_aload_n hx hb dX3_drop_113 rfl (lv_at hl 3 rfl) ?_
      refine m_get hx hb hts hin hown hK hP 8 (by decide) k32 rfl rfl dX3_drop_114 ?_
      refine lv_iload_n hx hb dX3_drop_117 rfl (lv_at hl 4 rfl) ?_
      refine q_ild hx hb hK hP 8 0 rfl rfl v rfl (by omega) (by decide) dX3_drop_118 ?_
      refine lv_iconst (v := nI 1) hx hb dX3_drop_119 (by decide) ?_
      refine lv_icmp_ne (tgt := 147) hx hb dX3_drop_120 (by decide) (fun c8 => ?_) (fun c8 => ?_)
      · refine lv_aload_n hx hb dX3_drop_147 rfl (lv_at hl 3 rfl) ?_
        refine m_get hx hb hts hin hown hK hP 7 (by decide) k29 rfl rfl dX3_drop_148 ?_
        refine lv_iload_n hx hb dX3_drop_151 rfl (lv_at hl 4 rfl) ?_
        refine q_ild hx hb hK hP 7 0 rfl rfl v rfl (by omega) (by decide) dX3_drop_152 ?_
        refine q_top (x' := (nI (w - 1))) hz7 ?_
        exact W.iret hx hb hr (fun t ht hW => ⟨⟨_, y1, rfl, ⟨rfl, rfl⟩, by rw [ht]; exact hP, va_K.moved hW.alike hK, hD⟩, hS.F ht⟩) hS.2.2 dX3_drop_153
      · refine lv_aload_n hx hb dX3_drop_123 rfl (lv_at hl 3 rfl) ?_
        refine m_get hx hb hts hin hown hK hP 9 (by decide) k35 rfl rfl dX3_drop_124 ?_
        refine lv_iload_n hx hb dX3_drop_127 rfl (lv_at hl 4 rfl) ?_
        refine q_ild hx hb hK hP 9 0 rfl rfl v rfl (by omega) (by decide) dX3_drop_128 ?_
        refine lv_iload_n hx hb dX3_drop_129 rfl (lv_at hl 5 rfl) ?_
        refine lv_icmp_ne (tgt := 147) hx hb dX3_drop_130 (by decide) (fun c9 => ?_) (fun c9 => ?_)
        · refine lv_aload_n hx hb dX3_drop_147 rfl (lv_at hl 3 rfl) ?_
          refine m_get hx hb hts hin hown hK hP 7 (by decide) k29 rfl rfl dX3_drop_148 ?_
          refine lv_iload_n hx hb dX3_drop_151 rfl (lv_at hl 4 rfl) ?_
          refine q_ild hx hb hK hP 7 0 rfl rfl v rfl (by omega) (by decide) dX3_drop_152 ?_
          refine q_top (x' := (nI (w - 1))) hz7 ?_
          exact W.iret hx hb hr (fun t ht hW => ⟨⟨_, y1, rfl, ⟨rfl, rfl⟩, by rw [ht]; exact hP, va_K.moved hW.alike hK, hD⟩, hS.F ht⟩) hS.2.2 dX3_drop_153
        · refine lv_aload_n hx hb dX3_drop_133 rfl (lv_at hl 3 rfl) ?_
          refine m_get hx hb hts hin hown hK hP 14 (by decide) k50 rfl rfl dX3_drop_134 ?_
          refine lv_iload_n hx hb dX3_drop_137 rfl (lv_at hl 4 rfl) ?_
          refine q_zld hx hb hK hP 14 1 rfl rfl v rfl (by omega) (by decide) dX3_drop_138 ?_
          refine lv_if_ne (tgt := 147) hx hb dX3_drop_139 (by decide) (fun c10 => ?_) (fun c10 => gn.elim (fun q => absurd c8 q) (fun q => q.elim (fun q => absurd c9 q) (fun q => absurd c10 q)))
          refine lv_aload_n hx hb dX3_drop_147 rfl (lv_at hl 3 rfl) ?_
          refine m_get hx hb hts hin hown hK hP 7 (by decide) k29 rfl rfl dX3_drop_148 ?_
          refine lv_iload_n hx hb dX3_drop_151 rfl (lv_at hl 4 rfl) ?_
          refine q_ild hx hb hK hP 7 0 rfl rfl v rfl (by omega) (by decide) dX3_drop_152 ?_
          refine q_top (x' := (nI (w - 1))) hz7 ?_
          exact W.iret hx hb hr (fun t ht hW => ⟨⟨_, y1, rfl, ⟨rfl, rfl⟩, by rw [ht]; exact hP, va_K.moved hW.alike hK, hD⟩, hS.F ht⟩) hS.2.2 dX3_drop_153
  | succ nn ih =>
    refine lv_iload hx hb dX3_drop_70 (lv_at hl 0 rfl) ?_
    refine lv_aload_n hx hb dX3_drop_72 rfl (lv_at hl 3 rfl) ?_
    refine m_get hx hb hts hin hown hK hP 7 (by decide) k29 rfl rfl dX3_drop_73 ?_
    refine lv_iload_n hx hb dX3_drop_76 rfl (lv_at hl 4 rfl) ?_
    refine q_ild hx hb hK hP 7 0 rfl rfl v rfl (by omega) (by decide) dX3_drop_77 ?_
    refine q_top (x' := (nI (w - 1))) (mDs_7 (up2 y 18 0 (nI 0)) v w a k) ?_
    refine q_icmp_ge (tgt := 113) hx hb (by omega) (by omega) dX3_drop_78 (by decide) (fun c1 => absurd c1 (by omega)) (fun c1 => ?_)
    refine lv_aload_n hx hb dX3_drop_81 rfl (lv_at hl 3 rfl) ?_
    refine m_get hx hb hts hin hown hK hP 6 (by decide) k26 rfl rfl dX3_drop_82 ?_
    refine lv_bipush (v := nI 6) hx hb dX3_drop_85 (by decide) ?_
    refine lv_iload_n hx hb dX3_drop_87 rfl (lv_at hl 4 rfl) ?_
    refine q_mul hx hb dX3_drop_88 ?_
    refine lv_iload hx hb dX3_drop_89 (lv_at hl 0 rfl) ?_
    refine q_add hx hb dX3_drop_91 ?_
    refine lv_aload_n hx hb dX3_drop_92 rfl (lv_at hl 3 rfl) ?_
    refine m_get hx hb hts hin hown hK hP 6 (by decide) k26 rfl rfl dX3_drop_93 ?_
    refine lv_bipush (v := nI 6) hx hb dX3_drop_96 (by decide) ?_
    refine lv_iload_n hx hb dX3_drop_98 rfl (lv_at hl 4 rfl) ?_
    refine q_mul hx hb dX3_drop_99 ?_
    refine lv_iload hx hb dX3_drop_100 (lv_at hl 0 rfl) ?_
    refine q_add hx hb dX3_drop_102 ?_
    refine lv_iconst (v := nI 1) hx hb dX3_drop_103 (by decide) ?_
    refine q_add hx hb dX3_drop_104 ?_
    refine q_ild hx hb hK hP 6 0 rfl rfl (((6 * v) + k) + 1) rfl (by omega) (by decide) dX3_drop_105 ?_
    refine q_ist hx hb hK hP hD hS 6 0 rfl rfl ((6 * v) + k) rfl (by omega) (by decide) dX3_drop_106 (fun H locs hP hD hS => ?_)
    replace hP : va_P D vwCl (mW E (up2 (mDs (up2 y 18 0 (nI 0)) v w a k) 6 ((6 * v) + k) ((mDs (up2 y 18 0 (nI 0)) v w a k) 6 (((6 * v) + k) + 1)))) H := hP
    replace hD : va_D A (mW E (up2 (mDs (up2 y 18 0 (nI 0)) v w a k) 6 ((6 * v) + k) ((mDs (up2 y 18 0 (nI 0)) v w a k) 6 (((6 * v) + k) + 1)))) := hD
    have ey : up2 (mDs (up2 y 18 0 (nI 0)) v w a k) 6 ((6 * v) + k) ((mDs (up2 y 18 0 (nI 0)) v w a k) 6 (((6 * v) + k) + 1)) = mDs (up2 y 18 0 (nI 0)) v w a (k + 1) := (mDs_s (up2 y 18 0 (nI 0)) v w a k hak)
    rw [ey] at hP hD
    clear ey
    refine q_inc (k := 0) (lv' := [(5, .int (nI (k + 1))), (4, .int (nI a)), (3, .int (nI 1)), (0, .ref E.1.1), (1, .int (nI v)), (2, .int (nI p))]) hx hb dX3_drop_107 hl rfl (by decide) rfl (fun ls hl => ?_)
    refine lv_goto (tgt := 70) hx hb dX3_drop_110 (by decide) ?_
    apply ih (k := k + 1) (H := H) (locs := locs) (ls := ls)
    all_goals first | omega | assumption

set_option maxHeartbeats 4000000 in
set_option maxRecDepth 100000 in
theorem c_X3_drop_nv (l : Launch) (D : va_G) (E : mE) (tl : gTy) (y : Nat → Nat → Int32) (v p : Int32) (hv : v < 0 ∨ nI 8 ≤ v)  : gI l yX3_drop wsX3_drop ({ frames := 2, cells := 0, slots := 0, locals := 48 } : Room) D (mT E tl) (mW E y) [.ref E.1.1, .int v, .int p] (fun (r : Int32) (u : Nat → Nat → Int32) => u = up2 y 18 0 (nI 1)) (mW E) 0 0 := by
  refine gM.start (cc := cX3_drop) (maxL := 6) (ret := (some .int)) (own := RX3) rfl (by decide) rfl (Nat.le_of_ble_eq_true rfl) ?_
  intro pr e s m args below meth c A ls H locs hx hb hml hr hts hown hlocks hname hA hK hP hD hS hl
  replace hl : lv_has ls 6 [(0, .ref E.1.1), (1, .int v), (2, .int p)] := hl
  refine lv_iload_n hx hb dX3_drop_0 rfl (lv_at hl 1 rfl) ?_
  refine g_scalli (As := [.int v]) (rest := []) ⟨hx, hb, hml, hown, hts⟩ (c_X3_isVisitor_n l D E tl y v hv) (va_cwS 1 hts gX3_drop_X3_isVisitor rfl rfl rfl (by decide +kernel) ⟨Nat.le_of_ble_eq_true rfl, Nat.le_of_ble_eq_true rfl⟩) hK hP hD hS hA rfl hl.1 rfl (Nat.le_of_ble_eq_true rfl) dX3_drop_1 ⟨Nat.le_of_ble_eq_true rfl, Nat.le_of_ble_eq_true rfl⟩ (fun r_3 u_2 H locs hw hP hD hS => ?_)
  obtain ⟨hr_3, hu_2⟩ := hw
  rw [hu_2] at hP hD
  refine q_top (x' := (nI 0)) hr_3 ?_
  refine q_if_eq (tgt := 18) hx hb (by omega) dX3_drop_4 (by decide) (fun c_4 => ?_) (fun c_4 => absurd c_4 (by decide))
  refine lv_iconst (v := nI 0) hx hb dX3_drop_18 (by decide) ?_
  refine lv_istore_n (lv' := [(3, .int (nI 0)), (0, .ref E.1.1), (1, .int v), (2, .int p)]) hx hb dX3_drop_19 rfl hl (by decide) rfl (fun ls hl => ?_)
  refine lv_aload_n hx hb dX3_drop_20 rfl (lv_at hl 1 rfl) ?_
  refine lv_iload_n hx hb dX3_drop_21 rfl (lv_at hl 0 rfl) ?_
  refine lv_iload_n hx hb dX3_drop_22 rfl (lv_at hl 0 rfl) ?_
  refine q_if_eq (tgt := 39) hx hb (by omega) dX3_drop_23 (by decide) (fun c_5 => ?_) (fun c_5 => absurd c_5 (by decide))
  refine lv_iconst (v := nI 0) hx hb dX3_drop_39 (by decide) ?_
  refine g_calli (As := [.int (nI 0), .int (nI 0)]) (rest := []) ⟨hx, hb, hml, hown, hts⟩ (c_X3_goes l D E tl y (nI 0) (nI 0)) (cwV 2 hts gX3_drop_X3_goes rfl rfl rfl (by decide +kernel) ⟨Nat.le_of_ble_eq_true rfl, Nat.le_of_ble_eq_true rfl⟩) (m_recv hK hP) hK hP hD hS hA rfl hl.1 rfl (Nat.le_of_ble_eq_true rfl) dX3_drop_40 ⟨Nat.le_of_ble_eq_true rfl, Nat.le_of_ble_eq_true rfl⟩ (fun r_8 u_7 H locs hw hP hD hS => ?_)
  obtain ⟨hr_8, hu_7⟩ := hw
  rw [hu_7] at hP hD
  rw [show mGt (nI 0) (nI 0) = nI 1 from by decide] at hP hD
  refine q_top (x' := (nI 0)) (hr_8.trans (by decide)) ?_
  refine q_if_ne (tgt := 48) hx hb (by omega) dX3_drop_43 (by decide) (fun c_9 => absurd c_9 (by decide)) (fun c_9 => ?_)
  refine lv_iconst (v := nI 0) hx hb dX3_drop_46 (by decide) ?_
  exact W.iret hx hb hr (fun t ht hW => ⟨⟨_, up2 y 18 0 (nI 1), rfl, rfl, by rw [ht]; exact hP, va_K.moved hW.alike hK, hD⟩, hS.F ht⟩) hS.2.2 dX3_drop_47

set_option maxHeartbeats 4000000 in
set_option maxRecDepth 100000 in
theorem c_X3_drop_np (l : Launch) (D : va_G) (E : mE) (tl : gTy) (y : Nat → Nat → Int32) (v : Nat) (p : Int32) (hv : v < 8) (hp : p < 0 ∨ nI 6 ≤ p)  : gI l yX3_drop wsX3_drop ({ frames := 2, cells := 0, slots := 0, locals := 48 } : Room) D (mT E tl) (mW E y) [.ref E.1.1, .int (nI v), .int p] (fun (r : Int32) (u : Nat → Nat → Int32) => u = up2 y 18 0 (nI 1)) (mW E) 0 0 := by
  refine gM.start (cc := cX3_drop) (maxL := 6) (ret := (some .int)) (own := RX3) rfl (by decide) rfl (Nat.le_of_ble_eq_true rfl) ?_
  intro pr e s m args below meth c A ls H locs hx hb hml hr hts hown hlocks hname hA hK hP hD hS hl
  replace hl : lv_has ls 6 [(0, .ref E.1.1), (1, .int (nI v)), (2, .int p)] := hl
  refine lv_iload_n hx hb dX3_drop_0 rfl (lv_at hl 1 rfl) ?_
  refine g_scalli (As := [.int (nI v)]) (rest := []) ⟨hx, hb, hml, hown, hts⟩ (c_X3_isVisitor_y l D E tl y v hv) (va_cwS 1 hts gX3_drop_X3_isVisitor rfl rfl rfl (by decide +kernel) ⟨Nat.le_of_ble_eq_true rfl, Nat.le_of_ble_eq_true rfl⟩) hK hP hD hS hA rfl hl.1 rfl (Nat.le_of_ble_eq_true rfl) dX3_drop_1 ⟨Nat.le_of_ble_eq_true rfl, Nat.le_of_ble_eq_true rfl⟩ (fun r_3 u_2 H locs hw hP hD hS => ?_)
  obtain ⟨hr_3, hu_2⟩ := hw
  rw [hu_2] at hP hD
  refine q_top (x' := (nI 1)) hr_3 ?_
  refine q_if_eq (tgt := 18) hx hb (by omega) dX3_drop_4 (by decide) (fun c_4 => absurd c_4 (by decide)) (fun c_4 => ?_)
  refine lv_iload_n hx hb dX3_drop_7 rfl (lv_at hl 2 rfl) ?_
  refine g_scalli (As := [.int p]) (rest := []) ⟨hx, hb, hml, hown, hts⟩ (c_X3_isPavilion_n l D E tl y p hp) (va_cwS 1 hts gX3_drop_X3_isPavilion rfl rfl rfl (by decide +kernel) ⟨Nat.le_of_ble_eq_true rfl, Nat.le_of_ble_eq_true rfl⟩) hK hP hD hS hA rfl hl.1 rfl (Nat.le_of_ble_eq_true rfl) dX3_drop_8 ⟨Nat.le_of_ble_eq_true rfl, Nat.le_of_ble_eq_true rfl⟩ (fun r_7 u_6 H locs hw hP hD hS => ?_)
  obtain ⟨hr_7, hu_6⟩ := hw
  rw [hu_6] at hP hD
  refine q_top (x' := (nI 0)) hr_7 ?_
  refine q_if_eq (tgt := 18) hx hb (by omega) dX3_drop_11 (by decide) (fun c_8 => ?_) (fun c_8 => absurd c_8 (by decide))
  refine lv_iconst (v := nI 0) hx hb dX3_drop_18 (by decide) ?_
  refine lv_istore_n (lv' := [(3, .int (nI 0)), (0, .ref E.1.1), (1, .int (nI v)), (2, .int p)]) hx hb dX3_drop_19 rfl hl (by decide) rfl (fun ls hl => ?_)
  refine lv_aload_n hx hb dX3_drop_20 rfl (lv_at hl 1 rfl) ?_
  refine lv_iload_n hx hb dX3_drop_21 rfl (lv_at hl 0 rfl) ?_
  refine lv_iload_n hx hb dX3_drop_22 rfl (lv_at hl 0 rfl) ?_
  refine q_if_eq (tgt := 39) hx hb (by omega) dX3_drop_23 (by decide) (fun c_9 => ?_) (fun c_9 => absurd c_9 (by decide))
  refine lv_iconst (v := nI 0) hx hb dX3_drop_39 (by decide) ?_
  refine g_calli (As := [.int (nI 0), .int (nI 0)]) (rest := []) ⟨hx, hb, hml, hown, hts⟩ (c_X3_goes l D E tl y (nI 0) (nI 0)) (cwV 2 hts gX3_drop_X3_goes rfl rfl rfl (by decide +kernel) ⟨Nat.le_of_ble_eq_true rfl, Nat.le_of_ble_eq_true rfl⟩) (m_recv hK hP) hK hP hD hS hA rfl hl.1 rfl (Nat.le_of_ble_eq_true rfl) dX3_drop_40 ⟨Nat.le_of_ble_eq_true rfl, Nat.le_of_ble_eq_true rfl⟩ (fun r_12 u_11 H locs hw hP hD hS => ?_)
  obtain ⟨hr_12, hu_11⟩ := hw
  rw [hu_11] at hP hD
  rw [show mGt (nI 0) (nI 0) = nI 1 from by decide] at hP hD
  refine q_top (x' := (nI 0)) (hr_12.trans (by decide)) ?_
  refine q_if_ne (tgt := 48) hx hb (by omega) dX3_drop_43 (by decide) (fun c_13 => absurd c_13 (by decide)) (fun c_13 => ?_)
  refine lv_iconst (v := nI 0) hx hb dX3_drop_46 (by decide) ?_
  exact W.iret hx hb hr (fun t ht hW => ⟨⟨_, up2 y 18 0 (nI 1), rfl, rfl, by rw [ht]; exact hP, va_K.moved hW.alike hK, hD⟩, hS.F ht⟩) hS.2.2 dX3_drop_47

set_option maxHeartbeats 4000000 in
set_option maxRecDepth 100000 in
theorem c_X3_sent (l : Launch) (D : va_G) (E : mE) (tl : gTy) (y : Nat → Nat → Int32) (v p : Nat) (hv : v < 8) (hp : p < 6)  : gI l yX3_sent wsX3_sent ({ frames := 1, cells := 0, slots := 0, locals := 22 } : Room) D (mT E tl) (mW E y) [.ref E.1.1, .int (nI v), .int (nI p)] (fun (r : Int32) (u : Nat → Nat → Int32) => r = y 17 (6 * v + p) ∧ u = up2 y 18 0 (nI 0)) (mW E) 0 0 := by
  refine gM.start (cc := cX3_sent) (maxL := 3) (ret := (some .int)) (own := RX3) rfl (by decide) rfl (Nat.le_of_ble_eq_true rfl) ?_
  intro pr e s m args below meth c A ls H locs hx hb hml hr hts hown hlocks hname hA hK hP hD hS hl
  replace hl : lv_has ls 3 [(0, .ref E.1.1), (1, .int (nI v)), (2, .int (nI p))] := hl
  have hin : ∀ w ∈ wsX30, w ∈ wsX3_sent := by decide +kernel
  have k59 := hts (.fieldLink RX3 59 "FairFolioModel" "sent" "[I") (by decide +kernel)
  refine lv_aload_n hx hb dX3_sent_0 rfl (lv_at hl 0 rfl) ?_
  refine lv_iload_n hx hb dX3_sent_1 rfl (lv_at hl 1 rfl) ?_
  refine g_scalli (As := [.int (nI v)]) (rest := [.ref E.1.1]) ⟨hx, hb, hml, hown, hts⟩ (c_X3_isVisitor_y l D E tl y v hv) (va_cwS 1 hts gX3_sent_X3_isVisitor rfl rfl rfl (by decide +kernel) ⟨Nat.le_of_ble_eq_true rfl, Nat.le_of_ble_eq_true rfl⟩) hK hP hD hS hA rfl hl.1 rfl (Nat.le_of_ble_eq_true rfl) dX3_sent_2 ⟨Nat.le_of_ble_eq_true rfl, Nat.le_of_ble_eq_true rfl⟩ (fun r_3 u_2 H locs hw hP hD hS => ?_)
  obtain ⟨hr_3, hu_2⟩ := hw
  rw [hu_2] at hP hD
  refine q_top (x' := (nI 1)) hr_3 ?_
  refine q_if_eq (tgt := 19) hx hb (by omega) dX3_sent_5 (by decide) (fun c_4 => absurd c_4 (by decide)) (fun c_4 => ?_)
  refine lv_iload_n hx hb dX3_sent_8 rfl (lv_at hl 2 rfl) ?_
  refine g_scalli (As := [.int (nI p)]) (rest := [.ref E.1.1]) ⟨hx, hb, hml, hown, hts⟩ (c_X3_isPavilion_y l D E tl y p hp) (va_cwS 1 hts gX3_sent_X3_isPavilion rfl rfl rfl (by decide +kernel) ⟨Nat.le_of_ble_eq_true rfl, Nat.le_of_ble_eq_true rfl⟩) hK hP hD hS hA rfl hl.1 rfl (Nat.le_of_ble_eq_true rfl) dX3_sent_9 ⟨Nat.le_of_ble_eq_true rfl, Nat.le_of_ble_eq_true rfl⟩ (fun r_7 u_6 H locs hw hP hD hS => ?_)
  obtain ⟨hr_7, hu_6⟩ := hw
  rw [hu_6] at hP hD
  refine q_top (x' := (nI 1)) hr_7 ?_
  refine q_if_eq (tgt := 19) hx hb (by omega) dX3_sent_12 (by decide) (fun c_8 => absurd c_8 (by decide)) (fun c_8 => ?_)
  refine lv_iconst (v := nI 1) hx hb dX3_sent_15 (by decide) ?_
  refine lv_goto (tgt := 20) hx hb dX3_sent_16 (by decide) ?_
  refine lv_iconst (v := nI 1) hx hb dX3_sent_20 (by decide) ?_
  refine g_calli (As := [.int (nI 1), .int (nI 1)]) (rest := []) ⟨hx, hb, hml, hown, hts⟩ (c_X3_goes l D E tl y (nI 1) (nI 1)) (cwV 2 hts gX3_sent_X3_goes rfl rfl rfl (by decide +kernel) ⟨Nat.le_of_ble_eq_true rfl, Nat.le_of_ble_eq_true rfl⟩) (m_recv hK hP) hK hP hD hS hA rfl hl.1 rfl (Nat.le_of_ble_eq_true rfl) dX3_sent_21 ⟨Nat.le_of_ble_eq_true rfl, Nat.le_of_ble_eq_true rfl⟩ (fun r_11 u_10 H locs hw hP hD hS => ?_)
  obtain ⟨hr_11, hu_10⟩ := hw
  rw [hu_10] at hP hD
  rw [show mGt (nI 1) (nI 1) = nI 0 from by decide] at hP hD
  refine q_top (x' := (nI 1)) (hr_11.trans (by decide)) ?_
  refine q_if_eq (tgt := 41) hx hb (by omega) dX3_sent_24 (by decide) (fun c_12 => absurd c_12 (by decide)) (fun c_12 => ?_)
  refine lv_aload_n hx hb dX3_sent_27 rfl (lv_at hl 0 rfl) ?_
  refine m_get hx hb hts hin hown hK hP 17 (by decide) k59 rfl rfl dX3_sent_28 ?_
  refine lv_bipush (v := nI 6) hx hb dX3_sent_31 (by decide) ?_
  refine lv_iload_n hx hb dX3_sent_33 rfl (lv_at hl 1 rfl) ?_
  refine q_mul hx hb dX3_sent_34 ?_
  refine lv_iload_n hx hb dX3_sent_35 rfl (lv_at hl 2 rfl) ?_
  refine q_add hx hb dX3_sent_36 ?_
  refine q_ild hx hb hK hP 17 0 rfl rfl ((6 * v) + p) rfl (by omega) (by decide) dX3_sent_37 ?_
  refine lv_goto (tgt := 42) hx hb dX3_sent_38 (by decide) ?_
  exact W.iret hx hb hr (fun t ht hW => ⟨⟨_, up2 y 18 0 (nI 0), rfl, ⟨rfl, rfl⟩, by rw [ht]; exact hP, va_K.moved hW.alike hK, hD⟩, hS.F ht⟩) hS.2.2 dX3_sent_42

set_option maxHeartbeats 4000000 in
set_option maxRecDepth 100000 in
theorem c_X3_sent_nv (l : Launch) (D : va_G) (E : mE) (tl : gTy) (y : Nat → Nat → Int32) (v p : Int32) (hv : v < 0 ∨ nI 8 ≤ v)  : gI l yX3_sent wsX3_sent ({ frames := 1, cells := 0, slots := 0, locals := 22 } : Room) D (mT E tl) (mW E y) [.ref E.1.1, .int v, .int p] (fun (r : Int32) (u : Nat → Nat → Int32) => u = up2 y 18 0 (nI 1)) (mW E) 0 0 := by
  refine gM.start (cc := cX3_sent) (maxL := 3) (ret := (some .int)) (own := RX3) rfl (by decide) rfl (Nat.le_of_ble_eq_true rfl) ?_
  intro pr e s m args below meth c A ls H locs hx hb hml hr hts hown hlocks hname hA hK hP hD hS hl
  replace hl : lv_has ls 3 [(0, .ref E.1.1), (1, .int v), (2, .int p)] := hl
  refine lv_aload_n hx hb dX3_sent_0 rfl (lv_at hl 0 rfl) ?_
  refine lv_iload_n hx hb dX3_sent_1 rfl (lv_at hl 1 rfl) ?_
  refine g_scalli (As := [.int v]) (rest := [.ref E.1.1]) ⟨hx, hb, hml, hown, hts⟩ (c_X3_isVisitor_n l D E tl y v hv) (va_cwS 1 hts gX3_sent_X3_isVisitor rfl rfl rfl (by decide +kernel) ⟨Nat.le_of_ble_eq_true rfl, Nat.le_of_ble_eq_true rfl⟩) hK hP hD hS hA rfl hl.1 rfl (Nat.le_of_ble_eq_true rfl) dX3_sent_2 ⟨Nat.le_of_ble_eq_true rfl, Nat.le_of_ble_eq_true rfl⟩ (fun r_3 u_2 H locs hw hP hD hS => ?_)
  obtain ⟨hr_3, hu_2⟩ := hw
  rw [hu_2] at hP hD
  refine q_top (x' := (nI 0)) hr_3 ?_
  refine q_if_eq (tgt := 19) hx hb (by omega) dX3_sent_5 (by decide) (fun c_4 => ?_) (fun c_4 => absurd c_4 (by decide))
  refine lv_iconst (v := nI 0) hx hb dX3_sent_19 (by decide) ?_
  refine lv_iconst (v := nI 1) hx hb dX3_sent_20 (by decide) ?_
  refine g_calli (As := [.int (nI 0), .int (nI 1)]) (rest := []) ⟨hx, hb, hml, hown, hts⟩ (c_X3_goes l D E tl y (nI 0) (nI 1)) (cwV 2 hts gX3_sent_X3_goes rfl rfl rfl (by decide +kernel) ⟨Nat.le_of_ble_eq_true rfl, Nat.le_of_ble_eq_true rfl⟩) (m_recv hK hP) hK hP hD hS hA rfl hl.1 rfl (Nat.le_of_ble_eq_true rfl) dX3_sent_21 ⟨Nat.le_of_ble_eq_true rfl, Nat.le_of_ble_eq_true rfl⟩ (fun r_7 u_6 H locs hw hP hD hS => ?_)
  obtain ⟨hr_7, hu_6⟩ := hw
  rw [hu_6] at hP hD
  rw [show mGt (nI 0) (nI 1) = nI 1 from by decide] at hP hD
  refine q_top (x' := (nI 0)) (hr_7.trans (by decide)) ?_
  refine q_if_eq (tgt := 41) hx hb (by omega) dX3_sent_24 (by decide) (fun c_8 => ?_) (fun c_8 => absurd c_8 (by decide))
  refine lv_iconst (v := nI 0) hx hb dX3_sent_41 (by decide) ?_
  exact W.iret hx hb hr (fun t ht hW => ⟨⟨_, up2 y 18 0 (nI 1), rfl, rfl, by rw [ht]; exact hP, va_K.moved hW.alike hK, hD⟩, hS.F ht⟩) hS.2.2 dX3_sent_42

set_option maxHeartbeats 4000000 in
set_option maxRecDepth 100000 in
theorem c_X3_sent_np (l : Launch) (D : va_G) (E : mE) (tl : gTy) (y : Nat → Nat → Int32) (v : Nat) (p : Int32) (hv : v < 8) (hp : p < 0 ∨ nI 6 ≤ p)  : gI l yX3_sent wsX3_sent ({ frames := 1, cells := 0, slots := 0, locals := 22 } : Room) D (mT E tl) (mW E y) [.ref E.1.1, .int (nI v), .int p] (fun (r : Int32) (u : Nat → Nat → Int32) => u = up2 y 18 0 (nI 1)) (mW E) 0 0 := by
  refine gM.start (cc := cX3_sent) (maxL := 3) (ret := (some .int)) (own := RX3) rfl (by decide) rfl (Nat.le_of_ble_eq_true rfl) ?_
  intro pr e s m args below meth c A ls H locs hx hb hml hr hts hown hlocks hname hA hK hP hD hS hl
  replace hl : lv_has ls 3 [(0, .ref E.1.1), (1, .int (nI v)), (2, .int p)] := hl
  refine lv_aload_n hx hb dX3_sent_0 rfl (lv_at hl 0 rfl) ?_
  refine lv_iload_n hx hb dX3_sent_1 rfl (lv_at hl 1 rfl) ?_
  refine g_scalli (As := [.int (nI v)]) (rest := [.ref E.1.1]) ⟨hx, hb, hml, hown, hts⟩ (c_X3_isVisitor_y l D E tl y v hv) (va_cwS 1 hts gX3_sent_X3_isVisitor rfl rfl rfl (by decide +kernel) ⟨Nat.le_of_ble_eq_true rfl, Nat.le_of_ble_eq_true rfl⟩) hK hP hD hS hA rfl hl.1 rfl (Nat.le_of_ble_eq_true rfl) dX3_sent_2 ⟨Nat.le_of_ble_eq_true rfl, Nat.le_of_ble_eq_true rfl⟩ (fun r_3 u_2 H locs hw hP hD hS => ?_)
  obtain ⟨hr_3, hu_2⟩ := hw
  rw [hu_2] at hP hD
  refine q_top (x' := (nI 1)) hr_3 ?_
  refine q_if_eq (tgt := 19) hx hb (by omega) dX3_sent_5 (by decide) (fun c_4 => absurd c_4 (by decide)) (fun c_4 => ?_)
  refine lv_iload_n hx hb dX3_sent_8 rfl (lv_at hl 2 rfl) ?_
  refine g_scalli (As := [.int p]) (rest := [.ref E.1.1]) ⟨hx, hb, hml, hown, hts⟩ (c_X3_isPavilion_n l D E tl y p hp) (va_cwS 1 hts gX3_sent_X3_isPavilion rfl rfl rfl (by decide +kernel) ⟨Nat.le_of_ble_eq_true rfl, Nat.le_of_ble_eq_true rfl⟩) hK hP hD hS hA rfl hl.1 rfl (Nat.le_of_ble_eq_true rfl) dX3_sent_9 ⟨Nat.le_of_ble_eq_true rfl, Nat.le_of_ble_eq_true rfl⟩ (fun r_7 u_6 H locs hw hP hD hS => ?_)
  obtain ⟨hr_7, hu_6⟩ := hw
  rw [hu_6] at hP hD
  refine q_top (x' := (nI 0)) hr_7 ?_
  refine q_if_eq (tgt := 19) hx hb (by omega) dX3_sent_12 (by decide) (fun c_8 => ?_) (fun c_8 => absurd c_8 (by decide))
  refine lv_iconst (v := nI 0) hx hb dX3_sent_19 (by decide) ?_
  refine lv_iconst (v := nI 1) hx hb dX3_sent_20 (by decide) ?_
  refine g_calli (As := [.int (nI 0), .int (nI 1)]) (rest := []) ⟨hx, hb, hml, hown, hts⟩ (c_X3_goes l D E tl y (nI 0) (nI 1)) (cwV 2 hts gX3_sent_X3_goes rfl rfl rfl (by decide +kernel) ⟨Nat.le_of_ble_eq_true rfl, Nat.le_of_ble_eq_true rfl⟩) (m_recv hK hP) hK hP hD hS hA rfl hl.1 rfl (Nat.le_of_ble_eq_true rfl) dX3_sent_21 ⟨Nat.le_of_ble_eq_true rfl, Nat.le_of_ble_eq_true rfl⟩ (fun r_11 u_10 H locs hw hP hD hS => ?_)
  obtain ⟨hr_11, hu_10⟩ := hw
  rw [hu_10] at hP hD
  rw [show mGt (nI 0) (nI 1) = nI 1 from by decide] at hP hD
  refine q_top (x' := (nI 0)) (hr_11.trans (by decide)) ?_
  refine q_if_eq (tgt := 41) hx hb (by omega) dX3_sent_24 (by decide) (fun c_12 => ?_) (fun c_12 => absurd c_12 (by decide))
  refine lv_iconst (v := nI 0) hx hb dX3_sent_41 (by decide) ?_
  exact W.iret hx hb hr (fun t ht hW => ⟨⟨_, up2 y 18 0 (nI 1), rfl, rfl, by rw [ht]; exact hP, va_K.moved hW.alike hK, hD⟩, hS.F ht⟩) hS.2.2 dX3_sent_42
end
