section
-- ===== PART A: goes FIRST, ahead of the names: the tables' words, and 'selects' of the private methods out of them =====
/-- a private method of a class that the tables say can be made, by its rows of tables_1 -/
def lw_okq (q : MethodName × Nat) : Prop := (q.1.cls ≠ "java/lang/invoke/MethodHandle" ∧ q.1.cls ≠ "java/lang/invoke/VarHandle") ∧ Cond.instantiable q.1.cls q.2 ∈ tables_1 ∧ Cond.privateMethod q.1 ∈ tables_1 ∧ Cond.instanceMethod q.1 ∈ tables_1
theorem lw_p0 : lw_okq (⟨"TrialStair$Script", "fit", "(LTrialStair$Step;)V"⟩, 5) := ⟨⟨by decide +kernel, by decide +kernel⟩, List.mem_of_getElem? (i := 24) (by decide +kernel), List.mem_of_getElem? (i := 264) (by decide +kernel), List.mem_of_getElem? (i := 265) (by decide +kernel)⟩
theorem lw_p1 : lw_okq (⟨"TrialStair$Script", "beginRoutine", "(I)V"⟩, 5) := ⟨⟨by decide +kernel, by decide +kernel⟩, List.mem_of_getElem? (i := 24) (by decide +kernel), List.mem_of_getElem? (i := 268) (by decide +kernel), List.mem_of_getElem? (i := 269) (by decide +kernel)⟩
theorem lw_p2 : lw_okq (⟨"TrialStair$Worker", "enterRoutine", "(ILTrialStair$Step;)V"⟩, 11) := ⟨⟨by decide +kernel, by decide +kernel⟩, List.mem_of_getElem? (i := 144) (by decide +kernel), List.mem_of_getElem? (i := 296) (by decide +kernel), List.mem_of_getElem? (i := 297) (by decide +kernel)⟩
theorem lw_p3 : lw_okq (⟨"TrialStair$Worker", "enter", "(LTrialStair$Frame;I)Z"⟩, 11) := ⟨⟨by decide +kernel, by decide +kernel⟩, List.mem_of_getElem? (i := 144) (by decide +kernel), List.mem_of_getElem? (i := 348) (by decide +kernel), List.mem_of_getElem? (i := 349) (by decide +kernel)⟩
theorem lw_p4 : lw_okq (⟨"TrialStair$Worker", "stop", "(I)V"⟩, 11) := ⟨⟨by decide +kernel, by decide +kernel⟩, List.mem_of_getElem? (i := 144) (by decide +kernel), List.mem_of_getElem? (i := 352) (by decide +kernel), List.mem_of_getElem? (i := 353) (by decide +kernel)⟩
theorem lw_p5 : lw_okq (⟨"TrialStair$Worker", "settle", "(LTrialStair$Frame;)V"⟩, 11) := ⟨⟨by decide +kernel, by decide +kernel⟩, List.mem_of_getElem? (i := 144) (by decide +kernel), List.mem_of_getElem? (i := 364) (by decide +kernel), List.mem_of_getElem? (i := 365) (by decide +kernel)⟩
theorem lw_p6 : lw_okq (⟨"TrialStair$Worker", "settleTrial", "(LTrialStair$Frame;)V"⟩, 11) := ⟨⟨by decide +kernel, by decide +kernel⟩, List.mem_of_getElem? (i := 144) (by decide +kernel), List.mem_of_getElem? (i := 368) (by decide +kernel), List.mem_of_getElem? (i := 369) (by decide +kernel)⟩
theorem lw_p7 : lw_okq (⟨"TrialStair$Worker", "leaveBlock", "(LTrialStair$Frame;)V"⟩, 11) := ⟨⟨by decide +kernel, by decide +kernel⟩, List.mem_of_getElem? (i := 144) (by decide +kernel), List.mem_of_getElem? (i := 372) (by decide +kernel), List.mem_of_getElem? (i := 373) (by decide +kernel)⟩
theorem lw_p8 : lw_okq (⟨"TrialStair$Worker", "beginTaker", "(LTrialStair$Frame;)V"⟩, 11) := ⟨⟨by decide +kernel, by decide +kernel⟩, List.mem_of_getElem? (i := 144) (by decide +kernel), List.mem_of_getElem? (i := 383) (by decide +kernel), List.mem_of_getElem? (i := 384) (by decide +kernel)⟩
theorem lw_p9 : lw_okq (⟨"TrialStair$Worker", "beginPart", "(LTrialStair$Frame;III)V"⟩, 11) := ⟨⟨by decide +kernel, by decide +kernel⟩, List.mem_of_getElem? (i := 144) (by decide +kernel), List.mem_of_getElem? (i := 395) (by decide +kernel), List.mem_of_getElem? (i := 396) (by decide +kernel)⟩
theorem lw_p10 : lw_okq (⟨"TrialStair$Worker", "beginFinish", "(LTrialStair$Frame;)V"⟩, 11) := ⟨⟨by decide +kernel, by decide +kernel⟩, List.mem_of_getElem? (i := 144) (by decide +kernel), List.mem_of_getElem? (i := 399) (by decide +kernel), List.mem_of_getElem? (i := 400) (by decide +kernel)⟩
theorem lw_p11 : lw_okq (⟨"TrialStair$Worker", "settleLoop", "(LTrialStair$Frame;)V"⟩, 11) := ⟨⟨by decide +kernel, by decide +kernel⟩, List.mem_of_getElem? (i := 144) (by decide +kernel), List.mem_of_getElem? (i := 408) (by decide +kernel), List.mem_of_getElem? (i := 409) (by decide +kernel)⟩
theorem lw_p12 : lw_okq (⟨"TrialStair$Worker", "takeStep", "()Z"⟩, 11) := ⟨⟨by decide +kernel, by decide +kernel⟩, List.mem_of_getElem? (i := 144) (by decide +kernel), List.mem_of_getElem? (i := 412) (by decide +kernel), List.mem_of_getElem? (i := 413) (by decide +kernel)⟩
theorem lw_p13 : lw_okq (⟨"TrialStair$Worker", "look", "(LTrialStair$Frame;)V"⟩, 11) := ⟨⟨by decide +kernel, by decide +kernel⟩, List.mem_of_getElem? (i := 144) (by decide +kernel), List.mem_of_getElem? (i := 416) (by decide +kernel), List.mem_of_getElem? (i := 417) (by decide +kernel)⟩
theorem lw_p14 : lw_okq (⟨"TrialStair$Worker", "settleRoutine", "(LTrialStair$Frame;)V"⟩, 11) := ⟨⟨by decide +kernel, by decide +kernel⟩, List.mem_of_getElem? (i := 144) (by decide +kernel), List.mem_of_getElem? (i := 428) (by decide +kernel), List.mem_of_getElem? (i := 429) (by decide +kernel)⟩
theorem lw_p15 : lw_okq (⟨"TrialStair$Worker", "reportEnd", "()V"⟩, 11) := ⟨⟨by decide +kernel, by decide +kernel⟩, List.mem_of_getElem? (i := 144) (by decide +kernel), List.mem_of_getElem? (i := 432) (by decide +kernel), List.mem_of_getElem? (i := 433) (by decide +kernel)⟩
def lw_privs_1 : List (MethodName × Nat) := [(⟨"TrialStair$Script", "fit", "(LTrialStair$Step;)V"⟩, 5), (⟨"TrialStair$Script", "beginRoutine", "(I)V"⟩, 5), (⟨"TrialStair$Worker", "enterRoutine", "(ILTrialStair$Step;)V"⟩, 11), (⟨"TrialStair$Worker", "enter", "(LTrialStair$Frame;I)Z"⟩, 11), (⟨"TrialStair$Worker", "stop", "(I)V"⟩, 11), (⟨"TrialStair$Worker", "settle", "(LTrialStair$Frame;)V"⟩, 11), (⟨"TrialStair$Worker", "settleTrial", "(LTrialStair$Frame;)V"⟩, 11), (⟨"TrialStair$Worker", "leaveBlock", "(LTrialStair$Frame;)V"⟩, 11), (⟨"TrialStair$Worker", "beginTaker", "(LTrialStair$Frame;)V"⟩, 11), (⟨"TrialStair$Worker", "beginPart", "(LTrialStair$Frame;III)V"⟩, 11), (⟨"TrialStair$Worker", "beginFinish", "(LTrialStair$Frame;)V"⟩, 11), (⟨"TrialStair$Worker", "settleLoop", "(LTrialStair$Frame;)V"⟩, 11), (⟨"TrialStair$Worker", "takeStep", "()Z"⟩, 11), (⟨"TrialStair$Worker", "look", "(LTrialStair$Frame;)V"⟩, 11), (⟨"TrialStair$Worker", "settleRoutine", "(LTrialStair$Frame;)V"⟩, 11), (⟨"TrialStair$Worker", "reportEnd", "()V"⟩, 11)]
theorem lw_r1 : ∀ q ∈ lw_privs_1, lw_okq q := List.forall_mem_cons.mpr ⟨lw_p0, List.forall_mem_cons.mpr ⟨lw_p1, List.forall_mem_cons.mpr ⟨lw_p2, List.forall_mem_cons.mpr ⟨lw_p3, List.forall_mem_cons.mpr ⟨lw_p4, List.forall_mem_cons.mpr ⟨lw_p5, List.forall_mem_cons.mpr ⟨lw_p6, List.forall_mem_cons.mpr ⟨lw_p7, List.forall_mem_cons.mpr ⟨lw_p8, List.forall_mem_cons.mpr ⟨lw_p9, List.forall_mem_cons.mpr ⟨lw_p10, List.forall_mem_cons.mpr ⟨lw_p11, List.forall_mem_cons.mpr ⟨lw_p12, List.forall_mem_cons.mpr ⟨lw_p13, List.forall_mem_cons.mpr ⟨lw_p14, List.forall_mem_cons.mpr ⟨lw_p15, fun _ h => absurd h List.not_mem_nil⟩⟩⟩⟩⟩⟩⟩⟩⟩⟩⟩⟩⟩⟩⟩⟩
theorem lw_p16 : lw_okq (⟨"TrialStair$Worker", "workStep", "(LTrialStair$Frame;LTrialStair$Step;)V"⟩, 11) := ⟨⟨by decide +kernel, by decide +kernel⟩, List.mem_of_getElem? (i := 144) (by decide +kernel), List.mem_of_getElem? (i := 436) (by decide +kernel), List.mem_of_getElem? (i := 437) (by decide +kernel)⟩
theorem lw_p17 : lw_okq (⟨"TrialStair$Worker", "fail", "(ILTrialStair$Failure;)V"⟩, 11) := ⟨⟨by decide +kernel, by decide +kernel⟩, List.mem_of_getElem? (i := 144) (by decide +kernel), List.mem_of_getElem? (i := 444) (by decide +kernel), List.mem_of_getElem? (i := 445) (by decide +kernel)⟩
theorem lw_p18 : lw_okq (⟨"TrialStair$Worker", "failureAtWork", "()LTrialStair$Failure;"⟩, 11) := ⟨⟨by decide +kernel, by decide +kernel⟩, List.mem_of_getElem? (i := 144) (by decide +kernel), List.mem_of_getElem? (i := 465) (by decide +kernel), List.mem_of_getElem? (i := 466) (by decide +kernel)⟩
theorem lw_p19 : lw_okq (⟨"TrialStair$Worker", "beginBlock", "(LTrialStair$Frame;LTrialStair$Step;)V"⟩, 11) := ⟨⟨by decide +kernel, by decide +kernel⟩, List.mem_of_getElem? (i := 144) (by decide +kernel), List.mem_of_getElem? (i := 469) (by decide +kernel), List.mem_of_getElem? (i := 470) (by decide +kernel)⟩
theorem lw_p20 : lw_okq (⟨"TrialStair$Worker", "callRoutine", "(LTrialStair$Step;)V"⟩, 11) := ⟨⟨by decide +kernel, by decide +kernel⟩, List.mem_of_getElem? (i := 144) (by decide +kernel), List.mem_of_getElem? (i := 478) (by decide +kernel), List.mem_of_getElem? (i := 479) (by decide +kernel)⟩
theorem lw_p21 : lw_okq (⟨"TrialStair$House", "reckon", "(LTrialStair$Step;)I"⟩, 4) := ⟨⟨by decide +kernel, by decide +kernel⟩, List.mem_of_getElem? (i := 51) (by decide +kernel), List.mem_of_getElem? (i := 487) (by decide +kernel), List.mem_of_getElem? (i := 488) (by decide +kernel)⟩
theorem lw_p22 : lw_okq (⟨"TrialStair$House", "makeRow", "(LTrialStair$Step;)I"⟩, 4) := ⟨⟨by decide +kernel, by decide +kernel⟩, List.mem_of_getElem? (i := 51) (by decide +kernel), List.mem_of_getElem? (i := 496) (by decide +kernel), List.mem_of_getElem? (i := 497) (by decide +kernel)⟩
theorem lw_p23 : lw_okq (⟨"TrialStair$House", "intOf", "(I)I"⟩, 4) := ⟨⟨by decide +kernel, by decide +kernel⟩, List.mem_of_getElem? (i := 51) (by decide +kernel), List.mem_of_getElem? (i := 500) (by decide +kernel), List.mem_of_getElem? (i := 501) (by decide +kernel)⟩
theorem lw_p24 : lw_okq (⟨"TrialStair$House", "workRow", "(LTrialStair$Step;)I"⟩, 4) := ⟨⟨by decide +kernel, by decide +kernel⟩, List.mem_of_getElem? (i := 51) (by decide +kernel), List.mem_of_getElem? (i := 540) (by decide +kernel), List.mem_of_getElem? (i := 541) (by decide +kernel)⟩
theorem lw_p25 : lw_okq (⟨"TrialStair$House", "takeThing", "(LTrialStair$Row;II)I"⟩, 4) := ⟨⟨by decide +kernel, by decide +kernel⟩, List.mem_of_getElem? (i := 51) (by decide +kernel), List.mem_of_getElem? (i := 548) (by decide +kernel), List.mem_of_getElem? (i := 549) (by decide +kernel)⟩
theorem lw_p26 : lw_okq (⟨"TrialStair$House", "putThing", "(LTrialStair$Row;II)I"⟩, 4) := ⟨⟨by decide +kernel, by decide +kernel⟩, List.mem_of_getElem? (i := 51) (by decide +kernel), List.mem_of_getElem? (i := 556) (by decide +kernel), List.mem_of_getElem? (i := 557) (by decide +kernel)⟩
theorem lw_p27 : lw_okq (⟨"TrialStair$Row", "narrowed", "(J)J"⟩, 5) := ⟨⟨by decide +kernel, by decide +kernel⟩, List.mem_of_getElem? (i := 507) (by decide +kernel), List.mem_of_getElem? (i := 576) (by decide +kernel), List.mem_of_getElem? (i := 577) (by decide +kernel)⟩
theorem lw_p28 : lw_okq (⟨"TrialStair$House", "workGrid", "(LTrialStair$Step;)I"⟩, 4) := ⟨⟨by decide +kernel, by decide +kernel⟩, List.mem_of_getElem? (i := 51) (by decide +kernel), List.mem_of_getElem? (i := 580) (by decide +kernel), List.mem_of_getElem? (i := 581) (by decide +kernel)⟩
theorem lw_p29 : lw_okq (⟨"TrialStair$House", "workHand", "(LTrialStair$Step;)I"⟩, 4) := ⟨⟨by decide +kernel, by decide +kernel⟩, List.mem_of_getElem? (i := 51) (by decide +kernel), List.mem_of_getElem? (i := 603) (by decide +kernel), List.mem_of_getElem? (i := 604) (by decide +kernel)⟩
theorem lw_p30 : lw_okq (⟨"TrialStair$House", "workMark", "(LTrialStair$Step;LTrialStair$Thing;)I"⟩, 4) := ⟨⟨by decide +kernel, by decide +kernel⟩, List.mem_of_getElem? (i := 51) (by decide +kernel), List.mem_of_getElem? (i := 634) (by decide +kernel), List.mem_of_getElem? (i := 635) (by decide +kernel)⟩
theorem lw_p31 : lw_okq (⟨"TrialStair$House", "workTool", "(LTrialStair$Step;)I"⟩, 4) := ⟨⟨by decide +kernel, by decide +kernel⟩, List.mem_of_getElem? (i := 51) (by decide +kernel), List.mem_of_getElem? (i := 638) (by decide +kernel), List.mem_of_getElem? (i := 639) (by decide +kernel)⟩
def lw_privs_2 : List (MethodName × Nat) := [(⟨"TrialStair$Worker", "workStep", "(LTrialStair$Frame;LTrialStair$Step;)V"⟩, 11), (⟨"TrialStair$Worker", "fail", "(ILTrialStair$Failure;)V"⟩, 11), (⟨"TrialStair$Worker", "failureAtWork", "()LTrialStair$Failure;"⟩, 11), (⟨"TrialStair$Worker", "beginBlock", "(LTrialStair$Frame;LTrialStair$Step;)V"⟩, 11), (⟨"TrialStair$Worker", "callRoutine", "(LTrialStair$Step;)V"⟩, 11), (⟨"TrialStair$House", "reckon", "(LTrialStair$Step;)I"⟩, 4), (⟨"TrialStair$House", "makeRow", "(LTrialStair$Step;)I"⟩, 4), (⟨"TrialStair$House", "intOf", "(I)I"⟩, 4), (⟨"TrialStair$House", "workRow", "(LTrialStair$Step;)I"⟩, 4), (⟨"TrialStair$House", "takeThing", "(LTrialStair$Row;II)I"⟩, 4), (⟨"TrialStair$House", "putThing", "(LTrialStair$Row;II)I"⟩, 4), (⟨"TrialStair$Row", "narrowed", "(J)J"⟩, 5), (⟨"TrialStair$House", "workGrid", "(LTrialStair$Step;)I"⟩, 4), (⟨"TrialStair$House", "workHand", "(LTrialStair$Step;)I"⟩, 4), (⟨"TrialStair$House", "workMark", "(LTrialStair$Step;LTrialStair$Thing;)I"⟩, 4), (⟨"TrialStair$House", "workTool", "(LTrialStair$Step;)I"⟩, 4)]
theorem lw_r2 : ∀ q ∈ lw_privs_2, lw_okq q := List.forall_mem_cons.mpr ⟨lw_p16, List.forall_mem_cons.mpr ⟨lw_p17, List.forall_mem_cons.mpr ⟨lw_p18, List.forall_mem_cons.mpr ⟨lw_p19, List.forall_mem_cons.mpr ⟨lw_p20, List.forall_mem_cons.mpr ⟨lw_p21, List.forall_mem_cons.mpr ⟨lw_p22, List.forall_mem_cons.mpr ⟨lw_p23, List.forall_mem_cons.mpr ⟨lw_p24, List.forall_mem_cons.mpr ⟨lw_p25, List.forall_mem_cons.mpr ⟨lw_p26, List.forall_mem_cons.mpr ⟨lw_p27, List.forall_mem_cons.mpr ⟨lw_p28, List.forall_mem_cons.mpr ⟨lw_p29, List.forall_mem_cons.mpr ⟨lw_p30, List.forall_mem_cons.mpr ⟨lw_p31, fun _ h => absurd h List.not_mem_nil⟩⟩⟩⟩⟩⟩⟩⟩⟩⟩⟩⟩⟩⟩⟩⟩
theorem lw_p32 : lw_okq (⟨"TrialStair$Worker", "goBehind", "(I)V"⟩, 11) := ⟨⟨by decide +kernel, by decide +kernel⟩, List.mem_of_getElem? (i := 144) (by decide +kernel), List.mem_of_getElem? (i := 653) (by decide +kernel), List.mem_of_getElem? (i := 654) (by decide +kernel)⟩
theorem lw_p33 : lw_okq (⟨"TrialStairModel", "layOut", "()V"⟩, 55) := ⟨⟨by decide +kernel, by decide +kernel⟩, List.mem_of_getElem? (i := 731) (by decide +kernel), List.mem_of_getElem? (i := 916) (by decide +kernel), List.mem_of_getElem? (i := 917) (by decide +kernel)⟩
theorem lw_p34 : lw_okq (⟨"TrialStairModel", "isMark", "(I)Z"⟩, 55) := ⟨⟨by decide +kernel, by decide +kernel⟩, List.mem_of_getElem? (i := 731) (by decide +kernel), List.mem_of_getElem? (i := 920) (by decide +kernel), List.mem_of_getElem? (i := 921) (by decide +kernel)⟩
theorem lw_p35 : lw_okq (⟨"TrialStairModel", "layOutRoutine", "(II)V"⟩, 55) := ⟨⟨by decide +kernel, by decide +kernel⟩, List.mem_of_getElem? (i := 731) (by decide +kernel), List.mem_of_getElem? (i := 924) (by decide +kernel), List.mem_of_getElem? (i := 925) (by decide +kernel)⟩
theorem lw_p36 : lw_okq (⟨"TrialStairModel", "belongs", "(III)Z"⟩, 55) := ⟨⟨by decide +kernel, by decide +kernel⟩, List.mem_of_getElem? (i := 731) (by decide +kernel), List.mem_of_getElem? (i := 928) (by decide +kernel), List.mem_of_getElem? (i := 929) (by decide +kernel)⟩
theorem lw_p37 : lw_okq (⟨"TrialStairModel", "begin", "(I)V"⟩, 55) := ⟨⟨by decide +kernel, by decide +kernel⟩, List.mem_of_getElem? (i := 731) (by decide +kernel), List.mem_of_getElem? (i := 932) (by decide +kernel), List.mem_of_getElem? (i := 933) (by decide +kernel)⟩
theorem lw_p38 : lw_okq (⟨"TrialStairModel", "enter", "(II)V"⟩, 55) := ⟨⟨by decide +kernel, by decide +kernel⟩, List.mem_of_getElem? (i := 731) (by decide +kernel), List.mem_of_getElem? (i := 936) (by decide +kernel), List.mem_of_getElem? (i := 937) (by decide +kernel)⟩
theorem lw_p39 : lw_okq (⟨"TrialStairModel", "opens", "(III)Z"⟩, 55) := ⟨⟨by decide +kernel, by decide +kernel⟩, List.mem_of_getElem? (i := 731) (by decide +kernel), List.mem_of_getElem? (i := 940) (by decide +kernel), List.mem_of_getElem? (i := 941) (by decide +kernel)⟩
theorem lw_p40 : lw_okq (⟨"TrialStairModel", "stop", "(I)V"⟩, 55) := ⟨⟨by decide +kernel, by decide +kernel⟩, List.mem_of_getElem? (i := 731) (by decide +kernel), List.mem_of_getElem? (i := 944) (by decide +kernel), List.mem_of_getElem? (i := 945) (by decide +kernel)⟩
theorem lw_p41 : lw_okq (⟨"TrialStairModel", "goes", "()V"⟩, 55) := ⟨⟨by decide +kernel, by decide +kernel⟩, List.mem_of_getElem? (i := 731) (by decide +kernel), List.mem_of_getElem? (i := 948) (by decide +kernel), List.mem_of_getElem? (i := 949) (by decide +kernel)⟩
theorem lw_p42 : lw_okq (⟨"TrialStairModel", "partEnd", "()I"⟩, 55) := ⟨⟨by decide +kernel, by decide +kernel⟩, List.mem_of_getElem? (i := 731) (by decide +kernel), List.mem_of_getElem? (i := 952) (by decide +kernel), List.mem_of_getElem? (i := 953) (by decide +kernel)⟩
theorem lw_p43 : lw_okq (⟨"TrialStairModel", "comes", "()V"⟩, 55) := ⟨⟨by decide +kernel, by decide +kernel⟩, List.mem_of_getElem? (i := 731) (by decide +kernel), List.mem_of_getElem? (i := 956) (by decide +kernel), List.mem_of_getElem? (i := 957) (by decide +kernel)⟩
theorem lw_p44 : lw_okq (⟨"TrialStairModel", "comesOfRoutine", "(I)Z"⟩, 55) := ⟨⟨by decide +kernel, by decide +kernel⟩, List.mem_of_getElem? (i := 731) (by decide +kernel), List.mem_of_getElem? (i := 960) (by decide +kernel), List.mem_of_getElem? (i := 961) (by decide +kernel)⟩
theorem lw_p45 : lw_okq (⟨"TrialStairModel", "comesOfTrial", "(I)Z"⟩, 55) := ⟨⟨by decide +kernel, by decide +kernel⟩, List.mem_of_getElem? (i := 731) (by decide +kernel), List.mem_of_getElem? (i := 964) (by decide +kernel), List.mem_of_getElem? (i := 965) (by decide +kernel)⟩
theorem lw_p46 : lw_okq (⟨"TrialStairModel", "over", "(I)Z"⟩, 55) := ⟨⟨by decide +kernel, by decide +kernel⟩, List.mem_of_getElem? (i := 731) (by decide +kernel), List.mem_of_getElem? (i := 968) (by decide +kernel), List.mem_of_getElem? (i := 969) (by decide +kernel)⟩
theorem lw_p47 : lw_okq (⟨"TrialStairModel", "comesOfLoop", "(I)Z"⟩, 55) := ⟨⟨by decide +kernel, by decide +kernel⟩, List.mem_of_getElem? (i := 731) (by decide +kernel), List.mem_of_getElem? (i := 975) (by decide +kernel), List.mem_of_getElem? (i := 976) (by decide +kernel)⟩
def lw_privs_3 : List (MethodName × Nat) := [(⟨"TrialStair$Worker", "goBehind", "(I)V"⟩, 11), (⟨"TrialStairModel", "layOut", "()V"⟩, 55), (⟨"TrialStairModel", "isMark", "(I)Z"⟩, 55), (⟨"TrialStairModel", "layOutRoutine", "(II)V"⟩, 55), (⟨"TrialStairModel", "belongs", "(III)Z"⟩, 55), (⟨"TrialStairModel", "begin", "(I)V"⟩, 55), (⟨"TrialStairModel", "enter", "(II)V"⟩, 55), (⟨"TrialStairModel", "opens", "(III)Z"⟩, 55), (⟨"TrialStairModel", "stop", "(I)V"⟩, 55), (⟨"TrialStairModel", "goes", "()V"⟩, 55), (⟨"TrialStairModel", "partEnd", "()I"⟩, 55), (⟨"TrialStairModel", "comes", "()V"⟩, 55), (⟨"TrialStairModel", "comesOfRoutine", "(I)Z"⟩, 55), (⟨"TrialStairModel", "comesOfTrial", "(I)Z"⟩, 55), (⟨"TrialStairModel", "over", "(I)Z"⟩, 55), (⟨"TrialStairModel", "comesOfLoop", "(I)Z"⟩, 55)]
theorem lw_r3 : ∀ q ∈ lw_privs_3, lw_okq q := List.forall_mem_cons.mpr ⟨lw_p32, List.forall_mem_cons.mpr ⟨lw_p33, List.forall_mem_cons.mpr ⟨lw_p34, List.forall_mem_cons.mpr ⟨lw_p35, List.forall_mem_cons.mpr ⟨lw_p36, List.forall_mem_cons.mpr ⟨lw_p37, List.forall_mem_cons.mpr ⟨lw_p38, List.forall_mem_cons.mpr ⟨lw_p39, List.forall_mem_cons.mpr ⟨lw_p40, List.forall_mem_cons.mpr ⟨lw_p41, List.forall_mem_cons.mpr ⟨lw_p42, List.forall_mem_cons.mpr ⟨lw_p43, List.forall_mem_cons.mpr ⟨lw_p44, List.forall_mem_cons.mpr ⟨lw_p45, List.forall_mem_cons.mpr ⟨lw_p46, List.forall_mem_cons.mpr ⟨lw_p47, fun _ h => absurd h List.not_mem_nil⟩⟩⟩⟩⟩⟩⟩⟩⟩⟩⟩⟩⟩⟩⟩⟩
theorem lw_p48 : lw_okq (⟨"TrialStairModel", "takes", "()Z"⟩, 55) := ⟨⟨by decide +kernel, by decide +kernel⟩, List.mem_of_getElem? (i := 731) (by decide +kernel), List.mem_of_getElem? (i := 979) (by decide +kernel), List.mem_of_getElem? (i := 980) (by decide +kernel)⟩
theorem lw_p49 : lw_okq (⟨"TrialStairModel", "looks", "(I)V"⟩, 55) := ⟨⟨by decide +kernel, by decide +kernel⟩, List.mem_of_getElem? (i := 731) (by decide +kernel), List.mem_of_getElem? (i := 983) (by decide +kernel), List.mem_of_getElem? (i := 984) (by decide +kernel)⟩
theorem lw_p50 : lw_okq (⟨"TrialStairModel", "reckons", "(I)I"⟩, 55) := ⟨⟨by decide +kernel, by decide +kernel⟩, List.mem_of_getElem? (i := 731) (by decide +kernel), List.mem_of_getElem? (i := 987) (by decide +kernel), List.mem_of_getElem? (i := 988) (by decide +kernel)⟩
theorem lw_p51 : lw_okq (⟨"TrialStairModel", "divides", "(IIJJ)I"⟩, 55) := ⟨⟨by decide +kernel, by decide +kernel⟩, List.mem_of_getElem? (i := 731) (by decide +kernel), List.mem_of_getElem? (i := 991) (by decide +kernel), List.mem_of_getElem? (i := 992) (by decide +kernel)⟩
theorem lw_p52 : lw_okq (⟨"TrialStairModel", "rows", "(I)I"⟩, 55) := ⟨⟨by decide +kernel, by decide +kernel⟩, List.mem_of_getElem? (i := 731) (by decide +kernel), List.mem_of_getElem? (i := 996) (by decide +kernel), List.mem_of_getElem? (i := 997) (by decide +kernel)⟩
theorem lw_p53 : lw_okq (⟨"TrialStairModel", "grids", "(I)I"⟩, 55) := ⟨⟨by decide +kernel, by decide +kernel⟩, List.mem_of_getElem? (i := 731) (by decide +kernel), List.mem_of_getElem? (i := 1000) (by decide +kernel), List.mem_of_getElem? (i := 1001) (by decide +kernel)⟩
theorem lw_p54 : lw_okq (⟨"TrialStairModel", "intOf", "(I)I"⟩, 55) := ⟨⟨by decide +kernel, by decide +kernel⟩, List.mem_of_getElem? (i := 731) (by decide +kernel), List.mem_of_getElem? (i := 1004) (by decide +kernel), List.mem_of_getElem? (i := 1005) (by decide +kernel)⟩
theorem lw_p55 : lw_okq (⟨"TrialStairModel", "makes", "(II)I"⟩, 55) := ⟨⟨by decide +kernel, by decide +kernel⟩, List.mem_of_getElem? (i := 731) (by decide +kernel), List.mem_of_getElem? (i := 1008) (by decide +kernel), List.mem_of_getElem? (i := 1009) (by decide +kernel)⟩
theorem lw_p56 : lw_okq (⟨"TrialStairModel", "looksAt", "(III)I"⟩, 55) := ⟨⟨by decide +kernel, by decide +kernel⟩, List.mem_of_getElem? (i := 731) (by decide +kernel), List.mem_of_getElem? (i := 1012) (by decide +kernel), List.mem_of_getElem? (i := 1013) (by decide +kernel)⟩
theorem lw_p57 : lw_okq (⟨"TrialStairModel", "puts", "(III)I"⟩, 55) := ⟨⟨by decide +kernel, by decide +kernel⟩, List.mem_of_getElem? (i := 731) (by decide +kernel), List.mem_of_getElem? (i := 1016) (by decide +kernel), List.mem_of_getElem? (i := 1017) (by decide +kernel)⟩
theorem lw_p58 : lw_okq (⟨"TrialStairModel", "withThings", "(I)I"⟩, 55) := ⟨⟨by decide +kernel, by decide +kernel⟩, List.mem_of_getElem? (i := 731) (by decide +kernel), List.mem_of_getElem? (i := 1028) (by decide +kernel), List.mem_of_getElem? (i := 1029) (by decide +kernel)⟩
theorem lw_p59 : lw_okq (⟨"TrialStairModel", "newThing", "(IJ)I"⟩, 55) := ⟨⟨by decide +kernel, by decide +kernel⟩, List.mem_of_getElem? (i := 731) (by decide +kernel), List.mem_of_getElem? (i := 1032) (by decide +kernel), List.mem_of_getElem? (i := 1033) (by decide +kernel)⟩
theorem lw_p60 : lw_okq (⟨"TrialStairModel", "casts", "(II)I"⟩, 55) := ⟨⟨by decide +kernel, by decide +kernel⟩, List.mem_of_getElem? (i := 731) (by decide +kernel), List.mem_of_getElem? (i := 1036) (by decide +kernel), List.mem_of_getElem? (i := 1037) (by decide +kernel)⟩
theorem lw_p61 : lw_okq (⟨"TrialStairModel", "makesOf", "(III)I"⟩, 55) := ⟨⟨by decide +kernel, by decide +kernel⟩, List.mem_of_getElem? (i := 731) (by decide +kernel), List.mem_of_getElem? (i := 1040) (by decide +kernel), List.mem_of_getElem? (i := 1041) (by decide +kernel)⟩
theorem lw_p62 : lw_okq (⟨"TrialStairModel", "throwsAt", "(I)I"⟩, 55) := ⟨⟨by decide +kernel, by decide +kernel⟩, List.mem_of_getElem? (i := 731) (by decide +kernel), List.mem_of_getElem? (i := 1046) (by decide +kernel), List.mem_of_getElem? (i := 1047) (by decide +kernel)⟩
theorem lw_p63 : lw_okq (⟨"TrialStairModel", "makeFailure", "(II)V"⟩, 55) := ⟨⟨by decide +kernel, by decide +kernel⟩, List.mem_of_getElem? (i := 731) (by decide +kernel), List.mem_of_getElem? (i := 1050) (by decide +kernel), List.mem_of_getElem? (i := 1051) (by decide +kernel)⟩
def lw_privs_4 : List (MethodName × Nat) := [(⟨"TrialStairModel", "takes", "()Z"⟩, 55), (⟨"TrialStairModel", "looks", "(I)V"⟩, 55), (⟨"TrialStairModel", "reckons", "(I)I"⟩, 55), (⟨"TrialStairModel", "divides", "(IIJJ)I"⟩, 55), (⟨"TrialStairModel", "rows", "(I)I"⟩, 55), (⟨"TrialStairModel", "grids", "(I)I"⟩, 55), (⟨"TrialStairModel", "intOf", "(I)I"⟩, 55), (⟨"TrialStairModel", "makes", "(II)I"⟩, 55), (⟨"TrialStairModel", "looksAt", "(III)I"⟩, 55), (⟨"TrialStairModel", "puts", "(III)I"⟩, 55), (⟨"TrialStairModel", "withThings", "(I)I"⟩, 55), (⟨"TrialStairModel", "newThing", "(IJ)I"⟩, 55), (⟨"TrialStairModel", "casts", "(II)I"⟩, 55), (⟨"TrialStairModel", "makesOf", "(III)I"⟩, 55), (⟨"TrialStairModel", "throwsAt", "(I)I"⟩, 55), (⟨"TrialStairModel", "makeFailure", "(II)V"⟩, 55)]
theorem lw_r4 : ∀ q ∈ lw_privs_4, lw_okq q := List.forall_mem_cons.mpr ⟨lw_p48, List.forall_mem_cons.mpr ⟨lw_p49, List.forall_mem_cons.mpr ⟨lw_p50, List.forall_mem_cons.mpr ⟨lw_p51, List.forall_mem_cons.mpr ⟨lw_p52, List.forall_mem_cons.mpr ⟨lw_p53, List.forall_mem_cons.mpr ⟨lw_p54, List.forall_mem_cons.mpr ⟨lw_p55, List.forall_mem_cons.mpr ⟨lw_p56, List.forall_mem_cons.mpr ⟨lw_p57, List.forall_mem_cons.mpr ⟨lw_p58, List.forall_mem_cons.mpr ⟨lw_p59, List.forall_mem_cons.mpr ⟨lw_p60, List.forall_mem_cons.mpr ⟨lw_p61, List.forall_mem_cons.mpr ⟨lw_p62, List.forall_mem_cons.mpr ⟨lw_p63, fun _ h => absurd h List.not_mem_nil⟩⟩⟩⟩⟩⟩⟩⟩⟩⟩⟩⟩⟩⟩⟩⟩
theorem lw_p64 : lw_okq (⟨"TrialStairModel", "goOn", "(II)V"⟩, 55) := ⟨⟨by decide +kernel, by decide +kernel⟩, List.mem_of_getElem? (i := 731) (by decide +kernel), List.mem_of_getElem? (i := 1054) (by decide +kernel), List.mem_of_getElem? (i := 1055) (by decide +kernel)⟩
theorem lw_p65 : lw_okq (⟨"TrialStairModel", "block", "(II)V"⟩, 55) := ⟨⟨by decide +kernel, by decide +kernel⟩, List.mem_of_getElem? (i := 731) (by decide +kernel), List.mem_of_getElem? (i := 1058) (by decide +kernel), List.mem_of_getElem? (i := 1059) (by decide +kernel)⟩
theorem lw_p66 : lw_okq (⟨"TrialStairModel", "call", "(I)V"⟩, 55) := ⟨⟨by decide +kernel, by decide +kernel⟩, List.mem_of_getElem? (i := 731) (by decide +kernel), List.mem_of_getElem? (i := 1062) (by decide +kernel), List.mem_of_getElem? (i := 1063) (by decide +kernel)⟩
theorem lw_p67 : lw_okq (⟨"TrialStairModel", "causes", "()I"⟩, 55) := ⟨⟨by decide +kernel, by decide +kernel⟩, List.mem_of_getElem? (i := 731) (by decide +kernel), List.mem_of_getElem? (i := 1098) (by decide +kernel), List.mem_of_getElem? (i := 1099) (by decide +kernel)⟩
def lw_privs_5 : List (MethodName × Nat) := [(⟨"TrialStairModel", "goOn", "(II)V"⟩, 55), (⟨"TrialStairModel", "block", "(II)V"⟩, 55), (⟨"TrialStairModel", "call", "(I)V"⟩, 55), (⟨"TrialStairModel", "causes", "()I"⟩, 55)]
theorem lw_r5 : ∀ q ∈ lw_privs_5, lw_okq q := List.forall_mem_cons.mpr ⟨lw_p64, List.forall_mem_cons.mpr ⟨lw_p65, List.forall_mem_cons.mpr ⟨lw_p66, List.forall_mem_cons.mpr ⟨lw_p67, fun _ h => absurd h List.not_mem_nil⟩⟩⟩⟩
def lw_privs : List (MethodName × Nat) := lw_privs_1 ++ (lw_privs_2 ++ (lw_privs_3 ++ (lw_privs_4 ++ (lw_privs_5))))
def lw_tbl : List Cond := k2_sels lw_privs ++ tables_1
theorem lw_privs_ok : ∀ q ∈ lw_privs, lw_okq q := by
  show ∀ q ∈ lw_privs_1 ++ (lw_privs_2 ++ (lw_privs_3 ++ (lw_privs_4 ++ (lw_privs_5)))), lw_okq q
  exact List.forall_mem_append.mpr ⟨lw_r1, List.forall_mem_append.mpr ⟨lw_r2, List.forall_mem_append.mpr ⟨lw_r3, List.forall_mem_append.mpr ⟨lw_r4, lw_r5⟩⟩⟩⟩
-- ===== end of PART A; then your names; then what follows =====
end
section
/-! ===== BEGIN words of one list among another's, by their places ===== -/
theorem goodIn_r {big : List Cond} (ws : List Cond) (ps : List Nat) (hp : ws = ps.filterMap (fun i => big[i]?)) (h : ws.all goodWord = true) : GoodIn big ws := by
  intro w hw
  have h1 := List.all_eq_true.mp h w hw
  rw [hp] at hw
  obtain ⟨i, -, hi⟩ := List.mem_filterMap.mp hw
  have hm : w ∈ big := by first | exact List.mem_of_getElem? hi | exact List.getElem?_mem hi
  exact ⟨hm, good_of_word h1⟩
/-! ===== END ===== -/

/-! ===== BEGIN printed: names, fields, word lists, decode rows ===== -/
def RX0 : String := "TrialStair$Failure"
def TX0 : u_T := fun k => match k with
  | 0 => ("TrialStair$Failure", "kind", "I", true)
  | _ => ("TrialStair$Failure", "cause", "LTrialStair$Failure;", true)
def tyX0 : Nat → FieldType := fun k => match k with
  | 0 => .int
  | _ => .object "TrialStair$Failure"
abbrev wsX00 : List Cond := u_ws RX0 TX0 2
theorem nmX0 : ∀ a, a < 2 → ∀ b, b < 2 → a ≠ b → (TX0 a).2.1 ≠ (TX0 b).2.1 := by decide +kernel
theorem tyX0_ok : ∀ k, k < 2 → parseFieldDescriptor (TX0 k).2.2.1 = some (tyX0 k) := by decide +kernel
abbrev cX0_init : ByteArray := prog_2_method_1_code
def yX0_init : MethodName := ⟨RX0, "<init>", "(ILTrialStair$Failure;)V"⟩
def RX1 : String := "TrialStair$Frame"
def TX1 : u_T := fun k => match k with
  | 0 => ("TrialStair$Frame", "step", "LTrialStair$Step;", true)
  | 1 => ("TrialStair$Frame", "around", "LTrialStair$Frame;", true)
  | 2 => ("TrialStair$Frame", "routineEnd", "I", true)
  | 3 => ("TrialStair$Frame", "until", "I", false)
  | 4 => ("TrialStair$Frame", "stage", "I", false)
  | 5 => ("TrialStair$Frame", "taken", "LTrialStair$Failure;", false)
  | 6 => ("TrialStair$Frame", "heldCome", "I", false)
  | 7 => ("TrialStair$Frame", "heldValue", "J", false)
  | _ => ("TrialStair$Frame", "heldFailure", "LTrialStair$Failure;", false)
def tyX1 : Nat → FieldType := fun k => match k with
  | 0 => .object "TrialStair$Step"
  | 1 => .object "TrialStair$Frame"
  | 2 => .int
  | 3 => .int
  | 4 => .int
  | 5 => .object "TrialStair$Failure"
  | 6 => .int
  | 7 => .long
  | _ => .object "TrialStair$Failure"
abbrev wsX10 : List Cond := u_ws RX1 TX1 9
theorem nmX1 : ∀ a, a < 9 → ∀ b, b < 9 → a ≠ b → (TX1 a).2.1 ≠ (TX1 b).2.1 := by decide +kernel
theorem tyX1_ok : ∀ k, k < 9 → parseFieldDescriptor (TX1 k).2.2.1 = some (tyX1 k) := by decide +kernel
abbrev cX1_init : ByteArray := prog_3_method_1_code
def yX1_init : MethodName := ⟨RX1, "<init>", "(LTrialStair$Step;LTrialStair$Frame;I)V"⟩
abbrev cX1_blockEnd : ByteArray := prog_3_method_2_code
def yX1_blockEnd : MethodName := ⟨RX1, "blockEnd", "()I"⟩
abbrev cX1_placeBehind : ByteArray := prog_3_method_3_code
def yX1_placeBehind : MethodName := ⟨RX1, "placeBehind", "()I"⟩
abbrev cX1_takerEnd : ByteArray := prog_3_method_4_code
def yX1_takerEnd : MethodName := ⟨RX1, "takerEnd", "()I"⟩
abbrev cX1_bodyEnd : ByteArray := prog_3_method_5_code
def yX1_bodyEnd : MethodName := ⟨RX1, "bodyEnd", "()I"⟩
def RX2 : String := "TrialStair$Grid"
def TX2 : u_T := fun k => match k with
  | 0 => ("TrialStair$Grid", "cells", "[I", true)
  | 1 => ("TrialStair$Grid", "made", "Z", false)
  | 2 => ("TrialStair$Grid", "rows", "I", false)
  | _ => ("TrialStair$Grid", "places", "I", false)
def tyX2 : Nat → FieldType := fun k => match k with
  | 0 => .array .int
  | 1 => .boolean
  | 2 => .int
  | _ => .int
abbrev wsX20 : List Cond := u_ws RX2 TX2 4
theorem nmX2 : ∀ a, a < 4 → ∀ b, b < 4 → a ≠ b → (TX2 a).2.1 ≠ (TX2 b).2.1 := by decide +kernel
theorem tyX2_ok : ∀ k, k < 4 → parseFieldDescriptor (TX2 k).2.2.1 = some (tyX2 k) := by decide +kernel
abbrev cX2_init : ByteArray := prog_4_method_1_code
def yX2_init : MethodName := ⟨RX2, "<init>", "()V"⟩
abbrev cX2_make : ByteArray := prog_4_method_2_code
def yX2_make : MethodName := ⟨RX2, "make", "(II)V"⟩
abbrev cX2_has : ByteArray := prog_4_method_3_code
def yX2_has : MethodName := ⟨RX2, "has", "(II)Z"⟩
abbrev cX2_cellAt : ByteArray := prog_4_method_4_code
def yX2_cellAt : MethodName := ⟨RX2, "cellAt", "(II)I"⟩
abbrev cX2_putCell : ByteArray := prog_4_method_5_code
def yX2_putCell : MethodName := ⟨RX2, "putCell", "(III)V"⟩
def RX3 : String := "TrialStair$House"
def TX3 : u_T := fun k => match k with
  | 0 => ("TrialStair$House", "numbers", "[J", true)
  | 1 => ("TrialStair$House", "hands", "[LTrialStair$Thing;", true)
  | 2 => ("TrialStair$House", "rows", "[LTrialStair$Row;", true)
  | _ => ("TrialStair$House", "grid", "LTrialStair$Grid;", true)
def tyX3 : Nat → FieldType := fun k => match k with
  | 0 => .array .long
  | 1 => .array (.object "TrialStair$Thing")
  | 2 => .array (.object "TrialStair$Row")
  | _ => .object "TrialStair$Grid"
abbrev wsX30 : List Cond := u_ws RX3 TX3 4
theorem nmX3 : ∀ a, a < 4 → ∀ b, b < 4 → a ≠ b → (TX3 a).2.1 ≠ (TX3 b).2.1 := by decide +kernel
theorem tyX3_ok : ∀ k, k < 4 → parseFieldDescriptor (TX3 k).2.2.1 = some (tyX3 k) := by decide +kernel
abbrev cX3_init : ByteArray := prog_5_method_1_code
def yX3_init : MethodName := ⟨RX3, "<init>", "()V"⟩
abbrev cX3_numberOf : ByteArray := prog_5_method_2_code
def yX3_numberOf : MethodName := ⟨RX3, "numberOf", "(I)J"⟩
abbrev cX3_setNumber : ByteArray := prog_5_method_3_code
def yX3_setNumber : MethodName := ⟨RX3, "setNumber", "(IJ)V"⟩
abbrev cX3_thingOf : ByteArray := prog_5_method_4_code
def yX3_thingOf : MethodName := ⟨RX3, "thingOf", "(I)LTrialStair$Thing;"⟩
abbrev cX3_rowOf : ByteArray := prog_5_method_5_code
def yX3_rowOf : MethodName := ⟨RX3, "rowOf", "(II)LTrialStair$Row;"⟩
abbrev cX3_intOf : ByteArray := prog_5_method_6_code
def yX3_intOf : MethodName := ⟨RX3, "intOf", "(I)I"⟩
abbrev cX3_workStep : ByteArray := prog_5_method_7_code
def yX3_workStep : MethodName := ⟨RX3, "workStep", "(LTrialStair$Step;)I"⟩
abbrev cX3_reckon : ByteArray := prog_5_method_8_code
def yX3_reckon : MethodName := ⟨RX3, "reckon", "(LTrialStair$Step;)I"⟩
abbrev cX3_reckoned : ByteArray := prog_5_method_9_code
def yX3_reckoned : MethodName := ⟨RX3, "reckoned", "(LTrialStair$Step;JJ)J"⟩
abbrev cX3_workRow : ByteArray := prog_5_method_10_code
def yX3_workRow : MethodName := ⟨RX3, "workRow", "(LTrialStair$Step;)I"⟩
abbrev cX3_makeRow : ByteArray := prog_5_method_11_code
def yX3_makeRow : MethodName := ⟨RX3, "makeRow", "(LTrialStair$Step;)I"⟩
abbrev cX3_takeThing : ByteArray := prog_5_method_12_code
def yX3_takeThing : MethodName := ⟨RX3, "takeThing", "(LTrialStair$Row;II)I"⟩
abbrev cX3_putThing : ByteArray := prog_5_method_13_code
def yX3_putThing : MethodName := ⟨RX3, "putThing", "(LTrialStair$Row;II)I"⟩
abbrev cX3_workGrid : ByteArray := prog_5_method_14_code
def yX3_workGrid : MethodName := ⟨RX3, "workGrid", "(LTrialStair$Step;)I"⟩
abbrev cX3_workHand : ByteArray := prog_5_method_15_code
def yX3_workHand : MethodName := ⟨RX3, "workHand", "(LTrialStair$Step;)I"⟩
abbrev cX3_newThing : ByteArray := prog_5_method_16_code
def yX3_newThing : MethodName := ⟨RX3, "newThing", "(IJ)LTrialStair$Thing;"⟩
abbrev cX3_workMark : ByteArray := prog_5_method_17_code
def yX3_workMark : MethodName := ⟨RX3, "workMark", "(LTrialStair$Step;LTrialStair$Thing;)I"⟩
abbrev cX3_workTool : ByteArray := prog_5_method_18_code
def yX3_workTool : MethodName := ⟨RX3, "workTool", "(LTrialStair$Step;)I"⟩
def RX4 : String := "TrialStair$Report"
def TX4 : u_T := fun k => match k with
  | 0 => ("TrialStair$Report", "outputs", "[J", true)
  | 1 => ("TrialStair$Report", "finishedTrials", "[I", true)
  | 2 => ("TrialStair$Report", "ending", "I", false)
  | 3 => ("TrialStair$Report", "returned", "J", false)
  | 4 => ("TrialStair$Report", "failure", "LTrialStair$Failure;", false)
  | 5 => ("TrialStair$Report", "told", "I", false)
  | 6 => ("TrialStair$Report", "finishes", "I", false)
  | 7 => ("TrialStair$Report", "deepest", "I", false)
  | _ => ("TrialStair$Report", "taken", "I", false)
def tyX4 : Nat → FieldType := fun k => match k with
  | 0 => .array .long
  | 1 => .array .int
  | 2 => .int
  | 3 => .long
  | 4 => .object "TrialStair$Failure"
  | 5 => .int
  | 6 => .int
  | 7 => .int
  | _ => .int
abbrev wsX40 : List Cond := u_ws RX4 TX4 9
theorem nmX4 : ∀ a, a < 9 → ∀ b, b < 9 → a ≠ b → (TX4 a).2.1 ≠ (TX4 b).2.1 := by decide +kernel
theorem tyX4_ok : ∀ k, k < 9 → parseFieldDescriptor (TX4 k).2.2.1 = some (tyX4 k) := by decide +kernel
abbrev cX4_init : ByteArray := prog_6_method_1_code
def yX4_init : MethodName := ⟨RX4, "<init>", "()V"⟩
abbrev cX4_begin : ByteArray := prog_6_method_2_code
def yX4_begin : MethodName := ⟨RX4, "begin", "()V"⟩
abbrev cX4_tell : ByteArray := prog_6_method_3_code
def yX4_tell : MethodName := ⟨RX4, "tell", "(J)V"⟩
abbrev cX4_noteFinish : ByteArray := prog_6_method_4_code
def yX4_noteFinish : MethodName := ⟨RX4, "noteFinish", "(I)V"⟩
abbrev cX4_countCauses : ByteArray := prog_6_method_5_code
def yX4_countCauses : MethodName := ⟨RX4, "countCauses", "()I"⟩
def RX5 : String := "TrialStair$Row"
def TX5 : u_T := fun k => match k with
  | 0 => ("TrialStair$Row", "sort", "I", true)
  | 1 => ("TrialStair$Row", "numbers", "[J", true)
  | 2 => ("TrialStair$Row", "things", "[LTrialStair$Thing;", true)
  | 3 => ("TrialStair$Row", "places", "I", false)
  | _ => ("TrialStair$Row", "sawsAlone", "Z", false)
def tyX5 : Nat → FieldType := fun k => match k with
  | 0 => .int
  | 1 => .array .long
  | 2 => .array (.object "TrialStair$Thing")
  | 3 => .int
  | _ => .boolean
abbrev wsX50 : List Cond := u_ws RX5 TX5 5
theorem nmX5 : ∀ a, a < 5 → ∀ b, b < 5 → a ≠ b → (TX5 a).2.1 ≠ (TX5 b).2.1 := by decide +kernel
theorem tyX5_ok : ∀ k, k < 5 → parseFieldDescriptor (TX5 k).2.2.1 = some (tyX5 k) := by decide +kernel
abbrev cX5_init : ByteArray := prog_7_method_1_code
def yX5_init : MethodName := ⟨RX5, "<init>", "(I)V"⟩
abbrev cX5_empty : ByteArray := prog_7_method_2_code
def yX5_empty : MethodName := ⟨RX5, "empty", "(IZ)V"⟩
abbrev cX5_has : ByteArray := prog_7_method_3_code
def yX5_has : MethodName := ⟨RX5, "has", "(I)Z"⟩
abbrev cX5_numberAt : ByteArray := prog_7_method_4_code
def yX5_numberAt : MethodName := ⟨RX5, "numberAt", "(I)J"⟩
abbrev cX5_thingAt : ByteArray := prog_7_method_5_code
def yX5_thingAt : MethodName := ⟨RX5, "thingAt", "(I)LTrialStair$Thing;"⟩
abbrev cX5_putNumber : ByteArray := prog_7_method_6_code
def yX5_putNumber : MethodName := ⟨RX5, "putNumber", "(IJ)V"⟩
abbrev cX5_putThing : ByteArray := prog_7_method_7_code
def yX5_putThing : MethodName := ⟨RX5, "putThing", "(ILTrialStair$Thing;)V"⟩
abbrev cX5_narrowed : ByteArray := prog_7_method_8_code
def yX5_narrowed : MethodName := ⟨RX5, "narrowed", "(J)J"⟩
def RX6 : String := "TrialStair$Script"
def TX6 : u_T := fun k => match k with
  | 0 => ("TrialStair$Script", "steps", "[LTrialStair$Step;", true)
  | 1 => ("TrialStair$Script", "marks", "[I", true)
  | 2 => ("TrialStair$Script", "innermost", "LTrialStair$Step;", false)
  | 3 => ("TrialStair$Script", "length", "I", false)
  | _ => ("TrialStair$Script", "routines", "I", false)
def tyX6 : Nat → FieldType := fun k => match k with
  | 0 => .array (.object "TrialStair$Step")
  | 1 => .array .int
  | 2 => .object "TrialStair$Step"
  | 3 => .int
  | _ => .int
abbrev wsX60 : List Cond := u_ws RX6 TX6 5
theorem nmX6 : ∀ a, a < 5 → ∀ b, b < 5 → a ≠ b → (TX6 a).2.1 ≠ (TX6 b).2.1 := by decide +kernel
theorem tyX6_ok : ∀ k, k < 5 → parseFieldDescriptor (TX6 k).2.2.1 = some (tyX6 k) := by decide +kernel
abbrev cX6_init : ByteArray := prog_8_method_1_code
def yX6_init : MethodName := ⟨RX6, "<init>", "()V"⟩
abbrev cX6_clear : ByteArray := prog_8_method_2_code
def yX6_clear : MethodName := ⟨RX6, "clear", "()V"⟩
abbrev cX6_add : ByteArray := prog_8_method_3_code
def yX6_add : MethodName := ⟨RX6, "add", "(IIII)V"⟩
abbrev cX6_beginRoutine : ByteArray := prog_8_method_4_code
def yX6_beginRoutine : MethodName := ⟨RX6, "beginRoutine", "(I)V"⟩
abbrev cX6_fit : ByteArray := prog_8_method_5_code
def yX6_fit : MethodName := ⟨RX6, "fit", "(LTrialStair$Step;)V"⟩
abbrev cX6_hasRoutine : ByteArray := prog_8_method_6_code
def yX6_hasRoutine : MethodName := ⟨RX6, "hasRoutine", "(I)Z"⟩
abbrev cX6_firstPlaceOf : ByteArray := prog_8_method_7_code
def yX6_firstPlaceOf : MethodName := ⟨RX6, "firstPlaceOf", "(I)I"⟩
abbrev cX6_placeBehind : ByteArray := prog_8_method_8_code
def yX6_placeBehind : MethodName := ⟨RX6, "placeBehind", "(I)I"⟩
abbrev cX6_stepAt : ByteArray := prog_8_method_9_code
def yX6_stepAt : MethodName := ⟨RX6, "stepAt", "(I)LTrialStair$Step;"⟩
def RX7 : String := "TrialStair$Step"
def TX7 : u_T := fun k => match k with
  | 0 => ("TrialStair$Step", "place", "I", true)
  | 1 => ("TrialStair$Step", "op", "I", true)
  | 2 => ("TrialStair$Step", "a", "I", true)
  | 3 => ("TrialStair$Step", "b", "I", true)
  | 4 => ("TrialStair$Step", "c", "I", true)
  | 5 => ("TrialStair$Step", "around", "LTrialStair$Step;", false)
  | 6 => ("TrialStair$Step", "taker", "I", false)
  | 7 => ("TrialStair$Step", "finish", "I", false)
  | _ => ("TrialStair$Step", "close", "I", false)
def tyX7 : Nat → FieldType := fun k => match k with
  | 0 => .int
  | 1 => .int
  | 2 => .int
  | 3 => .int
  | 4 => .int
  | 5 => .object "TrialStair$Step"
  | 6 => .int
  | 7 => .int
  | _ => .int
abbrev wsX70 : List Cond := u_ws RX7 TX7 9
theorem nmX7 : ∀ a, a < 9 → ∀ b, b < 9 → a ≠ b → (TX7 a).2.1 ≠ (TX7 b).2.1 := by decide +kernel
theorem tyX7_ok : ∀ k, k < 9 → parseFieldDescriptor (TX7 k).2.2.1 = some (tyX7 k) := by decide +kernel
abbrev cX7_init : ByteArray := prog_9_method_1_code
def yX7_init : MethodName := ⟨RX7, "<init>", "(IIIII)V"⟩
def RX8 : String := "TrialStair$Thing"
def TX8 : u_T := fun k => match k with
  | 0 => ("TrialStair$Thing", "kind", "I", true)
  | _ => ("TrialStair$Thing", "mark", "J", false)
def tyX8 : Nat → FieldType := fun k => match k with
  | 0 => .int
  | _ => .long
abbrev wsX80 : List Cond := u_ws RX8 TX8 2
theorem nmX8 : ∀ a, a < 2 → ∀ b, b < 2 → a ≠ b → (TX8 a).2.1 ≠ (TX8 b).2.1 := by decide +kernel
theorem tyX8_ok : ∀ k, k < 2 → parseFieldDescriptor (TX8 k).2.2.1 = some (tyX8 k) := by decide +kernel
abbrev cX8_init : ByteArray := prog_10_method_1_code
def yX8_init : MethodName := ⟨RX8, "<init>", "(IJ)V"⟩
abbrev cX8_rings : ByteArray := prog_10_method_2_code
def yX8_rings : MethodName := ⟨RX8, "rings", "()Z"⟩
abbrev cX8_isCastAs : ByteArray := prog_10_method_3_code
def yX8_isCastAs : MethodName := ⟨RX8, "isCastAs", "(I)Z"⟩
abbrev cX8_use : ByteArray := prog_10_method_4_code
def yX8_use : MethodName := ⟨RX8, "use", "(J)J"⟩
abbrev cX8_ring : ByteArray := prog_10_method_5_code
def yX8_ring : MethodName := ⟨RX8, "ring", "(J)J"⟩
def RX9 : String := "TrialStair$Worker"
def TX9 : u_T := fun k => match k with
  | 0 => ("TrialStair$Worker", "script", "LTrialStair$Script;", true)
  | 1 => ("TrialStair$Worker", "house", "LTrialStair$House;", true)
  | 2 => ("TrialStair$Worker", "report", "LTrialStair$Report;", true)
  | 3 => ("TrialStair$Worker", "beginning", "LTrialStair$Step;", true)
  | 4 => ("TrialStair$Worker", "top", "LTrialStair$Frame;", false)
  | 5 => ("TrialStair$Worker", "open", "I", false)
  | 6 => ("TrialStair$Worker", "place", "I", false)
  | 7 => ("TrialStair$Worker", "stepsLeft", "I", false)
  | 8 => ("TrialStair$Worker", "come", "I", false)
  | 9 => ("TrialStair$Worker", "value", "J", false)
  | _ => ("TrialStair$Worker", "failure", "LTrialStair$Failure;", false)
def tyX9 : Nat → FieldType := fun k => match k with
  | 0 => .object "TrialStair$Script"
  | 1 => .object "TrialStair$House"
  | 2 => .object "TrialStair$Report"
  | 3 => .object "TrialStair$Step"
  | 4 => .object "TrialStair$Frame"
  | 5 => .int
  | 6 => .int
  | 7 => .int
  | 8 => .int
  | 9 => .long
  | _ => .object "TrialStair$Failure"
abbrev wsX90 : List Cond := u_ws RX9 TX9 11
theorem nmX9 : ∀ a, a < 11 → ∀ b, b < 11 → a ≠ b → (TX9 a).2.1 ≠ (TX9 b).2.1 := by decide +kernel
theorem tyX9_ok : ∀ k, k < 11 → parseFieldDescriptor (TX9 k).2.2.1 = some (tyX9 k) := by decide +kernel
abbrev cX9_init : ByteArray := prog_11_method_1_code
def yX9_init : MethodName := ⟨RX9, "<init>", "(LTrialStair$Script;LTrialStair$House;LTrialStair$Report;)V"⟩
abbrev cX9_workRun : ByteArray := prog_11_method_2_code
def yX9_workRun : MethodName := ⟨RX9, "workRun", "(II)I"⟩
abbrev cX9_takeStep : ByteArray := prog_11_method_3_code
def yX9_takeStep : MethodName := ⟨RX9, "takeStep", "()Z"⟩
abbrev cX9_stop : ByteArray := prog_11_method_4_code
def yX9_stop : MethodName := ⟨RX9, "stop", "(I)V"⟩
abbrev cX9_workStep : ByteArray := prog_11_method_5_code
def yX9_workStep : MethodName := ⟨RX9, "workStep", "(LTrialStair$Frame;LTrialStair$Step;)V"⟩
abbrev cX9_goBehind : ByteArray := prog_11_method_6_code
def yX9_goBehind : MethodName := ⟨RX9, "goBehind", "(I)V"⟩
abbrev cX9_fail : ByteArray := prog_11_method_7_code
def yX9_fail : MethodName := ⟨RX9, "fail", "(ILTrialStair$Failure;)V"⟩
abbrev cX9_failureAtWork : ByteArray := prog_11_method_8_code
def yX9_failureAtWork : MethodName := ⟨RX9, "failureAtWork", "()LTrialStair$Failure;"⟩
abbrev cX9_callRoutine : ByteArray := prog_11_method_9_code
def yX9_callRoutine : MethodName := ⟨RX9, "callRoutine", "(LTrialStair$Step;)V"⟩
abbrev cX9_enterRoutine : ByteArray := prog_11_method_10_code
def yX9_enterRoutine : MethodName := ⟨RX9, "enterRoutine", "(ILTrialStair$Step;)V"⟩
abbrev cX9_beginBlock : ByteArray := prog_11_method_11_code
def yX9_beginBlock : MethodName := ⟨RX9, "beginBlock", "(LTrialStair$Frame;LTrialStair$Step;)V"⟩
abbrev cX9_enter : ByteArray := prog_11_method_12_code
def yX9_enter : MethodName := ⟨RX9, "enter", "(LTrialStair$Frame;I)Z"⟩
abbrev cX9_look : ByteArray := prog_11_method_13_code
def yX9_look : MethodName := ⟨RX9, "look", "(LTrialStair$Frame;)V"⟩
abbrev cX9_settle : ByteArray := prog_11_method_14_code
def yX9_settle : MethodName := ⟨RX9, "settle", "(LTrialStair$Frame;)V"⟩
abbrev cX9_leaveBlock : ByteArray := prog_11_method_15_code
def yX9_leaveBlock : MethodName := ⟨RX9, "leaveBlock", "(LTrialStair$Frame;)V"⟩
abbrev cX9_settleLoop : ByteArray := prog_11_method_16_code
def yX9_settleLoop : MethodName := ⟨RX9, "settleLoop", "(LTrialStair$Frame;)V"⟩
abbrev cX9_settleTrial : ByteArray := prog_11_method_17_code
def yX9_settleTrial : MethodName := ⟨RX9, "settleTrial", "(LTrialStair$Frame;)V"⟩
abbrev cX9_takes : ByteArray := prog_11_method_18_code
def yX9_takes : MethodName := ⟨RX9, "takes", "(LTrialStair$Step;LTrialStair$Failure;)Z"⟩
abbrev cX9_beginTaker : ByteArray := prog_11_method_19_code
def yX9_beginTaker : MethodName := ⟨RX9, "beginTaker", "(LTrialStair$Frame;)V"⟩
abbrev cX9_beginFinish : ByteArray := prog_11_method_20_code
def yX9_beginFinish : MethodName := ⟨RX9, "beginFinish", "(LTrialStair$Frame;)V"⟩
abbrev cX9_beginPart : ByteArray := prog_11_method_21_code
def yX9_beginPart : MethodName := ⟨RX9, "beginPart", "(LTrialStair$Frame;III)V"⟩
abbrev cX9_settleRoutine : ByteArray := prog_11_method_22_code
def yX9_settleRoutine : MethodName := ⟨RX9, "settleRoutine", "(LTrialStair$Frame;)V"⟩
abbrev cX9_reportEnd : ByteArray := prog_11_method_23_code
def yX9_reportEnd : MethodName := ⟨RX9, "reportEnd", "()V"⟩
def RX10 : String := "TrialStair"
def TX10 : u_T := fun k => match k with
  | 0 => ("TrialStair", "script", "LTrialStair$Script;", true)
  | 1 => ("TrialStair", "house", "LTrialStair$House;", true)
  | 2 => ("TrialStair", "report", "LTrialStair$Report;", true)
  | 3 => ("TrialStair", "worker", "LTrialStair$Worker;", true)
  | 4 => ("TrialStair", "stepsOfAllRuns", "I", false)
  | _ => ("TrialStair", "runs", "I", false)
def tyX10 : Nat → FieldType := fun k => match k with
  | 0 => .object "TrialStair$Script"
  | 1 => .object "TrialStair$House"
  | 2 => .object "TrialStair$Report"
  | 3 => .object "TrialStair$Worker"
  | 4 => .int
  | _ => .int
abbrev wsX100 : List Cond := u_ws RX10 TX10 6
theorem nmX10 : ∀ a, a < 6 → ∀ b, b < 6 → a ≠ b → (TX10 a).2.1 ≠ (TX10 b).2.1 := by decide +kernel
theorem tyX10_ok : ∀ k, k < 6 → parseFieldDescriptor (TX10 k).2.2.1 = some (tyX10 k) := by decide +kernel
abbrev cX10_init : ByteArray := prog_1_method_1_code
def yX10_init : MethodName := ⟨RX10, "<init>", "()V"⟩
abbrev cX10_step : ByteArray := prog_1_method_2_code
def yX10_step : MethodName := ⟨RX10, "step", "(IIII)I"⟩
abbrev cX10_wipe : ByteArray := prog_1_method_3_code
def yX10_wipe : MethodName := ⟨RX10, "wipe", "()I"⟩
abbrev cX10_run : ByteArray := prog_1_method_4_code
def yX10_run : MethodName := ⟨RX10, "run", "(II)I"⟩
abbrev cX10_end : ByteArray := prog_1_method_5_code
def yX10_end : MethodName := ⟨RX10, "end", "()I"⟩
abbrev cX10_result : ByteArray := prog_1_method_6_code
def yX10_result : MethodName := ⟨RX10, "result", "()J"⟩
abbrev cX10_kind : ByteArray := prog_1_method_7_code
def yX10_kind : MethodName := ⟨RX10, "kind", "()I"⟩
abbrev cX10_cause : ByteArray := prog_1_method_8_code
def yX10_cause : MethodName := ⟨RX10, "cause", "(I)I"⟩
abbrev cX10_out : ByteArray := prog_1_method_9_code
def yX10_out : MethodName := ⟨RX10, "out", "(I)J"⟩
abbrev cX10_finished : ByteArray := prog_1_method_10_code
def yX10_finished : MethodName := ⟨RX10, "finished", "(I)I"⟩
abbrev cX10_depth : ByteArray := prog_1_method_11_code
def yX10_depth : MethodName := ⟨RX10, "depth", "()I"⟩
abbrev cX10_status : ByteArray := prog_1_method_12_code
def yX10_status : MethodName := ⟨RX10, "status", "(I)I"⟩
abbrev cX10_number : ByteArray := prog_1_method_13_code
def yX10_number : MethodName := ⟨RX10, "number", "(I)J"⟩
abbrev cX10_hand : ByteArray := prog_1_method_14_code
def yX10_hand : MethodName := ⟨RX10, "hand", "(I)I"⟩
abbrev cX10_mark : ByteArray := prog_1_method_15_code
def yX10_mark : MethodName := ⟨RX10, "mark", "(I)J"⟩
abbrev cX10_size : ByteArray := prog_1_method_16_code
def yX10_size : MethodName := ⟨RX10, "size", "(II)I"⟩
abbrev cX10_value : ByteArray := prog_1_method_17_code
def yX10_value : MethodName := ⟨RX10, "value", "(III)J"⟩
abbrev cX10_grid : ByteArray := prog_1_method_18_code
def yX10_grid : MethodName := ⟨RX10, "grid", "(II)I"⟩
abbrev cX10_isOfEight : ByteArray := prog_1_method_19_code
def yX10_isOfEight : MethodName := ⟨RX10, "isOfEight", "(I)Z"⟩
abbrev cX10_kindOf : ByteArray := prog_1_method_20_code
def yX10_kindOf : MethodName := ⟨RX10, "kindOf", "(LTrialStair$Thing;)I"⟩
def RX11 : String := "TrialStairModel"
def TX11 : u_T := fun k => match k with
  | 0 => ("TrialStairModel", "ops", "[I", true)
  | 1 => ("TrialStairModel", "as", "[I", true)
  | 2 => ("TrialStairModel", "bs", "[I", true)
  | 3 => ("TrialStairModel", "cs", "[I", true)
  | 4 => ("TrialStairModel", "steps", "I", false)
  | 5 => ("TrialStairModel", "blockEnd", "[I", true)
  | 6 => ("TrialStairModel", "takerOf", "[I", true)
  | 7 => ("TrialStairModel", "finishOf", "[I", true)
  | 8 => ("TrialStairModel", "behind", "[I", true)
  | 9 => ("TrialStairModel", "begun", "[I", true)
  | 10 => ("TrialStairModel", "routineFrom", "[I", true)
  | 11 => ("TrialStairModel", "routineTo", "[I", true)
  | 12 => ("TrialStairModel", "routines", "I", false)
  | 13 => ("TrialStairModel", "numbers", "[J", true)
  | 14 => ("TrialStairModel", "hands", "[I", true)
  | 15 => ("TrialStairModel", "thingKind", "[I", true)
  | 16 => ("TrialStairModel", "thingMark", "[J", true)
  | 17 => ("TrialStairModel", "things", "I", false)
  | 18 => ("TrialStairModel", "rowSize", "[I", true)
  | 19 => ("TrialStairModel", "sawsAlone", "[Z", true)
  | 20 => ("TrialStairModel", "rowValues", "[J", true)
  | 21 => ("TrialStairModel", "hasGrid", "Z", false)
  | 22 => ("TrialStairModel", "gridRows", "I", false)
  | 23 => ("TrialStairModel", "gridPlaces", "I", false)
  | 24 => ("TrialStairModel", "gridValues", "[I", true)
  | 25 => ("TrialStairModel", "openKind", "[I", true)
  | 26 => ("TrialStairModel", "openAt", "[I", true)
  | 27 => ("TrialStairModel", "openEnd", "[I", true)
  | 28 => ("TrialStairModel", "openPart", "[I", true)
  | 29 => ("TrialStairModel", "openTaken", "[I", true)
  | 30 => ("TrialStairModel", "openWhat", "[I", true)
  | 31 => ("TrialStairModel", "openValue", "[J", true)
  | 32 => ("TrialStairModel", "openFailure", "[I", true)
  | 33 => ("TrialStairModel", "open", "I", false)
  | 34 => ("TrialStairModel", "at", "I", false)
  | 35 => ("TrialStairModel", "works", "Z", false)
  | 36 => ("TrialStairModel", "what", "I", false)
  | 37 => ("TrialStairModel", "value", "J", false)
  | 38 => ("TrialStairModel", "failure", "I", false)
  | 39 => ("TrialStairModel", "failureKind", "[I", true)
  | 40 => ("TrialStairModel", "failureCause", "[I", true)
  | 41 => ("TrialStairModel", "failures", "I", false)
  | 42 => ("TrialStairModel", "left", "I", false)
  | 43 => ("TrialStairModel", "took", "I", false)
  | 44 => ("TrialStairModel", "runs", "I", false)
  | 45 => ("TrialStairModel", "allSteps", "I", false)
  | 46 => ("TrialStairModel", "ended", "I", false)
  | 47 => ("TrialStairModel", "result", "J", false)
  | 48 => ("TrialStairModel", "lastFailure", "I", false)
  | 49 => ("TrialStairModel", "outs", "[J", true)
  | 50 => ("TrialStairModel", "outCount", "I", false)
  | 51 => ("TrialStairModel", "finishedAt", "[I", true)
  | 52 => ("TrialStairModel", "finishedCount", "I", false)
  | 53 => ("TrialStairModel", "takenCount", "I", false)
  | _ => ("TrialStairModel", "deepest", "I", false)
def tyX11 : Nat → FieldType := fun k => match k with
  | 0 => .array .int
  | 1 => .array .int
  | 2 => .array .int
  | 3 => .array .int
  | 4 => .int
  | 5 => .array .int
  | 6 => .array .int
  | 7 => .array .int
  | 8 => .array .int
  | 9 => .array .int
  | 10 => .array .int
  | 11 => .array .int
  | 12 => .int
  | 13 => .array .long
  | 14 => .array .int
  | 15 => .array .int
  | 16 => .array .long
  | 17 => .int
  | 18 => .array .int
  | 19 => .array .boolean
  | 20 => .array .long
  | 21 => .boolean
  | 22 => .int
  | 23 => .int
  | 24 => .array .int
  | 25 => .array .int
  | 26 => .array .int
  | 27 => .array .int
  | 28 => .array .int
  | 29 => .array .int
  | 30 => .array .int
  | 31 => .array .long
  | 32 => .array .int
  | 33 => .int
  | 34 => .int
  | 35 => .boolean
  | 36 => .int
  | 37 => .long
  | 38 => .int
  | 39 => .array .int
  | 40 => .array .int
  | 41 => .int
  | 42 => .int
  | 43 => .int
  | 44 => .int
  | 45 => .int
  | 46 => .int
  | 47 => .long
  | 48 => .int
  | 49 => .array .long
  | 50 => .int
  | 51 => .array .int
  | 52 => .int
  | 53 => .int
  | _ => .int
abbrev wsX110 : List Cond := u_ws RX11 TX11 55
theorem nmX11 : ∀ a, a < 55 → ∀ b, b < 55 → a ≠ b → (TX11 a).2.1 ≠ (TX11 b).2.1 := by decide +kernel
theorem tyX11_ok : ∀ k, k < 55 → parseFieldDescriptor (TX11 k).2.2.1 = some (tyX11 k) := by decide +kernel
abbrev cX11_init : ByteArray := prog_13_method_1_code
def yX11_init : MethodName := ⟨RX11, "<init>", "()V"⟩
abbrev cX11_step : ByteArray := prog_13_method_2_code
def yX11_step : MethodName := ⟨RX11, "step", "(IIII)I"⟩
abbrev cX11_wipe : ByteArray := prog_13_method_3_code
def yX11_wipe : MethodName := ⟨RX11, "wipe", "()I"⟩
abbrev cX11_isMark : ByteArray := prog_13_method_4_code
def yX11_isMark : MethodName := ⟨RX11, "isMark", "(I)Z"⟩
abbrev cX11_layOut : ByteArray := prog_13_method_5_code
def yX11_layOut : MethodName := ⟨RX11, "layOut", "()V"⟩
abbrev cX11_layOutRoutine : ByteArray := prog_13_method_6_code
def yX11_layOutRoutine : MethodName := ⟨RX11, "layOutRoutine", "(II)V"⟩
abbrev cX11_belongs : ByteArray := prog_13_method_7_code
def yX11_belongs : MethodName := ⟨RX11, "belongs", "(III)Z"⟩
abbrev cX11_run : ByteArray := prog_13_method_8_code
def yX11_run : MethodName := ⟨RX11, "run", "(II)I"⟩
abbrev cX11_begin : ByteArray := prog_13_method_9_code
def yX11_begin : MethodName := ⟨RX11, "begin", "(I)V"⟩
abbrev cX11_stop : ByteArray := prog_13_method_10_code
def yX11_stop : MethodName := ⟨RX11, "stop", "(I)V"⟩
abbrev cX11_takes : ByteArray := prog_13_method_11_code
def yX11_takes : MethodName := ⟨RX11, "takes", "()Z"⟩
abbrev cX11_opens : ByteArray := prog_13_method_12_code
def yX11_opens : MethodName := ⟨RX11, "opens", "(III)Z"⟩
abbrev cX11_enter : ByteArray := prog_13_method_13_code
def yX11_enter : MethodName := ⟨RX11, "enter", "(II)V"⟩
abbrev cX11_partEnd : ByteArray := prog_13_method_14_code
def yX11_partEnd : MethodName := ⟨RX11, "partEnd", "()I"⟩
abbrev cX11_goes : ByteArray := prog_13_method_15_code
def yX11_goes : MethodName := ⟨RX11, "goes", "()V"⟩
abbrev cX11_goOn : ByteArray := prog_13_method_16_code
def yX11_goOn : MethodName := ⟨RX11, "goOn", "(II)V"⟩
abbrev cX11_makeFailure : ByteArray := prog_13_method_17_code
def yX11_makeFailure : MethodName := ⟨RX11, "makeFailure", "(II)V"⟩
abbrev cX11_block : ByteArray := prog_13_method_18_code
def yX11_block : MethodName := ⟨RX11, "block", "(II)V"⟩
abbrev cX11_looks : ByteArray := prog_13_method_19_code
def yX11_looks : MethodName := ⟨RX11, "looks", "(I)V"⟩
abbrev cX11_call : ByteArray := prog_13_method_20_code
def yX11_call : MethodName := ⟨RX11, "call", "(I)V"⟩
abbrev cX11_comes : ByteArray := prog_13_method_21_code
def yX11_comes : MethodName := ⟨RX11, "comes", "()V"⟩
abbrev cX11_over : ByteArray := prog_13_method_22_code
def yX11_over : MethodName := ⟨RX11, "over", "(I)Z"⟩
abbrev cX11_comesOfLoop : ByteArray := prog_13_method_23_code
def yX11_comesOfLoop : MethodName := ⟨RX11, "comesOfLoop", "(I)Z"⟩
abbrev cX11_comesOfTrial : ByteArray := prog_13_method_24_code
def yX11_comesOfTrial : MethodName := ⟨RX11, "comesOfTrial", "(I)Z"⟩
abbrev cX11_isTaken : ByteArray := prog_13_method_25_code
def yX11_isTaken : MethodName := ⟨RX11, "isTaken", "(II)Z"⟩
abbrev cX11_comesOfRoutine : ByteArray := prog_13_method_26_code
def yX11_comesOfRoutine : MethodName := ⟨RX11, "comesOfRoutine", "(I)Z"⟩
abbrev cX11_reckons : ByteArray := prog_13_method_27_code
def yX11_reckons : MethodName := ⟨RX11, "reckons", "(I)I"⟩
abbrev cX11_divides : ByteArray := prog_13_method_28_code
def yX11_divides : MethodName := ⟨RX11, "divides", "(IIJJ)I"⟩
abbrev cX11_intOf : ByteArray := prog_13_method_29_code
def yX11_intOf : MethodName := ⟨RX11, "intOf", "(I)I"⟩
abbrev cX11_rows : ByteArray := prog_13_method_30_code
def yX11_rows : MethodName := ⟨RX11, "rows", "(I)I"⟩
abbrev cX11_makes : ByteArray := prog_13_method_31_code
def yX11_makes : MethodName := ⟨RX11, "makes", "(II)I"⟩
abbrev cX11_looksAt : ByteArray := prog_13_method_32_code
def yX11_looksAt : MethodName := ⟨RX11, "looksAt", "(III)I"⟩
abbrev cX11_puts : ByteArray := prog_13_method_33_code
def yX11_puts : MethodName := ⟨RX11, "puts", "(III)I"⟩
abbrev cX11_fitted : ByteArray := prog_13_method_34_code
def yX11_fitted : MethodName := ⟨RX11, "fitted", "(IJ)J"⟩
abbrev cX11_rounded : ByteArray := prog_13_method_35_code
def yX11_rounded : MethodName := ⟨RX11, "rounded", "(JI)J"⟩
abbrev cX11_grids : ByteArray := prog_13_method_36_code
def yX11_grids : MethodName := ⟨RX11, "grids", "(I)I"⟩
abbrev cX11_withThings : ByteArray := prog_13_method_37_code
def yX11_withThings : MethodName := ⟨RX11, "withThings", "(I)I"⟩
abbrev cX11_newThing : ByteArray := prog_13_method_38_code
def yX11_newThing : MethodName := ⟨RX11, "newThing", "(IJ)I"⟩
abbrev cX11_casts : ByteArray := prog_13_method_39_code
def yX11_casts : MethodName := ⟨RX11, "casts", "(II)I"⟩
abbrev cX11_makesOf : ByteArray := prog_13_method_40_code
def yX11_makesOf : MethodName := ⟨RX11, "makesOf", "(III)I"⟩
abbrev cX11_throwsAt : ByteArray := prog_13_method_41_code
def yX11_throwsAt : MethodName := ⟨RX11, "throwsAt", "(I)I"⟩
abbrev cX11_end : ByteArray := prog_13_method_42_code
def yX11_end : MethodName := ⟨RX11, "end", "()I"⟩
abbrev cX11_result : ByteArray := prog_13_method_43_code
def yX11_result : MethodName := ⟨RX11, "result", "()J"⟩
abbrev cX11_kind : ByteArray := prog_13_method_44_code
def yX11_kind : MethodName := ⟨RX11, "kind", "()I"⟩
abbrev cX11_cause : ByteArray := prog_13_method_45_code
def yX11_cause : MethodName := ⟨RX11, "cause", "(I)I"⟩
abbrev cX11_out : ByteArray := prog_13_method_46_code
def yX11_out : MethodName := ⟨RX11, "out", "(I)J"⟩
abbrev cX11_finished : ByteArray := prog_13_method_47_code
def yX11_finished : MethodName := ⟨RX11, "finished", "(I)I"⟩
abbrev cX11_depth : ByteArray := prog_13_method_48_code
def yX11_depth : MethodName := ⟨RX11, "depth", "()I"⟩
abbrev cX11_status : ByteArray := prog_13_method_49_code
def yX11_status : MethodName := ⟨RX11, "status", "(I)I"⟩
abbrev cX11_causes : ByteArray := prog_13_method_50_code
def yX11_causes : MethodName := ⟨RX11, "causes", "()I"⟩
abbrev cX11_number : ByteArray := prog_13_method_51_code
def yX11_number : MethodName := ⟨RX11, "number", "(I)J"⟩
abbrev cX11_hand : ByteArray := prog_13_method_52_code
def yX11_hand : MethodName := ⟨RX11, "hand", "(I)I"⟩
abbrev cX11_mark : ByteArray := prog_13_method_53_code
def yX11_mark : MethodName := ⟨RX11, "mark", "(I)J"⟩
abbrev cX11_size : ByteArray := prog_13_method_54_code
def yX11_size : MethodName := ⟨RX11, "size", "(II)I"⟩
abbrev cX11_value : ByteArray := prog_13_method_55_code
def yX11_value : MethodName := ⟨RX11, "value", "(III)J"⟩
abbrev cX11_grid : ByteArray := prog_13_method_56_code
def yX11_grid : MethodName := ⟨RX11, "grid", "(II)I"⟩
def RJ9 : String := "java/lang/Math"
abbrev cJ9_max_7cf53 : ByteArray := prog_14_method_65_code
def yJ9_max_7cf53 : MethodName := ⟨RJ9, "max", "(II)I"⟩
def RJ7 : String := "java/util/Arrays"
abbrev cJ7_fill_d0a16 : ByteArray := prog_15_method_101_code
def yJ7_fill_d0a16 : MethodName := ⟨RJ7, "fill", "([JJ)V"⟩
abbrev cJ7_fill_53178 : ByteArray := prog_15_method_103_code
def yJ7_fill_53178 : MethodName := ⟨RJ7, "fill", "([II)V"⟩
def RL : String := "TrialStairLaw"
abbrev cL_law : ByteArray := code
def yL_law : MethodName := ⟨RL, "law", "([I)Z"⟩
def wsL_law_r1 : List Cond := [Cond.classLink RL 7 RX10, Cond.instantiable RX10 6, Cond.initialized RX10, Cond.classLink RL 10 RX11, Cond.instantiable RX11 55, Cond.initialized RX11, Cond.methodLink RL 9 yX10_init, Cond.instanceMethod yX10_init, Cond.code yX10_init cX10_init 1 none, Cond.methodLink RX10 1 objectInit, Cond.instanceMethod objectInit, Cond.code objectInit ⟨#[0xb1]⟩ 1 none, Cond.classLink RX10 7 RX6, Cond.instantiable RX6 5, Cond.initialized RX6, Cond.fieldLink RX10 10 "TrialStair" "script" "LTrialStair$Script;", Cond.classLink RX10 16 RX3, Cond.instantiable RX3 4, Cond.initialized RX3, Cond.fieldLink RX10 19 "TrialStair" "house" "LTrialStair$House;", Cond.classLink RX10 23 RX4, Cond.instantiable RX4 9, Cond.initialized RX4, Cond.fieldLink RX10 26 "TrialStair" "report" "LTrialStair$Report;"]
def wsL_law_r2 : List Cond := [Cond.classLink RX10 30 RX9, Cond.instantiable RX9 11, Cond.initialized RX9, Cond.fieldLink RX10 35 "TrialStair" "worker" "LTrialStair$Worker;", Cond.instanceMethod yX6_init, Cond.code yX6_init cX6_init 1 none, Cond.methodLink RX6 3 objectInit, Cond.classLink RX6 9 RX7, Cond.fieldLink RX6 11 "TrialStair$Script" "steps" "[LTrialStair$Step;", Cond.arrayClass .int, Cond.fieldLink RX6 17 "TrialStair$Script" "marks" "[I", Cond.instanceMethod yX3_init, Cond.code yX3_init cX3_init 1 none, Cond.methodLink RX3 3 objectInit, Cond.arrayClass .long, Cond.fieldLink RX3 9 "TrialStair$House" "numbers" "[J", Cond.classLink RX3 15 RX8, Cond.fieldLink RX3 17 "TrialStair$House" "hands" "[LTrialStair$Thing;", Cond.classLink RX3 21 RX5, Cond.fieldLink RX3 23 "TrialStair$House" "rows" "[LTrialStair$Row;", Cond.classLink RX3 27 RX2, Cond.instantiable RX2 4, Cond.initialized RX2, Cond.fieldLink RX3 30 "TrialStair$House" "grid" "LTrialStair$Grid;"]
def wsL_law_r3 : List Cond := [Cond.instanceMethod yX2_init, Cond.code yX2_init cX2_init 1 none, Cond.methodLink RX2 3 objectInit, Cond.fieldLink RX2 9 "TrialStair$Grid" "cells" "[I", Cond.instanceMethod yX4_init, Cond.code yX4_init cX4_init 1 none, Cond.methodLink RX4 3 objectInit, Cond.fieldLink RX4 9 "TrialStair$Report" "outputs" "[J", Cond.fieldLink RX4 15 "TrialStair$Report" "finishedTrials" "[I", Cond.fieldLink RX4 19 "TrialStair$Report" "ending" "I", Cond.methodLink RX10 32 yX9_init, Cond.instanceMethod yX9_init, Cond.code yX9_init cX9_init 4 none, Cond.methodLink RX9 3 objectInit, Cond.classLink RX9 9 RX7, Cond.instantiable RX7 9, Cond.initialized RX7, Cond.fieldLink RX9 14 "TrialStair$Worker" "beginning" "LTrialStair$Step;", Cond.fieldLink RX9 20 "TrialStair$Worker" "script" "LTrialStair$Script;", Cond.fieldLink RX9 24 "TrialStair$Worker" "house" "LTrialStair$House;", Cond.fieldLink RX9 28 "TrialStair$Worker" "report" "LTrialStair$Report;", Cond.methodLink RX9 11 yX7_init, Cond.instanceMethod yX7_init, Cond.code yX7_init cX7_init 6 none]
def wsL_law_r4 : List Cond := [Cond.methodLink RX7 1 objectInit, Cond.fieldLink RX7 7 "TrialStair$Step" "taker" "I", Cond.fieldLink RX7 13 "TrialStair$Step" "finish" "I", Cond.fieldLink RX7 16 "TrialStair$Step" "close" "I", Cond.fieldLink RX7 19 "TrialStair$Step" "place" "I", Cond.fieldLink RX7 22 "TrialStair$Step" "op" "I", Cond.fieldLink RX7 25 "TrialStair$Step" "a" "I", Cond.fieldLink RX7 28 "TrialStair$Step" "b" "I", Cond.fieldLink RX7 31 "TrialStair$Step" "c" "I", Cond.methodLink RL 12 yX11_init, Cond.instanceMethod yX11_init, Cond.code yX11_init cX11_init 2 none, Cond.methodLink RX11 1 objectInit, Cond.fieldLink RX11 7 "TrialStairModel" "ops" "[I", Cond.fieldLink RX11 13 "TrialStairModel" "as" "[I", Cond.fieldLink RX11 16 "TrialStairModel" "bs" "[I", Cond.fieldLink RX11 19 "TrialStairModel" "cs" "[I", Cond.fieldLink RX11 22 "TrialStairModel" "blockEnd" "[I", Cond.fieldLink RX11 25 "TrialStairModel" "takerOf" "[I", Cond.fieldLink RX11 28 "TrialStairModel" "finishOf" "[I", Cond.fieldLink RX11 31 "TrialStairModel" "behind" "[I", Cond.fieldLink RX11 34 "TrialStairModel" "begun" "[I", Cond.fieldLink RX11 37 "TrialStairModel" "routineFrom" "[I", Cond.fieldLink RX11 40 "TrialStairModel" "routineTo" "[I"]
def wsL_law_r5 : List Cond := [Cond.fieldLink RX11 43 "TrialStairModel" "numbers" "[J", Cond.fieldLink RX11 47 "TrialStairModel" "hands" "[I", Cond.fieldLink RX11 50 "TrialStairModel" "thingKind" "[I", Cond.fieldLink RX11 53 "TrialStairModel" "thingMark" "[J", Cond.fieldLink RX11 56 "TrialStairModel" "rowSize" "[I", Cond.arrayClass .boolean, Cond.fieldLink RX11 59 "TrialStairModel" "sawsAlone" "[Z", Cond.fieldLink RX11 63 "TrialStairModel" "rowValues" "[J", Cond.fieldLink RX11 66 "TrialStairModel" "gridValues" "[I", Cond.fieldLink RX11 69 "TrialStairModel" "openKind" "[I", Cond.fieldLink RX11 72 "TrialStairModel" "openAt" "[I", Cond.fieldLink RX11 75 "TrialStairModel" "openEnd" "[I", Cond.fieldLink RX11 78 "TrialStairModel" "openPart" "[I", Cond.fieldLink RX11 81 "TrialStairModel" "openTaken" "[I", Cond.fieldLink RX11 84 "TrialStairModel" "openWhat" "[I", Cond.fieldLink RX11 87 "TrialStairModel" "openValue" "[J", Cond.fieldLink RX11 90 "TrialStairModel" "openFailure" "[I", Cond.fieldLink RX11 93 "TrialStairModel" "failureKind" "[I", Cond.fieldLink RX11 96 "TrialStairModel" "failureCause" "[I", Cond.fieldLink RX11 99 "TrialStairModel" "ended" "I", Cond.fieldLink RX11 103 "TrialStairModel" "outs" "[J", Cond.fieldLink RX11 106 "TrialStairModel" "finishedAt" "[I", Cond.methodLink RL 13 yX10_step, Cond.instanceMethod yX10_step]
def wsL_law_r6 : List Cond := [Cond.selects RX10 yX10_step yX10_step, Cond.code yX10_step cX10_step 5 (some .int), Cond.fieldLink RX10 39 "TrialStair$Script" "length" "I", Cond.methodLink RX10 43 yX6_add, Cond.instanceMethod yX6_add, Cond.selects RX6 yX6_add yX6_add, Cond.code yX6_add cX6_add 6 none, Cond.fieldLink RX6 21 "TrialStair$Script" "length" "I", Cond.fieldLink RX6 28 "TrialStair$Script" "innermost" "LTrialStair$Step;", Cond.fieldLink RX6 35 "TrialStair$Step" "around" "LTrialStair$Step;", Cond.fieldLink RX6 42 "TrialStair$Step" "place" "I", Cond.methodLink RX6 32 yX7_init, Cond.methodLink RX6 38 yX6_fit, Cond.instanceMethod yX6_fit, Cond.selects RX6 yX6_fit yX6_fit, Cond.code yX6_fit cX6_fit 3 none, Cond.fieldLink RX6 49 "TrialStair$Step" "op" "I", Cond.fieldLink RX6 52 "TrialStair$Step" "taker" "I", Cond.fieldLink RX6 55 "TrialStair$Step" "finish" "I", Cond.fieldLink RX6 58 "TrialStair$Step" "close" "I", Cond.methodLink RX6 45 yX6_beginRoutine, Cond.instanceMethod yX6_beginRoutine, Cond.selects RX6 yX6_beginRoutine yX6_beginRoutine, Cond.code yX6_beginRoutine cX6_beginRoutine 2 none]
def wsL_law_r7 : List Cond := [Cond.fieldLink RX6 25 "TrialStair$Script" "routines" "I", Cond.methodLink RL 17 yX11_step, Cond.instanceMethod yX11_step, Cond.selects RX11 yX11_step yX11_step, Cond.code yX11_step cX11_step 5 (some .int), Cond.fieldLink RX11 109 "TrialStairModel" "steps" "I", Cond.methodLink RL 18 yX10_wipe, Cond.instanceMethod yX10_wipe, Cond.selects RX10 yX10_wipe yX10_wipe, Cond.code yX10_wipe cX10_wipe 2 (some .int), Cond.methodLink RX10 47 yX6_clear, Cond.instanceMethod yX6_clear, Cond.selects RX6 yX6_clear yX6_clear, Cond.code yX6_clear cX6_clear 1 none, Cond.methodLink RL 22 yX11_wipe, Cond.instanceMethod yX11_wipe, Cond.selects RX11 yX11_wipe yX11_wipe, Cond.code yX11_wipe cX11_wipe 2 (some .int), Cond.methodLink RL 23 yX10_run, Cond.instanceMethod yX10_run, Cond.selects RX10 yX10_run yX10_run, Cond.code yX10_run cX10_run 4 (some .int), Cond.fieldLink RX10 54 "TrialStair" "stepsOfAllRuns" "I", Cond.fieldLink RX10 61 "TrialStair" "runs" "I"]
def wsL_law_r8 : List Cond := [Cond.methodLink RX10 50 yX6_hasRoutine, Cond.instanceMethod yX6_hasRoutine, Cond.selects RX6 yX6_hasRoutine yX6_hasRoutine, Cond.code yX6_hasRoutine cX6_hasRoutine 2 (some .boolean), Cond.methodLink RX10 57 yX9_workRun, Cond.instanceMethod yX9_workRun, Cond.selects RX9 yX9_workRun yX9_workRun, Cond.code yX9_workRun cX9_workRun 6 (some .int), Cond.fieldLink RX9 37 "TrialStair$Worker" "stepsLeft" "I", Cond.fieldLink RX9 41 "TrialStair$Worker" "open" "I", Cond.fieldLink RX9 44 "TrialStair$Worker" "top" "LTrialStair$Frame;", Cond.constant RX9 52 (1000000), Cond.fieldLink RX9 53 "TrialStair$Worker" "place" "I", Cond.fieldLink RX9 56 "TrialStair$Frame" "until" "I", Cond.fieldLink RX9 67 "TrialStair$Worker" "come" "I", Cond.methodLink RX9 32 yX4_begin, Cond.instanceMethod yX4_begin, Cond.selects RX4 yX4_begin yX4_begin, Cond.code yX4_begin cX4_begin 1 none, Cond.fieldLink RX4 23 "TrialStair$Report" "returned" "J", Cond.fieldLink RX4 27 "TrialStair$Report" "failure" "LTrialStair$Failure;", Cond.fieldLink RX4 31 "TrialStair$Report" "told" "I", Cond.fieldLink RX4 34 "TrialStair$Report" "finishes" "I", Cond.fieldLink RX4 37 "TrialStair$Report" "deepest" "I"]
def wsL_law_r9 : List Cond := [Cond.fieldLink RX4 40 "TrialStair$Report" "taken" "I", Cond.methodLink RX9 48 yX9_enterRoutine, Cond.instanceMethod yX9_enterRoutine, Cond.selects RX9 yX9_enterRoutine yX9_enterRoutine, Cond.code yX9_enterRoutine cX9_enterRoutine 3 none, Cond.classLink RX9 57 RX1, Cond.instantiable RX1 9, Cond.initialized RX1, Cond.methodLink RX9 151 yX6_placeBehind, Cond.instanceMethod yX6_placeBehind, Cond.selects RX6 yX6_placeBehind yX6_placeBehind, Cond.code yX6_placeBehind cX6_placeBehind 2 (some .int), Cond.methodLink RX6 61 yX6_hasRoutine, Cond.methodLink RX9 155 yX1_init, Cond.instanceMethod yX1_init, Cond.code yX1_init cX1_init 4 none, Cond.methodLink RX1 3 objectInit, Cond.fieldLink RX1 9 "TrialStair$Frame" "stage" "I", Cond.fieldLink RX1 15 "TrialStair$Frame" "step" "LTrialStair$Step;", Cond.fieldLink RX1 19 "TrialStair$Frame" "around" "LTrialStair$Frame;", Cond.fieldLink RX1 23 "TrialStair$Frame" "routineEnd" "I", Cond.fieldLink RX1 26 "TrialStair$Frame" "until" "I", Cond.methodLink RX9 158 yX6_firstPlaceOf, Cond.instanceMethod yX6_firstPlaceOf]
def wsL_law_r10 : List Cond := [Cond.selects RX6 yX6_firstPlaceOf yX6_firstPlaceOf, Cond.code yX6_firstPlaceOf cX6_firstPlaceOf 2 (some .int), Cond.methodLink RX9 161 yX9_enter, Cond.instanceMethod yX9_enter, Cond.selects RX9 yX9_enter yX9_enter, Cond.code yX9_enter cX9_enter 3 (some .boolean), Cond.fieldLink RX9 179 "TrialStair$Report" "deepest" "I", Cond.methodLink RX9 182 Lib.Math.max.name, Cond.static Lib.Math.max.name, Cond.initialized "java/lang/Math", Cond.code Lib.Math.max.name Lib.Math.max.code 2 (some .int), Cond.methodLink RX9 82 yX9_stop, Cond.instanceMethod yX9_stop, Cond.selects RX9 yX9_stop yX9_stop, Cond.code yX9_stop cX9_stop 2 none, Cond.fieldLink RX9 86 "TrialStair$Report" "ending" "I", Cond.methodLink RX9 61 yX6_stepAt, Cond.instanceMethod yX6_stepAt, Cond.selects RX6 yX6_stepAt yX6_stepAt, Cond.code yX6_stepAt cX6_stepAt 2 (some (.object "TrialStair$Step")), Cond.methodLink RX9 70 yX9_settle, Cond.instanceMethod yX9_settle, Cond.selects RX9 yX9_settle yX9_settle, Cond.code yX9_settle cX9_settle 2 none]
def wsL_law_r11 : List Cond := [Cond.fieldLink RX9 188 "TrialStair$Frame" "step" "LTrialStair$Step;", Cond.fieldLink RX9 89 "TrialStair$Step" "op" "I", Cond.methodLink RX9 198 yX9_settleTrial, Cond.instanceMethod yX9_settleTrial, Cond.selects RX9 yX9_settleTrial yX9_settleTrial, Cond.code yX9_settleTrial cX9_settleTrial 2 none, Cond.fieldLink RX9 138 "TrialStair$Frame" "stage" "I", Cond.fieldLink RX9 209 "TrialStair$Frame" "heldCome" "I", Cond.fieldLink RX9 212 "TrialStair$Frame" "heldValue" "J", Cond.fieldLink RX9 116 "TrialStair$Worker" "value" "J", Cond.fieldLink RX9 215 "TrialStair$Frame" "heldFailure" "LTrialStair$Failure;", Cond.fieldLink RX9 134 "TrialStair$Worker" "failure" "LTrialStair$Failure;", Cond.fieldLink RX9 225 "TrialStair$Step" "finish" "I", Cond.methodLink RX9 195 yX9_leaveBlock, Cond.instanceMethod yX9_leaveBlock, Cond.selects RX9 yX9_leaveBlock yX9_leaveBlock, Cond.code yX9_leaveBlock cX9_leaveBlock 2 none, Cond.fieldLink RX9 144 "TrialStair$Frame" "around" "LTrialStair$Frame;", Cond.methodLink RX9 207 yX1_placeBehind, Cond.instanceMethod yX1_placeBehind, Cond.selects RX1 yX1_placeBehind yX1_placeBehind, Cond.code yX1_placeBehind cX1_placeBehind 1 (some .int), Cond.fieldLink RX1 29 "TrialStair$Step" "close" "I", Cond.methodLink RX9 218 yX9_takes]
def wsL_law_r12 : List Cond := [Cond.static yX9_takes, Cond.code yX9_takes cX9_takes 4 (some .boolean), Cond.fieldLink RX9 231 "TrialStair$Step" "taker" "I", Cond.fieldLink RX9 234 "TrialStair$Failure" "kind" "I", Cond.fieldLink RX9 92 "TrialStair$Step" "a" "I", Cond.methodLink RX9 222 yX9_beginTaker, Cond.instanceMethod yX9_beginTaker, Cond.selects RX9 yX9_beginTaker yX9_beginTaker, Cond.code yX9_beginTaker cX9_beginTaker 2 none, Cond.fieldLink RX9 237 "TrialStair$Report" "taken" "I", Cond.fieldLink RX9 141 "TrialStair$Frame" "taken" "LTrialStair$Failure;", Cond.methodLink RX9 239 yX1_takerEnd, Cond.instanceMethod yX1_takerEnd, Cond.selects RX1 yX1_takerEnd yX1_takerEnd, Cond.code yX1_takerEnd cX1_takerEnd 1 (some .int), Cond.fieldLink RX1 34 "TrialStair$Step" "finish" "I", Cond.methodLink RX1 37 yX1_blockEnd, Cond.instanceMethod yX1_blockEnd, Cond.selects RX1 yX1_blockEnd yX1_blockEnd, Cond.code yX1_blockEnd cX1_blockEnd 1 (some .int), Cond.methodLink RX9 242 yX9_beginPart, Cond.instanceMethod yX9_beginPart, Cond.selects RX9 yX9_beginPart yX9_beginPart, Cond.code yX9_beginPart cX9_beginPart 5 none]
def wsL_law_r13 : List Cond := [Cond.methodLink RX9 228 yX9_beginFinish, Cond.instanceMethod yX9_beginFinish, Cond.selects RX9 yX9_beginFinish yX9_beginFinish, Cond.code yX9_beginFinish cX9_beginFinish 2 none, Cond.fieldLink RX9 172 "TrialStair$Step" "place" "I", Cond.methodLink RX9 246 yX4_noteFinish, Cond.instanceMethod yX4_noteFinish, Cond.selects RX4 yX4_noteFinish yX4_noteFinish, Cond.code yX4_noteFinish cX4_noteFinish 2 none, Cond.methodLink RX9 249 yX1_blockEnd, Cond.methodLink RX9 201 yX9_settleLoop, Cond.instanceMethod yX9_settleLoop, Cond.selects RX9 yX9_settleLoop yX9_settleLoop, Cond.code yX9_settleLoop cX9_settleLoop 2 none, Cond.methodLink RX9 74 yX9_takeStep, Cond.instanceMethod yX9_takeStep, Cond.selects RX9 yX9_takeStep yX9_takeStep, Cond.code yX9_takeStep cX9_takeStep 1 (some .boolean), Cond.methodLink RX9 173 yX9_look, Cond.instanceMethod yX9_look, Cond.selects RX9 yX9_look yX9_look, Cond.code yX9_look cX9_look 5 none, Cond.methodLink RX9 95 yX3_numberOf, Cond.instanceMethod yX3_numberOf]
def wsL_law_r14 : List Cond := [Cond.selects RX3 yX3_numberOf yX3_numberOf, Cond.code yX3_numberOf cX3_numberOf 2 (some .long), Cond.methodLink RX9 191 yX3_setNumber, Cond.instanceMethod yX3_setNumber, Cond.selects RX3 yX3_setNumber yX3_setNumber, Cond.code yX3_setNumber cX3_setNumber 4 none, Cond.methodLink RX9 204 yX9_settleRoutine, Cond.instanceMethod yX9_settleRoutine, Cond.selects RX9 yX9_settleRoutine yX9_settleRoutine, Cond.code yX9_settleRoutine cX9_settleRoutine 2 none, Cond.fieldLink RX9 176 "TrialStair$Step" "b" "I", Cond.methodLink RX9 252 yX9_reportEnd, Cond.instanceMethod yX9_reportEnd, Cond.selects RX9 yX9_reportEnd yX9_reportEnd, Cond.code yX9_reportEnd cX9_reportEnd 1 none, Cond.fieldLink RX9 255 "TrialStair$Report" "failure" "LTrialStair$Failure;", Cond.fieldLink RX9 256 "TrialStair$Report" "returned" "J", Cond.methodLink RX9 78 yX9_workStep, Cond.instanceMethod yX9_workStep, Cond.selects RX9 yX9_workStep yX9_workStep, Cond.code yX9_workStep cX9_workStep 3 none, Cond.methodLink RX9 101 yX4_tell, Cond.instanceMethod yX4_tell, Cond.selects RX4 yX4_tell yX4_tell]
def wsL_law_r15 : List Cond := [Cond.code yX4_tell cX4_tell 3 none, Cond.methodLink RX9 105 yX9_fail, Cond.instanceMethod yX9_fail, Cond.selects RX9 yX9_fail yX9_fail, Cond.code yX9_fail cX9_fail 3 none, Cond.classLink RX9 130 RX0, Cond.instantiable RX0 2, Cond.initialized RX0, Cond.methodLink RX9 132 yX0_init, Cond.instanceMethod yX0_init, Cond.code yX0_init cX0_init 3 none, Cond.methodLink RX0 1 objectInit, Cond.fieldLink RX0 7 "TrialStair$Failure" "kind" "I", Cond.fieldLink RX0 13 "TrialStair$Failure" "cause" "LTrialStair$Failure;", Cond.methodLink RX9 109 yX9_failureAtWork, Cond.instanceMethod yX9_failureAtWork, Cond.selects RX9 yX9_failureAtWork yX9_failureAtWork, Cond.code yX9_failureAtWork cX9_failureAtWork 2 (some (.object "TrialStair$Failure")), Cond.methodLink RX9 113 yX9_beginBlock, Cond.instanceMethod yX9_beginBlock, Cond.selects RX9 yX9_beginBlock yX9_beginBlock, Cond.code yX9_beginBlock cX9_beginBlock 4 none, Cond.fieldLink RX9 165 "TrialStair$Frame" "routineEnd" "I", Cond.methodLink RX9 168 yX1_bodyEnd]
def wsL_law_r16 : List Cond := [Cond.instanceMethod yX1_bodyEnd, Cond.selects RX1 yX1_bodyEnd yX1_bodyEnd, Cond.code yX1_bodyEnd cX1_bodyEnd 1 (some .int), Cond.fieldLink RX1 41 "TrialStair$Step" "taker" "I", Cond.methodLink RX1 44 yX1_takerEnd, Cond.methodLink RX9 120 yX9_callRoutine, Cond.instanceMethod yX9_callRoutine, Cond.selects RX9 yX9_callRoutine yX9_callRoutine, Cond.code yX9_callRoutine cX9_callRoutine 2 none, Cond.methodLink RX9 147 yX6_hasRoutine, Cond.methodLink RX9 124 yX3_workStep, Cond.instanceMethod yX3_workStep, Cond.selects RX3 yX3_workStep yX3_workStep, Cond.code yX3_workStep cX3_workStep 2 (some .int), Cond.fieldLink RX3 38 "TrialStair$Step" "op" "I", Cond.methodLink RX3 44 yX3_reckon, Cond.instanceMethod yX3_reckon, Cond.selects RX3 yX3_reckon yX3_reckon, Cond.code yX3_reckon cX3_reckon 6 (some .int), Cond.fieldLink RX3 63 "TrialStair$Step" "b" "I", Cond.fieldLink RX3 66 "TrialStair$Step" "c" "I", Cond.fieldLink RX3 69 "TrialStair$Step" "a" "I", Cond.methodLink RX3 34 yX3_numberOf, Cond.methodLink RX3 72 yX3_reckoned]
def wsL_law_r17 : List Cond := [Cond.static yX3_reckoned, Cond.code yX3_reckoned cX3_reckoned 5 (some .long), Cond.methodLink RX3 76 yX3_setNumber, Cond.methodLink RX3 48 yX3_makeRow, Cond.instanceMethod yX3_makeRow, Cond.selects RX3 yX3_makeRow yX3_makeRow, Cond.code yX3_makeRow cX3_makeRow 5 (some .int), Cond.instantiable RX5 5, Cond.initialized RX5, Cond.methodLink RX3 87 yX3_intOf, Cond.instanceMethod yX3_intOf, Cond.selects RX3 yX3_intOf yX3_intOf, Cond.code yX3_intOf cX3_intOf 2 (some .int), Cond.methodLink RX3 80 yX3_rowOf, Cond.instanceMethod yX3_rowOf, Cond.selects RX3 yX3_rowOf yX3_rowOf, Cond.code yX3_rowOf cX3_rowOf 3 (some (.object "TrialStair$Row")), Cond.methodLink RX3 108 yX5_init, Cond.instanceMethod yX5_init, Cond.code yX5_init cX5_init 2 none, Cond.methodLink RX5 3 objectInit, Cond.fieldLink RX5 9 "TrialStair$Row" "sort" "I", Cond.fieldLink RX5 15 "TrialStair$Row" "numbers" "[J", Cond.classLink RX5 19 RX8]
def wsL_law_r18 : List Cond := [Cond.fieldLink RX5 21 "TrialStair$Row" "things" "[LTrialStair$Thing;", Cond.methodLink RX3 111 yX5_empty, Cond.instanceMethod yX5_empty, Cond.selects RX5 yX5_empty yX5_empty, Cond.code yX5_empty cX5_empty 4 none, Cond.fieldLink RX5 25 "TrialStair$Row" "places" "I", Cond.fieldLink RX5 28 "TrialStair$Row" "sawsAlone" "Z", Cond.methodLink RX5 32 yJ7_fill_d0a16, Cond.static yJ7_fill_d0a16, Cond.initialized RJ7, Cond.code yJ7_fill_d0a16 cJ7_fill_d0a16 5 none, Cond.methodLink RX3 51 yX3_workRow, Cond.instanceMethod yX3_workRow, Cond.selects RX3 yX3_workRow yX3_workRow, Cond.code yX3_workRow cX3_workRow 5 (some .int), Cond.fieldLink RX3 84 "TrialStair$Row" "places" "I", Cond.methodLink RX3 91 yX5_has, Cond.instanceMethod yX5_has, Cond.selects RX5 yX5_has yX5_has, Cond.code yX5_has cX5_has 2 (some .boolean), Cond.methodLink RX3 95 yX3_takeThing, Cond.instanceMethod yX3_takeThing, Cond.selects RX3 yX3_takeThing yX3_takeThing, Cond.code yX3_takeThing cX3_takeThing 4 (some .int)]
def wsL_law_r19 : List Cond := [Cond.methodLink RX3 115 yX5_thingAt, Cond.instanceMethod yX5_thingAt, Cond.selects RX5 yX5_thingAt yX5_thingAt, Cond.code yX5_thingAt cX5_thingAt 2 (some (.object "TrialStair$Thing")), Cond.methodLink RX3 99 yX3_putThing, Cond.instanceMethod yX3_putThing, Cond.selects RX3 yX3_putThing yX3_putThing, Cond.code yX3_putThing cX3_putThing 5 (some .int), Cond.fieldLink RX3 122 "TrialStair$Row" "sawsAlone" "Z", Cond.fieldLink RX3 126 "TrialStair$Thing" "kind" "I", Cond.methodLink RX3 119 yX3_thingOf, Cond.instanceMethod yX3_thingOf, Cond.selects RX3 yX3_thingOf yX3_thingOf, Cond.code yX3_thingOf cX3_thingOf 2 (some (.object "TrialStair$Thing")), Cond.methodLink RX3 129 yX5_putThing, Cond.instanceMethod yX5_putThing, Cond.selects RX5 yX5_putThing yX5_putThing, Cond.code yX5_putThing cX5_putThing 3 none, Cond.methodLink RX3 102 yX5_numberAt, Cond.instanceMethod yX5_numberAt, Cond.selects RX5 yX5_numberAt yX5_numberAt, Cond.code yX5_numberAt cX5_numberAt 2 (some .long), Cond.methodLink RX3 105 yX5_putNumber, Cond.instanceMethod yX5_putNumber]
def wsL_law_r20 : List Cond := [Cond.selects RX5 yX5_putNumber yX5_putNumber, Cond.code yX5_putNumber cX5_putNumber 4 none, Cond.methodLink RX5 38 yX5_narrowed, Cond.instanceMethod yX5_narrowed, Cond.selects RX5 yX5_narrowed yX5_narrowed, Cond.code yX5_narrowed cX5_narrowed 3 (some .long), Cond.methodLink RX3 54 yX3_workGrid, Cond.instanceMethod yX3_workGrid, Cond.selects RX3 yX3_workGrid yX3_workGrid, Cond.code yX3_workGrid cX3_workGrid 4 (some .int), Cond.fieldLink RX3 136 "TrialStair$Grid" "made" "Z", Cond.methodLink RX3 132 yX2_make, Cond.instanceMethod yX2_make, Cond.selects RX2 yX2_make yX2_make, Cond.code yX2_make cX2_make 3 none, Cond.fieldLink RX2 15 "TrialStair$Grid" "made" "Z", Cond.fieldLink RX2 19 "TrialStair$Grid" "rows" "I", Cond.fieldLink RX2 23 "TrialStair$Grid" "places" "I", Cond.methodLink RX2 26 yJ7_fill_53178, Cond.static yJ7_fill_53178, Cond.code yJ7_fill_53178 cJ7_fill_53178 4 none, Cond.methodLink RX3 139 yX2_has, Cond.instanceMethod yX2_has, Cond.selects RX2 yX2_has yX2_has]
def wsL_law_r21 : List Cond := [Cond.code yX2_has cX2_has 3 (some .boolean), Cond.methodLink RX3 142 yX2_cellAt, Cond.instanceMethod yX2_cellAt, Cond.selects RX2 yX2_cellAt yX2_cellAt, Cond.code yX2_cellAt cX2_cellAt 4 (some .int), Cond.methodLink RX3 146 yX2_putCell, Cond.instanceMethod yX2_putCell, Cond.selects RX2 yX2_putCell yX2_putCell, Cond.code yX2_putCell cX2_putCell 5 none, Cond.methodLink RX3 57 yX3_workHand, Cond.instanceMethod yX3_workHand, Cond.selects RX3 yX3_workHand yX3_workHand, Cond.code yX3_workHand cX3_workHand 3 (some .int), Cond.methodLink RX3 150 yX3_newThing, Cond.static yX3_newThing, Cond.code yX3_newThing cX3_newThing 3 (some (.object "TrialStair$Thing")), Cond.instantiable RX8 2, Cond.initialized RX8, Cond.methodLink RX3 161 yX8_init, Cond.instanceMethod yX8_init, Cond.code yX8_init cX8_init 4 none, Cond.methodLink RX8 3 objectInit, Cond.fieldLink RX8 9 "TrialStair$Thing" "kind" "I", Cond.fieldLink RX8 15 "TrialStair$Thing" "mark" "J"]
def wsL_law_r22 : List Cond := [Cond.methodLink RX3 154 yX8_isCastAs, Cond.instanceMethod yX8_isCastAs, Cond.selects RX8 yX8_isCastAs yX8_isCastAs, Cond.code yX8_isCastAs cX8_isCastAs 2 (some .boolean), Cond.methodLink RX8 19 yX8_rings, Cond.instanceMethod yX8_rings, Cond.selects RX8 yX8_rings yX8_rings, Cond.code yX8_rings cX8_rings 1 (some .boolean), Cond.methodLink RX3 157 yX3_workMark, Cond.instanceMethod yX3_workMark, Cond.selects RX3 yX3_workMark yX3_workMark, Cond.code yX3_workMark cX3_workMark 3 (some .int), Cond.fieldLink RX3 163 "TrialStair$Thing" "mark" "J", Cond.methodLink RX3 60 yX3_workTool, Cond.instanceMethod yX3_workTool, Cond.selects RX3 yX3_workTool yX3_workTool, Cond.code yX3_workTool cX3_workTool 5 (some .int), Cond.constantLong RX3 171 (3), Cond.methodLink RX3 167 yX8_use, Cond.instanceMethod yX8_use, Cond.selects RX8 yX8_use yX8_use, Cond.code yX8_use cX8_use 3 (some .long), Cond.constantLong RX8 23 (2), Cond.methodLink RX3 173 yX8_rings]
def wsL_law_r23 : List Cond := [Cond.methodLink RX3 177 yX8_ring, Cond.instanceMethod yX8_ring, Cond.selects RX8 yX8_ring yX8_ring, Cond.code yX8_ring cX8_ring 5 (some .long), Cond.methodLink RX9 127 yX9_goBehind, Cond.instanceMethod yX9_goBehind, Cond.selects RX9 yX9_goBehind yX9_goBehind, Cond.code yX9_goBehind cX9_goBehind 2 none, Cond.methodLink RL 27 yX11_run, Cond.instanceMethod yX11_run, Cond.selects RX11 yX11_run yX11_run, Cond.code yX11_run cX11_run 4 (some .int), Cond.fieldLink RX11 112 "TrialStairModel" "routines" "I", Cond.fieldLink RX11 130 "TrialStairModel" "allSteps" "I", Cond.fieldLink RX11 140 "TrialStairModel" "works" "Z", Cond.fieldLink RX11 147 "TrialStairModel" "runs" "I", Cond.fieldLink RX11 150 "TrialStairModel" "took" "I", Cond.methodLink RX11 127 yX11_layOut, Cond.instanceMethod yX11_layOut, Cond.selects RX11 yX11_layOut yX11_layOut, Cond.code yX11_layOut cX11_layOut 2 none, Cond.methodLink RX11 115 yX11_isMark, Cond.instanceMethod yX11_isMark, Cond.selects RX11 yX11_isMark yX11_isMark]
def wsL_law_r24 : List Cond := [Cond.code yX11_isMark cX11_isMark 2 (some .boolean), Cond.methodLink RX11 119 yX11_layOutRoutine, Cond.instanceMethod yX11_layOutRoutine, Cond.selects RX11 yX11_layOutRoutine yX11_layOutRoutine, Cond.code yX11_layOutRoutine cX11_layOutRoutine 6 none, Cond.methodLink RX11 123 yX11_belongs, Cond.instanceMethod yX11_belongs, Cond.selects RX11 yX11_belongs yX11_belongs, Cond.code yX11_belongs cX11_belongs 6 (some .boolean), Cond.methodLink RX11 133 yX11_begin, Cond.instanceMethod yX11_begin, Cond.selects RX11 yX11_begin yX11_begin, Cond.code yX11_begin cX11_begin 2 none, Cond.fieldLink RX11 153 "TrialStairModel" "left" "I", Cond.fieldLink RX11 156 "TrialStairModel" "open" "I", Cond.fieldLink RX11 159 "TrialStairModel" "failures" "I", Cond.fieldLink RX11 162 "TrialStairModel" "outCount" "I", Cond.fieldLink RX11 165 "TrialStairModel" "finishedCount" "I", Cond.fieldLink RX11 168 "TrialStairModel" "takenCount" "I", Cond.fieldLink RX11 171 "TrialStairModel" "deepest" "I", Cond.fieldLink RX11 174 "TrialStairModel" "result" "J", Cond.fieldLink RX11 178 "TrialStairModel" "lastFailure" "I", Cond.methodLink RX11 137 yX11_enter, Cond.instanceMethod yX11_enter]
def wsL_law_r25 : List Cond := [Cond.selects RX11 yX11_enter yX11_enter, Cond.code yX11_enter cX11_enter 3 none, Cond.fieldLink RX11 187 "TrialStairModel" "at" "I", Cond.methodLink RX11 184 yX11_opens, Cond.instanceMethod yX11_opens, Cond.selects RX11 yX11_opens yX11_opens, Cond.code yX11_opens cX11_opens 4 (some .boolean), Cond.methodLink RX11 181 yX11_stop, Cond.instanceMethod yX11_stop, Cond.selects RX11 yX11_stop yX11_stop, Cond.code yX11_stop cX11_stop 2 none, Cond.methodLink RX11 144 yX11_goes, Cond.instanceMethod yX11_goes, Cond.selects RX11 yX11_goes yX11_goes, Cond.code yX11_goes cX11_goes 4 none, Cond.fieldLink RX11 194 "TrialStairModel" "what" "I", Cond.fieldLink RX11 226 "TrialStairModel" "value" "J", Cond.methodLink RX11 190 yX11_partEnd, Cond.instanceMethod yX11_partEnd, Cond.selects RX11 yX11_partEnd yX11_partEnd, Cond.code yX11_partEnd cX11_partEnd 4 (some .int), Cond.methodLink RX11 197 yX11_comes, Cond.instanceMethod yX11_comes, Cond.selects RX11 yX11_comes yX11_comes]
def wsL_law_r26 : List Cond := [Cond.code yX11_comes cX11_comes 5 none, Cond.methodLink RX11 238 yX11_comesOfRoutine, Cond.instanceMethod yX11_comesOfRoutine, Cond.selects RX11 yX11_comesOfRoutine yX11_comesOfRoutine, Cond.code yX11_comesOfRoutine cX11_comesOfRoutine 3 (some .boolean), Cond.fieldLink RX11 232 "TrialStairModel" "failure" "I", Cond.methodLink RX11 241 yX11_comesOfTrial, Cond.instanceMethod yX11_comesOfTrial, Cond.selects RX11 yX11_comesOfTrial yX11_comesOfTrial, Cond.code yX11_comesOfTrial cX11_comesOfTrial 3 (some .boolean), Cond.methodLink RX11 247 yX11_over, Cond.instanceMethod yX11_over, Cond.selects RX11 yX11_over yX11_over, Cond.code yX11_over cX11_over 2 (some .boolean), Cond.methodLink RX11 250 yX11_isTaken, Cond.static yX11_isTaken, Cond.code yX11_isTaken cX11_isTaken 4 (some .boolean), Cond.methodLink RX11 244 yX11_comesOfLoop, Cond.instanceMethod yX11_comesOfLoop, Cond.selects RX11 yX11_comesOfLoop yX11_comesOfLoop, Cond.code yX11_comesOfLoop cX11_comesOfLoop 3 (some .boolean), Cond.methodLink RX11 200 yX11_takes, Cond.instanceMethod yX11_takes, Cond.selects RX11 yX11_takes yX11_takes]
def wsL_law_r27 : List Cond := [Cond.code yX11_takes cX11_takes 1 (some .boolean), Cond.methodLink RX11 235 yX11_looks, Cond.instanceMethod yX11_looks, Cond.selects RX11 yX11_looks yX11_looks, Cond.code yX11_looks cX11_looks 3 none, Cond.methodLink RX11 204 yX11_reckons, Cond.instanceMethod yX11_reckons, Cond.selects RX11 yX11_reckons yX11_reckons, Cond.code yX11_reckons cX11_reckons 7 (some .int), Cond.methodLink RX11 254 yX11_divides, Cond.instanceMethod yX11_divides, Cond.selects RX11 yX11_divides yX11_divides, Cond.code yX11_divides cX11_divides 9 (some .int), Cond.constantLong RX11 258 (-1), Cond.methodLink RX11 208 yX11_rows, Cond.instanceMethod yX11_rows, Cond.selects RX11 yX11_rows yX11_rows, Cond.code yX11_rows cX11_rows 5 (some .int), Cond.methodLink RX11 260 yX11_grids, Cond.instanceMethod yX11_grids, Cond.selects RX11 yX11_grids yX11_grids, Cond.code yX11_grids cX11_grids 5 (some .int), Cond.fieldLink RX11 289 "TrialStairModel" "hasGrid" "Z", Cond.fieldLink RX11 292 "TrialStairModel" "gridRows" "I"]
def wsL_law_r28 : List Cond := [Cond.fieldLink RX11 295 "TrialStairModel" "gridPlaces" "I", Cond.methodLink RX11 267 yX11_intOf, Cond.instanceMethod yX11_intOf, Cond.selects RX11 yX11_intOf yX11_intOf, Cond.code yX11_intOf cX11_intOf 2 (some .int), Cond.methodLink RX11 263 yX11_makes, Cond.instanceMethod yX11_makes, Cond.selects RX11 yX11_makes yX11_makes, Cond.code yX11_makes cX11_makes 5 (some .int), Cond.methodLink RX11 270 yX11_looksAt, Cond.instanceMethod yX11_looksAt, Cond.selects RX11 yX11_looksAt yX11_looksAt, Cond.code yX11_looksAt cX11_looksAt 6 (some .int), Cond.methodLink RX11 274 yX11_puts, Cond.instanceMethod yX11_puts, Cond.selects RX11 yX11_puts yX11_puts, Cond.code yX11_puts cX11_puts 8 (some .int), Cond.methodLink RX11 277 yX11_fitted, Cond.static yX11_fitted, Cond.code yX11_fitted cX11_fitted 3 (some .long), Cond.constantLong RX11 281 (65535), Cond.methodLink RX11 283 yX11_rounded, Cond.static yX11_rounded, Cond.code yX11_rounded cX11_rounded 14 (some .long)]
def wsL_law_r29 : List Cond := [Cond.constantLong RX11 287 (9223372036854775807), Cond.methodLink RX11 211 yX11_withThings, Cond.instanceMethod yX11_withThings, Cond.selects RX11 yX11_withThings yX11_withThings, Cond.code yX11_withThings cX11_withThings 4 (some .int), Cond.methodLink RX11 298 yX11_newThing, Cond.instanceMethod yX11_newThing, Cond.selects RX11 yX11_newThing yX11_newThing, Cond.code yX11_newThing cX11_newThing 4 (some .int), Cond.fieldLink RX11 308 "TrialStairModel" "things" "I", Cond.methodLink RX11 302 yX11_casts, Cond.instanceMethod yX11_casts, Cond.selects RX11 yX11_casts yX11_casts, Cond.code yX11_casts cX11_casts 6 (some .int), Cond.methodLink RX11 305 yX11_makesOf, Cond.instanceMethod yX11_makesOf, Cond.selects RX11 yX11_makesOf yX11_makesOf, Cond.code yX11_makesOf cX11_makesOf 11 (some .int), Cond.constantLong RX11 311 (3), Cond.constantLong RX11 313 (2), Cond.methodLink RX11 214 yX11_throwsAt, Cond.instanceMethod yX11_throwsAt, Cond.selects RX11 yX11_throwsAt yX11_throwsAt, Cond.code yX11_throwsAt cX11_throwsAt 4 (some .int)]
def wsL_law_r30 : List Cond := [Cond.methodLink RX11 229 yX11_makeFailure, Cond.instanceMethod yX11_makeFailure, Cond.selects RX11 yX11_makeFailure yX11_makeFailure, Cond.code yX11_makeFailure cX11_makeFailure 3 none, Cond.methodLink RX11 217 yX11_goOn, Cond.instanceMethod yX11_goOn, Cond.selects RX11 yX11_goOn yX11_goOn, Cond.code yX11_goOn cX11_goOn 3 none, Cond.methodLink RX11 220 yX11_block, Cond.instanceMethod yX11_block, Cond.selects RX11 yX11_block yX11_block, Cond.code yX11_block cX11_block 4 none, Cond.methodLink RX11 223 yX11_call, Cond.instanceMethod yX11_call, Cond.selects RX11 yX11_call yX11_call, Cond.code yX11_call cX11_call 3 none, Cond.methodLink RL 28 yX10_end, Cond.instanceMethod yX10_end, Cond.selects RX10 yX10_end yX10_end, Cond.code yX10_end cX10_end 1 (some .int), Cond.fieldLink RX10 64 "TrialStair$Report" "ending" "I", Cond.methodLink RL 31 yX11_end, Cond.instanceMethod yX11_end, Cond.selects RX11 yX11_end yX11_end]
def wsL_law_r31 : List Cond := [Cond.code yX11_end cX11_end 1 (some .int), Cond.methodLink RL 32 yX10_result, Cond.instanceMethod yX10_result, Cond.selects RX10 yX10_result yX10_result, Cond.code yX10_result cX10_result 1 (some .long), Cond.fieldLink RX10 67 "TrialStair$Report" "returned" "J", Cond.methodLink RL 36 yX11_result, Cond.instanceMethod yX11_result, Cond.selects RX11 yX11_result yX11_result, Cond.code yX11_result cX11_result 1 (some .long), Cond.methodLink RL 37 yX10_kind, Cond.instanceMethod yX10_kind, Cond.selects RX10 yX10_kind yX10_kind, Cond.code yX10_kind cX10_kind 1 (some .int), Cond.fieldLink RX10 71 "TrialStair$Report" "failure" "LTrialStair$Failure;", Cond.fieldLink RX10 75 "TrialStair$Failure" "kind" "I", Cond.methodLink RL 40 yX11_kind, Cond.instanceMethod yX11_kind, Cond.selects RX11 yX11_kind yX11_kind, Cond.code yX11_kind cX11_kind 1 (some .int), Cond.methodLink RL 41 yX10_cause, Cond.instanceMethod yX10_cause, Cond.selects RX10 yX10_cause yX10_cause, Cond.code yX10_cause cX10_cause 4 (some .int)]
def wsL_law_r32 : List Cond := [Cond.fieldLink RX10 80 "TrialStair$Failure" "cause" "LTrialStair$Failure;", Cond.methodLink RL 45 yX11_cause, Cond.instanceMethod yX11_cause, Cond.selects RX11 yX11_cause yX11_cause, Cond.code yX11_cause cX11_cause 4 (some .int), Cond.methodLink RL 46 yX10_out, Cond.instanceMethod yX10_out, Cond.selects RX10 yX10_out yX10_out, Cond.code yX10_out cX10_out 2 (some .long), Cond.fieldLink RX10 83 "TrialStair$Report" "told" "I", Cond.fieldLink RX10 86 "TrialStair$Report" "outputs" "[J", Cond.methodLink RL 50 yX11_out, Cond.instanceMethod yX11_out, Cond.selects RX11 yX11_out yX11_out, Cond.code yX11_out cX11_out 2 (some .long), Cond.methodLink RL 51 yX10_finished, Cond.instanceMethod yX10_finished, Cond.selects RX10 yX10_finished yX10_finished, Cond.code yX10_finished cX10_finished 2 (some .int), Cond.fieldLink RX10 90 "TrialStair$Report" "finishes" "I", Cond.fieldLink RX10 93 "TrialStair$Report" "finishedTrials" "[I", Cond.methodLink RL 54 yX11_finished, Cond.instanceMethod yX11_finished, Cond.selects RX11 yX11_finished yX11_finished]
def wsL_law_r33 : List Cond := [Cond.code yX11_finished cX11_finished 2 (some .int), Cond.methodLink RL 55 yX10_depth, Cond.instanceMethod yX10_depth, Cond.selects RX10 yX10_depth yX10_depth, Cond.code yX10_depth cX10_depth 1 (some .int), Cond.fieldLink RX10 97 "TrialStair$Report" "deepest" "I", Cond.methodLink RL 58 yX11_depth, Cond.instanceMethod yX11_depth, Cond.selects RX11 yX11_depth yX11_depth, Cond.code yX11_depth cX11_depth 1 (some .int), Cond.methodLink RL 59 yX10_status, Cond.instanceMethod yX10_status, Cond.selects RX10 yX10_status yX10_status, Cond.code yX10_status cX10_status 2 (some .int), Cond.fieldLink RX10 100 "TrialStair$Script" "routines" "I", Cond.fieldLink RX10 107 "TrialStair$Report" "taken" "I", Cond.methodLink RX10 103 yX4_countCauses, Cond.instanceMethod yX4_countCauses, Cond.selects RX4 yX4_countCauses yX4_countCauses, Cond.code yX4_countCauses cX4_countCauses 3 (some .int), Cond.fieldLink RX4 43 "TrialStair$Failure" "cause" "LTrialStair$Failure;", Cond.methodLink RL 62 yX11_status, Cond.instanceMethod yX11_status, Cond.selects RX11 yX11_status yX11_status]
def wsL_law_r34 : List Cond := [Cond.code yX11_status cX11_status 2 (some .int), Cond.methodLink RX11 315 yX11_causes, Cond.instanceMethod yX11_causes, Cond.selects RX11 yX11_causes yX11_causes, Cond.code yX11_causes cX11_causes 3 (some .int), Cond.methodLink RL 63 yX10_number, Cond.instanceMethod yX10_number, Cond.selects RX10 yX10_number yX10_number, Cond.code yX10_number cX10_number 2 (some .long), Cond.methodLink RX10 110 yX10_isOfEight, Cond.static yX10_isOfEight, Cond.code yX10_isOfEight cX10_isOfEight 1 (some .boolean), Cond.methodLink RX10 113 yX3_numberOf, Cond.methodLink RL 66 yX11_number, Cond.instanceMethod yX11_number, Cond.selects RX11 yX11_number yX11_number, Cond.code yX11_number cX11_number 2 (some .long), Cond.methodLink RL 67 yX10_hand, Cond.instanceMethod yX10_hand, Cond.selects RX10 yX10_hand yX10_hand, Cond.code yX10_hand cX10_hand 2 (some .int), Cond.methodLink RX10 117 yX3_thingOf, Cond.methodLink RX10 121 yX10_kindOf, Cond.static yX10_kindOf]
def wsL_law_r35 : List Cond := [Cond.code yX10_kindOf cX10_kindOf 1 (some .int), Cond.fieldLink RX10 160 "TrialStair$Thing" "kind" "I", Cond.methodLink RL 70 yX11_hand, Cond.instanceMethod yX11_hand, Cond.selects RX11 yX11_hand yX11_hand, Cond.code yX11_hand cX11_hand 2 (some .int), Cond.methodLink RL 71 yX10_mark, Cond.instanceMethod yX10_mark, Cond.selects RX10 yX10_mark yX10_mark, Cond.code yX10_mark cX10_mark 3 (some .long), Cond.fieldLink RX10 125 "TrialStair$Thing" "mark" "J", Cond.methodLink RL 74 yX11_mark, Cond.instanceMethod yX11_mark, Cond.selects RX11 yX11_mark yX11_mark, Cond.code yX11_mark cX11_mark 2 (some .long), Cond.methodLink RL 75 yX10_size, Cond.instanceMethod yX10_size, Cond.selects RX10 yX10_size yX10_size, Cond.code yX10_size cX10_size 4 (some .int), Cond.fieldLink RX10 134 "TrialStair$Row" "places" "I", Cond.methodLink RX10 130 yX3_rowOf, Cond.methodLink RL 78 yX11_size, Cond.instanceMethod yX11_size, Cond.selects RX11 yX11_size yX11_size]
def wsL_law_r36 : List Cond := [Cond.code yX11_size cX11_size 3 (some .int), Cond.methodLink RL 79 yX10_value, Cond.instanceMethod yX10_value, Cond.selects RX10 yX10_value yX10_value, Cond.code yX10_value cX10_value 5 (some .long), Cond.methodLink RX10 139 yX5_has, Cond.methodLink RX10 142 yX5_thingAt, Cond.methodLink RX10 145 yX5_numberAt, Cond.methodLink RL 83 yX11_value, Cond.instanceMethod yX11_value, Cond.selects RX11 yX11_value yX11_value, Cond.code yX11_value cX11_value 7 (some .long), Cond.methodLink RX11 318 yX11_size, Cond.methodLink RL 84 yX10_grid, Cond.instanceMethod yX10_grid, Cond.selects RX10 yX10_grid yX10_grid, Cond.code yX10_grid cX10_grid 3 (some .int), Cond.fieldLink RX10 148 "TrialStair$House" "grid" "LTrialStair$Grid;", Cond.methodLink RX10 152 yX2_has, Cond.methodLink RX10 157 yX2_cellAt, Cond.methodLink RL 87 yX11_grid, Cond.instanceMethod yX11_grid, Cond.selects RX11 yX11_grid yX11_grid, Cond.code yX11_grid cX11_grid 3 (some .int)]
def wsL_law : List Cond := (wsL_law_r1 ++ (wsL_law_r2 ++ (wsL_law_r3 ++ (wsL_law_r4 ++ (wsL_law_r5 ++ (wsL_law_r6 ++ (wsL_law_r7 ++ (wsL_law_r8 ++ (wsL_law_r9 ++ (wsL_law_r10 ++ (wsL_law_r11 ++ (wsL_law_r12 ++ (wsL_law_r13 ++ (wsL_law_r14 ++ (wsL_law_r15 ++ (wsL_law_r16 ++ (wsL_law_r17 ++ (wsL_law_r18 ++ (wsL_law_r19 ++ (wsL_law_r20 ++ (wsL_law_r21 ++ (wsL_law_r22 ++ (wsL_law_r23 ++ (wsL_law_r24 ++ (wsL_law_r25 ++ (wsL_law_r26 ++ (wsL_law_r27 ++ (wsL_law_r28 ++ (wsL_law_r29 ++ (wsL_law_r30 ++ (wsL_law_r31 ++ (wsL_law_r32 ++ (wsL_law_r33 ++ (wsL_law_r34 ++ (wsL_law_r35 ++ wsL_law_r36))))))))))))))))))))))))))))))))))) ++ wsX100 ++ wsX110 ++ wsX60 ++ wsX30 ++ wsX40 ++ wsX90 ++ wsX20 ++ wsX70 ++ wsX10 ++ wsX00 ++ wsX50 ++ wsX80 ++ ([] : List Cond)
abbrev vwCl : List vw_C := [(RX0, TX0, 2), (RX1, TX1, 9), (RX2, TX2, 4), (RX3, TX3, 4), (RX4, TX4, 9), (RX5, TX5, 5), (RX6, TX6, 5), (RX7, TX7, 9), (RX8, TX8, 2), (RX9, TX9, 11), (RX10, TX10, 6), (RX11, TX11, 55)]theorem wsl_1 : ∀ w ∈ wsL_law_r1, w ∈ lw_tbl := fun w h => (goodIn_r (big := lw_tbl) wsL_law_r1 [83, 84, 69, 798, 799, 76, 85, 86, 87, 88, 89, 90, 91, 92, 70, 303, 118, 119, 71, 304, 163, 164, 73, 305] (by decide +kernel) (by decide +kernel) w h).1
theorem wsl_2 : ∀ w ∈ wsL_law_r2, w ∈ lw_tbl := fun w h => (goodIn_r (big := lw_tbl) wsL_law_r2 [211, 212, 74, 306, 94, 95, 96, 97, 99, 117, 100, 121, 122, 123, 148, 149, 124, 150, 126, 151, 128, 129, 72, 152] (by decide +kernel) (by decide +kernel) w h).1
theorem wsl_3 : ∀ w ∈ wsL_law_r3, w ∈ lw_tbl := fun w h => (goodIn_r (big := lw_tbl) wsL_law_r3 [131, 132, 133, 134, 166, 167, 168, 169, 171, 173, 213, 214, 215, 216, 217, 218, 75, 272, 269, 270, 271, 219, 220, 221] (by decide +kernel) (by decide +kernel) w h).1
theorem wsl_4 : ∀ w ∈ wsL_law_r4, w ∈ lw_tbl := fun w h => (goodIn_r (big := lw_tbl) wsL_law_r4 [222, 239, 243, 247, 223, 226, 230, 233, 236, 800, 801, 802, 803, 804, 805, 806, 807, 809, 810, 811, 812, 813, 814, 815] (by decide +kernel) (by decide +kernel) w h).1
theorem wsl_5 : ∀ w ∈ wsL_law_r5, w ∈ lw_tbl := fun w h => (goodIn_r (big := lw_tbl) wsL_law_r5 [817, 818, 819, 820, 822, 970, 823, 824, 828, 829, 830, 831, 832, 833, 834, 835, 836, 843, 844, 850, 853, 855, 322, 323] (by decide +kernel) (by decide +kernel) w h).1
theorem wsl_6 : ∀ w ∈ wsL_law_r6, w ∈ lw_tbl := fun w h => (goodIn_r (big := lw_tbl) wsL_law_r6 [324, 325, 103, 326, 327, 328, 329, 102, 101, 238, 224, 330, 331, 333, 0, 334, 228, 241, 245, 249, 335, 337, 1, 338] (by decide +kernel) (by decide +kernel) w h).1
theorem wsl_7 : ∀ w ∈ wsL_law_r7, w ∈ lw_tbl := fun w h => (goodIn_r (big := lw_tbl) wsL_law_r7 [104, 971, 972, 973, 974, 808, 339, 340, 341, 342, 343, 344, 345, 346, 975, 976, 977, 978, 347, 348, 349, 350, 307, 308] (by decide +kernel) (by decide +kernel) w h).1
theorem wsl_8 : ∀ w ∈ wsL_law_r8, w ∈ lw_tbl := fun w h => (goodIn_r (big := lw_tbl) wsL_law_r8 [351, 352, 353, 354, 355, 356, 357, 358, 276, 274, 273, 426, 275, 385, 277, 359, 360, 361, 362, 176, 179, 182, 184, 186] (by decide +kernel) (by decide +kernel) w h).1
theorem wsl_9 : ∀ w ∈ wsL_law_r9, w ∈ lw_tbl := fun w h => (goodIn_r (big := lw_tbl) wsL_law_r9 [189, 363, 365, 2, 366, 367, 368, 77, 369, 370, 371, 372, 373, 374, 375, 376, 377, 386, 378, 380, 382, 384, 411, 412] (by decide +kernel) (by decide +kernel) w h).1
theorem wsl_10 : ∀ w ∈ wsL_law_r10, w ∈ lw_tbl := fun w h => (goodIn_r (big := lw_tbl) wsL_law_r10 [413, 414, 415, 417, 3, 418, 188, 423, 424, 78, 425, 419, 421, 4, 422, 174, 427, 428, 429, 430, 431, 433, 5, 434] (by decide +kernel) (by decide +kernel) w h).1
theorem wsl_11 : ∀ w ∈ wsL_law_r11, w ∈ lw_tbl := fun w h => (goodIn_r (big := lw_tbl) wsL_law_r11 [379, 227, 435, 437, 6, 438, 387, 389, 390, 278, 391, 279, 246, 439, 441, 7, 442, 381, 443, 444, 445, 446, 248, 447] (by decide +kernel) (by decide +kernel) w h).1
theorem wsl_12 : ∀ w ∈ wsL_law_r12, w ∈ lw_tbl := fun w h => (goodIn_r (big := lw_tbl) wsL_law_r12 [448, 449, 242, 523, 231, 450, 452, 8, 453, 191, 388, 454, 455, 456, 457, 244, 458, 459, 460, 461, 462, 464, 9, 465] (by decide +kernel) (by decide +kernel) w h).1
theorem wsl_13 : ∀ w ∈ wsL_law_r13, w ∈ lw_tbl := fun w h => (goodIn_r (big := lw_tbl) wsL_law_r13 [466, 468, 10, 469, 225, 470, 471, 472, 473, 474, 475, 477, 11, 478, 479, 481, 12, 482, 483, 485, 13, 486, 487, 488] (by decide +kernel) (by decide +kernel) w h).1
theorem wsl_14 : ∀ w ∈ wsL_law_r14, w ∈ lw_tbl := fun w h => (goodIn_r (big := lw_tbl) wsL_law_r14 [489, 490, 491, 492, 493, 494, 495, 497, 14, 498, 235, 499, 501, 15, 502, 181, 178, 503, 505, 16, 506, 507, 508, 509] (by decide +kernel) (by decide +kernel) w h).1
theorem wsl_15 : ∀ w ∈ wsL_law_r15, w ∈ lw_tbl := fun w h => (goodIn_r (big := lw_tbl) wsL_law_r15 [510, 511, 513, 17, 514, 515, 516, 79, 517, 518, 519, 520, 521, 524, 532, 534, 18, 535, 536, 538, 19, 539, 383, 540] (by decide +kernel) (by decide +kernel) w h).1
theorem wsl_16 : ∀ w ∈ wsL_law_r16, w ∈ lw_tbl := fun w h => (goodIn_r (big := lw_tbl) wsL_law_r16 [541, 542, 543, 240, 544, 545, 547, 20, 548, 549, 550, 551, 552, 553, 229, 554, 556, 21, 557, 234, 237, 232, 558, 559] (by decide +kernel) (by decide +kernel) w h).1
theorem wsl_17 : ∀ w ∈ wsL_law_r17, w ∈ lw_tbl := fun w h => (goodIn_r (big := lw_tbl) wsL_law_r17 [560, 561, 562, 563, 565, 22, 566, 575, 80, 567, 569, 23, 570, 571, 572, 573, 574, 576, 577, 578, 579, 581, 582, 580] (by decide +kernel) (by decide +kernel) w h).1
theorem wsl_18 : ∀ w ∈ wsL_law_r18, w ∈ lw_tbl := fun w h => (goodIn_r (big := lw_tbl) wsL_law_r18 [583, 600, 601, 602, 603, 584, 587, 604, 605, 81, 606, 607, 609, 24, 610, 585, 611, 612, 613, 614, 615, 617, 25, 618] (by decide +kernel) (by decide +kernel) w h).1
theorem wsl_19 : ∀ w ∈ wsL_law_r19, w ∈ lw_tbl := fun w h => (goodIn_r (big := lw_tbl) wsL_law_r19 [619, 620, 621, 622, 623, 625, 26, 626, 588, 683, 627, 628, 629, 630, 631, 632, 633, 634, 635, 636, 637, 638, 639, 640] (by decide +kernel) (by decide +kernel) w h).1
theorem wsl_20 : ∀ w ∈ wsL_law_r20, w ∈ lw_tbl := fun w h => (goodIn_r (big := lw_tbl) wsL_law_r20 [641, 642, 643, 645, 27, 646, 647, 649, 28, 650, 136, 651, 652, 653, 654, 135, 137, 138, 655, 656, 657, 658, 659, 660] (by decide +kernel) (by decide +kernel) w h).1
theorem wsl_21 : ∀ w ∈ wsL_law_r21, w ∈ lw_tbl := fun w h => (goodIn_r (big := lw_tbl) wsL_law_r21 [661, 662, 663, 664, 665, 666, 667, 668, 669, 670, 672, 29, 673, 674, 675, 676, 677, 82, 678, 679, 680, 681, 682, 685] (by decide +kernel) (by decide +kernel) w h).1
theorem wsl_22 : ∀ w ∈ wsL_law_r22, w ∈ lw_tbl := fun w h => (goodIn_r (big := lw_tbl) wsL_law_r22 [693, 694, 695, 696, 697, 698, 699, 700, 701, 703, 30, 704, 687, 705, 707, 31, 708, 714, 709, 710, 711, 712, 713, 715] (by decide +kernel) (by decide +kernel) w h).1
theorem wsl_23 : ∀ w ∈ wsL_law_r23, w ∈ lw_tbl := fun w h => (goodIn_r (big := lw_tbl) wsL_law_r23 [716, 717, 718, 719, 720, 722, 32, 723, 979, 980, 981, 982, 816, 849, 839, 848, 847, 983, 985, 33, 986, 987, 989, 34] (by decide +kernel) (by decide +kernel) w h).1
theorem wsl_24 : ∀ w ∈ wsL_law_r24, w ∈ lw_tbl := fun w h => (goodIn_r (big := lw_tbl) wsL_law_r24 [990, 991, 993, 35, 994, 995, 997, 36, 998, 999, 1001, 37, 1002, 846, 837, 845, 854, 856, 857, 858, 851, 852, 1003, 1005] (by decide +kernel) (by decide +kernel) w h).1
theorem wsl_25 : ∀ w ∈ wsL_law_r25, w ∈ lw_tbl := fun w h => (goodIn_r (big := lw_tbl) wsL_law_r25 [38, 1006, 838, 1007, 1009, 39, 1010, 1011, 1013, 40, 1014, 1015, 1017, 41, 1018, 840, 841, 1019, 1021, 42, 1022, 1023, 1025, 43] (by decide +kernel) (by decide +kernel) w h).1
theorem wsl_26 : ∀ w ∈ wsL_law_r26, w ∈ lw_tbl := fun w h => (goodIn_r (big := lw_tbl) wsL_law_r26 [1026, 1027, 1029, 44, 1030, 842, 1031, 1033, 45, 1034, 1035, 1037, 46, 1038, 1039, 1040, 1041, 1042, 1044, 47, 1045, 1046, 1048, 48] (by decide +kernel) (by decide +kernel) w h).1
theorem wsl_27 : ∀ w ∈ wsL_law_r27, w ∈ lw_tbl := fun w h => (goodIn_r (big := lw_tbl) wsL_law_r27 [1049, 1050, 1052, 49, 1053, 1054, 1056, 50, 1057, 1058, 1060, 51, 1061, 1062, 1063, 1065, 52, 1066, 1067, 1069, 53, 1070, 825, 826] (by decide +kernel) (by decide +kernel) w h).1
theorem wsl_28 : ∀ w ∈ wsL_law_r28, w ∈ lw_tbl := fun w h => (goodIn_r (big := lw_tbl) wsL_law_r28 [827, 1071, 1073, 54, 1074, 1075, 1077, 55, 1078, 1079, 1081, 56, 1082, 1083, 1085, 57, 1086, 1087, 1088, 1089, 1090, 1091, 1092, 1093] (by decide +kernel) (by decide +kernel) w h).1
theorem wsl_29 : ∀ w ∈ wsL_law_r29, w ∈ lw_tbl := fun w h => (goodIn_r (big := lw_tbl) wsL_law_r29 [1094, 1095, 1097, 58, 1098, 1099, 1101, 59, 1102, 821, 1103, 1105, 60, 1106, 1107, 1109, 61, 1110, 1111, 1112, 1113, 1115, 62, 1116] (by decide +kernel) (by decide +kernel) w h).1
theorem wsl_30 : ∀ w ∈ wsL_law_r30, w ∈ lw_tbl := fun w h => (goodIn_r (big := lw_tbl) wsL_law_r30 [1117, 1119, 63, 1120, 1121, 1123, 64, 1124, 1125, 1127, 65, 1128, 1129, 1131, 66, 1132, 724, 725, 726, 727, 175, 1133, 1134, 1135] (by decide +kernel) (by decide +kernel) w h).1
theorem wsl_31 : ∀ w ∈ wsL_law_r31, w ∈ lw_tbl := fun w h => (goodIn_r (big := lw_tbl) wsL_law_r31 [1136, 728, 729, 730, 731, 177, 1137, 1138, 1139, 1140, 732, 733, 734, 735, 180, 522, 1141, 1142, 1143, 1144, 736, 737, 738, 739] (by decide +kernel) (by decide +kernel) w h).1
theorem wsl_32 : ∀ w ∈ wsL_law_r32, w ∈ lw_tbl := fun w h => (goodIn_r (big := lw_tbl) wsL_law_r32 [526, 1145, 1146, 1147, 1148, 740, 741, 742, 743, 183, 170, 1149, 1150, 1151, 1152, 744, 745, 746, 747, 185, 172, 1153, 1154, 1155] (by decide +kernel) (by decide +kernel) w h).1
theorem wsl_33 : ∀ w ∈ wsL_law_r33, w ∈ lw_tbl := fun w h => (goodIn_r (big := lw_tbl) wsL_law_r33 [1156, 748, 749, 750, 751, 187, 1157, 1158, 1159, 1160, 752, 753, 754, 755, 105, 190, 756, 757, 758, 759, 525, 1161, 1162, 1163] (by decide +kernel) (by decide +kernel) w h).1
theorem wsl_34 : ∀ w ∈ wsL_law_r34, w ∈ lw_tbl := fun w h => (goodIn_r (big := lw_tbl) wsL_law_r34 [1164, 1165, 1167, 67, 1168, 760, 761, 762, 763, 764, 765, 766, 767, 1169, 1170, 1171, 1172, 768, 769, 770, 771, 772, 773, 774] (by decide +kernel) (by decide +kernel) w h).1
theorem wsl_35 : ∀ w ∈ wsL_law_r35, w ∈ lw_tbl := fun w h => (goodIn_r (big := lw_tbl) wsL_law_r35 [775, 684, 1173, 1174, 1175, 1176, 776, 777, 778, 779, 686, 1177, 1178, 1179, 1180, 780, 781, 782, 783, 586, 784, 1181, 1182, 1183] (by decide +kernel) (by decide +kernel) w h).1
theorem wsl_36 : ∀ w ∈ wsL_law_r36, w ∈ lw_tbl := fun w h => (goodIn_r (big := lw_tbl) wsL_law_r36 [1184, 785, 786, 787, 788, 789, 790, 791, 1185, 1186, 1187, 1188, 1189, 792, 793, 794, 795, 153, 796, 797, 1190, 1191, 1192, 1193] (by decide +kernel) (by decide +kernel) w h).1
theorem inX0 : ∀ w ∈ wsX00, w ∈ lw_tbl := fun w h => (goodIn_r (big := lw_tbl) wsX00 [527, 529] (by decide +kernel) (by decide +kernel) w h).1
theorem inX1 : ∀ w ∈ wsX10, w ∈ lw_tbl := fun w h => (goodIn_r (big := lw_tbl) wsX10 [392, 394, 396, 398, 400, 402, 404, 406, 408] (by decide +kernel) (by decide +kernel) w h).1
theorem inX2 : ∀ w ∈ wsX20, w ∈ lw_tbl := fun w h => (goodIn_r (big := lw_tbl) wsX20 [139, 141, 143, 145] (by decide +kernel) (by decide +kernel) w h).1
theorem inX3 : ∀ w ∈ wsX30, w ∈ lw_tbl := fun w h => (goodIn_r (big := lw_tbl) wsX30 [154, 156, 158, 160] (by decide +kernel) (by decide +kernel) w h).1
theorem inX4 : ∀ w ∈ wsX40, w ∈ lw_tbl := fun w h => (goodIn_r (big := lw_tbl) wsX40 [192, 194, 196, 198, 200, 202, 204, 206, 208] (by decide +kernel) (by decide +kernel) w h).1
theorem inX5 : ∀ w ∈ wsX50, w ∈ lw_tbl := fun w h => (goodIn_r (big := lw_tbl) wsX50 [589, 591, 593, 595, 597] (by decide +kernel) (by decide +kernel) w h).1
theorem inX6 : ∀ w ∈ wsX60, w ∈ lw_tbl := fun w h => (goodIn_r (big := lw_tbl) wsX60 [106, 108, 110, 112, 114] (by decide +kernel) (by decide +kernel) w h).1
theorem inX7 : ∀ w ∈ wsX70, w ∈ lw_tbl := fun w h => (goodIn_r (big := lw_tbl) wsX70 [250, 252, 254, 256, 258, 260, 262, 264, 266] (by decide +kernel) (by decide +kernel) w h).1
theorem inX8 : ∀ w ∈ wsX80, w ∈ lw_tbl := fun w h => (goodIn_r (big := lw_tbl) wsX80 [688, 690] (by decide +kernel) (by decide +kernel) w h).1
theorem inX9 : ∀ w ∈ wsX90, w ∈ lw_tbl := fun w h => (goodIn_r (big := lw_tbl) wsX90 [280, 282, 284, 286, 288, 290, 292, 294, 296, 298, 300] (by decide +kernel) (by decide +kernel) w h).1
theorem inX10 : ∀ w ∈ wsX100, w ∈ lw_tbl := fun w h => (goodIn_r (big := lw_tbl) wsX100 [309, 311, 313, 315, 317, 319] (by decide +kernel) (by decide +kernel) w h).1
theorem inX11 : ∀ w ∈ wsX110, w ∈ lw_tbl := fun w h => (goodIn_r (big := lw_tbl) wsX110 [859, 861, 863, 865, 867, 869, 871, 873, 875, 877, 879, 881, 883, 885, 887, 889, 891, 893, 895, 897, 899, 901, 903, 905, 907, 909, 911, 913, 915, 917, 919, 921, 923, 925, 927, 929, 931, 933, 935, 937, 939, 941, 943, 945, 947, 949, 951, 953, 955, 957, 959, 961, 963, 965, 967] (by decide +kernel) (by decide +kernel) w h).1
theorem wsL_law_in : ∀ w ∈ wsL_law, w ∈ lw_tbl := List.forall_mem_append.mpr ⟨List.forall_mem_append.mpr ⟨List.forall_mem_append.mpr ⟨List.forall_mem_append.mpr ⟨List.forall_mem_append.mpr ⟨List.forall_mem_append.mpr ⟨List.forall_mem_append.mpr ⟨List.forall_mem_append.mpr ⟨List.forall_mem_append.mpr ⟨List.forall_mem_append.mpr ⟨List.forall_mem_append.mpr ⟨List.forall_mem_append.mpr ⟨List.forall_mem_append.mpr ⟨List.forall_mem_append.mpr ⟨wsl_1, List.forall_mem_append.mpr ⟨wsl_2, List.forall_mem_append.mpr ⟨wsl_3, List.forall_mem_append.mpr ⟨wsl_4, List.forall_mem_append.mpr ⟨wsl_5, List.forall_mem_append.mpr ⟨wsl_6, List.forall_mem_append.mpr ⟨wsl_7, List.forall_mem_append.mpr ⟨wsl_8, List.forall_mem_append.mpr ⟨wsl_9, List.forall_mem_append.mpr ⟨wsl_10, List.forall_mem_append.mpr ⟨wsl_11, List.forall_mem_append.mpr ⟨wsl_12, List.forall_mem_append.mpr ⟨wsl_13, List.forall_mem_append.mpr ⟨wsl_14, List.forall_mem_append.mpr ⟨wsl_15, List.forall_mem_append.mpr ⟨wsl_16, List.forall_mem_append.mpr ⟨wsl_17, List.forall_mem_append.mpr ⟨wsl_18, List.forall_mem_append.mpr ⟨wsl_19, List.forall_mem_append.mpr ⟨wsl_20, List.forall_mem_append.mpr ⟨wsl_21, List.forall_mem_append.mpr ⟨wsl_22, List.forall_mem_append.mpr ⟨wsl_23, List.forall_mem_append.mpr ⟨wsl_24, List.forall_mem_append.mpr ⟨wsl_25, List.forall_mem_append.mpr ⟨wsl_26, List.forall_mem_append.mpr ⟨wsl_27, List.forall_mem_append.mpr ⟨wsl_28, List.forall_mem_append.mpr ⟨wsl_29, List.forall_mem_append.mpr ⟨wsl_30, List.forall_mem_append.mpr ⟨wsl_31, List.forall_mem_append.mpr ⟨wsl_32, List.forall_mem_append.mpr ⟨wsl_33, List.forall_mem_append.mpr ⟨wsl_34, List.forall_mem_append.mpr ⟨wsl_35, wsl_36⟩⟩⟩⟩⟩⟩⟩⟩⟩⟩⟩⟩⟩⟩⟩⟩⟩⟩⟩⟩⟩⟩⟩⟩⟩⟩⟩⟩⟩⟩⟩⟩⟩⟩⟩, inX10⟩, inX11⟩, inX6⟩, inX3⟩, inX4⟩, inX9⟩, inX2⟩, inX7⟩, inX1⟩, inX0⟩, inX5⟩, inX8⟩, fun _ h => absurd h List.not_mem_nil⟩
theorem inlX10 : ∀ w ∈ wsX100, w ∈ wsL_law := fun _ h => List.mem_append_left _ (List.mem_append_left _ (List.mem_append_left _ (List.mem_append_left _ (List.mem_append_left _ (List.mem_append_left _ (List.mem_append_left _ (List.mem_append_left _ (List.mem_append_left _ (List.mem_append_left _ (List.mem_append_left _ (List.mem_append_left _ (List.mem_append_right _ h))))))))))))
theorem inlX11 : ∀ w ∈ wsX110, w ∈ wsL_law := fun _ h => List.mem_append_left _ (List.mem_append_left _ (List.mem_append_left _ (List.mem_append_left _ (List.mem_append_left _ (List.mem_append_left _ (List.mem_append_left _ (List.mem_append_left _ (List.mem_append_left _ (List.mem_append_left _ (List.mem_append_left _ (List.mem_append_right _ h)))))))))))
theorem inlX6 : ∀ w ∈ wsX60, w ∈ wsL_law := fun _ h => List.mem_append_left _ (List.mem_append_left _ (List.mem_append_left _ (List.mem_append_left _ (List.mem_append_left _ (List.mem_append_left _ (List.mem_append_left _ (List.mem_append_left _ (List.mem_append_left _ (List.mem_append_left _ (List.mem_append_right _ h))))))))))
theorem inlX3 : ∀ w ∈ wsX30, w ∈ wsL_law := fun _ h => List.mem_append_left _ (List.mem_append_left _ (List.mem_append_left _ (List.mem_append_left _ (List.mem_append_left _ (List.mem_append_left _ (List.mem_append_left _ (List.mem_append_left _ (List.mem_append_left _ (List.mem_append_right _ h)))))))))
theorem inlX4 : ∀ w ∈ wsX40, w ∈ wsL_law := fun _ h => List.mem_append_left _ (List.mem_append_left _ (List.mem_append_left _ (List.mem_append_left _ (List.mem_append_left _ (List.mem_append_left _ (List.mem_append_left _ (List.mem_append_left _ (List.mem_append_right _ h))))))))
theorem inlX9 : ∀ w ∈ wsX90, w ∈ wsL_law := fun _ h => List.mem_append_left _ (List.mem_append_left _ (List.mem_append_left _ (List.mem_append_left _ (List.mem_append_left _ (List.mem_append_left _ (List.mem_append_left _ (List.mem_append_right _ h)))))))
theorem inlX2 : ∀ w ∈ wsX20, w ∈ wsL_law := fun _ h => List.mem_append_left _ (List.mem_append_left _ (List.mem_append_left _ (List.mem_append_left _ (List.mem_append_left _ (List.mem_append_left _ (List.mem_append_right _ h))))))
theorem inlX7 : ∀ w ∈ wsX70, w ∈ wsL_law := fun _ h => List.mem_append_left _ (List.mem_append_left _ (List.mem_append_left _ (List.mem_append_left _ (List.mem_append_left _ (List.mem_append_right _ h)))))
theorem inlX1 : ∀ w ∈ wsX10, w ∈ wsL_law := fun _ h => List.mem_append_left _ (List.mem_append_left _ (List.mem_append_left _ (List.mem_append_left _ (List.mem_append_right _ h))))
theorem inlX0 : ∀ w ∈ wsX00, w ∈ wsL_law := fun _ h => List.mem_append_left _ (List.mem_append_left _ (List.mem_append_left _ (List.mem_append_right _ h)))
theorem inlX5 : ∀ w ∈ wsX50, w ∈ wsL_law := fun _ h => List.mem_append_left _ (List.mem_append_left _ (List.mem_append_right _ h))
theorem inlX8 : ∀ w ∈ wsX80, w ∈ wsL_law := fun _ h => List.mem_append_left _ (List.mem_append_right _ h)
end
section
theorem dX0_init_0 : decode cX0_init 0 = .ok (.aload_n 0, 1) := by decide +kernel
theorem dX0_init_1 : decode cX0_init 1 = .ok (.invokespecial 1, 3) := by decide +kernel
theorem dX0_init_4 : decode cX0_init 4 = .ok (.aload_n 0, 1) := by decide +kernel
theorem dX0_init_5 : decode cX0_init 5 = .ok (.iload_n 1, 1) := by decide +kernel
theorem dX0_init_6 : decode cX0_init 6 = .ok (.putfield 7, 3) := by decide +kernel
theorem dX0_init_9 : decode cX0_init 9 = .ok (.aload_n 0, 1) := by decide +kernel
theorem dX0_init_10 : decode cX0_init 10 = .ok (.aload_n 2, 1) := by decide +kernel
theorem dX0_init_11 : decode cX0_init 11 = .ok (.putfield 13, 3) := by decide +kernel
theorem dX0_init_14 : decode cX0_init 14 = .ok (.return_, 1) := by decide +kernel
theorem dX1_init_0 : decode cX1_init 0 = .ok (.aload_n 0, 1) := by decide +kernel
theorem dX1_init_1 : decode cX1_init 1 = .ok (.invokespecial 3, 3) := by decide +kernel
theorem dX1_init_4 : decode cX1_init 4 = .ok (.aload_n 0, 1) := by decide +kernel
theorem dX1_init_5 : decode cX1_init 5 = .ok (.iconst 0, 1) := by decide +kernel
theorem dX1_init_6 : decode cX1_init 6 = .ok (.putfield 9, 3) := by decide +kernel
theorem dX1_init_9 : decode cX1_init 9 = .ok (.aload_n 0, 1) := by decide +kernel
theorem dX1_init_10 : decode cX1_init 10 = .ok (.aload_n 1, 1) := by decide +kernel
theorem dX1_init_11 : decode cX1_init 11 = .ok (.putfield 15, 3) := by decide +kernel
theorem dX1_init_14 : decode cX1_init 14 = .ok (.aload_n 0, 1) := by decide +kernel
theorem dX1_init_15 : decode cX1_init 15 = .ok (.aload_n 2, 1) := by decide +kernel
theorem dX1_init_16 : decode cX1_init 16 = .ok (.putfield 19, 3) := by decide +kernel
theorem dX1_init_19 : decode cX1_init 19 = .ok (.aload_n 0, 1) := by decide +kernel
theorem dX1_init_20 : decode cX1_init 20 = .ok (.iload_n 3, 1) := by decide +kernel
theorem dX1_init_21 : decode cX1_init 21 = .ok (.putfield 23, 3) := by decide +kernel
theorem dX1_init_24 : decode cX1_init 24 = .ok (.aload_n 0, 1) := by decide +kernel
theorem dX1_init_25 : decode cX1_init 25 = .ok (.iload_n 3, 1) := by decide +kernel
theorem dX1_init_26 : decode cX1_init 26 = .ok (.putfield 26, 3) := by decide +kernel
theorem dX1_init_29 : decode cX1_init 29 = .ok (.return_, 1) := by decide +kernel
theorem dX1_blockEnd_0 : decode cX1_blockEnd 0 = .ok (.aload_n 0, 1) := by decide +kernel
theorem dX1_blockEnd_1 : decode cX1_blockEnd 1 = .ok (.getfield 15, 3) := by decide +kernel
theorem dX1_blockEnd_4 : decode cX1_blockEnd 4 = .ok (.getfield 29, 3) := by decide +kernel
theorem dX1_blockEnd_7 : decode cX1_blockEnd 7 = .ok (.ifCond .lt 13, 3) := by decide +kernel
theorem dX1_blockEnd_10 : decode cX1_blockEnd 10 = .ok (.aload_n 0, 1) := by decide +kernel
theorem dX1_blockEnd_11 : decode cX1_blockEnd 11 = .ok (.getfield 15, 3) := by decide +kernel
theorem dX1_blockEnd_14 : decode cX1_blockEnd 14 = .ok (.getfield 29, 3) := by decide +kernel
theorem dX1_blockEnd_17 : decode cX1_blockEnd 17 = .ok (.goto 7, 3) := by decide +kernel
theorem dX1_blockEnd_20 : decode cX1_blockEnd 20 = .ok (.aload_n 0, 1) := by decide +kernel
theorem dX1_blockEnd_21 : decode cX1_blockEnd 21 = .ok (.getfield 23, 3) := by decide +kernel
theorem dX1_blockEnd_24 : decode cX1_blockEnd 24 = .ok (.ireturn, 1) := by decide +kernel
theorem dX1_placeBehind_0 : decode cX1_placeBehind 0 = .ok (.aload_n 0, 1) := by decide +kernel
theorem dX1_placeBehind_1 : decode cX1_placeBehind 1 = .ok (.getfield 15, 3) := by decide +kernel
theorem dX1_placeBehind_4 : decode cX1_placeBehind 4 = .ok (.getfield 29, 3) := by decide +kernel
theorem dX1_placeBehind_7 : decode cX1_placeBehind 7 = .ok (.ifCond .lt 15, 3) := by decide +kernel
theorem dX1_placeBehind_10 : decode cX1_placeBehind 10 = .ok (.aload_n 0, 1) := by decide +kernel
theorem dX1_placeBehind_11 : decode cX1_placeBehind 11 = .ok (.getfield 15, 3) := by decide +kernel
theorem dX1_placeBehind_14 : decode cX1_placeBehind 14 = .ok (.getfield 29, 3) := by decide +kernel
theorem dX1_placeBehind_17 : decode cX1_placeBehind 17 = .ok (.iconst 1, 1) := by decide +kernel
theorem dX1_placeBehind_18 : decode cX1_placeBehind 18 = .ok (.iadd, 1) := by decide +kernel
theorem dX1_placeBehind_19 : decode cX1_placeBehind 19 = .ok (.goto 7, 3) := by decide +kernel
theorem dX1_placeBehind_22 : decode cX1_placeBehind 22 = .ok (.aload_n 0, 1) := by decide +kernel
theorem dX1_placeBehind_23 : decode cX1_placeBehind 23 = .ok (.getfield 23, 3) := by decide +kernel
theorem dX1_placeBehind_26 : decode cX1_placeBehind 26 = .ok (.ireturn, 1) := by decide +kernel
theorem dX1_takerEnd_0 : decode cX1_takerEnd 0 = .ok (.aload_n 0, 1) := by decide +kernel
theorem dX1_takerEnd_1 : decode cX1_takerEnd 1 = .ok (.getfield 15, 3) := by decide +kernel
theorem dX1_takerEnd_4 : decode cX1_takerEnd 4 = .ok (.getfield 34, 3) := by decide +kernel
theorem dX1_takerEnd_7 : decode cX1_takerEnd 7 = .ok (.ifCond .lt 13, 3) := by decide +kernel
theorem dX1_takerEnd_10 : decode cX1_takerEnd 10 = .ok (.aload_n 0, 1) := by decide +kernel
theorem dX1_takerEnd_11 : decode cX1_takerEnd 11 = .ok (.getfield 15, 3) := by decide +kernel
theorem dX1_takerEnd_14 : decode cX1_takerEnd 14 = .ok (.getfield 34, 3) := by decide +kernel
theorem dX1_takerEnd_17 : decode cX1_takerEnd 17 = .ok (.goto 7, 3) := by decide +kernel
theorem dX1_takerEnd_20 : decode cX1_takerEnd 20 = .ok (.aload_n 0, 1) := by decide +kernel
theorem dX1_takerEnd_21 : decode cX1_takerEnd 21 = .ok (.invokevirtual 37, 3) := by decide +kernel
theorem dX1_takerEnd_24 : decode cX1_takerEnd 24 = .ok (.ireturn, 1) := by decide +kernel
theorem dX1_bodyEnd_0 : decode cX1_bodyEnd 0 = .ok (.aload_n 0, 1) := by decide +kernel
theorem dX1_bodyEnd_1 : decode cX1_bodyEnd 1 = .ok (.getfield 15, 3) := by decide +kernel
theorem dX1_bodyEnd_4 : decode cX1_bodyEnd 4 = .ok (.getfield 41, 3) := by decide +kernel
theorem dX1_bodyEnd_7 : decode cX1_bodyEnd 7 = .ok (.ifCond .lt 13, 3) := by decide +kernel
theorem dX1_bodyEnd_10 : decode cX1_bodyEnd 10 = .ok (.aload_n 0, 1) := by decide +kernel
theorem dX1_bodyEnd_11 : decode cX1_bodyEnd 11 = .ok (.getfield 15, 3) := by decide +kernel
theorem dX1_bodyEnd_14 : decode cX1_bodyEnd 14 = .ok (.getfield 41, 3) := by decide +kernel
theorem dX1_bodyEnd_17 : decode cX1_bodyEnd 17 = .ok (.goto 7, 3) := by decide +kernel
theorem dX1_bodyEnd_20 : decode cX1_bodyEnd 20 = .ok (.aload_n 0, 1) := by decide +kernel
theorem dX1_bodyEnd_21 : decode cX1_bodyEnd 21 = .ok (.invokevirtual 44, 3) := by decide +kernel
theorem dX1_bodyEnd_24 : decode cX1_bodyEnd 24 = .ok (.ireturn, 1) := by decide +kernel
theorem dX2_init_0 : decode cX2_init 0 = .ok (.aload_n 0, 1) := by decide +kernel
theorem dX2_init_1 : decode cX2_init 1 = .ok (.invokespecial 3, 3) := by decide +kernel
theorem dX2_init_4 : decode cX2_init 4 = .ok (.aload_n 0, 1) := by decide +kernel
theorem dX2_init_5 : decode cX2_init 5 = .ok (.bipush 49, 2) := by decide +kernel
theorem dX2_init_7 : decode cX2_init 7 = .ok (.newarray .int, 2) := by decide +kernel
theorem dX2_init_9 : decode cX2_init 9 = .ok (.putfield 9, 3) := by decide +kernel
theorem dX2_init_12 : decode cX2_init 12 = .ok (.return_, 1) := by decide +kernel
theorem dX2_make_0 : decode cX2_make 0 = .ok (.aload_n 0, 1) := by decide +kernel
theorem dX2_make_1 : decode cX2_make 1 = .ok (.iconst 1, 1) := by decide +kernel
theorem dX2_make_2 : decode cX2_make 2 = .ok (.putfield 15, 3) := by decide +kernel
theorem dX2_make_5 : decode cX2_make 5 = .ok (.aload_n 0, 1) := by decide +kernel
theorem dX2_make_6 : decode cX2_make 6 = .ok (.iload_n 1, 1) := by decide +kernel
theorem dX2_make_7 : decode cX2_make 7 = .ok (.putfield 19, 3) := by decide +kernel
theorem dX2_make_10 : decode cX2_make 10 = .ok (.aload_n 0, 1) := by decide +kernel
theorem dX2_make_11 : decode cX2_make 11 = .ok (.iload_n 2, 1) := by decide +kernel
theorem dX2_make_12 : decode cX2_make 12 = .ok (.putfield 23, 3) := by decide +kernel
theorem dX2_make_15 : decode cX2_make 15 = .ok (.aload_n 0, 1) := by decide +kernel
theorem dX2_make_16 : decode cX2_make 16 = .ok (.getfield 9, 3) := by decide +kernel
theorem dX2_make_19 : decode cX2_make 19 = .ok (.iconst 0, 1) := by decide +kernel
theorem dX2_make_20 : decode cX2_make 20 = .ok (.invokestatic 26, 3) := by decide +kernel
theorem dX2_make_23 : decode cX2_make 23 = .ok (.return_, 1) := by decide +kernel
theorem dX2_has_0 : decode cX2_has 0 = .ok (.iload_n 1, 1) := by decide +kernel
theorem dX2_has_1 : decode cX2_has 1 = .ok (.ifCond .lt 27, 3) := by decide +kernel
theorem dX2_has_4 : decode cX2_has 4 = .ok (.iload_n 1, 1) := by decide +kernel
theorem dX2_has_5 : decode cX2_has 5 = .ok (.aload_n 0, 1) := by decide +kernel
theorem dX2_has_6 : decode cX2_has 6 = .ok (.getfield 19, 3) := by decide +kernel
theorem dX2_has_9 : decode cX2_has 9 = .ok (.if_icmp .ge 19, 3) := by decide +kernel
theorem dX2_has_12 : decode cX2_has 12 = .ok (.iload_n 2, 1) := by decide +kernel
theorem dX2_has_13 : decode cX2_has 13 = .ok (.ifCond .lt 15, 3) := by decide +kernel
theorem dX2_has_16 : decode cX2_has 16 = .ok (.iload_n 2, 1) := by decide +kernel
theorem dX2_has_17 : decode cX2_has 17 = .ok (.aload_n 0, 1) := by decide +kernel
theorem dX2_has_18 : decode cX2_has 18 = .ok (.getfield 23, 3) := by decide +kernel
theorem dX2_has_21 : decode cX2_has 21 = .ok (.if_icmp .ge 7, 3) := by decide +kernel
theorem dX2_has_24 : decode cX2_has 24 = .ok (.iconst 1, 1) := by decide +kernel
theorem dX2_has_25 : decode cX2_has 25 = .ok (.goto 4, 3) := by decide +kernel
theorem dX2_has_28 : decode cX2_has 28 = .ok (.iconst 0, 1) := by decide +kernel
theorem dX2_has_29 : decode cX2_has 29 = .ok (.ireturn, 1) := by decide +kernel
theorem dX2_cellAt_0 : decode cX2_cellAt 0 = .ok (.iload_n 1, 1) := by decide +kernel
theorem dX2_cellAt_1 : decode cX2_cellAt 1 = .ok (.bipush 7, 2) := by decide +kernel
theorem dX2_cellAt_3 : decode cX2_cellAt 3 = .ok (.imul, 1) := by decide +kernel
theorem dX2_cellAt_4 : decode cX2_cellAt 4 = .ok (.iload_n 2, 1) := by decide +kernel
theorem dX2_cellAt_5 : decode cX2_cellAt 5 = .ok (.iadd, 1) := by decide +kernel
theorem dX2_cellAt_6 : decode cX2_cellAt 6 = .ok (.istore_n 3, 1) := by decide +kernel
theorem dX2_cellAt_7 : decode cX2_cellAt 7 = .ok (.iload_n 3, 1) := by decide +kernel
theorem dX2_cellAt_8 : decode cX2_cellAt 8 = .ok (.ifCond .lt 21, 3) := by decide +kernel
theorem dX2_cellAt_11 : decode cX2_cellAt 11 = .ok (.iload_n 3, 1) := by decide +kernel
theorem dX2_cellAt_12 : decode cX2_cellAt 12 = .ok (.aload_n 0, 1) := by decide +kernel
theorem dX2_cellAt_13 : decode cX2_cellAt 13 = .ok (.getfield 9, 3) := by decide +kernel
theorem dX2_cellAt_16 : decode cX2_cellAt 16 = .ok (.arraylength, 1) := by decide +kernel
theorem dX2_cellAt_17 : decode cX2_cellAt 17 = .ok (.if_icmp .ge 12, 3) := by decide +kernel
theorem dX2_cellAt_20 : decode cX2_cellAt 20 = .ok (.aload_n 0, 1) := by decide +kernel
theorem dX2_cellAt_21 : decode cX2_cellAt 21 = .ok (.getfield 9, 3) := by decide +kernel
theorem dX2_cellAt_24 : decode cX2_cellAt 24 = .ok (.iload_n 3, 1) := by decide +kernel
theorem dX2_cellAt_25 : decode cX2_cellAt 25 = .ok (.iaload, 1) := by decide +kernel
theorem dX2_cellAt_26 : decode cX2_cellAt 26 = .ok (.goto 4, 3) := by decide +kernel
theorem dX2_cellAt_29 : decode cX2_cellAt 29 = .ok (.iconst 0, 1) := by decide +kernel
theorem dX2_cellAt_30 : decode cX2_cellAt 30 = .ok (.ireturn, 1) := by decide +kernel
theorem dX2_putCell_0 : decode cX2_putCell 0 = .ok (.iload_n 1, 1) := by decide +kernel
theorem dX2_putCell_1 : decode cX2_putCell 1 = .ok (.bipush 7, 2) := by decide +kernel
theorem dX2_putCell_3 : decode cX2_putCell 3 = .ok (.imul, 1) := by decide +kernel
theorem dX2_putCell_4 : decode cX2_putCell 4 = .ok (.iload_n 2, 1) := by decide +kernel
theorem dX2_putCell_5 : decode cX2_putCell 5 = .ok (.iadd, 1) := by decide +kernel
theorem dX2_putCell_6 : decode cX2_putCell 6 = .ok (.istore 4, 2) := by decide +kernel
theorem dX2_putCell_8 : decode cX2_putCell 8 = .ok (.iload 4, 2) := by decide +kernel
theorem dX2_putCell_10 : decode cX2_putCell 10 = .ok (.ifCond .lt 21, 3) := by decide +kernel
theorem dX2_putCell_13 : decode cX2_putCell 13 = .ok (.iload 4, 2) := by decide +kernel
theorem dX2_putCell_15 : decode cX2_putCell 15 = .ok (.aload_n 0, 1) := by decide +kernel
theorem dX2_putCell_16 : decode cX2_putCell 16 = .ok (.getfield 9, 3) := by decide +kernel
theorem dX2_putCell_19 : decode cX2_putCell 19 = .ok (.arraylength, 1) := by decide +kernel
theorem dX2_putCell_20 : decode cX2_putCell 20 = .ok (.if_icmp .ge 11, 3) := by decide +kernel
theorem dX2_putCell_23 : decode cX2_putCell 23 = .ok (.aload_n 0, 1) := by decide +kernel
theorem dX2_putCell_24 : decode cX2_putCell 24 = .ok (.getfield 9, 3) := by decide +kernel
theorem dX2_putCell_27 : decode cX2_putCell 27 = .ok (.iload 4, 2) := by decide +kernel
theorem dX2_putCell_29 : decode cX2_putCell 29 = .ok (.iload_n 3, 1) := by decide +kernel
theorem dX2_putCell_30 : decode cX2_putCell 30 = .ok (.iastore, 1) := by decide +kernel
theorem dX2_putCell_31 : decode cX2_putCell 31 = .ok (.return_, 1) := by decide +kernel
theorem dX3_init_0 : decode cX3_init 0 = .ok (.aload_n 0, 1) := by decide +kernel
theorem dX3_init_1 : decode cX3_init 1 = .ok (.invokespecial 3, 3) := by decide +kernel
theorem dX3_init_4 : decode cX3_init 4 = .ok (.aload_n 0, 1) := by decide +kernel
theorem dX3_init_5 : decode cX3_init 5 = .ok (.bipush 8, 2) := by decide +kernel
theorem dX3_init_7 : decode cX3_init 7 = .ok (.newarray .long, 2) := by decide +kernel
theorem dX3_init_9 : decode cX3_init 9 = .ok (.putfield 9, 3) := by decide +kernel
theorem dX3_init_12 : decode cX3_init 12 = .ok (.aload_n 0, 1) := by decide +kernel
theorem dX3_init_13 : decode cX3_init 13 = .ok (.bipush 8, 2) := by decide +kernel
theorem dX3_init_15 : decode cX3_init 15 = .ok (.anewarray 15, 3) := by decide +kernel
theorem dX3_init_18 : decode cX3_init 18 = .ok (.putfield 17, 3) := by decide +kernel
theorem dX3_init_21 : decode cX3_init 21 = .ok (.aload_n 0, 1) := by decide +kernel
theorem dX3_init_22 : decode cX3_init 22 = .ok (.bipush 64, 2) := by decide +kernel
theorem dX3_init_24 : decode cX3_init 24 = .ok (.anewarray 21, 3) := by decide +kernel
theorem dX3_init_27 : decode cX3_init 27 = .ok (.putfield 23, 3) := by decide +kernel
theorem dX3_init_30 : decode cX3_init 30 = .ok (.aload_n 0, 1) := by decide +kernel
theorem dX3_init_31 : decode cX3_init 31 = .ok (.new 27, 3) := by decide +kernel
theorem dX3_init_34 : decode cX3_init 34 = .ok (.dup, 1) := by decide +kernel
theorem dX3_init_35 : decode cX3_init 35 = .ok (.invokespecial 29, 3) := by decide +kernel
theorem dX3_init_38 : decode cX3_init 38 = .ok (.putfield 30, 3) := by decide +kernel
theorem dX3_init_41 : decode cX3_init 41 = .ok (.return_, 1) := by decide +kernel
theorem dX3_numberOf_0 : decode cX3_numberOf 0 = .ok (.aload_n 0, 1) := by decide +kernel
theorem dX3_numberOf_1 : decode cX3_numberOf 1 = .ok (.getfield 9, 3) := by decide +kernel
theorem dX3_numberOf_4 : decode cX3_numberOf 4 = .ok (.iload_n 1, 1) := by decide +kernel
theorem dX3_numberOf_5 : decode cX3_numberOf 5 = .ok (.bipush 7, 2) := by decide +kernel
theorem dX3_numberOf_7 : decode cX3_numberOf 7 = .ok (.iand, 1) := by decide +kernel
theorem dX3_numberOf_8 : decode cX3_numberOf 8 = .ok (.laload, 1) := by decide +kernel
theorem dX3_numberOf_9 : decode cX3_numberOf 9 = .ok (.lreturn, 1) := by decide +kernel
theorem dX3_setNumber_0 : decode cX3_setNumber 0 = .ok (.aload_n 0, 1) := by decide +kernel
theorem dX3_setNumber_1 : decode cX3_setNumber 1 = .ok (.getfield 9, 3) := by decide +kernel
theorem dX3_setNumber_4 : decode cX3_setNumber 4 = .ok (.iload_n 1, 1) := by decide +kernel
theorem dX3_setNumber_5 : decode cX3_setNumber 5 = .ok (.bipush 7, 2) := by decide +kernel
theorem dX3_setNumber_7 : decode cX3_setNumber 7 = .ok (.iand, 1) := by decide +kernel
theorem dX3_setNumber_8 : decode cX3_setNumber 8 = .ok (.lload_n 2, 1) := by decide +kernel
theorem dX3_setNumber_9 : decode cX3_setNumber 9 = .ok (.lastore, 1) := by decide +kernel
theorem dX3_setNumber_10 : decode cX3_setNumber 10 = .ok (.return_, 1) := by decide +kernel
theorem dX3_thingOf_0 : decode cX3_thingOf 0 = .ok (.aload_n 0, 1) := by decide +kernel
theorem dX3_thingOf_1 : decode cX3_thingOf 1 = .ok (.getfield 17, 3) := by decide +kernel
theorem dX3_thingOf_4 : decode cX3_thingOf 4 = .ok (.iload_n 1, 1) := by decide +kernel
theorem dX3_thingOf_5 : decode cX3_thingOf 5 = .ok (.bipush 7, 2) := by decide +kernel
theorem dX3_thingOf_7 : decode cX3_thingOf 7 = .ok (.iand, 1) := by decide +kernel
theorem dX3_thingOf_8 : decode cX3_thingOf 8 = .ok (.aaload, 1) := by decide +kernel
theorem dX3_thingOf_9 : decode cX3_thingOf 9 = .ok (.areturn, 1) := by decide +kernel
theorem dX3_rowOf_0 : decode cX3_rowOf 0 = .ok (.aload_n 0, 1) := by decide +kernel
theorem dX3_rowOf_1 : decode cX3_rowOf 1 = .ok (.getfield 23, 3) := by decide +kernel
theorem dX3_rowOf_4 : decode cX3_rowOf 4 = .ok (.iload_n 1, 1) := by decide +kernel
theorem dX3_rowOf_5 : decode cX3_rowOf 5 = .ok (.bipush 7, 2) := by decide +kernel
theorem dX3_rowOf_7 : decode cX3_rowOf 7 = .ok (.iand, 1) := by decide +kernel
theorem dX3_rowOf_8 : decode cX3_rowOf 8 = .ok (.iconst 3, 1) := by decide +kernel
theorem dX3_rowOf_9 : decode cX3_rowOf 9 = .ok (.ishl, 1) := by decide +kernel
theorem dX3_rowOf_10 : decode cX3_rowOf 10 = .ok (.iload_n 2, 1) := by decide +kernel
theorem dX3_rowOf_11 : decode cX3_rowOf 11 = .ok (.bipush 7, 2) := by decide +kernel
theorem dX3_rowOf_13 : decode cX3_rowOf 13 = .ok (.iand, 1) := by decide +kernel
theorem dX3_rowOf_14 : decode cX3_rowOf 14 = .ok (.ior, 1) := by decide +kernel
theorem dX3_rowOf_15 : decode cX3_rowOf 15 = .ok (.aaload, 1) := by decide +kernel
theorem dX3_rowOf_16 : decode cX3_rowOf 16 = .ok (.areturn, 1) := by decide +kernel
theorem dX3_intOf_0 : decode cX3_intOf 0 = .ok (.aload_n 0, 1) := by decide +kernel
theorem dX3_intOf_1 : decode cX3_intOf 1 = .ok (.iload_n 1, 1) := by decide +kernel
theorem dX3_intOf_2 : decode cX3_intOf 2 = .ok (.invokevirtual 34, 3) := by decide +kernel
theorem dX3_intOf_5 : decode cX3_intOf 5 = .ok (.l2i, 1) := by decide +kernel
theorem dX3_intOf_6 : decode cX3_intOf 6 = .ok (.ireturn, 1) := by decide +kernel
theorem dX3_workStep_0 : decode cX3_workStep 0 = .ok (.aload_n 1, 1) := by decide +kernel
theorem dX3_workStep_1 : decode cX3_workStep 1 = .ok (.getfield 38, 3) := by decide +kernel
theorem dX3_workStep_4 : decode cX3_workStep 4 = .ok (.bipush 6, 2) := by decide +kernel
theorem dX3_workStep_6 : decode cX3_workStep 6 = .ok (.if_icmp .gt 9, 3) := by decide +kernel
theorem dX3_workStep_9 : decode cX3_workStep 9 = .ok (.aload_n 0, 1) := by decide +kernel
theorem dX3_workStep_10 : decode cX3_workStep 10 = .ok (.aload_n 1, 1) := by decide +kernel
theorem dX3_workStep_11 : decode cX3_workStep 11 = .ok (.invokevirtual 44, 3) := by decide +kernel
theorem dX3_workStep_14 : decode cX3_workStep 14 = .ok (.ireturn, 1) := by decide +kernel
theorem dX3_workStep_15 : decode cX3_workStep 15 = .ok (.aload_n 1, 1) := by decide +kernel
theorem dX3_workStep_16 : decode cX3_workStep 16 = .ok (.getfield 38, 3) := by decide +kernel
theorem dX3_workStep_19 : decode cX3_workStep 19 = .ok (.bipush 7, 2) := by decide +kernel
theorem dX3_workStep_21 : decode cX3_workStep 21 = .ok (.if_icmp .ne 9, 3) := by decide +kernel
theorem dX3_workStep_24 : decode cX3_workStep 24 = .ok (.aload_n 0, 1) := by decide +kernel
theorem dX3_workStep_25 : decode cX3_workStep 25 = .ok (.aload_n 1, 1) := by decide +kernel
theorem dX3_workStep_26 : decode cX3_workStep 26 = .ok (.invokevirtual 48, 3) := by decide +kernel
theorem dX3_workStep_29 : decode cX3_workStep 29 = .ok (.ireturn, 1) := by decide +kernel
theorem dX3_workStep_30 : decode cX3_workStep 30 = .ok (.aload_n 1, 1) := by decide +kernel
theorem dX3_workStep_31 : decode cX3_workStep 31 = .ok (.getfield 38, 3) := by decide +kernel
theorem dX3_workStep_34 : decode cX3_workStep 34 = .ok (.bipush 10, 2) := by decide +kernel
theorem dX3_workStep_36 : decode cX3_workStep 36 = .ok (.if_icmp .gt 9, 3) := by decide +kernel
theorem dX3_workStep_39 : decode cX3_workStep 39 = .ok (.aload_n 0, 1) := by decide +kernel
theorem dX3_workStep_40 : decode cX3_workStep 40 = .ok (.aload_n 1, 1) := by decide +kernel
theorem dX3_workStep_41 : decode cX3_workStep 41 = .ok (.invokevirtual 51, 3) := by decide +kernel
theorem dX3_workStep_44 : decode cX3_workStep 44 = .ok (.ireturn, 1) := by decide +kernel
theorem dX3_workStep_45 : decode cX3_workStep 45 = .ok (.aload_n 1, 1) := by decide +kernel
theorem dX3_workStep_46 : decode cX3_workStep 46 = .ok (.getfield 38, 3) := by decide +kernel
theorem dX3_workStep_49 : decode cX3_workStep 49 = .ok (.bipush 13, 2) := by decide +kernel
theorem dX3_workStep_51 : decode cX3_workStep 51 = .ok (.if_icmp .gt 9, 3) := by decide +kernel
theorem dX3_workStep_54 : decode cX3_workStep 54 = .ok (.aload_n 0, 1) := by decide +kernel
theorem dX3_workStep_55 : decode cX3_workStep 55 = .ok (.aload_n 1, 1) := by decide +kernel
theorem dX3_workStep_56 : decode cX3_workStep 56 = .ok (.invokevirtual 54, 3) := by decide +kernel
theorem dX3_workStep_59 : decode cX3_workStep 59 = .ok (.ireturn, 1) := by decide +kernel
theorem dX3_workStep_60 : decode cX3_workStep 60 = .ok (.aload_n 1, 1) := by decide +kernel
theorem dX3_workStep_61 : decode cX3_workStep 61 = .ok (.getfield 38, 3) := by decide +kernel
theorem dX3_workStep_64 : decode cX3_workStep 64 = .ok (.bipush 18, 2) := by decide +kernel
theorem dX3_workStep_66 : decode cX3_workStep 66 = .ok (.if_icmp .gt 9, 3) := by decide +kernel
theorem dX3_workStep_69 : decode cX3_workStep 69 = .ok (.aload_n 0, 1) := by decide +kernel
theorem dX3_workStep_70 : decode cX3_workStep 70 = .ok (.aload_n 1, 1) := by decide +kernel
theorem dX3_workStep_71 : decode cX3_workStep 71 = .ok (.invokevirtual 57, 3) := by decide +kernel
theorem dX3_workStep_74 : decode cX3_workStep 74 = .ok (.ireturn, 1) := by decide +kernel
theorem dX3_workStep_75 : decode cX3_workStep 75 = .ok (.aload_n 0, 1) := by decide +kernel
theorem dX3_workStep_76 : decode cX3_workStep 76 = .ok (.aload_n 1, 1) := by decide +kernel
theorem dX3_workStep_77 : decode cX3_workStep 77 = .ok (.invokevirtual 60, 3) := by decide +kernel
theorem dX3_workStep_80 : decode cX3_workStep 80 = .ok (.ireturn, 1) := by decide +kernel
theorem dX3_reckon_0 : decode cX3_reckon 0 = .ok (.aload_n 0, 1) := by decide +kernel
theorem dX3_reckon_1 : decode cX3_reckon 1 = .ok (.aload_n 1, 1) := by decide +kernel
theorem dX3_reckon_2 : decode cX3_reckon 2 = .ok (.getfield 63, 3) := by decide +kernel
theorem dX3_reckon_5 : decode cX3_reckon 5 = .ok (.invokevirtual 34, 3) := by decide +kernel
theorem dX3_reckon_8 : decode cX3_reckon 8 = .ok (.lstore_n 2, 1) := by decide +kernel
theorem dX3_reckon_9 : decode cX3_reckon 9 = .ok (.aload_n 0, 1) := by decide +kernel
theorem dX3_reckon_10 : decode cX3_reckon 10 = .ok (.aload_n 1, 1) := by decide +kernel
theorem dX3_reckon_11 : decode cX3_reckon 11 = .ok (.getfield 66, 3) := by decide +kernel
theorem dX3_reckon_14 : decode cX3_reckon 14 = .ok (.invokevirtual 34, 3) := by decide +kernel
theorem dX3_reckon_17 : decode cX3_reckon 17 = .ok (.lstore 4, 2) := by decide +kernel
theorem dX3_reckon_19 : decode cX3_reckon 19 = .ok (.lload 4, 2) := by decide +kernel
theorem dX3_reckon_21 : decode cX3_reckon 21 = .ok (.lconst 0, 1) := by decide +kernel
theorem dX3_reckon_22 : decode cX3_reckon 22 = .ok (.lcmp, 1) := by decide +kernel
theorem dX3_reckon_23 : decode cX3_reckon 23 = .ok (.ifCond .ne 13, 3) := by decide +kernel
theorem dX3_reckon_26 : decode cX3_reckon 26 = .ok (.aload_n 1, 1) := by decide +kernel
theorem dX3_reckon_27 : decode cX3_reckon 27 = .ok (.getfield 38, 3) := by decide +kernel
theorem dX3_reckon_30 : decode cX3_reckon 30 = .ok (.iconst 5, 1) := by decide +kernel
theorem dX3_reckon_31 : decode cX3_reckon 31 = .ok (.if_icmp .lt 5, 3) := by decide +kernel
theorem dX3_reckon_34 : decode cX3_reckon 34 = .ok (.iconst 4, 1) := by decide +kernel
theorem dX3_reckon_35 : decode cX3_reckon 35 = .ok (.ireturn, 1) := by decide +kernel
theorem dX3_reckon_36 : decode cX3_reckon 36 = .ok (.aload_n 0, 1) := by decide +kernel
theorem dX3_reckon_37 : decode cX3_reckon 37 = .ok (.aload_n 1, 1) := by decide +kernel
theorem dX3_reckon_38 : decode cX3_reckon 38 = .ok (.getfield 69, 3) := by decide +kernel
theorem dX3_reckon_41 : decode cX3_reckon 41 = .ok (.aload_n 1, 1) := by decide +kernel
theorem dX3_reckon_42 : decode cX3_reckon 42 = .ok (.lload_n 2, 1) := by decide +kernel
theorem dX3_reckon_43 : decode cX3_reckon 43 = .ok (.lload 4, 2) := by decide +kernel
theorem dX3_reckon_45 : decode cX3_reckon 45 = .ok (.invokestatic 72, 3) := by decide +kernel
theorem dX3_reckon_48 : decode cX3_reckon 48 = .ok (.invokevirtual 76, 3) := by decide +kernel
theorem dX3_reckon_51 : decode cX3_reckon 51 = .ok (.iconst (-1), 1) := by decide +kernel
theorem dX3_reckon_52 : decode cX3_reckon 52 = .ok (.ireturn, 1) := by decide +kernel
theorem dX3_reckoned_0 : decode cX3_reckoned 0 = .ok (.aload_n 0, 1) := by decide +kernel
theorem dX3_reckoned_1 : decode cX3_reckoned 1 = .ok (.getfield 38, 3) := by decide +kernel
theorem dX3_reckoned_4 : decode cX3_reckoned 4 = .ok (.tableswitch 68 1 5 #[36, 42, 46, 50, 54], 36) := by decide +kernel
theorem dX3_reckoned_40 : decode cX3_reckoned 40 = .ok (.aload_n 0, 1) := by decide +kernel
theorem dX3_reckoned_41 : decode cX3_reckoned 41 = .ok (.getfield 63, 3) := by decide +kernel
theorem dX3_reckoned_44 : decode cX3_reckoned 44 = .ok (.i2l, 1) := by decide +kernel
theorem dX3_reckoned_45 : decode cX3_reckoned 45 = .ok (.lreturn, 1) := by decide +kernel
theorem dX3_reckoned_46 : decode cX3_reckoned 46 = .ok (.lload_n 1, 1) := by decide +kernel
theorem dX3_reckoned_47 : decode cX3_reckoned 47 = .ok (.lload_n 3, 1) := by decide +kernel
theorem dX3_reckoned_48 : decode cX3_reckoned 48 = .ok (.ladd, 1) := by decide +kernel
theorem dX3_reckoned_49 : decode cX3_reckoned 49 = .ok (.lreturn, 1) := by decide +kernel
theorem dX3_reckoned_50 : decode cX3_reckoned 50 = .ok (.lload_n 1, 1) := by decide +kernel
theorem dX3_reckoned_51 : decode cX3_reckoned 51 = .ok (.lload_n 3, 1) := by decide +kernel
theorem dX3_reckoned_52 : decode cX3_reckoned 52 = .ok (.lsub, 1) := by decide +kernel
theorem dX3_reckoned_53 : decode cX3_reckoned 53 = .ok (.lreturn, 1) := by decide +kernel
theorem dX3_reckoned_54 : decode cX3_reckoned 54 = .ok (.lload_n 1, 1) := by decide +kernel
theorem dX3_reckoned_55 : decode cX3_reckoned 55 = .ok (.lload_n 3, 1) := by decide +kernel
theorem dX3_reckoned_56 : decode cX3_reckoned 56 = .ok (.lmul, 1) := by decide +kernel
theorem dX3_reckoned_57 : decode cX3_reckoned 57 = .ok (.lreturn, 1) := by decide +kernel
theorem dX3_reckoned_58 : decode cX3_reckoned 58 = .ok (.lload_n 3, 1) := by decide +kernel
theorem dX3_reckoned_59 : decode cX3_reckoned 59 = .ok (.lconst 0, 1) := by decide +kernel
theorem dX3_reckoned_60 : decode cX3_reckoned 60 = .ok (.lcmp, 1) := by decide +kernel
theorem dX3_reckoned_61 : decode cX3_reckoned 61 = .ok (.ifCond .ne 7, 3) := by decide +kernel
theorem dX3_reckoned_64 : decode cX3_reckoned 64 = .ok (.lconst 0, 1) := by decide +kernel
theorem dX3_reckoned_65 : decode cX3_reckoned 65 = .ok (.goto 6, 3) := by decide +kernel
theorem dX3_reckoned_68 : decode cX3_reckoned 68 = .ok (.lload_n 1, 1) := by decide +kernel
theorem dX3_reckoned_69 : decode cX3_reckoned 69 = .ok (.lload_n 3, 1) := by decide +kernel
theorem dX3_reckoned_70 : decode cX3_reckoned 70 = .ok (.ldiv, 1) := by decide +kernel
theorem dX3_reckoned_71 : decode cX3_reckoned 71 = .ok (.lreturn, 1) := by decide +kernel
theorem dX3_reckoned_72 : decode cX3_reckoned 72 = .ok (.lload_n 3, 1) := by decide +kernel
theorem dX3_reckoned_73 : decode cX3_reckoned 73 = .ok (.lconst 0, 1) := by decide +kernel
theorem dX3_reckoned_74 : decode cX3_reckoned 74 = .ok (.lcmp, 1) := by decide +kernel
theorem dX3_reckoned_75 : decode cX3_reckoned 75 = .ok (.ifCond .ne 7, 3) := by decide +kernel
theorem dX3_reckoned_78 : decode cX3_reckoned 78 = .ok (.lconst 0, 1) := by decide +kernel
theorem dX3_reckoned_79 : decode cX3_reckoned 79 = .ok (.goto 6, 3) := by decide +kernel
theorem dX3_reckoned_82 : decode cX3_reckoned 82 = .ok (.lload_n 1, 1) := by decide +kernel
theorem dX3_reckoned_83 : decode cX3_reckoned 83 = .ok (.lload_n 3, 1) := by decide +kernel
theorem dX3_reckoned_84 : decode cX3_reckoned 84 = .ok (.lrem, 1) := by decide +kernel
theorem dX3_reckoned_85 : decode cX3_reckoned 85 = .ok (.lreturn, 1) := by decide +kernel
theorem dX3_workRow_0 : decode cX3_workRow 0 = .ok (.aload_n 1, 1) := by decide +kernel
theorem dX3_workRow_1 : decode cX3_workRow 1 = .ok (.getfield 69, 3) := by decide +kernel
theorem dX3_workRow_4 : decode cX3_workRow 4 = .ok (.iconst 3, 1) := by decide +kernel
theorem dX3_workRow_5 : decode cX3_workRow 5 = .ok (.ishr, 1) := by decide +kernel
theorem dX3_workRow_6 : decode cX3_workRow 6 = .ok (.bipush 7, 2) := by decide +kernel
theorem dX3_workRow_8 : decode cX3_workRow 8 = .ok (.iand, 1) := by decide +kernel
theorem dX3_workRow_9 : decode cX3_workRow 9 = .ok (.istore_n 2, 1) := by decide +kernel
theorem dX3_workRow_10 : decode cX3_workRow 10 = .ok (.aload_n 0, 1) := by decide +kernel
theorem dX3_workRow_11 : decode cX3_workRow 11 = .ok (.iload_n 2, 1) := by decide +kernel
theorem dX3_workRow_12 : decode cX3_workRow 12 = .ok (.aload_n 1, 1) := by decide +kernel
theorem dX3_workRow_13 : decode cX3_workRow 13 = .ok (.getfield 69, 3) := by decide +kernel
theorem dX3_workRow_16 : decode cX3_workRow 16 = .ok (.invokevirtual 80, 3) := by decide +kernel
theorem dX3_workRow_19 : decode cX3_workRow 19 = .ok (.astore_n 3, 1) := by decide +kernel
theorem dX3_workRow_20 : decode cX3_workRow 20 = .ok (.aload_n 3, 1) := by decide +kernel
theorem dX3_workRow_21 : decode cX3_workRow 21 = .ok (.ifnonnull 6, 3) := by decide +kernel
theorem dX3_workRow_24 : decode cX3_workRow 24 = .ok (.bipush 6, 2) := by decide +kernel
theorem dX3_workRow_26 : decode cX3_workRow 26 = .ok (.ireturn, 1) := by decide +kernel
theorem dX3_workRow_27 : decode cX3_workRow 27 = .ok (.aload_n 1, 1) := by decide +kernel
theorem dX3_workRow_28 : decode cX3_workRow 28 = .ok (.getfield 38, 3) := by decide +kernel
theorem dX3_workRow_31 : decode cX3_workRow 31 = .ok (.bipush 10, 2) := by decide +kernel
theorem dX3_workRow_33 : decode cX3_workRow 33 = .ok (.if_icmp .ne 18, 3) := by decide +kernel
theorem dX3_workRow_36 : decode cX3_workRow 36 = .ok (.aload_n 0, 1) := by decide +kernel
theorem dX3_workRow_37 : decode cX3_workRow 37 = .ok (.aload_n 1, 1) := by decide +kernel
theorem dX3_workRow_38 : decode cX3_workRow 38 = .ok (.getfield 63, 3) := by decide +kernel
theorem dX3_workRow_41 : decode cX3_workRow 41 = .ok (.aload_n 3, 1) := by decide +kernel
theorem dX3_workRow_42 : decode cX3_workRow 42 = .ok (.getfield 84, 3) := by decide +kernel
theorem dX3_workRow_45 : decode cX3_workRow 45 = .ok (.i2l, 1) := by decide +kernel
theorem dX3_workRow_46 : decode cX3_workRow 46 = .ok (.invokevirtual 76, 3) := by decide +kernel
theorem dX3_workRow_49 : decode cX3_workRow 49 = .ok (.iconst (-1), 1) := by decide +kernel
theorem dX3_workRow_50 : decode cX3_workRow 50 = .ok (.ireturn, 1) := by decide +kernel
theorem dX3_workRow_51 : decode cX3_workRow 51 = .ok (.aload_n 0, 1) := by decide +kernel
theorem dX3_workRow_52 : decode cX3_workRow 52 = .ok (.aload_n 1, 1) := by decide +kernel
theorem dX3_workRow_53 : decode cX3_workRow 53 = .ok (.getfield 63, 3) := by decide +kernel
theorem dX3_workRow_56 : decode cX3_workRow 56 = .ok (.invokevirtual 87, 3) := by decide +kernel
theorem dX3_workRow_59 : decode cX3_workRow 59 = .ok (.istore 4, 2) := by decide +kernel
theorem dX3_workRow_61 : decode cX3_workRow 61 = .ok (.aload_n 3, 1) := by decide +kernel
theorem dX3_workRow_62 : decode cX3_workRow 62 = .ok (.iload 4, 2) := by decide +kernel
theorem dX3_workRow_64 : decode cX3_workRow 64 = .ok (.invokevirtual 91, 3) := by decide +kernel
theorem dX3_workRow_67 : decode cX3_workRow 67 = .ok (.ifCond .ne 5, 3) := by decide +kernel
theorem dX3_workRow_70 : decode cX3_workRow 70 = .ok (.iconst 5, 1) := by decide +kernel
theorem dX3_workRow_71 : decode cX3_workRow 71 = .ok (.ireturn, 1) := by decide +kernel
theorem dX3_workRow_72 : decode cX3_workRow 72 = .ok (.iload_n 2, 1) := by decide +kernel
theorem dX3_workRow_73 : decode cX3_workRow 73 = .ok (.bipush 7, 2) := by decide +kernel
theorem dX3_workRow_75 : decode cX3_workRow 75 = .ok (.if_icmp .ne 38, 3) := by decide +kernel
theorem dX3_workRow_78 : decode cX3_workRow 78 = .ok (.aload_n 1, 1) := by decide +kernel
theorem dX3_workRow_79 : decode cX3_workRow 79 = .ok (.getfield 38, 3) := by decide +kernel
theorem dX3_workRow_82 : decode cX3_workRow 82 = .ok (.bipush 8, 2) := by decide +kernel
theorem dX3_workRow_84 : decode cX3_workRow 84 = .ok (.if_icmp .ne 17, 3) := by decide +kernel
theorem dX3_workRow_87 : decode cX3_workRow 87 = .ok (.aload_n 0, 1) := by decide +kernel
theorem dX3_workRow_88 : decode cX3_workRow 88 = .ok (.aload_n 3, 1) := by decide +kernel
theorem dX3_workRow_89 : decode cX3_workRow 89 = .ok (.iload 4, 2) := by decide +kernel
theorem dX3_workRow_91 : decode cX3_workRow 91 = .ok (.aload_n 1, 1) := by decide +kernel
theorem dX3_workRow_92 : decode cX3_workRow 92 = .ok (.getfield 66, 3) := by decide +kernel
theorem dX3_workRow_95 : decode cX3_workRow 95 = .ok (.invokevirtual 95, 3) := by decide +kernel
theorem dX3_workRow_98 : decode cX3_workRow 98 = .ok (.goto 14, 3) := by decide +kernel
theorem dX3_workRow_101 : decode cX3_workRow 101 = .ok (.aload_n 0, 1) := by decide +kernel
theorem dX3_workRow_102 : decode cX3_workRow 102 = .ok (.aload_n 3, 1) := by decide +kernel
theorem dX3_workRow_103 : decode cX3_workRow 103 = .ok (.iload 4, 2) := by decide +kernel
theorem dX3_workRow_105 : decode cX3_workRow 105 = .ok (.aload_n 1, 1) := by decide +kernel
theorem dX3_workRow_106 : decode cX3_workRow 106 = .ok (.getfield 66, 3) := by decide +kernel
theorem dX3_workRow_109 : decode cX3_workRow 109 = .ok (.invokevirtual 99, 3) := by decide +kernel
theorem dX3_workRow_112 : decode cX3_workRow 112 = .ok (.ireturn, 1) := by decide +kernel
theorem dX3_workRow_113 : decode cX3_workRow 113 = .ok (.aload_n 1, 1) := by decide +kernel
theorem dX3_workRow_114 : decode cX3_workRow 114 = .ok (.getfield 38, 3) := by decide +kernel
theorem dX3_workRow_117 : decode cX3_workRow 117 = .ok (.bipush 8, 2) := by decide +kernel
theorem dX3_workRow_119 : decode cX3_workRow 119 = .ok (.if_icmp .ne 20, 3) := by decide +kernel
theorem dX3_workRow_122 : decode cX3_workRow 122 = .ok (.aload_n 0, 1) := by decide +kernel
theorem dX3_workRow_123 : decode cX3_workRow 123 = .ok (.aload_n 1, 1) := by decide +kernel
theorem dX3_workRow_124 : decode cX3_workRow 124 = .ok (.getfield 66, 3) := by decide +kernel
theorem dX3_workRow_127 : decode cX3_workRow 127 = .ok (.aload_n 3, 1) := by decide +kernel
theorem dX3_workRow_128 : decode cX3_workRow 128 = .ok (.iload 4, 2) := by decide +kernel
theorem dX3_workRow_130 : decode cX3_workRow 130 = .ok (.invokevirtual 102, 3) := by decide +kernel
theorem dX3_workRow_133 : decode cX3_workRow 133 = .ok (.invokevirtual 76, 3) := by decide +kernel
theorem dX3_workRow_136 : decode cX3_workRow 136 = .ok (.goto 17, 3) := by decide +kernel
theorem dX3_workRow_139 : decode cX3_workRow 139 = .ok (.aload_n 3, 1) := by decide +kernel
theorem dX3_workRow_140 : decode cX3_workRow 140 = .ok (.iload 4, 2) := by decide +kernel
theorem dX3_workRow_142 : decode cX3_workRow 142 = .ok (.aload_n 0, 1) := by decide +kernel
theorem dX3_workRow_143 : decode cX3_workRow 143 = .ok (.aload_n 1, 1) := by decide +kernel
theorem dX3_workRow_144 : decode cX3_workRow 144 = .ok (.getfield 66, 3) := by decide +kernel
theorem dX3_workRow_147 : decode cX3_workRow 147 = .ok (.invokevirtual 34, 3) := by decide +kernel
theorem dX3_workRow_150 : decode cX3_workRow 150 = .ok (.invokevirtual 105, 3) := by decide +kernel
theorem dX3_workRow_153 : decode cX3_workRow 153 = .ok (.iconst (-1), 1) := by decide +kernel
theorem dX3_workRow_154 : decode cX3_workRow 154 = .ok (.ireturn, 1) := by decide +kernel
theorem dX3_makeRow_0 : decode cX3_makeRow 0 = .ok (.aload_n 1, 1) := by decide +kernel
theorem dX3_makeRow_1 : decode cX3_makeRow 1 = .ok (.getfield 69, 3) := by decide +kernel
theorem dX3_makeRow_4 : decode cX3_makeRow 4 = .ok (.iconst 3, 1) := by decide +kernel
theorem dX3_makeRow_5 : decode cX3_makeRow 5 = .ok (.ishr, 1) := by decide +kernel
theorem dX3_makeRow_6 : decode cX3_makeRow 6 = .ok (.bipush 7, 2) := by decide +kernel
theorem dX3_makeRow_8 : decode cX3_makeRow 8 = .ok (.iand, 1) := by decide +kernel
theorem dX3_makeRow_9 : decode cX3_makeRow 9 = .ok (.istore_n 2, 1) := by decide +kernel
theorem dX3_makeRow_10 : decode cX3_makeRow 10 = .ok (.aload_n 0, 1) := by decide +kernel
theorem dX3_makeRow_11 : decode cX3_makeRow 11 = .ok (.aload_n 1, 1) := by decide +kernel
theorem dX3_makeRow_12 : decode cX3_makeRow 12 = .ok (.getfield 63, 3) := by decide +kernel
theorem dX3_makeRow_15 : decode cX3_makeRow 15 = .ok (.invokevirtual 87, 3) := by decide +kernel
theorem dX3_makeRow_18 : decode cX3_makeRow 18 = .ok (.istore_n 3, 1) := by decide +kernel
theorem dX3_makeRow_19 : decode cX3_makeRow 19 = .ok (.iload_n 3, 1) := by decide +kernel
theorem dX3_makeRow_20 : decode cX3_makeRow 20 = .ok (.ifCond .ge 6, 3) := by decide +kernel
theorem dX3_makeRow_23 : decode cX3_makeRow 23 = .ok (.bipush 7, 2) := by decide +kernel
theorem dX3_makeRow_25 : decode cX3_makeRow 25 = .ok (.ireturn, 1) := by decide +kernel
theorem dX3_makeRow_26 : decode cX3_makeRow 26 = .ok (.aload_n 0, 1) := by decide +kernel
theorem dX3_makeRow_27 : decode cX3_makeRow 27 = .ok (.iload_n 2, 1) := by decide +kernel
theorem dX3_makeRow_28 : decode cX3_makeRow 28 = .ok (.aload_n 1, 1) := by decide +kernel
theorem dX3_makeRow_29 : decode cX3_makeRow 29 = .ok (.getfield 69, 3) := by decide +kernel
theorem dX3_makeRow_32 : decode cX3_makeRow 32 = .ok (.invokevirtual 80, 3) := by decide +kernel
theorem dX3_makeRow_35 : decode cX3_makeRow 35 = .ok (.astore 4, 2) := by decide +kernel
theorem dX3_makeRow_37 : decode cX3_makeRow 37 = .ok (.aload 4, 2) := by decide +kernel
theorem dX3_makeRow_39 : decode cX3_makeRow 39 = .ok (.ifnonnull 31, 3) := by decide +kernel
theorem dX3_makeRow_42 : decode cX3_makeRow 42 = .ok (.new 21, 3) := by decide +kernel
theorem dX3_makeRow_45 : decode cX3_makeRow 45 = .ok (.dup, 1) := by decide +kernel
theorem dX3_makeRow_46 : decode cX3_makeRow 46 = .ok (.iload_n 2, 1) := by decide +kernel
theorem dX3_makeRow_47 : decode cX3_makeRow 47 = .ok (.invokespecial 108, 3) := by decide +kernel
theorem dX3_makeRow_50 : decode cX3_makeRow 50 = .ok (.astore 4, 2) := by decide +kernel
theorem dX3_makeRow_52 : decode cX3_makeRow 52 = .ok (.aload_n 0, 1) := by decide +kernel
theorem dX3_makeRow_53 : decode cX3_makeRow 53 = .ok (.getfield 23, 3) := by decide +kernel
theorem dX3_makeRow_56 : decode cX3_makeRow 56 = .ok (.iload_n 2, 1) := by decide +kernel
theorem dX3_makeRow_57 : decode cX3_makeRow 57 = .ok (.iconst 3, 1) := by decide +kernel
theorem dX3_makeRow_58 : decode cX3_makeRow 58 = .ok (.ishl, 1) := by decide +kernel
theorem dX3_makeRow_59 : decode cX3_makeRow 59 = .ok (.aload_n 1, 1) := by decide +kernel
theorem dX3_makeRow_60 : decode cX3_makeRow 60 = .ok (.getfield 69, 3) := by decide +kernel
theorem dX3_makeRow_63 : decode cX3_makeRow 63 = .ok (.bipush 7, 2) := by decide +kernel
theorem dX3_makeRow_65 : decode cX3_makeRow 65 = .ok (.iand, 1) := by decide +kernel
theorem dX3_makeRow_66 : decode cX3_makeRow 66 = .ok (.ior, 1) := by decide +kernel
theorem dX3_makeRow_67 : decode cX3_makeRow 67 = .ok (.aload 4, 2) := by decide +kernel
theorem dX3_makeRow_69 : decode cX3_makeRow 69 = .ok (.aastore, 1) := by decide +kernel
theorem dX3_makeRow_70 : decode cX3_makeRow 70 = .ok (.aload 4, 2) := by decide +kernel
theorem dX3_makeRow_72 : decode cX3_makeRow 72 = .ok (.iload_n 3, 1) := by decide +kernel
theorem dX3_makeRow_73 : decode cX3_makeRow 73 = .ok (.bipush 63, 2) := by decide +kernel
theorem dX3_makeRow_75 : decode cX3_makeRow 75 = .ok (.iand, 1) := by decide +kernel
theorem dX3_makeRow_76 : decode cX3_makeRow 76 = .ok (.iload_n 2, 1) := by decide +kernel
theorem dX3_makeRow_77 : decode cX3_makeRow 77 = .ok (.bipush 7, 2) := by decide +kernel
theorem dX3_makeRow_79 : decode cX3_makeRow 79 = .ok (.if_icmp .ne 17, 3) := by decide +kernel
theorem dX3_makeRow_82 : decode cX3_makeRow 82 = .ok (.aload_n 1, 1) := by decide +kernel
theorem dX3_makeRow_83 : decode cX3_makeRow 83 = .ok (.getfield 66, 3) := by decide +kernel
theorem dX3_makeRow_86 : decode cX3_makeRow 86 = .ok (.iconst 1, 1) := by decide +kernel
theorem dX3_makeRow_87 : decode cX3_makeRow 87 = .ok (.iand, 1) := by decide +kernel
theorem dX3_makeRow_88 : decode cX3_makeRow 88 = .ok (.iconst 1, 1) := by decide +kernel
theorem dX3_makeRow_89 : decode cX3_makeRow 89 = .ok (.if_icmp .ne 7, 3) := by decide +kernel
theorem dX3_makeRow_92 : decode cX3_makeRow 92 = .ok (.iconst 1, 1) := by decide +kernel
theorem dX3_makeRow_93 : decode cX3_makeRow 93 = .ok (.goto 4, 3) := by decide +kernel
theorem dX3_makeRow_96 : decode cX3_makeRow 96 = .ok (.iconst 0, 1) := by decide +kernel
theorem dX3_makeRow_97 : decode cX3_makeRow 97 = .ok (.invokevirtual 111, 3) := by decide +kernel
theorem dX3_makeRow_100 : decode cX3_makeRow 100 = .ok (.iconst (-1), 1) := by decide +kernel
theorem dX3_makeRow_101 : decode cX3_makeRow 101 = .ok (.ireturn, 1) := by decide +kernel
theorem dX3_takeThing_0 : decode cX3_takeThing 0 = .ok (.aload_n 0, 1) := by decide +kernel
theorem dX3_takeThing_1 : decode cX3_takeThing 1 = .ok (.getfield 17, 3) := by decide +kernel
theorem dX3_takeThing_4 : decode cX3_takeThing 4 = .ok (.iload_n 3, 1) := by decide +kernel
theorem dX3_takeThing_5 : decode cX3_takeThing 5 = .ok (.bipush 7, 2) := by decide +kernel
theorem dX3_takeThing_7 : decode cX3_takeThing 7 = .ok (.iand, 1) := by decide +kernel
theorem dX3_takeThing_8 : decode cX3_takeThing 8 = .ok (.aload_n 1, 1) := by decide +kernel
theorem dX3_takeThing_9 : decode cX3_takeThing 9 = .ok (.iload_n 2, 1) := by decide +kernel
theorem dX3_takeThing_10 : decode cX3_takeThing 10 = .ok (.invokevirtual 115, 3) := by decide +kernel
theorem dX3_takeThing_13 : decode cX3_takeThing 13 = .ok (.aastore, 1) := by decide +kernel
theorem dX3_takeThing_14 : decode cX3_takeThing 14 = .ok (.iconst (-1), 1) := by decide +kernel
theorem dX3_takeThing_15 : decode cX3_takeThing 15 = .ok (.ireturn, 1) := by decide +kernel
theorem dX3_putThing_0 : decode cX3_putThing 0 = .ok (.aload_n 0, 1) := by decide +kernel
theorem dX3_putThing_1 : decode cX3_putThing 1 = .ok (.iload_n 3, 1) := by decide +kernel
theorem dX3_putThing_2 : decode cX3_putThing 2 = .ok (.invokevirtual 119, 3) := by decide +kernel
theorem dX3_putThing_5 : decode cX3_putThing 5 = .ok (.astore 4, 2) := by decide +kernel
theorem dX3_putThing_7 : decode cX3_putThing 7 = .ok (.aload_n 1, 1) := by decide +kernel
theorem dX3_putThing_8 : decode cX3_putThing 8 = .ok (.getfield 122, 3) := by decide +kernel
theorem dX3_putThing_11 : decode cX3_putThing 11 = .ok (.ifCond .eq 19, 3) := by decide +kernel
theorem dX3_putThing_14 : decode cX3_putThing 14 = .ok (.aload 4, 2) := by decide +kernel
theorem dX3_putThing_16 : decode cX3_putThing 16 = .ok (.ifnull 14, 3) := by decide +kernel
theorem dX3_putThing_19 : decode cX3_putThing 19 = .ok (.aload 4, 2) := by decide +kernel
theorem dX3_putThing_21 : decode cX3_putThing 21 = .ok (.getfield 126, 3) := by decide +kernel
theorem dX3_putThing_24 : decode cX3_putThing 24 = .ok (.ifCond .ne 6, 3) := by decide +kernel
theorem dX3_putThing_27 : decode cX3_putThing 27 = .ok (.bipush 9, 2) := by decide +kernel
theorem dX3_putThing_29 : decode cX3_putThing 29 = .ok (.ireturn, 1) := by decide +kernel
theorem dX3_putThing_30 : decode cX3_putThing 30 = .ok (.aload_n 1, 1) := by decide +kernel
theorem dX3_putThing_31 : decode cX3_putThing 31 = .ok (.iload_n 2, 1) := by decide +kernel
theorem dX3_putThing_32 : decode cX3_putThing 32 = .ok (.aload 4, 2) := by decide +kernel
theorem dX3_putThing_34 : decode cX3_putThing 34 = .ok (.invokevirtual 129, 3) := by decide +kernel
theorem dX3_putThing_37 : decode cX3_putThing 37 = .ok (.iconst (-1), 1) := by decide +kernel
theorem dX3_putThing_38 : decode cX3_putThing 38 = .ok (.ireturn, 1) := by decide +kernel
theorem dX3_workGrid_0 : decode cX3_workGrid 0 = .ok (.aload_n 0, 1) := by decide +kernel
theorem dX3_workGrid_1 : decode cX3_workGrid 1 = .ok (.aload_n 1, 1) := by decide +kernel
theorem dX3_workGrid_2 : decode cX3_workGrid 2 = .ok (.getfield 69, 3) := by decide +kernel
theorem dX3_workGrid_5 : decode cX3_workGrid 5 = .ok (.invokevirtual 87, 3) := by decide +kernel
theorem dX3_workGrid_8 : decode cX3_workGrid 8 = .ok (.istore_n 2, 1) := by decide +kernel
theorem dX3_workGrid_9 : decode cX3_workGrid 9 = .ok (.aload_n 0, 1) := by decide +kernel
theorem dX3_workGrid_10 : decode cX3_workGrid 10 = .ok (.aload_n 1, 1) := by decide +kernel
theorem dX3_workGrid_11 : decode cX3_workGrid 11 = .ok (.getfield 63, 3) := by decide +kernel
theorem dX3_workGrid_14 : decode cX3_workGrid 14 = .ok (.invokevirtual 87, 3) := by decide +kernel
theorem dX3_workGrid_17 : decode cX3_workGrid 17 = .ok (.istore_n 3, 1) := by decide +kernel
theorem dX3_workGrid_18 : decode cX3_workGrid 18 = .ok (.aload_n 1, 1) := by decide +kernel
theorem dX3_workGrid_19 : decode cX3_workGrid 19 = .ok (.getfield 38, 3) := by decide +kernel
theorem dX3_workGrid_22 : decode cX3_workGrid 22 = .ok (.bipush 11, 2) := by decide +kernel
theorem dX3_workGrid_24 : decode cX3_workGrid 24 = .ok (.if_icmp .ne 31, 3) := by decide +kernel
theorem dX3_workGrid_27 : decode cX3_workGrid 27 = .ok (.iload_n 2, 1) := by decide +kernel
theorem dX3_workGrid_28 : decode cX3_workGrid 28 = .ok (.ifCond .lt 7, 3) := by decide +kernel
theorem dX3_workGrid_31 : decode cX3_workGrid 31 = .ok (.iload_n 3, 1) := by decide +kernel
theorem dX3_workGrid_32 : decode cX3_workGrid 32 = .ok (.ifCond .ge 6, 3) := by decide +kernel
theorem dX3_workGrid_35 : decode cX3_workGrid 35 = .ok (.bipush 7, 2) := by decide +kernel
theorem dX3_workGrid_37 : decode cX3_workGrid 37 = .ok (.ireturn, 1) := by decide +kernel
theorem dX3_workGrid_38 : decode cX3_workGrid 38 = .ok (.aload_n 0, 1) := by decide +kernel
theorem dX3_workGrid_39 : decode cX3_workGrid 39 = .ok (.getfield 30, 3) := by decide +kernel
theorem dX3_workGrid_42 : decode cX3_workGrid 42 = .ok (.iload_n 2, 1) := by decide +kernel
theorem dX3_workGrid_43 : decode cX3_workGrid 43 = .ok (.bipush 7, 2) := by decide +kernel
theorem dX3_workGrid_45 : decode cX3_workGrid 45 = .ok (.iand, 1) := by decide +kernel
theorem dX3_workGrid_46 : decode cX3_workGrid 46 = .ok (.iload_n 3, 1) := by decide +kernel
theorem dX3_workGrid_47 : decode cX3_workGrid 47 = .ok (.bipush 7, 2) := by decide +kernel
theorem dX3_workGrid_49 : decode cX3_workGrid 49 = .ok (.iand, 1) := by decide +kernel
theorem dX3_workGrid_50 : decode cX3_workGrid 50 = .ok (.invokevirtual 132, 3) := by decide +kernel
theorem dX3_workGrid_53 : decode cX3_workGrid 53 = .ok (.iconst (-1), 1) := by decide +kernel
theorem dX3_workGrid_54 : decode cX3_workGrid 54 = .ok (.ireturn, 1) := by decide +kernel
theorem dX3_workGrid_55 : decode cX3_workGrid 55 = .ok (.aload_n 0, 1) := by decide +kernel
theorem dX3_workGrid_56 : decode cX3_workGrid 56 = .ok (.getfield 30, 3) := by decide +kernel
theorem dX3_workGrid_59 : decode cX3_workGrid 59 = .ok (.getfield 136, 3) := by decide +kernel
theorem dX3_workGrid_62 : decode cX3_workGrid 62 = .ok (.ifCond .ne 6, 3) := by decide +kernel
theorem dX3_workGrid_65 : decode cX3_workGrid 65 = .ok (.bipush 6, 2) := by decide +kernel
theorem dX3_workGrid_67 : decode cX3_workGrid 67 = .ok (.ireturn, 1) := by decide +kernel
theorem dX3_workGrid_68 : decode cX3_workGrid 68 = .ok (.aload_n 0, 1) := by decide +kernel
theorem dX3_workGrid_69 : decode cX3_workGrid 69 = .ok (.getfield 30, 3) := by decide +kernel
theorem dX3_workGrid_72 : decode cX3_workGrid 72 = .ok (.iload_n 2, 1) := by decide +kernel
theorem dX3_workGrid_73 : decode cX3_workGrid 73 = .ok (.iload_n 3, 1) := by decide +kernel
theorem dX3_workGrid_74 : decode cX3_workGrid 74 = .ok (.invokevirtual 139, 3) := by decide +kernel
theorem dX3_workGrid_77 : decode cX3_workGrid 77 = .ok (.ifCond .ne 5, 3) := by decide +kernel
theorem dX3_workGrid_80 : decode cX3_workGrid 80 = .ok (.iconst 5, 1) := by decide +kernel
theorem dX3_workGrid_81 : decode cX3_workGrid 81 = .ok (.ireturn, 1) := by decide +kernel
theorem dX3_workGrid_82 : decode cX3_workGrid 82 = .ok (.aload_n 1, 1) := by decide +kernel
theorem dX3_workGrid_83 : decode cX3_workGrid 83 = .ok (.getfield 38, 3) := by decide +kernel
theorem dX3_workGrid_86 : decode cX3_workGrid 86 = .ok (.bipush 12, 2) := by decide +kernel
theorem dX3_workGrid_88 : decode cX3_workGrid 88 = .ok (.if_icmp .ne 24, 3) := by decide +kernel
theorem dX3_workGrid_91 : decode cX3_workGrid 91 = .ok (.aload_n 0, 1) := by decide +kernel
theorem dX3_workGrid_92 : decode cX3_workGrid 92 = .ok (.aload_n 1, 1) := by decide +kernel
theorem dX3_workGrid_93 : decode cX3_workGrid 93 = .ok (.getfield 66, 3) := by decide +kernel
theorem dX3_workGrid_96 : decode cX3_workGrid 96 = .ok (.aload_n 0, 1) := by decide +kernel
theorem dX3_workGrid_97 : decode cX3_workGrid 97 = .ok (.getfield 30, 3) := by decide +kernel
theorem dX3_workGrid_100 : decode cX3_workGrid 100 = .ok (.iload_n 2, 1) := by decide +kernel
theorem dX3_workGrid_101 : decode cX3_workGrid 101 = .ok (.iload_n 3, 1) := by decide +kernel
theorem dX3_workGrid_102 : decode cX3_workGrid 102 = .ok (.invokevirtual 142, 3) := by decide +kernel
theorem dX3_workGrid_105 : decode cX3_workGrid 105 = .ok (.i2l, 1) := by decide +kernel
theorem dX3_workGrid_106 : decode cX3_workGrid 106 = .ok (.invokevirtual 76, 3) := by decide +kernel
theorem dX3_workGrid_109 : decode cX3_workGrid 109 = .ok (.goto 20, 3) := by decide +kernel
theorem dX3_workGrid_112 : decode cX3_workGrid 112 = .ok (.aload_n 0, 1) := by decide +kernel
theorem dX3_workGrid_113 : decode cX3_workGrid 113 = .ok (.getfield 30, 3) := by decide +kernel
theorem dX3_workGrid_116 : decode cX3_workGrid 116 = .ok (.iload_n 2, 1) := by decide +kernel
theorem dX3_workGrid_117 : decode cX3_workGrid 117 = .ok (.iload_n 3, 1) := by decide +kernel
theorem dX3_workGrid_118 : decode cX3_workGrid 118 = .ok (.aload_n 0, 1) := by decide +kernel
theorem dX3_workGrid_119 : decode cX3_workGrid 119 = .ok (.aload_n 1, 1) := by decide +kernel
theorem dX3_workGrid_120 : decode cX3_workGrid 120 = .ok (.getfield 66, 3) := by decide +kernel
theorem dX3_workGrid_123 : decode cX3_workGrid 123 = .ok (.invokevirtual 87, 3) := by decide +kernel
theorem dX3_workGrid_126 : decode cX3_workGrid 126 = .ok (.invokevirtual 146, 3) := by decide +kernel
theorem dX3_workGrid_129 : decode cX3_workGrid 129 = .ok (.iconst (-1), 1) := by decide +kernel
theorem dX3_workGrid_130 : decode cX3_workGrid 130 = .ok (.ireturn, 1) := by decide +kernel
theorem dX3_workHand_0 : decode cX3_workHand 0 = .ok (.aload_n 0, 1) := by decide +kernel
theorem dX3_workHand_1 : decode cX3_workHand 1 = .ok (.aload_n 1, 1) := by decide +kernel
theorem dX3_workHand_2 : decode cX3_workHand 2 = .ok (.getfield 69, 3) := by decide +kernel
theorem dX3_workHand_5 : decode cX3_workHand 5 = .ok (.invokevirtual 119, 3) := by decide +kernel
theorem dX3_workHand_8 : decode cX3_workHand 8 = .ok (.astore_n 2, 1) := by decide +kernel
theorem dX3_workHand_9 : decode cX3_workHand 9 = .ok (.aload_n 1, 1) := by decide +kernel
theorem dX3_workHand_10 : decode cX3_workHand 10 = .ok (.getfield 38, 3) := by decide +kernel
theorem dX3_workHand_13 : decode cX3_workHand 13 = .ok (.tableswitch 116 14 18 #[35, 66, 116, 116, 81], 35) := by decide +kernel
theorem dX3_workHand_48 : decode cX3_workHand 48 = .ok (.aload_n 0, 1) := by decide +kernel
theorem dX3_workHand_49 : decode cX3_workHand 49 = .ok (.getfield 17, 3) := by decide +kernel
theorem dX3_workHand_52 : decode cX3_workHand 52 = .ok (.aload_n 1, 1) := by decide +kernel
theorem dX3_workHand_53 : decode cX3_workHand 53 = .ok (.getfield 69, 3) := by decide +kernel
theorem dX3_workHand_56 : decode cX3_workHand 56 = .ok (.bipush 7, 2) := by decide +kernel
theorem dX3_workHand_58 : decode cX3_workHand 58 = .ok (.iand, 1) := by decide +kernel
theorem dX3_workHand_59 : decode cX3_workHand 59 = .ok (.aload_n 1, 1) := by decide +kernel
theorem dX3_workHand_60 : decode cX3_workHand 60 = .ok (.getfield 63, 3) := by decide +kernel
theorem dX3_workHand_63 : decode cX3_workHand 63 = .ok (.iconst 3, 1) := by decide +kernel
theorem dX3_workHand_64 : decode cX3_workHand 64 = .ok (.iand, 1) := by decide +kernel
theorem dX3_workHand_65 : decode cX3_workHand 65 = .ok (.aload_n 0, 1) := by decide +kernel
theorem dX3_workHand_66 : decode cX3_workHand 66 = .ok (.aload_n 1, 1) := by decide +kernel
theorem dX3_workHand_67 : decode cX3_workHand 67 = .ok (.getfield 66, 3) := by decide +kernel
theorem dX3_workHand_70 : decode cX3_workHand 70 = .ok (.invokevirtual 34, 3) := by decide +kernel
theorem dX3_workHand_73 : decode cX3_workHand 73 = .ok (.invokestatic 150, 3) := by decide +kernel
theorem dX3_workHand_76 : decode cX3_workHand 76 = .ok (.aastore, 1) := by decide +kernel
theorem dX3_workHand_77 : decode cX3_workHand 77 = .ok (.iconst (-1), 1) := by decide +kernel
theorem dX3_workHand_78 : decode cX3_workHand 78 = .ok (.ireturn, 1) := by decide +kernel
theorem dX3_workHand_79 : decode cX3_workHand 79 = .ok (.aload_n 0, 1) := by decide +kernel
theorem dX3_workHand_80 : decode cX3_workHand 80 = .ok (.getfield 17, 3) := by decide +kernel
theorem dX3_workHand_83 : decode cX3_workHand 83 = .ok (.aload_n 1, 1) := by decide +kernel
theorem dX3_workHand_84 : decode cX3_workHand 84 = .ok (.getfield 63, 3) := by decide +kernel
theorem dX3_workHand_87 : decode cX3_workHand 87 = .ok (.bipush 7, 2) := by decide +kernel
theorem dX3_workHand_89 : decode cX3_workHand 89 = .ok (.iand, 1) := by decide +kernel
theorem dX3_workHand_90 : decode cX3_workHand 90 = .ok (.aload_n 2, 1) := by decide +kernel
theorem dX3_workHand_91 : decode cX3_workHand 91 = .ok (.aastore, 1) := by decide +kernel
theorem dX3_workHand_92 : decode cX3_workHand 92 = .ok (.iconst (-1), 1) := by decide +kernel
theorem dX3_workHand_93 : decode cX3_workHand 93 = .ok (.ireturn, 1) := by decide +kernel
theorem dX3_workHand_94 : decode cX3_workHand 94 = .ok (.aload_n 2, 1) := by decide +kernel
theorem dX3_workHand_95 : decode cX3_workHand 95 = .ok (.ifnull 19, 3) := by decide +kernel
theorem dX3_workHand_98 : decode cX3_workHand 98 = .ok (.aload_n 2, 1) := by decide +kernel
theorem dX3_workHand_99 : decode cX3_workHand 99 = .ok (.aload_n 1, 1) := by decide +kernel
theorem dX3_workHand_100 : decode cX3_workHand 100 = .ok (.getfield 63, 3) := by decide +kernel
theorem dX3_workHand_103 : decode cX3_workHand 103 = .ok (.iconst 3, 1) := by decide +kernel
theorem dX3_workHand_104 : decode cX3_workHand 104 = .ok (.iand, 1) := by decide +kernel
theorem dX3_workHand_105 : decode cX3_workHand 105 = .ok (.invokevirtual 154, 3) := by decide +kernel
theorem dX3_workHand_108 : decode cX3_workHand 108 = .ok (.ifCond .ne 6, 3) := by decide +kernel
theorem dX3_workHand_111 : decode cX3_workHand 111 = .ok (.bipush 8, 2) := by decide +kernel
theorem dX3_workHand_113 : decode cX3_workHand 113 = .ok (.ireturn, 1) := by decide +kernel
theorem dX3_workHand_114 : decode cX3_workHand 114 = .ok (.aload_n 0, 1) := by decide +kernel
theorem dX3_workHand_115 : decode cX3_workHand 115 = .ok (.getfield 17, 3) := by decide +kernel
theorem dX3_workHand_118 : decode cX3_workHand 118 = .ok (.aload_n 1, 1) := by decide +kernel
theorem dX3_workHand_119 : decode cX3_workHand 119 = .ok (.getfield 66, 3) := by decide +kernel
theorem dX3_workHand_122 : decode cX3_workHand 122 = .ok (.bipush 7, 2) := by decide +kernel
theorem dX3_workHand_124 : decode cX3_workHand 124 = .ok (.iand, 1) := by decide +kernel
theorem dX3_workHand_125 : decode cX3_workHand 125 = .ok (.aload_n 2, 1) := by decide +kernel
theorem dX3_workHand_126 : decode cX3_workHand 126 = .ok (.aastore, 1) := by decide +kernel
theorem dX3_workHand_127 : decode cX3_workHand 127 = .ok (.iconst (-1), 1) := by decide +kernel
theorem dX3_workHand_128 : decode cX3_workHand 128 = .ok (.ireturn, 1) := by decide +kernel
theorem dX3_workHand_129 : decode cX3_workHand 129 = .ok (.aload_n 0, 1) := by decide +kernel
theorem dX3_workHand_130 : decode cX3_workHand 130 = .ok (.aload_n 1, 1) := by decide +kernel
theorem dX3_workHand_131 : decode cX3_workHand 131 = .ok (.aload_n 2, 1) := by decide +kernel
theorem dX3_workHand_132 : decode cX3_workHand 132 = .ok (.invokevirtual 157, 3) := by decide +kernel
theorem dX3_workHand_135 : decode cX3_workHand 135 = .ok (.ireturn, 1) := by decide +kernel
theorem dX3_newThing_0 : decode cX3_newThing 0 = .ok (.iload_n 0, 1) := by decide +kernel
theorem dX3_newThing_1 : decode cX3_newThing 1 = .ok (.iconst 2, 1) := by decide +kernel
theorem dX3_newThing_2 : decode cX3_newThing 2 = .ok (.if_icmp .le 7, 3) := by decide +kernel
theorem dX3_newThing_5 : decode cX3_newThing 5 = .ok (.aconst_null, 1) := by decide +kernel
theorem dX3_newThing_6 : decode cX3_newThing 6 = .ok (.goto 12, 3) := by decide +kernel
theorem dX3_newThing_9 : decode cX3_newThing 9 = .ok (.new 15, 3) := by decide +kernel
theorem dX3_newThing_12 : decode cX3_newThing 12 = .ok (.dup, 1) := by decide +kernel
theorem dX3_newThing_13 : decode cX3_newThing 13 = .ok (.iload_n 0, 1) := by decide +kernel
theorem dX3_newThing_14 : decode cX3_newThing 14 = .ok (.lload_n 1, 1) := by decide +kernel
theorem dX3_newThing_15 : decode cX3_newThing 15 = .ok (.invokespecial 161, 3) := by decide +kernel
theorem dX3_newThing_18 : decode cX3_newThing 18 = .ok (.areturn, 1) := by decide +kernel
theorem dX3_workMark_0 : decode cX3_workMark 0 = .ok (.aload_n 2, 1) := by decide +kernel
theorem dX3_workMark_1 : decode cX3_workMark 1 = .ok (.ifnonnull 6, 3) := by decide +kernel
theorem dX3_workMark_4 : decode cX3_workMark 4 = .ok (.bipush 6, 2) := by decide +kernel
theorem dX3_workMark_6 : decode cX3_workMark 6 = .ok (.ireturn, 1) := by decide +kernel
theorem dX3_workMark_7 : decode cX3_workMark 7 = .ok (.aload_n 1, 1) := by decide +kernel
theorem dX3_workMark_8 : decode cX3_workMark 8 = .ok (.getfield 38, 3) := by decide +kernel
theorem dX3_workMark_11 : decode cX3_workMark 11 = .ok (.bipush 16, 2) := by decide +kernel
theorem dX3_workMark_13 : decode cX3_workMark 13 = .ok (.if_icmp .ne 18, 3) := by decide +kernel
theorem dX3_workMark_16 : decode cX3_workMark 16 = .ok (.aload_n 0, 1) := by decide +kernel
theorem dX3_workMark_17 : decode cX3_workMark 17 = .ok (.aload_n 1, 1) := by decide +kernel
theorem dX3_workMark_18 : decode cX3_workMark 18 = .ok (.getfield 63, 3) := by decide +kernel
theorem dX3_workMark_21 : decode cX3_workMark 21 = .ok (.aload_n 2, 1) := by decide +kernel
theorem dX3_workMark_22 : decode cX3_workMark 22 = .ok (.getfield 163, 3) := by decide +kernel
theorem dX3_workMark_25 : decode cX3_workMark 25 = .ok (.invokevirtual 76, 3) := by decide +kernel
theorem dX3_workMark_28 : decode cX3_workMark 28 = .ok (.goto 15, 3) := by decide +kernel
theorem dX3_workMark_31 : decode cX3_workMark 31 = .ok (.aload_n 2, 1) := by decide +kernel
theorem dX3_workMark_32 : decode cX3_workMark 32 = .ok (.aload_n 0, 1) := by decide +kernel
theorem dX3_workMark_33 : decode cX3_workMark 33 = .ok (.aload_n 1, 1) := by decide +kernel
theorem dX3_workMark_34 : decode cX3_workMark 34 = .ok (.getfield 63, 3) := by decide +kernel
theorem dX3_workMark_37 : decode cX3_workMark 37 = .ok (.invokevirtual 34, 3) := by decide +kernel
theorem dX3_workMark_40 : decode cX3_workMark 40 = .ok (.putfield 163, 3) := by decide +kernel
theorem dX3_workMark_43 : decode cX3_workMark 43 = .ok (.iconst (-1), 1) := by decide +kernel
theorem dX3_workMark_44 : decode cX3_workMark 44 = .ok (.ireturn, 1) := by decide +kernel
theorem dX3_workTool_0 : decode cX3_workTool 0 = .ok (.aload_n 0, 1) := by decide +kernel
theorem dX3_workTool_1 : decode cX3_workTool 1 = .ok (.aload_n 1, 1) := by decide +kernel
theorem dX3_workTool_2 : decode cX3_workTool 2 = .ok (.getfield 69, 3) := by decide +kernel
theorem dX3_workTool_5 : decode cX3_workTool 5 = .ok (.invokevirtual 119, 3) := by decide +kernel
theorem dX3_workTool_8 : decode cX3_workTool 8 = .ok (.astore_n 2, 1) := by decide +kernel
theorem dX3_workTool_9 : decode cX3_workTool 9 = .ok (.aload_n 2, 1) := by decide +kernel
theorem dX3_workTool_10 : decode cX3_workTool 10 = .ok (.ifnonnull 6, 3) := by decide +kernel
theorem dX3_workTool_13 : decode cX3_workTool 13 = .ok (.bipush 6, 2) := by decide +kernel
theorem dX3_workTool_15 : decode cX3_workTool 15 = .ok (.ireturn, 1) := by decide +kernel
theorem dX3_workTool_16 : decode cX3_workTool 16 = .ok (.aload_n 0, 1) := by decide +kernel
theorem dX3_workTool_17 : decode cX3_workTool 17 = .ok (.aload_n 1, 1) := by decide +kernel
theorem dX3_workTool_18 : decode cX3_workTool 18 = .ok (.getfield 63, 3) := by decide +kernel
theorem dX3_workTool_21 : decode cX3_workTool 21 = .ok (.invokevirtual 34, 3) := by decide +kernel
theorem dX3_workTool_24 : decode cX3_workTool 24 = .ok (.lstore_n 3, 1) := by decide +kernel
theorem dX3_workTool_25 : decode cX3_workTool 25 = .ok (.aload_n 1, 1) := by decide +kernel
theorem dX3_workTool_26 : decode cX3_workTool 26 = .ok (.getfield 38, 3) := by decide +kernel
theorem dX3_workTool_29 : decode cX3_workTool 29 = .ok (.bipush 19, 2) := by decide +kernel
theorem dX3_workTool_31 : decode cX3_workTool 31 = .ok (.if_icmp .ne 19, 3) := by decide +kernel
theorem dX3_workTool_34 : decode cX3_workTool 34 = .ok (.aload_n 0, 1) := by decide +kernel
theorem dX3_workTool_35 : decode cX3_workTool 35 = .ok (.aload_n 1, 1) := by decide +kernel
theorem dX3_workTool_36 : decode cX3_workTool 36 = .ok (.getfield 66, 3) := by decide +kernel
theorem dX3_workTool_39 : decode cX3_workTool 39 = .ok (.aload_n 2, 1) := by decide +kernel
theorem dX3_workTool_40 : decode cX3_workTool 40 = .ok (.lload_n 3, 1) := by decide +kernel
theorem dX3_workTool_41 : decode cX3_workTool 41 = .ok (.invokevirtual 167, 3) := by decide +kernel
theorem dX3_workTool_44 : decode cX3_workTool 44 = .ok (.invokevirtual 76, 3) := by decide +kernel
theorem dX3_workTool_47 : decode cX3_workTool 47 = .ok (.goto 59, 3) := by decide +kernel
theorem dX3_workTool_50 : decode cX3_workTool 50 = .ok (.aload_n 1, 1) := by decide +kernel
theorem dX3_workTool_51 : decode cX3_workTool 51 = .ok (.getfield 38, 3) := by decide +kernel
theorem dX3_workTool_54 : decode cX3_workTool 54 = .ok (.bipush 21, 2) := by decide +kernel
theorem dX3_workTool_56 : decode cX3_workTool 56 = .ok (.if_icmp .ne 24, 3) := by decide +kernel
theorem dX3_workTool_59 : decode cX3_workTool 59 = .ok (.aload_n 0, 1) := by decide +kernel
theorem dX3_workTool_60 : decode cX3_workTool 60 = .ok (.aload_n 1, 1) := by decide +kernel
theorem dX3_workTool_61 : decode cX3_workTool 61 = .ok (.getfield 66, 3) := by decide +kernel
theorem dX3_workTool_64 : decode cX3_workTool 64 = .ok (.ldc2_w 171, 3) := by decide +kernel
theorem dX3_workTool_67 : decode cX3_workTool 67 = .ok (.lload_n 3, 1) := by decide +kernel
theorem dX3_workTool_68 : decode cX3_workTool 68 = .ok (.lmul, 1) := by decide +kernel
theorem dX3_workTool_69 : decode cX3_workTool 69 = .ok (.aload_n 2, 1) := by decide +kernel
theorem dX3_workTool_70 : decode cX3_workTool 70 = .ok (.getfield 163, 3) := by decide +kernel
theorem dX3_workTool_73 : decode cX3_workTool 73 = .ok (.ladd, 1) := by decide +kernel
theorem dX3_workTool_74 : decode cX3_workTool 74 = .ok (.invokevirtual 76, 3) := by decide +kernel
theorem dX3_workTool_77 : decode cX3_workTool 77 = .ok (.goto 29, 3) := by decide +kernel
theorem dX3_workTool_80 : decode cX3_workTool 80 = .ok (.aload_n 2, 1) := by decide +kernel
theorem dX3_workTool_81 : decode cX3_workTool 81 = .ok (.invokevirtual 173, 3) := by decide +kernel
theorem dX3_workTool_84 : decode cX3_workTool 84 = .ok (.ifCond .eq 19, 3) := by decide +kernel
theorem dX3_workTool_87 : decode cX3_workTool 87 = .ok (.aload_n 0, 1) := by decide +kernel
theorem dX3_workTool_88 : decode cX3_workTool 88 = .ok (.aload_n 1, 1) := by decide +kernel
theorem dX3_workTool_89 : decode cX3_workTool 89 = .ok (.getfield 66, 3) := by decide +kernel
theorem dX3_workTool_92 : decode cX3_workTool 92 = .ok (.aload_n 2, 1) := by decide +kernel
theorem dX3_workTool_93 : decode cX3_workTool 93 = .ok (.lload_n 3, 1) := by decide +kernel
theorem dX3_workTool_94 : decode cX3_workTool 94 = .ok (.invokevirtual 177, 3) := by decide +kernel
theorem dX3_workTool_97 : decode cX3_workTool 97 = .ok (.invokevirtual 76, 3) := by decide +kernel
theorem dX3_workTool_100 : decode cX3_workTool 100 = .ok (.goto 6, 3) := by decide +kernel
theorem dX3_workTool_103 : decode cX3_workTool 103 = .ok (.bipush 8, 2) := by decide +kernel
theorem dX3_workTool_105 : decode cX3_workTool 105 = .ok (.ireturn, 1) := by decide +kernel
theorem dX3_workTool_106 : decode cX3_workTool 106 = .ok (.iconst (-1), 1) := by decide +kernel
theorem dX3_workTool_107 : decode cX3_workTool 107 = .ok (.ireturn, 1) := by decide +kernel
theorem dX4_init_0 : decode cX4_init 0 = .ok (.aload_n 0, 1) := by decide +kernel
theorem dX4_init_1 : decode cX4_init 1 = .ok (.invokespecial 3, 3) := by decide +kernel
theorem dX4_init_4 : decode cX4_init 4 = .ok (.aload_n 0, 1) := by decide +kernel
theorem dX4_init_5 : decode cX4_init 5 = .ok (.sipush 500, 3) := by decide +kernel
theorem dX4_init_8 : decode cX4_init 8 = .ok (.newarray .long, 2) := by decide +kernel
theorem dX4_init_10 : decode cX4_init 10 = .ok (.putfield 9, 3) := by decide +kernel
theorem dX4_init_13 : decode cX4_init 13 = .ok (.aload_n 0, 1) := by decide +kernel
theorem dX4_init_14 : decode cX4_init 14 = .ok (.sipush 1000, 3) := by decide +kernel
theorem dX4_init_17 : decode cX4_init 17 = .ok (.newarray .int, 2) := by decide +kernel
theorem dX4_init_19 : decode cX4_init 19 = .ok (.putfield 15, 3) := by decide +kernel
theorem dX4_init_22 : decode cX4_init 22 = .ok (.aload_n 0, 1) := by decide +kernel
theorem dX4_init_23 : decode cX4_init 23 = .ok (.iconst (-1), 1) := by decide +kernel
theorem dX4_init_24 : decode cX4_init 24 = .ok (.putfield 19, 3) := by decide +kernel
theorem dX4_init_27 : decode cX4_init 27 = .ok (.return_, 1) := by decide +kernel
theorem dX4_begin_0 : decode cX4_begin 0 = .ok (.aload_n 0, 1) := by decide +kernel
theorem dX4_begin_1 : decode cX4_begin 1 = .ok (.iconst 0, 1) := by decide +kernel
theorem dX4_begin_2 : decode cX4_begin 2 = .ok (.putfield 19, 3) := by decide +kernel
theorem dX4_begin_5 : decode cX4_begin 5 = .ok (.aload_n 0, 1) := by decide +kernel
theorem dX4_begin_6 : decode cX4_begin 6 = .ok (.lconst 0, 1) := by decide +kernel
theorem dX4_begin_7 : decode cX4_begin 7 = .ok (.putfield 23, 3) := by decide +kernel
theorem dX4_begin_10 : decode cX4_begin 10 = .ok (.aload_n 0, 1) := by decide +kernel
theorem dX4_begin_11 : decode cX4_begin 11 = .ok (.aconst_null, 1) := by decide +kernel
theorem dX4_begin_12 : decode cX4_begin 12 = .ok (.putfield 27, 3) := by decide +kernel
theorem dX4_begin_15 : decode cX4_begin 15 = .ok (.aload_n 0, 1) := by decide +kernel
theorem dX4_begin_16 : decode cX4_begin 16 = .ok (.iconst 0, 1) := by decide +kernel
theorem dX4_begin_17 : decode cX4_begin 17 = .ok (.putfield 31, 3) := by decide +kernel
theorem dX4_begin_20 : decode cX4_begin 20 = .ok (.aload_n 0, 1) := by decide +kernel
theorem dX4_begin_21 : decode cX4_begin 21 = .ok (.iconst 0, 1) := by decide +kernel
theorem dX4_begin_22 : decode cX4_begin 22 = .ok (.putfield 34, 3) := by decide +kernel
theorem dX4_begin_25 : decode cX4_begin 25 = .ok (.aload_n 0, 1) := by decide +kernel
theorem dX4_begin_26 : decode cX4_begin 26 = .ok (.iconst 0, 1) := by decide +kernel
theorem dX4_begin_27 : decode cX4_begin 27 = .ok (.putfield 37, 3) := by decide +kernel
theorem dX4_begin_30 : decode cX4_begin 30 = .ok (.aload_n 0, 1) := by decide +kernel
theorem dX4_begin_31 : decode cX4_begin 31 = .ok (.iconst 0, 1) := by decide +kernel
theorem dX4_begin_32 : decode cX4_begin 32 = .ok (.putfield 40, 3) := by decide +kernel
theorem dX4_begin_35 : decode cX4_begin 35 = .ok (.return_, 1) := by decide +kernel
theorem dX4_tell_0 : decode cX4_tell 0 = .ok (.aload_n 0, 1) := by decide +kernel
theorem dX4_tell_1 : decode cX4_tell 1 = .ok (.getfield 31, 3) := by decide +kernel
theorem dX4_tell_4 : decode cX4_tell 4 = .ok (.ifCond .lt 35, 3) := by decide +kernel
theorem dX4_tell_7 : decode cX4_tell 7 = .ok (.aload_n 0, 1) := by decide +kernel
theorem dX4_tell_8 : decode cX4_tell 8 = .ok (.getfield 31, 3) := by decide +kernel
theorem dX4_tell_11 : decode cX4_tell 11 = .ok (.aload_n 0, 1) := by decide +kernel
theorem dX4_tell_12 : decode cX4_tell 12 = .ok (.getfield 9, 3) := by decide +kernel
theorem dX4_tell_15 : decode cX4_tell 15 = .ok (.arraylength, 1) := by decide +kernel
theorem dX4_tell_16 : decode cX4_tell 16 = .ok (.if_icmp .ge 23, 3) := by decide +kernel
theorem dX4_tell_19 : decode cX4_tell 19 = .ok (.aload_n 0, 1) := by decide +kernel
theorem dX4_tell_20 : decode cX4_tell 20 = .ok (.getfield 9, 3) := by decide +kernel
theorem dX4_tell_23 : decode cX4_tell 23 = .ok (.aload_n 0, 1) := by decide +kernel
theorem dX4_tell_24 : decode cX4_tell 24 = .ok (.getfield 31, 3) := by decide +kernel
theorem dX4_tell_27 : decode cX4_tell 27 = .ok (.lload_n 1, 1) := by decide +kernel
theorem dX4_tell_28 : decode cX4_tell 28 = .ok (.lastore, 1) := by decide +kernel
theorem dX4_tell_29 : decode cX4_tell 29 = .ok (.aload_n 0, 1) := by decide +kernel
theorem dX4_tell_30 : decode cX4_tell 30 = .ok (.dup, 1) := by decide +kernel
theorem dX4_tell_31 : decode cX4_tell 31 = .ok (.getfield 31, 3) := by decide +kernel
theorem dX4_tell_34 : decode cX4_tell 34 = .ok (.iconst 1, 1) := by decide +kernel
theorem dX4_tell_35 : decode cX4_tell 35 = .ok (.iadd, 1) := by decide +kernel
theorem dX4_tell_36 : decode cX4_tell 36 = .ok (.putfield 31, 3) := by decide +kernel
theorem dX4_tell_39 : decode cX4_tell 39 = .ok (.return_, 1) := by decide +kernel
theorem dX4_noteFinish_0 : decode cX4_noteFinish 0 = .ok (.aload_n 0, 1) := by decide +kernel
theorem dX4_noteFinish_1 : decode cX4_noteFinish 1 = .ok (.getfield 34, 3) := by decide +kernel
theorem dX4_noteFinish_4 : decode cX4_noteFinish 4 = .ok (.ifCond .lt 35, 3) := by decide +kernel
theorem dX4_noteFinish_7 : decode cX4_noteFinish 7 = .ok (.aload_n 0, 1) := by decide +kernel
theorem dX4_noteFinish_8 : decode cX4_noteFinish 8 = .ok (.getfield 34, 3) := by decide +kernel
theorem dX4_noteFinish_11 : decode cX4_noteFinish 11 = .ok (.aload_n 0, 1) := by decide +kernel
theorem dX4_noteFinish_12 : decode cX4_noteFinish 12 = .ok (.getfield 15, 3) := by decide +kernel
theorem dX4_noteFinish_15 : decode cX4_noteFinish 15 = .ok (.arraylength, 1) := by decide +kernel
theorem dX4_noteFinish_16 : decode cX4_noteFinish 16 = .ok (.if_icmp .ge 23, 3) := by decide +kernel
theorem dX4_noteFinish_19 : decode cX4_noteFinish 19 = .ok (.aload_n 0, 1) := by decide +kernel
theorem dX4_noteFinish_20 : decode cX4_noteFinish 20 = .ok (.getfield 15, 3) := by decide +kernel
theorem dX4_noteFinish_23 : decode cX4_noteFinish 23 = .ok (.aload_n 0, 1) := by decide +kernel
theorem dX4_noteFinish_24 : decode cX4_noteFinish 24 = .ok (.getfield 34, 3) := by decide +kernel
theorem dX4_noteFinish_27 : decode cX4_noteFinish 27 = .ok (.iload_n 1, 1) := by decide +kernel
theorem dX4_noteFinish_28 : decode cX4_noteFinish 28 = .ok (.iastore, 1) := by decide +kernel
theorem dX4_noteFinish_29 : decode cX4_noteFinish 29 = .ok (.aload_n 0, 1) := by decide +kernel
theorem dX4_noteFinish_30 : decode cX4_noteFinish 30 = .ok (.dup, 1) := by decide +kernel
theorem dX4_noteFinish_31 : decode cX4_noteFinish 31 = .ok (.getfield 34, 3) := by decide +kernel
theorem dX4_noteFinish_34 : decode cX4_noteFinish 34 = .ok (.iconst 1, 1) := by decide +kernel
theorem dX4_noteFinish_35 : decode cX4_noteFinish 35 = .ok (.iadd, 1) := by decide +kernel
theorem dX4_noteFinish_36 : decode cX4_noteFinish 36 = .ok (.putfield 34, 3) := by decide +kernel
theorem dX4_noteFinish_39 : decode cX4_noteFinish 39 = .ok (.return_, 1) := by decide +kernel
theorem dX4_countCauses_0 : decode cX4_countCauses 0 = .ok (.iconst 0, 1) := by decide +kernel
theorem dX4_countCauses_1 : decode cX4_countCauses 1 = .ok (.istore_n 1, 1) := by decide +kernel
theorem dX4_countCauses_2 : decode cX4_countCauses 2 = .ok (.aload_n 0, 1) := by decide +kernel
theorem dX4_countCauses_3 : decode cX4_countCauses 3 = .ok (.getfield 27, 3) := by decide +kernel
theorem dX4_countCauses_6 : decode cX4_countCauses 6 = .ok (.astore_n 2, 1) := by decide +kernel
theorem dX4_countCauses_7 : decode cX4_countCauses 7 = .ok (.aload_n 2, 1) := by decide +kernel
theorem dX4_countCauses_8 : decode cX4_countCauses 8 = .ok (.ifnull 21, 3) := by decide +kernel
theorem dX4_countCauses_11 : decode cX4_countCauses 11 = .ok (.aload_n 2, 1) := by decide +kernel
theorem dX4_countCauses_12 : decode cX4_countCauses 12 = .ok (.getfield 43, 3) := by decide +kernel
theorem dX4_countCauses_15 : decode cX4_countCauses 15 = .ok (.ifnull 14, 3) := by decide +kernel
theorem dX4_countCauses_18 : decode cX4_countCauses 18 = .ok (.iinc 1 1, 3) := by decide +kernel
theorem dX4_countCauses_21 : decode cX4_countCauses 21 = .ok (.aload_n 2, 1) := by decide +kernel
theorem dX4_countCauses_22 : decode cX4_countCauses 22 = .ok (.getfield 43, 3) := by decide +kernel
theorem dX4_countCauses_25 : decode cX4_countCauses 25 = .ok (.astore_n 2, 1) := by decide +kernel
theorem dX4_countCauses_26 : decode cX4_countCauses 26 = .ok (.goto (-19), 3) := by decide +kernel
theorem dX4_countCauses_29 : decode cX4_countCauses 29 = .ok (.iload_n 1, 1) := by decide +kernel
theorem dX4_countCauses_30 : decode cX4_countCauses 30 = .ok (.ireturn, 1) := by decide +kernel
theorem dX5_init_0 : decode cX5_init 0 = .ok (.aload_n 0, 1) := by decide +kernel
theorem dX5_init_1 : decode cX5_init 1 = .ok (.invokespecial 3, 3) := by decide +kernel
theorem dX5_init_4 : decode cX5_init 4 = .ok (.aload_n 0, 1) := by decide +kernel
theorem dX5_init_5 : decode cX5_init 5 = .ok (.iload_n 1, 1) := by decide +kernel
theorem dX5_init_6 : decode cX5_init 6 = .ok (.putfield 9, 3) := by decide +kernel
theorem dX5_init_9 : decode cX5_init 9 = .ok (.aload_n 0, 1) := by decide +kernel
theorem dX5_init_10 : decode cX5_init 10 = .ok (.iload_n 1, 1) := by decide +kernel
theorem dX5_init_11 : decode cX5_init 11 = .ok (.bipush 7, 2) := by decide +kernel
theorem dX5_init_13 : decode cX5_init 13 = .ok (.if_icmp .ne 7, 3) := by decide +kernel
theorem dX5_init_16 : decode cX5_init 16 = .ok (.iconst 0, 1) := by decide +kernel
theorem dX5_init_17 : decode cX5_init 17 = .ok (.goto 5, 3) := by decide +kernel
theorem dX5_init_20 : decode cX5_init 20 = .ok (.bipush 63, 2) := by decide +kernel
theorem dX5_init_22 : decode cX5_init 22 = .ok (.newarray .long, 2) := by decide +kernel
theorem dX5_init_24 : decode cX5_init 24 = .ok (.putfield 15, 3) := by decide +kernel
theorem dX5_init_27 : decode cX5_init 27 = .ok (.aload_n 0, 1) := by decide +kernel
theorem dX5_init_28 : decode cX5_init 28 = .ok (.iload_n 1, 1) := by decide +kernel
theorem dX5_init_29 : decode cX5_init 29 = .ok (.bipush 7, 2) := by decide +kernel
theorem dX5_init_31 : decode cX5_init 31 = .ok (.if_icmp .ne 8, 3) := by decide +kernel
theorem dX5_init_34 : decode cX5_init 34 = .ok (.bipush 63, 2) := by decide +kernel
theorem dX5_init_36 : decode cX5_init 36 = .ok (.goto 4, 3) := by decide +kernel
theorem dX5_init_39 : decode cX5_init 39 = .ok (.iconst 0, 1) := by decide +kernel
theorem dX5_init_40 : decode cX5_init 40 = .ok (.anewarray 19, 3) := by decide +kernel
theorem dX5_init_43 : decode cX5_init 43 = .ok (.putfield 21, 3) := by decide +kernel
theorem dX5_init_46 : decode cX5_init 46 = .ok (.return_, 1) := by decide +kernel
theorem dX5_empty_0 : decode cX5_empty 0 = .ok (.aload_n 0, 1) := by decide +kernel
theorem dX5_empty_1 : decode cX5_empty 1 = .ok (.iload_n 1, 1) := by decide +kernel
theorem dX5_empty_2 : decode cX5_empty 2 = .ok (.putfield 25, 3) := by decide +kernel
theorem dX5_empty_5 : decode cX5_empty 5 = .ok (.aload_n 0, 1) := by decide +kernel
theorem dX5_empty_6 : decode cX5_empty 6 = .ok (.iload_n 2, 1) := by decide +kernel
theorem dX5_empty_7 : decode cX5_empty 7 = .ok (.putfield 28, 3) := by decide +kernel
theorem dX5_empty_10 : decode cX5_empty 10 = .ok (.aload_n 0, 1) := by decide +kernel
theorem dX5_empty_11 : decode cX5_empty 11 = .ok (.getfield 15, 3) := by decide +kernel
theorem dX5_empty_14 : decode cX5_empty 14 = .ok (.lconst 0, 1) := by decide +kernel
theorem dX5_empty_15 : decode cX5_empty 15 = .ok (.invokestatic 32, 3) := by decide +kernel
theorem dX5_empty_18 : decode cX5_empty 18 = .ok (.iconst 0, 1) := by decide +kernel
theorem dX5_empty_19 : decode cX5_empty 19 = .ok (.istore_n 3, 1) := by decide +kernel
theorem dX5_empty_20 : decode cX5_empty 20 = .ok (.iload_n 3, 1) := by decide +kernel
theorem dX5_empty_21 : decode cX5_empty 21 = .ok (.aload_n 0, 1) := by decide +kernel
theorem dX5_empty_22 : decode cX5_empty 22 = .ok (.getfield 21, 3) := by decide +kernel
theorem dX5_empty_25 : decode cX5_empty 25 = .ok (.arraylength, 1) := by decide +kernel
theorem dX5_empty_26 : decode cX5_empty 26 = .ok (.if_icmp .ge 16, 3) := by decide +kernel
theorem dX5_empty_29 : decode cX5_empty 29 = .ok (.aload_n 0, 1) := by decide +kernel
theorem dX5_empty_30 : decode cX5_empty 30 = .ok (.getfield 21, 3) := by decide +kernel
theorem dX5_empty_33 : decode cX5_empty 33 = .ok (.iload_n 3, 1) := by decide +kernel
theorem dX5_empty_34 : decode cX5_empty 34 = .ok (.aconst_null, 1) := by decide +kernel
theorem dX5_empty_35 : decode cX5_empty 35 = .ok (.aastore, 1) := by decide +kernel
theorem dX5_empty_36 : decode cX5_empty 36 = .ok (.iinc 3 1, 3) := by decide +kernel
theorem dX5_empty_39 : decode cX5_empty 39 = .ok (.goto (-19), 3) := by decide +kernel
theorem dX5_empty_42 : decode cX5_empty 42 = .ok (.return_, 1) := by decide +kernel
theorem dX5_has_0 : decode cX5_has 0 = .ok (.iload_n 1, 1) := by decide +kernel
theorem dX5_has_1 : decode cX5_has 1 = .ok (.ifCond .lt 15, 3) := by decide +kernel
theorem dX5_has_4 : decode cX5_has 4 = .ok (.iload_n 1, 1) := by decide +kernel
theorem dX5_has_5 : decode cX5_has 5 = .ok (.aload_n 0, 1) := by decide +kernel
theorem dX5_has_6 : decode cX5_has 6 = .ok (.getfield 25, 3) := by decide +kernel
theorem dX5_has_9 : decode cX5_has 9 = .ok (.if_icmp .ge 7, 3) := by decide +kernel
theorem dX5_has_12 : decode cX5_has 12 = .ok (.iconst 1, 1) := by decide +kernel
theorem dX5_has_13 : decode cX5_has 13 = .ok (.goto 4, 3) := by decide +kernel
theorem dX5_has_16 : decode cX5_has 16 = .ok (.iconst 0, 1) := by decide +kernel
theorem dX5_has_17 : decode cX5_has 17 = .ok (.ireturn, 1) := by decide +kernel
theorem dX5_numberAt_0 : decode cX5_numberAt 0 = .ok (.iload_n 1, 1) := by decide +kernel
theorem dX5_numberAt_1 : decode cX5_numberAt 1 = .ok (.ifCond .lt 21, 3) := by decide +kernel
theorem dX5_numberAt_4 : decode cX5_numberAt 4 = .ok (.iload_n 1, 1) := by decide +kernel
theorem dX5_numberAt_5 : decode cX5_numberAt 5 = .ok (.aload_n 0, 1) := by decide +kernel
theorem dX5_numberAt_6 : decode cX5_numberAt 6 = .ok (.getfield 15, 3) := by decide +kernel
theorem dX5_numberAt_9 : decode cX5_numberAt 9 = .ok (.arraylength, 1) := by decide +kernel
theorem dX5_numberAt_10 : decode cX5_numberAt 10 = .ok (.if_icmp .ge 12, 3) := by decide +kernel
theorem dX5_numberAt_13 : decode cX5_numberAt 13 = .ok (.aload_n 0, 1) := by decide +kernel
theorem dX5_numberAt_14 : decode cX5_numberAt 14 = .ok (.getfield 15, 3) := by decide +kernel
theorem dX5_numberAt_17 : decode cX5_numberAt 17 = .ok (.iload_n 1, 1) := by decide +kernel
theorem dX5_numberAt_18 : decode cX5_numberAt 18 = .ok (.laload, 1) := by decide +kernel
theorem dX5_numberAt_19 : decode cX5_numberAt 19 = .ok (.goto 4, 3) := by decide +kernel
theorem dX5_numberAt_22 : decode cX5_numberAt 22 = .ok (.lconst 0, 1) := by decide +kernel
theorem dX5_numberAt_23 : decode cX5_numberAt 23 = .ok (.lreturn, 1) := by decide +kernel
theorem dX5_thingAt_0 : decode cX5_thingAt 0 = .ok (.iload_n 1, 1) := by decide +kernel
theorem dX5_thingAt_1 : decode cX5_thingAt 1 = .ok (.ifCond .lt 21, 3) := by decide +kernel
theorem dX5_thingAt_4 : decode cX5_thingAt 4 = .ok (.iload_n 1, 1) := by decide +kernel
theorem dX5_thingAt_5 : decode cX5_thingAt 5 = .ok (.aload_n 0, 1) := by decide +kernel
theorem dX5_thingAt_6 : decode cX5_thingAt 6 = .ok (.getfield 21, 3) := by decide +kernel
theorem dX5_thingAt_9 : decode cX5_thingAt 9 = .ok (.arraylength, 1) := by decide +kernel
theorem dX5_thingAt_10 : decode cX5_thingAt 10 = .ok (.if_icmp .ge 12, 3) := by decide +kernel
theorem dX5_thingAt_13 : decode cX5_thingAt 13 = .ok (.aload_n 0, 1) := by decide +kernel
theorem dX5_thingAt_14 : decode cX5_thingAt 14 = .ok (.getfield 21, 3) := by decide +kernel
theorem dX5_thingAt_17 : decode cX5_thingAt 17 = .ok (.iload_n 1, 1) := by decide +kernel
theorem dX5_thingAt_18 : decode cX5_thingAt 18 = .ok (.aaload, 1) := by decide +kernel
theorem dX5_thingAt_19 : decode cX5_thingAt 19 = .ok (.goto 4, 3) := by decide +kernel
theorem dX5_thingAt_22 : decode cX5_thingAt 22 = .ok (.aconst_null, 1) := by decide +kernel
theorem dX5_thingAt_23 : decode cX5_thingAt 23 = .ok (.areturn, 1) := by decide +kernel
theorem dX5_putNumber_0 : decode cX5_putNumber 0 = .ok (.iload_n 1, 1) := by decide +kernel
theorem dX5_putNumber_1 : decode cX5_putNumber 1 = .ok (.ifCond .lt 23, 3) := by decide +kernel
theorem dX5_putNumber_4 : decode cX5_putNumber 4 = .ok (.iload_n 1, 1) := by decide +kernel
theorem dX5_putNumber_5 : decode cX5_putNumber 5 = .ok (.aload_n 0, 1) := by decide +kernel
theorem dX5_putNumber_6 : decode cX5_putNumber 6 = .ok (.getfield 15, 3) := by decide +kernel
theorem dX5_putNumber_9 : decode cX5_putNumber 9 = .ok (.arraylength, 1) := by decide +kernel
theorem dX5_putNumber_10 : decode cX5_putNumber 10 = .ok (.if_icmp .ge 14, 3) := by decide +kernel
theorem dX5_putNumber_13 : decode cX5_putNumber 13 = .ok (.aload_n 0, 1) := by decide +kernel
theorem dX5_putNumber_14 : decode cX5_putNumber 14 = .ok (.getfield 15, 3) := by decide +kernel
theorem dX5_putNumber_17 : decode cX5_putNumber 17 = .ok (.iload_n 1, 1) := by decide +kernel
theorem dX5_putNumber_18 : decode cX5_putNumber 18 = .ok (.aload_n 0, 1) := by decide +kernel
theorem dX5_putNumber_19 : decode cX5_putNumber 19 = .ok (.lload_n 2, 1) := by decide +kernel
theorem dX5_putNumber_20 : decode cX5_putNumber 20 = .ok (.invokevirtual 38, 3) := by decide +kernel
theorem dX5_putNumber_23 : decode cX5_putNumber 23 = .ok (.lastore, 1) := by decide +kernel
theorem dX5_putNumber_24 : decode cX5_putNumber 24 = .ok (.return_, 1) := by decide +kernel
theorem dX5_putThing_0 : decode cX5_putThing 0 = .ok (.iload_n 1, 1) := by decide +kernel
theorem dX5_putThing_1 : decode cX5_putThing 1 = .ok (.ifCond .lt 19, 3) := by decide +kernel
theorem dX5_putThing_4 : decode cX5_putThing 4 = .ok (.iload_n 1, 1) := by decide +kernel
theorem dX5_putThing_5 : decode cX5_putThing 5 = .ok (.aload_n 0, 1) := by decide +kernel
theorem dX5_putThing_6 : decode cX5_putThing 6 = .ok (.getfield 21, 3) := by decide +kernel
theorem dX5_putThing_9 : decode cX5_putThing 9 = .ok (.arraylength, 1) := by decide +kernel
theorem dX5_putThing_10 : decode cX5_putThing 10 = .ok (.if_icmp .ge 10, 3) := by decide +kernel
theorem dX5_putThing_13 : decode cX5_putThing 13 = .ok (.aload_n 0, 1) := by decide +kernel
theorem dX5_putThing_14 : decode cX5_putThing 14 = .ok (.getfield 21, 3) := by decide +kernel
theorem dX5_putThing_17 : decode cX5_putThing 17 = .ok (.iload_n 1, 1) := by decide +kernel
theorem dX5_putThing_18 : decode cX5_putThing 18 = .ok (.aload_n 2, 1) := by decide +kernel
theorem dX5_putThing_19 : decode cX5_putThing 19 = .ok (.aastore, 1) := by decide +kernel
theorem dX5_putThing_20 : decode cX5_putThing 20 = .ok (.return_, 1) := by decide +kernel
theorem dX5_narrowed_0 : decode cX5_narrowed 0 = .ok (.aload_n 0, 1) := by decide +kernel
theorem dX5_narrowed_1 : decode cX5_narrowed 1 = .ok (.getfield 9, 3) := by decide +kernel
theorem dX5_narrowed_4 : decode cX5_narrowed 4 = .ok (.tableswitch 71 0 6 #[44, 49, 54, 59, 71, 63, 67], 44) := by decide +kernel
theorem dX5_narrowed_48 : decode cX5_narrowed 48 = .ok (.lload_n 1, 1) := by decide +kernel
theorem dX5_narrowed_49 : decode cX5_narrowed 49 = .ok (.l2i, 1) := by decide +kernel
theorem dX5_narrowed_50 : decode cX5_narrowed 50 = .ok (.i2b, 1) := by decide +kernel
theorem dX5_narrowed_51 : decode cX5_narrowed 51 = .ok (.i2l, 1) := by decide +kernel
theorem dX5_narrowed_52 : decode cX5_narrowed 52 = .ok (.lreturn, 1) := by decide +kernel
theorem dX5_narrowed_53 : decode cX5_narrowed 53 = .ok (.lload_n 1, 1) := by decide +kernel
theorem dX5_narrowed_54 : decode cX5_narrowed 54 = .ok (.l2i, 1) := by decide +kernel
theorem dX5_narrowed_55 : decode cX5_narrowed 55 = .ok (.i2c, 1) := by decide +kernel
theorem dX5_narrowed_56 : decode cX5_narrowed 56 = .ok (.i2l, 1) := by decide +kernel
theorem dX5_narrowed_57 : decode cX5_narrowed 57 = .ok (.lreturn, 1) := by decide +kernel
theorem dX5_narrowed_58 : decode cX5_narrowed 58 = .ok (.lload_n 1, 1) := by decide +kernel
theorem dX5_narrowed_59 : decode cX5_narrowed 59 = .ok (.l2i, 1) := by decide +kernel
theorem dX5_narrowed_60 : decode cX5_narrowed 60 = .ok (.i2s, 1) := by decide +kernel
theorem dX5_narrowed_61 : decode cX5_narrowed 61 = .ok (.i2l, 1) := by decide +kernel
theorem dX5_narrowed_62 : decode cX5_narrowed 62 = .ok (.lreturn, 1) := by decide +kernel
theorem dX5_narrowed_63 : decode cX5_narrowed 63 = .ok (.lload_n 1, 1) := by decide +kernel
theorem dX5_narrowed_64 : decode cX5_narrowed 64 = .ok (.l2i, 1) := by decide +kernel
theorem dX5_narrowed_65 : decode cX5_narrowed 65 = .ok (.i2l, 1) := by decide +kernel
theorem dX5_narrowed_66 : decode cX5_narrowed 66 = .ok (.lreturn, 1) := by decide +kernel
theorem dX5_narrowed_67 : decode cX5_narrowed 67 = .ok (.lload_n 1, 1) := by decide +kernel
theorem dX5_narrowed_68 : decode cX5_narrowed 68 = .ok (.l2f, 1) := by decide +kernel
theorem dX5_narrowed_69 : decode cX5_narrowed 69 = .ok (.f2l, 1) := by decide +kernel
theorem dX5_narrowed_70 : decode cX5_narrowed 70 = .ok (.lreturn, 1) := by decide +kernel
theorem dX5_narrowed_71 : decode cX5_narrowed 71 = .ok (.lload_n 1, 1) := by decide +kernel
theorem dX5_narrowed_72 : decode cX5_narrowed 72 = .ok (.l2d, 1) := by decide +kernel
theorem dX5_narrowed_73 : decode cX5_narrowed 73 = .ok (.d2l, 1) := by decide +kernel
theorem dX5_narrowed_74 : decode cX5_narrowed 74 = .ok (.lreturn, 1) := by decide +kernel
theorem dX5_narrowed_75 : decode cX5_narrowed 75 = .ok (.lload_n 1, 1) := by decide +kernel
theorem dX5_narrowed_76 : decode cX5_narrowed 76 = .ok (.lreturn, 1) := by decide +kernel
theorem dX6_init_0 : decode cX6_init 0 = .ok (.aload_n 0, 1) := by decide +kernel
theorem dX6_init_1 : decode cX6_init 1 = .ok (.invokespecial 3, 3) := by decide +kernel
theorem dX6_init_4 : decode cX6_init 4 = .ok (.aload_n 0, 1) := by decide +kernel
theorem dX6_init_5 : decode cX6_init 5 = .ok (.sipush 2000, 3) := by decide +kernel
theorem dX6_init_8 : decode cX6_init 8 = .ok (.anewarray 9, 3) := by decide +kernel
theorem dX6_init_11 : decode cX6_init 11 = .ok (.putfield 11, 3) := by decide +kernel
theorem dX6_init_14 : decode cX6_init 14 = .ok (.aload_n 0, 1) := by decide +kernel
theorem dX6_init_15 : decode cX6_init 15 = .ok (.sipush 2000, 3) := by decide +kernel
theorem dX6_init_18 : decode cX6_init 18 = .ok (.newarray .int, 2) := by decide +kernel
theorem dX6_init_20 : decode cX6_init 20 = .ok (.putfield 17, 3) := by decide +kernel
theorem dX6_init_23 : decode cX6_init 23 = .ok (.return_, 1) := by decide +kernel
theorem dX6_clear_0 : decode cX6_clear 0 = .ok (.aload_n 0, 1) := by decide +kernel
theorem dX6_clear_1 : decode cX6_clear 1 = .ok (.iconst 0, 1) := by decide +kernel
theorem dX6_clear_2 : decode cX6_clear 2 = .ok (.putfield 21, 3) := by decide +kernel
theorem dX6_clear_5 : decode cX6_clear 5 = .ok (.aload_n 0, 1) := by decide +kernel
theorem dX6_clear_6 : decode cX6_clear 6 = .ok (.iconst 0, 1) := by decide +kernel
theorem dX6_clear_7 : decode cX6_clear 7 = .ok (.putfield 25, 3) := by decide +kernel
theorem dX6_clear_10 : decode cX6_clear 10 = .ok (.aload_n 0, 1) := by decide +kernel
theorem dX6_clear_11 : decode cX6_clear 11 = .ok (.aconst_null, 1) := by decide +kernel
theorem dX6_clear_12 : decode cX6_clear 12 = .ok (.putfield 28, 3) := by decide +kernel
theorem dX6_clear_15 : decode cX6_clear 15 = .ok (.return_, 1) := by decide +kernel
theorem dX6_add_0 : decode cX6_add 0 = .ok (.aload_n 0, 1) := by decide +kernel
theorem dX6_add_1 : decode cX6_add 1 = .ok (.getfield 21, 3) := by decide +kernel
theorem dX6_add_4 : decode cX6_add 4 = .ok (.ifCond .lt 13, 3) := by decide +kernel
theorem dX6_add_7 : decode cX6_add 7 = .ok (.aload_n 0, 1) := by decide +kernel
theorem dX6_add_8 : decode cX6_add 8 = .ok (.getfield 21, 3) := by decide +kernel
theorem dX6_add_11 : decode cX6_add 11 = .ok (.sipush 2000, 3) := by decide +kernel
theorem dX6_add_14 : decode cX6_add 14 = .ok (.if_icmp .lt 4, 3) := by decide +kernel
theorem dX6_add_17 : decode cX6_add 17 = .ok (.return_, 1) := by decide +kernel
theorem dX6_add_18 : decode cX6_add 18 = .ok (.new 9, 3) := by decide +kernel
theorem dX6_add_21 : decode cX6_add 21 = .ok (.dup, 1) := by decide +kernel
theorem dX6_add_22 : decode cX6_add 22 = .ok (.aload_n 0, 1) := by decide +kernel
theorem dX6_add_23 : decode cX6_add 23 = .ok (.getfield 21, 3) := by decide +kernel
theorem dX6_add_26 : decode cX6_add 26 = .ok (.iload_n 1, 1) := by decide +kernel
theorem dX6_add_27 : decode cX6_add 27 = .ok (.iload_n 2, 1) := by decide +kernel
theorem dX6_add_28 : decode cX6_add 28 = .ok (.iload_n 3, 1) := by decide +kernel
theorem dX6_add_29 : decode cX6_add 29 = .ok (.iload 4, 2) := by decide +kernel
theorem dX6_add_31 : decode cX6_add 31 = .ok (.invokespecial 32, 3) := by decide +kernel
theorem dX6_add_34 : decode cX6_add 34 = .ok (.astore 5, 2) := by decide +kernel
theorem dX6_add_36 : decode cX6_add 36 = .ok (.aload_n 0, 1) := by decide +kernel
theorem dX6_add_37 : decode cX6_add 37 = .ok (.getfield 11, 3) := by decide +kernel
theorem dX6_add_40 : decode cX6_add 40 = .ok (.aload_n 0, 1) := by decide +kernel
theorem dX6_add_41 : decode cX6_add 41 = .ok (.getfield 21, 3) := by decide +kernel
theorem dX6_add_44 : decode cX6_add 44 = .ok (.aload 5, 2) := by decide +kernel
theorem dX6_add_46 : decode cX6_add 46 = .ok (.aastore, 1) := by decide +kernel
theorem dX6_add_47 : decode cX6_add 47 = .ok (.aload_n 0, 1) := by decide +kernel
theorem dX6_add_48 : decode cX6_add 48 = .ok (.dup, 1) := by decide +kernel
theorem dX6_add_49 : decode cX6_add 49 = .ok (.getfield 21, 3) := by decide +kernel
theorem dX6_add_52 : decode cX6_add 52 = .ok (.iconst 1, 1) := by decide +kernel
theorem dX6_add_53 : decode cX6_add 53 = .ok (.iadd, 1) := by decide +kernel
theorem dX6_add_54 : decode cX6_add 54 = .ok (.putfield 21, 3) := by decide +kernel
theorem dX6_add_57 : decode cX6_add 57 = .ok (.iload_n 1, 1) := by decide +kernel
theorem dX6_add_58 : decode cX6_add 58 = .ok (.bipush 25, 2) := by decide +kernel
theorem dX6_add_60 : decode cX6_add 60 = .ok (.if_icmp .eq 15, 3) := by decide +kernel
theorem dX6_add_63 : decode cX6_add 63 = .ok (.iload_n 1, 1) := by decide +kernel
theorem dX6_add_64 : decode cX6_add 64 = .ok (.bipush 29, 2) := by decide +kernel
theorem dX6_add_66 : decode cX6_add 66 = .ok (.if_icmp .eq 9, 3) := by decide +kernel
theorem dX6_add_69 : decode cX6_add 69 = .ok (.iload_n 1, 1) := by decide +kernel
theorem dX6_add_70 : decode cX6_add 70 = .ok (.bipush 30, 2) := by decide +kernel
theorem dX6_add_72 : decode cX6_add 72 = .ok (.if_icmp .ne 21, 3) := by decide +kernel
theorem dX6_add_75 : decode cX6_add 75 = .ok (.aload 5, 2) := by decide +kernel
theorem dX6_add_77 : decode cX6_add 77 = .ok (.aload_n 0, 1) := by decide +kernel
theorem dX6_add_78 : decode cX6_add 78 = .ok (.getfield 28, 3) := by decide +kernel
theorem dX6_add_81 : decode cX6_add 81 = .ok (.putfield 35, 3) := by decide +kernel
theorem dX6_add_84 : decode cX6_add 84 = .ok (.aload_n 0, 1) := by decide +kernel
theorem dX6_add_85 : decode cX6_add 85 = .ok (.aload 5, 2) := by decide +kernel
theorem dX6_add_87 : decode cX6_add 87 = .ok (.putfield 28, 3) := by decide +kernel
theorem dX6_add_90 : decode cX6_add 90 = .ok (.goto 46, 3) := by decide +kernel
theorem dX6_add_93 : decode cX6_add 93 = .ok (.iload_n 1, 1) := by decide +kernel
theorem dX6_add_94 : decode cX6_add 94 = .ok (.bipush 26, 2) := by decide +kernel
theorem dX6_add_96 : decode cX6_add 96 = .ok (.if_icmp .lt 18, 3) := by decide +kernel
theorem dX6_add_99 : decode cX6_add 99 = .ok (.iload_n 1, 1) := by decide +kernel
theorem dX6_add_100 : decode cX6_add 100 = .ok (.bipush 31, 2) := by decide +kernel
theorem dX6_add_102 : decode cX6_add 102 = .ok (.if_icmp .gt 12, 3) := by decide +kernel
theorem dX6_add_105 : decode cX6_add 105 = .ok (.aload_n 0, 1) := by decide +kernel
theorem dX6_add_106 : decode cX6_add 106 = .ok (.aload 5, 2) := by decide +kernel
theorem dX6_add_108 : decode cX6_add 108 = .ok (.invokevirtual 38, 3) := by decide +kernel
theorem dX6_add_111 : decode cX6_add 111 = .ok (.goto 25, 3) := by decide +kernel
theorem dX6_add_114 : decode cX6_add 114 = .ok (.iload_n 1, 1) := by decide +kernel
theorem dX6_add_115 : decode cX6_add 115 = .ok (.bipush 35, 2) := by decide +kernel
theorem dX6_add_117 : decode cX6_add 117 = .ok (.if_icmp .ne 19, 3) := by decide +kernel
theorem dX6_add_120 : decode cX6_add 120 = .ok (.iload 4, 2) := by decide +kernel
theorem dX6_add_122 : decode cX6_add 122 = .ok (.iconst 1, 1) := by decide +kernel
theorem dX6_add_123 : decode cX6_add 123 = .ok (.iand, 1) := by decide +kernel
theorem dX6_add_124 : decode cX6_add 124 = .ok (.ifCond .ne 12, 3) := by decide +kernel
theorem dX6_add_127 : decode cX6_add 127 = .ok (.aload_n 0, 1) := by decide +kernel
theorem dX6_add_128 : decode cX6_add 128 = .ok (.aload 5, 2) := by decide +kernel
theorem dX6_add_130 : decode cX6_add 130 = .ok (.getfield 42, 3) := by decide +kernel
theorem dX6_add_133 : decode cX6_add 133 = .ok (.invokevirtual 45, 3) := by decide +kernel
theorem dX6_add_136 : decode cX6_add 136 = .ok (.return_, 1) := by decide +kernel
theorem dX6_beginRoutine_0 : decode cX6_beginRoutine 0 = .ok (.aload_n 0, 1) := by decide +kernel
theorem dX6_beginRoutine_1 : decode cX6_beginRoutine 1 = .ok (.getfield 25, 3) := by decide +kernel
theorem dX6_beginRoutine_4 : decode cX6_beginRoutine 4 = .ok (.ifCond .lt 13, 3) := by decide +kernel
theorem dX6_beginRoutine_7 : decode cX6_beginRoutine 7 = .ok (.aload_n 0, 1) := by decide +kernel
theorem dX6_beginRoutine_8 : decode cX6_beginRoutine 8 = .ok (.getfield 25, 3) := by decide +kernel
theorem dX6_beginRoutine_11 : decode cX6_beginRoutine 11 = .ok (.sipush 2000, 3) := by decide +kernel
theorem dX6_beginRoutine_14 : decode cX6_beginRoutine 14 = .ok (.if_icmp .lt 4, 3) := by decide +kernel
theorem dX6_beginRoutine_17 : decode cX6_beginRoutine 17 = .ok (.return_, 1) := by decide +kernel
theorem dX6_beginRoutine_18 : decode cX6_beginRoutine 18 = .ok (.aload_n 0, 1) := by decide +kernel
theorem dX6_beginRoutine_19 : decode cX6_beginRoutine 19 = .ok (.getfield 17, 3) := by decide +kernel
theorem dX6_beginRoutine_22 : decode cX6_beginRoutine 22 = .ok (.aload_n 0, 1) := by decide +kernel
theorem dX6_beginRoutine_23 : decode cX6_beginRoutine 23 = .ok (.getfield 25, 3) := by decide +kernel
theorem dX6_beginRoutine_26 : decode cX6_beginRoutine 26 = .ok (.iload_n 1, 1) := by decide +kernel
theorem dX6_beginRoutine_27 : decode cX6_beginRoutine 27 = .ok (.iastore, 1) := by decide +kernel
theorem dX6_beginRoutine_28 : decode cX6_beginRoutine 28 = .ok (.aload_n 0, 1) := by decide +kernel
theorem dX6_beginRoutine_29 : decode cX6_beginRoutine 29 = .ok (.dup, 1) := by decide +kernel
theorem dX6_beginRoutine_30 : decode cX6_beginRoutine 30 = .ok (.getfield 25, 3) := by decide +kernel
theorem dX6_beginRoutine_33 : decode cX6_beginRoutine 33 = .ok (.iconst 1, 1) := by decide +kernel
theorem dX6_beginRoutine_34 : decode cX6_beginRoutine 34 = .ok (.iadd, 1) := by decide +kernel
theorem dX6_beginRoutine_35 : decode cX6_beginRoutine 35 = .ok (.putfield 25, 3) := by decide +kernel
theorem dX6_beginRoutine_38 : decode cX6_beginRoutine 38 = .ok (.aload_n 0, 1) := by decide +kernel
theorem dX6_beginRoutine_39 : decode cX6_beginRoutine 39 = .ok (.aconst_null, 1) := by decide +kernel
theorem dX6_beginRoutine_40 : decode cX6_beginRoutine 40 = .ok (.putfield 28, 3) := by decide +kernel
theorem dX6_beginRoutine_43 : decode cX6_beginRoutine 43 = .ok (.return_, 1) := by decide +kernel
theorem dX6_fit_0 : decode cX6_fit 0 = .ok (.aload_n 0, 1) := by decide +kernel
theorem dX6_fit_1 : decode cX6_fit 1 = .ok (.getfield 28, 3) := by decide +kernel
theorem dX6_fit_4 : decode cX6_fit 4 = .ok (.astore_n 2, 1) := by decide +kernel
theorem dX6_fit_5 : decode cX6_fit 5 = .ok (.aload_n 2, 1) := by decide +kernel
theorem dX6_fit_6 : decode cX6_fit 6 = .ok (.ifnull 34, 3) := by decide +kernel
theorem dX6_fit_9 : decode cX6_fit 9 = .ok (.aload_n 2, 1) := by decide +kernel
theorem dX6_fit_10 : decode cX6_fit 10 = .ok (.getfield 49, 3) := by decide +kernel
theorem dX6_fit_13 : decode cX6_fit 13 = .ok (.bipush 25, 2) := by decide +kernel
theorem dX6_fit_15 : decode cX6_fit 15 = .ok (.if_icmp .ne 7, 3) := by decide +kernel
theorem dX6_fit_18 : decode cX6_fit 18 = .ok (.iconst 1, 1) := by decide +kernel
theorem dX6_fit_19 : decode cX6_fit 19 = .ok (.goto 4, 3) := by decide +kernel
theorem dX6_fit_22 : decode cX6_fit 22 = .ok (.iconst 0, 1) := by decide +kernel
theorem dX6_fit_23 : decode cX6_fit 23 = .ok (.aload_n 1, 1) := by decide +kernel
theorem dX6_fit_24 : decode cX6_fit 24 = .ok (.getfield 49, 3) := by decide +kernel
theorem dX6_fit_27 : decode cX6_fit 27 = .ok (.bipush 31, 2) := by decide +kernel
theorem dX6_fit_29 : decode cX6_fit 29 = .ok (.if_icmp .ne 7, 3) := by decide +kernel
theorem dX6_fit_32 : decode cX6_fit 32 = .ok (.iconst 1, 1) := by decide +kernel
theorem dX6_fit_33 : decode cX6_fit 33 = .ok (.goto 4, 3) := by decide +kernel
theorem dX6_fit_36 : decode cX6_fit 36 = .ok (.iconst 0, 1) := by decide +kernel
theorem dX6_fit_37 : decode cX6_fit 37 = .ok (.if_icmp .ne 4, 3) := by decide +kernel
theorem dX6_fit_40 : decode cX6_fit 40 = .ok (.return_, 1) := by decide +kernel
theorem dX6_fit_41 : decode cX6_fit 41 = .ok (.aload_n 1, 1) := by decide +kernel
theorem dX6_fit_42 : decode cX6_fit 42 = .ok (.getfield 49, 3) := by decide +kernel
theorem dX6_fit_45 : decode cX6_fit 45 = .ok (.bipush 26, 2) := by decide +kernel
theorem dX6_fit_47 : decode cX6_fit 47 = .ok (.if_icmp .ne 28, 3) := by decide +kernel
theorem dX6_fit_50 : decode cX6_fit 50 = .ok (.aload_n 2, 1) := by decide +kernel
theorem dX6_fit_51 : decode cX6_fit 51 = .ok (.getfield 52, 3) := by decide +kernel
theorem dX6_fit_54 : decode cX6_fit 54 = .ok (.ifCond .ge 64, 3) := by decide +kernel
theorem dX6_fit_57 : decode cX6_fit 57 = .ok (.aload_n 2, 1) := by decide +kernel
theorem dX6_fit_58 : decode cX6_fit 58 = .ok (.getfield 55, 3) := by decide +kernel
theorem dX6_fit_61 : decode cX6_fit 61 = .ok (.ifCond .ge 57, 3) := by decide +kernel
theorem dX6_fit_64 : decode cX6_fit 64 = .ok (.aload_n 2, 1) := by decide +kernel
theorem dX6_fit_65 : decode cX6_fit 65 = .ok (.aload_n 1, 1) := by decide +kernel
theorem dX6_fit_66 : decode cX6_fit 66 = .ok (.getfield 42, 3) := by decide +kernel
theorem dX6_fit_69 : decode cX6_fit 69 = .ok (.putfield 52, 3) := by decide +kernel
theorem dX6_fit_72 : decode cX6_fit 72 = .ok (.goto 46, 3) := by decide +kernel
theorem dX6_fit_75 : decode cX6_fit 75 = .ok (.aload_n 1, 1) := by decide +kernel
theorem dX6_fit_76 : decode cX6_fit 76 = .ok (.getfield 49, 3) := by decide +kernel
theorem dX6_fit_79 : decode cX6_fit 79 = .ok (.bipush 27, 2) := by decide +kernel
theorem dX6_fit_81 : decode cX6_fit 81 = .ok (.if_icmp .ne 21, 3) := by decide +kernel
theorem dX6_fit_84 : decode cX6_fit 84 = .ok (.aload_n 2, 1) := by decide +kernel
theorem dX6_fit_85 : decode cX6_fit 85 = .ok (.getfield 55, 3) := by decide +kernel
theorem dX6_fit_88 : decode cX6_fit 88 = .ok (.ifCond .ge 30, 3) := by decide +kernel
theorem dX6_fit_91 : decode cX6_fit 91 = .ok (.aload_n 2, 1) := by decide +kernel
theorem dX6_fit_92 : decode cX6_fit 92 = .ok (.aload_n 1, 1) := by decide +kernel
theorem dX6_fit_93 : decode cX6_fit 93 = .ok (.getfield 42, 3) := by decide +kernel
theorem dX6_fit_96 : decode cX6_fit 96 = .ok (.putfield 55, 3) := by decide +kernel
theorem dX6_fit_99 : decode cX6_fit 99 = .ok (.goto 19, 3) := by decide +kernel
theorem dX6_fit_102 : decode cX6_fit 102 = .ok (.aload_n 2, 1) := by decide +kernel
theorem dX6_fit_103 : decode cX6_fit 103 = .ok (.aload_n 1, 1) := by decide +kernel
theorem dX6_fit_104 : decode cX6_fit 104 = .ok (.getfield 42, 3) := by decide +kernel
theorem dX6_fit_107 : decode cX6_fit 107 = .ok (.putfield 58, 3) := by decide +kernel
theorem dX6_fit_110 : decode cX6_fit 110 = .ok (.aload_n 0, 1) := by decide +kernel
theorem dX6_fit_111 : decode cX6_fit 111 = .ok (.aload_n 2, 1) := by decide +kernel
theorem dX6_fit_112 : decode cX6_fit 112 = .ok (.getfield 35, 3) := by decide +kernel
theorem dX6_fit_115 : decode cX6_fit 115 = .ok (.putfield 28, 3) := by decide +kernel
theorem dX6_fit_118 : decode cX6_fit 118 = .ok (.return_, 1) := by decide +kernel
theorem dX6_hasRoutine_0 : decode cX6_hasRoutine 0 = .ok (.iload_n 1, 1) := by decide +kernel
theorem dX6_hasRoutine_1 : decode cX6_hasRoutine 1 = .ok (.ifCond .lt 22, 3) := by decide +kernel
theorem dX6_hasRoutine_4 : decode cX6_hasRoutine 4 = .ok (.iload_n 1, 1) := by decide +kernel
theorem dX6_hasRoutine_5 : decode cX6_hasRoutine 5 = .ok (.aload_n 0, 1) := by decide +kernel
theorem dX6_hasRoutine_6 : decode cX6_hasRoutine 6 = .ok (.getfield 25, 3) := by decide +kernel
theorem dX6_hasRoutine_9 : decode cX6_hasRoutine 9 = .ok (.if_icmp .ge 14, 3) := by decide +kernel
theorem dX6_hasRoutine_12 : decode cX6_hasRoutine 12 = .ok (.iload_n 1, 1) := by decide +kernel
theorem dX6_hasRoutine_13 : decode cX6_hasRoutine 13 = .ok (.sipush 2000, 3) := by decide +kernel
theorem dX6_hasRoutine_16 : decode cX6_hasRoutine 16 = .ok (.if_icmp .ge 7, 3) := by decide +kernel
theorem dX6_hasRoutine_19 : decode cX6_hasRoutine 19 = .ok (.iconst 1, 1) := by decide +kernel
theorem dX6_hasRoutine_20 : decode cX6_hasRoutine 20 = .ok (.goto 4, 3) := by decide +kernel
theorem dX6_hasRoutine_23 : decode cX6_hasRoutine 23 = .ok (.iconst 0, 1) := by decide +kernel
theorem dX6_hasRoutine_24 : decode cX6_hasRoutine 24 = .ok (.ireturn, 1) := by decide +kernel
theorem dX6_firstPlaceOf_0 : decode cX6_firstPlaceOf 0 = .ok (.aload_n 0, 1) := by decide +kernel
theorem dX6_firstPlaceOf_1 : decode cX6_firstPlaceOf 1 = .ok (.iload_n 1, 1) := by decide +kernel
theorem dX6_firstPlaceOf_2 : decode cX6_firstPlaceOf 2 = .ok (.invokevirtual 61, 3) := by decide +kernel
theorem dX6_firstPlaceOf_5 : decode cX6_firstPlaceOf 5 = .ok (.ifCond .eq 14, 3) := by decide +kernel
theorem dX6_firstPlaceOf_8 : decode cX6_firstPlaceOf 8 = .ok (.aload_n 0, 1) := by decide +kernel
theorem dX6_firstPlaceOf_9 : decode cX6_firstPlaceOf 9 = .ok (.getfield 17, 3) := by decide +kernel
theorem dX6_firstPlaceOf_12 : decode cX6_firstPlaceOf 12 = .ok (.iload_n 1, 1) := by decide +kernel
theorem dX6_firstPlaceOf_13 : decode cX6_firstPlaceOf 13 = .ok (.iaload, 1) := by decide +kernel
theorem dX6_firstPlaceOf_14 : decode cX6_firstPlaceOf 14 = .ok (.iconst 1, 1) := by decide +kernel
theorem dX6_firstPlaceOf_15 : decode cX6_firstPlaceOf 15 = .ok (.iadd, 1) := by decide +kernel
theorem dX6_firstPlaceOf_16 : decode cX6_firstPlaceOf 16 = .ok (.goto 7, 3) := by decide +kernel
theorem dX6_firstPlaceOf_19 : decode cX6_firstPlaceOf 19 = .ok (.aload_n 0, 1) := by decide +kernel
theorem dX6_firstPlaceOf_20 : decode cX6_firstPlaceOf 20 = .ok (.getfield 21, 3) := by decide +kernel
theorem dX6_firstPlaceOf_23 : decode cX6_firstPlaceOf 23 = .ok (.ireturn, 1) := by decide +kernel
theorem dX6_placeBehind_0 : decode cX6_placeBehind 0 = .ok (.aload_n 0, 1) := by decide +kernel
theorem dX6_placeBehind_1 : decode cX6_placeBehind 1 = .ok (.iload_n 1, 1) := by decide +kernel
theorem dX6_placeBehind_2 : decode cX6_placeBehind 2 = .ok (.iconst 1, 1) := by decide +kernel
theorem dX6_placeBehind_3 : decode cX6_placeBehind 3 = .ok (.iadd, 1) := by decide +kernel
theorem dX6_placeBehind_4 : decode cX6_placeBehind 4 = .ok (.invokevirtual 61, 3) := by decide +kernel
theorem dX6_placeBehind_7 : decode cX6_placeBehind 7 = .ok (.ifCond .eq 14, 3) := by decide +kernel
theorem dX6_placeBehind_10 : decode cX6_placeBehind 10 = .ok (.aload_n 0, 1) := by decide +kernel
theorem dX6_placeBehind_11 : decode cX6_placeBehind 11 = .ok (.getfield 17, 3) := by decide +kernel
theorem dX6_placeBehind_14 : decode cX6_placeBehind 14 = .ok (.iload_n 1, 1) := by decide +kernel
theorem dX6_placeBehind_15 : decode cX6_placeBehind 15 = .ok (.iconst 1, 1) := by decide +kernel
theorem dX6_placeBehind_16 : decode cX6_placeBehind 16 = .ok (.iadd, 1) := by decide +kernel
theorem dX6_placeBehind_17 : decode cX6_placeBehind 17 = .ok (.iaload, 1) := by decide +kernel
theorem dX6_placeBehind_18 : decode cX6_placeBehind 18 = .ok (.goto 7, 3) := by decide +kernel
theorem dX6_placeBehind_21 : decode cX6_placeBehind 21 = .ok (.aload_n 0, 1) := by decide +kernel
theorem dX6_placeBehind_22 : decode cX6_placeBehind 22 = .ok (.getfield 21, 3) := by decide +kernel
theorem dX6_placeBehind_25 : decode cX6_placeBehind 25 = .ok (.ireturn, 1) := by decide +kernel
theorem dX6_stepAt_0 : decode cX6_stepAt 0 = .ok (.iload_n 1, 1) := by decide +kernel
theorem dX6_stepAt_1 : decode cX6_stepAt 1 = .ok (.ifCond .lt 27, 3) := by decide +kernel
theorem dX6_stepAt_4 : decode cX6_stepAt 4 = .ok (.iload_n 1, 1) := by decide +kernel
theorem dX6_stepAt_5 : decode cX6_stepAt 5 = .ok (.aload_n 0, 1) := by decide +kernel
theorem dX6_stepAt_6 : decode cX6_stepAt 6 = .ok (.getfield 21, 3) := by decide +kernel
theorem dX6_stepAt_9 : decode cX6_stepAt 9 = .ok (.if_icmp .ge 19, 3) := by decide +kernel
theorem dX6_stepAt_12 : decode cX6_stepAt 12 = .ok (.iload_n 1, 1) := by decide +kernel
theorem dX6_stepAt_13 : decode cX6_stepAt 13 = .ok (.sipush 2000, 3) := by decide +kernel
theorem dX6_stepAt_16 : decode cX6_stepAt 16 = .ok (.if_icmp .ge 12, 3) := by decide +kernel
theorem dX6_stepAt_19 : decode cX6_stepAt 19 = .ok (.aload_n 0, 1) := by decide +kernel
theorem dX6_stepAt_20 : decode cX6_stepAt 20 = .ok (.getfield 11, 3) := by decide +kernel
theorem dX6_stepAt_23 : decode cX6_stepAt 23 = .ok (.iload_n 1, 1) := by decide +kernel
theorem dX6_stepAt_24 : decode cX6_stepAt 24 = .ok (.aaload, 1) := by decide +kernel
theorem dX6_stepAt_25 : decode cX6_stepAt 25 = .ok (.goto 4, 3) := by decide +kernel
theorem dX6_stepAt_28 : decode cX6_stepAt 28 = .ok (.aconst_null, 1) := by decide +kernel
theorem dX6_stepAt_29 : decode cX6_stepAt 29 = .ok (.areturn, 1) := by decide +kernel
theorem dX7_init_0 : decode cX7_init 0 = .ok (.aload_n 0, 1) := by decide +kernel
theorem dX7_init_1 : decode cX7_init 1 = .ok (.invokespecial 1, 3) := by decide +kernel
theorem dX7_init_4 : decode cX7_init 4 = .ok (.aload_n 0, 1) := by decide +kernel
theorem dX7_init_5 : decode cX7_init 5 = .ok (.iconst (-1), 1) := by decide +kernel
theorem dX7_init_6 : decode cX7_init 6 = .ok (.putfield 7, 3) := by decide +kernel
theorem dX7_init_9 : decode cX7_init 9 = .ok (.aload_n 0, 1) := by decide +kernel
theorem dX7_init_10 : decode cX7_init 10 = .ok (.iconst (-1), 1) := by decide +kernel
theorem dX7_init_11 : decode cX7_init 11 = .ok (.putfield 13, 3) := by decide +kernel
theorem dX7_init_14 : decode cX7_init 14 = .ok (.aload_n 0, 1) := by decide +kernel
theorem dX7_init_15 : decode cX7_init 15 = .ok (.iconst (-1), 1) := by decide +kernel
theorem dX7_init_16 : decode cX7_init 16 = .ok (.putfield 16, 3) := by decide +kernel
theorem dX7_init_19 : decode cX7_init 19 = .ok (.aload_n 0, 1) := by decide +kernel
theorem dX7_init_20 : decode cX7_init 20 = .ok (.iload_n 1, 1) := by decide +kernel
theorem dX7_init_21 : decode cX7_init 21 = .ok (.putfield 19, 3) := by decide +kernel
theorem dX7_init_24 : decode cX7_init 24 = .ok (.aload_n 0, 1) := by decide +kernel
theorem dX7_init_25 : decode cX7_init 25 = .ok (.iload_n 2, 1) := by decide +kernel
theorem dX7_init_26 : decode cX7_init 26 = .ok (.putfield 22, 3) := by decide +kernel
theorem dX7_init_29 : decode cX7_init 29 = .ok (.aload_n 0, 1) := by decide +kernel
theorem dX7_init_30 : decode cX7_init 30 = .ok (.iload_n 3, 1) := by decide +kernel
theorem dX7_init_31 : decode cX7_init 31 = .ok (.putfield 25, 3) := by decide +kernel
theorem dX7_init_34 : decode cX7_init 34 = .ok (.aload_n 0, 1) := by decide +kernel
theorem dX7_init_35 : decode cX7_init 35 = .ok (.iload 4, 2) := by decide +kernel
theorem dX7_init_37 : decode cX7_init 37 = .ok (.putfield 28, 3) := by decide +kernel
theorem dX7_init_40 : decode cX7_init 40 = .ok (.aload_n 0, 1) := by decide +kernel
theorem dX7_init_41 : decode cX7_init 41 = .ok (.iload 5, 2) := by decide +kernel
theorem dX7_init_43 : decode cX7_init 43 = .ok (.putfield 31, 3) := by decide +kernel
theorem dX7_init_46 : decode cX7_init 46 = .ok (.return_, 1) := by decide +kernel
theorem dX8_init_0 : decode cX8_init 0 = .ok (.aload_n 0, 1) := by decide +kernel
theorem dX8_init_1 : decode cX8_init 1 = .ok (.invokespecial 3, 3) := by decide +kernel
theorem dX8_init_4 : decode cX8_init 4 = .ok (.aload_n 0, 1) := by decide +kernel
theorem dX8_init_5 : decode cX8_init 5 = .ok (.iload_n 1, 1) := by decide +kernel
theorem dX8_init_6 : decode cX8_init 6 = .ok (.putfield 9, 3) := by decide +kernel
theorem dX8_init_9 : decode cX8_init 9 = .ok (.aload_n 0, 1) := by decide +kernel
theorem dX8_init_10 : decode cX8_init 10 = .ok (.lload_n 2, 1) := by decide +kernel
theorem dX8_init_11 : decode cX8_init 11 = .ok (.putfield 15, 3) := by decide +kernel
theorem dX8_init_14 : decode cX8_init 14 = .ok (.return_, 1) := by decide +kernel
theorem dX8_rings_0 : decode cX8_rings 0 = .ok (.aload_n 0, 1) := by decide +kernel
theorem dX8_rings_1 : decode cX8_rings 1 = .ok (.getfield 9, 3) := by decide +kernel
theorem dX8_rings_4 : decode cX8_rings 4 = .ok (.iconst 1, 1) := by decide +kernel
theorem dX8_rings_5 : decode cX8_rings 5 = .ok (.if_icmp .eq 11, 3) := by decide +kernel
theorem dX8_rings_8 : decode cX8_rings 8 = .ok (.aload_n 0, 1) := by decide +kernel
theorem dX8_rings_9 : decode cX8_rings 9 = .ok (.getfield 9, 3) := by decide +kernel
theorem dX8_rings_12 : decode cX8_rings 12 = .ok (.iconst 2, 1) := by decide +kernel
theorem dX8_rings_13 : decode cX8_rings 13 = .ok (.if_icmp .ne 7, 3) := by decide +kernel
theorem dX8_rings_16 : decode cX8_rings 16 = .ok (.iconst 1, 1) := by decide +kernel
theorem dX8_rings_17 : decode cX8_rings 17 = .ok (.goto 4, 3) := by decide +kernel
theorem dX8_rings_20 : decode cX8_rings 20 = .ok (.iconst 0, 1) := by decide +kernel
theorem dX8_rings_21 : decode cX8_rings 21 = .ok (.ireturn, 1) := by decide +kernel
theorem dX8_isCastAs_0 : decode cX8_isCastAs 0 = .ok (.iload_n 1, 1) := by decide +kernel
theorem dX8_isCastAs_1 : decode cX8_isCastAs 1 = .ok (.lookupswitch 54 #[(0, 27), (2, 40)], 27) := by decide +kernel
theorem dX8_isCastAs_28 : decode cX8_isCastAs 28 = .ok (.aload_n 0, 1) := by decide +kernel
theorem dX8_isCastAs_29 : decode cX8_isCastAs 29 = .ok (.getfield 9, 3) := by decide +kernel
theorem dX8_isCastAs_32 : decode cX8_isCastAs 32 = .ok (.ifCond .ne 7, 3) := by decide +kernel
theorem dX8_isCastAs_35 : decode cX8_isCastAs 35 = .ok (.iconst 1, 1) := by decide +kernel
theorem dX8_isCastAs_36 : decode cX8_isCastAs 36 = .ok (.goto 4, 3) := by decide +kernel
theorem dX8_isCastAs_39 : decode cX8_isCastAs 39 = .ok (.iconst 0, 1) := by decide +kernel
theorem dX8_isCastAs_40 : decode cX8_isCastAs 40 = .ok (.ireturn, 1) := by decide +kernel
theorem dX8_isCastAs_41 : decode cX8_isCastAs 41 = .ok (.aload_n 0, 1) := by decide +kernel
theorem dX8_isCastAs_42 : decode cX8_isCastAs 42 = .ok (.getfield 9, 3) := by decide +kernel
theorem dX8_isCastAs_45 : decode cX8_isCastAs 45 = .ok (.iconst 2, 1) := by decide +kernel
theorem dX8_isCastAs_46 : decode cX8_isCastAs 46 = .ok (.if_icmp .ne 7, 3) := by decide +kernel
theorem dX8_isCastAs_49 : decode cX8_isCastAs 49 = .ok (.iconst 1, 1) := by decide +kernel
theorem dX8_isCastAs_50 : decode cX8_isCastAs 50 = .ok (.goto 4, 3) := by decide +kernel
theorem dX8_isCastAs_53 : decode cX8_isCastAs 53 = .ok (.iconst 0, 1) := by decide +kernel
theorem dX8_isCastAs_54 : decode cX8_isCastAs 54 = .ok (.ireturn, 1) := by decide +kernel
theorem dX8_isCastAs_55 : decode cX8_isCastAs 55 = .ok (.aload_n 0, 1) := by decide +kernel
theorem dX8_isCastAs_56 : decode cX8_isCastAs 56 = .ok (.invokevirtual 19, 3) := by decide +kernel
theorem dX8_isCastAs_59 : decode cX8_isCastAs 59 = .ok (.ireturn, 1) := by decide +kernel
theorem dX8_use_0 : decode cX8_use 0 = .ok (.aload_n 0, 1) := by decide +kernel
theorem dX8_use_1 : decode cX8_use 1 = .ok (.getfield 9, 3) := by decide +kernel
theorem dX8_use_4 : decode cX8_use 4 = .ok (.lookupswitch 42 #[(0, 28), (1, 35)], 28) := by decide +kernel
theorem dX8_use_32 : decode cX8_use 32 = .ok (.aload_n 0, 1) := by decide +kernel
theorem dX8_use_33 : decode cX8_use 33 = .ok (.getfield 15, 3) := by decide +kernel
theorem dX8_use_36 : decode cX8_use 36 = .ok (.lload_n 1, 1) := by decide +kernel
theorem dX8_use_37 : decode cX8_use 37 = .ok (.ladd, 1) := by decide +kernel
theorem dX8_use_38 : decode cX8_use 38 = .ok (.lreturn, 1) := by decide +kernel
theorem dX8_use_39 : decode cX8_use 39 = .ok (.aload_n 0, 1) := by decide +kernel
theorem dX8_use_40 : decode cX8_use 40 = .ok (.getfield 15, 3) := by decide +kernel
theorem dX8_use_43 : decode cX8_use 43 = .ok (.lload_n 1, 1) := by decide +kernel
theorem dX8_use_44 : decode cX8_use 44 = .ok (.lsub, 1) := by decide +kernel
theorem dX8_use_45 : decode cX8_use 45 = .ok (.lreturn, 1) := by decide +kernel
theorem dX8_use_46 : decode cX8_use 46 = .ok (.ldc2_w 23, 3) := by decide +kernel
theorem dX8_use_49 : decode cX8_use 49 = .ok (.aload_n 0, 1) := by decide +kernel
theorem dX8_use_50 : decode cX8_use 50 = .ok (.getfield 15, 3) := by decide +kernel
theorem dX8_use_53 : decode cX8_use 53 = .ok (.lload_n 1, 1) := by decide +kernel
theorem dX8_use_54 : decode cX8_use 54 = .ok (.lsub, 1) := by decide +kernel
theorem dX8_use_55 : decode cX8_use 55 = .ok (.lmul, 1) := by decide +kernel
theorem dX8_use_56 : decode cX8_use 56 = .ok (.lreturn, 1) := by decide +kernel
theorem dX8_ring_0 : decode cX8_ring 0 = .ok (.aload_n 0, 1) := by decide +kernel
theorem dX8_ring_1 : decode cX8_ring 1 = .ok (.getfield 15, 3) := by decide +kernel
theorem dX8_ring_4 : decode cX8_ring 4 = .ok (.lload_n 1, 1) := by decide +kernel
theorem dX8_ring_5 : decode cX8_ring 5 = .ok (.lxor, 1) := by decide +kernel
theorem dX8_ring_6 : decode cX8_ring 6 = .ok (.lstore_n 3, 1) := by decide +kernel
theorem dX8_ring_7 : decode cX8_ring 7 = .ok (.aload_n 0, 1) := by decide +kernel
theorem dX8_ring_8 : decode cX8_ring 8 = .ok (.getfield 9, 3) := by decide +kernel
theorem dX8_ring_11 : decode cX8_ring 11 = .ok (.iconst 2, 1) := by decide +kernel
theorem dX8_ring_12 : decode cX8_ring 12 = .ok (.if_icmp .ne 9, 3) := by decide +kernel
theorem dX8_ring_15 : decode cX8_ring 15 = .ok (.lload_n 3, 1) := by decide +kernel
theorem dX8_ring_16 : decode cX8_ring 16 = .ok (.lconst 1, 1) := by decide +kernel
theorem dX8_ring_17 : decode cX8_ring 17 = .ok (.ladd, 1) := by decide +kernel
theorem dX8_ring_18 : decode cX8_ring 18 = .ok (.goto 4, 3) := by decide +kernel
theorem dX8_ring_21 : decode cX8_ring 21 = .ok (.lload_n 3, 1) := by decide +kernel
theorem dX8_ring_22 : decode cX8_ring 22 = .ok (.lreturn, 1) := by decide +kernel
theorem dX9_init_0 : decode cX9_init 0 = .ok (.aload_n 0, 1) := by decide +kernel
theorem dX9_init_1 : decode cX9_init 1 = .ok (.invokespecial 3, 3) := by decide +kernel
theorem dX9_init_4 : decode cX9_init 4 = .ok (.aload_n 0, 1) := by decide +kernel
theorem dX9_init_5 : decode cX9_init 5 = .ok (.new 9, 3) := by decide +kernel
theorem dX9_init_8 : decode cX9_init 8 = .ok (.dup, 1) := by decide +kernel
theorem dX9_init_9 : decode cX9_init 9 = .ok (.iconst (-1), 1) := by decide +kernel
theorem dX9_init_10 : decode cX9_init 10 = .ok (.bipush 35, 2) := by decide +kernel
theorem dX9_init_12 : decode cX9_init 12 = .ok (.iconst 0, 1) := by decide +kernel
theorem dX9_init_13 : decode cX9_init 13 = .ok (.iconst 0, 1) := by decide +kernel
theorem dX9_init_14 : decode cX9_init 14 = .ok (.iconst 1, 1) := by decide +kernel
theorem dX9_init_15 : decode cX9_init 15 = .ok (.invokespecial 11, 3) := by decide +kernel
theorem dX9_init_18 : decode cX9_init 18 = .ok (.putfield 14, 3) := by decide +kernel
theorem dX9_init_21 : decode cX9_init 21 = .ok (.aload_n 0, 1) := by decide +kernel
theorem dX9_init_22 : decode cX9_init 22 = .ok (.aload_n 1, 1) := by decide +kernel
theorem dX9_init_23 : decode cX9_init 23 = .ok (.putfield 20, 3) := by decide +kernel
theorem dX9_init_26 : decode cX9_init 26 = .ok (.aload_n 0, 1) := by decide +kernel
theorem dX9_init_27 : decode cX9_init 27 = .ok (.aload_n 2, 1) := by decide +kernel
theorem dX9_init_28 : decode cX9_init 28 = .ok (.putfield 24, 3) := by decide +kernel
theorem dX9_init_31 : decode cX9_init 31 = .ok (.aload_n 0, 1) := by decide +kernel
theorem dX9_init_32 : decode cX9_init 32 = .ok (.aload_n 3, 1) := by decide +kernel
theorem dX9_init_33 : decode cX9_init 33 = .ok (.putfield 28, 3) := by decide +kernel
theorem dX9_init_36 : decode cX9_init 36 = .ok (.return_, 1) := by decide +kernel
theorem dX9_workRun_0 : decode cX9_workRun 0 = .ok (.aload_n 0, 1) := by decide +kernel
theorem dX9_workRun_1 : decode cX9_workRun 1 = .ok (.getfield 28, 3) := by decide +kernel
theorem dX9_workRun_4 : decode cX9_workRun 4 = .ok (.invokevirtual 32, 3) := by decide +kernel
theorem dX9_workRun_7 : decode cX9_workRun 7 = .ok (.aload_n 0, 1) := by decide +kernel
theorem dX9_workRun_8 : decode cX9_workRun 8 = .ok (.iload_n 2, 1) := by decide +kernel
theorem dX9_workRun_9 : decode cX9_workRun 9 = .ok (.putfield 37, 3) := by decide +kernel
theorem dX9_workRun_12 : decode cX9_workRun 12 = .ok (.aload_n 0, 1) := by decide +kernel
theorem dX9_workRun_13 : decode cX9_workRun 13 = .ok (.iconst 0, 1) := by decide +kernel
theorem dX9_workRun_14 : decode cX9_workRun 14 = .ok (.putfield 41, 3) := by decide +kernel
theorem dX9_workRun_17 : decode cX9_workRun 17 = .ok (.aload_n 0, 1) := by decide +kernel
theorem dX9_workRun_18 : decode cX9_workRun 18 = .ok (.aconst_null, 1) := by decide +kernel
theorem dX9_workRun_19 : decode cX9_workRun 19 = .ok (.putfield 44, 3) := by decide +kernel
theorem dX9_workRun_22 : decode cX9_workRun 22 = .ok (.aload_n 0, 1) := by decide +kernel
theorem dX9_workRun_23 : decode cX9_workRun 23 = .ok (.iload_n 1, 1) := by decide +kernel
theorem dX9_workRun_24 : decode cX9_workRun 24 = .ok (.aload_n 0, 1) := by decide +kernel
theorem dX9_workRun_25 : decode cX9_workRun 25 = .ok (.getfield 14, 3) := by decide +kernel
theorem dX9_workRun_28 : decode cX9_workRun 28 = .ok (.invokevirtual 48, 3) := by decide +kernel
theorem dX9_workRun_31 : decode cX9_workRun 31 = .ok (.iconst 0, 1) := by decide +kernel
theorem dX9_workRun_32 : decode cX9_workRun 32 = .ok (.istore_n 3, 1) := by decide +kernel
theorem dX9_workRun_33 : decode cX9_workRun 33 = .ok (.iload_n 3, 1) := by decide +kernel
theorem dX9_workRun_34 : decode cX9_workRun 34 = .ok (.ldc 52, 2) := by decide +kernel
theorem dX9_workRun_36 : decode cX9_workRun 36 = .ok (.if_icmp .ge 95, 3) := by decide +kernel
theorem dX9_workRun_39 : decode cX9_workRun 39 = .ok (.aload_n 0, 1) := by decide +kernel
theorem dX9_workRun_40 : decode cX9_workRun 40 = .ok (.getfield 44, 3) := by decide +kernel
theorem dX9_workRun_43 : decode cX9_workRun 43 = .ok (.ifnull 88, 3) := by decide +kernel
theorem dX9_workRun_46 : decode cX9_workRun 46 = .ok (.aload_n 0, 1) := by decide +kernel
theorem dX9_workRun_47 : decode cX9_workRun 47 = .ok (.getfield 44, 3) := by decide +kernel
theorem dX9_workRun_50 : decode cX9_workRun 50 = .ok (.astore 4, 2) := by decide +kernel
theorem dX9_workRun_52 : decode cX9_workRun 52 = .ok (.aload_n 0, 1) := by decide +kernel
theorem dX9_workRun_53 : decode cX9_workRun 53 = .ok (.getfield 53, 3) := by decide +kernel
theorem dX9_workRun_56 : decode cX9_workRun 56 = .ok (.aload 4, 2) := by decide +kernel
theorem dX9_workRun_58 : decode cX9_workRun 58 = .ok (.getfield 56, 3) := by decide +kernel
theorem dX9_workRun_61 : decode cX9_workRun 61 = .ok (.if_icmp .ge 17, 3) := by decide +kernel
theorem dX9_workRun_64 : decode cX9_workRun 64 = .ok (.aload_n 0, 1) := by decide +kernel
theorem dX9_workRun_65 : decode cX9_workRun 65 = .ok (.getfield 20, 3) := by decide +kernel
theorem dX9_workRun_68 : decode cX9_workRun 68 = .ok (.aload_n 0, 1) := by decide +kernel
theorem dX9_workRun_69 : decode cX9_workRun 69 = .ok (.getfield 53, 3) := by decide +kernel
theorem dX9_workRun_72 : decode cX9_workRun 72 = .ok (.invokevirtual 61, 3) := by decide +kernel
theorem dX9_workRun_75 : decode cX9_workRun 75 = .ok (.goto 4, 3) := by decide +kernel
theorem dX9_workRun_78 : decode cX9_workRun 78 = .ok (.aconst_null, 1) := by decide +kernel
theorem dX9_workRun_79 : decode cX9_workRun 79 = .ok (.astore 5, 2) := by decide +kernel
theorem dX9_workRun_81 : decode cX9_workRun 81 = .ok (.aload_n 0, 1) := by decide +kernel
theorem dX9_workRun_82 : decode cX9_workRun 82 = .ok (.getfield 67, 3) := by decide +kernel
theorem dX9_workRun_85 : decode cX9_workRun 85 = .ok (.ifCond .eq 12, 3) := by decide +kernel
theorem dX9_workRun_88 : decode cX9_workRun 88 = .ok (.aload_n 0, 1) := by decide +kernel
theorem dX9_workRun_89 : decode cX9_workRun 89 = .ok (.aload 4, 2) := by decide +kernel
theorem dX9_workRun_91 : decode cX9_workRun 91 = .ok (.invokevirtual 70, 3) := by decide +kernel
theorem dX9_workRun_94 : decode cX9_workRun 94 = .ok (.goto 31, 3) := by decide +kernel
theorem dX9_workRun_97 : decode cX9_workRun 97 = .ok (.aload 5, 2) := by decide +kernel
theorem dX9_workRun_99 : decode cX9_workRun 99 = .ok (.ifnonnull 11, 3) := by decide +kernel
theorem dX9_workRun_102 : decode cX9_workRun 102 = .ok (.aload_n 0, 1) := by decide +kernel
theorem dX9_workRun_103 : decode cX9_workRun 103 = .ok (.iconst 1, 1) := by decide +kernel
theorem dX9_workRun_104 : decode cX9_workRun 104 = .ok (.putfield 67, 3) := by decide +kernel
theorem dX9_workRun_107 : decode cX9_workRun 107 = .ok (.goto 18, 3) := by decide +kernel
theorem dX9_workRun_110 : decode cX9_workRun 110 = .ok (.aload_n 0, 1) := by decide +kernel
theorem dX9_workRun_111 : decode cX9_workRun 111 = .ok (.invokevirtual 74, 3) := by decide +kernel
theorem dX9_workRun_114 : decode cX9_workRun 114 = .ok (.ifCond .eq 11, 3) := by decide +kernel
theorem dX9_workRun_117 : decode cX9_workRun 117 = .ok (.aload_n 0, 1) := by decide +kernel
theorem dX9_workRun_118 : decode cX9_workRun 118 = .ok (.aload 4, 2) := by decide +kernel
theorem dX9_workRun_120 : decode cX9_workRun 120 = .ok (.aload 5, 2) := by decide +kernel
theorem dX9_workRun_122 : decode cX9_workRun 122 = .ok (.invokevirtual 78, 3) := by decide +kernel
theorem dX9_workRun_125 : decode cX9_workRun 125 = .ok (.iinc 3 1, 3) := by decide +kernel
theorem dX9_workRun_128 : decode cX9_workRun 128 = .ok (.goto (-95), 3) := by decide +kernel
theorem dX9_workRun_131 : decode cX9_workRun 131 = .ok (.iload_n 2, 1) := by decide +kernel
theorem dX9_workRun_132 : decode cX9_workRun 132 = .ok (.aload_n 0, 1) := by decide +kernel
theorem dX9_workRun_133 : decode cX9_workRun 133 = .ok (.getfield 37, 3) := by decide +kernel
theorem dX9_workRun_136 : decode cX9_workRun 136 = .ok (.isub, 1) := by decide +kernel
theorem dX9_workRun_137 : decode cX9_workRun 137 = .ok (.ireturn, 1) := by decide +kernel
theorem dX9_takeStep_0 : decode cX9_takeStep 0 = .ok (.aload_n 0, 1) := by decide +kernel
theorem dX9_takeStep_1 : decode cX9_takeStep 1 = .ok (.getfield 37, 3) := by decide +kernel
theorem dX9_takeStep_4 : decode cX9_takeStep 4 = .ok (.ifCond .gt 10, 3) := by decide +kernel
theorem dX9_takeStep_7 : decode cX9_takeStep 7 = .ok (.aload_n 0, 1) := by decide +kernel
theorem dX9_takeStep_8 : decode cX9_takeStep 8 = .ok (.iconst 3, 1) := by decide +kernel
theorem dX9_takeStep_9 : decode cX9_takeStep 9 = .ok (.invokevirtual 82, 3) := by decide +kernel
theorem dX9_takeStep_12 : decode cX9_takeStep 12 = .ok (.iconst 0, 1) := by decide +kernel
theorem dX9_takeStep_13 : decode cX9_takeStep 13 = .ok (.ireturn, 1) := by decide +kernel
theorem dX9_takeStep_14 : decode cX9_takeStep 14 = .ok (.aload_n 0, 1) := by decide +kernel
theorem dX9_takeStep_15 : decode cX9_takeStep 15 = .ok (.dup, 1) := by decide +kernel
theorem dX9_takeStep_16 : decode cX9_takeStep 16 = .ok (.getfield 37, 3) := by decide +kernel
theorem dX9_takeStep_19 : decode cX9_takeStep 19 = .ok (.iconst 1, 1) := by decide +kernel
theorem dX9_takeStep_20 : decode cX9_takeStep 20 = .ok (.isub, 1) := by decide +kernel
theorem dX9_takeStep_21 : decode cX9_takeStep 21 = .ok (.putfield 37, 3) := by decide +kernel
theorem dX9_takeStep_24 : decode cX9_takeStep 24 = .ok (.iconst 1, 1) := by decide +kernel
theorem dX9_takeStep_25 : decode cX9_takeStep 25 = .ok (.ireturn, 1) := by decide +kernel
theorem dX9_stop_0 : decode cX9_stop 0 = .ok (.aload_n 0, 1) := by decide +kernel
theorem dX9_stop_1 : decode cX9_stop 1 = .ok (.getfield 28, 3) := by decide +kernel
theorem dX9_stop_4 : decode cX9_stop 4 = .ok (.iload_n 1, 1) := by decide +kernel
theorem dX9_stop_5 : decode cX9_stop 5 = .ok (.putfield 86, 3) := by decide +kernel
theorem dX9_stop_8 : decode cX9_stop 8 = .ok (.aload_n 0, 1) := by decide +kernel
theorem dX9_stop_9 : decode cX9_stop 9 = .ok (.aconst_null, 1) := by decide +kernel
theorem dX9_stop_10 : decode cX9_stop 10 = .ok (.putfield 44, 3) := by decide +kernel
theorem dX9_stop_13 : decode cX9_stop 13 = .ok (.return_, 1) := by decide +kernel
theorem dX9_workStep_0 : decode cX9_workStep 0 = .ok (.aload_n 2, 1) := by decide +kernel
theorem dX9_workStep_1 : decode cX9_workStep 1 = .ok (.getfield 89, 3) := by decide +kernel
theorem dX9_workStep_4 : decode cX9_workStep 4 = .ok (.tableswitch 301 0 35 #[160, 301, 301, 301, 301, 301, 301, 301, 301, 301, 301, 301, 301, 301, 301, 301, 301, 301, 301, 301, 301, 301, 191, 205, 215, 232, 288, 288, 288, 232, 232, 288, 241, 249, 257, 280], 160) := by decide +kernel
theorem dX9_workStep_164 : decode cX9_workStep 164 = .ok (.aload_n 0, 1) := by decide +kernel
theorem dX9_workStep_165 : decode cX9_workStep 165 = .ok (.getfield 28, 3) := by decide +kernel
theorem dX9_workStep_168 : decode cX9_workStep 168 = .ok (.aload_n 0, 1) := by decide +kernel
theorem dX9_workStep_169 : decode cX9_workStep 169 = .ok (.getfield 24, 3) := by decide +kernel
theorem dX9_workStep_172 : decode cX9_workStep 172 = .ok (.aload_n 2, 1) := by decide +kernel
theorem dX9_workStep_173 : decode cX9_workStep 173 = .ok (.getfield 92, 3) := by decide +kernel
theorem dX9_workStep_176 : decode cX9_workStep 176 = .ok (.invokevirtual 95, 3) := by decide +kernel
theorem dX9_workStep_179 : decode cX9_workStep 179 = .ok (.invokevirtual 101, 3) := by decide +kernel
theorem dX9_workStep_182 : decode cX9_workStep 182 = .ok (.aload_n 0, 1) := by decide +kernel
theorem dX9_workStep_183 : decode cX9_workStep 183 = .ok (.dup, 1) := by decide +kernel
theorem dX9_workStep_184 : decode cX9_workStep 184 = .ok (.getfield 53, 3) := by decide +kernel
theorem dX9_workStep_187 : decode cX9_workStep 187 = .ok (.iconst 1, 1) := by decide +kernel
theorem dX9_workStep_188 : decode cX9_workStep 188 = .ok (.iadd, 1) := by decide +kernel
theorem dX9_workStep_189 : decode cX9_workStep 189 = .ok (.putfield 53, 3) := by decide +kernel
theorem dX9_workStep_192 : decode cX9_workStep 192 = .ok (.goto 125, 3) := by decide +kernel
theorem dX9_workStep_195 : decode cX9_workStep 195 = .ok (.aload_n 0, 1) := by decide +kernel
theorem dX9_workStep_196 : decode cX9_workStep 196 = .ok (.aload_n 2, 1) := by decide +kernel
theorem dX9_workStep_197 : decode cX9_workStep 197 = .ok (.getfield 92, 3) := by decide +kernel
theorem dX9_workStep_200 : decode cX9_workStep 200 = .ok (.iconst 3, 1) := by decide +kernel
theorem dX9_workStep_201 : decode cX9_workStep 201 = .ok (.iand, 1) := by decide +kernel
theorem dX9_workStep_202 : decode cX9_workStep 202 = .ok (.aconst_null, 1) := by decide +kernel
theorem dX9_workStep_203 : decode cX9_workStep 203 = .ok (.invokevirtual 105, 3) := by decide +kernel
theorem dX9_workStep_206 : decode cX9_workStep 206 = .ok (.goto 111, 3) := by decide +kernel
theorem dX9_workStep_209 : decode cX9_workStep 209 = .ok (.aload_n 0, 1) := by decide +kernel
theorem dX9_workStep_210 : decode cX9_workStep 210 = .ok (.bipush 6, 2) := by decide +kernel
theorem dX9_workStep_212 : decode cX9_workStep 212 = .ok (.aconst_null, 1) := by decide +kernel
theorem dX9_workStep_213 : decode cX9_workStep 213 = .ok (.invokevirtual 105, 3) := by decide +kernel
theorem dX9_workStep_216 : decode cX9_workStep 216 = .ok (.goto 101, 3) := by decide +kernel
theorem dX9_workStep_219 : decode cX9_workStep 219 = .ok (.aload_n 0, 1) := by decide +kernel
theorem dX9_workStep_220 : decode cX9_workStep 220 = .ok (.aload_n 2, 1) := by decide +kernel
theorem dX9_workStep_221 : decode cX9_workStep 221 = .ok (.getfield 92, 3) := by decide +kernel
theorem dX9_workStep_224 : decode cX9_workStep 224 = .ok (.iconst 3, 1) := by decide +kernel
theorem dX9_workStep_225 : decode cX9_workStep 225 = .ok (.iand, 1) := by decide +kernel
theorem dX9_workStep_226 : decode cX9_workStep 226 = .ok (.aload_n 0, 1) := by decide +kernel
theorem dX9_workStep_227 : decode cX9_workStep 227 = .ok (.invokevirtual 109, 3) := by decide +kernel
theorem dX9_workStep_230 : decode cX9_workStep 230 = .ok (.invokevirtual 105, 3) := by decide +kernel
theorem dX9_workStep_233 : decode cX9_workStep 233 = .ok (.goto 84, 3) := by decide +kernel
theorem dX9_workStep_236 : decode cX9_workStep 236 = .ok (.aload_n 0, 1) := by decide +kernel
theorem dX9_workStep_237 : decode cX9_workStep 237 = .ok (.aload_n 1, 1) := by decide +kernel
theorem dX9_workStep_238 : decode cX9_workStep 238 = .ok (.aload_n 2, 1) := by decide +kernel
theorem dX9_workStep_239 : decode cX9_workStep 239 = .ok (.invokevirtual 113, 3) := by decide +kernel
theorem dX9_workStep_242 : decode cX9_workStep 242 = .ok (.goto 75, 3) := by decide +kernel
theorem dX9_workStep_245 : decode cX9_workStep 245 = .ok (.aload_n 0, 1) := by decide +kernel
theorem dX9_workStep_246 : decode cX9_workStep 246 = .ok (.iconst 3, 1) := by decide +kernel
theorem dX9_workStep_247 : decode cX9_workStep 247 = .ok (.putfield 67, 3) := by decide +kernel
theorem dX9_workStep_250 : decode cX9_workStep 250 = .ok (.goto 67, 3) := by decide +kernel
theorem dX9_workStep_253 : decode cX9_workStep 253 = .ok (.aload_n 0, 1) := by decide +kernel
theorem dX9_workStep_254 : decode cX9_workStep 254 = .ok (.iconst 4, 1) := by decide +kernel
theorem dX9_workStep_255 : decode cX9_workStep 255 = .ok (.putfield 67, 3) := by decide +kernel
theorem dX9_workStep_258 : decode cX9_workStep 258 = .ok (.goto 59, 3) := by decide +kernel
theorem dX9_workStep_261 : decode cX9_workStep 261 = .ok (.aload_n 0, 1) := by decide +kernel
theorem dX9_workStep_262 : decode cX9_workStep 262 = .ok (.iconst 5, 1) := by decide +kernel
theorem dX9_workStep_263 : decode cX9_workStep 263 = .ok (.putfield 67, 3) := by decide +kernel
theorem dX9_workStep_266 : decode cX9_workStep 266 = .ok (.aload_n 0, 1) := by decide +kernel
theorem dX9_workStep_267 : decode cX9_workStep 267 = .ok (.aload_n 0, 1) := by decide +kernel
theorem dX9_workStep_268 : decode cX9_workStep 268 = .ok (.getfield 24, 3) := by decide +kernel
theorem dX9_workStep_271 : decode cX9_workStep 271 = .ok (.aload_n 2, 1) := by decide +kernel
theorem dX9_workStep_272 : decode cX9_workStep 272 = .ok (.getfield 92, 3) := by decide +kernel
theorem dX9_workStep_275 : decode cX9_workStep 275 = .ok (.invokevirtual 95, 3) := by decide +kernel
theorem dX9_workStep_278 : decode cX9_workStep 278 = .ok (.putfield 116, 3) := by decide +kernel
theorem dX9_workStep_281 : decode cX9_workStep 281 = .ok (.goto 36, 3) := by decide +kernel
theorem dX9_workStep_284 : decode cX9_workStep 284 = .ok (.aload_n 0, 1) := by decide +kernel
theorem dX9_workStep_285 : decode cX9_workStep 285 = .ok (.aload_n 2, 1) := by decide +kernel
theorem dX9_workStep_286 : decode cX9_workStep 286 = .ok (.invokevirtual 120, 3) := by decide +kernel
theorem dX9_workStep_289 : decode cX9_workStep 289 = .ok (.goto 28, 3) := by decide +kernel
theorem dX9_workStep_292 : decode cX9_workStep 292 = .ok (.aload_n 0, 1) := by decide +kernel
theorem dX9_workStep_293 : decode cX9_workStep 293 = .ok (.dup, 1) := by decide +kernel
theorem dX9_workStep_294 : decode cX9_workStep 294 = .ok (.getfield 53, 3) := by decide +kernel
theorem dX9_workStep_297 : decode cX9_workStep 297 = .ok (.iconst 1, 1) := by decide +kernel
theorem dX9_workStep_298 : decode cX9_workStep 298 = .ok (.iadd, 1) := by decide +kernel
theorem dX9_workStep_299 : decode cX9_workStep 299 = .ok (.putfield 53, 3) := by decide +kernel
theorem dX9_workStep_302 : decode cX9_workStep 302 = .ok (.goto 15, 3) := by decide +kernel
theorem dX9_workStep_305 : decode cX9_workStep 305 = .ok (.aload_n 0, 1) := by decide +kernel
theorem dX9_workStep_306 : decode cX9_workStep 306 = .ok (.aload_n 0, 1) := by decide +kernel
theorem dX9_workStep_307 : decode cX9_workStep 307 = .ok (.getfield 24, 3) := by decide +kernel
theorem dX9_workStep_310 : decode cX9_workStep 310 = .ok (.aload_n 2, 1) := by decide +kernel
theorem dX9_workStep_311 : decode cX9_workStep 311 = .ok (.invokevirtual 124, 3) := by decide +kernel
theorem dX9_workStep_314 : decode cX9_workStep 314 = .ok (.invokevirtual 127, 3) := by decide +kernel
theorem dX9_workStep_317 : decode cX9_workStep 317 = .ok (.return_, 1) := by decide +kernel
theorem dX9_goBehind_0 : decode cX9_goBehind 0 = .ok (.iload_n 1, 1) := by decide +kernel
theorem dX9_goBehind_1 : decode cX9_goBehind 1 = .ok (.iconst (-1), 1) := by decide +kernel
theorem dX9_goBehind_2 : decode cX9_goBehind 2 = .ok (.if_icmp .ne 16, 3) := by decide +kernel
theorem dX9_goBehind_5 : decode cX9_goBehind 5 = .ok (.aload_n 0, 1) := by decide +kernel
theorem dX9_goBehind_6 : decode cX9_goBehind 6 = .ok (.dup, 1) := by decide +kernel
theorem dX9_goBehind_7 : decode cX9_goBehind 7 = .ok (.getfield 53, 3) := by decide +kernel
theorem dX9_goBehind_10 : decode cX9_goBehind 10 = .ok (.iconst 1, 1) := by decide +kernel
theorem dX9_goBehind_11 : decode cX9_goBehind 11 = .ok (.iadd, 1) := by decide +kernel
theorem dX9_goBehind_12 : decode cX9_goBehind 12 = .ok (.putfield 53, 3) := by decide +kernel
theorem dX9_goBehind_15 : decode cX9_goBehind 15 = .ok (.goto 9, 3) := by decide +kernel
theorem dX9_goBehind_18 : decode cX9_goBehind 18 = .ok (.aload_n 0, 1) := by decide +kernel
theorem dX9_goBehind_19 : decode cX9_goBehind 19 = .ok (.iload_n 1, 1) := by decide +kernel
theorem dX9_goBehind_20 : decode cX9_goBehind 20 = .ok (.aconst_null, 1) := by decide +kernel
theorem dX9_goBehind_21 : decode cX9_goBehind 21 = .ok (.invokevirtual 105, 3) := by decide +kernel
theorem dX9_goBehind_24 : decode cX9_goBehind 24 = .ok (.return_, 1) := by decide +kernel
theorem dX9_fail_0 : decode cX9_fail 0 = .ok (.aload_n 0, 1) := by decide +kernel
theorem dX9_fail_1 : decode cX9_fail 1 = .ok (.new 130, 3) := by decide +kernel
theorem dX9_fail_4 : decode cX9_fail 4 = .ok (.dup, 1) := by decide +kernel
theorem dX9_fail_5 : decode cX9_fail 5 = .ok (.iload_n 1, 1) := by decide +kernel
theorem dX9_fail_6 : decode cX9_fail 6 = .ok (.aload_n 2, 1) := by decide +kernel
theorem dX9_fail_7 : decode cX9_fail 7 = .ok (.invokespecial 132, 3) := by decide +kernel
theorem dX9_fail_10 : decode cX9_fail 10 = .ok (.putfield 134, 3) := by decide +kernel
theorem dX9_fail_13 : decode cX9_fail 13 = .ok (.aload_n 0, 1) := by decide +kernel
theorem dX9_fail_14 : decode cX9_fail 14 = .ok (.iconst 2, 1) := by decide +kernel
theorem dX9_fail_15 : decode cX9_fail 15 = .ok (.putfield 67, 3) := by decide +kernel
theorem dX9_fail_18 : decode cX9_fail 18 = .ok (.return_, 1) := by decide +kernel
theorem dX9_failureAtWork_0 : decode cX9_failureAtWork 0 = .ok (.aload_n 0, 1) := by decide +kernel
theorem dX9_failureAtWork_1 : decode cX9_failureAtWork 1 = .ok (.getfield 44, 3) := by decide +kernel
theorem dX9_failureAtWork_4 : decode cX9_failureAtWork 4 = .ok (.astore_n 1, 1) := by decide +kernel
theorem dX9_failureAtWork_5 : decode cX9_failureAtWork 5 = .ok (.aload_n 1, 1) := by decide +kernel
theorem dX9_failureAtWork_6 : decode cX9_failureAtWork 6 = .ok (.ifnull 24, 3) := by decide +kernel
theorem dX9_failureAtWork_9 : decode cX9_failureAtWork 9 = .ok (.aload_n 1, 1) := by decide +kernel
theorem dX9_failureAtWork_10 : decode cX9_failureAtWork 10 = .ok (.getfield 138, 3) := by decide +kernel
theorem dX9_failureAtWork_13 : decode cX9_failureAtWork 13 = .ok (.iconst 1, 1) := by decide +kernel
theorem dX9_failureAtWork_14 : decode cX9_failureAtWork 14 = .ok (.if_icmp .ne 8, 3) := by decide +kernel
theorem dX9_failureAtWork_17 : decode cX9_failureAtWork 17 = .ok (.aload_n 1, 1) := by decide +kernel
theorem dX9_failureAtWork_18 : decode cX9_failureAtWork 18 = .ok (.getfield 141, 3) := by decide +kernel
theorem dX9_failureAtWork_21 : decode cX9_failureAtWork 21 = .ok (.areturn, 1) := by decide +kernel
theorem dX9_failureAtWork_22 : decode cX9_failureAtWork 22 = .ok (.aload_n 1, 1) := by decide +kernel
theorem dX9_failureAtWork_23 : decode cX9_failureAtWork 23 = .ok (.getfield 144, 3) := by decide +kernel
theorem dX9_failureAtWork_26 : decode cX9_failureAtWork 26 = .ok (.astore_n 1, 1) := by decide +kernel
theorem dX9_failureAtWork_27 : decode cX9_failureAtWork 27 = .ok (.goto (-22), 3) := by decide +kernel
theorem dX9_failureAtWork_30 : decode cX9_failureAtWork 30 = .ok (.aconst_null, 1) := by decide +kernel
theorem dX9_failureAtWork_31 : decode cX9_failureAtWork 31 = .ok (.areturn, 1) := by decide +kernel
theorem dX9_callRoutine_0 : decode cX9_callRoutine 0 = .ok (.aload_n 0, 1) := by decide +kernel
theorem dX9_callRoutine_1 : decode cX9_callRoutine 1 = .ok (.getfield 20, 3) := by decide +kernel
theorem dX9_callRoutine_4 : decode cX9_callRoutine 4 = .ok (.aload_n 1, 1) := by decide +kernel
theorem dX9_callRoutine_5 : decode cX9_callRoutine 5 = .ok (.getfield 92, 3) := by decide +kernel
theorem dX9_callRoutine_8 : decode cX9_callRoutine 8 = .ok (.invokevirtual 147, 3) := by decide +kernel
theorem dX9_callRoutine_11 : decode cX9_callRoutine 11 = .ok (.ifCond .eq 15, 3) := by decide +kernel
theorem dX9_callRoutine_14 : decode cX9_callRoutine 14 = .ok (.aload_n 0, 1) := by decide +kernel
theorem dX9_callRoutine_15 : decode cX9_callRoutine 15 = .ok (.aload_n 1, 1) := by decide +kernel
theorem dX9_callRoutine_16 : decode cX9_callRoutine 16 = .ok (.getfield 92, 3) := by decide +kernel
theorem dX9_callRoutine_19 : decode cX9_callRoutine 19 = .ok (.aload_n 1, 1) := by decide +kernel
theorem dX9_callRoutine_20 : decode cX9_callRoutine 20 = .ok (.invokevirtual 48, 3) := by decide +kernel
theorem dX9_callRoutine_23 : decode cX9_callRoutine 23 = .ok (.goto 10, 3) := by decide +kernel
theorem dX9_callRoutine_26 : decode cX9_callRoutine 26 = .ok (.aload_n 0, 1) := by decide +kernel
theorem dX9_callRoutine_27 : decode cX9_callRoutine 27 = .ok (.bipush 6, 2) := by decide +kernel
theorem dX9_callRoutine_29 : decode cX9_callRoutine 29 = .ok (.aconst_null, 1) := by decide +kernel
theorem dX9_callRoutine_30 : decode cX9_callRoutine 30 = .ok (.invokevirtual 105, 3) := by decide +kernel
theorem dX9_callRoutine_33 : decode cX9_callRoutine 33 = .ok (.return_, 1) := by decide +kernel
theorem dX9_enterRoutine_0 : decode cX9_enterRoutine 0 = .ok (.aload_n 0, 1) := by decide +kernel
theorem dX9_enterRoutine_1 : decode cX9_enterRoutine 1 = .ok (.new 57, 3) := by decide +kernel
theorem dX9_enterRoutine_4 : decode cX9_enterRoutine 4 = .ok (.dup, 1) := by decide +kernel
theorem dX9_enterRoutine_5 : decode cX9_enterRoutine 5 = .ok (.aload_n 2, 1) := by decide +kernel
theorem dX9_enterRoutine_6 : decode cX9_enterRoutine 6 = .ok (.aload_n 0, 1) := by decide +kernel
theorem dX9_enterRoutine_7 : decode cX9_enterRoutine 7 = .ok (.getfield 44, 3) := by decide +kernel
theorem dX9_enterRoutine_10 : decode cX9_enterRoutine 10 = .ok (.aload_n 0, 1) := by decide +kernel
theorem dX9_enterRoutine_11 : decode cX9_enterRoutine 11 = .ok (.getfield 20, 3) := by decide +kernel
theorem dX9_enterRoutine_14 : decode cX9_enterRoutine 14 = .ok (.iload_n 1, 1) := by decide +kernel
theorem dX9_enterRoutine_15 : decode cX9_enterRoutine 15 = .ok (.invokevirtual 151, 3) := by decide +kernel
theorem dX9_enterRoutine_18 : decode cX9_enterRoutine 18 = .ok (.invokespecial 155, 3) := by decide +kernel
theorem dX9_enterRoutine_21 : decode cX9_enterRoutine 21 = .ok (.aload_n 0, 1) := by decide +kernel
theorem dX9_enterRoutine_22 : decode cX9_enterRoutine 22 = .ok (.getfield 20, 3) := by decide +kernel
theorem dX9_enterRoutine_25 : decode cX9_enterRoutine 25 = .ok (.iload_n 1, 1) := by decide +kernel
theorem dX9_enterRoutine_26 : decode cX9_enterRoutine 26 = .ok (.invokevirtual 158, 3) := by decide +kernel
theorem dX9_enterRoutine_29 : decode cX9_enterRoutine 29 = .ok (.invokevirtual 161, 3) := by decide +kernel
theorem dX9_enterRoutine_32 : decode cX9_enterRoutine 32 = .ok (.pop, 1) := by decide +kernel
theorem dX9_enterRoutine_33 : decode cX9_enterRoutine 33 = .ok (.return_, 1) := by decide +kernel
theorem dX9_beginBlock_0 : decode cX9_beginBlock 0 = .ok (.new 57, 3) := by decide +kernel
theorem dX9_beginBlock_3 : decode cX9_beginBlock 3 = .ok (.dup, 1) := by decide +kernel
theorem dX9_beginBlock_4 : decode cX9_beginBlock 4 = .ok (.aload_n 2, 1) := by decide +kernel
theorem dX9_beginBlock_5 : decode cX9_beginBlock 5 = .ok (.aload_n 1, 1) := by decide +kernel
theorem dX9_beginBlock_6 : decode cX9_beginBlock 6 = .ok (.aload_n 1, 1) := by decide +kernel
theorem dX9_beginBlock_7 : decode cX9_beginBlock 7 = .ok (.getfield 165, 3) := by decide +kernel
theorem dX9_beginBlock_10 : decode cX9_beginBlock 10 = .ok (.invokespecial 155, 3) := by decide +kernel
theorem dX9_beginBlock_13 : decode cX9_beginBlock 13 = .ok (.astore_n 3, 1) := by decide +kernel
theorem dX9_beginBlock_14 : decode cX9_beginBlock 14 = .ok (.aload_n 3, 1) := by decide +kernel
theorem dX9_beginBlock_15 : decode cX9_beginBlock 15 = .ok (.aload_n 3, 1) := by decide +kernel
theorem dX9_beginBlock_16 : decode cX9_beginBlock 16 = .ok (.invokevirtual 168, 3) := by decide +kernel
theorem dX9_beginBlock_19 : decode cX9_beginBlock 19 = .ok (.putfield 56, 3) := by decide +kernel
theorem dX9_beginBlock_22 : decode cX9_beginBlock 22 = .ok (.aload_n 0, 1) := by decide +kernel
theorem dX9_beginBlock_23 : decode cX9_beginBlock 23 = .ok (.aload_n 3, 1) := by decide +kernel
theorem dX9_beginBlock_24 : decode cX9_beginBlock 24 = .ok (.aload_n 2, 1) := by decide +kernel
theorem dX9_beginBlock_25 : decode cX9_beginBlock 25 = .ok (.getfield 172, 3) := by decide +kernel
theorem dX9_beginBlock_28 : decode cX9_beginBlock 28 = .ok (.iconst 1, 1) := by decide +kernel
theorem dX9_beginBlock_29 : decode cX9_beginBlock 29 = .ok (.iadd, 1) := by decide +kernel
theorem dX9_beginBlock_30 : decode cX9_beginBlock 30 = .ok (.invokevirtual 161, 3) := by decide +kernel
theorem dX9_beginBlock_33 : decode cX9_beginBlock 33 = .ok (.ifCond .ne 4, 3) := by decide +kernel
theorem dX9_beginBlock_36 : decode cX9_beginBlock 36 = .ok (.return_, 1) := by decide +kernel
theorem dX9_beginBlock_37 : decode cX9_beginBlock 37 = .ok (.aload_n 2, 1) := by decide +kernel
theorem dX9_beginBlock_38 : decode cX9_beginBlock 38 = .ok (.getfield 89, 3) := by decide +kernel
theorem dX9_beginBlock_41 : decode cX9_beginBlock 41 = .ok (.bipush 29, 2) := by decide +kernel
theorem dX9_beginBlock_43 : decode cX9_beginBlock 43 = .ok (.if_icmp .ne 11, 3) := by decide +kernel
theorem dX9_beginBlock_46 : decode cX9_beginBlock 46 = .ok (.aload_n 0, 1) := by decide +kernel
theorem dX9_beginBlock_47 : decode cX9_beginBlock 47 = .ok (.aload_n 3, 1) := by decide +kernel
theorem dX9_beginBlock_48 : decode cX9_beginBlock 48 = .ok (.invokevirtual 173, 3) := by decide +kernel
theorem dX9_beginBlock_51 : decode cX9_beginBlock 51 = .ok (.goto 43, 3) := by decide +kernel
theorem dX9_beginBlock_54 : decode cX9_beginBlock 54 = .ok (.aload_n 2, 1) := by decide +kernel
theorem dX9_beginBlock_55 : decode cX9_beginBlock 55 = .ok (.getfield 89, 3) := by decide +kernel
theorem dX9_beginBlock_58 : decode cX9_beginBlock 58 = .ok (.bipush 30, 2) := by decide +kernel
theorem dX9_beginBlock_60 : decode cX9_beginBlock 60 = .ok (.if_icmp .ne 34, 3) := by decide +kernel
theorem dX9_beginBlock_63 : decode cX9_beginBlock 63 = .ok (.aload_n 0, 1) := by decide +kernel
theorem dX9_beginBlock_64 : decode cX9_beginBlock 64 = .ok (.getfield 24, 3) := by decide +kernel
theorem dX9_beginBlock_67 : decode cX9_beginBlock 67 = .ok (.aload_n 2, 1) := by decide +kernel
theorem dX9_beginBlock_68 : decode cX9_beginBlock 68 = .ok (.getfield 92, 3) := by decide +kernel
theorem dX9_beginBlock_71 : decode cX9_beginBlock 71 = .ok (.invokevirtual 95, 3) := by decide +kernel
theorem dX9_beginBlock_74 : decode cX9_beginBlock 74 = .ok (.aload_n 0, 1) := by decide +kernel
theorem dX9_beginBlock_75 : decode cX9_beginBlock 75 = .ok (.getfield 24, 3) := by decide +kernel
theorem dX9_beginBlock_78 : decode cX9_beginBlock 78 = .ok (.aload_n 2, 1) := by decide +kernel
theorem dX9_beginBlock_79 : decode cX9_beginBlock 79 = .ok (.getfield 176, 3) := by decide +kernel
theorem dX9_beginBlock_82 : decode cX9_beginBlock 82 = .ok (.invokevirtual 95, 3) := by decide +kernel
theorem dX9_beginBlock_85 : decode cX9_beginBlock 85 = .ok (.lcmp, 1) := by decide +kernel
theorem dX9_beginBlock_86 : decode cX9_beginBlock 86 = .ok (.ifCond .lt 8, 3) := by decide +kernel
theorem dX9_beginBlock_89 : decode cX9_beginBlock 89 = .ok (.aload_n 0, 1) := by decide +kernel
theorem dX9_beginBlock_90 : decode cX9_beginBlock 90 = .ok (.iconst 1, 1) := by decide +kernel
theorem dX9_beginBlock_91 : decode cX9_beginBlock 91 = .ok (.putfield 67, 3) := by decide +kernel
theorem dX9_beginBlock_94 : decode cX9_beginBlock 94 = .ok (.return_, 1) := by decide +kernel
theorem dX9_enter_0 : decode cX9_enter 0 = .ok (.aload_n 0, 1) := by decide +kernel
theorem dX9_enter_1 : decode cX9_enter 1 = .ok (.getfield 41, 3) := by decide +kernel
theorem dX9_enter_4 : decode cX9_enter 4 = .ok (.sipush 200, 3) := by decide +kernel
theorem dX9_enter_7 : decode cX9_enter 7 = .ok (.if_icmp .lt 10, 3) := by decide +kernel
theorem dX9_enter_10 : decode cX9_enter 10 = .ok (.aload_n 0, 1) := by decide +kernel
theorem dX9_enter_11 : decode cX9_enter 11 = .ok (.iconst 4, 1) := by decide +kernel
theorem dX9_enter_12 : decode cX9_enter 12 = .ok (.invokevirtual 82, 3) := by decide +kernel
theorem dX9_enter_15 : decode cX9_enter 15 = .ok (.iconst 0, 1) := by decide +kernel
theorem dX9_enter_16 : decode cX9_enter 16 = .ok (.ireturn, 1) := by decide +kernel
theorem dX9_enter_17 : decode cX9_enter 17 = .ok (.aload_n 0, 1) := by decide +kernel
theorem dX9_enter_18 : decode cX9_enter 18 = .ok (.dup, 1) := by decide +kernel
theorem dX9_enter_19 : decode cX9_enter 19 = .ok (.getfield 41, 3) := by decide +kernel
theorem dX9_enter_22 : decode cX9_enter 22 = .ok (.iconst 1, 1) := by decide +kernel
theorem dX9_enter_23 : decode cX9_enter 23 = .ok (.iadd, 1) := by decide +kernel
theorem dX9_enter_24 : decode cX9_enter 24 = .ok (.putfield 41, 3) := by decide +kernel
theorem dX9_enter_27 : decode cX9_enter 27 = .ok (.aload_n 0, 1) := by decide +kernel
theorem dX9_enter_28 : decode cX9_enter 28 = .ok (.getfield 28, 3) := by decide +kernel
theorem dX9_enter_31 : decode cX9_enter 31 = .ok (.aload_n 0, 1) := by decide +kernel
theorem dX9_enter_32 : decode cX9_enter 32 = .ok (.getfield 28, 3) := by decide +kernel
theorem dX9_enter_35 : decode cX9_enter 35 = .ok (.getfield 179, 3) := by decide +kernel
theorem dX9_enter_38 : decode cX9_enter 38 = .ok (.aload_n 0, 1) := by decide +kernel
theorem dX9_enter_39 : decode cX9_enter 39 = .ok (.getfield 41, 3) := by decide +kernel
theorem dX9_enter_42 : decode cX9_enter 42 = .ok (.invokestatic 182, 3) := by decide +kernel
theorem dX9_enter_45 : decode cX9_enter 45 = .ok (.putfield 179, 3) := by decide +kernel
theorem dX9_enter_48 : decode cX9_enter 48 = .ok (.aload_n 0, 1) := by decide +kernel
theorem dX9_enter_49 : decode cX9_enter 49 = .ok (.aload_n 1, 1) := by decide +kernel
theorem dX9_enter_50 : decode cX9_enter 50 = .ok (.putfield 44, 3) := by decide +kernel
theorem dX9_enter_53 : decode cX9_enter 53 = .ok (.aload_n 0, 1) := by decide +kernel
theorem dX9_enter_54 : decode cX9_enter 54 = .ok (.iload_n 2, 1) := by decide +kernel
theorem dX9_enter_55 : decode cX9_enter 55 = .ok (.putfield 53, 3) := by decide +kernel
theorem dX9_enter_58 : decode cX9_enter 58 = .ok (.aload_n 0, 1) := by decide +kernel
theorem dX9_enter_59 : decode cX9_enter 59 = .ok (.iconst 0, 1) := by decide +kernel
theorem dX9_enter_60 : decode cX9_enter 60 = .ok (.putfield 67, 3) := by decide +kernel
theorem dX9_enter_63 : decode cX9_enter 63 = .ok (.iconst 1, 1) := by decide +kernel
theorem dX9_enter_64 : decode cX9_enter 64 = .ok (.ireturn, 1) := by decide +kernel
theorem dX9_look_0 : decode cX9_look 0 = .ok (.aload_n 1, 1) := by decide +kernel
theorem dX9_look_1 : decode cX9_look 1 = .ok (.getfield 188, 3) := by decide +kernel
theorem dX9_look_4 : decode cX9_look 4 = .ok (.astore_n 2, 1) := by decide +kernel
theorem dX9_look_5 : decode cX9_look 5 = .ok (.aload_n 0, 1) := by decide +kernel
theorem dX9_look_6 : decode cX9_look 6 = .ok (.getfield 24, 3) := by decide +kernel
theorem dX9_look_9 : decode cX9_look 9 = .ok (.aload_n 2, 1) := by decide +kernel
theorem dX9_look_10 : decode cX9_look 10 = .ok (.getfield 92, 3) := by decide +kernel
theorem dX9_look_13 : decode cX9_look 13 = .ok (.invokevirtual 95, 3) := by decide +kernel
theorem dX9_look_16 : decode cX9_look 16 = .ok (.lstore_n 3, 1) := by decide +kernel
theorem dX9_look_17 : decode cX9_look 17 = .ok (.lload_n 3, 1) := by decide +kernel
theorem dX9_look_18 : decode cX9_look 18 = .ok (.lconst 0, 1) := by decide +kernel
theorem dX9_look_19 : decode cX9_look 19 = .ok (.lcmp, 1) := by decide +kernel
theorem dX9_look_20 : decode cX9_look 20 = .ok (.ifCond .le 35, 3) := by decide +kernel
theorem dX9_look_23 : decode cX9_look 23 = .ok (.aload_n 0, 1) := by decide +kernel
theorem dX9_look_24 : decode cX9_look 24 = .ok (.getfield 24, 3) := by decide +kernel
theorem dX9_look_27 : decode cX9_look 27 = .ok (.aload_n 2, 1) := by decide +kernel
theorem dX9_look_28 : decode cX9_look 28 = .ok (.getfield 92, 3) := by decide +kernel
theorem dX9_look_31 : decode cX9_look 31 = .ok (.lload_n 3, 1) := by decide +kernel
theorem dX9_look_32 : decode cX9_look 32 = .ok (.lconst 1, 1) := by decide +kernel
theorem dX9_look_33 : decode cX9_look 33 = .ok (.lsub, 1) := by decide +kernel
theorem dX9_look_34 : decode cX9_look 34 = .ok (.invokevirtual 191, 3) := by decide +kernel
theorem dX9_look_37 : decode cX9_look 37 = .ok (.aload_n 0, 1) := by decide +kernel
theorem dX9_look_38 : decode cX9_look 38 = .ok (.aload_n 2, 1) := by decide +kernel
theorem dX9_look_39 : decode cX9_look 39 = .ok (.getfield 172, 3) := by decide +kernel
theorem dX9_look_42 : decode cX9_look 42 = .ok (.iconst 1, 1) := by decide +kernel
theorem dX9_look_43 : decode cX9_look 43 = .ok (.iadd, 1) := by decide +kernel
theorem dX9_look_44 : decode cX9_look 44 = .ok (.putfield 53, 3) := by decide +kernel
theorem dX9_look_47 : decode cX9_look 47 = .ok (.aload_n 0, 1) := by decide +kernel
theorem dX9_look_48 : decode cX9_look 48 = .ok (.iconst 0, 1) := by decide +kernel
theorem dX9_look_49 : decode cX9_look 49 = .ok (.putfield 67, 3) := by decide +kernel
theorem dX9_look_52 : decode cX9_look 52 = .ok (.goto 13, 3) := by decide +kernel
theorem dX9_look_55 : decode cX9_look 55 = .ok (.aload_n 0, 1) := by decide +kernel
theorem dX9_look_56 : decode cX9_look 56 = .ok (.iconst 1, 1) := by decide +kernel
theorem dX9_look_57 : decode cX9_look 57 = .ok (.putfield 67, 3) := by decide +kernel
theorem dX9_look_60 : decode cX9_look 60 = .ok (.aload_n 0, 1) := by decide +kernel
theorem dX9_look_61 : decode cX9_look 61 = .ok (.aload_n 1, 1) := by decide +kernel
theorem dX9_look_62 : decode cX9_look 62 = .ok (.invokevirtual 195, 3) := by decide +kernel
theorem dX9_look_65 : decode cX9_look 65 = .ok (.return_, 1) := by decide +kernel
theorem dX9_settle_0 : decode cX9_settle 0 = .ok (.aload_n 1, 1) := by decide +kernel
theorem dX9_settle_1 : decode cX9_settle 1 = .ok (.getfield 188, 3) := by decide +kernel
theorem dX9_settle_4 : decode cX9_settle 4 = .ok (.getfield 89, 3) := by decide +kernel
theorem dX9_settle_7 : decode cX9_settle 7 = .ok (.lookupswitch 57 #[(25, 33), (29, 41), (30, 49)], 33) := by decide +kernel
theorem dX9_settle_40 : decode cX9_settle 40 = .ok (.aload_n 0, 1) := by decide +kernel
theorem dX9_settle_41 : decode cX9_settle 41 = .ok (.aload_n 1, 1) := by decide +kernel
theorem dX9_settle_42 : decode cX9_settle 42 = .ok (.invokevirtual 198, 3) := by decide +kernel
theorem dX9_settle_45 : decode cX9_settle 45 = .ok (.goto 24, 3) := by decide +kernel
theorem dX9_settle_48 : decode cX9_settle 48 = .ok (.aload_n 0, 1) := by decide +kernel
theorem dX9_settle_49 : decode cX9_settle 49 = .ok (.aload_n 1, 1) := by decide +kernel
theorem dX9_settle_50 : decode cX9_settle 50 = .ok (.invokevirtual 201, 3) := by decide +kernel
theorem dX9_settle_53 : decode cX9_settle 53 = .ok (.goto 16, 3) := by decide +kernel
theorem dX9_settle_56 : decode cX9_settle 56 = .ok (.aload_n 0, 1) := by decide +kernel
theorem dX9_settle_57 : decode cX9_settle 57 = .ok (.aload_n 1, 1) := by decide +kernel
theorem dX9_settle_58 : decode cX9_settle 58 = .ok (.invokevirtual 195, 3) := by decide +kernel
theorem dX9_settle_61 : decode cX9_settle 61 = .ok (.goto 8, 3) := by decide +kernel
theorem dX9_settle_64 : decode cX9_settle 64 = .ok (.aload_n 0, 1) := by decide +kernel
theorem dX9_settle_65 : decode cX9_settle 65 = .ok (.aload_n 1, 1) := by decide +kernel
theorem dX9_settle_66 : decode cX9_settle 66 = .ok (.invokevirtual 204, 3) := by decide +kernel
theorem dX9_settle_69 : decode cX9_settle 69 = .ok (.return_, 1) := by decide +kernel
theorem dX9_leaveBlock_0 : decode cX9_leaveBlock 0 = .ok (.aload_n 0, 1) := by decide +kernel
theorem dX9_leaveBlock_1 : decode cX9_leaveBlock 1 = .ok (.aload_n 1, 1) := by decide +kernel
theorem dX9_leaveBlock_2 : decode cX9_leaveBlock 2 = .ok (.getfield 144, 3) := by decide +kernel
theorem dX9_leaveBlock_5 : decode cX9_leaveBlock 5 = .ok (.putfield 44, 3) := by decide +kernel
theorem dX9_leaveBlock_8 : decode cX9_leaveBlock 8 = .ok (.aload_n 0, 1) := by decide +kernel
theorem dX9_leaveBlock_9 : decode cX9_leaveBlock 9 = .ok (.dup, 1) := by decide +kernel
theorem dX9_leaveBlock_10 : decode cX9_leaveBlock 10 = .ok (.getfield 41, 3) := by decide +kernel
theorem dX9_leaveBlock_13 : decode cX9_leaveBlock 13 = .ok (.iconst 1, 1) := by decide +kernel
theorem dX9_leaveBlock_14 : decode cX9_leaveBlock 14 = .ok (.isub, 1) := by decide +kernel
theorem dX9_leaveBlock_15 : decode cX9_leaveBlock 15 = .ok (.putfield 41, 3) := by decide +kernel
theorem dX9_leaveBlock_18 : decode cX9_leaveBlock 18 = .ok (.aload_n 0, 1) := by decide +kernel
theorem dX9_leaveBlock_19 : decode cX9_leaveBlock 19 = .ok (.getfield 67, 3) := by decide +kernel
theorem dX9_leaveBlock_22 : decode cX9_leaveBlock 22 = .ok (.iconst 1, 1) := by decide +kernel
theorem dX9_leaveBlock_23 : decode cX9_leaveBlock 23 = .ok (.if_icmp .ne 16, 3) := by decide +kernel
theorem dX9_leaveBlock_26 : decode cX9_leaveBlock 26 = .ok (.aload_n 0, 1) := by decide +kernel
theorem dX9_leaveBlock_27 : decode cX9_leaveBlock 27 = .ok (.aload_n 1, 1) := by decide +kernel
theorem dX9_leaveBlock_28 : decode cX9_leaveBlock 28 = .ok (.invokevirtual 207, 3) := by decide +kernel
theorem dX9_leaveBlock_31 : decode cX9_leaveBlock 31 = .ok (.putfield 53, 3) := by decide +kernel
theorem dX9_leaveBlock_34 : decode cX9_leaveBlock 34 = .ok (.aload_n 0, 1) := by decide +kernel
theorem dX9_leaveBlock_35 : decode cX9_leaveBlock 35 = .ok (.iconst 0, 1) := by decide +kernel
theorem dX9_leaveBlock_36 : decode cX9_leaveBlock 36 = .ok (.putfield 67, 3) := by decide +kernel
theorem dX9_leaveBlock_39 : decode cX9_leaveBlock 39 = .ok (.return_, 1) := by decide +kernel
theorem dX9_settleLoop_0 : decode cX9_settleLoop 0 = .ok (.aload_n 0, 1) := by decide +kernel
theorem dX9_settleLoop_1 : decode cX9_settleLoop 1 = .ok (.getfield 67, 3) := by decide +kernel
theorem dX9_settleLoop_4 : decode cX9_settleLoop 4 = .ok (.iconst 1, 1) := by decide +kernel
theorem dX9_settleLoop_5 : decode cX9_settleLoop 5 = .ok (.if_icmp .eq 11, 3) := by decide +kernel
theorem dX9_settleLoop_8 : decode cX9_settleLoop 8 = .ok (.aload_n 0, 1) := by decide +kernel
theorem dX9_settleLoop_9 : decode cX9_settleLoop 9 = .ok (.getfield 67, 3) := by decide +kernel
theorem dX9_settleLoop_12 : decode cX9_settleLoop 12 = .ok (.iconst 4, 1) := by decide +kernel
theorem dX9_settleLoop_13 : decode cX9_settleLoop 13 = .ok (.if_icmp .ne 16, 3) := by decide +kernel
theorem dX9_settleLoop_16 : decode cX9_settleLoop 16 = .ok (.aload_n 0, 1) := by decide +kernel
theorem dX9_settleLoop_17 : decode cX9_settleLoop 17 = .ok (.invokevirtual 74, 3) := by decide +kernel
theorem dX9_settleLoop_20 : decode cX9_settleLoop 20 = .ok (.ifCond .eq 8, 3) := by decide +kernel
theorem dX9_settleLoop_23 : decode cX9_settleLoop 23 = .ok (.aload_n 0, 1) := by decide +kernel
theorem dX9_settleLoop_24 : decode cX9_settleLoop 24 = .ok (.aload_n 1, 1) := by decide +kernel
theorem dX9_settleLoop_25 : decode cX9_settleLoop 25 = .ok (.invokevirtual 173, 3) := by decide +kernel
theorem dX9_settleLoop_28 : decode cX9_settleLoop 28 = .ok (.return_, 1) := by decide +kernel
theorem dX9_settleLoop_29 : decode cX9_settleLoop 29 = .ok (.aload_n 0, 1) := by decide +kernel
theorem dX9_settleLoop_30 : decode cX9_settleLoop 30 = .ok (.getfield 67, 3) := by decide +kernel
theorem dX9_settleLoop_33 : decode cX9_settleLoop 33 = .ok (.iconst 3, 1) := by decide +kernel
theorem dX9_settleLoop_34 : decode cX9_settleLoop 34 = .ok (.if_icmp .ne 8, 3) := by decide +kernel
theorem dX9_settleLoop_37 : decode cX9_settleLoop 37 = .ok (.aload_n 0, 1) := by decide +kernel
theorem dX9_settleLoop_38 : decode cX9_settleLoop 38 = .ok (.iconst 1, 1) := by decide +kernel
theorem dX9_settleLoop_39 : decode cX9_settleLoop 39 = .ok (.putfield 67, 3) := by decide +kernel
theorem dX9_settleLoop_42 : decode cX9_settleLoop 42 = .ok (.aload_n 0, 1) := by decide +kernel
theorem dX9_settleLoop_43 : decode cX9_settleLoop 43 = .ok (.aload_n 1, 1) := by decide +kernel
theorem dX9_settleLoop_44 : decode cX9_settleLoop 44 = .ok (.invokevirtual 195, 3) := by decide +kernel
theorem dX9_settleLoop_47 : decode cX9_settleLoop 47 = .ok (.return_, 1) := by decide +kernel
theorem dX9_settleTrial_0 : decode cX9_settleTrial 0 = .ok (.aload_n 1, 1) := by decide +kernel
theorem dX9_settleTrial_1 : decode cX9_settleTrial 1 = .ok (.getfield 138, 3) := by decide +kernel
theorem dX9_settleTrial_4 : decode cX9_settleTrial 4 = .ok (.iconst 2, 1) := by decide +kernel
theorem dX9_settleTrial_5 : decode cX9_settleTrial 5 = .ok (.if_icmp .ne 43, 3) := by decide +kernel
theorem dX9_settleTrial_8 : decode cX9_settleTrial 8 = .ok (.aload_n 0, 1) := by decide +kernel
theorem dX9_settleTrial_9 : decode cX9_settleTrial 9 = .ok (.getfield 67, 3) := by decide +kernel
theorem dX9_settleTrial_12 : decode cX9_settleTrial 12 = .ok (.iconst 2, 1) := by decide +kernel
theorem dX9_settleTrial_13 : decode cX9_settleTrial 13 = .ok (.if_icmp .eq 27, 3) := by decide +kernel
theorem dX9_settleTrial_16 : decode cX9_settleTrial 16 = .ok (.aload_n 0, 1) := by decide +kernel
theorem dX9_settleTrial_17 : decode cX9_settleTrial 17 = .ok (.aload_n 1, 1) := by decide +kernel
theorem dX9_settleTrial_18 : decode cX9_settleTrial 18 = .ok (.getfield 209, 3) := by decide +kernel
theorem dX9_settleTrial_21 : decode cX9_settleTrial 21 = .ok (.putfield 67, 3) := by decide +kernel
theorem dX9_settleTrial_24 : decode cX9_settleTrial 24 = .ok (.aload_n 0, 1) := by decide +kernel
theorem dX9_settleTrial_25 : decode cX9_settleTrial 25 = .ok (.aload_n 1, 1) := by decide +kernel
theorem dX9_settleTrial_26 : decode cX9_settleTrial 26 = .ok (.getfield 212, 3) := by decide +kernel
theorem dX9_settleTrial_29 : decode cX9_settleTrial 29 = .ok (.putfield 116, 3) := by decide +kernel
theorem dX9_settleTrial_32 : decode cX9_settleTrial 32 = .ok (.aload_n 0, 1) := by decide +kernel
theorem dX9_settleTrial_33 : decode cX9_settleTrial 33 = .ok (.aload_n 1, 1) := by decide +kernel
theorem dX9_settleTrial_34 : decode cX9_settleTrial 34 = .ok (.getfield 215, 3) := by decide +kernel
theorem dX9_settleTrial_37 : decode cX9_settleTrial 37 = .ok (.putfield 134, 3) := by decide +kernel
theorem dX9_settleTrial_40 : decode cX9_settleTrial 40 = .ok (.aload_n 0, 1) := by decide +kernel
theorem dX9_settleTrial_41 : decode cX9_settleTrial 41 = .ok (.aload_n 1, 1) := by decide +kernel
theorem dX9_settleTrial_42 : decode cX9_settleTrial 42 = .ok (.invokevirtual 195, 3) := by decide +kernel
theorem dX9_settleTrial_45 : decode cX9_settleTrial 45 = .ok (.goto 63, 3) := by decide +kernel
theorem dX9_settleTrial_48 : decode cX9_settleTrial 48 = .ok (.aload_n 1, 1) := by decide +kernel
theorem dX9_settleTrial_49 : decode cX9_settleTrial 49 = .ok (.getfield 138, 3) := by decide +kernel
theorem dX9_settleTrial_52 : decode cX9_settleTrial 52 = .ok (.ifCond .ne 33, 3) := by decide +kernel
theorem dX9_settleTrial_55 : decode cX9_settleTrial 55 = .ok (.aload_n 0, 1) := by decide +kernel
theorem dX9_settleTrial_56 : decode cX9_settleTrial 56 = .ok (.getfield 67, 3) := by decide +kernel
theorem dX9_settleTrial_59 : decode cX9_settleTrial 59 = .ok (.iconst 2, 1) := by decide +kernel
theorem dX9_settleTrial_60 : decode cX9_settleTrial 60 = .ok (.if_icmp .ne 25, 3) := by decide +kernel
theorem dX9_settleTrial_63 : decode cX9_settleTrial 63 = .ok (.aload_n 1, 1) := by decide +kernel
theorem dX9_settleTrial_64 : decode cX9_settleTrial 64 = .ok (.getfield 188, 3) := by decide +kernel
theorem dX9_settleTrial_67 : decode cX9_settleTrial 67 = .ok (.aload_n 0, 1) := by decide +kernel
theorem dX9_settleTrial_68 : decode cX9_settleTrial 68 = .ok (.getfield 134, 3) := by decide +kernel
theorem dX9_settleTrial_71 : decode cX9_settleTrial 71 = .ok (.invokestatic 218, 3) := by decide +kernel
theorem dX9_settleTrial_74 : decode cX9_settleTrial 74 = .ok (.ifCond .eq 11, 3) := by decide +kernel
theorem dX9_settleTrial_77 : decode cX9_settleTrial 77 = .ok (.aload_n 0, 1) := by decide +kernel
theorem dX9_settleTrial_78 : decode cX9_settleTrial 78 = .ok (.aload_n 1, 1) := by decide +kernel
theorem dX9_settleTrial_79 : decode cX9_settleTrial 79 = .ok (.invokevirtual 222, 3) := by decide +kernel
theorem dX9_settleTrial_82 : decode cX9_settleTrial 82 = .ok (.goto 26, 3) := by decide +kernel
theorem dX9_settleTrial_85 : decode cX9_settleTrial 85 = .ok (.aload_n 1, 1) := by decide +kernel
theorem dX9_settleTrial_86 : decode cX9_settleTrial 86 = .ok (.getfield 188, 3) := by decide +kernel
theorem dX9_settleTrial_89 : decode cX9_settleTrial 89 = .ok (.getfield 225, 3) := by decide +kernel
theorem dX9_settleTrial_92 : decode cX9_settleTrial 92 = .ok (.ifCond .lt 11, 3) := by decide +kernel
theorem dX9_settleTrial_95 : decode cX9_settleTrial 95 = .ok (.aload_n 0, 1) := by decide +kernel
theorem dX9_settleTrial_96 : decode cX9_settleTrial 96 = .ok (.aload_n 1, 1) := by decide +kernel
theorem dX9_settleTrial_97 : decode cX9_settleTrial 97 = .ok (.invokevirtual 228, 3) := by decide +kernel
theorem dX9_settleTrial_100 : decode cX9_settleTrial 100 = .ok (.goto 8, 3) := by decide +kernel
theorem dX9_settleTrial_103 : decode cX9_settleTrial 103 = .ok (.aload_n 0, 1) := by decide +kernel
theorem dX9_settleTrial_104 : decode cX9_settleTrial 104 = .ok (.aload_n 1, 1) := by decide +kernel
theorem dX9_settleTrial_105 : decode cX9_settleTrial 105 = .ok (.invokevirtual 195, 3) := by decide +kernel
theorem dX9_settleTrial_108 : decode cX9_settleTrial 108 = .ok (.return_, 1) := by decide +kernel
theorem dX9_takes_0 : decode cX9_takes 0 = .ok (.aload_n 0, 1) := by decide +kernel
theorem dX9_takes_1 : decode cX9_takes 1 = .ok (.getfield 231, 3) := by decide +kernel
theorem dX9_takes_4 : decode cX9_takes 4 = .ok (.ifCond .lt 7, 3) := by decide +kernel
theorem dX9_takes_7 : decode cX9_takes 7 = .ok (.aload_n 1, 1) := by decide +kernel
theorem dX9_takes_8 : decode cX9_takes 8 = .ok (.ifnonnull 5, 3) := by decide +kernel
theorem dX9_takes_11 : decode cX9_takes 11 = .ok (.iconst 0, 1) := by decide +kernel
theorem dX9_takes_12 : decode cX9_takes 12 = .ok (.ireturn, 1) := by decide +kernel
theorem dX9_takes_13 : decode cX9_takes 13 = .ok (.aload_n 1, 1) := by decide +kernel
theorem dX9_takes_14 : decode cX9_takes 14 = .ok (.getfield 234, 3) := by decide +kernel
theorem dX9_takes_17 : decode cX9_takes 17 = .ok (.istore_n 2, 1) := by decide +kernel
theorem dX9_takes_18 : decode cX9_takes 18 = .ok (.sipush 1024, 3) := by decide +kernel
theorem dX9_takes_21 : decode cX9_takes 21 = .ok (.iconst 1, 1) := by decide +kernel
theorem dX9_takes_22 : decode cX9_takes 22 = .ok (.iload_n 2, 1) := by decide +kernel
theorem dX9_takes_23 : decode cX9_takes 23 = .ok (.ishl, 1) := by decide +kernel
theorem dX9_takes_24 : decode cX9_takes 24 = .ok (.ior, 1) := by decide +kernel
theorem dX9_takes_25 : decode cX9_takes 25 = .ok (.istore_n 3, 1) := by decide +kernel
theorem dX9_takes_26 : decode cX9_takes 26 = .ok (.iload_n 2, 1) := by decide +kernel
theorem dX9_takes_27 : decode cX9_takes 27 = .ok (.iconst 1, 1) := by decide +kernel
theorem dX9_takes_28 : decode cX9_takes 28 = .ok (.if_icmp .eq 8, 3) := by decide +kernel
theorem dX9_takes_31 : decode cX9_takes 31 = .ok (.iload_n 2, 1) := by decide +kernel
theorem dX9_takes_32 : decode cX9_takes 32 = .ok (.iconst 2, 1) := by decide +kernel
theorem dX9_takes_33 : decode cX9_takes 33 = .ok (.if_icmp .ne 7, 3) := by decide +kernel
theorem dX9_takes_36 : decode cX9_takes 36 = .ok (.iload_n 3, 1) := by decide +kernel
theorem dX9_takes_37 : decode cX9_takes 37 = .ok (.iconst 1, 1) := by decide +kernel
theorem dX9_takes_38 : decode cX9_takes 38 = .ok (.ior, 1) := by decide +kernel
theorem dX9_takes_39 : decode cX9_takes 39 = .ok (.istore_n 3, 1) := by decide +kernel
theorem dX9_takes_40 : decode cX9_takes 40 = .ok (.iload_n 2, 1) := by decide +kernel
theorem dX9_takes_41 : decode cX9_takes 41 = .ok (.iconst 2, 1) := by decide +kernel
theorem dX9_takes_42 : decode cX9_takes 42 = .ok (.if_icmp .ne 7, 3) := by decide +kernel
theorem dX9_takes_45 : decode cX9_takes 45 = .ok (.iload_n 3, 1) := by decide +kernel
theorem dX9_takes_46 : decode cX9_takes 46 = .ok (.iconst 2, 1) := by decide +kernel
theorem dX9_takes_47 : decode cX9_takes 47 = .ok (.ior, 1) := by decide +kernel
theorem dX9_takes_48 : decode cX9_takes 48 = .ok (.istore_n 3, 1) := by decide +kernel
theorem dX9_takes_49 : decode cX9_takes 49 = .ok (.aload_n 0, 1) := by decide +kernel
theorem dX9_takes_50 : decode cX9_takes 50 = .ok (.getfield 92, 3) := by decide +kernel
theorem dX9_takes_53 : decode cX9_takes 53 = .ok (.iload_n 3, 1) := by decide +kernel
theorem dX9_takes_54 : decode cX9_takes 54 = .ok (.iand, 1) := by decide +kernel
theorem dX9_takes_55 : decode cX9_takes 55 = .ok (.ifCond .eq 7, 3) := by decide +kernel
theorem dX9_takes_58 : decode cX9_takes 58 = .ok (.iconst 1, 1) := by decide +kernel
theorem dX9_takes_59 : decode cX9_takes 59 = .ok (.goto 4, 3) := by decide +kernel
theorem dX9_takes_62 : decode cX9_takes 62 = .ok (.iconst 0, 1) := by decide +kernel
theorem dX9_takes_63 : decode cX9_takes 63 = .ok (.ireturn, 1) := by decide +kernel
theorem dX9_beginTaker_0 : decode cX9_beginTaker 0 = .ok (.aload_n 0, 1) := by decide +kernel
theorem dX9_beginTaker_1 : decode cX9_beginTaker 1 = .ok (.getfield 28, 3) := by decide +kernel
theorem dX9_beginTaker_4 : decode cX9_beginTaker 4 = .ok (.dup, 1) := by decide +kernel
theorem dX9_beginTaker_5 : decode cX9_beginTaker 5 = .ok (.getfield 237, 3) := by decide +kernel
theorem dX9_beginTaker_8 : decode cX9_beginTaker 8 = .ok (.iconst 1, 1) := by decide +kernel
theorem dX9_beginTaker_9 : decode cX9_beginTaker 9 = .ok (.iadd, 1) := by decide +kernel
theorem dX9_beginTaker_10 : decode cX9_beginTaker 10 = .ok (.putfield 237, 3) := by decide +kernel
theorem dX9_beginTaker_13 : decode cX9_beginTaker 13 = .ok (.aload_n 1, 1) := by decide +kernel
theorem dX9_beginTaker_14 : decode cX9_beginTaker 14 = .ok (.aload_n 0, 1) := by decide +kernel
theorem dX9_beginTaker_15 : decode cX9_beginTaker 15 = .ok (.getfield 134, 3) := by decide +kernel
theorem dX9_beginTaker_18 : decode cX9_beginTaker 18 = .ok (.putfield 141, 3) := by decide +kernel
theorem dX9_beginTaker_21 : decode cX9_beginTaker 21 = .ok (.aload_n 0, 1) := by decide +kernel
theorem dX9_beginTaker_22 : decode cX9_beginTaker 22 = .ok (.aload_n 1, 1) := by decide +kernel
theorem dX9_beginTaker_23 : decode cX9_beginTaker 23 = .ok (.iconst 1, 1) := by decide +kernel
theorem dX9_beginTaker_24 : decode cX9_beginTaker 24 = .ok (.aload_n 1, 1) := by decide +kernel
theorem dX9_beginTaker_25 : decode cX9_beginTaker 25 = .ok (.getfield 188, 3) := by decide +kernel
theorem dX9_beginTaker_28 : decode cX9_beginTaker 28 = .ok (.getfield 231, 3) := by decide +kernel
theorem dX9_beginTaker_31 : decode cX9_beginTaker 31 = .ok (.iconst 1, 1) := by decide +kernel
theorem dX9_beginTaker_32 : decode cX9_beginTaker 32 = .ok (.iadd, 1) := by decide +kernel
theorem dX9_beginTaker_33 : decode cX9_beginTaker 33 = .ok (.aload_n 1, 1) := by decide +kernel
theorem dX9_beginTaker_34 : decode cX9_beginTaker 34 = .ok (.invokevirtual 239, 3) := by decide +kernel
theorem dX9_beginTaker_37 : decode cX9_beginTaker 37 = .ok (.invokevirtual 242, 3) := by decide +kernel
theorem dX9_beginTaker_40 : decode cX9_beginTaker 40 = .ok (.return_, 1) := by decide +kernel
theorem dX9_beginFinish_0 : decode cX9_beginFinish 0 = .ok (.aload_n 0, 1) := by decide +kernel
theorem dX9_beginFinish_1 : decode cX9_beginFinish 1 = .ok (.getfield 28, 3) := by decide +kernel
theorem dX9_beginFinish_4 : decode cX9_beginFinish 4 = .ok (.aload_n 1, 1) := by decide +kernel
theorem dX9_beginFinish_5 : decode cX9_beginFinish 5 = .ok (.getfield 188, 3) := by decide +kernel
theorem dX9_beginFinish_8 : decode cX9_beginFinish 8 = .ok (.getfield 172, 3) := by decide +kernel
theorem dX9_beginFinish_11 : decode cX9_beginFinish 11 = .ok (.invokevirtual 246, 3) := by decide +kernel
theorem dX9_beginFinish_14 : decode cX9_beginFinish 14 = .ok (.aload_n 1, 1) := by decide +kernel
theorem dX9_beginFinish_15 : decode cX9_beginFinish 15 = .ok (.aload_n 0, 1) := by decide +kernel
theorem dX9_beginFinish_16 : decode cX9_beginFinish 16 = .ok (.getfield 67, 3) := by decide +kernel
theorem dX9_beginFinish_19 : decode cX9_beginFinish 19 = .ok (.putfield 209, 3) := by decide +kernel
theorem dX9_beginFinish_22 : decode cX9_beginFinish 22 = .ok (.aload_n 1, 1) := by decide +kernel
theorem dX9_beginFinish_23 : decode cX9_beginFinish 23 = .ok (.aload_n 0, 1) := by decide +kernel
theorem dX9_beginFinish_24 : decode cX9_beginFinish 24 = .ok (.getfield 116, 3) := by decide +kernel
theorem dX9_beginFinish_27 : decode cX9_beginFinish 27 = .ok (.putfield 212, 3) := by decide +kernel
theorem dX9_beginFinish_30 : decode cX9_beginFinish 30 = .ok (.aload_n 1, 1) := by decide +kernel
theorem dX9_beginFinish_31 : decode cX9_beginFinish 31 = .ok (.aload_n 0, 1) := by decide +kernel
theorem dX9_beginFinish_32 : decode cX9_beginFinish 32 = .ok (.getfield 134, 3) := by decide +kernel
theorem dX9_beginFinish_35 : decode cX9_beginFinish 35 = .ok (.putfield 215, 3) := by decide +kernel
theorem dX9_beginFinish_38 : decode cX9_beginFinish 38 = .ok (.aload_n 0, 1) := by decide +kernel
theorem dX9_beginFinish_39 : decode cX9_beginFinish 39 = .ok (.aload_n 1, 1) := by decide +kernel
theorem dX9_beginFinish_40 : decode cX9_beginFinish 40 = .ok (.iconst 2, 1) := by decide +kernel
theorem dX9_beginFinish_41 : decode cX9_beginFinish 41 = .ok (.aload_n 1, 1) := by decide +kernel
theorem dX9_beginFinish_42 : decode cX9_beginFinish 42 = .ok (.getfield 188, 3) := by decide +kernel
theorem dX9_beginFinish_45 : decode cX9_beginFinish 45 = .ok (.getfield 225, 3) := by decide +kernel
theorem dX9_beginFinish_48 : decode cX9_beginFinish 48 = .ok (.iconst 1, 1) := by decide +kernel
theorem dX9_beginFinish_49 : decode cX9_beginFinish 49 = .ok (.iadd, 1) := by decide +kernel
theorem dX9_beginFinish_50 : decode cX9_beginFinish 50 = .ok (.aload_n 1, 1) := by decide +kernel
theorem dX9_beginFinish_51 : decode cX9_beginFinish 51 = .ok (.invokevirtual 249, 3) := by decide +kernel
theorem dX9_beginFinish_54 : decode cX9_beginFinish 54 = .ok (.invokevirtual 242, 3) := by decide +kernel
theorem dX9_beginFinish_57 : decode cX9_beginFinish 57 = .ok (.return_, 1) := by decide +kernel
theorem dX9_beginPart_0 : decode cX9_beginPart 0 = .ok (.aload_n 1, 1) := by decide +kernel
theorem dX9_beginPart_1 : decode cX9_beginPart 1 = .ok (.iload_n 2, 1) := by decide +kernel
theorem dX9_beginPart_2 : decode cX9_beginPart 2 = .ok (.putfield 138, 3) := by decide +kernel
theorem dX9_beginPart_5 : decode cX9_beginPart 5 = .ok (.aload_n 1, 1) := by decide +kernel
theorem dX9_beginPart_6 : decode cX9_beginPart 6 = .ok (.iload 4, 2) := by decide +kernel
theorem dX9_beginPart_8 : decode cX9_beginPart 8 = .ok (.putfield 56, 3) := by decide +kernel
theorem dX9_beginPart_11 : decode cX9_beginPart 11 = .ok (.aload_n 0, 1) := by decide +kernel
theorem dX9_beginPart_12 : decode cX9_beginPart 12 = .ok (.iload_n 3, 1) := by decide +kernel
theorem dX9_beginPart_13 : decode cX9_beginPart 13 = .ok (.putfield 53, 3) := by decide +kernel
theorem dX9_beginPart_16 : decode cX9_beginPart 16 = .ok (.aload_n 0, 1) := by decide +kernel
theorem dX9_beginPart_17 : decode cX9_beginPart 17 = .ok (.iconst 0, 1) := by decide +kernel
theorem dX9_beginPart_18 : decode cX9_beginPart 18 = .ok (.putfield 67, 3) := by decide +kernel
theorem dX9_beginPart_21 : decode cX9_beginPart 21 = .ok (.return_, 1) := by decide +kernel
theorem dX9_settleRoutine_0 : decode cX9_settleRoutine 0 = .ok (.aload_n 0, 1) := by decide +kernel
theorem dX9_settleRoutine_1 : decode cX9_settleRoutine 1 = .ok (.aload_n 1, 1) := by decide +kernel
theorem dX9_settleRoutine_2 : decode cX9_settleRoutine 2 = .ok (.getfield 144, 3) := by decide +kernel
theorem dX9_settleRoutine_5 : decode cX9_settleRoutine 5 = .ok (.putfield 44, 3) := by decide +kernel
theorem dX9_settleRoutine_8 : decode cX9_settleRoutine 8 = .ok (.aload_n 0, 1) := by decide +kernel
theorem dX9_settleRoutine_9 : decode cX9_settleRoutine 9 = .ok (.dup, 1) := by decide +kernel
theorem dX9_settleRoutine_10 : decode cX9_settleRoutine 10 = .ok (.getfield 41, 3) := by decide +kernel
theorem dX9_settleRoutine_13 : decode cX9_settleRoutine 13 = .ok (.iconst 1, 1) := by decide +kernel
theorem dX9_settleRoutine_14 : decode cX9_settleRoutine 14 = .ok (.isub, 1) := by decide +kernel
theorem dX9_settleRoutine_15 : decode cX9_settleRoutine 15 = .ok (.putfield 41, 3) := by decide +kernel
theorem dX9_settleRoutine_18 : decode cX9_settleRoutine 18 = .ok (.aload_n 0, 1) := by decide +kernel
theorem dX9_settleRoutine_19 : decode cX9_settleRoutine 19 = .ok (.getfield 44, 3) := by decide +kernel
theorem dX9_settleRoutine_22 : decode cX9_settleRoutine 22 = .ok (.ifnonnull 10, 3) := by decide +kernel
theorem dX9_settleRoutine_25 : decode cX9_settleRoutine 25 = .ok (.aload_n 0, 1) := by decide +kernel
theorem dX9_settleRoutine_26 : decode cX9_settleRoutine 26 = .ok (.invokevirtual 252, 3) := by decide +kernel
theorem dX9_settleRoutine_29 : decode cX9_settleRoutine 29 = .ok (.goto 59, 3) := by decide +kernel
theorem dX9_settleRoutine_32 : decode cX9_settleRoutine 32 = .ok (.aload_n 0, 1) := by decide +kernel
theorem dX9_settleRoutine_33 : decode cX9_settleRoutine 33 = .ok (.getfield 67, 3) := by decide +kernel
theorem dX9_settleRoutine_36 : decode cX9_settleRoutine 36 = .ok (.iconst 2, 1) := by decide +kernel
theorem dX9_settleRoutine_37 : decode cX9_settleRoutine 37 = .ok (.if_icmp .eq 51, 3) := by decide +kernel
theorem dX9_settleRoutine_40 : decode cX9_settleRoutine 40 = .ok (.aload_n 0, 1) := by decide +kernel
theorem dX9_settleRoutine_41 : decode cX9_settleRoutine 41 = .ok (.getfield 24, 3) := by decide +kernel
theorem dX9_settleRoutine_44 : decode cX9_settleRoutine 44 = .ok (.aload_n 1, 1) := by decide +kernel
theorem dX9_settleRoutine_45 : decode cX9_settleRoutine 45 = .ok (.getfield 188, 3) := by decide +kernel
theorem dX9_settleRoutine_48 : decode cX9_settleRoutine 48 = .ok (.getfield 176, 3) := by decide +kernel
theorem dX9_settleRoutine_51 : decode cX9_settleRoutine 51 = .ok (.aload_n 0, 1) := by decide +kernel
theorem dX9_settleRoutine_52 : decode cX9_settleRoutine 52 = .ok (.getfield 67, 3) := by decide +kernel
theorem dX9_settleRoutine_55 : decode cX9_settleRoutine 55 = .ok (.iconst 5, 1) := by decide +kernel
theorem dX9_settleRoutine_56 : decode cX9_settleRoutine 56 = .ok (.if_icmp .ne 10, 3) := by decide +kernel
theorem dX9_settleRoutine_59 : decode cX9_settleRoutine 59 = .ok (.aload_n 0, 1) := by decide +kernel
theorem dX9_settleRoutine_60 : decode cX9_settleRoutine 60 = .ok (.getfield 116, 3) := by decide +kernel
theorem dX9_settleRoutine_63 : decode cX9_settleRoutine 63 = .ok (.goto 4, 3) := by decide +kernel
theorem dX9_settleRoutine_66 : decode cX9_settleRoutine 66 = .ok (.lconst 0, 1) := by decide +kernel
theorem dX9_settleRoutine_67 : decode cX9_settleRoutine 67 = .ok (.invokevirtual 191, 3) := by decide +kernel
theorem dX9_settleRoutine_70 : decode cX9_settleRoutine 70 = .ok (.aload_n 0, 1) := by decide +kernel
theorem dX9_settleRoutine_71 : decode cX9_settleRoutine 71 = .ok (.aload_n 1, 1) := by decide +kernel
theorem dX9_settleRoutine_72 : decode cX9_settleRoutine 72 = .ok (.getfield 188, 3) := by decide +kernel
theorem dX9_settleRoutine_75 : decode cX9_settleRoutine 75 = .ok (.getfield 172, 3) := by decide +kernel
theorem dX9_settleRoutine_78 : decode cX9_settleRoutine 78 = .ok (.iconst 1, 1) := by decide +kernel
theorem dX9_settleRoutine_79 : decode cX9_settleRoutine 79 = .ok (.iadd, 1) := by decide +kernel
theorem dX9_settleRoutine_80 : decode cX9_settleRoutine 80 = .ok (.putfield 53, 3) := by decide +kernel
theorem dX9_settleRoutine_83 : decode cX9_settleRoutine 83 = .ok (.aload_n 0, 1) := by decide +kernel
theorem dX9_settleRoutine_84 : decode cX9_settleRoutine 84 = .ok (.iconst 0, 1) := by decide +kernel
theorem dX9_settleRoutine_85 : decode cX9_settleRoutine 85 = .ok (.putfield 67, 3) := by decide +kernel
theorem dX9_settleRoutine_88 : decode cX9_settleRoutine 88 = .ok (.return_, 1) := by decide +kernel
theorem dX9_reportEnd_0 : decode cX9_reportEnd 0 = .ok (.aload_n 0, 1) := by decide +kernel
theorem dX9_reportEnd_1 : decode cX9_reportEnd 1 = .ok (.getfield 67, 3) := by decide +kernel
theorem dX9_reportEnd_4 : decode cX9_reportEnd 4 = .ok (.iconst 2, 1) := by decide +kernel
theorem dX9_reportEnd_5 : decode cX9_reportEnd 5 = .ok (.if_icmp .ne 25, 3) := by decide +kernel
theorem dX9_reportEnd_8 : decode cX9_reportEnd 8 = .ok (.aload_n 0, 1) := by decide +kernel
theorem dX9_reportEnd_9 : decode cX9_reportEnd 9 = .ok (.getfield 28, 3) := by decide +kernel
theorem dX9_reportEnd_12 : decode cX9_reportEnd 12 = .ok (.iconst 2, 1) := by decide +kernel
theorem dX9_reportEnd_13 : decode cX9_reportEnd 13 = .ok (.putfield 86, 3) := by decide +kernel
theorem dX9_reportEnd_16 : decode cX9_reportEnd 16 = .ok (.aload_n 0, 1) := by decide +kernel
theorem dX9_reportEnd_17 : decode cX9_reportEnd 17 = .ok (.getfield 28, 3) := by decide +kernel
theorem dX9_reportEnd_20 : decode cX9_reportEnd 20 = .ok (.aload_n 0, 1) := by decide +kernel
theorem dX9_reportEnd_21 : decode cX9_reportEnd 21 = .ok (.getfield 134, 3) := by decide +kernel
theorem dX9_reportEnd_24 : decode cX9_reportEnd 24 = .ok (.putfield 255, 3) := by decide +kernel
theorem dX9_reportEnd_27 : decode cX9_reportEnd 27 = .ok (.goto 42, 3) := by decide +kernel
theorem dX9_reportEnd_30 : decode cX9_reportEnd 30 = .ok (.aload_n 0, 1) := by decide +kernel
theorem dX9_reportEnd_31 : decode cX9_reportEnd 31 = .ok (.getfield 67, 3) := by decide +kernel
theorem dX9_reportEnd_34 : decode cX9_reportEnd 34 = .ok (.iconst 1, 1) := by decide +kernel
theorem dX9_reportEnd_35 : decode cX9_reportEnd 35 = .ok (.if_icmp .eq 34, 3) := by decide +kernel
theorem dX9_reportEnd_38 : decode cX9_reportEnd 38 = .ok (.aload_n 0, 1) := by decide +kernel
theorem dX9_reportEnd_39 : decode cX9_reportEnd 39 = .ok (.getfield 28, 3) := by decide +kernel
theorem dX9_reportEnd_42 : decode cX9_reportEnd 42 = .ok (.iconst 1, 1) := by decide +kernel
theorem dX9_reportEnd_43 : decode cX9_reportEnd 43 = .ok (.putfield 86, 3) := by decide +kernel
theorem dX9_reportEnd_46 : decode cX9_reportEnd 46 = .ok (.aload_n 0, 1) := by decide +kernel
theorem dX9_reportEnd_47 : decode cX9_reportEnd 47 = .ok (.getfield 28, 3) := by decide +kernel
theorem dX9_reportEnd_50 : decode cX9_reportEnd 50 = .ok (.aload_n 0, 1) := by decide +kernel
theorem dX9_reportEnd_51 : decode cX9_reportEnd 51 = .ok (.getfield 67, 3) := by decide +kernel
theorem dX9_reportEnd_54 : decode cX9_reportEnd 54 = .ok (.iconst 5, 1) := by decide +kernel
theorem dX9_reportEnd_55 : decode cX9_reportEnd 55 = .ok (.if_icmp .ne 10, 3) := by decide +kernel
theorem dX9_reportEnd_58 : decode cX9_reportEnd 58 = .ok (.aload_n 0, 1) := by decide +kernel
theorem dX9_reportEnd_59 : decode cX9_reportEnd 59 = .ok (.getfield 116, 3) := by decide +kernel
theorem dX9_reportEnd_62 : decode cX9_reportEnd 62 = .ok (.goto 4, 3) := by decide +kernel
theorem dX9_reportEnd_65 : decode cX9_reportEnd 65 = .ok (.lconst 0, 1) := by decide +kernel
theorem dX9_reportEnd_66 : decode cX9_reportEnd 66 = .ok (.putfield 256, 3) := by decide +kernel
theorem dX9_reportEnd_69 : decode cX9_reportEnd 69 = .ok (.return_, 1) := by decide +kernel
theorem dX10_init_0 : decode cX10_init 0 = .ok (.aload_n 0, 1) := by decide +kernel
theorem dX10_init_1 : decode cX10_init 1 = .ok (.invokespecial 1, 3) := by decide +kernel
theorem dX10_init_4 : decode cX10_init 4 = .ok (.aload_n 0, 1) := by decide +kernel
theorem dX10_init_5 : decode cX10_init 5 = .ok (.new 7, 3) := by decide +kernel
theorem dX10_init_8 : decode cX10_init 8 = .ok (.dup, 1) := by decide +kernel
theorem dX10_init_9 : decode cX10_init 9 = .ok (.invokespecial 9, 3) := by decide +kernel
theorem dX10_init_12 : decode cX10_init 12 = .ok (.putfield 10, 3) := by decide +kernel
theorem dX10_init_15 : decode cX10_init 15 = .ok (.aload_n 0, 1) := by decide +kernel
theorem dX10_init_16 : decode cX10_init 16 = .ok (.new 16, 3) := by decide +kernel
theorem dX10_init_19 : decode cX10_init 19 = .ok (.dup, 1) := by decide +kernel
theorem dX10_init_20 : decode cX10_init 20 = .ok (.invokespecial 18, 3) := by decide +kernel
theorem dX10_init_23 : decode cX10_init 23 = .ok (.putfield 19, 3) := by decide +kernel
theorem dX10_init_26 : decode cX10_init 26 = .ok (.aload_n 0, 1) := by decide +kernel
theorem dX10_init_27 : decode cX10_init 27 = .ok (.new 23, 3) := by decide +kernel
theorem dX10_init_30 : decode cX10_init 30 = .ok (.dup, 1) := by decide +kernel
theorem dX10_init_31 : decode cX10_init 31 = .ok (.invokespecial 25, 3) := by decide +kernel
theorem dX10_init_34 : decode cX10_init 34 = .ok (.putfield 26, 3) := by decide +kernel
theorem dX10_init_37 : decode cX10_init 37 = .ok (.aload_n 0, 1) := by decide +kernel
theorem dX10_init_38 : decode cX10_init 38 = .ok (.new 30, 3) := by decide +kernel
theorem dX10_init_41 : decode cX10_init 41 = .ok (.dup, 1) := by decide +kernel
theorem dX10_init_42 : decode cX10_init 42 = .ok (.aload_n 0, 1) := by decide +kernel
theorem dX10_init_43 : decode cX10_init 43 = .ok (.getfield 10, 3) := by decide +kernel
theorem dX10_init_46 : decode cX10_init 46 = .ok (.aload_n 0, 1) := by decide +kernel
theorem dX10_init_47 : decode cX10_init 47 = .ok (.getfield 19, 3) := by decide +kernel
theorem dX10_init_50 : decode cX10_init 50 = .ok (.aload_n 0, 1) := by decide +kernel
theorem dX10_init_51 : decode cX10_init 51 = .ok (.getfield 26, 3) := by decide +kernel
theorem dX10_init_54 : decode cX10_init 54 = .ok (.invokespecial 32, 3) := by decide +kernel
theorem dX10_init_57 : decode cX10_init 57 = .ok (.putfield 35, 3) := by decide +kernel
theorem dX10_init_60 : decode cX10_init 60 = .ok (.return_, 1) := by decide +kernel
theorem dX10_step_0 : decode cX10_step 0 = .ok (.iload_n 1, 1) := by decide +kernel
theorem dX10_step_1 : decode cX10_step 1 = .ok (.ifCond .lt 9, 3) := by decide +kernel
theorem dX10_step_4 : decode cX10_step 4 = .ok (.iload_n 1, 1) := by decide +kernel
theorem dX10_step_5 : decode cX10_step 5 = .ok (.bipush 35, 2) := by decide +kernel
theorem dX10_step_7 : decode cX10_step 7 = .ok (.if_icmp .le 5, 3) := by decide +kernel
theorem dX10_step_10 : decode cX10_step 10 = .ok (.iconst (-1), 1) := by decide +kernel
theorem dX10_step_11 : decode cX10_step 11 = .ok (.ireturn, 1) := by decide +kernel
theorem dX10_step_12 : decode cX10_step 12 = .ok (.aload_n 0, 1) := by decide +kernel
theorem dX10_step_13 : decode cX10_step 13 = .ok (.getfield 10, 3) := by decide +kernel
theorem dX10_step_16 : decode cX10_step 16 = .ok (.getfield 39, 3) := by decide +kernel
theorem dX10_step_19 : decode cX10_step 19 = .ok (.sipush 2000, 3) := by decide +kernel
theorem dX10_step_22 : decode cX10_step 22 = .ok (.if_icmp .lt 6, 3) := by decide +kernel
theorem dX10_step_25 : decode cX10_step 25 = .ok (.bipush (-2), 2) := by decide +kernel
theorem dX10_step_27 : decode cX10_step 27 = .ok (.ireturn, 1) := by decide +kernel
theorem dX10_step_28 : decode cX10_step 28 = .ok (.aload_n 0, 1) := by decide +kernel
theorem dX10_step_29 : decode cX10_step 29 = .ok (.getfield 10, 3) := by decide +kernel
theorem dX10_step_32 : decode cX10_step 32 = .ok (.iload_n 1, 1) := by decide +kernel
theorem dX10_step_33 : decode cX10_step 33 = .ok (.iload_n 2, 1) := by decide +kernel
theorem dX10_step_34 : decode cX10_step 34 = .ok (.iload_n 3, 1) := by decide +kernel
theorem dX10_step_35 : decode cX10_step 35 = .ok (.iload 4, 2) := by decide +kernel
theorem dX10_step_37 : decode cX10_step 37 = .ok (.invokevirtual 43, 3) := by decide +kernel
theorem dX10_step_40 : decode cX10_step 40 = .ok (.aload_n 0, 1) := by decide +kernel
theorem dX10_step_41 : decode cX10_step 41 = .ok (.getfield 10, 3) := by decide +kernel
theorem dX10_step_44 : decode cX10_step 44 = .ok (.getfield 39, 3) := by decide +kernel
theorem dX10_step_47 : decode cX10_step 47 = .ok (.ireturn, 1) := by decide +kernel
theorem dX10_wipe_0 : decode cX10_wipe 0 = .ok (.aload_n 0, 1) := by decide +kernel
theorem dX10_wipe_1 : decode cX10_wipe 1 = .ok (.getfield 10, 3) := by decide +kernel
theorem dX10_wipe_4 : decode cX10_wipe 4 = .ok (.getfield 39, 3) := by decide +kernel
theorem dX10_wipe_7 : decode cX10_wipe 7 = .ok (.istore_n 1, 1) := by decide +kernel
theorem dX10_wipe_8 : decode cX10_wipe 8 = .ok (.aload_n 0, 1) := by decide +kernel
theorem dX10_wipe_9 : decode cX10_wipe 9 = .ok (.getfield 10, 3) := by decide +kernel
theorem dX10_wipe_12 : decode cX10_wipe 12 = .ok (.invokevirtual 47, 3) := by decide +kernel
theorem dX10_wipe_15 : decode cX10_wipe 15 = .ok (.iload_n 1, 1) := by decide +kernel
theorem dX10_wipe_16 : decode cX10_wipe 16 = .ok (.ireturn, 1) := by decide +kernel
theorem dX10_run_0 : decode cX10_run 0 = .ok (.aload_n 0, 1) := by decide +kernel
theorem dX10_run_1 : decode cX10_run 1 = .ok (.getfield 10, 3) := by decide +kernel
theorem dX10_run_4 : decode cX10_run 4 = .ok (.iload_n 1, 1) := by decide +kernel
theorem dX10_run_5 : decode cX10_run 5 = .ok (.invokevirtual 50, 3) := by decide +kernel
theorem dX10_run_8 : decode cX10_run 8 = .ok (.ifCond .ne 5, 3) := by decide +kernel
theorem dX10_run_11 : decode cX10_run 11 = .ok (.iconst (-1), 1) := by decide +kernel
theorem dX10_run_12 : decode cX10_run 12 = .ok (.ireturn, 1) := by decide +kernel
theorem dX10_run_13 : decode cX10_run 13 = .ok (.iload_n 2, 1) := by decide +kernel
theorem dX10_run_14 : decode cX10_run 14 = .ok (.iconst 1, 1) := by decide +kernel
theorem dX10_run_15 : decode cX10_run 15 = .ok (.if_icmp .lt 10, 3) := by decide +kernel
theorem dX10_run_18 : decode cX10_run 18 = .ok (.iload_n 2, 1) := by decide +kernel
theorem dX10_run_19 : decode cX10_run 19 = .ok (.sipush 1000, 3) := by decide +kernel
theorem dX10_run_22 : decode cX10_run 22 = .ok (.if_icmp .le 6, 3) := by decide +kernel
theorem dX10_run_25 : decode cX10_run 25 = .ok (.bipush (-2), 2) := by decide +kernel
theorem dX10_run_27 : decode cX10_run 27 = .ok (.ireturn, 1) := by decide +kernel
theorem dX10_run_28 : decode cX10_run 28 = .ok (.aload_n 0, 1) := by decide +kernel
theorem dX10_run_29 : decode cX10_run 29 = .ok (.getfield 54, 3) := by decide +kernel
theorem dX10_run_32 : decode cX10_run 32 = .ok (.sipush 8000, 3) := by decide +kernel
theorem dX10_run_35 : decode cX10_run 35 = .ok (.iload_n 2, 1) := by decide +kernel
theorem dX10_run_36 : decode cX10_run 36 = .ok (.isub, 1) := by decide +kernel
theorem dX10_run_37 : decode cX10_run 37 = .ok (.if_icmp .le 6, 3) := by decide +kernel
theorem dX10_run_40 : decode cX10_run 40 = .ok (.bipush (-3), 2) := by decide +kernel
theorem dX10_run_42 : decode cX10_run 42 = .ok (.ireturn, 1) := by decide +kernel
theorem dX10_run_43 : decode cX10_run 43 = .ok (.aload_n 0, 1) := by decide +kernel
theorem dX10_run_44 : decode cX10_run 44 = .ok (.getfield 35, 3) := by decide +kernel
theorem dX10_run_47 : decode cX10_run 47 = .ok (.iload_n 1, 1) := by decide +kernel
theorem dX10_run_48 : decode cX10_run 48 = .ok (.iload_n 2, 1) := by decide +kernel
theorem dX10_run_49 : decode cX10_run 49 = .ok (.invokevirtual 57, 3) := by decide +kernel
theorem dX10_run_52 : decode cX10_run 52 = .ok (.istore_n 3, 1) := by decide +kernel
theorem dX10_run_53 : decode cX10_run 53 = .ok (.aload_n 0, 1) := by decide +kernel
theorem dX10_run_54 : decode cX10_run 54 = .ok (.dup, 1) := by decide +kernel
theorem dX10_run_55 : decode cX10_run 55 = .ok (.getfield 54, 3) := by decide +kernel
theorem dX10_run_58 : decode cX10_run 58 = .ok (.iload_n 3, 1) := by decide +kernel
theorem dX10_run_59 : decode cX10_run 59 = .ok (.iadd, 1) := by decide +kernel
theorem dX10_run_60 : decode cX10_run 60 = .ok (.putfield 54, 3) := by decide +kernel
theorem dX10_run_63 : decode cX10_run 63 = .ok (.aload_n 0, 1) := by decide +kernel
theorem dX10_run_64 : decode cX10_run 64 = .ok (.dup, 1) := by decide +kernel
theorem dX10_run_65 : decode cX10_run 65 = .ok (.getfield 61, 3) := by decide +kernel
theorem dX10_run_68 : decode cX10_run 68 = .ok (.iconst 1, 1) := by decide +kernel
theorem dX10_run_69 : decode cX10_run 69 = .ok (.iadd, 1) := by decide +kernel
theorem dX10_run_70 : decode cX10_run 70 = .ok (.putfield 61, 3) := by decide +kernel
theorem dX10_run_73 : decode cX10_run 73 = .ok (.iload_n 3, 1) := by decide +kernel
theorem dX10_run_74 : decode cX10_run 74 = .ok (.ireturn, 1) := by decide +kernel
theorem dX10_end_0 : decode cX10_end 0 = .ok (.aload_n 0, 1) := by decide +kernel
theorem dX10_end_1 : decode cX10_end 1 = .ok (.getfield 26, 3) := by decide +kernel
theorem dX10_end_4 : decode cX10_end 4 = .ok (.getfield 64, 3) := by decide +kernel
theorem dX10_end_7 : decode cX10_end 7 = .ok (.ireturn, 1) := by decide +kernel
theorem dX10_result_0 : decode cX10_result 0 = .ok (.aload_n 0, 1) := by decide +kernel
theorem dX10_result_1 : decode cX10_result 1 = .ok (.getfield 26, 3) := by decide +kernel
theorem dX10_result_4 : decode cX10_result 4 = .ok (.getfield 67, 3) := by decide +kernel
theorem dX10_result_7 : decode cX10_result 7 = .ok (.lreturn, 1) := by decide +kernel
theorem dX10_kind_0 : decode cX10_kind 0 = .ok (.aload_n 0, 1) := by decide +kernel
theorem dX10_kind_1 : decode cX10_kind 1 = .ok (.getfield 26, 3) := by decide +kernel
theorem dX10_kind_4 : decode cX10_kind 4 = .ok (.getfield 71, 3) := by decide +kernel
theorem dX10_kind_7 : decode cX10_kind 7 = .ok (.ifnonnull 7, 3) := by decide +kernel
theorem dX10_kind_10 : decode cX10_kind 10 = .ok (.iconst (-1), 1) := by decide +kernel
theorem dX10_kind_11 : decode cX10_kind 11 = .ok (.goto 13, 3) := by decide +kernel
theorem dX10_kind_14 : decode cX10_kind 14 = .ok (.aload_n 0, 1) := by decide +kernel
theorem dX10_kind_15 : decode cX10_kind 15 = .ok (.getfield 26, 3) := by decide +kernel
theorem dX10_kind_18 : decode cX10_kind 18 = .ok (.getfield 71, 3) := by decide +kernel
theorem dX10_kind_21 : decode cX10_kind 21 = .ok (.getfield 75, 3) := by decide +kernel
theorem dX10_kind_24 : decode cX10_kind 24 = .ok (.ireturn, 1) := by decide +kernel
theorem dX10_cause_0 : decode cX10_cause 0 = .ok (.iload_n 1, 1) := by decide +kernel
theorem dX10_cause_1 : decode cX10_cause 1 = .ok (.ifCond .lt 13, 3) := by decide +kernel
theorem dX10_cause_4 : decode cX10_cause 4 = .ok (.aload_n 0, 1) := by decide +kernel
theorem dX10_cause_5 : decode cX10_cause 5 = .ok (.getfield 26, 3) := by decide +kernel
theorem dX10_cause_8 : decode cX10_cause 8 = .ok (.getfield 71, 3) := by decide +kernel
theorem dX10_cause_11 : decode cX10_cause 11 = .ok (.ifnonnull 5, 3) := by decide +kernel
theorem dX10_cause_14 : decode cX10_cause 14 = .ok (.iconst (-1), 1) := by decide +kernel
theorem dX10_cause_15 : decode cX10_cause 15 = .ok (.ireturn, 1) := by decide +kernel
theorem dX10_cause_16 : decode cX10_cause 16 = .ok (.aload_n 0, 1) := by decide +kernel
theorem dX10_cause_17 : decode cX10_cause 17 = .ok (.getfield 26, 3) := by decide +kernel
theorem dX10_cause_20 : decode cX10_cause 20 = .ok (.getfield 71, 3) := by decide +kernel
theorem dX10_cause_23 : decode cX10_cause 23 = .ok (.getfield 80, 3) := by decide +kernel
theorem dX10_cause_26 : decode cX10_cause 26 = .ok (.astore_n 2, 1) := by decide +kernel
theorem dX10_cause_27 : decode cX10_cause 27 = .ok (.iconst 0, 1) := by decide +kernel
theorem dX10_cause_28 : decode cX10_cause 28 = .ok (.istore_n 3, 1) := by decide +kernel
theorem dX10_cause_29 : decode cX10_cause 29 = .ok (.iload_n 3, 1) := by decide +kernel
theorem dX10_cause_30 : decode cX10_cause 30 = .ok (.iload_n 1, 1) := by decide +kernel
theorem dX10_cause_31 : decode cX10_cause 31 = .ok (.if_icmp .ge 18, 3) := by decide +kernel
theorem dX10_cause_34 : decode cX10_cause 34 = .ok (.aload_n 2, 1) := by decide +kernel
theorem dX10_cause_35 : decode cX10_cause 35 = .ok (.ifnull 14, 3) := by decide +kernel
theorem dX10_cause_38 : decode cX10_cause 38 = .ok (.aload_n 2, 1) := by decide +kernel
theorem dX10_cause_39 : decode cX10_cause 39 = .ok (.getfield 80, 3) := by decide +kernel
theorem dX10_cause_42 : decode cX10_cause 42 = .ok (.astore_n 2, 1) := by decide +kernel
theorem dX10_cause_43 : decode cX10_cause 43 = .ok (.iinc 3 1, 3) := by decide +kernel
theorem dX10_cause_46 : decode cX10_cause 46 = .ok (.goto (-17), 3) := by decide +kernel
theorem dX10_cause_49 : decode cX10_cause 49 = .ok (.aload_n 2, 1) := by decide +kernel
theorem dX10_cause_50 : decode cX10_cause 50 = .ok (.ifnonnull 7, 3) := by decide +kernel
theorem dX10_cause_53 : decode cX10_cause 53 = .ok (.iconst (-1), 1) := by decide +kernel
theorem dX10_cause_54 : decode cX10_cause 54 = .ok (.goto 7, 3) := by decide +kernel
theorem dX10_cause_57 : decode cX10_cause 57 = .ok (.aload_n 2, 1) := by decide +kernel
theorem dX10_cause_58 : decode cX10_cause 58 = .ok (.getfield 75, 3) := by decide +kernel
theorem dX10_cause_61 : decode cX10_cause 61 = .ok (.ireturn, 1) := by decide +kernel
theorem dX10_out_0 : decode cX10_out 0 = .ok (.iload_n 1, 1) := by decide +kernel
theorem dX10_out_1 : decode cX10_out 1 = .ok (.ifCond .lt 33, 3) := by decide +kernel
theorem dX10_out_4 : decode cX10_out 4 = .ok (.iload_n 1, 1) := by decide +kernel
theorem dX10_out_5 : decode cX10_out 5 = .ok (.aload_n 0, 1) := by decide +kernel
theorem dX10_out_6 : decode cX10_out 6 = .ok (.getfield 26, 3) := by decide +kernel
theorem dX10_out_9 : decode cX10_out 9 = .ok (.getfield 83, 3) := by decide +kernel
theorem dX10_out_12 : decode cX10_out 12 = .ok (.if_icmp .ge 22, 3) := by decide +kernel
theorem dX10_out_15 : decode cX10_out 15 = .ok (.iload_n 1, 1) := by decide +kernel
theorem dX10_out_16 : decode cX10_out 16 = .ok (.sipush 500, 3) := by decide +kernel
theorem dX10_out_19 : decode cX10_out 19 = .ok (.if_icmp .ge 15, 3) := by decide +kernel
theorem dX10_out_22 : decode cX10_out 22 = .ok (.aload_n 0, 1) := by decide +kernel
theorem dX10_out_23 : decode cX10_out 23 = .ok (.getfield 26, 3) := by decide +kernel
theorem dX10_out_26 : decode cX10_out 26 = .ok (.getfield 86, 3) := by decide +kernel
theorem dX10_out_29 : decode cX10_out 29 = .ok (.iload_n 1, 1) := by decide +kernel
theorem dX10_out_30 : decode cX10_out 30 = .ok (.laload, 1) := by decide +kernel
theorem dX10_out_31 : decode cX10_out 31 = .ok (.goto 4, 3) := by decide +kernel
theorem dX10_out_34 : decode cX10_out 34 = .ok (.lconst 0, 1) := by decide +kernel
theorem dX10_out_35 : decode cX10_out 35 = .ok (.lreturn, 1) := by decide +kernel
theorem dX10_finished_0 : decode cX10_finished 0 = .ok (.iload_n 1, 1) := by decide +kernel
theorem dX10_finished_1 : decode cX10_finished 1 = .ok (.ifCond .lt 33, 3) := by decide +kernel
theorem dX10_finished_4 : decode cX10_finished 4 = .ok (.iload_n 1, 1) := by decide +kernel
theorem dX10_finished_5 : decode cX10_finished 5 = .ok (.aload_n 0, 1) := by decide +kernel
theorem dX10_finished_6 : decode cX10_finished 6 = .ok (.getfield 26, 3) := by decide +kernel
theorem dX10_finished_9 : decode cX10_finished 9 = .ok (.getfield 90, 3) := by decide +kernel
theorem dX10_finished_12 : decode cX10_finished 12 = .ok (.if_icmp .ge 22, 3) := by decide +kernel
theorem dX10_finished_15 : decode cX10_finished 15 = .ok (.iload_n 1, 1) := by decide +kernel
theorem dX10_finished_16 : decode cX10_finished 16 = .ok (.sipush 1000, 3) := by decide +kernel
theorem dX10_finished_19 : decode cX10_finished 19 = .ok (.if_icmp .ge 15, 3) := by decide +kernel
theorem dX10_finished_22 : decode cX10_finished 22 = .ok (.aload_n 0, 1) := by decide +kernel
theorem dX10_finished_23 : decode cX10_finished 23 = .ok (.getfield 26, 3) := by decide +kernel
theorem dX10_finished_26 : decode cX10_finished 26 = .ok (.getfield 93, 3) := by decide +kernel
theorem dX10_finished_29 : decode cX10_finished 29 = .ok (.iload_n 1, 1) := by decide +kernel
theorem dX10_finished_30 : decode cX10_finished 30 = .ok (.iaload, 1) := by decide +kernel
theorem dX10_finished_31 : decode cX10_finished 31 = .ok (.goto 4, 3) := by decide +kernel
theorem dX10_finished_34 : decode cX10_finished 34 = .ok (.iconst (-1), 1) := by decide +kernel
theorem dX10_finished_35 : decode cX10_finished 35 = .ok (.ireturn, 1) := by decide +kernel
theorem dX10_depth_0 : decode cX10_depth 0 = .ok (.aload_n 0, 1) := by decide +kernel
theorem dX10_depth_1 : decode cX10_depth 1 = .ok (.getfield 26, 3) := by decide +kernel
theorem dX10_depth_4 : decode cX10_depth 4 = .ok (.getfield 97, 3) := by decide +kernel
theorem dX10_depth_7 : decode cX10_depth 7 = .ok (.ireturn, 1) := by decide +kernel
theorem dX10_status_0 : decode cX10_status 0 = .ok (.iload_n 1, 1) := by decide +kernel
theorem dX10_status_1 : decode cX10_status 1 = .ok (.tableswitch 105 0 7 #[47, 55, 63, 68, 73, 81, 89, 97], 47) := by decide +kernel
theorem dX10_status_48 : decode cX10_status 48 = .ok (.aload_n 0, 1) := by decide +kernel
theorem dX10_status_49 : decode cX10_status 49 = .ok (.getfield 10, 3) := by decide +kernel
theorem dX10_status_52 : decode cX10_status 52 = .ok (.getfield 39, 3) := by decide +kernel
theorem dX10_status_55 : decode cX10_status 55 = .ok (.ireturn, 1) := by decide +kernel
theorem dX10_status_56 : decode cX10_status 56 = .ok (.aload_n 0, 1) := by decide +kernel
theorem dX10_status_57 : decode cX10_status 57 = .ok (.getfield 10, 3) := by decide +kernel
theorem dX10_status_60 : decode cX10_status 60 = .ok (.getfield 100, 3) := by decide +kernel
theorem dX10_status_63 : decode cX10_status 63 = .ok (.ireturn, 1) := by decide +kernel
theorem dX10_status_64 : decode cX10_status 64 = .ok (.aload_n 0, 1) := by decide +kernel
theorem dX10_status_65 : decode cX10_status 65 = .ok (.getfield 54, 3) := by decide +kernel
theorem dX10_status_68 : decode cX10_status 68 = .ok (.ireturn, 1) := by decide +kernel
theorem dX10_status_69 : decode cX10_status 69 = .ok (.aload_n 0, 1) := by decide +kernel
theorem dX10_status_70 : decode cX10_status 70 = .ok (.getfield 61, 3) := by decide +kernel
theorem dX10_status_73 : decode cX10_status 73 = .ok (.ireturn, 1) := by decide +kernel
theorem dX10_status_74 : decode cX10_status 74 = .ok (.aload_n 0, 1) := by decide +kernel
theorem dX10_status_75 : decode cX10_status 75 = .ok (.getfield 26, 3) := by decide +kernel
theorem dX10_status_78 : decode cX10_status 78 = .ok (.getfield 83, 3) := by decide +kernel
theorem dX10_status_81 : decode cX10_status 81 = .ok (.ireturn, 1) := by decide +kernel
theorem dX10_status_82 : decode cX10_status 82 = .ok (.aload_n 0, 1) := by decide +kernel
theorem dX10_status_83 : decode cX10_status 83 = .ok (.getfield 26, 3) := by decide +kernel
theorem dX10_status_86 : decode cX10_status 86 = .ok (.getfield 90, 3) := by decide +kernel
theorem dX10_status_89 : decode cX10_status 89 = .ok (.ireturn, 1) := by decide +kernel
theorem dX10_status_90 : decode cX10_status 90 = .ok (.aload_n 0, 1) := by decide +kernel
theorem dX10_status_91 : decode cX10_status 91 = .ok (.getfield 26, 3) := by decide +kernel
theorem dX10_status_94 : decode cX10_status 94 = .ok (.invokevirtual 103, 3) := by decide +kernel
theorem dX10_status_97 : decode cX10_status 97 = .ok (.ireturn, 1) := by decide +kernel
theorem dX10_status_98 : decode cX10_status 98 = .ok (.aload_n 0, 1) := by decide +kernel
theorem dX10_status_99 : decode cX10_status 99 = .ok (.getfield 26, 3) := by decide +kernel
theorem dX10_status_102 : decode cX10_status 102 = .ok (.getfield 107, 3) := by decide +kernel
theorem dX10_status_105 : decode cX10_status 105 = .ok (.ireturn, 1) := by decide +kernel
theorem dX10_status_106 : decode cX10_status 106 = .ok (.iconst (-1), 1) := by decide +kernel
theorem dX10_status_107 : decode cX10_status 107 = .ok (.ireturn, 1) := by decide +kernel
theorem dX10_number_0 : decode cX10_number 0 = .ok (.iload_n 1, 1) := by decide +kernel
theorem dX10_number_1 : decode cX10_number 1 = .ok (.invokestatic 110, 3) := by decide +kernel
theorem dX10_number_4 : decode cX10_number 4 = .ok (.ifCond .eq 14, 3) := by decide +kernel
theorem dX10_number_7 : decode cX10_number 7 = .ok (.aload_n 0, 1) := by decide +kernel
theorem dX10_number_8 : decode cX10_number 8 = .ok (.getfield 19, 3) := by decide +kernel
theorem dX10_number_11 : decode cX10_number 11 = .ok (.iload_n 1, 1) := by decide +kernel
theorem dX10_number_12 : decode cX10_number 12 = .ok (.invokevirtual 113, 3) := by decide +kernel
theorem dX10_number_15 : decode cX10_number 15 = .ok (.goto 4, 3) := by decide +kernel
theorem dX10_number_18 : decode cX10_number 18 = .ok (.lconst 0, 1) := by decide +kernel
theorem dX10_number_19 : decode cX10_number 19 = .ok (.lreturn, 1) := by decide +kernel
theorem dX10_hand_0 : decode cX10_hand 0 = .ok (.iload_n 1, 1) := by decide +kernel
theorem dX10_hand_1 : decode cX10_hand 1 = .ok (.invokestatic 110, 3) := by decide +kernel
theorem dX10_hand_4 : decode cX10_hand 4 = .ok (.ifCond .ne 6, 3) := by decide +kernel
theorem dX10_hand_7 : decode cX10_hand 7 = .ok (.bipush (-2), 2) := by decide +kernel
theorem dX10_hand_9 : decode cX10_hand 9 = .ok (.ireturn, 1) := by decide +kernel
theorem dX10_hand_10 : decode cX10_hand 10 = .ok (.aload_n 0, 1) := by decide +kernel
theorem dX10_hand_11 : decode cX10_hand 11 = .ok (.getfield 19, 3) := by decide +kernel
theorem dX10_hand_14 : decode cX10_hand 14 = .ok (.iload_n 1, 1) := by decide +kernel
theorem dX10_hand_15 : decode cX10_hand 15 = .ok (.invokevirtual 117, 3) := by decide +kernel
theorem dX10_hand_18 : decode cX10_hand 18 = .ok (.invokestatic 121, 3) := by decide +kernel
theorem dX10_hand_21 : decode cX10_hand 21 = .ok (.ireturn, 1) := by decide +kernel
theorem dX10_mark_0 : decode cX10_mark 0 = .ok (.iload_n 1, 1) := by decide +kernel
theorem dX10_mark_1 : decode cX10_mark 1 = .ok (.invokestatic 110, 3) := by decide +kernel
theorem dX10_mark_4 : decode cX10_mark 4 = .ok (.ifCond .eq 14, 3) := by decide +kernel
theorem dX10_mark_7 : decode cX10_mark 7 = .ok (.aload_n 0, 1) := by decide +kernel
theorem dX10_mark_8 : decode cX10_mark 8 = .ok (.getfield 19, 3) := by decide +kernel
theorem dX10_mark_11 : decode cX10_mark 11 = .ok (.iload_n 1, 1) := by decide +kernel
theorem dX10_mark_12 : decode cX10_mark 12 = .ok (.invokevirtual 117, 3) := by decide +kernel
theorem dX10_mark_15 : decode cX10_mark 15 = .ok (.goto 4, 3) := by decide +kernel
theorem dX10_mark_18 : decode cX10_mark 18 = .ok (.aconst_null, 1) := by decide +kernel
theorem dX10_mark_19 : decode cX10_mark 19 = .ok (.astore_n 2, 1) := by decide +kernel
theorem dX10_mark_20 : decode cX10_mark 20 = .ok (.aload_n 2, 1) := by decide +kernel
theorem dX10_mark_21 : decode cX10_mark 21 = .ok (.ifnonnull 7, 3) := by decide +kernel
theorem dX10_mark_24 : decode cX10_mark 24 = .ok (.lconst 0, 1) := by decide +kernel
theorem dX10_mark_25 : decode cX10_mark 25 = .ok (.goto 7, 3) := by decide +kernel
theorem dX10_mark_28 : decode cX10_mark 28 = .ok (.aload_n 2, 1) := by decide +kernel
theorem dX10_mark_29 : decode cX10_mark 29 = .ok (.getfield 125, 3) := by decide +kernel
theorem dX10_mark_32 : decode cX10_mark 32 = .ok (.lreturn, 1) := by decide +kernel
theorem dX10_size_0 : decode cX10_size 0 = .ok (.iload_n 1, 1) := by decide +kernel
theorem dX10_size_1 : decode cX10_size 1 = .ok (.invokestatic 110, 3) := by decide +kernel
theorem dX10_size_4 : decode cX10_size 4 = .ok (.ifCond .eq 10, 3) := by decide +kernel
theorem dX10_size_7 : decode cX10_size 7 = .ok (.iload_n 2, 1) := by decide +kernel
theorem dX10_size_8 : decode cX10_size 8 = .ok (.invokestatic 110, 3) := by decide +kernel
theorem dX10_size_11 : decode cX10_size 11 = .ok (.ifCond .ne 6, 3) := by decide +kernel
theorem dX10_size_14 : decode cX10_size 14 = .ok (.bipush (-2), 2) := by decide +kernel
theorem dX10_size_16 : decode cX10_size 16 = .ok (.ireturn, 1) := by decide +kernel
theorem dX10_size_17 : decode cX10_size 17 = .ok (.aload_n 0, 1) := by decide +kernel
theorem dX10_size_18 : decode cX10_size 18 = .ok (.getfield 19, 3) := by decide +kernel
theorem dX10_size_21 : decode cX10_size 21 = .ok (.iload_n 1, 1) := by decide +kernel
theorem dX10_size_22 : decode cX10_size 22 = .ok (.iload_n 2, 1) := by decide +kernel
theorem dX10_size_23 : decode cX10_size 23 = .ok (.invokevirtual 130, 3) := by decide +kernel
theorem dX10_size_26 : decode cX10_size 26 = .ok (.astore_n 3, 1) := by decide +kernel
theorem dX10_size_27 : decode cX10_size 27 = .ok (.aload_n 3, 1) := by decide +kernel
theorem dX10_size_28 : decode cX10_size 28 = .ok (.ifnonnull 7, 3) := by decide +kernel
theorem dX10_size_31 : decode cX10_size 31 = .ok (.iconst (-1), 1) := by decide +kernel
theorem dX10_size_32 : decode cX10_size 32 = .ok (.goto 7, 3) := by decide +kernel
theorem dX10_size_35 : decode cX10_size 35 = .ok (.aload_n 3, 1) := by decide +kernel
theorem dX10_size_36 : decode cX10_size 36 = .ok (.getfield 134, 3) := by decide +kernel
theorem dX10_size_39 : decode cX10_size 39 = .ok (.ireturn, 1) := by decide +kernel
theorem dX10_value_0 : decode cX10_value 0 = .ok (.iload_n 1, 1) := by decide +kernel
theorem dX10_value_1 : decode cX10_value 1 = .ok (.invokestatic 110, 3) := by decide +kernel
theorem dX10_value_4 : decode cX10_value 4 = .ok (.ifCond .eq 22, 3) := by decide +kernel
theorem dX10_value_7 : decode cX10_value 7 = .ok (.iload_n 2, 1) := by decide +kernel
theorem dX10_value_8 : decode cX10_value 8 = .ok (.invokestatic 110, 3) := by decide +kernel
theorem dX10_value_11 : decode cX10_value 11 = .ok (.ifCond .eq 15, 3) := by decide +kernel
theorem dX10_value_14 : decode cX10_value 14 = .ok (.aload_n 0, 1) := by decide +kernel
theorem dX10_value_15 : decode cX10_value 15 = .ok (.getfield 19, 3) := by decide +kernel
theorem dX10_value_18 : decode cX10_value 18 = .ok (.iload_n 1, 1) := by decide +kernel
theorem dX10_value_19 : decode cX10_value 19 = .ok (.iload_n 2, 1) := by decide +kernel
theorem dX10_value_20 : decode cX10_value 20 = .ok (.invokevirtual 130, 3) := by decide +kernel
theorem dX10_value_23 : decode cX10_value 23 = .ok (.goto 4, 3) := by decide +kernel
theorem dX10_value_26 : decode cX10_value 26 = .ok (.aconst_null, 1) := by decide +kernel
theorem dX10_value_27 : decode cX10_value 27 = .ok (.astore 4, 2) := by decide +kernel
theorem dX10_value_29 : decode cX10_value 29 = .ok (.aload 4, 2) := by decide +kernel
theorem dX10_value_31 : decode cX10_value 31 = .ok (.ifnull 12, 3) := by decide +kernel
theorem dX10_value_34 : decode cX10_value 34 = .ok (.aload 4, 2) := by decide +kernel
theorem dX10_value_36 : decode cX10_value 36 = .ok (.iload_n 3, 1) := by decide +kernel
theorem dX10_value_37 : decode cX10_value 37 = .ok (.invokevirtual 139, 3) := by decide +kernel
theorem dX10_value_40 : decode cX10_value 40 = .ok (.ifCond .ne 5, 3) := by decide +kernel
theorem dX10_value_43 : decode cX10_value 43 = .ok (.lconst 0, 1) := by decide +kernel
theorem dX10_value_44 : decode cX10_value 44 = .ok (.lreturn, 1) := by decide +kernel
theorem dX10_value_45 : decode cX10_value 45 = .ok (.iload_n 1, 1) := by decide +kernel
theorem dX10_value_46 : decode cX10_value 46 = .ok (.bipush 7, 2) := by decide +kernel
theorem dX10_value_48 : decode cX10_value 48 = .ok (.if_icmp .ne 16, 3) := by decide +kernel
theorem dX10_value_51 : decode cX10_value 51 = .ok (.aload 4, 2) := by decide +kernel
theorem dX10_value_53 : decode cX10_value 53 = .ok (.iload_n 3, 1) := by decide +kernel
theorem dX10_value_54 : decode cX10_value 54 = .ok (.invokevirtual 142, 3) := by decide +kernel
theorem dX10_value_57 : decode cX10_value 57 = .ok (.invokestatic 121, 3) := by decide +kernel
theorem dX10_value_60 : decode cX10_value 60 = .ok (.i2l, 1) := by decide +kernel
theorem dX10_value_61 : decode cX10_value 61 = .ok (.goto 9, 3) := by decide +kernel
theorem dX10_value_64 : decode cX10_value 64 = .ok (.aload 4, 2) := by decide +kernel
theorem dX10_value_66 : decode cX10_value 66 = .ok (.iload_n 3, 1) := by decide +kernel
theorem dX10_value_67 : decode cX10_value 67 = .ok (.invokevirtual 145, 3) := by decide +kernel
theorem dX10_value_70 : decode cX10_value 70 = .ok (.lreturn, 1) := by decide +kernel
theorem dX10_grid_0 : decode cX10_grid 0 = .ok (.aload_n 0, 1) := by decide +kernel
theorem dX10_grid_1 : decode cX10_grid 1 = .ok (.getfield 19, 3) := by decide +kernel
theorem dX10_grid_4 : decode cX10_grid 4 = .ok (.getfield 148, 3) := by decide +kernel
theorem dX10_grid_7 : decode cX10_grid 7 = .ok (.iload_n 1, 1) := by decide +kernel
theorem dX10_grid_8 : decode cX10_grid 8 = .ok (.iload_n 2, 1) := by decide +kernel
theorem dX10_grid_9 : decode cX10_grid 9 = .ok (.invokevirtual 152, 3) := by decide +kernel
theorem dX10_grid_12 : decode cX10_grid 12 = .ok (.ifCond .eq 18, 3) := by decide +kernel
theorem dX10_grid_15 : decode cX10_grid 15 = .ok (.aload_n 0, 1) := by decide +kernel
theorem dX10_grid_16 : decode cX10_grid 16 = .ok (.getfield 19, 3) := by decide +kernel
theorem dX10_grid_19 : decode cX10_grid 19 = .ok (.getfield 148, 3) := by decide +kernel
theorem dX10_grid_22 : decode cX10_grid 22 = .ok (.iload_n 1, 1) := by decide +kernel
theorem dX10_grid_23 : decode cX10_grid 23 = .ok (.iload_n 2, 1) := by decide +kernel
theorem dX10_grid_24 : decode cX10_grid 24 = .ok (.invokevirtual 157, 3) := by decide +kernel
theorem dX10_grid_27 : decode cX10_grid 27 = .ok (.goto 4, 3) := by decide +kernel
theorem dX10_grid_30 : decode cX10_grid 30 = .ok (.iconst 0, 1) := by decide +kernel
theorem dX10_grid_31 : decode cX10_grid 31 = .ok (.ireturn, 1) := by decide +kernel
theorem dX10_isOfEight_0 : decode cX10_isOfEight 0 = .ok (.iload_n 0, 1) := by decide +kernel
theorem dX10_isOfEight_1 : decode cX10_isOfEight 1 = .ok (.ifCond .lt 13, 3) := by decide +kernel
theorem dX10_isOfEight_4 : decode cX10_isOfEight 4 = .ok (.iload_n 0, 1) := by decide +kernel
theorem dX10_isOfEight_5 : decode cX10_isOfEight 5 = .ok (.bipush 8, 2) := by decide +kernel
theorem dX10_isOfEight_7 : decode cX10_isOfEight 7 = .ok (.if_icmp .ge 7, 3) := by decide +kernel
theorem dX10_isOfEight_10 : decode cX10_isOfEight 10 = .ok (.iconst 1, 1) := by decide +kernel
theorem dX10_isOfEight_11 : decode cX10_isOfEight 11 = .ok (.goto 4, 3) := by decide +kernel
theorem dX10_isOfEight_14 : decode cX10_isOfEight 14 = .ok (.iconst 0, 1) := by decide +kernel
theorem dX10_isOfEight_15 : decode cX10_isOfEight 15 = .ok (.ireturn, 1) := by decide +kernel
theorem dX10_kindOf_0 : decode cX10_kindOf 0 = .ok (.aload_n 0, 1) := by decide +kernel
theorem dX10_kindOf_1 : decode cX10_kindOf 1 = .ok (.ifnonnull 7, 3) := by decide +kernel
theorem dX10_kindOf_4 : decode cX10_kindOf 4 = .ok (.iconst (-1), 1) := by decide +kernel
theorem dX10_kindOf_5 : decode cX10_kindOf 5 = .ok (.goto 7, 3) := by decide +kernel
theorem dX10_kindOf_8 : decode cX10_kindOf 8 = .ok (.aload_n 0, 1) := by decide +kernel
theorem dX10_kindOf_9 : decode cX10_kindOf 9 = .ok (.getfield 160, 3) := by decide +kernel
theorem dX10_kindOf_12 : decode cX10_kindOf 12 = .ok (.ireturn, 1) := by decide +kernel
theorem dX11_init_0 : decode cX11_init 0 = .ok (.aload_n 0, 1) := by decide +kernel
theorem dX11_init_1 : decode cX11_init 1 = .ok (.invokespecial 1, 3) := by decide +kernel
theorem dX11_init_4 : decode cX11_init 4 = .ok (.aload_n 0, 1) := by decide +kernel
theorem dX11_init_5 : decode cX11_init 5 = .ok (.sipush 2000, 3) := by decide +kernel
theorem dX11_init_8 : decode cX11_init 8 = .ok (.newarray .int, 2) := by decide +kernel
theorem dX11_init_10 : decode cX11_init 10 = .ok (.putfield 7, 3) := by decide +kernel
theorem dX11_init_13 : decode cX11_init 13 = .ok (.aload_n 0, 1) := by decide +kernel
theorem dX11_init_14 : decode cX11_init 14 = .ok (.sipush 2000, 3) := by decide +kernel
theorem dX11_init_17 : decode cX11_init 17 = .ok (.newarray .int, 2) := by decide +kernel
theorem dX11_init_19 : decode cX11_init 19 = .ok (.putfield 13, 3) := by decide +kernel
theorem dX11_init_22 : decode cX11_init 22 = .ok (.aload_n 0, 1) := by decide +kernel
theorem dX11_init_23 : decode cX11_init 23 = .ok (.sipush 2000, 3) := by decide +kernel
theorem dX11_init_26 : decode cX11_init 26 = .ok (.newarray .int, 2) := by decide +kernel
theorem dX11_init_28 : decode cX11_init 28 = .ok (.putfield 16, 3) := by decide +kernel
theorem dX11_init_31 : decode cX11_init 31 = .ok (.aload_n 0, 1) := by decide +kernel
theorem dX11_init_32 : decode cX11_init 32 = .ok (.sipush 2000, 3) := by decide +kernel
theorem dX11_init_35 : decode cX11_init 35 = .ok (.newarray .int, 2) := by decide +kernel
theorem dX11_init_37 : decode cX11_init 37 = .ok (.putfield 19, 3) := by decide +kernel
theorem dX11_init_40 : decode cX11_init 40 = .ok (.aload_n 0, 1) := by decide +kernel
theorem dX11_init_41 : decode cX11_init 41 = .ok (.sipush 2000, 3) := by decide +kernel
theorem dX11_init_44 : decode cX11_init 44 = .ok (.newarray .int, 2) := by decide +kernel
theorem dX11_init_46 : decode cX11_init 46 = .ok (.putfield 22, 3) := by decide +kernel
theorem dX11_init_49 : decode cX11_init 49 = .ok (.aload_n 0, 1) := by decide +kernel
theorem dX11_init_50 : decode cX11_init 50 = .ok (.sipush 2000, 3) := by decide +kernel
theorem dX11_init_53 : decode cX11_init 53 = .ok (.newarray .int, 2) := by decide +kernel
theorem dX11_init_55 : decode cX11_init 55 = .ok (.putfield 25, 3) := by decide +kernel
theorem dX11_init_58 : decode cX11_init 58 = .ok (.aload_n 0, 1) := by decide +kernel
theorem dX11_init_59 : decode cX11_init 59 = .ok (.sipush 2000, 3) := by decide +kernel
theorem dX11_init_62 : decode cX11_init 62 = .ok (.newarray .int, 2) := by decide +kernel
theorem dX11_init_64 : decode cX11_init 64 = .ok (.putfield 28, 3) := by decide +kernel
theorem dX11_init_67 : decode cX11_init 67 = .ok (.aload_n 0, 1) := by decide +kernel
theorem dX11_init_68 : decode cX11_init 68 = .ok (.sipush 2000, 3) := by decide +kernel
theorem dX11_init_71 : decode cX11_init 71 = .ok (.newarray .int, 2) := by decide +kernel
theorem dX11_init_73 : decode cX11_init 73 = .ok (.putfield 31, 3) := by decide +kernel
theorem dX11_init_76 : decode cX11_init 76 = .ok (.aload_n 0, 1) := by decide +kernel
theorem dX11_init_77 : decode cX11_init 77 = .ok (.sipush 2000, 3) := by decide +kernel
theorem dX11_init_80 : decode cX11_init 80 = .ok (.newarray .int, 2) := by decide +kernel
theorem dX11_init_82 : decode cX11_init 82 = .ok (.putfield 34, 3) := by decide +kernel
theorem dX11_init_85 : decode cX11_init 85 = .ok (.aload_n 0, 1) := by decide +kernel
theorem dX11_init_86 : decode cX11_init 86 = .ok (.sipush 2000, 3) := by decide +kernel
theorem dX11_init_89 : decode cX11_init 89 = .ok (.newarray .int, 2) := by decide +kernel
theorem dX11_init_91 : decode cX11_init 91 = .ok (.putfield 37, 3) := by decide +kernel
theorem dX11_init_94 : decode cX11_init 94 = .ok (.aload_n 0, 1) := by decide +kernel
theorem dX11_init_95 : decode cX11_init 95 = .ok (.sipush 2000, 3) := by decide +kernel
theorem dX11_init_98 : decode cX11_init 98 = .ok (.newarray .int, 2) := by decide +kernel
theorem dX11_init_100 : decode cX11_init 100 = .ok (.putfield 40, 3) := by decide +kernel
theorem dX11_init_103 : decode cX11_init 103 = .ok (.aload_n 0, 1) := by decide +kernel
theorem dX11_init_104 : decode cX11_init 104 = .ok (.bipush 8, 2) := by decide +kernel
theorem dX11_init_106 : decode cX11_init 106 = .ok (.newarray .long, 2) := by decide +kernel
theorem dX11_init_108 : decode cX11_init 108 = .ok (.putfield 43, 3) := by decide +kernel
theorem dX11_init_111 : decode cX11_init 111 = .ok (.aload_n 0, 1) := by decide +kernel
theorem dX11_init_112 : decode cX11_init 112 = .ok (.bipush 8, 2) := by decide +kernel
theorem dX11_init_114 : decode cX11_init 114 = .ok (.newarray .int, 2) := by decide +kernel
theorem dX11_init_116 : decode cX11_init 116 = .ok (.putfield 47, 3) := by decide +kernel
theorem dX11_init_119 : decode cX11_init 119 = .ok (.aload_n 0, 1) := by decide +kernel
theorem dX11_init_120 : decode cX11_init 120 = .ok (.sipush 8001, 3) := by decide +kernel
theorem dX11_init_123 : decode cX11_init 123 = .ok (.newarray .int, 2) := by decide +kernel
theorem dX11_init_125 : decode cX11_init 125 = .ok (.putfield 50, 3) := by decide +kernel
theorem dX11_init_128 : decode cX11_init 128 = .ok (.aload_n 0, 1) := by decide +kernel
theorem dX11_init_129 : decode cX11_init 129 = .ok (.sipush 8001, 3) := by decide +kernel
theorem dX11_init_132 : decode cX11_init 132 = .ok (.newarray .long, 2) := by decide +kernel
theorem dX11_init_134 : decode cX11_init 134 = .ok (.putfield 53, 3) := by decide +kernel
theorem dX11_init_137 : decode cX11_init 137 = .ok (.aload_n 0, 1) := by decide +kernel
theorem dX11_init_138 : decode cX11_init 138 = .ok (.bipush 64, 2) := by decide +kernel
theorem dX11_init_140 : decode cX11_init 140 = .ok (.newarray .int, 2) := by decide +kernel
theorem dX11_init_142 : decode cX11_init 142 = .ok (.putfield 56, 3) := by decide +kernel
theorem dX11_init_145 : decode cX11_init 145 = .ok (.aload_n 0, 1) := by decide +kernel
theorem dX11_init_146 : decode cX11_init 146 = .ok (.bipush 64, 2) := by decide +kernel
theorem dX11_init_148 : decode cX11_init 148 = .ok (.newarray .boolean, 2) := by decide +kernel
theorem dX11_init_150 : decode cX11_init 150 = .ok (.putfield 59, 3) := by decide +kernel
theorem dX11_init_153 : decode cX11_init 153 = .ok (.aload_n 0, 1) := by decide +kernel
theorem dX11_init_154 : decode cX11_init 154 = .ok (.sipush 4096, 3) := by decide +kernel
theorem dX11_init_157 : decode cX11_init 157 = .ok (.newarray .long, 2) := by decide +kernel
theorem dX11_init_159 : decode cX11_init 159 = .ok (.putfield 63, 3) := by decide +kernel
theorem dX11_init_162 : decode cX11_init 162 = .ok (.aload_n 0, 1) := by decide +kernel
theorem dX11_init_163 : decode cX11_init 163 = .ok (.bipush 64, 2) := by decide +kernel
theorem dX11_init_165 : decode cX11_init 165 = .ok (.newarray .int, 2) := by decide +kernel
theorem dX11_init_167 : decode cX11_init 167 = .ok (.putfield 66, 3) := by decide +kernel
theorem dX11_init_170 : decode cX11_init 170 = .ok (.aload_n 0, 1) := by decide +kernel
theorem dX11_init_171 : decode cX11_init 171 = .ok (.sipush 201, 3) := by decide +kernel
theorem dX11_init_174 : decode cX11_init 174 = .ok (.newarray .int, 2) := by decide +kernel
theorem dX11_init_176 : decode cX11_init 176 = .ok (.putfield 69, 3) := by decide +kernel
theorem dX11_init_179 : decode cX11_init 179 = .ok (.aload_n 0, 1) := by decide +kernel
theorem dX11_init_180 : decode cX11_init 180 = .ok (.sipush 201, 3) := by decide +kernel
theorem dX11_init_183 : decode cX11_init 183 = .ok (.newarray .int, 2) := by decide +kernel
theorem dX11_init_185 : decode cX11_init 185 = .ok (.putfield 72, 3) := by decide +kernel
theorem dX11_init_188 : decode cX11_init 188 = .ok (.aload_n 0, 1) := by decide +kernel
theorem dX11_init_189 : decode cX11_init 189 = .ok (.sipush 201, 3) := by decide +kernel
theorem dX11_init_192 : decode cX11_init 192 = .ok (.newarray .int, 2) := by decide +kernel
theorem dX11_init_194 : decode cX11_init 194 = .ok (.putfield 75, 3) := by decide +kernel
theorem dX11_init_197 : decode cX11_init 197 = .ok (.aload_n 0, 1) := by decide +kernel
theorem dX11_init_198 : decode cX11_init 198 = .ok (.sipush 201, 3) := by decide +kernel
theorem dX11_init_201 : decode cX11_init 201 = .ok (.newarray .int, 2) := by decide +kernel
theorem dX11_init_203 : decode cX11_init 203 = .ok (.putfield 78, 3) := by decide +kernel
theorem dX11_init_206 : decode cX11_init 206 = .ok (.aload_n 0, 1) := by decide +kernel
theorem dX11_init_207 : decode cX11_init 207 = .ok (.sipush 201, 3) := by decide +kernel
theorem dX11_init_210 : decode cX11_init 210 = .ok (.newarray .int, 2) := by decide +kernel
theorem dX11_init_212 : decode cX11_init 212 = .ok (.putfield 81, 3) := by decide +kernel
theorem dX11_init_215 : decode cX11_init 215 = .ok (.aload_n 0, 1) := by decide +kernel
theorem dX11_init_216 : decode cX11_init 216 = .ok (.sipush 201, 3) := by decide +kernel
theorem dX11_init_219 : decode cX11_init 219 = .ok (.newarray .int, 2) := by decide +kernel
theorem dX11_init_221 : decode cX11_init 221 = .ok (.putfield 84, 3) := by decide +kernel
theorem dX11_init_224 : decode cX11_init 224 = .ok (.aload_n 0, 1) := by decide +kernel
theorem dX11_init_225 : decode cX11_init 225 = .ok (.sipush 201, 3) := by decide +kernel
theorem dX11_init_228 : decode cX11_init 228 = .ok (.newarray .long, 2) := by decide +kernel
theorem dX11_init_230 : decode cX11_init 230 = .ok (.putfield 87, 3) := by decide +kernel
theorem dX11_init_233 : decode cX11_init 233 = .ok (.aload_n 0, 1) := by decide +kernel
theorem dX11_init_234 : decode cX11_init 234 = .ok (.sipush 201, 3) := by decide +kernel
theorem dX11_init_237 : decode cX11_init 237 = .ok (.newarray .int, 2) := by decide +kernel
theorem dX11_init_239 : decode cX11_init 239 = .ok (.putfield 90, 3) := by decide +kernel
theorem dX11_init_242 : decode cX11_init 242 = .ok (.aload_n 0, 1) := by decide +kernel
theorem dX11_init_243 : decode cX11_init 243 = .ok (.sipush 1002, 3) := by decide +kernel
theorem dX11_init_246 : decode cX11_init 246 = .ok (.newarray .int, 2) := by decide +kernel
theorem dX11_init_248 : decode cX11_init 248 = .ok (.putfield 93, 3) := by decide +kernel
theorem dX11_init_251 : decode cX11_init 251 = .ok (.aload_n 0, 1) := by decide +kernel
theorem dX11_init_252 : decode cX11_init 252 = .ok (.sipush 1002, 3) := by decide +kernel
theorem dX11_init_255 : decode cX11_init 255 = .ok (.newarray .int, 2) := by decide +kernel
theorem dX11_init_257 : decode cX11_init 257 = .ok (.putfield 96, 3) := by decide +kernel
theorem dX11_init_260 : decode cX11_init 260 = .ok (.aload_n 0, 1) := by decide +kernel
theorem dX11_init_261 : decode cX11_init 261 = .ok (.iconst (-1), 1) := by decide +kernel
theorem dX11_init_262 : decode cX11_init 262 = .ok (.putfield 99, 3) := by decide +kernel
theorem dX11_init_265 : decode cX11_init 265 = .ok (.aload_n 0, 1) := by decide +kernel
theorem dX11_init_266 : decode cX11_init 266 = .ok (.sipush 500, 3) := by decide +kernel
theorem dX11_init_269 : decode cX11_init 269 = .ok (.newarray .long, 2) := by decide +kernel
theorem dX11_init_271 : decode cX11_init 271 = .ok (.putfield 103, 3) := by decide +kernel
theorem dX11_init_274 : decode cX11_init 274 = .ok (.aload_n 0, 1) := by decide +kernel
theorem dX11_init_275 : decode cX11_init 275 = .ok (.sipush 1002, 3) := by decide +kernel
theorem dX11_init_278 : decode cX11_init 278 = .ok (.newarray .int, 2) := by decide +kernel
theorem dX11_init_280 : decode cX11_init 280 = .ok (.putfield 106, 3) := by decide +kernel
theorem dX11_init_283 : decode cX11_init 283 = .ok (.iconst 0, 1) := by decide +kernel
theorem dX11_init_284 : decode cX11_init 284 = .ok (.istore_n 1, 1) := by decide +kernel
theorem dX11_init_285 : decode cX11_init 285 = .ok (.iload_n 1, 1) := by decide +kernel
theorem dX11_init_286 : decode cX11_init 286 = .ok (.bipush 64, 2) := by decide +kernel
theorem dX11_init_288 : decode cX11_init 288 = .ok (.if_icmp .ge 16, 3) := by decide +kernel
theorem dX11_init_291 : decode cX11_init 291 = .ok (.aload_n 0, 1) := by decide +kernel
theorem dX11_init_292 : decode cX11_init 292 = .ok (.getfield 56, 3) := by decide +kernel
theorem dX11_init_295 : decode cX11_init 295 = .ok (.iload_n 1, 1) := by decide +kernel
theorem dX11_init_296 : decode cX11_init 296 = .ok (.iconst (-1), 1) := by decide +kernel
theorem dX11_init_297 : decode cX11_init 297 = .ok (.iastore, 1) := by decide +kernel
theorem dX11_init_298 : decode cX11_init 298 = .ok (.iinc 1 1, 3) := by decide +kernel
theorem dX11_init_301 : decode cX11_init 301 = .ok (.goto (-16), 3) := by decide +kernel
theorem dX11_init_304 : decode cX11_init 304 = .ok (.return_, 1) := by decide +kernel
theorem dX11_step_0 : decode cX11_step 0 = .ok (.iload_n 1, 1) := by decide +kernel
theorem dX11_step_1 : decode cX11_step 1 = .ok (.ifCond .lt 9, 3) := by decide +kernel
theorem dX11_step_4 : decode cX11_step 4 = .ok (.iload_n 1, 1) := by decide +kernel
theorem dX11_step_5 : decode cX11_step 5 = .ok (.bipush 35, 2) := by decide +kernel
theorem dX11_step_7 : decode cX11_step 7 = .ok (.if_icmp .le 5, 3) := by decide +kernel
theorem dX11_step_10 : decode cX11_step 10 = .ok (.iconst (-1), 1) := by decide +kernel
theorem dX11_step_11 : decode cX11_step 11 = .ok (.ireturn, 1) := by decide +kernel
theorem dX11_step_12 : decode cX11_step 12 = .ok (.aload_n 0, 1) := by decide +kernel
theorem dX11_step_13 : decode cX11_step 13 = .ok (.getfield 109, 3) := by decide +kernel
theorem dX11_step_16 : decode cX11_step 16 = .ok (.sipush 2000, 3) := by decide +kernel
theorem dX11_step_19 : decode cX11_step 19 = .ok (.if_icmp .ne 6, 3) := by decide +kernel
theorem dX11_step_22 : decode cX11_step 22 = .ok (.bipush (-2), 2) := by decide +kernel
theorem dX11_step_24 : decode cX11_step 24 = .ok (.ireturn, 1) := by decide +kernel
theorem dX11_step_25 : decode cX11_step 25 = .ok (.aload_n 0, 1) := by decide +kernel
theorem dX11_step_26 : decode cX11_step 26 = .ok (.getfield 7, 3) := by decide +kernel
theorem dX11_step_29 : decode cX11_step 29 = .ok (.aload_n 0, 1) := by decide +kernel
theorem dX11_step_30 : decode cX11_step 30 = .ok (.getfield 109, 3) := by decide +kernel
theorem dX11_step_33 : decode cX11_step 33 = .ok (.iload_n 1, 1) := by decide +kernel
theorem dX11_step_34 : decode cX11_step 34 = .ok (.iastore, 1) := by decide +kernel
theorem dX11_step_35 : decode cX11_step 35 = .ok (.aload_n 0, 1) := by decide +kernel
theorem dX11_step_36 : decode cX11_step 36 = .ok (.getfield 13, 3) := by decide +kernel
theorem dX11_step_39 : decode cX11_step 39 = .ok (.aload_n 0, 1) := by decide +kernel
theorem dX11_step_40 : decode cX11_step 40 = .ok (.getfield 109, 3) := by decide +kernel
theorem dX11_step_43 : decode cX11_step 43 = .ok (.iload_n 2, 1) := by decide +kernel
theorem dX11_step_44 : decode cX11_step 44 = .ok (.iastore, 1) := by decide +kernel
theorem dX11_step_45 : decode cX11_step 45 = .ok (.aload_n 0, 1) := by decide +kernel
theorem dX11_step_46 : decode cX11_step 46 = .ok (.getfield 16, 3) := by decide +kernel
theorem dX11_step_49 : decode cX11_step 49 = .ok (.aload_n 0, 1) := by decide +kernel
theorem dX11_step_50 : decode cX11_step 50 = .ok (.getfield 109, 3) := by decide +kernel
theorem dX11_step_53 : decode cX11_step 53 = .ok (.iload_n 3, 1) := by decide +kernel
theorem dX11_step_54 : decode cX11_step 54 = .ok (.iastore, 1) := by decide +kernel
theorem dX11_step_55 : decode cX11_step 55 = .ok (.aload_n 0, 1) := by decide +kernel
theorem dX11_step_56 : decode cX11_step 56 = .ok (.getfield 19, 3) := by decide +kernel
theorem dX11_step_59 : decode cX11_step 59 = .ok (.aload_n 0, 1) := by decide +kernel
theorem dX11_step_60 : decode cX11_step 60 = .ok (.getfield 109, 3) := by decide +kernel
theorem dX11_step_63 : decode cX11_step 63 = .ok (.iload 4, 2) := by decide +kernel
theorem dX11_step_65 : decode cX11_step 65 = .ok (.iastore, 1) := by decide +kernel
theorem dX11_step_66 : decode cX11_step 66 = .ok (.aload_n 0, 1) := by decide +kernel
theorem dX11_step_67 : decode cX11_step 67 = .ok (.dup, 1) := by decide +kernel
theorem dX11_step_68 : decode cX11_step 68 = .ok (.getfield 109, 3) := by decide +kernel
theorem dX11_step_71 : decode cX11_step 71 = .ok (.iconst 1, 1) := by decide +kernel
theorem dX11_step_72 : decode cX11_step 72 = .ok (.iadd, 1) := by decide +kernel
theorem dX11_step_73 : decode cX11_step 73 = .ok (.putfield 109, 3) := by decide +kernel
theorem dX11_step_76 : decode cX11_step 76 = .ok (.aload_n 0, 1) := by decide +kernel
theorem dX11_step_77 : decode cX11_step 77 = .ok (.getfield 109, 3) := by decide +kernel
theorem dX11_step_80 : decode cX11_step 80 = .ok (.ireturn, 1) := by decide +kernel
theorem dX11_wipe_0 : decode cX11_wipe 0 = .ok (.aload_n 0, 1) := by decide +kernel
theorem dX11_wipe_1 : decode cX11_wipe 1 = .ok (.getfield 109, 3) := by decide +kernel
theorem dX11_wipe_4 : decode cX11_wipe 4 = .ok (.istore_n 1, 1) := by decide +kernel
theorem dX11_wipe_5 : decode cX11_wipe 5 = .ok (.aload_n 0, 1) := by decide +kernel
theorem dX11_wipe_6 : decode cX11_wipe 6 = .ok (.iconst 0, 1) := by decide +kernel
theorem dX11_wipe_7 : decode cX11_wipe 7 = .ok (.putfield 109, 3) := by decide +kernel
theorem dX11_wipe_10 : decode cX11_wipe 10 = .ok (.iload_n 1, 1) := by decide +kernel
theorem dX11_wipe_11 : decode cX11_wipe 11 = .ok (.ireturn, 1) := by decide +kernel
theorem dX11_isMark_0 : decode cX11_isMark 0 = .ok (.aload_n 0, 1) := by decide +kernel
theorem dX11_isMark_1 : decode cX11_isMark 1 = .ok (.getfield 7, 3) := by decide +kernel
theorem dX11_isMark_4 : decode cX11_isMark 4 = .ok (.iload_n 1, 1) := by decide +kernel
theorem dX11_isMark_5 : decode cX11_isMark 5 = .ok (.iaload, 1) := by decide +kernel
theorem dX11_isMark_6 : decode cX11_isMark 6 = .ok (.bipush 35, 2) := by decide +kernel
theorem dX11_isMark_8 : decode cX11_isMark 8 = .ok (.if_icmp .ne 18, 3) := by decide +kernel
theorem dX11_isMark_11 : decode cX11_isMark 11 = .ok (.aload_n 0, 1) := by decide +kernel
theorem dX11_isMark_12 : decode cX11_isMark 12 = .ok (.getfield 19, 3) := by decide +kernel
theorem dX11_isMark_15 : decode cX11_isMark 15 = .ok (.iload_n 1, 1) := by decide +kernel
theorem dX11_isMark_16 : decode cX11_isMark 16 = .ok (.iaload, 1) := by decide +kernel
theorem dX11_isMark_17 : decode cX11_isMark 17 = .ok (.iconst 1, 1) := by decide +kernel
theorem dX11_isMark_18 : decode cX11_isMark 18 = .ok (.iand, 1) := by decide +kernel
theorem dX11_isMark_19 : decode cX11_isMark 19 = .ok (.ifCond .ne 7, 3) := by decide +kernel
theorem dX11_isMark_22 : decode cX11_isMark 22 = .ok (.iconst 1, 1) := by decide +kernel
theorem dX11_isMark_23 : decode cX11_isMark 23 = .ok (.goto 4, 3) := by decide +kernel
theorem dX11_isMark_26 : decode cX11_isMark 26 = .ok (.iconst 0, 1) := by decide +kernel
theorem dX11_isMark_27 : decode cX11_isMark 27 = .ok (.ireturn, 1) := by decide +kernel
theorem dX11_layOut_0 : decode cX11_layOut 0 = .ok (.aload_n 0, 1) := by decide +kernel
theorem dX11_layOut_1 : decode cX11_layOut 1 = .ok (.iconst 0, 1) := by decide +kernel
theorem dX11_layOut_2 : decode cX11_layOut 2 = .ok (.putfield 112, 3) := by decide +kernel
theorem dX11_layOut_5 : decode cX11_layOut 5 = .ok (.iconst 0, 1) := by decide +kernel
theorem dX11_layOut_6 : decode cX11_layOut 6 = .ok (.istore_n 1, 1) := by decide +kernel
theorem dX11_layOut_7 : decode cX11_layOut 7 = .ok (.iload_n 1, 1) := by decide +kernel
theorem dX11_layOut_8 : decode cX11_layOut 8 = .ok (.aload_n 0, 1) := by decide +kernel
theorem dX11_layOut_9 : decode cX11_layOut 9 = .ok (.getfield 109, 3) := by decide +kernel
theorem dX11_layOut_12 : decode cX11_layOut 12 = .ok (.if_icmp .ge 71, 3) := by decide +kernel
theorem dX11_layOut_15 : decode cX11_layOut 15 = .ok (.aload_n 0, 1) := by decide +kernel
theorem dX11_layOut_16 : decode cX11_layOut 16 = .ok (.iload_n 1, 1) := by decide +kernel
theorem dX11_layOut_17 : decode cX11_layOut 17 = .ok (.invokevirtual 115, 3) := by decide +kernel
theorem dX11_layOut_20 : decode cX11_layOut 20 = .ok (.ifCond .eq 57, 3) := by decide +kernel
theorem dX11_layOut_23 : decode cX11_layOut 23 = .ok (.aload_n 0, 1) := by decide +kernel
theorem dX11_layOut_24 : decode cX11_layOut 24 = .ok (.getfield 37, 3) := by decide +kernel
theorem dX11_layOut_27 : decode cX11_layOut 27 = .ok (.aload_n 0, 1) := by decide +kernel
theorem dX11_layOut_28 : decode cX11_layOut 28 = .ok (.getfield 112, 3) := by decide +kernel
theorem dX11_layOut_31 : decode cX11_layOut 31 = .ok (.iload_n 1, 1) := by decide +kernel
theorem dX11_layOut_32 : decode cX11_layOut 32 = .ok (.iconst 1, 1) := by decide +kernel
theorem dX11_layOut_33 : decode cX11_layOut 33 = .ok (.iadd, 1) := by decide +kernel
theorem dX11_layOut_34 : decode cX11_layOut 34 = .ok (.iastore, 1) := by decide +kernel
theorem dX11_layOut_35 : decode cX11_layOut 35 = .ok (.aload_n 0, 1) := by decide +kernel
theorem dX11_layOut_36 : decode cX11_layOut 36 = .ok (.getfield 40, 3) := by decide +kernel
theorem dX11_layOut_39 : decode cX11_layOut 39 = .ok (.aload_n 0, 1) := by decide +kernel
theorem dX11_layOut_40 : decode cX11_layOut 40 = .ok (.getfield 112, 3) := by decide +kernel
theorem dX11_layOut_43 : decode cX11_layOut 43 = .ok (.aload_n 0, 1) := by decide +kernel
theorem dX11_layOut_44 : decode cX11_layOut 44 = .ok (.getfield 109, 3) := by decide +kernel
theorem dX11_layOut_47 : decode cX11_layOut 47 = .ok (.iastore, 1) := by decide +kernel
theorem dX11_layOut_48 : decode cX11_layOut 48 = .ok (.aload_n 0, 1) := by decide +kernel
theorem dX11_layOut_49 : decode cX11_layOut 49 = .ok (.getfield 112, 3) := by decide +kernel
theorem dX11_layOut_52 : decode cX11_layOut 52 = .ok (.ifCond .le 15, 3) := by decide +kernel
theorem dX11_layOut_55 : decode cX11_layOut 55 = .ok (.aload_n 0, 1) := by decide +kernel
theorem dX11_layOut_56 : decode cX11_layOut 56 = .ok (.getfield 40, 3) := by decide +kernel
theorem dX11_layOut_59 : decode cX11_layOut 59 = .ok (.aload_n 0, 1) := by decide +kernel
theorem dX11_layOut_60 : decode cX11_layOut 60 = .ok (.getfield 112, 3) := by decide +kernel
theorem dX11_layOut_63 : decode cX11_layOut 63 = .ok (.iconst 1, 1) := by decide +kernel
theorem dX11_layOut_64 : decode cX11_layOut 64 = .ok (.isub, 1) := by decide +kernel
theorem dX11_layOut_65 : decode cX11_layOut 65 = .ok (.iload_n 1, 1) := by decide +kernel
theorem dX11_layOut_66 : decode cX11_layOut 66 = .ok (.iastore, 1) := by decide +kernel
theorem dX11_layOut_67 : decode cX11_layOut 67 = .ok (.aload_n 0, 1) := by decide +kernel
theorem dX11_layOut_68 : decode cX11_layOut 68 = .ok (.dup, 1) := by decide +kernel
theorem dX11_layOut_69 : decode cX11_layOut 69 = .ok (.getfield 112, 3) := by decide +kernel
theorem dX11_layOut_72 : decode cX11_layOut 72 = .ok (.iconst 1, 1) := by decide +kernel
theorem dX11_layOut_73 : decode cX11_layOut 73 = .ok (.iadd, 1) := by decide +kernel
theorem dX11_layOut_74 : decode cX11_layOut 74 = .ok (.putfield 112, 3) := by decide +kernel
theorem dX11_layOut_77 : decode cX11_layOut 77 = .ok (.iinc 1 1, 3) := by decide +kernel
theorem dX11_layOut_80 : decode cX11_layOut 80 = .ok (.goto (-73), 3) := by decide +kernel
theorem dX11_layOut_83 : decode cX11_layOut 83 = .ok (.iconst 0, 1) := by decide +kernel
theorem dX11_layOut_84 : decode cX11_layOut 84 = .ok (.istore_n 1, 1) := by decide +kernel
theorem dX11_layOut_85 : decode cX11_layOut 85 = .ok (.iload_n 1, 1) := by decide +kernel
theorem dX11_layOut_86 : decode cX11_layOut 86 = .ok (.aload_n 0, 1) := by decide +kernel
theorem dX11_layOut_87 : decode cX11_layOut 87 = .ok (.getfield 112, 3) := by decide +kernel
theorem dX11_layOut_90 : decode cX11_layOut 90 = .ok (.if_icmp .ge 25, 3) := by decide +kernel
theorem dX11_layOut_93 : decode cX11_layOut 93 = .ok (.aload_n 0, 1) := by decide +kernel
theorem dX11_layOut_94 : decode cX11_layOut 94 = .ok (.aload_n 0, 1) := by decide +kernel
theorem dX11_layOut_95 : decode cX11_layOut 95 = .ok (.getfield 37, 3) := by decide +kernel
theorem dX11_layOut_98 : decode cX11_layOut 98 = .ok (.iload_n 1, 1) := by decide +kernel
theorem dX11_layOut_99 : decode cX11_layOut 99 = .ok (.iaload, 1) := by decide +kernel
theorem dX11_layOut_100 : decode cX11_layOut 100 = .ok (.aload_n 0, 1) := by decide +kernel
theorem dX11_layOut_101 : decode cX11_layOut 101 = .ok (.getfield 40, 3) := by decide +kernel
theorem dX11_layOut_104 : decode cX11_layOut 104 = .ok (.iload_n 1, 1) := by decide +kernel
theorem dX11_layOut_105 : decode cX11_layOut 105 = .ok (.iaload, 1) := by decide +kernel
theorem dX11_layOut_106 : decode cX11_layOut 106 = .ok (.invokevirtual 119, 3) := by decide +kernel
theorem dX11_layOut_109 : decode cX11_layOut 109 = .ok (.iinc 1 1, 3) := by decide +kernel
theorem dX11_layOut_112 : decode cX11_layOut 112 = .ok (.goto (-27), 3) := by decide +kernel
theorem dX11_layOut_115 : decode cX11_layOut 115 = .ok (.return_, 1) := by decide +kernel
theorem dX11_layOutRoutine_0 : decode cX11_layOutRoutine 0 = .ok (.iconst 0, 1) := by decide +kernel
theorem dX11_layOutRoutine_1 : decode cX11_layOutRoutine 1 = .ok (.istore_n 3, 1) := by decide +kernel
theorem dX11_layOutRoutine_2 : decode cX11_layOutRoutine 2 = .ok (.iload_n 1, 1) := by decide +kernel
theorem dX11_layOutRoutine_3 : decode cX11_layOutRoutine 3 = .ok (.istore 4, 2) := by decide +kernel
theorem dX11_layOutRoutine_5 : decode cX11_layOutRoutine 5 = .ok (.iload 4, 2) := by decide +kernel
theorem dX11_layOutRoutine_7 : decode cX11_layOutRoutine 7 = .ok (.iload_n 2, 1) := by decide +kernel
theorem dX11_layOutRoutine_8 : decode cX11_layOutRoutine 8 = .ok (.if_icmp .ge 119, 3) := by decide +kernel
theorem dX11_layOutRoutine_11 : decode cX11_layOutRoutine 11 = .ok (.aload_n 0, 1) := by decide +kernel
theorem dX11_layOutRoutine_12 : decode cX11_layOutRoutine 12 = .ok (.getfield 7, 3) := by decide +kernel
theorem dX11_layOutRoutine_15 : decode cX11_layOutRoutine 15 = .ok (.iload 4, 2) := by decide +kernel
theorem dX11_layOutRoutine_17 : decode cX11_layOutRoutine 17 = .ok (.iaload, 1) := by decide +kernel
theorem dX11_layOutRoutine_18 : decode cX11_layOutRoutine 18 = .ok (.istore 5, 2) := by decide +kernel
theorem dX11_layOutRoutine_20 : decode cX11_layOutRoutine 20 = .ok (.aload_n 0, 1) := by decide +kernel
theorem dX11_layOutRoutine_21 : decode cX11_layOutRoutine 21 = .ok (.getfield 22, 3) := by decide +kernel
theorem dX11_layOutRoutine_24 : decode cX11_layOutRoutine 24 = .ok (.iload 4, 2) := by decide +kernel
theorem dX11_layOutRoutine_26 : decode cX11_layOutRoutine 26 = .ok (.iconst (-1), 1) := by decide +kernel
theorem dX11_layOutRoutine_27 : decode cX11_layOutRoutine 27 = .ok (.iastore, 1) := by decide +kernel
theorem dX11_layOutRoutine_28 : decode cX11_layOutRoutine 28 = .ok (.iload 5, 2) := by decide +kernel
theorem dX11_layOutRoutine_30 : decode cX11_layOutRoutine 30 = .ok (.bipush 25, 2) := by decide +kernel
theorem dX11_layOutRoutine_32 : decode cX11_layOutRoutine 32 = .ok (.if_icmp .eq 17, 3) := by decide +kernel
theorem dX11_layOutRoutine_35 : decode cX11_layOutRoutine 35 = .ok (.iload 5, 2) := by decide +kernel
theorem dX11_layOutRoutine_37 : decode cX11_layOutRoutine 37 = .ok (.bipush 29, 2) := by decide +kernel
theorem dX11_layOutRoutine_39 : decode cX11_layOutRoutine 39 = .ok (.if_icmp .eq 10, 3) := by decide +kernel
theorem dX11_layOutRoutine_42 : decode cX11_layOutRoutine 42 = .ok (.iload 5, 2) := by decide +kernel
theorem dX11_layOutRoutine_44 : decode cX11_layOutRoutine 44 = .ok (.bipush 30, 2) := by decide +kernel
theorem dX11_layOutRoutine_46 : decode cX11_layOutRoutine 46 = .ok (.if_icmp .ne 49, 3) := by decide +kernel
theorem dX11_layOutRoutine_49 : decode cX11_layOutRoutine 49 = .ok (.aload_n 0, 1) := by decide +kernel
theorem dX11_layOutRoutine_50 : decode cX11_layOutRoutine 50 = .ok (.getfield 34, 3) := by decide +kernel
theorem dX11_layOutRoutine_53 : decode cX11_layOutRoutine 53 = .ok (.iload_n 3, 1) := by decide +kernel
theorem dX11_layOutRoutine_54 : decode cX11_layOutRoutine 54 = .ok (.iload 4, 2) := by decide +kernel
theorem dX11_layOutRoutine_56 : decode cX11_layOutRoutine 56 = .ok (.iastore, 1) := by decide +kernel
theorem dX11_layOutRoutine_57 : decode cX11_layOutRoutine 57 = .ok (.iinc 3 1, 3) := by decide +kernel
theorem dX11_layOutRoutine_60 : decode cX11_layOutRoutine 60 = .ok (.aload_n 0, 1) := by decide +kernel
theorem dX11_layOutRoutine_61 : decode cX11_layOutRoutine 61 = .ok (.getfield 25, 3) := by decide +kernel
theorem dX11_layOutRoutine_64 : decode cX11_layOutRoutine 64 = .ok (.iload 4, 2) := by decide +kernel
theorem dX11_layOutRoutine_66 : decode cX11_layOutRoutine 66 = .ok (.iconst (-1), 1) := by decide +kernel
theorem dX11_layOutRoutine_67 : decode cX11_layOutRoutine 67 = .ok (.iastore, 1) := by decide +kernel
theorem dX11_layOutRoutine_68 : decode cX11_layOutRoutine 68 = .ok (.aload_n 0, 1) := by decide +kernel
theorem dX11_layOutRoutine_69 : decode cX11_layOutRoutine 69 = .ok (.getfield 28, 3) := by decide +kernel
theorem dX11_layOutRoutine_72 : decode cX11_layOutRoutine 72 = .ok (.iload 4, 2) := by decide +kernel
theorem dX11_layOutRoutine_74 : decode cX11_layOutRoutine 74 = .ok (.iconst (-1), 1) := by decide +kernel
theorem dX11_layOutRoutine_75 : decode cX11_layOutRoutine 75 = .ok (.iastore, 1) := by decide +kernel
theorem dX11_layOutRoutine_76 : decode cX11_layOutRoutine 76 = .ok (.aload_n 0, 1) := by decide +kernel
theorem dX11_layOutRoutine_77 : decode cX11_layOutRoutine 77 = .ok (.getfield 22, 3) := by decide +kernel
theorem dX11_layOutRoutine_80 : decode cX11_layOutRoutine 80 = .ok (.iload 4, 2) := by decide +kernel
theorem dX11_layOutRoutine_82 : decode cX11_layOutRoutine 82 = .ok (.iload_n 2, 1) := by decide +kernel
theorem dX11_layOutRoutine_83 : decode cX11_layOutRoutine 83 = .ok (.iastore, 1) := by decide +kernel
theorem dX11_layOutRoutine_84 : decode cX11_layOutRoutine 84 = .ok (.aload_n 0, 1) := by decide +kernel
theorem dX11_layOutRoutine_85 : decode cX11_layOutRoutine 85 = .ok (.getfield 31, 3) := by decide +kernel
theorem dX11_layOutRoutine_88 : decode cX11_layOutRoutine 88 = .ok (.iload 4, 2) := by decide +kernel
theorem dX11_layOutRoutine_90 : decode cX11_layOutRoutine 90 = .ok (.iload_n 2, 1) := by decide +kernel
theorem dX11_layOutRoutine_91 : decode cX11_layOutRoutine 91 = .ok (.iastore, 1) := by decide +kernel
theorem dX11_layOutRoutine_92 : decode cX11_layOutRoutine 92 = .ok (.goto 29, 3) := by decide +kernel
theorem dX11_layOutRoutine_95 : decode cX11_layOutRoutine 95 = .ok (.iload_n 3, 1) := by decide +kernel
theorem dX11_layOutRoutine_96 : decode cX11_layOutRoutine 96 = .ok (.ifCond .le 25, 3) := by decide +kernel
theorem dX11_layOutRoutine_99 : decode cX11_layOutRoutine 99 = .ok (.aload_n 0, 1) := by decide +kernel
theorem dX11_layOutRoutine_100 : decode cX11_layOutRoutine 100 = .ok (.iload 4, 2) := by decide +kernel
theorem dX11_layOutRoutine_102 : decode cX11_layOutRoutine 102 = .ok (.iload 5, 2) := by decide +kernel
theorem dX11_layOutRoutine_104 : decode cX11_layOutRoutine 104 = .ok (.aload_n 0, 1) := by decide +kernel
theorem dX11_layOutRoutine_105 : decode cX11_layOutRoutine 105 = .ok (.getfield 34, 3) := by decide +kernel
theorem dX11_layOutRoutine_108 : decode cX11_layOutRoutine 108 = .ok (.iload_n 3, 1) := by decide +kernel
theorem dX11_layOutRoutine_109 : decode cX11_layOutRoutine 109 = .ok (.iconst 1, 1) := by decide +kernel
theorem dX11_layOutRoutine_110 : decode cX11_layOutRoutine 110 = .ok (.isub, 1) := by decide +kernel
theorem dX11_layOutRoutine_111 : decode cX11_layOutRoutine 111 = .ok (.iaload, 1) := by decide +kernel
theorem dX11_layOutRoutine_112 : decode cX11_layOutRoutine 112 = .ok (.invokevirtual 123, 3) := by decide +kernel
theorem dX11_layOutRoutine_115 : decode cX11_layOutRoutine 115 = .ok (.ifCond .eq 6, 3) := by decide +kernel
theorem dX11_layOutRoutine_118 : decode cX11_layOutRoutine 118 = .ok (.iinc 3 (-1), 3) := by decide +kernel
theorem dX11_layOutRoutine_121 : decode cX11_layOutRoutine 121 = .ok (.iinc 4 1, 3) := by decide +kernel
theorem dX11_layOutRoutine_124 : decode cX11_layOutRoutine 124 = .ok (.goto (-119), 3) := by decide +kernel
theorem dX11_layOutRoutine_127 : decode cX11_layOutRoutine 127 = .ok (.return_, 1) := by decide +kernel
theorem dX11_belongs_0 : decode cX11_belongs 0 = .ok (.aload_n 0, 1) := by decide +kernel
theorem dX11_belongs_1 : decode cX11_belongs 1 = .ok (.getfield 7, 3) := by decide +kernel
theorem dX11_belongs_4 : decode cX11_belongs 4 = .ok (.iload_n 3, 1) := by decide +kernel
theorem dX11_belongs_5 : decode cX11_belongs 5 = .ok (.iaload, 1) := by decide +kernel
theorem dX11_belongs_6 : decode cX11_belongs 6 = .ok (.bipush 25, 2) := by decide +kernel
theorem dX11_belongs_8 : decode cX11_belongs 8 = .ok (.if_icmp .ne 7, 3) := by decide +kernel
theorem dX11_belongs_11 : decode cX11_belongs 11 = .ok (.iconst 1, 1) := by decide +kernel
theorem dX11_belongs_12 : decode cX11_belongs 12 = .ok (.goto 4, 3) := by decide +kernel
theorem dX11_belongs_15 : decode cX11_belongs 15 = .ok (.iconst 0, 1) := by decide +kernel
theorem dX11_belongs_16 : decode cX11_belongs 16 = .ok (.istore 4, 2) := by decide +kernel
theorem dX11_belongs_18 : decode cX11_belongs 18 = .ok (.iload_n 2, 1) := by decide +kernel
theorem dX11_belongs_19 : decode cX11_belongs 19 = .ok (.bipush 26, 2) := by decide +kernel
theorem dX11_belongs_21 : decode cX11_belongs 21 = .ok (.if_icmp .ne 33, 3) := by decide +kernel
theorem dX11_belongs_24 : decode cX11_belongs 24 = .ok (.iload 4, 2) := by decide +kernel
theorem dX11_belongs_26 : decode cX11_belongs 26 = .ok (.ifCond .eq 28, 3) := by decide +kernel
theorem dX11_belongs_29 : decode cX11_belongs 29 = .ok (.aload_n 0, 1) := by decide +kernel
theorem dX11_belongs_30 : decode cX11_belongs 30 = .ok (.getfield 25, 3) := by decide +kernel
theorem dX11_belongs_33 : decode cX11_belongs 33 = .ok (.iload_n 3, 1) := by decide +kernel
theorem dX11_belongs_34 : decode cX11_belongs 34 = .ok (.iaload, 1) := by decide +kernel
theorem dX11_belongs_35 : decode cX11_belongs 35 = .ok (.ifCond .ge 19, 3) := by decide +kernel
theorem dX11_belongs_38 : decode cX11_belongs 38 = .ok (.aload_n 0, 1) := by decide +kernel
theorem dX11_belongs_39 : decode cX11_belongs 39 = .ok (.getfield 28, 3) := by decide +kernel
theorem dX11_belongs_42 : decode cX11_belongs 42 = .ok (.iload_n 3, 1) := by decide +kernel
theorem dX11_belongs_43 : decode cX11_belongs 43 = .ok (.iaload, 1) := by decide +kernel
theorem dX11_belongs_44 : decode cX11_belongs 44 = .ok (.ifCond .ge 10, 3) := by decide +kernel
theorem dX11_belongs_47 : decode cX11_belongs 47 = .ok (.aload_n 0, 1) := by decide +kernel
theorem dX11_belongs_48 : decode cX11_belongs 48 = .ok (.getfield 25, 3) := by decide +kernel
theorem dX11_belongs_51 : decode cX11_belongs 51 = .ok (.iload_n 3, 1) := by decide +kernel
theorem dX11_belongs_52 : decode cX11_belongs 52 = .ok (.iload_n 1, 1) := by decide +kernel
theorem dX11_belongs_53 : decode cX11_belongs 53 = .ok (.iastore, 1) := by decide +kernel
theorem dX11_belongs_54 : decode cX11_belongs 54 = .ok (.iload_n 2, 1) := by decide +kernel
theorem dX11_belongs_55 : decode cX11_belongs 55 = .ok (.bipush 27, 2) := by decide +kernel
theorem dX11_belongs_57 : decode cX11_belongs 57 = .ok (.if_icmp .ne 24, 3) := by decide +kernel
theorem dX11_belongs_60 : decode cX11_belongs 60 = .ok (.iload 4, 2) := by decide +kernel
theorem dX11_belongs_62 : decode cX11_belongs 62 = .ok (.ifCond .eq 19, 3) := by decide +kernel
theorem dX11_belongs_65 : decode cX11_belongs 65 = .ok (.aload_n 0, 1) := by decide +kernel
theorem dX11_belongs_66 : decode cX11_belongs 66 = .ok (.getfield 28, 3) := by decide +kernel
theorem dX11_belongs_69 : decode cX11_belongs 69 = .ok (.iload_n 3, 1) := by decide +kernel
theorem dX11_belongs_70 : decode cX11_belongs 70 = .ok (.iaload, 1) := by decide +kernel
theorem dX11_belongs_71 : decode cX11_belongs 71 = .ok (.ifCond .ge 10, 3) := by decide +kernel
theorem dX11_belongs_74 : decode cX11_belongs 74 = .ok (.aload_n 0, 1) := by decide +kernel
theorem dX11_belongs_75 : decode cX11_belongs 75 = .ok (.getfield 28, 3) := by decide +kernel
theorem dX11_belongs_78 : decode cX11_belongs 78 = .ok (.iload_n 3, 1) := by decide +kernel
theorem dX11_belongs_79 : decode cX11_belongs 79 = .ok (.iload_n 1, 1) := by decide +kernel
theorem dX11_belongs_80 : decode cX11_belongs 80 = .ok (.iastore, 1) := by decide +kernel
theorem dX11_belongs_81 : decode cX11_belongs 81 = .ok (.iload_n 2, 1) := by decide +kernel
theorem dX11_belongs_82 : decode cX11_belongs 82 = .ok (.bipush 28, 2) := by decide +kernel
theorem dX11_belongs_84 : decode cX11_belongs 84 = .ok (.if_icmp .ne 8, 3) := by decide +kernel
theorem dX11_belongs_87 : decode cX11_belongs 87 = .ok (.iload 4, 2) := by decide +kernel
theorem dX11_belongs_89 : decode cX11_belongs 89 = .ok (.ifCond .ne 14, 3) := by decide +kernel
theorem dX11_belongs_92 : decode cX11_belongs 92 = .ok (.iload_n 2, 1) := by decide +kernel
theorem dX11_belongs_93 : decode cX11_belongs 93 = .ok (.bipush 31, 2) := by decide +kernel
theorem dX11_belongs_95 : decode cX11_belongs 95 = .ok (.if_icmp .ne 12, 3) := by decide +kernel
theorem dX11_belongs_98 : decode cX11_belongs 98 = .ok (.iload 4, 2) := by decide +kernel
theorem dX11_belongs_100 : decode cX11_belongs 100 = .ok (.ifCond .ne 7, 3) := by decide +kernel
theorem dX11_belongs_103 : decode cX11_belongs 103 = .ok (.iconst 1, 1) := by decide +kernel
theorem dX11_belongs_104 : decode cX11_belongs 104 = .ok (.goto 4, 3) := by decide +kernel
theorem dX11_belongs_107 : decode cX11_belongs 107 = .ok (.iconst 0, 1) := by decide +kernel
theorem dX11_belongs_108 : decode cX11_belongs 108 = .ok (.istore 5, 2) := by decide +kernel
theorem dX11_belongs_110 : decode cX11_belongs 110 = .ok (.iload 5, 2) := by decide +kernel
theorem dX11_belongs_112 : decode cX11_belongs 112 = .ok (.ifCond .eq 19, 3) := by decide +kernel
theorem dX11_belongs_115 : decode cX11_belongs 115 = .ok (.aload_n 0, 1) := by decide +kernel
theorem dX11_belongs_116 : decode cX11_belongs 116 = .ok (.getfield 22, 3) := by decide +kernel
theorem dX11_belongs_119 : decode cX11_belongs 119 = .ok (.iload_n 3, 1) := by decide +kernel
theorem dX11_belongs_120 : decode cX11_belongs 120 = .ok (.iload_n 1, 1) := by decide +kernel
theorem dX11_belongs_121 : decode cX11_belongs 121 = .ok (.iastore, 1) := by decide +kernel
theorem dX11_belongs_122 : decode cX11_belongs 122 = .ok (.aload_n 0, 1) := by decide +kernel
theorem dX11_belongs_123 : decode cX11_belongs 123 = .ok (.getfield 31, 3) := by decide +kernel
theorem dX11_belongs_126 : decode cX11_belongs 126 = .ok (.iload_n 3, 1) := by decide +kernel
theorem dX11_belongs_127 : decode cX11_belongs 127 = .ok (.iload_n 1, 1) := by decide +kernel
theorem dX11_belongs_128 : decode cX11_belongs 128 = .ok (.iconst 1, 1) := by decide +kernel
theorem dX11_belongs_129 : decode cX11_belongs 129 = .ok (.iadd, 1) := by decide +kernel
theorem dX11_belongs_130 : decode cX11_belongs 130 = .ok (.iastore, 1) := by decide +kernel
theorem dX11_belongs_131 : decode cX11_belongs 131 = .ok (.iload 5, 2) := by decide +kernel
theorem dX11_belongs_133 : decode cX11_belongs 133 = .ok (.ireturn, 1) := by decide +kernel
theorem dX11_run_0 : decode cX11_run 0 = .ok (.aload_n 0, 1) := by decide +kernel
theorem dX11_run_1 : decode cX11_run 1 = .ok (.invokevirtual 127, 3) := by decide +kernel
theorem dX11_run_4 : decode cX11_run 4 = .ok (.iload_n 1, 1) := by decide +kernel
theorem dX11_run_5 : decode cX11_run 5 = .ok (.ifCond .lt 11, 3) := by decide +kernel
theorem dX11_run_8 : decode cX11_run 8 = .ok (.iload_n 1, 1) := by decide +kernel
theorem dX11_run_9 : decode cX11_run 9 = .ok (.aload_n 0, 1) := by decide +kernel
theorem dX11_run_10 : decode cX11_run 10 = .ok (.getfield 112, 3) := by decide +kernel
theorem dX11_run_13 : decode cX11_run 13 = .ok (.if_icmp .lt 5, 3) := by decide +kernel
theorem dX11_run_16 : decode cX11_run 16 = .ok (.iconst (-1), 1) := by decide +kernel
theorem dX11_run_17 : decode cX11_run 17 = .ok (.ireturn, 1) := by decide +kernel
theorem dX11_run_18 : decode cX11_run 18 = .ok (.iload_n 2, 1) := by decide +kernel
theorem dX11_run_19 : decode cX11_run 19 = .ok (.iconst 1, 1) := by decide +kernel
theorem dX11_run_20 : decode cX11_run 20 = .ok (.if_icmp .lt 10, 3) := by decide +kernel
theorem dX11_run_23 : decode cX11_run 23 = .ok (.iload_n 2, 1) := by decide +kernel
theorem dX11_run_24 : decode cX11_run 24 = .ok (.sipush 1000, 3) := by decide +kernel
theorem dX11_run_27 : decode cX11_run 27 = .ok (.if_icmp .le 6, 3) := by decide +kernel
theorem dX11_run_30 : decode cX11_run 30 = .ok (.bipush (-2), 2) := by decide +kernel
theorem dX11_run_32 : decode cX11_run 32 = .ok (.ireturn, 1) := by decide +kernel
theorem dX11_run_33 : decode cX11_run 33 = .ok (.aload_n 0, 1) := by decide +kernel
theorem dX11_run_34 : decode cX11_run 34 = .ok (.getfield 130, 3) := by decide +kernel
theorem dX11_run_37 : decode cX11_run 37 = .ok (.sipush 8000, 3) := by decide +kernel
theorem dX11_run_40 : decode cX11_run 40 = .ok (.iload_n 2, 1) := by decide +kernel
theorem dX11_run_41 : decode cX11_run 41 = .ok (.isub, 1) := by decide +kernel
theorem dX11_run_42 : decode cX11_run 42 = .ok (.if_icmp .le 6, 3) := by decide +kernel
theorem dX11_run_45 : decode cX11_run 45 = .ok (.bipush (-3), 2) := by decide +kernel
theorem dX11_run_47 : decode cX11_run 47 = .ok (.ireturn, 1) := by decide +kernel
theorem dX11_run_48 : decode cX11_run 48 = .ok (.aload_n 0, 1) := by decide +kernel
theorem dX11_run_49 : decode cX11_run 49 = .ok (.iload_n 2, 1) := by decide +kernel
theorem dX11_run_50 : decode cX11_run 50 = .ok (.invokevirtual 133, 3) := by decide +kernel
theorem dX11_run_53 : decode cX11_run 53 = .ok (.aload_n 0, 1) := by decide +kernel
theorem dX11_run_54 : decode cX11_run 54 = .ok (.iload_n 1, 1) := by decide +kernel
theorem dX11_run_55 : decode cX11_run 55 = .ok (.iconst (-1), 1) := by decide +kernel
theorem dX11_run_56 : decode cX11_run 56 = .ok (.invokevirtual 137, 3) := by decide +kernel
theorem dX11_run_59 : decode cX11_run 59 = .ok (.iconst 0, 1) := by decide +kernel
theorem dX11_run_60 : decode cX11_run 60 = .ok (.istore_n 3, 1) := by decide +kernel
theorem dX11_run_61 : decode cX11_run 61 = .ok (.iload_n 3, 1) := by decide +kernel
theorem dX11_run_62 : decode cX11_run 62 = .ok (.sipush 5000, 3) := by decide +kernel
theorem dX11_run_65 : decode cX11_run 65 = .ok (.if_icmp .ge 20, 3) := by decide +kernel
theorem dX11_run_68 : decode cX11_run 68 = .ok (.aload_n 0, 1) := by decide +kernel
theorem dX11_run_69 : decode cX11_run 69 = .ok (.getfield 140, 3) := by decide +kernel
theorem dX11_run_72 : decode cX11_run 72 = .ok (.ifCond .eq 13, 3) := by decide +kernel
theorem dX11_run_75 : decode cX11_run 75 = .ok (.aload_n 0, 1) := by decide +kernel
theorem dX11_run_76 : decode cX11_run 76 = .ok (.invokevirtual 144, 3) := by decide +kernel
theorem dX11_run_79 : decode cX11_run 79 = .ok (.iinc 3 1, 3) := by decide +kernel
theorem dX11_run_82 : decode cX11_run 82 = .ok (.goto (-21), 3) := by decide +kernel
theorem dX11_run_85 : decode cX11_run 85 = .ok (.aload_n 0, 1) := by decide +kernel
theorem dX11_run_86 : decode cX11_run 86 = .ok (.dup, 1) := by decide +kernel
theorem dX11_run_87 : decode cX11_run 87 = .ok (.getfield 147, 3) := by decide +kernel
theorem dX11_run_90 : decode cX11_run 90 = .ok (.iconst 1, 1) := by decide +kernel
theorem dX11_run_91 : decode cX11_run 91 = .ok (.iadd, 1) := by decide +kernel
theorem dX11_run_92 : decode cX11_run 92 = .ok (.putfield 147, 3) := by decide +kernel
theorem dX11_run_95 : decode cX11_run 95 = .ok (.aload_n 0, 1) := by decide +kernel
theorem dX11_run_96 : decode cX11_run 96 = .ok (.dup, 1) := by decide +kernel
theorem dX11_run_97 : decode cX11_run 97 = .ok (.getfield 130, 3) := by decide +kernel
theorem dX11_run_100 : decode cX11_run 100 = .ok (.aload_n 0, 1) := by decide +kernel
theorem dX11_run_101 : decode cX11_run 101 = .ok (.getfield 150, 3) := by decide +kernel
theorem dX11_run_104 : decode cX11_run 104 = .ok (.iadd, 1) := by decide +kernel
theorem dX11_run_105 : decode cX11_run 105 = .ok (.putfield 130, 3) := by decide +kernel
theorem dX11_run_108 : decode cX11_run 108 = .ok (.aload_n 0, 1) := by decide +kernel
theorem dX11_run_109 : decode cX11_run 109 = .ok (.getfield 150, 3) := by decide +kernel
theorem dX11_run_112 : decode cX11_run 112 = .ok (.ireturn, 1) := by decide +kernel
theorem dX11_begin_0 : decode cX11_begin 0 = .ok (.aload_n 0, 1) := by decide +kernel
theorem dX11_begin_1 : decode cX11_begin 1 = .ok (.iload_n 1, 1) := by decide +kernel
theorem dX11_begin_2 : decode cX11_begin 2 = .ok (.putfield 153, 3) := by decide +kernel
theorem dX11_begin_5 : decode cX11_begin 5 = .ok (.aload_n 0, 1) := by decide +kernel
theorem dX11_begin_6 : decode cX11_begin 6 = .ok (.iconst 0, 1) := by decide +kernel
theorem dX11_begin_7 : decode cX11_begin 7 = .ok (.putfield 150, 3) := by decide +kernel
theorem dX11_begin_10 : decode cX11_begin 10 = .ok (.aload_n 0, 1) := by decide +kernel
theorem dX11_begin_11 : decode cX11_begin 11 = .ok (.iconst 0, 1) := by decide +kernel
theorem dX11_begin_12 : decode cX11_begin 12 = .ok (.putfield 156, 3) := by decide +kernel
theorem dX11_begin_15 : decode cX11_begin 15 = .ok (.aload_n 0, 1) := by decide +kernel
theorem dX11_begin_16 : decode cX11_begin 16 = .ok (.iconst 0, 1) := by decide +kernel
theorem dX11_begin_17 : decode cX11_begin 17 = .ok (.putfield 159, 3) := by decide +kernel
theorem dX11_begin_20 : decode cX11_begin 20 = .ok (.aload_n 0, 1) := by decide +kernel
theorem dX11_begin_21 : decode cX11_begin 21 = .ok (.iconst 0, 1) := by decide +kernel
theorem dX11_begin_22 : decode cX11_begin 22 = .ok (.putfield 162, 3) := by decide +kernel
theorem dX11_begin_25 : decode cX11_begin 25 = .ok (.aload_n 0, 1) := by decide +kernel
theorem dX11_begin_26 : decode cX11_begin 26 = .ok (.iconst 0, 1) := by decide +kernel
theorem dX11_begin_27 : decode cX11_begin 27 = .ok (.putfield 165, 3) := by decide +kernel
theorem dX11_begin_30 : decode cX11_begin 30 = .ok (.aload_n 0, 1) := by decide +kernel
theorem dX11_begin_31 : decode cX11_begin 31 = .ok (.iconst 0, 1) := by decide +kernel
theorem dX11_begin_32 : decode cX11_begin 32 = .ok (.putfield 168, 3) := by decide +kernel
theorem dX11_begin_35 : decode cX11_begin 35 = .ok (.aload_n 0, 1) := by decide +kernel
theorem dX11_begin_36 : decode cX11_begin 36 = .ok (.iconst 0, 1) := by decide +kernel
theorem dX11_begin_37 : decode cX11_begin 37 = .ok (.putfield 171, 3) := by decide +kernel
theorem dX11_begin_40 : decode cX11_begin 40 = .ok (.aload_n 0, 1) := by decide +kernel
theorem dX11_begin_41 : decode cX11_begin 41 = .ok (.lconst 0, 1) := by decide +kernel
theorem dX11_begin_42 : decode cX11_begin 42 = .ok (.putfield 174, 3) := by decide +kernel
theorem dX11_begin_45 : decode cX11_begin 45 = .ok (.aload_n 0, 1) := by decide +kernel
theorem dX11_begin_46 : decode cX11_begin 46 = .ok (.iconst 0, 1) := by decide +kernel
theorem dX11_begin_47 : decode cX11_begin 47 = .ok (.putfield 178, 3) := by decide +kernel
theorem dX11_begin_50 : decode cX11_begin 50 = .ok (.aload_n 0, 1) := by decide +kernel
theorem dX11_begin_51 : decode cX11_begin 51 = .ok (.iconst 1, 1) := by decide +kernel
theorem dX11_begin_52 : decode cX11_begin 52 = .ok (.putfield 140, 3) := by decide +kernel
theorem dX11_begin_55 : decode cX11_begin 55 = .ok (.return_, 1) := by decide +kernel
theorem dX11_stop_0 : decode cX11_stop 0 = .ok (.aload_n 0, 1) := by decide +kernel
theorem dX11_stop_1 : decode cX11_stop 1 = .ok (.iload_n 1, 1) := by decide +kernel
theorem dX11_stop_2 : decode cX11_stop 2 = .ok (.putfield 99, 3) := by decide +kernel
theorem dX11_stop_5 : decode cX11_stop 5 = .ok (.aload_n 0, 1) := by decide +kernel
theorem dX11_stop_6 : decode cX11_stop 6 = .ok (.iconst 0, 1) := by decide +kernel
theorem dX11_stop_7 : decode cX11_stop 7 = .ok (.putfield 140, 3) := by decide +kernel
theorem dX11_stop_10 : decode cX11_stop 10 = .ok (.return_, 1) := by decide +kernel
theorem dX11_takes_0 : decode cX11_takes 0 = .ok (.aload_n 0, 1) := by decide +kernel
theorem dX11_takes_1 : decode cX11_takes 1 = .ok (.getfield 153, 3) := by decide +kernel
theorem dX11_takes_4 : decode cX11_takes 4 = .ok (.ifCond .ne 10, 3) := by decide +kernel
theorem dX11_takes_7 : decode cX11_takes 7 = .ok (.aload_n 0, 1) := by decide +kernel
theorem dX11_takes_8 : decode cX11_takes 8 = .ok (.iconst 3, 1) := by decide +kernel
theorem dX11_takes_9 : decode cX11_takes 9 = .ok (.invokevirtual 181, 3) := by decide +kernel
theorem dX11_takes_12 : decode cX11_takes 12 = .ok (.iconst 0, 1) := by decide +kernel
theorem dX11_takes_13 : decode cX11_takes 13 = .ok (.ireturn, 1) := by decide +kernel
theorem dX11_takes_14 : decode cX11_takes 14 = .ok (.aload_n 0, 1) := by decide +kernel
theorem dX11_takes_15 : decode cX11_takes 15 = .ok (.dup, 1) := by decide +kernel
theorem dX11_takes_16 : decode cX11_takes 16 = .ok (.getfield 153, 3) := by decide +kernel
theorem dX11_takes_19 : decode cX11_takes 19 = .ok (.iconst 1, 1) := by decide +kernel
theorem dX11_takes_20 : decode cX11_takes 20 = .ok (.isub, 1) := by decide +kernel
theorem dX11_takes_21 : decode cX11_takes 21 = .ok (.putfield 153, 3) := by decide +kernel
theorem dX11_takes_24 : decode cX11_takes 24 = .ok (.aload_n 0, 1) := by decide +kernel
theorem dX11_takes_25 : decode cX11_takes 25 = .ok (.dup, 1) := by decide +kernel
theorem dX11_takes_26 : decode cX11_takes 26 = .ok (.getfield 150, 3) := by decide +kernel
theorem dX11_takes_29 : decode cX11_takes 29 = .ok (.iconst 1, 1) := by decide +kernel
theorem dX11_takes_30 : decode cX11_takes 30 = .ok (.iadd, 1) := by decide +kernel
theorem dX11_takes_31 : decode cX11_takes 31 = .ok (.putfield 150, 3) := by decide +kernel
theorem dX11_takes_34 : decode cX11_takes 34 = .ok (.iconst 1, 1) := by decide +kernel
theorem dX11_takes_35 : decode cX11_takes 35 = .ok (.ireturn, 1) := by decide +kernel
theorem dX11_opens_0 : decode cX11_opens 0 = .ok (.aload_n 0, 1) := by decide +kernel
theorem dX11_opens_1 : decode cX11_opens 1 = .ok (.getfield 156, 3) := by decide +kernel
theorem dX11_opens_4 : decode cX11_opens 4 = .ok (.sipush 200, 3) := by decide +kernel
theorem dX11_opens_7 : decode cX11_opens 7 = .ok (.if_icmp .ne 10, 3) := by decide +kernel
theorem dX11_opens_10 : decode cX11_opens 10 = .ok (.aload_n 0, 1) := by decide +kernel
theorem dX11_opens_11 : decode cX11_opens 11 = .ok (.iconst 4, 1) := by decide +kernel
theorem dX11_opens_12 : decode cX11_opens 12 = .ok (.invokevirtual 181, 3) := by decide +kernel
theorem dX11_opens_15 : decode cX11_opens 15 = .ok (.iconst 0, 1) := by decide +kernel
theorem dX11_opens_16 : decode cX11_opens 16 = .ok (.ireturn, 1) := by decide +kernel
theorem dX11_opens_17 : decode cX11_opens 17 = .ok (.aload_n 0, 1) := by decide +kernel
theorem dX11_opens_18 : decode cX11_opens 18 = .ok (.getfield 69, 3) := by decide +kernel
theorem dX11_opens_21 : decode cX11_opens 21 = .ok (.aload_n 0, 1) := by decide +kernel
theorem dX11_opens_22 : decode cX11_opens 22 = .ok (.getfield 156, 3) := by decide +kernel
theorem dX11_opens_25 : decode cX11_opens 25 = .ok (.iload_n 1, 1) := by decide +kernel
theorem dX11_opens_26 : decode cX11_opens 26 = .ok (.iastore, 1) := by decide +kernel
theorem dX11_opens_27 : decode cX11_opens 27 = .ok (.aload_n 0, 1) := by decide +kernel
theorem dX11_opens_28 : decode cX11_opens 28 = .ok (.getfield 72, 3) := by decide +kernel
theorem dX11_opens_31 : decode cX11_opens 31 = .ok (.aload_n 0, 1) := by decide +kernel
theorem dX11_opens_32 : decode cX11_opens 32 = .ok (.getfield 156, 3) := by decide +kernel
theorem dX11_opens_35 : decode cX11_opens 35 = .ok (.iload_n 2, 1) := by decide +kernel
theorem dX11_opens_36 : decode cX11_opens 36 = .ok (.iastore, 1) := by decide +kernel
theorem dX11_opens_37 : decode cX11_opens 37 = .ok (.aload_n 0, 1) := by decide +kernel
theorem dX11_opens_38 : decode cX11_opens 38 = .ok (.getfield 75, 3) := by decide +kernel
theorem dX11_opens_41 : decode cX11_opens 41 = .ok (.aload_n 0, 1) := by decide +kernel
theorem dX11_opens_42 : decode cX11_opens 42 = .ok (.getfield 156, 3) := by decide +kernel
theorem dX11_opens_45 : decode cX11_opens 45 = .ok (.iload_n 3, 1) := by decide +kernel
theorem dX11_opens_46 : decode cX11_opens 46 = .ok (.iastore, 1) := by decide +kernel
theorem dX11_opens_47 : decode cX11_opens 47 = .ok (.aload_n 0, 1) := by decide +kernel
theorem dX11_opens_48 : decode cX11_opens 48 = .ok (.getfield 78, 3) := by decide +kernel
theorem dX11_opens_51 : decode cX11_opens 51 = .ok (.aload_n 0, 1) := by decide +kernel
theorem dX11_opens_52 : decode cX11_opens 52 = .ok (.getfield 156, 3) := by decide +kernel
theorem dX11_opens_55 : decode cX11_opens 55 = .ok (.iconst 0, 1) := by decide +kernel
theorem dX11_opens_56 : decode cX11_opens 56 = .ok (.iastore, 1) := by decide +kernel
theorem dX11_opens_57 : decode cX11_opens 57 = .ok (.aload_n 0, 1) := by decide +kernel
theorem dX11_opens_58 : decode cX11_opens 58 = .ok (.getfield 81, 3) := by decide +kernel
theorem dX11_opens_61 : decode cX11_opens 61 = .ok (.aload_n 0, 1) := by decide +kernel
theorem dX11_opens_62 : decode cX11_opens 62 = .ok (.getfield 156, 3) := by decide +kernel
theorem dX11_opens_65 : decode cX11_opens 65 = .ok (.iconst 0, 1) := by decide +kernel
theorem dX11_opens_66 : decode cX11_opens 66 = .ok (.iastore, 1) := by decide +kernel
theorem dX11_opens_67 : decode cX11_opens 67 = .ok (.aload_n 0, 1) := by decide +kernel
theorem dX11_opens_68 : decode cX11_opens 68 = .ok (.dup, 1) := by decide +kernel
theorem dX11_opens_69 : decode cX11_opens 69 = .ok (.getfield 156, 3) := by decide +kernel
theorem dX11_opens_72 : decode cX11_opens 72 = .ok (.iconst 1, 1) := by decide +kernel
theorem dX11_opens_73 : decode cX11_opens 73 = .ok (.iadd, 1) := by decide +kernel
theorem dX11_opens_74 : decode cX11_opens 74 = .ok (.putfield 156, 3) := by decide +kernel
theorem dX11_opens_77 : decode cX11_opens 77 = .ok (.aload_n 0, 1) := by decide +kernel
theorem dX11_opens_78 : decode cX11_opens 78 = .ok (.aload_n 0, 1) := by decide +kernel
theorem dX11_opens_79 : decode cX11_opens 79 = .ok (.getfield 156, 3) := by decide +kernel
theorem dX11_opens_82 : decode cX11_opens 82 = .ok (.aload_n 0, 1) := by decide +kernel
theorem dX11_opens_83 : decode cX11_opens 83 = .ok (.getfield 171, 3) := by decide +kernel
theorem dX11_opens_86 : decode cX11_opens 86 = .ok (.if_icmp .le 10, 3) := by decide +kernel
theorem dX11_opens_89 : decode cX11_opens 89 = .ok (.aload_n 0, 1) := by decide +kernel
theorem dX11_opens_90 : decode cX11_opens 90 = .ok (.getfield 156, 3) := by decide +kernel
theorem dX11_opens_93 : decode cX11_opens 93 = .ok (.goto 7, 3) := by decide +kernel
theorem dX11_opens_96 : decode cX11_opens 96 = .ok (.aload_n 0, 1) := by decide +kernel
theorem dX11_opens_97 : decode cX11_opens 97 = .ok (.getfield 171, 3) := by decide +kernel
theorem dX11_opens_100 : decode cX11_opens 100 = .ok (.putfield 171, 3) := by decide +kernel
theorem dX11_opens_103 : decode cX11_opens 103 = .ok (.iconst 1, 1) := by decide +kernel
theorem dX11_opens_104 : decode cX11_opens 104 = .ok (.ireturn, 1) := by decide +kernel
theorem dX11_enter_0 : decode cX11_enter 0 = .ok (.aload_n 0, 1) := by decide +kernel
theorem dX11_enter_1 : decode cX11_enter 1 = .ok (.iconst 0, 1) := by decide +kernel
theorem dX11_enter_2 : decode cX11_enter 2 = .ok (.iload_n 2, 1) := by decide +kernel
theorem dX11_enter_3 : decode cX11_enter 3 = .ok (.aload_n 0, 1) := by decide +kernel
theorem dX11_enter_4 : decode cX11_enter 4 = .ok (.getfield 40, 3) := by decide +kernel
theorem dX11_enter_7 : decode cX11_enter 7 = .ok (.iload_n 1, 1) := by decide +kernel
theorem dX11_enter_8 : decode cX11_enter 8 = .ok (.iaload, 1) := by decide +kernel
theorem dX11_enter_9 : decode cX11_enter 9 = .ok (.invokevirtual 184, 3) := by decide +kernel
theorem dX11_enter_12 : decode cX11_enter 12 = .ok (.ifCond .eq 13, 3) := by decide +kernel
theorem dX11_enter_15 : decode cX11_enter 15 = .ok (.aload_n 0, 1) := by decide +kernel
theorem dX11_enter_16 : decode cX11_enter 16 = .ok (.aload_n 0, 1) := by decide +kernel
theorem dX11_enter_17 : decode cX11_enter 17 = .ok (.getfield 37, 3) := by decide +kernel
theorem dX11_enter_20 : decode cX11_enter 20 = .ok (.iload_n 1, 1) := by decide +kernel
theorem dX11_enter_21 : decode cX11_enter 21 = .ok (.iaload, 1) := by decide +kernel
theorem dX11_enter_22 : decode cX11_enter 22 = .ok (.putfield 187, 3) := by decide +kernel
theorem dX11_enter_25 : decode cX11_enter 25 = .ok (.return_, 1) := by decide +kernel
theorem dX11_partEnd_0 : decode cX11_partEnd 0 = .ok (.aload_n 0, 1) := by decide +kernel
theorem dX11_partEnd_1 : decode cX11_partEnd 1 = .ok (.getfield 156, 3) := by decide +kernel
theorem dX11_partEnd_4 : decode cX11_partEnd 4 = .ok (.iconst 1, 1) := by decide +kernel
theorem dX11_partEnd_5 : decode cX11_partEnd 5 = .ok (.isub, 1) := by decide +kernel
theorem dX11_partEnd_6 : decode cX11_partEnd 6 = .ok (.istore_n 1, 1) := by decide +kernel
theorem dX11_partEnd_7 : decode cX11_partEnd 7 = .ok (.aload_n 0, 1) := by decide +kernel
theorem dX11_partEnd_8 : decode cX11_partEnd 8 = .ok (.getfield 69, 3) := by decide +kernel
theorem dX11_partEnd_11 : decode cX11_partEnd 11 = .ok (.iload_n 1, 1) := by decide +kernel
theorem dX11_partEnd_12 : decode cX11_partEnd 12 = .ok (.iaload, 1) := by decide +kernel
theorem dX11_partEnd_13 : decode cX11_partEnd 13 = .ok (.ifCond .ne 10, 3) := by decide +kernel
theorem dX11_partEnd_16 : decode cX11_partEnd 16 = .ok (.aload_n 0, 1) := by decide +kernel
theorem dX11_partEnd_17 : decode cX11_partEnd 17 = .ok (.getfield 75, 3) := by decide +kernel
theorem dX11_partEnd_20 : decode cX11_partEnd 20 = .ok (.iload_n 1, 1) := by decide +kernel
theorem dX11_partEnd_21 : decode cX11_partEnd 21 = .ok (.iaload, 1) := by decide +kernel
theorem dX11_partEnd_22 : decode cX11_partEnd 22 = .ok (.ireturn, 1) := by decide +kernel
theorem dX11_partEnd_23 : decode cX11_partEnd 23 = .ok (.aload_n 0, 1) := by decide +kernel
theorem dX11_partEnd_24 : decode cX11_partEnd 24 = .ok (.getfield 72, 3) := by decide +kernel
theorem dX11_partEnd_27 : decode cX11_partEnd 27 = .ok (.iload_n 1, 1) := by decide +kernel
theorem dX11_partEnd_28 : decode cX11_partEnd 28 = .ok (.iaload, 1) := by decide +kernel
theorem dX11_partEnd_29 : decode cX11_partEnd 29 = .ok (.istore_n 2, 1) := by decide +kernel
theorem dX11_partEnd_30 : decode cX11_partEnd 30 = .ok (.aload_n 0, 1) := by decide +kernel
theorem dX11_partEnd_31 : decode cX11_partEnd 31 = .ok (.getfield 22, 3) := by decide +kernel
theorem dX11_partEnd_34 : decode cX11_partEnd 34 = .ok (.iload_n 2, 1) := by decide +kernel
theorem dX11_partEnd_35 : decode cX11_partEnd 35 = .ok (.iaload, 1) := by decide +kernel
theorem dX11_partEnd_36 : decode cX11_partEnd 36 = .ok (.istore_n 3, 1) := by decide +kernel
theorem dX11_partEnd_37 : decode cX11_partEnd 37 = .ok (.aload_n 0, 1) := by decide +kernel
theorem dX11_partEnd_38 : decode cX11_partEnd 38 = .ok (.getfield 69, 3) := by decide +kernel
theorem dX11_partEnd_41 : decode cX11_partEnd 41 = .ok (.iload_n 1, 1) := by decide +kernel
theorem dX11_partEnd_42 : decode cX11_partEnd 42 = .ok (.iaload, 1) := by decide +kernel
theorem dX11_partEnd_43 : decode cX11_partEnd 43 = .ok (.iconst 1, 1) := by decide +kernel
theorem dX11_partEnd_44 : decode cX11_partEnd 44 = .ok (.if_icmp .ne 13, 3) := by decide +kernel
theorem dX11_partEnd_47 : decode cX11_partEnd 47 = .ok (.aload_n 0, 1) := by decide +kernel
theorem dX11_partEnd_48 : decode cX11_partEnd 48 = .ok (.getfield 78, 3) := by decide +kernel
theorem dX11_partEnd_51 : decode cX11_partEnd 51 = .ok (.iload_n 1, 1) := by decide +kernel
theorem dX11_partEnd_52 : decode cX11_partEnd 52 = .ok (.iaload, 1) := by decide +kernel
theorem dX11_partEnd_53 : decode cX11_partEnd 53 = .ok (.iconst 2, 1) := by decide +kernel
theorem dX11_partEnd_54 : decode cX11_partEnd 54 = .ok (.if_icmp .ne 5, 3) := by decide +kernel
theorem dX11_partEnd_57 : decode cX11_partEnd 57 = .ok (.iload_n 3, 1) := by decide +kernel
theorem dX11_partEnd_58 : decode cX11_partEnd 58 = .ok (.ireturn, 1) := by decide +kernel
theorem dX11_partEnd_59 : decode cX11_partEnd 59 = .ok (.aload_n 0, 1) := by decide +kernel
theorem dX11_partEnd_60 : decode cX11_partEnd 60 = .ok (.getfield 28, 3) := by decide +kernel
theorem dX11_partEnd_63 : decode cX11_partEnd 63 = .ok (.iload_n 2, 1) := by decide +kernel
theorem dX11_partEnd_64 : decode cX11_partEnd 64 = .ok (.iaload, 1) := by decide +kernel
theorem dX11_partEnd_65 : decode cX11_partEnd 65 = .ok (.ifCond .lt 12, 3) := by decide +kernel
theorem dX11_partEnd_68 : decode cX11_partEnd 68 = .ok (.aload_n 0, 1) := by decide +kernel
theorem dX11_partEnd_69 : decode cX11_partEnd 69 = .ok (.getfield 28, 3) := by decide +kernel
theorem dX11_partEnd_72 : decode cX11_partEnd 72 = .ok (.iload_n 2, 1) := by decide +kernel
theorem dX11_partEnd_73 : decode cX11_partEnd 73 = .ok (.iaload, 1) := by decide +kernel
theorem dX11_partEnd_74 : decode cX11_partEnd 74 = .ok (.goto 4, 3) := by decide +kernel
theorem dX11_partEnd_77 : decode cX11_partEnd 77 = .ok (.iload_n 3, 1) := by decide +kernel
theorem dX11_partEnd_78 : decode cX11_partEnd 78 = .ok (.istore_n 3, 1) := by decide +kernel
theorem dX11_partEnd_79 : decode cX11_partEnd 79 = .ok (.aload_n 0, 1) := by decide +kernel
theorem dX11_partEnd_80 : decode cX11_partEnd 80 = .ok (.getfield 78, 3) := by decide +kernel
theorem dX11_partEnd_83 : decode cX11_partEnd 83 = .ok (.iload_n 1, 1) := by decide +kernel
theorem dX11_partEnd_84 : decode cX11_partEnd 84 = .ok (.iaload, 1) := by decide +kernel
theorem dX11_partEnd_85 : decode cX11_partEnd 85 = .ok (.ifCond .ne 21, 3) := by decide +kernel
theorem dX11_partEnd_88 : decode cX11_partEnd 88 = .ok (.aload_n 0, 1) := by decide +kernel
theorem dX11_partEnd_89 : decode cX11_partEnd 89 = .ok (.getfield 25, 3) := by decide +kernel
theorem dX11_partEnd_92 : decode cX11_partEnd 92 = .ok (.iload_n 2, 1) := by decide +kernel
theorem dX11_partEnd_93 : decode cX11_partEnd 93 = .ok (.iaload, 1) := by decide +kernel
theorem dX11_partEnd_94 : decode cX11_partEnd 94 = .ok (.ifCond .lt 12, 3) := by decide +kernel
theorem dX11_partEnd_97 : decode cX11_partEnd 97 = .ok (.aload_n 0, 1) := by decide +kernel
theorem dX11_partEnd_98 : decode cX11_partEnd 98 = .ok (.getfield 25, 3) := by decide +kernel
theorem dX11_partEnd_101 : decode cX11_partEnd 101 = .ok (.iload_n 2, 1) := by decide +kernel
theorem dX11_partEnd_102 : decode cX11_partEnd 102 = .ok (.iaload, 1) := by decide +kernel
theorem dX11_partEnd_103 : decode cX11_partEnd 103 = .ok (.goto 4, 3) := by decide +kernel
theorem dX11_partEnd_106 : decode cX11_partEnd 106 = .ok (.iload_n 3, 1) := by decide +kernel
theorem dX11_partEnd_107 : decode cX11_partEnd 107 = .ok (.ireturn, 1) := by decide +kernel
theorem dX11_goes_0 : decode cX11_goes 0 = .ok (.aload_n 0, 1) := by decide +kernel
theorem dX11_goes_1 : decode cX11_goes 1 = .ok (.getfield 187, 3) := by decide +kernel
theorem dX11_goes_4 : decode cX11_goes 4 = .ok (.aload_n 0, 1) := by decide +kernel
theorem dX11_goes_5 : decode cX11_goes 5 = .ok (.invokevirtual 190, 3) := by decide +kernel
theorem dX11_goes_8 : decode cX11_goes 8 = .ok (.if_icmp .ne 13, 3) := by decide +kernel
theorem dX11_goes_11 : decode cX11_goes 11 = .ok (.aload_n 0, 1) := by decide +kernel
theorem dX11_goes_12 : decode cX11_goes 12 = .ok (.iconst 0, 1) := by decide +kernel
theorem dX11_goes_13 : decode cX11_goes 13 = .ok (.putfield 194, 3) := by decide +kernel
theorem dX11_goes_16 : decode cX11_goes 16 = .ok (.aload_n 0, 1) := by decide +kernel
theorem dX11_goes_17 : decode cX11_goes 17 = .ok (.invokevirtual 197, 3) := by decide +kernel
theorem dX11_goes_20 : decode cX11_goes 20 = .ok (.return_, 1) := by decide +kernel
theorem dX11_goes_21 : decode cX11_goes 21 = .ok (.aload_n 0, 1) := by decide +kernel
theorem dX11_goes_22 : decode cX11_goes 22 = .ok (.invokevirtual 200, 3) := by decide +kernel
theorem dX11_goes_25 : decode cX11_goes 25 = .ok (.ifCond .ne 4, 3) := by decide +kernel
theorem dX11_goes_28 : decode cX11_goes 28 = .ok (.return_, 1) := by decide +kernel
theorem dX11_goes_29 : decode cX11_goes 29 = .ok (.aload_n 0, 1) := by decide +kernel
theorem dX11_goes_30 : decode cX11_goes 30 = .ok (.getfield 187, 3) := by decide +kernel
theorem dX11_goes_33 : decode cX11_goes 33 = .ok (.istore_n 1, 1) := by decide +kernel
theorem dX11_goes_34 : decode cX11_goes 34 = .ok (.aload_n 0, 1) := by decide +kernel
theorem dX11_goes_35 : decode cX11_goes 35 = .ok (.getfield 7, 3) := by decide +kernel
theorem dX11_goes_38 : decode cX11_goes 38 = .ok (.iload_n 1, 1) := by decide +kernel
theorem dX11_goes_39 : decode cX11_goes 39 = .ok (.iaload, 1) := by decide +kernel
theorem dX11_goes_40 : decode cX11_goes 40 = .ok (.istore_n 2, 1) := by decide +kernel
theorem dX11_goes_41 : decode cX11_goes 41 = .ok (.iload_n 2, 1) := by decide +kernel
theorem dX11_goes_42 : decode cX11_goes 42 = .ok (.bipush 25, 2) := by decide +kernel
theorem dX11_goes_44 : decode cX11_goes 44 = .ok (.if_icmp .ge 60, 3) := by decide +kernel
theorem dX11_goes_47 : decode cX11_goes 47 = .ok (.iload_n 2, 1) := by decide +kernel
theorem dX11_goes_48 : decode cX11_goes 48 = .ok (.bipush 7, 2) := by decide +kernel
theorem dX11_goes_50 : decode cX11_goes 50 = .ok (.if_icmp .ge 11, 3) := by decide +kernel
theorem dX11_goes_53 : decode cX11_goes 53 = .ok (.aload_n 0, 1) := by decide +kernel
theorem dX11_goes_54 : decode cX11_goes 54 = .ok (.iload_n 1, 1) := by decide +kernel
theorem dX11_goes_55 : decode cX11_goes 55 = .ok (.invokevirtual 204, 3) := by decide +kernel
theorem dX11_goes_58 : decode cX11_goes 58 = .ok (.goto 36, 3) := by decide +kernel
theorem dX11_goes_61 : decode cX11_goes 61 = .ok (.iload_n 2, 1) := by decide +kernel
theorem dX11_goes_62 : decode cX11_goes 62 = .ok (.bipush 14, 2) := by decide +kernel
theorem dX11_goes_64 : decode cX11_goes 64 = .ok (.if_icmp .ge 11, 3) := by decide +kernel
theorem dX11_goes_67 : decode cX11_goes 67 = .ok (.aload_n 0, 1) := by decide +kernel
theorem dX11_goes_68 : decode cX11_goes 68 = .ok (.iload_n 1, 1) := by decide +kernel
theorem dX11_goes_69 : decode cX11_goes 69 = .ok (.invokevirtual 208, 3) := by decide +kernel
theorem dX11_goes_72 : decode cX11_goes 72 = .ok (.goto 22, 3) := by decide +kernel
theorem dX11_goes_75 : decode cX11_goes 75 = .ok (.iload_n 2, 1) := by decide +kernel
theorem dX11_goes_76 : decode cX11_goes 76 = .ok (.bipush 22, 2) := by decide +kernel
theorem dX11_goes_78 : decode cX11_goes 78 = .ok (.if_icmp .ge 11, 3) := by decide +kernel
theorem dX11_goes_81 : decode cX11_goes 81 = .ok (.aload_n 0, 1) := by decide +kernel
theorem dX11_goes_82 : decode cX11_goes 82 = .ok (.iload_n 1, 1) := by decide +kernel
theorem dX11_goes_83 : decode cX11_goes 83 = .ok (.invokevirtual 211, 3) := by decide +kernel
theorem dX11_goes_86 : decode cX11_goes 86 = .ok (.goto 8, 3) := by decide +kernel
theorem dX11_goes_89 : decode cX11_goes 89 = .ok (.aload_n 0, 1) := by decide +kernel
theorem dX11_goes_90 : decode cX11_goes 90 = .ok (.iload_n 1, 1) := by decide +kernel
theorem dX11_goes_91 : decode cX11_goes 91 = .ok (.invokevirtual 214, 3) := by decide +kernel
theorem dX11_goes_94 : decode cX11_goes 94 = .ok (.istore_n 3, 1) := by decide +kernel
theorem dX11_goes_95 : decode cX11_goes 95 = .ok (.aload_n 0, 1) := by decide +kernel
theorem dX11_goes_96 : decode cX11_goes 96 = .ok (.iload_n 1, 1) := by decide +kernel
theorem dX11_goes_97 : decode cX11_goes 97 = .ok (.iload_n 3, 1) := by decide +kernel
theorem dX11_goes_98 : decode cX11_goes 98 = .ok (.invokevirtual 217, 3) := by decide +kernel
theorem dX11_goes_101 : decode cX11_goes 101 = .ok (.goto 132, 3) := by decide +kernel
theorem dX11_goes_104 : decode cX11_goes 104 = .ok (.iload_n 2, 1) := by decide +kernel
theorem dX11_goes_105 : decode cX11_goes 105 = .ok (.bipush 25, 2) := by decide +kernel
theorem dX11_goes_107 : decode cX11_goes 107 = .ok (.if_icmp .eq 15, 3) := by decide +kernel
theorem dX11_goes_110 : decode cX11_goes 110 = .ok (.iload_n 2, 1) := by decide +kernel
theorem dX11_goes_111 : decode cX11_goes 111 = .ok (.bipush 29, 2) := by decide +kernel
theorem dX11_goes_113 : decode cX11_goes 113 = .ok (.if_icmp .eq 9, 3) := by decide +kernel
theorem dX11_goes_116 : decode cX11_goes 116 = .ok (.iload_n 2, 1) := by decide +kernel
theorem dX11_goes_117 : decode cX11_goes 117 = .ok (.bipush 30, 2) := by decide +kernel
theorem dX11_goes_119 : decode cX11_goes 119 = .ok (.if_icmp .ne 12, 3) := by decide +kernel
theorem dX11_goes_122 : decode cX11_goes 122 = .ok (.aload_n 0, 1) := by decide +kernel
theorem dX11_goes_123 : decode cX11_goes 123 = .ok (.iload_n 1, 1) := by decide +kernel
theorem dX11_goes_124 : decode cX11_goes 124 = .ok (.iload_n 2, 1) := by decide +kernel
theorem dX11_goes_125 : decode cX11_goes 125 = .ok (.invokevirtual 220, 3) := by decide +kernel
theorem dX11_goes_128 : decode cX11_goes 128 = .ok (.goto 105, 3) := by decide +kernel
theorem dX11_goes_131 : decode cX11_goes 131 = .ok (.iload_n 2, 1) := by decide +kernel
theorem dX11_goes_132 : decode cX11_goes 132 = .ok (.bipush 35, 2) := by decide +kernel
theorem dX11_goes_134 : decode cX11_goes 134 = .ok (.if_icmp .ne 11, 3) := by decide +kernel
theorem dX11_goes_137 : decode cX11_goes 137 = .ok (.aload_n 0, 1) := by decide +kernel
theorem dX11_goes_138 : decode cX11_goes 138 = .ok (.iload_n 1, 1) := by decide +kernel
theorem dX11_goes_139 : decode cX11_goes 139 = .ok (.invokevirtual 223, 3) := by decide +kernel
theorem dX11_goes_142 : decode cX11_goes 142 = .ok (.goto 91, 3) := by decide +kernel
theorem dX11_goes_145 : decode cX11_goes 145 = .ok (.iload_n 2, 1) := by decide +kernel
theorem dX11_goes_146 : decode cX11_goes 146 = .ok (.bipush 32, 2) := by decide +kernel
theorem dX11_goes_148 : decode cX11_goes 148 = .ok (.if_icmp .eq 15, 3) := by decide +kernel
theorem dX11_goes_151 : decode cX11_goes 151 = .ok (.iload_n 2, 1) := by decide +kernel
theorem dX11_goes_152 : decode cX11_goes 152 = .ok (.bipush 33, 2) := by decide +kernel
theorem dX11_goes_154 : decode cX11_goes 154 = .ok (.if_icmp .eq 9, 3) := by decide +kernel
theorem dX11_goes_157 : decode cX11_goes 157 = .ok (.iload_n 2, 1) := by decide +kernel
theorem dX11_goes_158 : decode cX11_goes 158 = .ok (.bipush 34, 2) := by decide +kernel
theorem dX11_goes_160 : decode cX11_goes 160 = .ok (.if_icmp .ne 63, 3) := by decide +kernel
theorem dX11_goes_163 : decode cX11_goes 163 = .ok (.aload_n 0, 1) := by decide +kernel
theorem dX11_goes_164 : decode cX11_goes 164 = .ok (.iload_n 2, 1) := by decide +kernel
theorem dX11_goes_165 : decode cX11_goes 165 = .ok (.bipush 32, 2) := by decide +kernel
theorem dX11_goes_167 : decode cX11_goes 167 = .ok (.if_icmp .ne 7, 3) := by decide +kernel
theorem dX11_goes_170 : decode cX11_goes 170 = .ok (.iconst 3, 1) := by decide +kernel
theorem dX11_goes_171 : decode cX11_goes 171 = .ok (.goto 14, 3) := by decide +kernel
theorem dX11_goes_174 : decode cX11_goes 174 = .ok (.iload_n 2, 1) := by decide +kernel
theorem dX11_goes_175 : decode cX11_goes 175 = .ok (.bipush 33, 2) := by decide +kernel
theorem dX11_goes_177 : decode cX11_goes 177 = .ok (.if_icmp .ne 7, 3) := by decide +kernel
theorem dX11_goes_180 : decode cX11_goes 180 = .ok (.iconst 4, 1) := by decide +kernel
theorem dX11_goes_181 : decode cX11_goes 181 = .ok (.goto 4, 3) := by decide +kernel
theorem dX11_goes_184 : decode cX11_goes 184 = .ok (.iconst 1, 1) := by decide +kernel
theorem dX11_goes_185 : decode cX11_goes 185 = .ok (.putfield 194, 3) := by decide +kernel
theorem dX11_goes_188 : decode cX11_goes 188 = .ok (.aload_n 0, 1) := by decide +kernel
theorem dX11_goes_189 : decode cX11_goes 189 = .ok (.iload_n 2, 1) := by decide +kernel
theorem dX11_goes_190 : decode cX11_goes 190 = .ok (.bipush 34, 2) := by decide +kernel
theorem dX11_goes_192 : decode cX11_goes 192 = .ok (.if_icmp .ne 20, 3) := by decide +kernel
theorem dX11_goes_195 : decode cX11_goes 195 = .ok (.aload_n 0, 1) := by decide +kernel
theorem dX11_goes_196 : decode cX11_goes 196 = .ok (.getfield 43, 3) := by decide +kernel
theorem dX11_goes_199 : decode cX11_goes 199 = .ok (.aload_n 0, 1) := by decide +kernel
theorem dX11_goes_200 : decode cX11_goes 200 = .ok (.getfield 13, 3) := by decide +kernel
theorem dX11_goes_203 : decode cX11_goes 203 = .ok (.iload_n 1, 1) := by decide +kernel
theorem dX11_goes_204 : decode cX11_goes 204 = .ok (.iaload, 1) := by decide +kernel
theorem dX11_goes_205 : decode cX11_goes 205 = .ok (.bipush 7, 2) := by decide +kernel
theorem dX11_goes_207 : decode cX11_goes 207 = .ok (.iand, 1) := by decide +kernel
theorem dX11_goes_208 : decode cX11_goes 208 = .ok (.laload, 1) := by decide +kernel
theorem dX11_goes_209 : decode cX11_goes 209 = .ok (.goto 4, 3) := by decide +kernel
theorem dX11_goes_212 : decode cX11_goes 212 = .ok (.lconst 0, 1) := by decide +kernel
theorem dX11_goes_213 : decode cX11_goes 213 = .ok (.putfield 226, 3) := by decide +kernel
theorem dX11_goes_216 : decode cX11_goes 216 = .ok (.aload_n 0, 1) := by decide +kernel
theorem dX11_goes_217 : decode cX11_goes 217 = .ok (.invokevirtual 197, 3) := by decide +kernel
theorem dX11_goes_220 : decode cX11_goes 220 = .ok (.goto 13, 3) := by decide +kernel
theorem dX11_goes_223 : decode cX11_goes 223 = .ok (.aload_n 0, 1) := by decide +kernel
theorem dX11_goes_224 : decode cX11_goes 224 = .ok (.dup, 1) := by decide +kernel
theorem dX11_goes_225 : decode cX11_goes 225 = .ok (.getfield 187, 3) := by decide +kernel
theorem dX11_goes_228 : decode cX11_goes 228 = .ok (.iconst 1, 1) := by decide +kernel
theorem dX11_goes_229 : decode cX11_goes 229 = .ok (.iadd, 1) := by decide +kernel
theorem dX11_goes_230 : decode cX11_goes 230 = .ok (.putfield 187, 3) := by decide +kernel
theorem dX11_goes_233 : decode cX11_goes 233 = .ok (.return_, 1) := by decide +kernel
theorem dX11_goOn_0 : decode cX11_goOn 0 = .ok (.iload_n 2, 1) := by decide +kernel
theorem dX11_goOn_1 : decode cX11_goOn 1 = .ok (.ifCond .ne 11, 3) := by decide +kernel
theorem dX11_goOn_4 : decode cX11_goOn 4 = .ok (.aload_n 0, 1) := by decide +kernel
theorem dX11_goOn_5 : decode cX11_goOn 5 = .ok (.iload_n 1, 1) := by decide +kernel
theorem dX11_goOn_6 : decode cX11_goOn 6 = .ok (.iconst 1, 1) := by decide +kernel
theorem dX11_goOn_7 : decode cX11_goOn 7 = .ok (.iadd, 1) := by decide +kernel
theorem dX11_goOn_8 : decode cX11_goOn 8 = .ok (.putfield 187, 3) := by decide +kernel
theorem dX11_goOn_11 : decode cX11_goOn 11 = .ok (.return_, 1) := by decide +kernel
theorem dX11_goOn_12 : decode cX11_goOn 12 = .ok (.iload_n 2, 1) := by decide +kernel
theorem dX11_goOn_13 : decode cX11_goOn 13 = .ok (.ifCond .le 11, 3) := by decide +kernel
theorem dX11_goOn_16 : decode cX11_goOn 16 = .ok (.aload_n 0, 1) := by decide +kernel
theorem dX11_goOn_17 : decode cX11_goOn 17 = .ok (.iload_n 2, 1) := by decide +kernel
theorem dX11_goOn_18 : decode cX11_goOn 18 = .ok (.iconst 1, 1) := by decide +kernel
theorem dX11_goOn_19 : decode cX11_goOn 19 = .ok (.isub, 1) := by decide +kernel
theorem dX11_goOn_20 : decode cX11_goOn 20 = .ok (.iconst 0, 1) := by decide +kernel
theorem dX11_goOn_21 : decode cX11_goOn 21 = .ok (.invokevirtual 229, 3) := by decide +kernel
theorem dX11_goOn_24 : decode cX11_goOn 24 = .ok (.aload_n 0, 1) := by decide +kernel
theorem dX11_goOn_25 : decode cX11_goOn 25 = .ok (.iconst 2, 1) := by decide +kernel
theorem dX11_goOn_26 : decode cX11_goOn 26 = .ok (.putfield 194, 3) := by decide +kernel
theorem dX11_goOn_29 : decode cX11_goOn 29 = .ok (.aload_n 0, 1) := by decide +kernel
theorem dX11_goOn_30 : decode cX11_goOn 30 = .ok (.invokevirtual 197, 3) := by decide +kernel
theorem dX11_goOn_33 : decode cX11_goOn 33 = .ok (.return_, 1) := by decide +kernel
theorem dX11_makeFailure_0 : decode cX11_makeFailure 0 = .ok (.aload_n 0, 1) := by decide +kernel
theorem dX11_makeFailure_1 : decode cX11_makeFailure 1 = .ok (.dup, 1) := by decide +kernel
theorem dX11_makeFailure_2 : decode cX11_makeFailure 2 = .ok (.getfield 159, 3) := by decide +kernel
theorem dX11_makeFailure_5 : decode cX11_makeFailure 5 = .ok (.iconst 1, 1) := by decide +kernel
theorem dX11_makeFailure_6 : decode cX11_makeFailure 6 = .ok (.iadd, 1) := by decide +kernel
theorem dX11_makeFailure_7 : decode cX11_makeFailure 7 = .ok (.putfield 159, 3) := by decide +kernel
theorem dX11_makeFailure_10 : decode cX11_makeFailure 10 = .ok (.aload_n 0, 1) := by decide +kernel
theorem dX11_makeFailure_11 : decode cX11_makeFailure 11 = .ok (.getfield 93, 3) := by decide +kernel
theorem dX11_makeFailure_14 : decode cX11_makeFailure 14 = .ok (.aload_n 0, 1) := by decide +kernel
theorem dX11_makeFailure_15 : decode cX11_makeFailure 15 = .ok (.getfield 159, 3) := by decide +kernel
theorem dX11_makeFailure_18 : decode cX11_makeFailure 18 = .ok (.iload_n 1, 1) := by decide +kernel
theorem dX11_makeFailure_19 : decode cX11_makeFailure 19 = .ok (.iastore, 1) := by decide +kernel
theorem dX11_makeFailure_20 : decode cX11_makeFailure 20 = .ok (.aload_n 0, 1) := by decide +kernel
theorem dX11_makeFailure_21 : decode cX11_makeFailure 21 = .ok (.getfield 96, 3) := by decide +kernel
theorem dX11_makeFailure_24 : decode cX11_makeFailure 24 = .ok (.aload_n 0, 1) := by decide +kernel
theorem dX11_makeFailure_25 : decode cX11_makeFailure 25 = .ok (.getfield 159, 3) := by decide +kernel
theorem dX11_makeFailure_28 : decode cX11_makeFailure 28 = .ok (.iload_n 2, 1) := by decide +kernel
theorem dX11_makeFailure_29 : decode cX11_makeFailure 29 = .ok (.iastore, 1) := by decide +kernel
theorem dX11_makeFailure_30 : decode cX11_makeFailure 30 = .ok (.aload_n 0, 1) := by decide +kernel
theorem dX11_makeFailure_31 : decode cX11_makeFailure 31 = .ok (.aload_n 0, 1) := by decide +kernel
theorem dX11_makeFailure_32 : decode cX11_makeFailure 32 = .ok (.getfield 159, 3) := by decide +kernel
theorem dX11_makeFailure_35 : decode cX11_makeFailure 35 = .ok (.putfield 232, 3) := by decide +kernel
theorem dX11_makeFailure_38 : decode cX11_makeFailure 38 = .ok (.return_, 1) := by decide +kernel
theorem dX11_block_0 : decode cX11_block 0 = .ok (.aload_n 0, 1) := by decide +kernel
theorem dX11_block_1 : decode cX11_block 1 = .ok (.iload_n 2, 1) := by decide +kernel
theorem dX11_block_2 : decode cX11_block 2 = .ok (.bipush 25, 2) := by decide +kernel
theorem dX11_block_4 : decode cX11_block 4 = .ok (.if_icmp .ne 7, 3) := by decide +kernel
theorem dX11_block_7 : decode cX11_block 7 = .ok (.iconst 1, 1) := by decide +kernel
theorem dX11_block_8 : decode cX11_block 8 = .ok (.goto 14, 3) := by decide +kernel
theorem dX11_block_11 : decode cX11_block 11 = .ok (.iload_n 2, 1) := by decide +kernel
theorem dX11_block_12 : decode cX11_block 12 = .ok (.bipush 29, 2) := by decide +kernel
theorem dX11_block_14 : decode cX11_block 14 = .ok (.if_icmp .ne 7, 3) := by decide +kernel
theorem dX11_block_17 : decode cX11_block 17 = .ok (.iconst 2, 1) := by decide +kernel
theorem dX11_block_18 : decode cX11_block 18 = .ok (.goto 4, 3) := by decide +kernel
theorem dX11_block_21 : decode cX11_block 21 = .ok (.iconst 3, 1) := by decide +kernel
theorem dX11_block_22 : decode cX11_block 22 = .ok (.iload_n 1, 1) := by decide +kernel
theorem dX11_block_23 : decode cX11_block 23 = .ok (.iconst 0, 1) := by decide +kernel
theorem dX11_block_24 : decode cX11_block 24 = .ok (.invokevirtual 184, 3) := by decide +kernel
theorem dX11_block_27 : decode cX11_block 27 = .ok (.ifCond .ne 4, 3) := by decide +kernel
theorem dX11_block_30 : decode cX11_block 30 = .ok (.return_, 1) := by decide +kernel
theorem dX11_block_31 : decode cX11_block 31 = .ok (.iload_n 2, 1) := by decide +kernel
theorem dX11_block_32 : decode cX11_block 32 = .ok (.bipush 29, 2) := by decide +kernel
theorem dX11_block_34 : decode cX11_block 34 = .ok (.if_icmp .ne 9, 3) := by decide +kernel
theorem dX11_block_37 : decode cX11_block 37 = .ok (.aload_n 0, 1) := by decide +kernel
theorem dX11_block_38 : decode cX11_block 38 = .ok (.iload_n 1, 1) := by decide +kernel
theorem dX11_block_39 : decode cX11_block 39 = .ok (.invokevirtual 235, 3) := by decide +kernel
theorem dX11_block_42 : decode cX11_block 42 = .ok (.return_, 1) := by decide +kernel
theorem dX11_block_43 : decode cX11_block 43 = .ok (.iload_n 2, 1) := by decide +kernel
theorem dX11_block_44 : decode cX11_block 44 = .ok (.bipush 25, 2) := by decide +kernel
theorem dX11_block_46 : decode cX11_block 46 = .ok (.if_icmp .eq 35, 3) := by decide +kernel
theorem dX11_block_49 : decode cX11_block 49 = .ok (.aload_n 0, 1) := by decide +kernel
theorem dX11_block_50 : decode cX11_block 50 = .ok (.getfield 43, 3) := by decide +kernel
theorem dX11_block_53 : decode cX11_block 53 = .ok (.aload_n 0, 1) := by decide +kernel
theorem dX11_block_54 : decode cX11_block 54 = .ok (.getfield 13, 3) := by decide +kernel
theorem dX11_block_57 : decode cX11_block 57 = .ok (.iload_n 1, 1) := by decide +kernel
theorem dX11_block_58 : decode cX11_block 58 = .ok (.iaload, 1) := by decide +kernel
theorem dX11_block_59 : decode cX11_block 59 = .ok (.bipush 7, 2) := by decide +kernel
theorem dX11_block_61 : decode cX11_block 61 = .ok (.iand, 1) := by decide +kernel
theorem dX11_block_62 : decode cX11_block 62 = .ok (.laload, 1) := by decide +kernel
theorem dX11_block_63 : decode cX11_block 63 = .ok (.aload_n 0, 1) := by decide +kernel
theorem dX11_block_64 : decode cX11_block 64 = .ok (.getfield 43, 3) := by decide +kernel
theorem dX11_block_67 : decode cX11_block 67 = .ok (.aload_n 0, 1) := by decide +kernel
theorem dX11_block_68 : decode cX11_block 68 = .ok (.getfield 16, 3) := by decide +kernel
theorem dX11_block_71 : decode cX11_block 71 = .ok (.iload_n 1, 1) := by decide +kernel
theorem dX11_block_72 : decode cX11_block 72 = .ok (.iaload, 1) := by decide +kernel
theorem dX11_block_73 : decode cX11_block 73 = .ok (.bipush 7, 2) := by decide +kernel
theorem dX11_block_75 : decode cX11_block 75 = .ok (.iand, 1) := by decide +kernel
theorem dX11_block_76 : decode cX11_block 76 = .ok (.laload, 1) := by decide +kernel
theorem dX11_block_77 : decode cX11_block 77 = .ok (.lcmp, 1) := by decide +kernel
theorem dX11_block_78 : decode cX11_block 78 = .ok (.ifCond .ge 7, 3) := by decide +kernel
theorem dX11_block_81 : decode cX11_block 81 = .ok (.iconst 1, 1) := by decide +kernel
theorem dX11_block_82 : decode cX11_block 82 = .ok (.goto 4, 3) := by decide +kernel
theorem dX11_block_85 : decode cX11_block 85 = .ok (.iconst 0, 1) := by decide +kernel
theorem dX11_block_86 : decode cX11_block 86 = .ok (.istore_n 3, 1) := by decide +kernel
theorem dX11_block_87 : decode cX11_block 87 = .ok (.aload_n 0, 1) := by decide +kernel
theorem dX11_block_88 : decode cX11_block 88 = .ok (.iload_n 3, 1) := by decide +kernel
theorem dX11_block_89 : decode cX11_block 89 = .ok (.ifCond .eq 9, 3) := by decide +kernel
theorem dX11_block_92 : decode cX11_block 92 = .ok (.iload_n 1, 1) := by decide +kernel
theorem dX11_block_93 : decode cX11_block 93 = .ok (.iconst 1, 1) := by decide +kernel
theorem dX11_block_94 : decode cX11_block 94 = .ok (.iadd, 1) := by decide +kernel
theorem dX11_block_95 : decode cX11_block 95 = .ok (.goto 9, 3) := by decide +kernel
theorem dX11_block_98 : decode cX11_block 98 = .ok (.aload_n 0, 1) := by decide +kernel
theorem dX11_block_99 : decode cX11_block 99 = .ok (.getfield 31, 3) := by decide +kernel
theorem dX11_block_102 : decode cX11_block 102 = .ok (.iload_n 1, 1) := by decide +kernel
theorem dX11_block_103 : decode cX11_block 103 = .ok (.iaload, 1) := by decide +kernel
theorem dX11_block_104 : decode cX11_block 104 = .ok (.putfield 187, 3) := by decide +kernel
theorem dX11_block_107 : decode cX11_block 107 = .ok (.aload_n 0, 1) := by decide +kernel
theorem dX11_block_108 : decode cX11_block 108 = .ok (.dup, 1) := by decide +kernel
theorem dX11_block_109 : decode cX11_block 109 = .ok (.getfield 156, 3) := by decide +kernel
theorem dX11_block_112 : decode cX11_block 112 = .ok (.iload_n 3, 1) := by decide +kernel
theorem dX11_block_113 : decode cX11_block 113 = .ok (.ifCond .eq 7, 3) := by decide +kernel
theorem dX11_block_116 : decode cX11_block 116 = .ok (.iconst 0, 1) := by decide +kernel
theorem dX11_block_117 : decode cX11_block 117 = .ok (.goto 4, 3) := by decide +kernel
theorem dX11_block_120 : decode cX11_block 120 = .ok (.iconst 1, 1) := by decide +kernel
theorem dX11_block_121 : decode cX11_block 121 = .ok (.isub, 1) := by decide +kernel
theorem dX11_block_122 : decode cX11_block 122 = .ok (.putfield 156, 3) := by decide +kernel
theorem dX11_block_125 : decode cX11_block 125 = .ok (.return_, 1) := by decide +kernel
theorem dX11_looks_0 : decode cX11_looks 0 = .ok (.aload_n 0, 1) := by decide +kernel
theorem dX11_looks_1 : decode cX11_looks 1 = .ok (.getfield 13, 3) := by decide +kernel
theorem dX11_looks_4 : decode cX11_looks 4 = .ok (.iload_n 1, 1) := by decide +kernel
theorem dX11_looks_5 : decode cX11_looks 5 = .ok (.iaload, 1) := by decide +kernel
theorem dX11_looks_6 : decode cX11_looks 6 = .ok (.bipush 7, 2) := by decide +kernel
theorem dX11_looks_8 : decode cX11_looks 8 = .ok (.iand, 1) := by decide +kernel
theorem dX11_looks_9 : decode cX11_looks 9 = .ok (.istore_n 2, 1) := by decide +kernel
theorem dX11_looks_10 : decode cX11_looks 10 = .ok (.aload_n 0, 1) := by decide +kernel
theorem dX11_looks_11 : decode cX11_looks 11 = .ok (.getfield 43, 3) := by decide +kernel
theorem dX11_looks_14 : decode cX11_looks 14 = .ok (.iload_n 2, 1) := by decide +kernel
theorem dX11_looks_15 : decode cX11_looks 15 = .ok (.laload, 1) := by decide +kernel
theorem dX11_looks_16 : decode cX11_looks 16 = .ok (.lconst 0, 1) := by decide +kernel
theorem dX11_looks_17 : decode cX11_looks 17 = .ok (.lcmp, 1) := by decide +kernel
theorem dX11_looks_18 : decode cX11_looks 18 = .ok (.ifCond .le 21, 3) := by decide +kernel
theorem dX11_looks_21 : decode cX11_looks 21 = .ok (.aload_n 0, 1) := by decide +kernel
theorem dX11_looks_22 : decode cX11_looks 22 = .ok (.getfield 43, 3) := by decide +kernel
theorem dX11_looks_25 : decode cX11_looks 25 = .ok (.iload_n 2, 1) := by decide +kernel
theorem dX11_looks_26 : decode cX11_looks 26 = .ok (.dup2, 1) := by decide +kernel
theorem dX11_looks_27 : decode cX11_looks 27 = .ok (.laload, 1) := by decide +kernel
theorem dX11_looks_28 : decode cX11_looks 28 = .ok (.lconst 1, 1) := by decide +kernel
theorem dX11_looks_29 : decode cX11_looks 29 = .ok (.lsub, 1) := by decide +kernel
theorem dX11_looks_30 : decode cX11_looks 30 = .ok (.lastore, 1) := by decide +kernel
theorem dX11_looks_31 : decode cX11_looks 31 = .ok (.aload_n 0, 1) := by decide +kernel
theorem dX11_looks_32 : decode cX11_looks 32 = .ok (.iload_n 1, 1) := by decide +kernel
theorem dX11_looks_33 : decode cX11_looks 33 = .ok (.iconst 1, 1) := by decide +kernel
theorem dX11_looks_34 : decode cX11_looks 34 = .ok (.iadd, 1) := by decide +kernel
theorem dX11_looks_35 : decode cX11_looks 35 = .ok (.putfield 187, 3) := by decide +kernel
theorem dX11_looks_38 : decode cX11_looks 38 = .ok (.return_, 1) := by decide +kernel
theorem dX11_looks_39 : decode cX11_looks 39 = .ok (.aload_n 0, 1) := by decide +kernel
theorem dX11_looks_40 : decode cX11_looks 40 = .ok (.dup, 1) := by decide +kernel
theorem dX11_looks_41 : decode cX11_looks 41 = .ok (.getfield 156, 3) := by decide +kernel
theorem dX11_looks_44 : decode cX11_looks 44 = .ok (.iconst 1, 1) := by decide +kernel
theorem dX11_looks_45 : decode cX11_looks 45 = .ok (.isub, 1) := by decide +kernel
theorem dX11_looks_46 : decode cX11_looks 46 = .ok (.putfield 156, 3) := by decide +kernel
theorem dX11_looks_49 : decode cX11_looks 49 = .ok (.aload_n 0, 1) := by decide +kernel
theorem dX11_looks_50 : decode cX11_looks 50 = .ok (.aload_n 0, 1) := by decide +kernel
theorem dX11_looks_51 : decode cX11_looks 51 = .ok (.getfield 31, 3) := by decide +kernel
theorem dX11_looks_54 : decode cX11_looks 54 = .ok (.iload_n 1, 1) := by decide +kernel
theorem dX11_looks_55 : decode cX11_looks 55 = .ok (.iaload, 1) := by decide +kernel
theorem dX11_looks_56 : decode cX11_looks 56 = .ok (.putfield 187, 3) := by decide +kernel
theorem dX11_looks_59 : decode cX11_looks 59 = .ok (.return_, 1) := by decide +kernel
theorem dX11_call_0 : decode cX11_call 0 = .ok (.aload_n 0, 1) := by decide +kernel
theorem dX11_call_1 : decode cX11_call 1 = .ok (.getfield 13, 3) := by decide +kernel
theorem dX11_call_4 : decode cX11_call 4 = .ok (.iload_n 1, 1) := by decide +kernel
theorem dX11_call_5 : decode cX11_call 5 = .ok (.iaload, 1) := by decide +kernel
theorem dX11_call_6 : decode cX11_call 6 = .ok (.istore_n 2, 1) := by decide +kernel
theorem dX11_call_7 : decode cX11_call 7 = .ok (.iload_n 2, 1) := by decide +kernel
theorem dX11_call_8 : decode cX11_call 8 = .ok (.ifCond .lt 11, 3) := by decide +kernel
theorem dX11_call_11 : decode cX11_call 11 = .ok (.iload_n 2, 1) := by decide +kernel
theorem dX11_call_12 : decode cX11_call 12 = .ok (.aload_n 0, 1) := by decide +kernel
theorem dX11_call_13 : decode cX11_call 13 = .ok (.getfield 112, 3) := by decide +kernel
theorem dX11_call_16 : decode cX11_call 16 = .ok (.if_icmp .lt 11, 3) := by decide +kernel
theorem dX11_call_19 : decode cX11_call 19 = .ok (.aload_n 0, 1) := by decide +kernel
theorem dX11_call_20 : decode cX11_call 20 = .ok (.iload_n 1, 1) := by decide +kernel
theorem dX11_call_21 : decode cX11_call 21 = .ok (.bipush 7, 2) := by decide +kernel
theorem dX11_call_23 : decode cX11_call 23 = .ok (.invokevirtual 217, 3) := by decide +kernel
theorem dX11_call_26 : decode cX11_call 26 = .ok (.return_, 1) := by decide +kernel
theorem dX11_call_27 : decode cX11_call 27 = .ok (.aload_n 0, 1) := by decide +kernel
theorem dX11_call_28 : decode cX11_call 28 = .ok (.iload_n 2, 1) := by decide +kernel
theorem dX11_call_29 : decode cX11_call 29 = .ok (.iload_n 1, 1) := by decide +kernel
theorem dX11_call_30 : decode cX11_call 30 = .ok (.invokevirtual 137, 3) := by decide +kernel
theorem dX11_call_33 : decode cX11_call 33 = .ok (.return_, 1) := by decide +kernel
theorem dX11_comes_0 : decode cX11_comes 0 = .ok (.iconst 1, 1) := by decide +kernel
theorem dX11_comes_1 : decode cX11_comes 1 = .ok (.istore_n 1, 1) := by decide +kernel
theorem dX11_comes_2 : decode cX11_comes 2 = .ok (.iconst 0, 1) := by decide +kernel
theorem dX11_comes_3 : decode cX11_comes 3 = .ok (.istore_n 2, 1) := by decide +kernel
theorem dX11_comes_4 : decode cX11_comes 4 = .ok (.iload_n 2, 1) := by decide +kernel
theorem dX11_comes_5 : decode cX11_comes 5 = .ok (.sipush 500, 3) := by decide +kernel
theorem dX11_comes_8 : decode cX11_comes 8 = .ok (.if_icmp .ge 78, 3) := by decide +kernel
theorem dX11_comes_11 : decode cX11_comes 11 = .ok (.iload_n 1, 1) := by decide +kernel
theorem dX11_comes_12 : decode cX11_comes 12 = .ok (.ifCond .eq 74, 3) := by decide +kernel
theorem dX11_comes_15 : decode cX11_comes 15 = .ok (.aload_n 0, 1) := by decide +kernel
theorem dX11_comes_16 : decode cX11_comes 16 = .ok (.getfield 156, 3) := by decide +kernel
theorem dX11_comes_19 : decode cX11_comes 19 = .ok (.iconst 1, 1) := by decide +kernel
theorem dX11_comes_20 : decode cX11_comes 20 = .ok (.isub, 1) := by decide +kernel
theorem dX11_comes_21 : decode cX11_comes 21 = .ok (.istore_n 3, 1) := by decide +kernel
theorem dX11_comes_22 : decode cX11_comes 22 = .ok (.aload_n 0, 1) := by decide +kernel
theorem dX11_comes_23 : decode cX11_comes 23 = .ok (.getfield 69, 3) := by decide +kernel
theorem dX11_comes_26 : decode cX11_comes 26 = .ok (.iload_n 3, 1) := by decide +kernel
theorem dX11_comes_27 : decode cX11_comes 27 = .ok (.iaload, 1) := by decide +kernel
theorem dX11_comes_28 : decode cX11_comes 28 = .ok (.istore 4, 2) := by decide +kernel
theorem dX11_comes_30 : decode cX11_comes 30 = .ok (.iload 4, 2) := by decide +kernel
theorem dX11_comes_32 : decode cX11_comes 32 = .ok (.ifCond .ne 12, 3) := by decide +kernel
theorem dX11_comes_35 : decode cX11_comes 35 = .ok (.aload_n 0, 1) := by decide +kernel
theorem dX11_comes_36 : decode cX11_comes 36 = .ok (.iload_n 3, 1) := by decide +kernel
theorem dX11_comes_37 : decode cX11_comes 37 = .ok (.invokevirtual 238, 3) := by decide +kernel
theorem dX11_comes_40 : decode cX11_comes 40 = .ok (.istore_n 1, 1) := by decide +kernel
theorem dX11_comes_41 : decode cX11_comes 41 = .ok (.goto 39, 3) := by decide +kernel
theorem dX11_comes_44 : decode cX11_comes 44 = .ok (.iload 4, 2) := by decide +kernel
theorem dX11_comes_46 : decode cX11_comes 46 = .ok (.iconst 1, 1) := by decide +kernel
theorem dX11_comes_47 : decode cX11_comes 47 = .ok (.if_icmp .ne 12, 3) := by decide +kernel
theorem dX11_comes_50 : decode cX11_comes 50 = .ok (.aload_n 0, 1) := by decide +kernel
theorem dX11_comes_51 : decode cX11_comes 51 = .ok (.iload_n 3, 1) := by decide +kernel
theorem dX11_comes_52 : decode cX11_comes 52 = .ok (.invokevirtual 241, 3) := by decide +kernel
theorem dX11_comes_55 : decode cX11_comes 55 = .ok (.istore_n 1, 1) := by decide +kernel
theorem dX11_comes_56 : decode cX11_comes 56 = .ok (.goto 24, 3) := by decide +kernel
theorem dX11_comes_59 : decode cX11_comes 59 = .ok (.iload 4, 2) := by decide +kernel
theorem dX11_comes_61 : decode cX11_comes 61 = .ok (.iconst 2, 1) := by decide +kernel
theorem dX11_comes_62 : decode cX11_comes 62 = .ok (.if_icmp .ne 12, 3) := by decide +kernel
theorem dX11_comes_65 : decode cX11_comes 65 = .ok (.aload_n 0, 1) := by decide +kernel
theorem dX11_comes_66 : decode cX11_comes 66 = .ok (.iload_n 3, 1) := by decide +kernel
theorem dX11_comes_67 : decode cX11_comes 67 = .ok (.invokevirtual 244, 3) := by decide +kernel
theorem dX11_comes_70 : decode cX11_comes 70 = .ok (.istore_n 1, 1) := by decide +kernel
theorem dX11_comes_71 : decode cX11_comes 71 = .ok (.goto 9, 3) := by decide +kernel
theorem dX11_comes_74 : decode cX11_comes 74 = .ok (.aload_n 0, 1) := by decide +kernel
theorem dX11_comes_75 : decode cX11_comes 75 = .ok (.iload_n 3, 1) := by decide +kernel
theorem dX11_comes_76 : decode cX11_comes 76 = .ok (.invokevirtual 247, 3) := by decide +kernel
theorem dX11_comes_79 : decode cX11_comes 79 = .ok (.istore_n 1, 1) := by decide +kernel
theorem dX11_comes_80 : decode cX11_comes 80 = .ok (.iinc 2 1, 3) := by decide +kernel
theorem dX11_comes_83 : decode cX11_comes 83 = .ok (.goto (-79), 3) := by decide +kernel
theorem dX11_comes_86 : decode cX11_comes 86 = .ok (.return_, 1) := by decide +kernel
theorem dX11_over_0 : decode cX11_over 0 = .ok (.aload_n 0, 1) := by decide +kernel
theorem dX11_over_1 : decode cX11_over 1 = .ok (.iload_n 1, 1) := by decide +kernel
theorem dX11_over_2 : decode cX11_over 2 = .ok (.putfield 156, 3) := by decide +kernel
theorem dX11_over_5 : decode cX11_over 5 = .ok (.aload_n 0, 1) := by decide +kernel
theorem dX11_over_6 : decode cX11_over 6 = .ok (.aload_n 0, 1) := by decide +kernel
theorem dX11_over_7 : decode cX11_over 7 = .ok (.getfield 31, 3) := by decide +kernel
theorem dX11_over_10 : decode cX11_over 10 = .ok (.aload_n 0, 1) := by decide +kernel
theorem dX11_over_11 : decode cX11_over 11 = .ok (.getfield 72, 3) := by decide +kernel
theorem dX11_over_14 : decode cX11_over 14 = .ok (.iload_n 1, 1) := by decide +kernel
theorem dX11_over_15 : decode cX11_over 15 = .ok (.iaload, 1) := by decide +kernel
theorem dX11_over_16 : decode cX11_over 16 = .ok (.iaload, 1) := by decide +kernel
theorem dX11_over_17 : decode cX11_over 17 = .ok (.putfield 187, 3) := by decide +kernel
theorem dX11_over_20 : decode cX11_over 20 = .ok (.aload_n 0, 1) := by decide +kernel
theorem dX11_over_21 : decode cX11_over 21 = .ok (.getfield 194, 3) := by decide +kernel
theorem dX11_over_24 : decode cX11_over 24 = .ok (.ifCond .eq 7, 3) := by decide +kernel
theorem dX11_over_27 : decode cX11_over 27 = .ok (.iconst 1, 1) := by decide +kernel
theorem dX11_over_28 : decode cX11_over 28 = .ok (.goto 4, 3) := by decide +kernel
theorem dX11_over_31 : decode cX11_over 31 = .ok (.iconst 0, 1) := by decide +kernel
theorem dX11_over_32 : decode cX11_over 32 = .ok (.ireturn, 1) := by decide +kernel
theorem dX11_comesOfLoop_0 : decode cX11_comesOfLoop 0 = .ok (.aload_n 0, 1) := by decide +kernel
theorem dX11_comesOfLoop_1 : decode cX11_comesOfLoop 1 = .ok (.getfield 72, 3) := by decide +kernel
theorem dX11_comesOfLoop_4 : decode cX11_comesOfLoop 4 = .ok (.iload_n 1, 1) := by decide +kernel
theorem dX11_comesOfLoop_5 : decode cX11_comesOfLoop 5 = .ok (.iaload, 1) := by decide +kernel
theorem dX11_comesOfLoop_6 : decode cX11_comesOfLoop 6 = .ok (.istore_n 2, 1) := by decide +kernel
theorem dX11_comesOfLoop_7 : decode cX11_comesOfLoop 7 = .ok (.aload_n 0, 1) := by decide +kernel
theorem dX11_comesOfLoop_8 : decode cX11_comesOfLoop 8 = .ok (.getfield 194, 3) := by decide +kernel
theorem dX11_comesOfLoop_11 : decode cX11_comesOfLoop 11 = .ok (.ifCond .eq 11, 3) := by decide +kernel
theorem dX11_comesOfLoop_14 : decode cX11_comesOfLoop 14 = .ok (.aload_n 0, 1) := by decide +kernel
theorem dX11_comesOfLoop_15 : decode cX11_comesOfLoop 15 = .ok (.getfield 194, 3) := by decide +kernel
theorem dX11_comesOfLoop_18 : decode cX11_comesOfLoop 18 = .ok (.iconst 4, 1) := by decide +kernel
theorem dX11_comesOfLoop_19 : decode cX11_comesOfLoop 19 = .ok (.if_icmp .ne 17, 3) := by decide +kernel
theorem dX11_comesOfLoop_22 : decode cX11_comesOfLoop 22 = .ok (.aload_n 0, 1) := by decide +kernel
theorem dX11_comesOfLoop_23 : decode cX11_comesOfLoop 23 = .ok (.invokevirtual 200, 3) := by decide +kernel
theorem dX11_comesOfLoop_26 : decode cX11_comesOfLoop 26 = .ok (.ifCond .eq 8, 3) := by decide +kernel
theorem dX11_comesOfLoop_29 : decode cX11_comesOfLoop 29 = .ok (.aload_n 0, 1) := by decide +kernel
theorem dX11_comesOfLoop_30 : decode cX11_comesOfLoop 30 = .ok (.iload_n 2, 1) := by decide +kernel
theorem dX11_comesOfLoop_31 : decode cX11_comesOfLoop 31 = .ok (.invokevirtual 235, 3) := by decide +kernel
theorem dX11_comesOfLoop_34 : decode cX11_comesOfLoop 34 = .ok (.iconst 0, 1) := by decide +kernel
theorem dX11_comesOfLoop_35 : decode cX11_comesOfLoop 35 = .ok (.ireturn, 1) := by decide +kernel
theorem dX11_comesOfLoop_36 : decode cX11_comesOfLoop 36 = .ok (.aload_n 0, 1) := by decide +kernel
theorem dX11_comesOfLoop_37 : decode cX11_comesOfLoop 37 = .ok (.getfield 194, 3) := by decide +kernel
theorem dX11_comesOfLoop_40 : decode cX11_comesOfLoop 40 = .ok (.iconst 3, 1) := by decide +kernel
theorem dX11_comesOfLoop_41 : decode cX11_comesOfLoop 41 = .ok (.if_icmp .ne 8, 3) := by decide +kernel
theorem dX11_comesOfLoop_44 : decode cX11_comesOfLoop 44 = .ok (.aload_n 0, 1) := by decide +kernel
theorem dX11_comesOfLoop_45 : decode cX11_comesOfLoop 45 = .ok (.iconst 0, 1) := by decide +kernel
theorem dX11_comesOfLoop_46 : decode cX11_comesOfLoop 46 = .ok (.putfield 194, 3) := by decide +kernel
theorem dX11_comesOfLoop_49 : decode cX11_comesOfLoop 49 = .ok (.aload_n 0, 1) := by decide +kernel
theorem dX11_comesOfLoop_50 : decode cX11_comesOfLoop 50 = .ok (.iload_n 1, 1) := by decide +kernel
theorem dX11_comesOfLoop_51 : decode cX11_comesOfLoop 51 = .ok (.invokevirtual 247, 3) := by decide +kernel
theorem dX11_comesOfLoop_54 : decode cX11_comesOfLoop 54 = .ok (.ireturn, 1) := by decide +kernel
theorem dX11_comesOfTrial_0 : decode cX11_comesOfTrial 0 = .ok (.aload_n 0, 1) := by decide +kernel
theorem dX11_comesOfTrial_1 : decode cX11_comesOfTrial 1 = .ok (.getfield 72, 3) := by decide +kernel
theorem dX11_comesOfTrial_4 : decode cX11_comesOfTrial 4 = .ok (.iload_n 1, 1) := by decide +kernel
theorem dX11_comesOfTrial_5 : decode cX11_comesOfTrial 5 = .ok (.iaload, 1) := by decide +kernel
theorem dX11_comesOfTrial_6 : decode cX11_comesOfTrial 6 = .ok (.istore_n 2, 1) := by decide +kernel
theorem dX11_comesOfTrial_7 : decode cX11_comesOfTrial 7 = .ok (.aload_n 0, 1) := by decide +kernel
theorem dX11_comesOfTrial_8 : decode cX11_comesOfTrial 8 = .ok (.getfield 78, 3) := by decide +kernel
theorem dX11_comesOfTrial_11 : decode cX11_comesOfTrial 11 = .ok (.iload_n 1, 1) := by decide +kernel
theorem dX11_comesOfTrial_12 : decode cX11_comesOfTrial 12 = .ok (.iaload, 1) := by decide +kernel
theorem dX11_comesOfTrial_13 : decode cX11_comesOfTrial 13 = .ok (.iconst 2, 1) := by decide +kernel
theorem dX11_comesOfTrial_14 : decode cX11_comesOfTrial 14 = .ok (.if_icmp .ne 47, 3) := by decide +kernel
theorem dX11_comesOfTrial_17 : decode cX11_comesOfTrial 17 = .ok (.aload_n 0, 1) := by decide +kernel
theorem dX11_comesOfTrial_18 : decode cX11_comesOfTrial 18 = .ok (.getfield 194, 3) := by decide +kernel
theorem dX11_comesOfTrial_21 : decode cX11_comesOfTrial 21 = .ok (.iconst 2, 1) := by decide +kernel
theorem dX11_comesOfTrial_22 : decode cX11_comesOfTrial 22 = .ok (.if_icmp .eq 33, 3) := by decide +kernel
theorem dX11_comesOfTrial_25 : decode cX11_comesOfTrial 25 = .ok (.aload_n 0, 1) := by decide +kernel
theorem dX11_comesOfTrial_26 : decode cX11_comesOfTrial 26 = .ok (.aload_n 0, 1) := by decide +kernel
theorem dX11_comesOfTrial_27 : decode cX11_comesOfTrial 27 = .ok (.getfield 84, 3) := by decide +kernel
theorem dX11_comesOfTrial_30 : decode cX11_comesOfTrial 30 = .ok (.iload_n 1, 1) := by decide +kernel
theorem dX11_comesOfTrial_31 : decode cX11_comesOfTrial 31 = .ok (.iaload, 1) := by decide +kernel
theorem dX11_comesOfTrial_32 : decode cX11_comesOfTrial 32 = .ok (.putfield 194, 3) := by decide +kernel
theorem dX11_comesOfTrial_35 : decode cX11_comesOfTrial 35 = .ok (.aload_n 0, 1) := by decide +kernel
theorem dX11_comesOfTrial_36 : decode cX11_comesOfTrial 36 = .ok (.aload_n 0, 1) := by decide +kernel
theorem dX11_comesOfTrial_37 : decode cX11_comesOfTrial 37 = .ok (.getfield 87, 3) := by decide +kernel
theorem dX11_comesOfTrial_40 : decode cX11_comesOfTrial 40 = .ok (.iload_n 1, 1) := by decide +kernel
theorem dX11_comesOfTrial_41 : decode cX11_comesOfTrial 41 = .ok (.laload, 1) := by decide +kernel
theorem dX11_comesOfTrial_42 : decode cX11_comesOfTrial 42 = .ok (.putfield 226, 3) := by decide +kernel
theorem dX11_comesOfTrial_45 : decode cX11_comesOfTrial 45 = .ok (.aload_n 0, 1) := by decide +kernel
theorem dX11_comesOfTrial_46 : decode cX11_comesOfTrial 46 = .ok (.aload_n 0, 1) := by decide +kernel
theorem dX11_comesOfTrial_47 : decode cX11_comesOfTrial 47 = .ok (.getfield 90, 3) := by decide +kernel
theorem dX11_comesOfTrial_50 : decode cX11_comesOfTrial 50 = .ok (.iload_n 1, 1) := by decide +kernel
theorem dX11_comesOfTrial_51 : decode cX11_comesOfTrial 51 = .ok (.iaload, 1) := by decide +kernel
theorem dX11_comesOfTrial_52 : decode cX11_comesOfTrial 52 = .ok (.putfield 232, 3) := by decide +kernel
theorem dX11_comesOfTrial_55 : decode cX11_comesOfTrial 55 = .ok (.aload_n 0, 1) := by decide +kernel
theorem dX11_comesOfTrial_56 : decode cX11_comesOfTrial 56 = .ok (.iload_n 1, 1) := by decide +kernel
theorem dX11_comesOfTrial_57 : decode cX11_comesOfTrial 57 = .ok (.invokevirtual 247, 3) := by decide +kernel
theorem dX11_comesOfTrial_60 : decode cX11_comesOfTrial 60 = .ok (.ireturn, 1) := by decide +kernel
theorem dX11_comesOfTrial_61 : decode cX11_comesOfTrial 61 = .ok (.aload_n 0, 1) := by decide +kernel
theorem dX11_comesOfTrial_62 : decode cX11_comesOfTrial 62 = .ok (.getfield 78, 3) := by decide +kernel
theorem dX11_comesOfTrial_65 : decode cX11_comesOfTrial 65 = .ok (.iload_n 1, 1) := by decide +kernel
theorem dX11_comesOfTrial_66 : decode cX11_comesOfTrial 66 = .ok (.iaload, 1) := by decide +kernel
theorem dX11_comesOfTrial_67 : decode cX11_comesOfTrial 67 = .ok (.ifCond .ne 82, 3) := by decide +kernel
theorem dX11_comesOfTrial_70 : decode cX11_comesOfTrial 70 = .ok (.aload_n 0, 1) := by decide +kernel
theorem dX11_comesOfTrial_71 : decode cX11_comesOfTrial 71 = .ok (.getfield 194, 3) := by decide +kernel
theorem dX11_comesOfTrial_74 : decode cX11_comesOfTrial 74 = .ok (.iconst 2, 1) := by decide +kernel
theorem dX11_comesOfTrial_75 : decode cX11_comesOfTrial 75 = .ok (.if_icmp .ne 74, 3) := by decide +kernel
theorem dX11_comesOfTrial_78 : decode cX11_comesOfTrial 78 = .ok (.aload_n 0, 1) := by decide +kernel
theorem dX11_comesOfTrial_79 : decode cX11_comesOfTrial 79 = .ok (.getfield 25, 3) := by decide +kernel
theorem dX11_comesOfTrial_82 : decode cX11_comesOfTrial 82 = .ok (.iload_n 2, 1) := by decide +kernel
theorem dX11_comesOfTrial_83 : decode cX11_comesOfTrial 83 = .ok (.iaload, 1) := by decide +kernel
theorem dX11_comesOfTrial_84 : decode cX11_comesOfTrial 84 = .ok (.ifCond .lt 65, 3) := by decide +kernel
theorem dX11_comesOfTrial_87 : decode cX11_comesOfTrial 87 = .ok (.aload_n 0, 1) := by decide +kernel
theorem dX11_comesOfTrial_88 : decode cX11_comesOfTrial 88 = .ok (.getfield 13, 3) := by decide +kernel
theorem dX11_comesOfTrial_91 : decode cX11_comesOfTrial 91 = .ok (.iload_n 2, 1) := by decide +kernel
theorem dX11_comesOfTrial_92 : decode cX11_comesOfTrial 92 = .ok (.iaload, 1) := by decide +kernel
theorem dX11_comesOfTrial_93 : decode cX11_comesOfTrial 93 = .ok (.aload_n 0, 1) := by decide +kernel
theorem dX11_comesOfTrial_94 : decode cX11_comesOfTrial 94 = .ok (.getfield 93, 3) := by decide +kernel
theorem dX11_comesOfTrial_97 : decode cX11_comesOfTrial 97 = .ok (.aload_n 0, 1) := by decide +kernel
theorem dX11_comesOfTrial_98 : decode cX11_comesOfTrial 98 = .ok (.getfield 232, 3) := by decide +kernel
theorem dX11_comesOfTrial_101 : decode cX11_comesOfTrial 101 = .ok (.iaload, 1) := by decide +kernel
theorem dX11_comesOfTrial_102 : decode cX11_comesOfTrial 102 = .ok (.invokestatic 250, 3) := by decide +kernel
theorem dX11_comesOfTrial_105 : decode cX11_comesOfTrial 105 = .ok (.ifCond .eq 44, 3) := by decide +kernel
theorem dX11_comesOfTrial_108 : decode cX11_comesOfTrial 108 = .ok (.aload_n 0, 1) := by decide +kernel
theorem dX11_comesOfTrial_109 : decode cX11_comesOfTrial 109 = .ok (.getfield 78, 3) := by decide +kernel
theorem dX11_comesOfTrial_112 : decode cX11_comesOfTrial 112 = .ok (.iload_n 1, 1) := by decide +kernel
theorem dX11_comesOfTrial_113 : decode cX11_comesOfTrial 113 = .ok (.iconst 1, 1) := by decide +kernel
theorem dX11_comesOfTrial_114 : decode cX11_comesOfTrial 114 = .ok (.iastore, 1) := by decide +kernel
theorem dX11_comesOfTrial_115 : decode cX11_comesOfTrial 115 = .ok (.aload_n 0, 1) := by decide +kernel
theorem dX11_comesOfTrial_116 : decode cX11_comesOfTrial 116 = .ok (.getfield 81, 3) := by decide +kernel
theorem dX11_comesOfTrial_119 : decode cX11_comesOfTrial 119 = .ok (.iload_n 1, 1) := by decide +kernel
theorem dX11_comesOfTrial_120 : decode cX11_comesOfTrial 120 = .ok (.aload_n 0, 1) := by decide +kernel
theorem dX11_comesOfTrial_121 : decode cX11_comesOfTrial 121 = .ok (.getfield 232, 3) := by decide +kernel
theorem dX11_comesOfTrial_124 : decode cX11_comesOfTrial 124 = .ok (.iastore, 1) := by decide +kernel
theorem dX11_comesOfTrial_125 : decode cX11_comesOfTrial 125 = .ok (.aload_n 0, 1) := by decide +kernel
theorem dX11_comesOfTrial_126 : decode cX11_comesOfTrial 126 = .ok (.dup, 1) := by decide +kernel
theorem dX11_comesOfTrial_127 : decode cX11_comesOfTrial 127 = .ok (.getfield 168, 3) := by decide +kernel
theorem dX11_comesOfTrial_130 : decode cX11_comesOfTrial 130 = .ok (.iconst 1, 1) := by decide +kernel
theorem dX11_comesOfTrial_131 : decode cX11_comesOfTrial 131 = .ok (.iadd, 1) := by decide +kernel
theorem dX11_comesOfTrial_132 : decode cX11_comesOfTrial 132 = .ok (.putfield 168, 3) := by decide +kernel
theorem dX11_comesOfTrial_135 : decode cX11_comesOfTrial 135 = .ok (.aload_n 0, 1) := by decide +kernel
theorem dX11_comesOfTrial_136 : decode cX11_comesOfTrial 136 = .ok (.aload_n 0, 1) := by decide +kernel
theorem dX11_comesOfTrial_137 : decode cX11_comesOfTrial 137 = .ok (.getfield 25, 3) := by decide +kernel
theorem dX11_comesOfTrial_140 : decode cX11_comesOfTrial 140 = .ok (.iload_n 2, 1) := by decide +kernel
theorem dX11_comesOfTrial_141 : decode cX11_comesOfTrial 141 = .ok (.iaload, 1) := by decide +kernel
theorem dX11_comesOfTrial_142 : decode cX11_comesOfTrial 142 = .ok (.iconst 1, 1) := by decide +kernel
theorem dX11_comesOfTrial_143 : decode cX11_comesOfTrial 143 = .ok (.iadd, 1) := by decide +kernel
theorem dX11_comesOfTrial_144 : decode cX11_comesOfTrial 144 = .ok (.putfield 187, 3) := by decide +kernel
theorem dX11_comesOfTrial_147 : decode cX11_comesOfTrial 147 = .ok (.iconst 0, 1) := by decide +kernel
theorem dX11_comesOfTrial_148 : decode cX11_comesOfTrial 148 = .ok (.ireturn, 1) := by decide +kernel
theorem dX11_comesOfTrial_149 : decode cX11_comesOfTrial 149 = .ok (.aload_n 0, 1) := by decide +kernel
theorem dX11_comesOfTrial_150 : decode cX11_comesOfTrial 150 = .ok (.getfield 28, 3) := by decide +kernel
theorem dX11_comesOfTrial_153 : decode cX11_comesOfTrial 153 = .ok (.iload_n 2, 1) := by decide +kernel
theorem dX11_comesOfTrial_154 : decode cX11_comesOfTrial 154 = .ok (.iaload, 1) := by decide +kernel
theorem dX11_comesOfTrial_155 : decode cX11_comesOfTrial 155 = .ok (.ifCond .ge 9, 3) := by decide +kernel
theorem dX11_comesOfTrial_158 : decode cX11_comesOfTrial 158 = .ok (.aload_n 0, 1) := by decide +kernel
theorem dX11_comesOfTrial_159 : decode cX11_comesOfTrial 159 = .ok (.iload_n 1, 1) := by decide +kernel
theorem dX11_comesOfTrial_160 : decode cX11_comesOfTrial 160 = .ok (.invokevirtual 247, 3) := by decide +kernel
theorem dX11_comesOfTrial_163 : decode cX11_comesOfTrial 163 = .ok (.ireturn, 1) := by decide +kernel
theorem dX11_comesOfTrial_164 : decode cX11_comesOfTrial 164 = .ok (.aload_n 0, 1) := by decide +kernel
theorem dX11_comesOfTrial_165 : decode cX11_comesOfTrial 165 = .ok (.getfield 78, 3) := by decide +kernel
theorem dX11_comesOfTrial_168 : decode cX11_comesOfTrial 168 = .ok (.iload_n 1, 1) := by decide +kernel
theorem dX11_comesOfTrial_169 : decode cX11_comesOfTrial 169 = .ok (.iconst 2, 1) := by decide +kernel
theorem dX11_comesOfTrial_170 : decode cX11_comesOfTrial 170 = .ok (.iastore, 1) := by decide +kernel
theorem dX11_comesOfTrial_171 : decode cX11_comesOfTrial 171 = .ok (.aload_n 0, 1) := by decide +kernel
theorem dX11_comesOfTrial_172 : decode cX11_comesOfTrial 172 = .ok (.getfield 84, 3) := by decide +kernel
theorem dX11_comesOfTrial_175 : decode cX11_comesOfTrial 175 = .ok (.iload_n 1, 1) := by decide +kernel
theorem dX11_comesOfTrial_176 : decode cX11_comesOfTrial 176 = .ok (.aload_n 0, 1) := by decide +kernel
theorem dX11_comesOfTrial_177 : decode cX11_comesOfTrial 177 = .ok (.getfield 194, 3) := by decide +kernel
theorem dX11_comesOfTrial_180 : decode cX11_comesOfTrial 180 = .ok (.iastore, 1) := by decide +kernel
theorem dX11_comesOfTrial_181 : decode cX11_comesOfTrial 181 = .ok (.aload_n 0, 1) := by decide +kernel
theorem dX11_comesOfTrial_182 : decode cX11_comesOfTrial 182 = .ok (.getfield 87, 3) := by decide +kernel
theorem dX11_comesOfTrial_185 : decode cX11_comesOfTrial 185 = .ok (.iload_n 1, 1) := by decide +kernel
theorem dX11_comesOfTrial_186 : decode cX11_comesOfTrial 186 = .ok (.aload_n 0, 1) := by decide +kernel
theorem dX11_comesOfTrial_187 : decode cX11_comesOfTrial 187 = .ok (.getfield 226, 3) := by decide +kernel
theorem dX11_comesOfTrial_190 : decode cX11_comesOfTrial 190 = .ok (.lastore, 1) := by decide +kernel
theorem dX11_comesOfTrial_191 : decode cX11_comesOfTrial 191 = .ok (.aload_n 0, 1) := by decide +kernel
theorem dX11_comesOfTrial_192 : decode cX11_comesOfTrial 192 = .ok (.getfield 90, 3) := by decide +kernel
theorem dX11_comesOfTrial_195 : decode cX11_comesOfTrial 195 = .ok (.iload_n 1, 1) := by decide +kernel
theorem dX11_comesOfTrial_196 : decode cX11_comesOfTrial 196 = .ok (.aload_n 0, 1) := by decide +kernel
theorem dX11_comesOfTrial_197 : decode cX11_comesOfTrial 197 = .ok (.getfield 232, 3) := by decide +kernel
theorem dX11_comesOfTrial_200 : decode cX11_comesOfTrial 200 = .ok (.iastore, 1) := by decide +kernel
theorem dX11_comesOfTrial_201 : decode cX11_comesOfTrial 201 = .ok (.aload_n 0, 1) := by decide +kernel
theorem dX11_comesOfTrial_202 : decode cX11_comesOfTrial 202 = .ok (.getfield 106, 3) := by decide +kernel
theorem dX11_comesOfTrial_205 : decode cX11_comesOfTrial 205 = .ok (.aload_n 0, 1) := by decide +kernel
theorem dX11_comesOfTrial_206 : decode cX11_comesOfTrial 206 = .ok (.getfield 165, 3) := by decide +kernel
theorem dX11_comesOfTrial_209 : decode cX11_comesOfTrial 209 = .ok (.iload_n 2, 1) := by decide +kernel
theorem dX11_comesOfTrial_210 : decode cX11_comesOfTrial 210 = .ok (.iastore, 1) := by decide +kernel
theorem dX11_comesOfTrial_211 : decode cX11_comesOfTrial 211 = .ok (.aload_n 0, 1) := by decide +kernel
theorem dX11_comesOfTrial_212 : decode cX11_comesOfTrial 212 = .ok (.dup, 1) := by decide +kernel
theorem dX11_comesOfTrial_213 : decode cX11_comesOfTrial 213 = .ok (.getfield 165, 3) := by decide +kernel
theorem dX11_comesOfTrial_216 : decode cX11_comesOfTrial 216 = .ok (.iconst 1, 1) := by decide +kernel
theorem dX11_comesOfTrial_217 : decode cX11_comesOfTrial 217 = .ok (.iadd, 1) := by decide +kernel
theorem dX11_comesOfTrial_218 : decode cX11_comesOfTrial 218 = .ok (.putfield 165, 3) := by decide +kernel
theorem dX11_comesOfTrial_221 : decode cX11_comesOfTrial 221 = .ok (.aload_n 0, 1) := by decide +kernel
theorem dX11_comesOfTrial_222 : decode cX11_comesOfTrial 222 = .ok (.aload_n 0, 1) := by decide +kernel
theorem dX11_comesOfTrial_223 : decode cX11_comesOfTrial 223 = .ok (.getfield 28, 3) := by decide +kernel
theorem dX11_comesOfTrial_226 : decode cX11_comesOfTrial 226 = .ok (.iload_n 2, 1) := by decide +kernel
theorem dX11_comesOfTrial_227 : decode cX11_comesOfTrial 227 = .ok (.iaload, 1) := by decide +kernel
theorem dX11_comesOfTrial_228 : decode cX11_comesOfTrial 228 = .ok (.iconst 1, 1) := by decide +kernel
theorem dX11_comesOfTrial_229 : decode cX11_comesOfTrial 229 = .ok (.iadd, 1) := by decide +kernel
theorem dX11_comesOfTrial_230 : decode cX11_comesOfTrial 230 = .ok (.putfield 187, 3) := by decide +kernel
theorem dX11_comesOfTrial_233 : decode cX11_comesOfTrial 233 = .ok (.iconst 0, 1) := by decide +kernel
theorem dX11_comesOfTrial_234 : decode cX11_comesOfTrial 234 = .ok (.ireturn, 1) := by decide +kernel
theorem dX11_isTaken_0 : decode cX11_isTaken 0 = .ok (.iload_n 0, 1) := by decide +kernel
theorem dX11_isTaken_1 : decode cX11_isTaken 1 = .ok (.bipush 10, 2) := by decide +kernel
theorem dX11_isTaken_3 : decode cX11_isTaken 3 = .ok (.ishr, 1) := by decide +kernel
theorem dX11_isTaken_4 : decode cX11_isTaken 4 = .ok (.iconst 1, 1) := by decide +kernel
theorem dX11_isTaken_5 : decode cX11_isTaken 5 = .ok (.iand, 1) := by decide +kernel
theorem dX11_isTaken_6 : decode cX11_isTaken 6 = .ok (.iconst 1, 1) := by decide +kernel
theorem dX11_isTaken_7 : decode cX11_isTaken 7 = .ok (.if_icmp .eq 12, 3) := by decide +kernel
theorem dX11_isTaken_10 : decode cX11_isTaken 10 = .ok (.iload_n 0, 1) := by decide +kernel
theorem dX11_isTaken_11 : decode cX11_isTaken 11 = .ok (.iload_n 1, 1) := by decide +kernel
theorem dX11_isTaken_12 : decode cX11_isTaken 12 = .ok (.ishr, 1) := by decide +kernel
theorem dX11_isTaken_13 : decode cX11_isTaken 13 = .ok (.iconst 1, 1) := by decide +kernel
theorem dX11_isTaken_14 : decode cX11_isTaken 14 = .ok (.iand, 1) := by decide +kernel
theorem dX11_isTaken_15 : decode cX11_isTaken 15 = .ok (.iconst 1, 1) := by decide +kernel
theorem dX11_isTaken_16 : decode cX11_isTaken 16 = .ok (.if_icmp .ne 7, 3) := by decide +kernel
theorem dX11_isTaken_19 : decode cX11_isTaken 19 = .ok (.iconst 1, 1) := by decide +kernel
theorem dX11_isTaken_20 : decode cX11_isTaken 20 = .ok (.goto 4, 3) := by decide +kernel
theorem dX11_isTaken_23 : decode cX11_isTaken 23 = .ok (.iconst 0, 1) := by decide +kernel
theorem dX11_isTaken_24 : decode cX11_isTaken 24 = .ok (.istore_n 2, 1) := by decide +kernel
theorem dX11_isTaken_25 : decode cX11_isTaken 25 = .ok (.iconst 0, 1) := by decide +kernel
theorem dX11_isTaken_26 : decode cX11_isTaken 26 = .ok (.istore_n 3, 1) := by decide +kernel
theorem dX11_isTaken_27 : decode cX11_isTaken 27 = .ok (.iload_n 3, 1) := by decide +kernel
theorem dX11_isTaken_28 : decode cX11_isTaken 28 = .ok (.iload_n 1, 1) := by decide +kernel
theorem dX11_isTaken_29 : decode cX11_isTaken 29 = .ok (.if_icmp .ge 33, 3) := by decide +kernel
theorem dX11_isTaken_32 : decode cX11_isTaken 32 = .ok (.iload_n 1, 1) := by decide +kernel
theorem dX11_isTaken_33 : decode cX11_isTaken 33 = .ok (.iconst 3, 1) := by decide +kernel
theorem dX11_isTaken_34 : decode cX11_isTaken 34 = .ok (.if_icmp .ge 28, 3) := by decide +kernel
theorem dX11_isTaken_37 : decode cX11_isTaken 37 = .ok (.iload_n 2, 1) := by decide +kernel
theorem dX11_isTaken_38 : decode cX11_isTaken 38 = .ok (.ifCond .ne 12, 3) := by decide +kernel
theorem dX11_isTaken_41 : decode cX11_isTaken 41 = .ok (.iload_n 0, 1) := by decide +kernel
theorem dX11_isTaken_42 : decode cX11_isTaken 42 = .ok (.iload_n 3, 1) := by decide +kernel
theorem dX11_isTaken_43 : decode cX11_isTaken 43 = .ok (.ishr, 1) := by decide +kernel
theorem dX11_isTaken_44 : decode cX11_isTaken 44 = .ok (.iconst 1, 1) := by decide +kernel
theorem dX11_isTaken_45 : decode cX11_isTaken 45 = .ok (.iand, 1) := by decide +kernel
theorem dX11_isTaken_46 : decode cX11_isTaken 46 = .ok (.iconst 1, 1) := by decide +kernel
theorem dX11_isTaken_47 : decode cX11_isTaken 47 = .ok (.if_icmp .ne 7, 3) := by decide +kernel
theorem dX11_isTaken_50 : decode cX11_isTaken 50 = .ok (.iconst 1, 1) := by decide +kernel
theorem dX11_isTaken_51 : decode cX11_isTaken 51 = .ok (.goto 4, 3) := by decide +kernel
theorem dX11_isTaken_54 : decode cX11_isTaken 54 = .ok (.iconst 0, 1) := by decide +kernel
theorem dX11_isTaken_55 : decode cX11_isTaken 55 = .ok (.istore_n 2, 1) := by decide +kernel
theorem dX11_isTaken_56 : decode cX11_isTaken 56 = .ok (.iinc 3 1, 3) := by decide +kernel
theorem dX11_isTaken_59 : decode cX11_isTaken 59 = .ok (.goto (-32), 3) := by decide +kernel
theorem dX11_isTaken_62 : decode cX11_isTaken 62 = .ok (.iload_n 2, 1) := by decide +kernel
theorem dX11_isTaken_63 : decode cX11_isTaken 63 = .ok (.ireturn, 1) := by decide +kernel
theorem dX11_comesOfRoutine_0 : decode cX11_comesOfRoutine 0 = .ok (.aload_n 0, 1) := by decide +kernel
theorem dX11_comesOfRoutine_1 : decode cX11_comesOfRoutine 1 = .ok (.getfield 194, 3) := by decide +kernel
theorem dX11_comesOfRoutine_4 : decode cX11_comesOfRoutine 4 = .ok (.iconst 3, 1) := by decide +kernel
theorem dX11_comesOfRoutine_5 : decode cX11_comesOfRoutine 5 = .ok (.if_icmp .eq 11, 3) := by decide +kernel
theorem dX11_comesOfRoutine_8 : decode cX11_comesOfRoutine 8 = .ok (.aload_n 0, 1) := by decide +kernel
theorem dX11_comesOfRoutine_9 : decode cX11_comesOfRoutine 9 = .ok (.getfield 194, 3) := by decide +kernel
theorem dX11_comesOfRoutine_12 : decode cX11_comesOfRoutine 12 = .ok (.iconst 4, 1) := by decide +kernel
theorem dX11_comesOfRoutine_13 : decode cX11_comesOfRoutine 13 = .ok (.if_icmp .ne 13, 3) := by decide +kernel
theorem dX11_comesOfRoutine_16 : decode cX11_comesOfRoutine 16 = .ok (.aload_n 0, 1) := by decide +kernel
theorem dX11_comesOfRoutine_17 : decode cX11_comesOfRoutine 17 = .ok (.iconst 1, 1) := by decide +kernel
theorem dX11_comesOfRoutine_18 : decode cX11_comesOfRoutine 18 = .ok (.putfield 194, 3) := by decide +kernel
theorem dX11_comesOfRoutine_21 : decode cX11_comesOfRoutine 21 = .ok (.aload_n 0, 1) := by decide +kernel
theorem dX11_comesOfRoutine_22 : decode cX11_comesOfRoutine 22 = .ok (.lconst 0, 1) := by decide +kernel
theorem dX11_comesOfRoutine_23 : decode cX11_comesOfRoutine 23 = .ok (.putfield 226, 3) := by decide +kernel
theorem dX11_comesOfRoutine_26 : decode cX11_comesOfRoutine 26 = .ok (.iload_n 1, 1) := by decide +kernel
theorem dX11_comesOfRoutine_27 : decode cX11_comesOfRoutine 27 = .ok (.ifCond .ne 53, 3) := by decide +kernel
theorem dX11_comesOfRoutine_30 : decode cX11_comesOfRoutine 30 = .ok (.aload_n 0, 1) := by decide +kernel
theorem dX11_comesOfRoutine_31 : decode cX11_comesOfRoutine 31 = .ok (.aload_n 0, 1) := by decide +kernel
theorem dX11_comesOfRoutine_32 : decode cX11_comesOfRoutine 32 = .ok (.getfield 194, 3) := by decide +kernel
theorem dX11_comesOfRoutine_35 : decode cX11_comesOfRoutine 35 = .ok (.invokevirtual 181, 3) := by decide +kernel
theorem dX11_comesOfRoutine_38 : decode cX11_comesOfRoutine 38 = .ok (.aload_n 0, 1) := by decide +kernel
theorem dX11_comesOfRoutine_39 : decode cX11_comesOfRoutine 39 = .ok (.aload_n 0, 1) := by decide +kernel
theorem dX11_comesOfRoutine_40 : decode cX11_comesOfRoutine 40 = .ok (.getfield 194, 3) := by decide +kernel
theorem dX11_comesOfRoutine_43 : decode cX11_comesOfRoutine 43 = .ok (.iconst 1, 1) := by decide +kernel
theorem dX11_comesOfRoutine_44 : decode cX11_comesOfRoutine 44 = .ok (.if_icmp .ne 10, 3) := by decide +kernel
theorem dX11_comesOfRoutine_47 : decode cX11_comesOfRoutine 47 = .ok (.aload_n 0, 1) := by decide +kernel
theorem dX11_comesOfRoutine_48 : decode cX11_comesOfRoutine 48 = .ok (.getfield 226, 3) := by decide +kernel
theorem dX11_comesOfRoutine_51 : decode cX11_comesOfRoutine 51 = .ok (.goto 4, 3) := by decide +kernel
theorem dX11_comesOfRoutine_54 : decode cX11_comesOfRoutine 54 = .ok (.lconst 0, 1) := by decide +kernel
theorem dX11_comesOfRoutine_55 : decode cX11_comesOfRoutine 55 = .ok (.putfield 174, 3) := by decide +kernel
theorem dX11_comesOfRoutine_58 : decode cX11_comesOfRoutine 58 = .ok (.aload_n 0, 1) := by decide +kernel
theorem dX11_comesOfRoutine_59 : decode cX11_comesOfRoutine 59 = .ok (.aload_n 0, 1) := by decide +kernel
theorem dX11_comesOfRoutine_60 : decode cX11_comesOfRoutine 60 = .ok (.getfield 194, 3) := by decide +kernel
theorem dX11_comesOfRoutine_63 : decode cX11_comesOfRoutine 63 = .ok (.iconst 2, 1) := by decide +kernel
theorem dX11_comesOfRoutine_64 : decode cX11_comesOfRoutine 64 = .ok (.if_icmp .ne 10, 3) := by decide +kernel
theorem dX11_comesOfRoutine_67 : decode cX11_comesOfRoutine 67 = .ok (.aload_n 0, 1) := by decide +kernel
theorem dX11_comesOfRoutine_68 : decode cX11_comesOfRoutine 68 = .ok (.getfield 232, 3) := by decide +kernel
theorem dX11_comesOfRoutine_71 : decode cX11_comesOfRoutine 71 = .ok (.goto 4, 3) := by decide +kernel
theorem dX11_comesOfRoutine_74 : decode cX11_comesOfRoutine 74 = .ok (.iconst 0, 1) := by decide +kernel
theorem dX11_comesOfRoutine_75 : decode cX11_comesOfRoutine 75 = .ok (.putfield 178, 3) := by decide +kernel
theorem dX11_comesOfRoutine_78 : decode cX11_comesOfRoutine 78 = .ok (.iconst 0, 1) := by decide +kernel
theorem dX11_comesOfRoutine_79 : decode cX11_comesOfRoutine 79 = .ok (.ireturn, 1) := by decide +kernel
theorem dX11_comesOfRoutine_80 : decode cX11_comesOfRoutine 80 = .ok (.aload_n 0, 1) := by decide +kernel
theorem dX11_comesOfRoutine_81 : decode cX11_comesOfRoutine 81 = .ok (.getfield 72, 3) := by decide +kernel
theorem dX11_comesOfRoutine_84 : decode cX11_comesOfRoutine 84 = .ok (.iload_n 1, 1) := by decide +kernel
theorem dX11_comesOfRoutine_85 : decode cX11_comesOfRoutine 85 = .ok (.iaload, 1) := by decide +kernel
theorem dX11_comesOfRoutine_86 : decode cX11_comesOfRoutine 86 = .ok (.istore_n 2, 1) := by decide +kernel
theorem dX11_comesOfRoutine_87 : decode cX11_comesOfRoutine 87 = .ok (.aload_n 0, 1) := by decide +kernel
theorem dX11_comesOfRoutine_88 : decode cX11_comesOfRoutine 88 = .ok (.iload_n 1, 1) := by decide +kernel
theorem dX11_comesOfRoutine_89 : decode cX11_comesOfRoutine 89 = .ok (.putfield 156, 3) := by decide +kernel
theorem dX11_comesOfRoutine_92 : decode cX11_comesOfRoutine 92 = .ok (.aload_n 0, 1) := by decide +kernel
theorem dX11_comesOfRoutine_93 : decode cX11_comesOfRoutine 93 = .ok (.getfield 194, 3) := by decide +kernel
theorem dX11_comesOfRoutine_96 : decode cX11_comesOfRoutine 96 = .ok (.iconst 2, 1) := by decide +kernel
theorem dX11_comesOfRoutine_97 : decode cX11_comesOfRoutine 97 = .ok (.if_icmp .ne 5, 3) := by decide +kernel
theorem dX11_comesOfRoutine_100 : decode cX11_comesOfRoutine 100 = .ok (.iconst 1, 1) := by decide +kernel
theorem dX11_comesOfRoutine_101 : decode cX11_comesOfRoutine 101 = .ok (.ireturn, 1) := by decide +kernel
theorem dX11_comesOfRoutine_102 : decode cX11_comesOfRoutine 102 = .ok (.aload_n 0, 1) := by decide +kernel
theorem dX11_comesOfRoutine_103 : decode cX11_comesOfRoutine 103 = .ok (.getfield 43, 3) := by decide +kernel
theorem dX11_comesOfRoutine_106 : decode cX11_comesOfRoutine 106 = .ok (.aload_n 0, 1) := by decide +kernel
theorem dX11_comesOfRoutine_107 : decode cX11_comesOfRoutine 107 = .ok (.getfield 16, 3) := by decide +kernel
theorem dX11_comesOfRoutine_110 : decode cX11_comesOfRoutine 110 = .ok (.iload_n 2, 1) := by decide +kernel
theorem dX11_comesOfRoutine_111 : decode cX11_comesOfRoutine 111 = .ok (.iaload, 1) := by decide +kernel
theorem dX11_comesOfRoutine_112 : decode cX11_comesOfRoutine 112 = .ok (.bipush 7, 2) := by decide +kernel
theorem dX11_comesOfRoutine_114 : decode cX11_comesOfRoutine 114 = .ok (.iand, 1) := by decide +kernel
theorem dX11_comesOfRoutine_115 : decode cX11_comesOfRoutine 115 = .ok (.aload_n 0, 1) := by decide +kernel
theorem dX11_comesOfRoutine_116 : decode cX11_comesOfRoutine 116 = .ok (.getfield 194, 3) := by decide +kernel
theorem dX11_comesOfRoutine_119 : decode cX11_comesOfRoutine 119 = .ok (.iconst 1, 1) := by decide +kernel
theorem dX11_comesOfRoutine_120 : decode cX11_comesOfRoutine 120 = .ok (.if_icmp .ne 10, 3) := by decide +kernel
theorem dX11_comesOfRoutine_123 : decode cX11_comesOfRoutine 123 = .ok (.aload_n 0, 1) := by decide +kernel
theorem dX11_comesOfRoutine_124 : decode cX11_comesOfRoutine 124 = .ok (.getfield 226, 3) := by decide +kernel
theorem dX11_comesOfRoutine_127 : decode cX11_comesOfRoutine 127 = .ok (.goto 4, 3) := by decide +kernel
theorem dX11_comesOfRoutine_130 : decode cX11_comesOfRoutine 130 = .ok (.lconst 0, 1) := by decide +kernel
theorem dX11_comesOfRoutine_131 : decode cX11_comesOfRoutine 131 = .ok (.lastore, 1) := by decide +kernel
theorem dX11_comesOfRoutine_132 : decode cX11_comesOfRoutine 132 = .ok (.aload_n 0, 1) := by decide +kernel
theorem dX11_comesOfRoutine_133 : decode cX11_comesOfRoutine 133 = .ok (.iload_n 2, 1) := by decide +kernel
theorem dX11_comesOfRoutine_134 : decode cX11_comesOfRoutine 134 = .ok (.iconst 1, 1) := by decide +kernel
theorem dX11_comesOfRoutine_135 : decode cX11_comesOfRoutine 135 = .ok (.iadd, 1) := by decide +kernel
theorem dX11_comesOfRoutine_136 : decode cX11_comesOfRoutine 136 = .ok (.putfield 187, 3) := by decide +kernel
theorem dX11_comesOfRoutine_139 : decode cX11_comesOfRoutine 139 = .ok (.iconst 0, 1) := by decide +kernel
theorem dX11_comesOfRoutine_140 : decode cX11_comesOfRoutine 140 = .ok (.ireturn, 1) := by decide +kernel
theorem dX11_reckons_0 : decode cX11_reckons 0 = .ok (.aload_n 0, 1) := by decide +kernel
theorem dX11_reckons_1 : decode cX11_reckons 1 = .ok (.getfield 13, 3) := by decide +kernel
theorem dX11_reckons_4 : decode cX11_reckons 4 = .ok (.iload_n 1, 1) := by decide +kernel
theorem dX11_reckons_5 : decode cX11_reckons 5 = .ok (.iaload, 1) := by decide +kernel
theorem dX11_reckons_6 : decode cX11_reckons 6 = .ok (.bipush 7, 2) := by decide +kernel
theorem dX11_reckons_8 : decode cX11_reckons 8 = .ok (.iand, 1) := by decide +kernel
theorem dX11_reckons_9 : decode cX11_reckons 9 = .ok (.istore_n 2, 1) := by decide +kernel
theorem dX11_reckons_10 : decode cX11_reckons 10 = .ok (.aload_n 0, 1) := by decide +kernel
theorem dX11_reckons_11 : decode cX11_reckons 11 = .ok (.getfield 43, 3) := by decide +kernel
theorem dX11_reckons_14 : decode cX11_reckons 14 = .ok (.aload_n 0, 1) := by decide +kernel
theorem dX11_reckons_15 : decode cX11_reckons 15 = .ok (.getfield 16, 3) := by decide +kernel
theorem dX11_reckons_18 : decode cX11_reckons 18 = .ok (.iload_n 1, 1) := by decide +kernel
theorem dX11_reckons_19 : decode cX11_reckons 19 = .ok (.iaload, 1) := by decide +kernel
theorem dX11_reckons_20 : decode cX11_reckons 20 = .ok (.bipush 7, 2) := by decide +kernel
theorem dX11_reckons_22 : decode cX11_reckons 22 = .ok (.iand, 1) := by decide +kernel
theorem dX11_reckons_23 : decode cX11_reckons 23 = .ok (.laload, 1) := by decide +kernel
theorem dX11_reckons_24 : decode cX11_reckons 24 = .ok (.lstore_n 3, 1) := by decide +kernel
theorem dX11_reckons_25 : decode cX11_reckons 25 = .ok (.aload_n 0, 1) := by decide +kernel
theorem dX11_reckons_26 : decode cX11_reckons 26 = .ok (.getfield 43, 3) := by decide +kernel
theorem dX11_reckons_29 : decode cX11_reckons 29 = .ok (.aload_n 0, 1) := by decide +kernel
theorem dX11_reckons_30 : decode cX11_reckons 30 = .ok (.getfield 19, 3) := by decide +kernel
theorem dX11_reckons_33 : decode cX11_reckons 33 = .ok (.iload_n 1, 1) := by decide +kernel
theorem dX11_reckons_34 : decode cX11_reckons 34 = .ok (.iaload, 1) := by decide +kernel
theorem dX11_reckons_35 : decode cX11_reckons 35 = .ok (.bipush 7, 2) := by decide +kernel
theorem dX11_reckons_37 : decode cX11_reckons 37 = .ok (.iand, 1) := by decide +kernel
theorem dX11_reckons_38 : decode cX11_reckons 38 = .ok (.laload, 1) := by decide +kernel
theorem dX11_reckons_39 : decode cX11_reckons 39 = .ok (.lstore 5, 2) := by decide +kernel
theorem dX11_reckons_41 : decode cX11_reckons 41 = .ok (.aload_n 0, 1) := by decide +kernel
theorem dX11_reckons_42 : decode cX11_reckons 42 = .ok (.getfield 7, 3) := by decide +kernel
theorem dX11_reckons_45 : decode cX11_reckons 45 = .ok (.iload_n 1, 1) := by decide +kernel
theorem dX11_reckons_46 : decode cX11_reckons 46 = .ok (.iaload, 1) := by decide +kernel
theorem dX11_reckons_47 : decode cX11_reckons 47 = .ok (.tableswitch 121 0 4 #[33, 70, 85, 97, 109], 33) := by decide +kernel
theorem dX11_reckons_80 : decode cX11_reckons 80 = .ok (.aload_n 0, 1) := by decide +kernel
theorem dX11_reckons_81 : decode cX11_reckons 81 = .ok (.getfield 162, 3) := by decide +kernel
theorem dX11_reckons_84 : decode cX11_reckons 84 = .ok (.sipush 500, 3) := by decide +kernel
theorem dX11_reckons_87 : decode cX11_reckons 87 = .ok (.if_icmp .ge 28, 3) := by decide +kernel
theorem dX11_reckons_90 : decode cX11_reckons 90 = .ok (.aload_n 0, 1) := by decide +kernel
theorem dX11_reckons_91 : decode cX11_reckons 91 = .ok (.getfield 103, 3) := by decide +kernel
theorem dX11_reckons_94 : decode cX11_reckons 94 = .ok (.aload_n 0, 1) := by decide +kernel
theorem dX11_reckons_95 : decode cX11_reckons 95 = .ok (.getfield 162, 3) := by decide +kernel
theorem dX11_reckons_98 : decode cX11_reckons 98 = .ok (.aload_n 0, 1) := by decide +kernel
theorem dX11_reckons_99 : decode cX11_reckons 99 = .ok (.getfield 43, 3) := by decide +kernel
theorem dX11_reckons_102 : decode cX11_reckons 102 = .ok (.iload_n 2, 1) := by decide +kernel
theorem dX11_reckons_103 : decode cX11_reckons 103 = .ok (.laload, 1) := by decide +kernel
theorem dX11_reckons_104 : decode cX11_reckons 104 = .ok (.lastore, 1) := by decide +kernel
theorem dX11_reckons_105 : decode cX11_reckons 105 = .ok (.aload_n 0, 1) := by decide +kernel
theorem dX11_reckons_106 : decode cX11_reckons 106 = .ok (.dup, 1) := by decide +kernel
theorem dX11_reckons_107 : decode cX11_reckons 107 = .ok (.getfield 162, 3) := by decide +kernel
theorem dX11_reckons_110 : decode cX11_reckons 110 = .ok (.iconst 1, 1) := by decide +kernel
theorem dX11_reckons_111 : decode cX11_reckons 111 = .ok (.iadd, 1) := by decide +kernel
theorem dX11_reckons_112 : decode cX11_reckons 112 = .ok (.putfield 162, 3) := by decide +kernel
theorem dX11_reckons_115 : decode cX11_reckons 115 = .ok (.iconst 0, 1) := by decide +kernel
theorem dX11_reckons_116 : decode cX11_reckons 116 = .ok (.ireturn, 1) := by decide +kernel
theorem dX11_reckons_117 : decode cX11_reckons 117 = .ok (.aload_n 0, 1) := by decide +kernel
theorem dX11_reckons_118 : decode cX11_reckons 118 = .ok (.getfield 43, 3) := by decide +kernel
theorem dX11_reckons_121 : decode cX11_reckons 121 = .ok (.iload_n 2, 1) := by decide +kernel
theorem dX11_reckons_122 : decode cX11_reckons 122 = .ok (.aload_n 0, 1) := by decide +kernel
theorem dX11_reckons_123 : decode cX11_reckons 123 = .ok (.getfield 16, 3) := by decide +kernel
theorem dX11_reckons_126 : decode cX11_reckons 126 = .ok (.iload_n 1, 1) := by decide +kernel
theorem dX11_reckons_127 : decode cX11_reckons 127 = .ok (.iaload, 1) := by decide +kernel
theorem dX11_reckons_128 : decode cX11_reckons 128 = .ok (.i2l, 1) := by decide +kernel
theorem dX11_reckons_129 : decode cX11_reckons 129 = .ok (.lastore, 1) := by decide +kernel
theorem dX11_reckons_130 : decode cX11_reckons 130 = .ok (.iconst 0, 1) := by decide +kernel
theorem dX11_reckons_131 : decode cX11_reckons 131 = .ok (.ireturn, 1) := by decide +kernel
theorem dX11_reckons_132 : decode cX11_reckons 132 = .ok (.aload_n 0, 1) := by decide +kernel
theorem dX11_reckons_133 : decode cX11_reckons 133 = .ok (.getfield 43, 3) := by decide +kernel
theorem dX11_reckons_136 : decode cX11_reckons 136 = .ok (.iload_n 2, 1) := by decide +kernel
theorem dX11_reckons_137 : decode cX11_reckons 137 = .ok (.lload_n 3, 1) := by decide +kernel
theorem dX11_reckons_138 : decode cX11_reckons 138 = .ok (.lload 5, 2) := by decide +kernel
theorem dX11_reckons_140 : decode cX11_reckons 140 = .ok (.ladd, 1) := by decide +kernel
theorem dX11_reckons_141 : decode cX11_reckons 141 = .ok (.lastore, 1) := by decide +kernel
theorem dX11_reckons_142 : decode cX11_reckons 142 = .ok (.iconst 0, 1) := by decide +kernel
theorem dX11_reckons_143 : decode cX11_reckons 143 = .ok (.ireturn, 1) := by decide +kernel
theorem dX11_reckons_144 : decode cX11_reckons 144 = .ok (.aload_n 0, 1) := by decide +kernel
theorem dX11_reckons_145 : decode cX11_reckons 145 = .ok (.getfield 43, 3) := by decide +kernel
theorem dX11_reckons_148 : decode cX11_reckons 148 = .ok (.iload_n 2, 1) := by decide +kernel
theorem dX11_reckons_149 : decode cX11_reckons 149 = .ok (.lload_n 3, 1) := by decide +kernel
theorem dX11_reckons_150 : decode cX11_reckons 150 = .ok (.lload 5, 2) := by decide +kernel
theorem dX11_reckons_152 : decode cX11_reckons 152 = .ok (.lsub, 1) := by decide +kernel
theorem dX11_reckons_153 : decode cX11_reckons 153 = .ok (.lastore, 1) := by decide +kernel
theorem dX11_reckons_154 : decode cX11_reckons 154 = .ok (.iconst 0, 1) := by decide +kernel
theorem dX11_reckons_155 : decode cX11_reckons 155 = .ok (.ireturn, 1) := by decide +kernel
theorem dX11_reckons_156 : decode cX11_reckons 156 = .ok (.aload_n 0, 1) := by decide +kernel
theorem dX11_reckons_157 : decode cX11_reckons 157 = .ok (.getfield 43, 3) := by decide +kernel
theorem dX11_reckons_160 : decode cX11_reckons 160 = .ok (.iload_n 2, 1) := by decide +kernel
theorem dX11_reckons_161 : decode cX11_reckons 161 = .ok (.lload_n 3, 1) := by decide +kernel
theorem dX11_reckons_162 : decode cX11_reckons 162 = .ok (.lload 5, 2) := by decide +kernel
theorem dX11_reckons_164 : decode cX11_reckons 164 = .ok (.lmul, 1) := by decide +kernel
theorem dX11_reckons_165 : decode cX11_reckons 165 = .ok (.lastore, 1) := by decide +kernel
theorem dX11_reckons_166 : decode cX11_reckons 166 = .ok (.iconst 0, 1) := by decide +kernel
theorem dX11_reckons_167 : decode cX11_reckons 167 = .ok (.ireturn, 1) := by decide +kernel
theorem dX11_reckons_168 : decode cX11_reckons 168 = .ok (.aload_n 0, 1) := by decide +kernel
theorem dX11_reckons_169 : decode cX11_reckons 169 = .ok (.iload_n 1, 1) := by decide +kernel
theorem dX11_reckons_170 : decode cX11_reckons 170 = .ok (.iload_n 2, 1) := by decide +kernel
theorem dX11_reckons_171 : decode cX11_reckons 171 = .ok (.lload_n 3, 1) := by decide +kernel
theorem dX11_reckons_172 : decode cX11_reckons 172 = .ok (.lload 5, 2) := by decide +kernel
theorem dX11_reckons_174 : decode cX11_reckons 174 = .ok (.invokevirtual 254, 3) := by decide +kernel
theorem dX11_reckons_177 : decode cX11_reckons 177 = .ok (.ireturn, 1) := by decide +kernel
theorem dX11_divides_0 : decode cX11_divides 0 = .ok (.lload 5, 2) := by decide +kernel
theorem dX11_divides_2 : decode cX11_divides 2 = .ok (.lconst 0, 1) := by decide +kernel
theorem dX11_divides_3 : decode cX11_divides 3 = .ok (.lcmp, 1) := by decide +kernel
theorem dX11_divides_4 : decode cX11_divides 4 = .ok (.ifCond .ne 5, 3) := by decide +kernel
theorem dX11_divides_7 : decode cX11_divides 7 = .ok (.iconst 5, 1) := by decide +kernel
theorem dX11_divides_8 : decode cX11_divides 8 = .ok (.ireturn, 1) := by decide +kernel
theorem dX11_divides_9 : decode cX11_divides 9 = .ok (.lload 5, 2) := by decide +kernel
theorem dX11_divides_11 : decode cX11_divides 11 = .ok (.ldc2_w 258, 3) := by decide +kernel
theorem dX11_divides_14 : decode cX11_divides 14 = .ok (.lcmp, 1) := by decide +kernel
theorem dX11_divides_15 : decode cX11_divides 15 = .ok (.ifCond .ne 8, 3) := by decide +kernel
theorem dX11_divides_18 : decode cX11_divides 18 = .ok (.lload_n 3, 1) := by decide +kernel
theorem dX11_divides_19 : decode cX11_divides 19 = .ok (.lneg, 1) := by decide +kernel
theorem dX11_divides_20 : decode cX11_divides 20 = .ok (.goto 7, 3) := by decide +kernel
theorem dX11_divides_23 : decode cX11_divides 23 = .ok (.lload_n 3, 1) := by decide +kernel
theorem dX11_divides_24 : decode cX11_divides 24 = .ok (.lload 5, 2) := by decide +kernel
theorem dX11_divides_26 : decode cX11_divides 26 = .ok (.ldiv, 1) := by decide +kernel
theorem dX11_divides_27 : decode cX11_divides 27 = .ok (.lstore 7, 2) := by decide +kernel
theorem dX11_divides_29 : decode cX11_divides 29 = .ok (.aload_n 0, 1) := by decide +kernel
theorem dX11_divides_30 : decode cX11_divides 30 = .ok (.getfield 43, 3) := by decide +kernel
theorem dX11_divides_33 : decode cX11_divides 33 = .ok (.iload_n 2, 1) := by decide +kernel
theorem dX11_divides_34 : decode cX11_divides 34 = .ok (.aload_n 0, 1) := by decide +kernel
theorem dX11_divides_35 : decode cX11_divides 35 = .ok (.getfield 7, 3) := by decide +kernel
theorem dX11_divides_38 : decode cX11_divides 38 = .ok (.iload_n 1, 1) := by decide +kernel
theorem dX11_divides_39 : decode cX11_divides 39 = .ok (.iaload, 1) := by decide +kernel
theorem dX11_divides_40 : decode cX11_divides 40 = .ok (.iconst 5, 1) := by decide +kernel
theorem dX11_divides_41 : decode cX11_divides 41 = .ok (.if_icmp .ne 8, 3) := by decide +kernel
theorem dX11_divides_44 : decode cX11_divides 44 = .ok (.lload 7, 2) := by decide +kernel
theorem dX11_divides_46 : decode cX11_divides 46 = .ok (.goto 10, 3) := by decide +kernel
theorem dX11_divides_49 : decode cX11_divides 49 = .ok (.lload_n 3, 1) := by decide +kernel
theorem dX11_divides_50 : decode cX11_divides 50 = .ok (.lload 7, 2) := by decide +kernel
theorem dX11_divides_52 : decode cX11_divides 52 = .ok (.lload 5, 2) := by decide +kernel
theorem dX11_divides_54 : decode cX11_divides 54 = .ok (.lmul, 1) := by decide +kernel
theorem dX11_divides_55 : decode cX11_divides 55 = .ok (.lsub, 1) := by decide +kernel
theorem dX11_divides_56 : decode cX11_divides 56 = .ok (.lastore, 1) := by decide +kernel
theorem dX11_divides_57 : decode cX11_divides 57 = .ok (.iconst 0, 1) := by decide +kernel
theorem dX11_divides_58 : decode cX11_divides 58 = .ok (.ireturn, 1) := by decide +kernel
theorem dX11_intOf_0 : decode cX11_intOf 0 = .ok (.aload_n 0, 1) := by decide +kernel
theorem dX11_intOf_1 : decode cX11_intOf 1 = .ok (.getfield 43, 3) := by decide +kernel
theorem dX11_intOf_4 : decode cX11_intOf 4 = .ok (.iload_n 1, 1) := by decide +kernel
theorem dX11_intOf_5 : decode cX11_intOf 5 = .ok (.bipush 7, 2) := by decide +kernel
theorem dX11_intOf_7 : decode cX11_intOf 7 = .ok (.iand, 1) := by decide +kernel
theorem dX11_intOf_8 : decode cX11_intOf 8 = .ok (.laload, 1) := by decide +kernel
theorem dX11_intOf_9 : decode cX11_intOf 9 = .ok (.l2i, 1) := by decide +kernel
theorem dX11_intOf_10 : decode cX11_intOf 10 = .ok (.ireturn, 1) := by decide +kernel
theorem dX11_rows_0 : decode cX11_rows 0 = .ok (.aload_n 0, 1) := by decide +kernel
theorem dX11_rows_1 : decode cX11_rows 1 = .ok (.getfield 7, 3) := by decide +kernel
theorem dX11_rows_4 : decode cX11_rows 4 = .ok (.iload_n 1, 1) := by decide +kernel
theorem dX11_rows_5 : decode cX11_rows 5 = .ok (.iaload, 1) := by decide +kernel
theorem dX11_rows_6 : decode cX11_rows 6 = .ok (.istore_n 2, 1) := by decide +kernel
theorem dX11_rows_7 : decode cX11_rows 7 = .ok (.iload_n 2, 1) := by decide +kernel
theorem dX11_rows_8 : decode cX11_rows 8 = .ok (.bipush 10, 2) := by decide +kernel
theorem dX11_rows_10 : decode cX11_rows 10 = .ok (.if_icmp .le 9, 3) := by decide +kernel
theorem dX11_rows_13 : decode cX11_rows 13 = .ok (.aload_n 0, 1) := by decide +kernel
theorem dX11_rows_14 : decode cX11_rows 14 = .ok (.iload_n 1, 1) := by decide +kernel
theorem dX11_rows_15 : decode cX11_rows 15 = .ok (.invokevirtual 260, 3) := by decide +kernel
theorem dX11_rows_18 : decode cX11_rows 18 = .ok (.ireturn, 1) := by decide +kernel
theorem dX11_rows_19 : decode cX11_rows 19 = .ok (.aload_n 0, 1) := by decide +kernel
theorem dX11_rows_20 : decode cX11_rows 20 = .ok (.getfield 13, 3) := by decide +kernel
theorem dX11_rows_23 : decode cX11_rows 23 = .ok (.iload_n 1, 1) := by decide +kernel
theorem dX11_rows_24 : decode cX11_rows 24 = .ok (.iaload, 1) := by decide +kernel
theorem dX11_rows_25 : decode cX11_rows 25 = .ok (.bipush 63, 2) := by decide +kernel
theorem dX11_rows_27 : decode cX11_rows 27 = .ok (.iand, 1) := by decide +kernel
theorem dX11_rows_28 : decode cX11_rows 28 = .ok (.istore_n 3, 1) := by decide +kernel
theorem dX11_rows_29 : decode cX11_rows 29 = .ok (.iload_n 2, 1) := by decide +kernel
theorem dX11_rows_30 : decode cX11_rows 30 = .ok (.bipush 7, 2) := by decide +kernel
theorem dX11_rows_32 : decode cX11_rows 32 = .ok (.if_icmp .ne 10, 3) := by decide +kernel
theorem dX11_rows_35 : decode cX11_rows 35 = .ok (.aload_n 0, 1) := by decide +kernel
theorem dX11_rows_36 : decode cX11_rows 36 = .ok (.iload_n 1, 1) := by decide +kernel
theorem dX11_rows_37 : decode cX11_rows 37 = .ok (.iload_n 3, 1) := by decide +kernel
theorem dX11_rows_38 : decode cX11_rows 38 = .ok (.invokevirtual 263, 3) := by decide +kernel
theorem dX11_rows_41 : decode cX11_rows 41 = .ok (.ireturn, 1) := by decide +kernel
theorem dX11_rows_42 : decode cX11_rows 42 = .ok (.aload_n 0, 1) := by decide +kernel
theorem dX11_rows_43 : decode cX11_rows 43 = .ok (.getfield 56, 3) := by decide +kernel
theorem dX11_rows_46 : decode cX11_rows 46 = .ok (.iload_n 3, 1) := by decide +kernel
theorem dX11_rows_47 : decode cX11_rows 47 = .ok (.iaload, 1) := by decide +kernel
theorem dX11_rows_48 : decode cX11_rows 48 = .ok (.ifCond .ge 6, 3) := by decide +kernel
theorem dX11_rows_51 : decode cX11_rows 51 = .ok (.bipush 7, 2) := by decide +kernel
theorem dX11_rows_53 : decode cX11_rows 53 = .ok (.ireturn, 1) := by decide +kernel
theorem dX11_rows_54 : decode cX11_rows 54 = .ok (.iload_n 2, 1) := by decide +kernel
theorem dX11_rows_55 : decode cX11_rows 55 = .ok (.bipush 10, 2) := by decide +kernel
theorem dX11_rows_57 : decode cX11_rows 57 = .ok (.if_icmp .ne 26, 3) := by decide +kernel
theorem dX11_rows_60 : decode cX11_rows 60 = .ok (.aload_n 0, 1) := by decide +kernel
theorem dX11_rows_61 : decode cX11_rows 61 = .ok (.getfield 43, 3) := by decide +kernel
theorem dX11_rows_64 : decode cX11_rows 64 = .ok (.aload_n 0, 1) := by decide +kernel
theorem dX11_rows_65 : decode cX11_rows 65 = .ok (.getfield 16, 3) := by decide +kernel
theorem dX11_rows_68 : decode cX11_rows 68 = .ok (.iload_n 1, 1) := by decide +kernel
theorem dX11_rows_69 : decode cX11_rows 69 = .ok (.iaload, 1) := by decide +kernel
theorem dX11_rows_70 : decode cX11_rows 70 = .ok (.bipush 7, 2) := by decide +kernel
theorem dX11_rows_72 : decode cX11_rows 72 = .ok (.iand, 1) := by decide +kernel
theorem dX11_rows_73 : decode cX11_rows 73 = .ok (.aload_n 0, 1) := by decide +kernel
theorem dX11_rows_74 : decode cX11_rows 74 = .ok (.getfield 56, 3) := by decide +kernel
theorem dX11_rows_77 : decode cX11_rows 77 = .ok (.iload_n 3, 1) := by decide +kernel
theorem dX11_rows_78 : decode cX11_rows 78 = .ok (.iaload, 1) := by decide +kernel
theorem dX11_rows_79 : decode cX11_rows 79 = .ok (.i2l, 1) := by decide +kernel
theorem dX11_rows_80 : decode cX11_rows 80 = .ok (.lastore, 1) := by decide +kernel
theorem dX11_rows_81 : decode cX11_rows 81 = .ok (.iconst 0, 1) := by decide +kernel
theorem dX11_rows_82 : decode cX11_rows 82 = .ok (.ireturn, 1) := by decide +kernel
theorem dX11_rows_83 : decode cX11_rows 83 = .ok (.aload_n 0, 1) := by decide +kernel
theorem dX11_rows_84 : decode cX11_rows 84 = .ok (.aload_n 0, 1) := by decide +kernel
theorem dX11_rows_85 : decode cX11_rows 85 = .ok (.getfield 16, 3) := by decide +kernel
theorem dX11_rows_88 : decode cX11_rows 88 = .ok (.iload_n 1, 1) := by decide +kernel
theorem dX11_rows_89 : decode cX11_rows 89 = .ok (.iaload, 1) := by decide +kernel
theorem dX11_rows_90 : decode cX11_rows 90 = .ok (.invokevirtual 267, 3) := by decide +kernel
theorem dX11_rows_93 : decode cX11_rows 93 = .ok (.istore 4, 2) := by decide +kernel
theorem dX11_rows_95 : decode cX11_rows 95 = .ok (.iload 4, 2) := by decide +kernel
theorem dX11_rows_97 : decode cX11_rows 97 = .ok (.ifCond .lt 14, 3) := by decide +kernel
theorem dX11_rows_100 : decode cX11_rows 100 = .ok (.iload 4, 2) := by decide +kernel
theorem dX11_rows_102 : decode cX11_rows 102 = .ok (.aload_n 0, 1) := by decide +kernel
theorem dX11_rows_103 : decode cX11_rows 103 = .ok (.getfield 56, 3) := by decide +kernel
theorem dX11_rows_106 : decode cX11_rows 106 = .ok (.iload_n 3, 1) := by decide +kernel
theorem dX11_rows_107 : decode cX11_rows 107 = .ok (.iaload, 1) := by decide +kernel
theorem dX11_rows_108 : decode cX11_rows 108 = .ok (.if_icmp .lt 6, 3) := by decide +kernel
theorem dX11_rows_111 : decode cX11_rows 111 = .ok (.bipush 6, 2) := by decide +kernel
theorem dX11_rows_113 : decode cX11_rows 113 = .ok (.ireturn, 1) := by decide +kernel
theorem dX11_rows_114 : decode cX11_rows 114 = .ok (.iload_n 2, 1) := by decide +kernel
theorem dX11_rows_115 : decode cX11_rows 115 = .ok (.bipush 8, 2) := by decide +kernel
theorem dX11_rows_117 : decode cX11_rows 117 = .ok (.if_icmp .ne 14, 3) := by decide +kernel
theorem dX11_rows_120 : decode cX11_rows 120 = .ok (.aload_n 0, 1) := by decide +kernel
theorem dX11_rows_121 : decode cX11_rows 121 = .ok (.iload_n 1, 1) := by decide +kernel
theorem dX11_rows_122 : decode cX11_rows 122 = .ok (.iload_n 3, 1) := by decide +kernel
theorem dX11_rows_123 : decode cX11_rows 123 = .ok (.iload 4, 2) := by decide +kernel
theorem dX11_rows_125 : decode cX11_rows 125 = .ok (.invokevirtual 270, 3) := by decide +kernel
theorem dX11_rows_128 : decode cX11_rows 128 = .ok (.goto 11, 3) := by decide +kernel
theorem dX11_rows_131 : decode cX11_rows 131 = .ok (.aload_n 0, 1) := by decide +kernel
theorem dX11_rows_132 : decode cX11_rows 132 = .ok (.iload_n 1, 1) := by decide +kernel
theorem dX11_rows_133 : decode cX11_rows 133 = .ok (.iload_n 3, 1) := by decide +kernel
theorem dX11_rows_134 : decode cX11_rows 134 = .ok (.iload 4, 2) := by decide +kernel
theorem dX11_rows_136 : decode cX11_rows 136 = .ok (.invokevirtual 274, 3) := by decide +kernel
theorem dX11_rows_139 : decode cX11_rows 139 = .ok (.ireturn, 1) := by decide +kernel
theorem dX11_makes_0 : decode cX11_makes 0 = .ok (.aload_n 0, 1) := by decide +kernel
theorem dX11_makes_1 : decode cX11_makes 1 = .ok (.aload_n 0, 1) := by decide +kernel
theorem dX11_makes_2 : decode cX11_makes 2 = .ok (.getfield 16, 3) := by decide +kernel
theorem dX11_makes_5 : decode cX11_makes 5 = .ok (.iload_n 1, 1) := by decide +kernel
theorem dX11_makes_6 : decode cX11_makes 6 = .ok (.iaload, 1) := by decide +kernel
theorem dX11_makes_7 : decode cX11_makes 7 = .ok (.invokevirtual 267, 3) := by decide +kernel
theorem dX11_makes_10 : decode cX11_makes 10 = .ok (.istore_n 3, 1) := by decide +kernel
theorem dX11_makes_11 : decode cX11_makes 11 = .ok (.iload_n 3, 1) := by decide +kernel
theorem dX11_makes_12 : decode cX11_makes 12 = .ok (.ifCond .ge 6, 3) := by decide +kernel
theorem dX11_makes_15 : decode cX11_makes 15 = .ok (.bipush 8, 2) := by decide +kernel
theorem dX11_makes_17 : decode cX11_makes 17 = .ok (.ireturn, 1) := by decide +kernel
theorem dX11_makes_18 : decode cX11_makes 18 = .ok (.aload_n 0, 1) := by decide +kernel
theorem dX11_makes_19 : decode cX11_makes 19 = .ok (.getfield 56, 3) := by decide +kernel
theorem dX11_makes_22 : decode cX11_makes 22 = .ok (.iload_n 2, 1) := by decide +kernel
theorem dX11_makes_23 : decode cX11_makes 23 = .ok (.iload_n 3, 1) := by decide +kernel
theorem dX11_makes_24 : decode cX11_makes 24 = .ok (.bipush 63, 2) := by decide +kernel
theorem dX11_makes_26 : decode cX11_makes 26 = .ok (.iand, 1) := by decide +kernel
theorem dX11_makes_27 : decode cX11_makes 27 = .ok (.iastore, 1) := by decide +kernel
theorem dX11_makes_28 : decode cX11_makes 28 = .ok (.aload_n 0, 1) := by decide +kernel
theorem dX11_makes_29 : decode cX11_makes 29 = .ok (.getfield 59, 3) := by decide +kernel
theorem dX11_makes_32 : decode cX11_makes 32 = .ok (.iload_n 2, 1) := by decide +kernel
theorem dX11_makes_33 : decode cX11_makes 33 = .ok (.iload_n 2, 1) := by decide +kernel
theorem dX11_makes_34 : decode cX11_makes 34 = .ok (.bipush 56, 2) := by decide +kernel
theorem dX11_makes_36 : decode cX11_makes 36 = .ok (.if_icmp .lt 19, 3) := by decide +kernel
theorem dX11_makes_39 : decode cX11_makes 39 = .ok (.aload_n 0, 1) := by decide +kernel
theorem dX11_makes_40 : decode cX11_makes 40 = .ok (.getfield 19, 3) := by decide +kernel
theorem dX11_makes_43 : decode cX11_makes 43 = .ok (.iload_n 1, 1) := by decide +kernel
theorem dX11_makes_44 : decode cX11_makes 44 = .ok (.iaload, 1) := by decide +kernel
theorem dX11_makes_45 : decode cX11_makes 45 = .ok (.iconst 1, 1) := by decide +kernel
theorem dX11_makes_46 : decode cX11_makes 46 = .ok (.iand, 1) := by decide +kernel
theorem dX11_makes_47 : decode cX11_makes 47 = .ok (.iconst 1, 1) := by decide +kernel
theorem dX11_makes_48 : decode cX11_makes 48 = .ok (.if_icmp .ne 7, 3) := by decide +kernel
theorem dX11_makes_51 : decode cX11_makes 51 = .ok (.iconst 1, 1) := by decide +kernel
theorem dX11_makes_52 : decode cX11_makes 52 = .ok (.goto 4, 3) := by decide +kernel
theorem dX11_makes_55 : decode cX11_makes 55 = .ok (.iconst 0, 1) := by decide +kernel
theorem dX11_makes_56 : decode cX11_makes 56 = .ok (.bastore, 1) := by decide +kernel
theorem dX11_makes_57 : decode cX11_makes 57 = .ok (.iconst 0, 1) := by decide +kernel
theorem dX11_makes_58 : decode cX11_makes 58 = .ok (.istore 4, 2) := by decide +kernel
theorem dX11_makes_60 : decode cX11_makes 60 = .ok (.iload 4, 2) := by decide +kernel
theorem dX11_makes_62 : decode cX11_makes 62 = .ok (.bipush 64, 2) := by decide +kernel
theorem dX11_makes_64 : decode cX11_makes 64 = .ok (.if_icmp .ge 22, 3) := by decide +kernel
theorem dX11_makes_67 : decode cX11_makes 67 = .ok (.aload_n 0, 1) := by decide +kernel
theorem dX11_makes_68 : decode cX11_makes 68 = .ok (.getfield 63, 3) := by decide +kernel
theorem dX11_makes_71 : decode cX11_makes 71 = .ok (.bipush 64, 2) := by decide +kernel
theorem dX11_makes_73 : decode cX11_makes 73 = .ok (.iload_n 2, 1) := by decide +kernel
theorem dX11_makes_74 : decode cX11_makes 74 = .ok (.imul, 1) := by decide +kernel
theorem dX11_makes_75 : decode cX11_makes 75 = .ok (.iload 4, 2) := by decide +kernel
theorem dX11_makes_77 : decode cX11_makes 77 = .ok (.iadd, 1) := by decide +kernel
theorem dX11_makes_78 : decode cX11_makes 78 = .ok (.lconst 0, 1) := by decide +kernel
theorem dX11_makes_79 : decode cX11_makes 79 = .ok (.lastore, 1) := by decide +kernel
theorem dX11_makes_80 : decode cX11_makes 80 = .ok (.iinc 4 1, 3) := by decide +kernel
theorem dX11_makes_83 : decode cX11_makes 83 = .ok (.goto (-23), 3) := by decide +kernel
theorem dX11_makes_86 : decode cX11_makes 86 = .ok (.iconst 0, 1) := by decide +kernel
theorem dX11_makes_87 : decode cX11_makes 87 = .ok (.ireturn, 1) := by decide +kernel
theorem dX11_looksAt_0 : decode cX11_looksAt 0 = .ok (.aload_n 0, 1) := by decide +kernel
theorem dX11_looksAt_1 : decode cX11_looksAt 1 = .ok (.getfield 63, 3) := by decide +kernel
theorem dX11_looksAt_4 : decode cX11_looksAt 4 = .ok (.bipush 64, 2) := by decide +kernel
theorem dX11_looksAt_6 : decode cX11_looksAt 6 = .ok (.iload_n 2, 1) := by decide +kernel
theorem dX11_looksAt_7 : decode cX11_looksAt 7 = .ok (.imul, 1) := by decide +kernel
theorem dX11_looksAt_8 : decode cX11_looksAt 8 = .ok (.iload_n 3, 1) := by decide +kernel
theorem dX11_looksAt_9 : decode cX11_looksAt 9 = .ok (.iadd, 1) := by decide +kernel
theorem dX11_looksAt_10 : decode cX11_looksAt 10 = .ok (.laload, 1) := by decide +kernel
theorem dX11_looksAt_11 : decode cX11_looksAt 11 = .ok (.lstore 4, 2) := by decide +kernel
theorem dX11_looksAt_13 : decode cX11_looksAt 13 = .ok (.iload_n 2, 1) := by decide +kernel
theorem dX11_looksAt_14 : decode cX11_looksAt 14 = .ok (.bipush 56, 2) := by decide +kernel
theorem dX11_looksAt_16 : decode cX11_looksAt 16 = .ok (.if_icmp .lt 23, 3) := by decide +kernel
theorem dX11_looksAt_19 : decode cX11_looksAt 19 = .ok (.aload_n 0, 1) := by decide +kernel
theorem dX11_looksAt_20 : decode cX11_looksAt 20 = .ok (.getfield 47, 3) := by decide +kernel
theorem dX11_looksAt_23 : decode cX11_looksAt 23 = .ok (.aload_n 0, 1) := by decide +kernel
theorem dX11_looksAt_24 : decode cX11_looksAt 24 = .ok (.getfield 19, 3) := by decide +kernel
theorem dX11_looksAt_27 : decode cX11_looksAt 27 = .ok (.iload_n 1, 1) := by decide +kernel
theorem dX11_looksAt_28 : decode cX11_looksAt 28 = .ok (.iaload, 1) := by decide +kernel
theorem dX11_looksAt_29 : decode cX11_looksAt 29 = .ok (.bipush 7, 2) := by decide +kernel
theorem dX11_looksAt_31 : decode cX11_looksAt 31 = .ok (.iand, 1) := by decide +kernel
theorem dX11_looksAt_32 : decode cX11_looksAt 32 = .ok (.lload 4, 2) := by decide +kernel
theorem dX11_looksAt_34 : decode cX11_looksAt 34 = .ok (.l2i, 1) := by decide +kernel
theorem dX11_looksAt_35 : decode cX11_looksAt 35 = .ok (.iastore, 1) := by decide +kernel
theorem dX11_looksAt_36 : decode cX11_looksAt 36 = .ok (.goto 19, 3) := by decide +kernel
theorem dX11_looksAt_39 : decode cX11_looksAt 39 = .ok (.aload_n 0, 1) := by decide +kernel
theorem dX11_looksAt_40 : decode cX11_looksAt 40 = .ok (.getfield 43, 3) := by decide +kernel
theorem dX11_looksAt_43 : decode cX11_looksAt 43 = .ok (.aload_n 0, 1) := by decide +kernel
theorem dX11_looksAt_44 : decode cX11_looksAt 44 = .ok (.getfield 19, 3) := by decide +kernel
theorem dX11_looksAt_47 : decode cX11_looksAt 47 = .ok (.iload_n 1, 1) := by decide +kernel
theorem dX11_looksAt_48 : decode cX11_looksAt 48 = .ok (.iaload, 1) := by decide +kernel
theorem dX11_looksAt_49 : decode cX11_looksAt 49 = .ok (.bipush 7, 2) := by decide +kernel
theorem dX11_looksAt_51 : decode cX11_looksAt 51 = .ok (.iand, 1) := by decide +kernel
theorem dX11_looksAt_52 : decode cX11_looksAt 52 = .ok (.lload 4, 2) := by decide +kernel
theorem dX11_looksAt_54 : decode cX11_looksAt 54 = .ok (.lastore, 1) := by decide +kernel
theorem dX11_looksAt_55 : decode cX11_looksAt 55 = .ok (.iconst 0, 1) := by decide +kernel
theorem dX11_looksAt_56 : decode cX11_looksAt 56 = .ok (.ireturn, 1) := by decide +kernel
theorem dX11_puts_0 : decode cX11_puts 0 = .ok (.iload_n 2, 1) := by decide +kernel
theorem dX11_puts_1 : decode cX11_puts 1 = .ok (.iconst 3, 1) := by decide +kernel
theorem dX11_puts_2 : decode cX11_puts 2 = .ok (.ishr, 1) := by decide +kernel
theorem dX11_puts_3 : decode cX11_puts 3 = .ok (.istore 4, 2) := by decide +kernel
theorem dX11_puts_5 : decode cX11_puts 5 = .ok (.aload_n 0, 1) := by decide +kernel
theorem dX11_puts_6 : decode cX11_puts 6 = .ok (.getfield 43, 3) := by decide +kernel
theorem dX11_puts_9 : decode cX11_puts 9 = .ok (.aload_n 0, 1) := by decide +kernel
theorem dX11_puts_10 : decode cX11_puts 10 = .ok (.getfield 19, 3) := by decide +kernel
theorem dX11_puts_13 : decode cX11_puts 13 = .ok (.iload_n 1, 1) := by decide +kernel
theorem dX11_puts_14 : decode cX11_puts 14 = .ok (.iaload, 1) := by decide +kernel
theorem dX11_puts_15 : decode cX11_puts 15 = .ok (.bipush 7, 2) := by decide +kernel
theorem dX11_puts_17 : decode cX11_puts 17 = .ok (.iand, 1) := by decide +kernel
theorem dX11_puts_18 : decode cX11_puts 18 = .ok (.laload, 1) := by decide +kernel
theorem dX11_puts_19 : decode cX11_puts 19 = .ok (.lstore 5, 2) := by decide +kernel
theorem dX11_puts_21 : decode cX11_puts 21 = .ok (.iload 4, 2) := by decide +kernel
theorem dX11_puts_23 : decode cX11_puts 23 = .ok (.bipush 7, 2) := by decide +kernel
theorem dX11_puts_25 : decode cX11_puts 25 = .ok (.if_icmp .ne 51, 3) := by decide +kernel
theorem dX11_puts_28 : decode cX11_puts 28 = .ok (.aload_n 0, 1) := by decide +kernel
theorem dX11_puts_29 : decode cX11_puts 29 = .ok (.getfield 47, 3) := by decide +kernel
theorem dX11_puts_32 : decode cX11_puts 32 = .ok (.aload_n 0, 1) := by decide +kernel
theorem dX11_puts_33 : decode cX11_puts 33 = .ok (.getfield 19, 3) := by decide +kernel
theorem dX11_puts_36 : decode cX11_puts 36 = .ok (.iload_n 1, 1) := by decide +kernel
theorem dX11_puts_37 : decode cX11_puts 37 = .ok (.iaload, 1) := by decide +kernel
theorem dX11_puts_38 : decode cX11_puts 38 = .ok (.bipush 7, 2) := by decide +kernel
theorem dX11_puts_40 : decode cX11_puts 40 = .ok (.iand, 1) := by decide +kernel
theorem dX11_puts_41 : decode cX11_puts 41 = .ok (.iaload, 1) := by decide +kernel
theorem dX11_puts_42 : decode cX11_puts 42 = .ok (.istore 7, 2) := by decide +kernel
theorem dX11_puts_44 : decode cX11_puts 44 = .ok (.aload_n 0, 1) := by decide +kernel
theorem dX11_puts_45 : decode cX11_puts 45 = .ok (.getfield 59, 3) := by decide +kernel
theorem dX11_puts_48 : decode cX11_puts 48 = .ok (.iload_n 2, 1) := by decide +kernel
theorem dX11_puts_49 : decode cX11_puts 49 = .ok (.baload, 1) := by decide +kernel
theorem dX11_puts_50 : decode cX11_puts 50 = .ok (.ifCond .eq 21, 3) := by decide +kernel
theorem dX11_puts_53 : decode cX11_puts 53 = .ok (.iload 7, 2) := by decide +kernel
theorem dX11_puts_55 : decode cX11_puts 55 = .ok (.ifCond .le 16, 3) := by decide +kernel
theorem dX11_puts_58 : decode cX11_puts 58 = .ok (.aload_n 0, 1) := by decide +kernel
theorem dX11_puts_59 : decode cX11_puts 59 = .ok (.getfield 50, 3) := by decide +kernel
theorem dX11_puts_62 : decode cX11_puts 62 = .ok (.iload 7, 2) := by decide +kernel
theorem dX11_puts_64 : decode cX11_puts 64 = .ok (.iaload, 1) := by decide +kernel
theorem dX11_puts_65 : decode cX11_puts 65 = .ok (.ifCond .ne 6, 3) := by decide +kernel
theorem dX11_puts_68 : decode cX11_puts 68 = .ok (.bipush 10, 2) := by decide +kernel
theorem dX11_puts_70 : decode cX11_puts 70 = .ok (.ireturn, 1) := by decide +kernel
theorem dX11_puts_71 : decode cX11_puts 71 = .ok (.iload 7, 2) := by decide +kernel
theorem dX11_puts_73 : decode cX11_puts 73 = .ok (.i2l, 1) := by decide +kernel
theorem dX11_puts_74 : decode cX11_puts 74 = .ok (.lstore 5, 2) := by decide +kernel
theorem dX11_puts_76 : decode cX11_puts 76 = .ok (.aload_n 0, 1) := by decide +kernel
theorem dX11_puts_77 : decode cX11_puts 77 = .ok (.getfield 63, 3) := by decide +kernel
theorem dX11_puts_80 : decode cX11_puts 80 = .ok (.bipush 64, 2) := by decide +kernel
theorem dX11_puts_82 : decode cX11_puts 82 = .ok (.iload_n 2, 1) := by decide +kernel
theorem dX11_puts_83 : decode cX11_puts 83 = .ok (.imul, 1) := by decide +kernel
theorem dX11_puts_84 : decode cX11_puts 84 = .ok (.iload_n 3, 1) := by decide +kernel
theorem dX11_puts_85 : decode cX11_puts 85 = .ok (.iadd, 1) := by decide +kernel
theorem dX11_puts_86 : decode cX11_puts 86 = .ok (.iload 4, 2) := by decide +kernel
theorem dX11_puts_88 : decode cX11_puts 88 = .ok (.lload 5, 2) := by decide +kernel
theorem dX11_puts_90 : decode cX11_puts 90 = .ok (.invokestatic 277, 3) := by decide +kernel
theorem dX11_puts_93 : decode cX11_puts 93 = .ok (.lastore, 1) := by decide +kernel
theorem dX11_puts_94 : decode cX11_puts 94 = .ok (.iconst 0, 1) := by decide +kernel
theorem dX11_puts_95 : decode cX11_puts 95 = .ok (.ireturn, 1) := by decide +kernel
theorem dX11_fitted_0 : decode cX11_fitted 0 = .ok (.iload_n 0, 1) := by decide +kernel
theorem dX11_fitted_1 : decode cX11_fitted 1 = .ok (.tableswitch 87 0 6 #[43, 51, 57, 65, 87, 73, 80], 43) := by decide +kernel
theorem dX11_fitted_44 : decode cX11_fitted 44 = .ok (.lload_n 1, 1) := by decide +kernel
theorem dX11_fitted_45 : decode cX11_fitted 45 = .ok (.bipush 56, 2) := by decide +kernel
theorem dX11_fitted_47 : decode cX11_fitted 47 = .ok (.lshl, 1) := by decide +kernel
theorem dX11_fitted_48 : decode cX11_fitted 48 = .ok (.bipush 56, 2) := by decide +kernel
theorem dX11_fitted_50 : decode cX11_fitted 50 = .ok (.lshr, 1) := by decide +kernel
theorem dX11_fitted_51 : decode cX11_fitted 51 = .ok (.lreturn, 1) := by decide +kernel
theorem dX11_fitted_52 : decode cX11_fitted 52 = .ok (.lload_n 1, 1) := by decide +kernel
theorem dX11_fitted_53 : decode cX11_fitted 53 = .ok (.ldc2_w 281, 3) := by decide +kernel
theorem dX11_fitted_56 : decode cX11_fitted 56 = .ok (.land, 1) := by decide +kernel
theorem dX11_fitted_57 : decode cX11_fitted 57 = .ok (.lreturn, 1) := by decide +kernel
theorem dX11_fitted_58 : decode cX11_fitted 58 = .ok (.lload_n 1, 1) := by decide +kernel
theorem dX11_fitted_59 : decode cX11_fitted 59 = .ok (.bipush 48, 2) := by decide +kernel
theorem dX11_fitted_61 : decode cX11_fitted 61 = .ok (.lshl, 1) := by decide +kernel
theorem dX11_fitted_62 : decode cX11_fitted 62 = .ok (.bipush 48, 2) := by decide +kernel
theorem dX11_fitted_64 : decode cX11_fitted 64 = .ok (.lshr, 1) := by decide +kernel
theorem dX11_fitted_65 : decode cX11_fitted 65 = .ok (.lreturn, 1) := by decide +kernel
theorem dX11_fitted_66 : decode cX11_fitted 66 = .ok (.lload_n 1, 1) := by decide +kernel
theorem dX11_fitted_67 : decode cX11_fitted 67 = .ok (.bipush 32, 2) := by decide +kernel
theorem dX11_fitted_69 : decode cX11_fitted 69 = .ok (.lshl, 1) := by decide +kernel
theorem dX11_fitted_70 : decode cX11_fitted 70 = .ok (.bipush 32, 2) := by decide +kernel
theorem dX11_fitted_72 : decode cX11_fitted 72 = .ok (.lshr, 1) := by decide +kernel
theorem dX11_fitted_73 : decode cX11_fitted 73 = .ok (.lreturn, 1) := by decide +kernel
theorem dX11_fitted_74 : decode cX11_fitted 74 = .ok (.lload_n 1, 1) := by decide +kernel
theorem dX11_fitted_75 : decode cX11_fitted 75 = .ok (.bipush 24, 2) := by decide +kernel
theorem dX11_fitted_77 : decode cX11_fitted 77 = .ok (.invokestatic 283, 3) := by decide +kernel
theorem dX11_fitted_80 : decode cX11_fitted 80 = .ok (.lreturn, 1) := by decide +kernel
theorem dX11_fitted_81 : decode cX11_fitted 81 = .ok (.lload_n 1, 1) := by decide +kernel
theorem dX11_fitted_82 : decode cX11_fitted 82 = .ok (.bipush 53, 2) := by decide +kernel
theorem dX11_fitted_84 : decode cX11_fitted 84 = .ok (.invokestatic 283, 3) := by decide +kernel
theorem dX11_fitted_87 : decode cX11_fitted 87 = .ok (.lreturn, 1) := by decide +kernel
theorem dX11_fitted_88 : decode cX11_fitted 88 = .ok (.lload_n 1, 1) := by decide +kernel
theorem dX11_fitted_89 : decode cX11_fitted 89 = .ok (.lreturn, 1) := by decide +kernel
theorem dX11_rounded_0 : decode cX11_rounded 0 = .ok (.lload_n 0, 1) := by decide +kernel
theorem dX11_rounded_1 : decode cX11_rounded 1 = .ok (.lconst 0, 1) := by decide +kernel
theorem dX11_rounded_2 : decode cX11_rounded 2 = .ok (.lcmp, 1) := by decide +kernel
theorem dX11_rounded_3 : decode cX11_rounded 3 = .ok (.ifCond .ge 8, 3) := by decide +kernel
theorem dX11_rounded_6 : decode cX11_rounded 6 = .ok (.lload_n 0, 1) := by decide +kernel
theorem dX11_rounded_7 : decode cX11_rounded 7 = .ok (.lneg, 1) := by decide +kernel
theorem dX11_rounded_8 : decode cX11_rounded 8 = .ok (.goto 4, 3) := by decide +kernel
theorem dX11_rounded_11 : decode cX11_rounded 11 = .ok (.lload_n 0, 1) := by decide +kernel
theorem dX11_rounded_12 : decode cX11_rounded 12 = .ok (.lstore_n 3, 1) := by decide +kernel
theorem dX11_rounded_13 : decode cX11_rounded 13 = .ok (.iconst 0, 1) := by decide +kernel
theorem dX11_rounded_14 : decode cX11_rounded 14 = .ok (.istore 5, 2) := by decide +kernel
theorem dX11_rounded_16 : decode cX11_rounded 16 = .ok (.iload 5, 2) := by decide +kernel
theorem dX11_rounded_18 : decode cX11_rounded 18 = .ok (.bipush 64, 2) := by decide +kernel
theorem dX11_rounded_20 : decode cX11_rounded 20 = .ok (.iload_n 2, 1) := by decide +kernel
theorem dX11_rounded_21 : decode cX11_rounded 21 = .ok (.isub, 1) := by decide +kernel
theorem dX11_rounded_22 : decode cX11_rounded 22 = .ok (.if_icmp .ge 20, 3) := by decide +kernel
theorem dX11_rounded_25 : decode cX11_rounded 25 = .ok (.lload_n 3, 1) := by decide +kernel
theorem dX11_rounded_26 : decode cX11_rounded 26 = .ok (.iload_n 2, 1) := by decide +kernel
theorem dX11_rounded_27 : decode cX11_rounded 27 = .ok (.iload 5, 2) := by decide +kernel
theorem dX11_rounded_29 : decode cX11_rounded 29 = .ok (.iadd, 1) := by decide +kernel
theorem dX11_rounded_30 : decode cX11_rounded 30 = .ok (.lushr, 1) := by decide +kernel
theorem dX11_rounded_31 : decode cX11_rounded 31 = .ok (.lconst 0, 1) := by decide +kernel
theorem dX11_rounded_32 : decode cX11_rounded 32 = .ok (.lcmp, 1) := by decide +kernel
theorem dX11_rounded_33 : decode cX11_rounded 33 = .ok (.ifCond .eq 9, 3) := by decide +kernel
theorem dX11_rounded_36 : decode cX11_rounded 36 = .ok (.iinc 5 1, 3) := by decide +kernel
theorem dX11_rounded_39 : decode cX11_rounded 39 = .ok (.goto (-23), 3) := by decide +kernel
theorem dX11_rounded_42 : decode cX11_rounded 42 = .ok (.iload 5, 2) := by decide +kernel
theorem dX11_rounded_44 : decode cX11_rounded 44 = .ok (.ifCond .ne 5, 3) := by decide +kernel
theorem dX11_rounded_47 : decode cX11_rounded 47 = .ok (.lload_n 0, 1) := by decide +kernel
theorem dX11_rounded_48 : decode cX11_rounded 48 = .ok (.lreturn, 1) := by decide +kernel
theorem dX11_rounded_49 : decode cX11_rounded 49 = .ok (.lload_n 3, 1) := by decide +kernel
theorem dX11_rounded_50 : decode cX11_rounded 50 = .ok (.lconst 1, 1) := by decide +kernel
theorem dX11_rounded_51 : decode cX11_rounded 51 = .ok (.iload 5, 2) := by decide +kernel
theorem dX11_rounded_53 : decode cX11_rounded 53 = .ok (.lshl, 1) := by decide +kernel
theorem dX11_rounded_54 : decode cX11_rounded 54 = .ok (.lconst 1, 1) := by decide +kernel
theorem dX11_rounded_55 : decode cX11_rounded 55 = .ok (.lsub, 1) := by decide +kernel
theorem dX11_rounded_56 : decode cX11_rounded 56 = .ok (.land, 1) := by decide +kernel
theorem dX11_rounded_57 : decode cX11_rounded 57 = .ok (.lstore 6, 2) := by decide +kernel
theorem dX11_rounded_59 : decode cX11_rounded 59 = .ok (.lconst 1, 1) := by decide +kernel
theorem dX11_rounded_60 : decode cX11_rounded 60 = .ok (.iload 5, 2) := by decide +kernel
theorem dX11_rounded_62 : decode cX11_rounded 62 = .ok (.iconst 1, 1) := by decide +kernel
theorem dX11_rounded_63 : decode cX11_rounded 63 = .ok (.isub, 1) := by decide +kernel
theorem dX11_rounded_64 : decode cX11_rounded 64 = .ok (.lshl, 1) := by decide +kernel
theorem dX11_rounded_65 : decode cX11_rounded 65 = .ok (.lstore 8, 2) := by decide +kernel
theorem dX11_rounded_67 : decode cX11_rounded 67 = .ok (.lload_n 3, 1) := by decide +kernel
theorem dX11_rounded_68 : decode cX11_rounded 68 = .ok (.iload 5, 2) := by decide +kernel
theorem dX11_rounded_70 : decode cX11_rounded 70 = .ok (.lushr, 1) := by decide +kernel
theorem dX11_rounded_71 : decode cX11_rounded 71 = .ok (.lstore 10, 2) := by decide +kernel
theorem dX11_rounded_73 : decode cX11_rounded 73 = .ok (.lload 6, 2) := by decide +kernel
theorem dX11_rounded_75 : decode cX11_rounded 75 = .ok (.lload 8, 2) := by decide +kernel
theorem dX11_rounded_77 : decode cX11_rounded 77 = .ok (.lcmp, 1) := by decide +kernel
theorem dX11_rounded_78 : decode cX11_rounded 78 = .ok (.ifCond .gt 20, 3) := by decide +kernel
theorem dX11_rounded_81 : decode cX11_rounded 81 = .ok (.lload 6, 2) := by decide +kernel
theorem dX11_rounded_83 : decode cX11_rounded 83 = .ok (.lload 8, 2) := by decide +kernel
theorem dX11_rounded_85 : decode cX11_rounded 85 = .ok (.lcmp, 1) := by decide +kernel
theorem dX11_rounded_86 : decode cX11_rounded 86 = .ok (.ifCond .ne 18, 3) := by decide +kernel
theorem dX11_rounded_89 : decode cX11_rounded 89 = .ok (.lload 10, 2) := by decide +kernel
theorem dX11_rounded_91 : decode cX11_rounded 91 = .ok (.lconst 1, 1) := by decide +kernel
theorem dX11_rounded_92 : decode cX11_rounded 92 = .ok (.land, 1) := by decide +kernel
theorem dX11_rounded_93 : decode cX11_rounded 93 = .ok (.lconst 1, 1) := by decide +kernel
theorem dX11_rounded_94 : decode cX11_rounded 94 = .ok (.lcmp, 1) := by decide +kernel
theorem dX11_rounded_95 : decode cX11_rounded 95 = .ok (.ifCond .ne 9, 3) := by decide +kernel
theorem dX11_rounded_98 : decode cX11_rounded 98 = .ok (.lload 10, 2) := by decide +kernel
theorem dX11_rounded_100 : decode cX11_rounded 100 = .ok (.lconst 1, 1) := by decide +kernel
theorem dX11_rounded_101 : decode cX11_rounded 101 = .ok (.ladd, 1) := by decide +kernel
theorem dX11_rounded_102 : decode cX11_rounded 102 = .ok (.lstore 10, 2) := by decide +kernel
theorem dX11_rounded_104 : decode cX11_rounded 104 = .ok (.lload 10, 2) := by decide +kernel
theorem dX11_rounded_106 : decode cX11_rounded 106 = .ok (.iload 5, 2) := by decide +kernel
theorem dX11_rounded_108 : decode cX11_rounded 108 = .ok (.lshl, 1) := by decide +kernel
theorem dX11_rounded_109 : decode cX11_rounded 109 = .ok (.lstore 12, 2) := by decide +kernel
theorem dX11_rounded_111 : decode cX11_rounded 111 = .ok (.lload_n 0, 1) := by decide +kernel
theorem dX11_rounded_112 : decode cX11_rounded 112 = .ok (.lconst 0, 1) := by decide +kernel
theorem dX11_rounded_113 : decode cX11_rounded 113 = .ok (.lcmp, 1) := by decide +kernel
theorem dX11_rounded_114 : decode cX11_rounded 114 = .ok (.ifCond .ge 7, 3) := by decide +kernel
theorem dX11_rounded_117 : decode cX11_rounded 117 = .ok (.lload 12, 2) := by decide +kernel
theorem dX11_rounded_119 : decode cX11_rounded 119 = .ok (.lneg, 1) := by decide +kernel
theorem dX11_rounded_120 : decode cX11_rounded 120 = .ok (.lreturn, 1) := by decide +kernel
theorem dX11_rounded_121 : decode cX11_rounded 121 = .ok (.lload 12, 2) := by decide +kernel
theorem dX11_rounded_123 : decode cX11_rounded 123 = .ok (.lconst 0, 1) := by decide +kernel
theorem dX11_rounded_124 : decode cX11_rounded 124 = .ok (.lcmp, 1) := by decide +kernel
theorem dX11_rounded_125 : decode cX11_rounded 125 = .ok (.ifCond .ge 9, 3) := by decide +kernel
theorem dX11_rounded_128 : decode cX11_rounded 128 = .ok (.ldc2_w 287, 3) := by decide +kernel
theorem dX11_rounded_131 : decode cX11_rounded 131 = .ok (.goto 5, 3) := by decide +kernel
theorem dX11_rounded_134 : decode cX11_rounded 134 = .ok (.lload 12, 2) := by decide +kernel
theorem dX11_rounded_136 : decode cX11_rounded 136 = .ok (.lreturn, 1) := by decide +kernel
theorem dX11_grids_0 : decode cX11_grids 0 = .ok (.aload_n 0, 1) := by decide +kernel
theorem dX11_grids_1 : decode cX11_grids 1 = .ok (.aload_n 0, 1) := by decide +kernel
theorem dX11_grids_2 : decode cX11_grids 2 = .ok (.getfield 13, 3) := by decide +kernel
theorem dX11_grids_5 : decode cX11_grids 5 = .ok (.iload_n 1, 1) := by decide +kernel
theorem dX11_grids_6 : decode cX11_grids 6 = .ok (.iaload, 1) := by decide +kernel
theorem dX11_grids_7 : decode cX11_grids 7 = .ok (.invokevirtual 267, 3) := by decide +kernel
theorem dX11_grids_10 : decode cX11_grids 10 = .ok (.istore_n 2, 1) := by decide +kernel
theorem dX11_grids_11 : decode cX11_grids 11 = .ok (.aload_n 0, 1) := by decide +kernel
theorem dX11_grids_12 : decode cX11_grids 12 = .ok (.aload_n 0, 1) := by decide +kernel
theorem dX11_grids_13 : decode cX11_grids 13 = .ok (.getfield 16, 3) := by decide +kernel
theorem dX11_grids_16 : decode cX11_grids 16 = .ok (.iload_n 1, 1) := by decide +kernel
theorem dX11_grids_17 : decode cX11_grids 17 = .ok (.iaload, 1) := by decide +kernel
theorem dX11_grids_18 : decode cX11_grids 18 = .ok (.invokevirtual 267, 3) := by decide +kernel
theorem dX11_grids_21 : decode cX11_grids 21 = .ok (.istore_n 3, 1) := by decide +kernel
theorem dX11_grids_22 : decode cX11_grids 22 = .ok (.aload_n 0, 1) := by decide +kernel
theorem dX11_grids_23 : decode cX11_grids 23 = .ok (.getfield 7, 3) := by decide +kernel
theorem dX11_grids_26 : decode cX11_grids 26 = .ok (.iload_n 1, 1) := by decide +kernel
theorem dX11_grids_27 : decode cX11_grids 27 = .ok (.iaload, 1) := by decide +kernel
theorem dX11_grids_28 : decode cX11_grids 28 = .ok (.bipush 11, 2) := by decide +kernel
theorem dX11_grids_30 : decode cX11_grids 30 = .ok (.if_icmp .ne 61, 3) := by decide +kernel
theorem dX11_grids_33 : decode cX11_grids 33 = .ok (.iload_n 2, 1) := by decide +kernel
theorem dX11_grids_34 : decode cX11_grids 34 = .ok (.ifCond .lt 7, 3) := by decide +kernel
theorem dX11_grids_37 : decode cX11_grids 37 = .ok (.iload_n 3, 1) := by decide +kernel
theorem dX11_grids_38 : decode cX11_grids 38 = .ok (.ifCond .ge 6, 3) := by decide +kernel
theorem dX11_grids_41 : decode cX11_grids 41 = .ok (.bipush 8, 2) := by decide +kernel
theorem dX11_grids_43 : decode cX11_grids 43 = .ok (.ireturn, 1) := by decide +kernel
theorem dX11_grids_44 : decode cX11_grids 44 = .ok (.aload_n 0, 1) := by decide +kernel
theorem dX11_grids_45 : decode cX11_grids 45 = .ok (.iconst 1, 1) := by decide +kernel
theorem dX11_grids_46 : decode cX11_grids 46 = .ok (.putfield 289, 3) := by decide +kernel
theorem dX11_grids_49 : decode cX11_grids 49 = .ok (.aload_n 0, 1) := by decide +kernel
theorem dX11_grids_50 : decode cX11_grids 50 = .ok (.iload_n 2, 1) := by decide +kernel
theorem dX11_grids_51 : decode cX11_grids 51 = .ok (.bipush 7, 2) := by decide +kernel
theorem dX11_grids_53 : decode cX11_grids 53 = .ok (.iand, 1) := by decide +kernel
theorem dX11_grids_54 : decode cX11_grids 54 = .ok (.putfield 292, 3) := by decide +kernel
theorem dX11_grids_57 : decode cX11_grids 57 = .ok (.aload_n 0, 1) := by decide +kernel
theorem dX11_grids_58 : decode cX11_grids 58 = .ok (.iload_n 3, 1) := by decide +kernel
theorem dX11_grids_59 : decode cX11_grids 59 = .ok (.bipush 7, 2) := by decide +kernel
theorem dX11_grids_61 : decode cX11_grids 61 = .ok (.iand, 1) := by decide +kernel
theorem dX11_grids_62 : decode cX11_grids 62 = .ok (.putfield 295, 3) := by decide +kernel
theorem dX11_grids_65 : decode cX11_grids 65 = .ok (.iconst 0, 1) := by decide +kernel
theorem dX11_grids_66 : decode cX11_grids 66 = .ok (.istore 4, 2) := by decide +kernel
theorem dX11_grids_68 : decode cX11_grids 68 = .ok (.iload 4, 2) := by decide +kernel
theorem dX11_grids_70 : decode cX11_grids 70 = .ok (.bipush 64, 2) := by decide +kernel
theorem dX11_grids_72 : decode cX11_grids 72 = .ok (.if_icmp .ge 17, 3) := by decide +kernel
theorem dX11_grids_75 : decode cX11_grids 75 = .ok (.aload_n 0, 1) := by decide +kernel
theorem dX11_grids_76 : decode cX11_grids 76 = .ok (.getfield 66, 3) := by decide +kernel
theorem dX11_grids_79 : decode cX11_grids 79 = .ok (.iload 4, 2) := by decide +kernel
theorem dX11_grids_81 : decode cX11_grids 81 = .ok (.iconst 0, 1) := by decide +kernel
theorem dX11_grids_82 : decode cX11_grids 82 = .ok (.iastore, 1) := by decide +kernel
theorem dX11_grids_83 : decode cX11_grids 83 = .ok (.iinc 4 1, 3) := by decide +kernel
theorem dX11_grids_86 : decode cX11_grids 86 = .ok (.goto (-18), 3) := by decide +kernel
theorem dX11_grids_89 : decode cX11_grids 89 = .ok (.iconst 0, 1) := by decide +kernel
theorem dX11_grids_90 : decode cX11_grids 90 = .ok (.ireturn, 1) := by decide +kernel
theorem dX11_grids_91 : decode cX11_grids 91 = .ok (.aload_n 0, 1) := by decide +kernel
theorem dX11_grids_92 : decode cX11_grids 92 = .ok (.getfield 289, 3) := by decide +kernel
theorem dX11_grids_95 : decode cX11_grids 95 = .ok (.ifCond .ne 6, 3) := by decide +kernel
theorem dX11_grids_98 : decode cX11_grids 98 = .ok (.bipush 7, 2) := by decide +kernel
theorem dX11_grids_100 : decode cX11_grids 100 = .ok (.ireturn, 1) := by decide +kernel
theorem dX11_grids_101 : decode cX11_grids 101 = .ok (.iload_n 2, 1) := by decide +kernel
theorem dX11_grids_102 : decode cX11_grids 102 = .ok (.ifCond .lt 23, 3) := by decide +kernel
theorem dX11_grids_105 : decode cX11_grids 105 = .ok (.iload_n 2, 1) := by decide +kernel
theorem dX11_grids_106 : decode cX11_grids 106 = .ok (.aload_n 0, 1) := by decide +kernel
theorem dX11_grids_107 : decode cX11_grids 107 = .ok (.getfield 292, 3) := by decide +kernel
theorem dX11_grids_110 : decode cX11_grids 110 = .ok (.if_icmp .ge 15, 3) := by decide +kernel
theorem dX11_grids_113 : decode cX11_grids 113 = .ok (.iload_n 3, 1) := by decide +kernel
theorem dX11_grids_114 : decode cX11_grids 114 = .ok (.ifCond .lt 11, 3) := by decide +kernel
theorem dX11_grids_117 : decode cX11_grids 117 = .ok (.iload_n 3, 1) := by decide +kernel
theorem dX11_grids_118 : decode cX11_grids 118 = .ok (.aload_n 0, 1) := by decide +kernel
theorem dX11_grids_119 : decode cX11_grids 119 = .ok (.getfield 295, 3) := by decide +kernel
theorem dX11_grids_122 : decode cX11_grids 122 = .ok (.if_icmp .lt 6, 3) := by decide +kernel
theorem dX11_grids_125 : decode cX11_grids 125 = .ok (.bipush 6, 2) := by decide +kernel
theorem dX11_grids_127 : decode cX11_grids 127 = .ok (.ireturn, 1) := by decide +kernel
theorem dX11_grids_128 : decode cX11_grids 128 = .ok (.aload_n 0, 1) := by decide +kernel
theorem dX11_grids_129 : decode cX11_grids 129 = .ok (.getfield 7, 3) := by decide +kernel
theorem dX11_grids_132 : decode cX11_grids 132 = .ok (.iload_n 1, 1) := by decide +kernel
theorem dX11_grids_133 : decode cX11_grids 133 = .ok (.iaload, 1) := by decide +kernel
theorem dX11_grids_134 : decode cX11_grids 134 = .ok (.bipush 12, 2) := by decide +kernel
theorem dX11_grids_136 : decode cX11_grids 136 = .ok (.if_icmp .ne 32, 3) := by decide +kernel
theorem dX11_grids_139 : decode cX11_grids 139 = .ok (.aload_n 0, 1) := by decide +kernel
theorem dX11_grids_140 : decode cX11_grids 140 = .ok (.getfield 43, 3) := by decide +kernel
theorem dX11_grids_143 : decode cX11_grids 143 = .ok (.aload_n 0, 1) := by decide +kernel
theorem dX11_grids_144 : decode cX11_grids 144 = .ok (.getfield 19, 3) := by decide +kernel
theorem dX11_grids_147 : decode cX11_grids 147 = .ok (.iload_n 1, 1) := by decide +kernel
theorem dX11_grids_148 : decode cX11_grids 148 = .ok (.iaload, 1) := by decide +kernel
theorem dX11_grids_149 : decode cX11_grids 149 = .ok (.bipush 7, 2) := by decide +kernel
theorem dX11_grids_151 : decode cX11_grids 151 = .ok (.iand, 1) := by decide +kernel
theorem dX11_grids_152 : decode cX11_grids 152 = .ok (.aload_n 0, 1) := by decide +kernel
theorem dX11_grids_153 : decode cX11_grids 153 = .ok (.getfield 66, 3) := by decide +kernel
theorem dX11_grids_156 : decode cX11_grids 156 = .ok (.bipush 8, 2) := by decide +kernel
theorem dX11_grids_158 : decode cX11_grids 158 = .ok (.iload_n 2, 1) := by decide +kernel
theorem dX11_grids_159 : decode cX11_grids 159 = .ok (.imul, 1) := by decide +kernel
theorem dX11_grids_160 : decode cX11_grids 160 = .ok (.iload_n 3, 1) := by decide +kernel
theorem dX11_grids_161 : decode cX11_grids 161 = .ok (.iadd, 1) := by decide +kernel
theorem dX11_grids_162 : decode cX11_grids 162 = .ok (.iaload, 1) := by decide +kernel
theorem dX11_grids_163 : decode cX11_grids 163 = .ok (.i2l, 1) := by decide +kernel
theorem dX11_grids_164 : decode cX11_grids 164 = .ok (.lastore, 1) := by decide +kernel
theorem dX11_grids_165 : decode cX11_grids 165 = .ok (.goto 24, 3) := by decide +kernel
theorem dX11_grids_168 : decode cX11_grids 168 = .ok (.aload_n 0, 1) := by decide +kernel
theorem dX11_grids_169 : decode cX11_grids 169 = .ok (.getfield 66, 3) := by decide +kernel
theorem dX11_grids_172 : decode cX11_grids 172 = .ok (.bipush 8, 2) := by decide +kernel
theorem dX11_grids_174 : decode cX11_grids 174 = .ok (.iload_n 2, 1) := by decide +kernel
theorem dX11_grids_175 : decode cX11_grids 175 = .ok (.imul, 1) := by decide +kernel
theorem dX11_grids_176 : decode cX11_grids 176 = .ok (.iload_n 3, 1) := by decide +kernel
theorem dX11_grids_177 : decode cX11_grids 177 = .ok (.iadd, 1) := by decide +kernel
theorem dX11_grids_178 : decode cX11_grids 178 = .ok (.aload_n 0, 1) := by decide +kernel
theorem dX11_grids_179 : decode cX11_grids 179 = .ok (.aload_n 0, 1) := by decide +kernel
theorem dX11_grids_180 : decode cX11_grids 180 = .ok (.getfield 19, 3) := by decide +kernel
theorem dX11_grids_183 : decode cX11_grids 183 = .ok (.iload_n 1, 1) := by decide +kernel
theorem dX11_grids_184 : decode cX11_grids 184 = .ok (.iaload, 1) := by decide +kernel
theorem dX11_grids_185 : decode cX11_grids 185 = .ok (.invokevirtual 267, 3) := by decide +kernel
theorem dX11_grids_188 : decode cX11_grids 188 = .ok (.iastore, 1) := by decide +kernel
theorem dX11_grids_189 : decode cX11_grids 189 = .ok (.iconst 0, 1) := by decide +kernel
theorem dX11_grids_190 : decode cX11_grids 190 = .ok (.ireturn, 1) := by decide +kernel
theorem dX11_withThings_0 : decode cX11_withThings 0 = .ok (.aload_n 0, 1) := by decide +kernel
theorem dX11_withThings_1 : decode cX11_withThings 1 = .ok (.getfield 7, 3) := by decide +kernel
theorem dX11_withThings_4 : decode cX11_withThings 4 = .ok (.iload_n 1, 1) := by decide +kernel
theorem dX11_withThings_5 : decode cX11_withThings 5 = .ok (.iaload, 1) := by decide +kernel
theorem dX11_withThings_6 : decode cX11_withThings 6 = .ok (.istore_n 2, 1) := by decide +kernel
theorem dX11_withThings_7 : decode cX11_withThings 7 = .ok (.aload_n 0, 1) := by decide +kernel
theorem dX11_withThings_8 : decode cX11_withThings 8 = .ok (.getfield 47, 3) := by decide +kernel
theorem dX11_withThings_11 : decode cX11_withThings 11 = .ok (.aload_n 0, 1) := by decide +kernel
theorem dX11_withThings_12 : decode cX11_withThings 12 = .ok (.getfield 13, 3) := by decide +kernel
theorem dX11_withThings_15 : decode cX11_withThings 15 = .ok (.iload_n 1, 1) := by decide +kernel
theorem dX11_withThings_16 : decode cX11_withThings 16 = .ok (.iaload, 1) := by decide +kernel
theorem dX11_withThings_17 : decode cX11_withThings 17 = .ok (.bipush 7, 2) := by decide +kernel
theorem dX11_withThings_19 : decode cX11_withThings 19 = .ok (.iand, 1) := by decide +kernel
theorem dX11_withThings_20 : decode cX11_withThings 20 = .ok (.iaload, 1) := by decide +kernel
theorem dX11_withThings_21 : decode cX11_withThings 21 = .ok (.istore_n 3, 1) := by decide +kernel
theorem dX11_withThings_22 : decode cX11_withThings 22 = .ok (.iload_n 2, 1) := by decide +kernel
theorem dX11_withThings_23 : decode cX11_withThings 23 = .ok (.bipush 14, 2) := by decide +kernel
theorem dX11_withThings_25 : decode cX11_withThings 25 = .ok (.if_icmp .ne 45, 3) := by decide +kernel
theorem dX11_withThings_28 : decode cX11_withThings 28 = .ok (.aload_n 0, 1) := by decide +kernel
theorem dX11_withThings_29 : decode cX11_withThings 29 = .ok (.getfield 47, 3) := by decide +kernel
theorem dX11_withThings_32 : decode cX11_withThings 32 = .ok (.aload_n 0, 1) := by decide +kernel
theorem dX11_withThings_33 : decode cX11_withThings 33 = .ok (.getfield 13, 3) := by decide +kernel
theorem dX11_withThings_36 : decode cX11_withThings 36 = .ok (.iload_n 1, 1) := by decide +kernel
theorem dX11_withThings_37 : decode cX11_withThings 37 = .ok (.iaload, 1) := by decide +kernel
theorem dX11_withThings_38 : decode cX11_withThings 38 = .ok (.bipush 7, 2) := by decide +kernel
theorem dX11_withThings_40 : decode cX11_withThings 40 = .ok (.iand, 1) := by decide +kernel
theorem dX11_withThings_41 : decode cX11_withThings 41 = .ok (.aload_n 0, 1) := by decide +kernel
theorem dX11_withThings_42 : decode cX11_withThings 42 = .ok (.aload_n 0, 1) := by decide +kernel
theorem dX11_withThings_43 : decode cX11_withThings 43 = .ok (.getfield 16, 3) := by decide +kernel
theorem dX11_withThings_46 : decode cX11_withThings 46 = .ok (.iload_n 1, 1) := by decide +kernel
theorem dX11_withThings_47 : decode cX11_withThings 47 = .ok (.iaload, 1) := by decide +kernel
theorem dX11_withThings_48 : decode cX11_withThings 48 = .ok (.iconst 3, 1) := by decide +kernel
theorem dX11_withThings_49 : decode cX11_withThings 49 = .ok (.iand, 1) := by decide +kernel
theorem dX11_withThings_50 : decode cX11_withThings 50 = .ok (.aload_n 0, 1) := by decide +kernel
theorem dX11_withThings_51 : decode cX11_withThings 51 = .ok (.getfield 43, 3) := by decide +kernel
theorem dX11_withThings_54 : decode cX11_withThings 54 = .ok (.aload_n 0, 1) := by decide +kernel
theorem dX11_withThings_55 : decode cX11_withThings 55 = .ok (.getfield 19, 3) := by decide +kernel
theorem dX11_withThings_58 : decode cX11_withThings 58 = .ok (.iload_n 1, 1) := by decide +kernel
theorem dX11_withThings_59 : decode cX11_withThings 59 = .ok (.iaload, 1) := by decide +kernel
theorem dX11_withThings_60 : decode cX11_withThings 60 = .ok (.bipush 7, 2) := by decide +kernel
theorem dX11_withThings_62 : decode cX11_withThings 62 = .ok (.iand, 1) := by decide +kernel
theorem dX11_withThings_63 : decode cX11_withThings 63 = .ok (.laload, 1) := by decide +kernel
theorem dX11_withThings_64 : decode cX11_withThings 64 = .ok (.invokevirtual 298, 3) := by decide +kernel
theorem dX11_withThings_67 : decode cX11_withThings 67 = .ok (.iastore, 1) := by decide +kernel
theorem dX11_withThings_68 : decode cX11_withThings 68 = .ok (.iconst 0, 1) := by decide +kernel
theorem dX11_withThings_69 : decode cX11_withThings 69 = .ok (.ireturn, 1) := by decide +kernel
theorem dX11_withThings_70 : decode cX11_withThings 70 = .ok (.iload_n 2, 1) := by decide +kernel
theorem dX11_withThings_71 : decode cX11_withThings 71 = .ok (.bipush 15, 2) := by decide +kernel
theorem dX11_withThings_73 : decode cX11_withThings 73 = .ok (.if_icmp .ne 20, 3) := by decide +kernel
theorem dX11_withThings_76 : decode cX11_withThings 76 = .ok (.aload_n 0, 1) := by decide +kernel
theorem dX11_withThings_77 : decode cX11_withThings 77 = .ok (.getfield 47, 3) := by decide +kernel
theorem dX11_withThings_80 : decode cX11_withThings 80 = .ok (.aload_n 0, 1) := by decide +kernel
theorem dX11_withThings_81 : decode cX11_withThings 81 = .ok (.getfield 16, 3) := by decide +kernel
theorem dX11_withThings_84 : decode cX11_withThings 84 = .ok (.iload_n 1, 1) := by decide +kernel
theorem dX11_withThings_85 : decode cX11_withThings 85 = .ok (.iaload, 1) := by decide +kernel
theorem dX11_withThings_86 : decode cX11_withThings 86 = .ok (.bipush 7, 2) := by decide +kernel
theorem dX11_withThings_88 : decode cX11_withThings 88 = .ok (.iand, 1) := by decide +kernel
theorem dX11_withThings_89 : decode cX11_withThings 89 = .ok (.iload_n 3, 1) := by decide +kernel
theorem dX11_withThings_90 : decode cX11_withThings 90 = .ok (.iastore, 1) := by decide +kernel
theorem dX11_withThings_91 : decode cX11_withThings 91 = .ok (.iconst 0, 1) := by decide +kernel
theorem dX11_withThings_92 : decode cX11_withThings 92 = .ok (.ireturn, 1) := by decide +kernel
theorem dX11_withThings_93 : decode cX11_withThings 93 = .ok (.iload_n 2, 1) := by decide +kernel
theorem dX11_withThings_94 : decode cX11_withThings 94 = .ok (.bipush 18, 2) := by decide +kernel
theorem dX11_withThings_96 : decode cX11_withThings 96 = .ok (.if_icmp .ne 10, 3) := by decide +kernel
theorem dX11_withThings_99 : decode cX11_withThings 99 = .ok (.aload_n 0, 1) := by decide +kernel
theorem dX11_withThings_100 : decode cX11_withThings 100 = .ok (.iload_n 1, 1) := by decide +kernel
theorem dX11_withThings_101 : decode cX11_withThings 101 = .ok (.iload_n 3, 1) := by decide +kernel
theorem dX11_withThings_102 : decode cX11_withThings 102 = .ok (.invokevirtual 302, 3) := by decide +kernel
theorem dX11_withThings_105 : decode cX11_withThings 105 = .ok (.ireturn, 1) := by decide +kernel
theorem dX11_withThings_106 : decode cX11_withThings 106 = .ok (.iload_n 3, 1) := by decide +kernel
theorem dX11_withThings_107 : decode cX11_withThings 107 = .ok (.ifCond .ne 6, 3) := by decide +kernel
theorem dX11_withThings_110 : decode cX11_withThings 110 = .ok (.bipush 7, 2) := by decide +kernel
theorem dX11_withThings_112 : decode cX11_withThings 112 = .ok (.ireturn, 1) := by decide +kernel
theorem dX11_withThings_113 : decode cX11_withThings 113 = .ok (.iload_n 2, 1) := by decide +kernel
theorem dX11_withThings_114 : decode cX11_withThings 114 = .ok (.bipush 16, 2) := by decide +kernel
theorem dX11_withThings_116 : decode cX11_withThings 116 = .ok (.if_icmp .ne 26, 3) := by decide +kernel
theorem dX11_withThings_119 : decode cX11_withThings 119 = .ok (.aload_n 0, 1) := by decide +kernel
theorem dX11_withThings_120 : decode cX11_withThings 120 = .ok (.getfield 43, 3) := by decide +kernel
theorem dX11_withThings_123 : decode cX11_withThings 123 = .ok (.aload_n 0, 1) := by decide +kernel
theorem dX11_withThings_124 : decode cX11_withThings 124 = .ok (.getfield 16, 3) := by decide +kernel
theorem dX11_withThings_127 : decode cX11_withThings 127 = .ok (.iload_n 1, 1) := by decide +kernel
theorem dX11_withThings_128 : decode cX11_withThings 128 = .ok (.iaload, 1) := by decide +kernel
theorem dX11_withThings_129 : decode cX11_withThings 129 = .ok (.bipush 7, 2) := by decide +kernel
theorem dX11_withThings_131 : decode cX11_withThings 131 = .ok (.iand, 1) := by decide +kernel
theorem dX11_withThings_132 : decode cX11_withThings 132 = .ok (.aload_n 0, 1) := by decide +kernel
theorem dX11_withThings_133 : decode cX11_withThings 133 = .ok (.getfield 53, 3) := by decide +kernel
theorem dX11_withThings_136 : decode cX11_withThings 136 = .ok (.iload_n 3, 1) := by decide +kernel
theorem dX11_withThings_137 : decode cX11_withThings 137 = .ok (.laload, 1) := by decide +kernel
theorem dX11_withThings_138 : decode cX11_withThings 138 = .ok (.lastore, 1) := by decide +kernel
theorem dX11_withThings_139 : decode cX11_withThings 139 = .ok (.goto 40, 3) := by decide +kernel
theorem dX11_withThings_142 : decode cX11_withThings 142 = .ok (.iload_n 2, 1) := by decide +kernel
theorem dX11_withThings_143 : decode cX11_withThings 143 = .ok (.bipush 17, 2) := by decide +kernel
theorem dX11_withThings_145 : decode cX11_withThings 145 = .ok (.if_icmp .ne 26, 3) := by decide +kernel
theorem dX11_withThings_148 : decode cX11_withThings 148 = .ok (.aload_n 0, 1) := by decide +kernel
theorem dX11_withThings_149 : decode cX11_withThings 149 = .ok (.getfield 53, 3) := by decide +kernel
theorem dX11_withThings_152 : decode cX11_withThings 152 = .ok (.iload_n 3, 1) := by decide +kernel
theorem dX11_withThings_153 : decode cX11_withThings 153 = .ok (.aload_n 0, 1) := by decide +kernel
theorem dX11_withThings_154 : decode cX11_withThings 154 = .ok (.getfield 43, 3) := by decide +kernel
theorem dX11_withThings_157 : decode cX11_withThings 157 = .ok (.aload_n 0, 1) := by decide +kernel
theorem dX11_withThings_158 : decode cX11_withThings 158 = .ok (.getfield 16, 3) := by decide +kernel
theorem dX11_withThings_161 : decode cX11_withThings 161 = .ok (.iload_n 1, 1) := by decide +kernel
theorem dX11_withThings_162 : decode cX11_withThings 162 = .ok (.iaload, 1) := by decide +kernel
theorem dX11_withThings_163 : decode cX11_withThings 163 = .ok (.bipush 7, 2) := by decide +kernel
theorem dX11_withThings_165 : decode cX11_withThings 165 = .ok (.iand, 1) := by decide +kernel
theorem dX11_withThings_166 : decode cX11_withThings 166 = .ok (.laload, 1) := by decide +kernel
theorem dX11_withThings_167 : decode cX11_withThings 167 = .ok (.lastore, 1) := by decide +kernel
theorem dX11_withThings_168 : decode cX11_withThings 168 = .ok (.goto 11, 3) := by decide +kernel
theorem dX11_withThings_171 : decode cX11_withThings 171 = .ok (.aload_n 0, 1) := by decide +kernel
theorem dX11_withThings_172 : decode cX11_withThings 172 = .ok (.iload_n 1, 1) := by decide +kernel
theorem dX11_withThings_173 : decode cX11_withThings 173 = .ok (.iload_n 2, 1) := by decide +kernel
theorem dX11_withThings_174 : decode cX11_withThings 174 = .ok (.iload_n 3, 1) := by decide +kernel
theorem dX11_withThings_175 : decode cX11_withThings 175 = .ok (.invokevirtual 305, 3) := by decide +kernel
theorem dX11_withThings_178 : decode cX11_withThings 178 = .ok (.ireturn, 1) := by decide +kernel
theorem dX11_withThings_179 : decode cX11_withThings 179 = .ok (.iconst 0, 1) := by decide +kernel
theorem dX11_withThings_180 : decode cX11_withThings 180 = .ok (.ireturn, 1) := by decide +kernel
theorem dX11_newThing_0 : decode cX11_newThing 0 = .ok (.iload_n 1, 1) := by decide +kernel
theorem dX11_newThing_1 : decode cX11_newThing 1 = .ok (.iconst 3, 1) := by decide +kernel
theorem dX11_newThing_2 : decode cX11_newThing 2 = .ok (.if_icmp .ne 5, 3) := by decide +kernel
theorem dX11_newThing_5 : decode cX11_newThing 5 = .ok (.iconst 0, 1) := by decide +kernel
theorem dX11_newThing_6 : decode cX11_newThing 6 = .ok (.ireturn, 1) := by decide +kernel
theorem dX11_newThing_7 : decode cX11_newThing 7 = .ok (.aload_n 0, 1) := by decide +kernel
theorem dX11_newThing_8 : decode cX11_newThing 8 = .ok (.dup, 1) := by decide +kernel
theorem dX11_newThing_9 : decode cX11_newThing 9 = .ok (.getfield 308, 3) := by decide +kernel
theorem dX11_newThing_12 : decode cX11_newThing 12 = .ok (.iconst 1, 1) := by decide +kernel
theorem dX11_newThing_13 : decode cX11_newThing 13 = .ok (.iadd, 1) := by decide +kernel
theorem dX11_newThing_14 : decode cX11_newThing 14 = .ok (.putfield 308, 3) := by decide +kernel
theorem dX11_newThing_17 : decode cX11_newThing 17 = .ok (.aload_n 0, 1) := by decide +kernel
theorem dX11_newThing_18 : decode cX11_newThing 18 = .ok (.getfield 50, 3) := by decide +kernel
theorem dX11_newThing_21 : decode cX11_newThing 21 = .ok (.aload_n 0, 1) := by decide +kernel
theorem dX11_newThing_22 : decode cX11_newThing 22 = .ok (.getfield 308, 3) := by decide +kernel
theorem dX11_newThing_25 : decode cX11_newThing 25 = .ok (.iload_n 1, 1) := by decide +kernel
theorem dX11_newThing_26 : decode cX11_newThing 26 = .ok (.iastore, 1) := by decide +kernel
theorem dX11_newThing_27 : decode cX11_newThing 27 = .ok (.aload_n 0, 1) := by decide +kernel
theorem dX11_newThing_28 : decode cX11_newThing 28 = .ok (.getfield 53, 3) := by decide +kernel
theorem dX11_newThing_31 : decode cX11_newThing 31 = .ok (.aload_n 0, 1) := by decide +kernel
theorem dX11_newThing_32 : decode cX11_newThing 32 = .ok (.getfield 308, 3) := by decide +kernel
theorem dX11_newThing_35 : decode cX11_newThing 35 = .ok (.lload_n 2, 1) := by decide +kernel
theorem dX11_newThing_36 : decode cX11_newThing 36 = .ok (.lastore, 1) := by decide +kernel
theorem dX11_newThing_37 : decode cX11_newThing 37 = .ok (.aload_n 0, 1) := by decide +kernel
theorem dX11_newThing_38 : decode cX11_newThing 38 = .ok (.getfield 308, 3) := by decide +kernel
theorem dX11_newThing_41 : decode cX11_newThing 41 = .ok (.ireturn, 1) := by decide +kernel
theorem dX11_casts_0 : decode cX11_casts 0 = .ok (.iload_n 2, 1) := by decide +kernel
theorem dX11_casts_1 : decode cX11_casts 1 = .ok (.ifCond .ne 7, 3) := by decide +kernel
theorem dX11_casts_4 : decode cX11_casts 4 = .ok (.iconst (-1), 1) := by decide +kernel
theorem dX11_casts_5 : decode cX11_casts 5 = .ok (.goto 9, 3) := by decide +kernel
theorem dX11_casts_8 : decode cX11_casts 8 = .ok (.aload_n 0, 1) := by decide +kernel
theorem dX11_casts_9 : decode cX11_casts 9 = .ok (.getfield 50, 3) := by decide +kernel
theorem dX11_casts_12 : decode cX11_casts 12 = .ok (.iload_n 2, 1) := by decide +kernel
theorem dX11_casts_13 : decode cX11_casts 13 = .ok (.iaload, 1) := by decide +kernel
theorem dX11_casts_14 : decode cX11_casts 14 = .ok (.istore_n 3, 1) := by decide +kernel
theorem dX11_casts_15 : decode cX11_casts 15 = .ok (.aload_n 0, 1) := by decide +kernel
theorem dX11_casts_16 : decode cX11_casts 16 = .ok (.getfield 16, 3) := by decide +kernel
theorem dX11_casts_19 : decode cX11_casts 19 = .ok (.iload_n 1, 1) := by decide +kernel
theorem dX11_casts_20 : decode cX11_casts 20 = .ok (.iaload, 1) := by decide +kernel
theorem dX11_casts_21 : decode cX11_casts 21 = .ok (.iconst 3, 1) := by decide +kernel
theorem dX11_casts_22 : decode cX11_casts 22 = .ok (.iand, 1) := by decide +kernel
theorem dX11_casts_23 : decode cX11_casts 23 = .ok (.istore 4, 2) := by decide +kernel
theorem dX11_casts_25 : decode cX11_casts 25 = .ok (.iload_n 3, 1) := by decide +kernel
theorem dX11_casts_26 : decode cX11_casts 26 = .ok (.ifCond .lt 30, 3) := by decide +kernel
theorem dX11_casts_29 : decode cX11_casts 29 = .ok (.iload_n 3, 1) := by decide +kernel
theorem dX11_casts_30 : decode cX11_casts 30 = .ok (.iload 4, 2) := by decide +kernel
theorem dX11_casts_32 : decode cX11_casts 32 = .ok (.if_icmp .eq 24, 3) := by decide +kernel
theorem dX11_casts_35 : decode cX11_casts 35 = .ok (.iload_n 3, 1) := by decide +kernel
theorem dX11_casts_36 : decode cX11_casts 36 = .ok (.iconst 2, 1) := by decide +kernel
theorem dX11_casts_37 : decode cX11_casts 37 = .ok (.if_icmp .ne 9, 3) := by decide +kernel
theorem dX11_casts_40 : decode cX11_casts 40 = .ok (.iload 4, 2) := by decide +kernel
theorem dX11_casts_42 : decode cX11_casts 42 = .ok (.iconst 1, 1) := by decide +kernel
theorem dX11_casts_43 : decode cX11_casts 43 = .ok (.if_icmp .eq 13, 3) := by decide +kernel
theorem dX11_casts_46 : decode cX11_casts 46 = .ok (.iload_n 3, 1) := by decide +kernel
theorem dX11_casts_47 : decode cX11_casts 47 = .ok (.ifCond .le 13, 3) := by decide +kernel
theorem dX11_casts_50 : decode cX11_casts 50 = .ok (.iload 4, 2) := by decide +kernel
theorem dX11_casts_52 : decode cX11_casts 52 = .ok (.iconst 3, 1) := by decide +kernel
theorem dX11_casts_53 : decode cX11_casts 53 = .ok (.if_icmp .ne 7, 3) := by decide +kernel
theorem dX11_casts_56 : decode cX11_casts 56 = .ok (.iconst 1, 1) := by decide +kernel
theorem dX11_casts_57 : decode cX11_casts 57 = .ok (.goto 4, 3) := by decide +kernel
theorem dX11_casts_60 : decode cX11_casts 60 = .ok (.iconst 0, 1) := by decide +kernel
theorem dX11_casts_61 : decode cX11_casts 61 = .ok (.istore 5, 2) := by decide +kernel
theorem dX11_casts_63 : decode cX11_casts 63 = .ok (.iload 5, 2) := by decide +kernel
theorem dX11_casts_65 : decode cX11_casts 65 = .ok (.ifCond .ne 6, 3) := by decide +kernel
theorem dX11_casts_68 : decode cX11_casts 68 = .ok (.bipush 9, 2) := by decide +kernel
theorem dX11_casts_70 : decode cX11_casts 70 = .ok (.ireturn, 1) := by decide +kernel
theorem dX11_casts_71 : decode cX11_casts 71 = .ok (.aload_n 0, 1) := by decide +kernel
theorem dX11_casts_72 : decode cX11_casts 72 = .ok (.getfield 47, 3) := by decide +kernel
theorem dX11_casts_75 : decode cX11_casts 75 = .ok (.aload_n 0, 1) := by decide +kernel
theorem dX11_casts_76 : decode cX11_casts 76 = .ok (.getfield 19, 3) := by decide +kernel
theorem dX11_casts_79 : decode cX11_casts 79 = .ok (.iload_n 1, 1) := by decide +kernel
theorem dX11_casts_80 : decode cX11_casts 80 = .ok (.iaload, 1) := by decide +kernel
theorem dX11_casts_81 : decode cX11_casts 81 = .ok (.bipush 7, 2) := by decide +kernel
theorem dX11_casts_83 : decode cX11_casts 83 = .ok (.iand, 1) := by decide +kernel
theorem dX11_casts_84 : decode cX11_casts 84 = .ok (.iload_n 2, 1) := by decide +kernel
theorem dX11_casts_85 : decode cX11_casts 85 = .ok (.iastore, 1) := by decide +kernel
theorem dX11_casts_86 : decode cX11_casts 86 = .ok (.iconst 0, 1) := by decide +kernel
theorem dX11_casts_87 : decode cX11_casts 87 = .ok (.ireturn, 1) := by decide +kernel
theorem dX11_makesOf_0 : decode cX11_makesOf 0 = .ok (.aload_n 0, 1) := by decide +kernel
theorem dX11_makesOf_1 : decode cX11_makesOf 1 = .ok (.getfield 43, 3) := by decide +kernel
theorem dX11_makesOf_4 : decode cX11_makesOf 4 = .ok (.aload_n 0, 1) := by decide +kernel
theorem dX11_makesOf_5 : decode cX11_makesOf 5 = .ok (.getfield 16, 3) := by decide +kernel
theorem dX11_makesOf_8 : decode cX11_makesOf 8 = .ok (.iload_n 1, 1) := by decide +kernel
theorem dX11_makesOf_9 : decode cX11_makesOf 9 = .ok (.iaload, 1) := by decide +kernel
theorem dX11_makesOf_10 : decode cX11_makesOf 10 = .ok (.bipush 7, 2) := by decide +kernel
theorem dX11_makesOf_12 : decode cX11_makesOf 12 = .ok (.iand, 1) := by decide +kernel
theorem dX11_makesOf_13 : decode cX11_makesOf 13 = .ok (.laload, 1) := by decide +kernel
theorem dX11_makesOf_14 : decode cX11_makesOf 14 = .ok (.lstore 4, 2) := by decide +kernel
theorem dX11_makesOf_16 : decode cX11_makesOf 16 = .ok (.aload_n 0, 1) := by decide +kernel
theorem dX11_makesOf_17 : decode cX11_makesOf 17 = .ok (.getfield 53, 3) := by decide +kernel
theorem dX11_makesOf_20 : decode cX11_makesOf 20 = .ok (.iload_n 3, 1) := by decide +kernel
theorem dX11_makesOf_21 : decode cX11_makesOf 21 = .ok (.laload, 1) := by decide +kernel
theorem dX11_makesOf_22 : decode cX11_makesOf 22 = .ok (.lstore 6, 2) := by decide +kernel
theorem dX11_makesOf_24 : decode cX11_makesOf 24 = .ok (.aload_n 0, 1) := by decide +kernel
theorem dX11_makesOf_25 : decode cX11_makesOf 25 = .ok (.getfield 50, 3) := by decide +kernel
theorem dX11_makesOf_28 : decode cX11_makesOf 28 = .ok (.iload_n 3, 1) := by decide +kernel
theorem dX11_makesOf_29 : decode cX11_makesOf 29 = .ok (.iaload, 1) := by decide +kernel
theorem dX11_makesOf_30 : decode cX11_makesOf 30 = .ok (.istore 8, 2) := by decide +kernel
theorem dX11_makesOf_32 : decode cX11_makesOf 32 = .ok (.iload_n 2, 1) := by decide +kernel
theorem dX11_makesOf_33 : decode cX11_makesOf 33 = .ok (.bipush 20, 2) := by decide +kernel
theorem dX11_makesOf_35 : decode cX11_makesOf 35 = .ok (.if_icmp .ne 11, 3) := by decide +kernel
theorem dX11_makesOf_38 : decode cX11_makesOf 38 = .ok (.iload 8, 2) := by decide +kernel
theorem dX11_makesOf_40 : decode cX11_makesOf 40 = .ok (.ifCond .ne 6, 3) := by decide +kernel
theorem dX11_makesOf_43 : decode cX11_makesOf 43 = .ok (.bipush 9, 2) := by decide +kernel
theorem dX11_makesOf_45 : decode cX11_makesOf 45 = .ok (.ireturn, 1) := by decide +kernel
theorem dX11_makesOf_46 : decode cX11_makesOf 46 = .ok (.ldc2_w 311, 3) := by decide +kernel
theorem dX11_makesOf_49 : decode cX11_makesOf 49 = .ok (.lload 4, 2) := by decide +kernel
theorem dX11_makesOf_51 : decode cX11_makesOf 51 = .ok (.lmul, 1) := by decide +kernel
theorem dX11_makesOf_52 : decode cX11_makesOf 52 = .ok (.lload 6, 2) := by decide +kernel
theorem dX11_makesOf_54 : decode cX11_makesOf 54 = .ok (.ladd, 1) := by decide +kernel
theorem dX11_makesOf_55 : decode cX11_makesOf 55 = .ok (.lstore 9, 2) := by decide +kernel
theorem dX11_makesOf_57 : decode cX11_makesOf 57 = .ok (.iload_n 2, 1) := by decide +kernel
theorem dX11_makesOf_58 : decode cX11_makesOf 58 = .ok (.bipush 19, 2) := by decide +kernel
theorem dX11_makesOf_60 : decode cX11_makesOf 60 = .ok (.if_icmp .ne 44, 3) := by decide +kernel
theorem dX11_makesOf_63 : decode cX11_makesOf 63 = .ok (.iload 8, 2) := by decide +kernel
theorem dX11_makesOf_65 : decode cX11_makesOf 65 = .ok (.ifCond .ne 11, 3) := by decide +kernel
theorem dX11_makesOf_68 : decode cX11_makesOf 68 = .ok (.lload 6, 2) := by decide +kernel
theorem dX11_makesOf_70 : decode cX11_makesOf 70 = .ok (.lload 4, 2) := by decide +kernel
theorem dX11_makesOf_72 : decode cX11_makesOf 72 = .ok (.ladd, 1) := by decide +kernel
theorem dX11_makesOf_73 : decode cX11_makesOf 73 = .ok (.goto 26, 3) := by decide +kernel
theorem dX11_makesOf_76 : decode cX11_makesOf 76 = .ok (.iload 8, 2) := by decide +kernel
theorem dX11_makesOf_78 : decode cX11_makesOf 78 = .ok (.iconst 1, 1) := by decide +kernel
theorem dX11_makesOf_79 : decode cX11_makesOf 79 = .ok (.if_icmp .ne 11, 3) := by decide +kernel
theorem dX11_makesOf_82 : decode cX11_makesOf 82 = .ok (.lload 6, 2) := by decide +kernel
theorem dX11_makesOf_84 : decode cX11_makesOf 84 = .ok (.lload 4, 2) := by decide +kernel
theorem dX11_makesOf_86 : decode cX11_makesOf 86 = .ok (.lsub, 1) := by decide +kernel
theorem dX11_makesOf_87 : decode cX11_makesOf 87 = .ok (.goto 12, 3) := by decide +kernel
theorem dX11_makesOf_90 : decode cX11_makesOf 90 = .ok (.ldc2_w 313, 3) := by decide +kernel
theorem dX11_makesOf_93 : decode cX11_makesOf 93 = .ok (.lload 6, 2) := by decide +kernel
theorem dX11_makesOf_95 : decode cX11_makesOf 95 = .ok (.lload 4, 2) := by decide +kernel
theorem dX11_makesOf_97 : decode cX11_makesOf 97 = .ok (.lsub, 1) := by decide +kernel
theorem dX11_makesOf_98 : decode cX11_makesOf 98 = .ok (.lmul, 1) := by decide +kernel
theorem dX11_makesOf_99 : decode cX11_makesOf 99 = .ok (.lstore 9, 2) := by decide +kernel
theorem dX11_makesOf_101 : decode cX11_makesOf 101 = .ok (.goto 28, 3) := by decide +kernel
theorem dX11_makesOf_104 : decode cX11_makesOf 104 = .ok (.iload_n 2, 1) := by decide +kernel
theorem dX11_makesOf_105 : decode cX11_makesOf 105 = .ok (.bipush 20, 2) := by decide +kernel
theorem dX11_makesOf_107 : decode cX11_makesOf 107 = .ok (.if_icmp .ne 22, 3) := by decide +kernel
theorem dX11_makesOf_110 : decode cX11_makesOf 110 = .ok (.lload 6, 2) := by decide +kernel
theorem dX11_makesOf_112 : decode cX11_makesOf 112 = .ok (.lload 4, 2) := by decide +kernel
theorem dX11_makesOf_114 : decode cX11_makesOf 114 = .ok (.lxor, 1) := by decide +kernel
theorem dX11_makesOf_115 : decode cX11_makesOf 115 = .ok (.iload 8, 2) := by decide +kernel
theorem dX11_makesOf_117 : decode cX11_makesOf 117 = .ok (.iconst 2, 1) := by decide +kernel
theorem dX11_makesOf_118 : decode cX11_makesOf 118 = .ok (.if_icmp .ne 7, 3) := by decide +kernel
theorem dX11_makesOf_121 : decode cX11_makesOf 121 = .ok (.lconst 1, 1) := by decide +kernel
theorem dX11_makesOf_122 : decode cX11_makesOf 122 = .ok (.goto 4, 3) := by decide +kernel
theorem dX11_makesOf_125 : decode cX11_makesOf 125 = .ok (.lconst 0, 1) := by decide +kernel
theorem dX11_makesOf_126 : decode cX11_makesOf 126 = .ok (.ladd, 1) := by decide +kernel
theorem dX11_makesOf_127 : decode cX11_makesOf 127 = .ok (.lstore 9, 2) := by decide +kernel
theorem dX11_makesOf_129 : decode cX11_makesOf 129 = .ok (.aload_n 0, 1) := by decide +kernel
theorem dX11_makesOf_130 : decode cX11_makesOf 130 = .ok (.getfield 43, 3) := by decide +kernel
theorem dX11_makesOf_133 : decode cX11_makesOf 133 = .ok (.aload_n 0, 1) := by decide +kernel
theorem dX11_makesOf_134 : decode cX11_makesOf 134 = .ok (.getfield 19, 3) := by decide +kernel
theorem dX11_makesOf_137 : decode cX11_makesOf 137 = .ok (.iload_n 1, 1) := by decide +kernel
theorem dX11_makesOf_138 : decode cX11_makesOf 138 = .ok (.iaload, 1) := by decide +kernel
theorem dX11_makesOf_139 : decode cX11_makesOf 139 = .ok (.bipush 7, 2) := by decide +kernel
theorem dX11_makesOf_141 : decode cX11_makesOf 141 = .ok (.iand, 1) := by decide +kernel
theorem dX11_makesOf_142 : decode cX11_makesOf 142 = .ok (.lload 9, 2) := by decide +kernel
theorem dX11_makesOf_144 : decode cX11_makesOf 144 = .ok (.lastore, 1) := by decide +kernel
theorem dX11_makesOf_145 : decode cX11_makesOf 145 = .ok (.iconst 0, 1) := by decide +kernel
theorem dX11_makesOf_146 : decode cX11_makesOf 146 = .ok (.ireturn, 1) := by decide +kernel
theorem dX11_throwsAt_0 : decode cX11_throwsAt 0 = .ok (.aload_n 0, 1) := by decide +kernel
theorem dX11_throwsAt_1 : decode cX11_throwsAt 1 = .ok (.getfield 7, 3) := by decide +kernel
theorem dX11_throwsAt_4 : decode cX11_throwsAt 4 = .ok (.iload_n 1, 1) := by decide +kernel
theorem dX11_throwsAt_5 : decode cX11_throwsAt 5 = .ok (.iaload, 1) := by decide +kernel
theorem dX11_throwsAt_6 : decode cX11_throwsAt 6 = .ok (.bipush 23, 2) := by decide +kernel
theorem dX11_throwsAt_8 : decode cX11_throwsAt 8 = .ok (.if_icmp .ne 6, 3) := by decide +kernel
theorem dX11_throwsAt_11 : decode cX11_throwsAt 11 = .ok (.bipush 7, 2) := by decide +kernel
theorem dX11_throwsAt_13 : decode cX11_throwsAt 13 = .ok (.ireturn, 1) := by decide +kernel
theorem dX11_throwsAt_14 : decode cX11_throwsAt 14 = .ok (.aload_n 0, 1) := by decide +kernel
theorem dX11_throwsAt_15 : decode cX11_throwsAt 15 = .ok (.getfield 7, 3) := by decide +kernel
theorem dX11_throwsAt_18 : decode cX11_throwsAt 18 = .ok (.iload_n 1, 1) := by decide +kernel
theorem dX11_throwsAt_19 : decode cX11_throwsAt 19 = .ok (.iaload, 1) := by decide +kernel
theorem dX11_throwsAt_20 : decode cX11_throwsAt 20 = .ok (.bipush 22, 2) := by decide +kernel
theorem dX11_throwsAt_22 : decode cX11_throwsAt 22 = .ok (.if_icmp .ne 14, 3) := by decide +kernel
theorem dX11_throwsAt_25 : decode cX11_throwsAt 25 = .ok (.aload_n 0, 1) := by decide +kernel
theorem dX11_throwsAt_26 : decode cX11_throwsAt 26 = .ok (.getfield 13, 3) := by decide +kernel
theorem dX11_throwsAt_29 : decode cX11_throwsAt 29 = .ok (.iload_n 1, 1) := by decide +kernel
theorem dX11_throwsAt_30 : decode cX11_throwsAt 30 = .ok (.iaload, 1) := by decide +kernel
theorem dX11_throwsAt_31 : decode cX11_throwsAt 31 = .ok (.iconst 3, 1) := by decide +kernel
theorem dX11_throwsAt_32 : decode cX11_throwsAt 32 = .ok (.iand, 1) := by decide +kernel
theorem dX11_throwsAt_33 : decode cX11_throwsAt 33 = .ok (.iconst 1, 1) := by decide +kernel
theorem dX11_throwsAt_34 : decode cX11_throwsAt 34 = .ok (.iadd, 1) := by decide +kernel
theorem dX11_throwsAt_35 : decode cX11_throwsAt 35 = .ok (.ireturn, 1) := by decide +kernel
theorem dX11_throwsAt_36 : decode cX11_throwsAt 36 = .ok (.iconst 0, 1) := by decide +kernel
theorem dX11_throwsAt_37 : decode cX11_throwsAt 37 = .ok (.istore_n 2, 1) := by decide +kernel
theorem dX11_throwsAt_38 : decode cX11_throwsAt 38 = .ok (.aload_n 0, 1) := by decide +kernel
theorem dX11_throwsAt_39 : decode cX11_throwsAt 39 = .ok (.getfield 156, 3) := by decide +kernel
theorem dX11_throwsAt_42 : decode cX11_throwsAt 42 = .ok (.iconst 1, 1) := by decide +kernel
theorem dX11_throwsAt_43 : decode cX11_throwsAt 43 = .ok (.isub, 1) := by decide +kernel
theorem dX11_throwsAt_44 : decode cX11_throwsAt 44 = .ok (.istore_n 3, 1) := by decide +kernel
theorem dX11_throwsAt_45 : decode cX11_throwsAt 45 = .ok (.iload_n 3, 1) := by decide +kernel
theorem dX11_throwsAt_46 : decode cX11_throwsAt 46 = .ok (.ifCond .lt 44, 3) := by decide +kernel
theorem dX11_throwsAt_49 : decode cX11_throwsAt 49 = .ok (.iload_n 2, 1) := by decide +kernel
theorem dX11_throwsAt_50 : decode cX11_throwsAt 50 = .ok (.ifCond .ne 40, 3) := by decide +kernel
theorem dX11_throwsAt_53 : decode cX11_throwsAt 53 = .ok (.aload_n 0, 1) := by decide +kernel
theorem dX11_throwsAt_54 : decode cX11_throwsAt 54 = .ok (.getfield 69, 3) := by decide +kernel
theorem dX11_throwsAt_57 : decode cX11_throwsAt 57 = .ok (.iload_n 3, 1) := by decide +kernel
theorem dX11_throwsAt_58 : decode cX11_throwsAt 58 = .ok (.iaload, 1) := by decide +kernel
theorem dX11_throwsAt_59 : decode cX11_throwsAt 59 = .ok (.iconst 1, 1) := by decide +kernel
theorem dX11_throwsAt_60 : decode cX11_throwsAt 60 = .ok (.if_icmp .ne 22, 3) := by decide +kernel
theorem dX11_throwsAt_63 : decode cX11_throwsAt 63 = .ok (.aload_n 0, 1) := by decide +kernel
theorem dX11_throwsAt_64 : decode cX11_throwsAt 64 = .ok (.getfield 78, 3) := by decide +kernel
theorem dX11_throwsAt_67 : decode cX11_throwsAt 67 = .ok (.iload_n 3, 1) := by decide +kernel
theorem dX11_throwsAt_68 : decode cX11_throwsAt 68 = .ok (.iaload, 1) := by decide +kernel
theorem dX11_throwsAt_69 : decode cX11_throwsAt 69 = .ok (.iconst 1, 1) := by decide +kernel
theorem dX11_throwsAt_70 : decode cX11_throwsAt 70 = .ok (.if_icmp .ne 12, 3) := by decide +kernel
theorem dX11_throwsAt_73 : decode cX11_throwsAt 73 = .ok (.aload_n 0, 1) := by decide +kernel
theorem dX11_throwsAt_74 : decode cX11_throwsAt 74 = .ok (.getfield 81, 3) := by decide +kernel
theorem dX11_throwsAt_77 : decode cX11_throwsAt 77 = .ok (.iload_n 3, 1) := by decide +kernel
theorem dX11_throwsAt_78 : decode cX11_throwsAt 78 = .ok (.iaload, 1) := by decide +kernel
theorem dX11_throwsAt_79 : decode cX11_throwsAt 79 = .ok (.goto 4, 3) := by decide +kernel
theorem dX11_throwsAt_82 : decode cX11_throwsAt 82 = .ok (.iconst 0, 1) := by decide +kernel
theorem dX11_throwsAt_83 : decode cX11_throwsAt 83 = .ok (.istore_n 2, 1) := by decide +kernel
theorem dX11_throwsAt_84 : decode cX11_throwsAt 84 = .ok (.iinc 3 (-1), 3) := by decide +kernel
theorem dX11_throwsAt_87 : decode cX11_throwsAt 87 = .ok (.goto (-42), 3) := by decide +kernel
theorem dX11_throwsAt_90 : decode cX11_throwsAt 90 = .ok (.aload_n 0, 1) := by decide +kernel
theorem dX11_throwsAt_91 : decode cX11_throwsAt 91 = .ok (.aload_n 0, 1) := by decide +kernel
theorem dX11_throwsAt_92 : decode cX11_throwsAt 92 = .ok (.getfield 13, 3) := by decide +kernel
theorem dX11_throwsAt_95 : decode cX11_throwsAt 95 = .ok (.iload_n 1, 1) := by decide +kernel
theorem dX11_throwsAt_96 : decode cX11_throwsAt 96 = .ok (.iaload, 1) := by decide +kernel
theorem dX11_throwsAt_97 : decode cX11_throwsAt 97 = .ok (.iconst 3, 1) := by decide +kernel
theorem dX11_throwsAt_98 : decode cX11_throwsAt 98 = .ok (.iand, 1) := by decide +kernel
theorem dX11_throwsAt_99 : decode cX11_throwsAt 99 = .ok (.iload_n 2, 1) := by decide +kernel
theorem dX11_throwsAt_100 : decode cX11_throwsAt 100 = .ok (.invokevirtual 229, 3) := by decide +kernel
theorem dX11_throwsAt_103 : decode cX11_throwsAt 103 = .ok (.iconst (-1), 1) := by decide +kernel
theorem dX11_throwsAt_104 : decode cX11_throwsAt 104 = .ok (.ireturn, 1) := by decide +kernel
theorem dX11_end_0 : decode cX11_end 0 = .ok (.aload_n 0, 1) := by decide +kernel
theorem dX11_end_1 : decode cX11_end 1 = .ok (.getfield 99, 3) := by decide +kernel
theorem dX11_end_4 : decode cX11_end 4 = .ok (.ireturn, 1) := by decide +kernel
theorem dX11_result_0 : decode cX11_result 0 = .ok (.aload_n 0, 1) := by decide +kernel
theorem dX11_result_1 : decode cX11_result 1 = .ok (.getfield 174, 3) := by decide +kernel
theorem dX11_result_4 : decode cX11_result 4 = .ok (.lreturn, 1) := by decide +kernel
theorem dX11_kind_0 : decode cX11_kind 0 = .ok (.aload_n 0, 1) := by decide +kernel
theorem dX11_kind_1 : decode cX11_kind 1 = .ok (.getfield 178, 3) := by decide +kernel
theorem dX11_kind_4 : decode cX11_kind 4 = .ok (.ifCond .ne 7, 3) := by decide +kernel
theorem dX11_kind_7 : decode cX11_kind 7 = .ok (.iconst (-1), 1) := by decide +kernel
theorem dX11_kind_8 : decode cX11_kind 8 = .ok (.goto 12, 3) := by decide +kernel
theorem dX11_kind_11 : decode cX11_kind 11 = .ok (.aload_n 0, 1) := by decide +kernel
theorem dX11_kind_12 : decode cX11_kind 12 = .ok (.getfield 93, 3) := by decide +kernel
theorem dX11_kind_15 : decode cX11_kind 15 = .ok (.aload_n 0, 1) := by decide +kernel
theorem dX11_kind_16 : decode cX11_kind 16 = .ok (.getfield 178, 3) := by decide +kernel
theorem dX11_kind_19 : decode cX11_kind 19 = .ok (.iaload, 1) := by decide +kernel
theorem dX11_kind_20 : decode cX11_kind 20 = .ok (.ireturn, 1) := by decide +kernel
theorem dX11_cause_0 : decode cX11_cause 0 = .ok (.aload_n 0, 1) := by decide +kernel
theorem dX11_cause_1 : decode cX11_cause 1 = .ok (.getfield 178, 3) := by decide +kernel
theorem dX11_cause_4 : decode cX11_cause 4 = .ok (.istore_n 2, 1) := by decide +kernel
theorem dX11_cause_5 : decode cX11_cause 5 = .ok (.iconst 0, 1) := by decide +kernel
theorem dX11_cause_6 : decode cX11_cause 6 = .ok (.istore_n 3, 1) := by decide +kernel
theorem dX11_cause_7 : decode cX11_cause 7 = .ok (.iload_n 3, 1) := by decide +kernel
theorem dX11_cause_8 : decode cX11_cause 8 = .ok (.iload_n 1, 1) := by decide +kernel
theorem dX11_cause_9 : decode cX11_cause 9 = .ok (.if_icmp .gt 20, 3) := by decide +kernel
theorem dX11_cause_12 : decode cX11_cause 12 = .ok (.iload_n 2, 1) := by decide +kernel
theorem dX11_cause_13 : decode cX11_cause 13 = .ok (.ifCond .le 16, 3) := by decide +kernel
theorem dX11_cause_16 : decode cX11_cause 16 = .ok (.aload_n 0, 1) := by decide +kernel
theorem dX11_cause_17 : decode cX11_cause 17 = .ok (.getfield 96, 3) := by decide +kernel
theorem dX11_cause_20 : decode cX11_cause 20 = .ok (.iload_n 2, 1) := by decide +kernel
theorem dX11_cause_21 : decode cX11_cause 21 = .ok (.iaload, 1) := by decide +kernel
theorem dX11_cause_22 : decode cX11_cause 22 = .ok (.istore_n 2, 1) := by decide +kernel
theorem dX11_cause_23 : decode cX11_cause 23 = .ok (.iinc 3 1, 3) := by decide +kernel
theorem dX11_cause_26 : decode cX11_cause 26 = .ok (.goto (-19), 3) := by decide +kernel
theorem dX11_cause_29 : decode cX11_cause 29 = .ok (.iload_n 1, 1) := by decide +kernel
theorem dX11_cause_30 : decode cX11_cause 30 = .ok (.ifCond .lt 7, 3) := by decide +kernel
theorem dX11_cause_33 : decode cX11_cause 33 = .ok (.iload_n 2, 1) := by decide +kernel
theorem dX11_cause_34 : decode cX11_cause 34 = .ok (.ifCond .ne 7, 3) := by decide +kernel
theorem dX11_cause_37 : decode cX11_cause 37 = .ok (.iconst (-1), 1) := by decide +kernel
theorem dX11_cause_38 : decode cX11_cause 38 = .ok (.goto 9, 3) := by decide +kernel
theorem dX11_cause_41 : decode cX11_cause 41 = .ok (.aload_n 0, 1) := by decide +kernel
theorem dX11_cause_42 : decode cX11_cause 42 = .ok (.getfield 93, 3) := by decide +kernel
theorem dX11_cause_45 : decode cX11_cause 45 = .ok (.iload_n 2, 1) := by decide +kernel
theorem dX11_cause_46 : decode cX11_cause 46 = .ok (.iaload, 1) := by decide +kernel
theorem dX11_cause_47 : decode cX11_cause 47 = .ok (.ireturn, 1) := by decide +kernel
theorem dX11_out_0 : decode cX11_out 0 = .ok (.iload_n 1, 1) := by decide +kernel
theorem dX11_out_1 : decode cX11_out 1 = .ok (.ifCond .lt 20, 3) := by decide +kernel
theorem dX11_out_4 : decode cX11_out 4 = .ok (.iload_n 1, 1) := by decide +kernel
theorem dX11_out_5 : decode cX11_out 5 = .ok (.aload_n 0, 1) := by decide +kernel
theorem dX11_out_6 : decode cX11_out 6 = .ok (.getfield 162, 3) := by decide +kernel
theorem dX11_out_9 : decode cX11_out 9 = .ok (.if_icmp .ge 12, 3) := by decide +kernel
theorem dX11_out_12 : decode cX11_out 12 = .ok (.aload_n 0, 1) := by decide +kernel
theorem dX11_out_13 : decode cX11_out 13 = .ok (.getfield 103, 3) := by decide +kernel
theorem dX11_out_16 : decode cX11_out 16 = .ok (.iload_n 1, 1) := by decide +kernel
theorem dX11_out_17 : decode cX11_out 17 = .ok (.laload, 1) := by decide +kernel
theorem dX11_out_18 : decode cX11_out 18 = .ok (.goto 4, 3) := by decide +kernel
theorem dX11_out_21 : decode cX11_out 21 = .ok (.lconst 0, 1) := by decide +kernel
theorem dX11_out_22 : decode cX11_out 22 = .ok (.lreturn, 1) := by decide +kernel
theorem dX11_finished_0 : decode cX11_finished 0 = .ok (.iload_n 1, 1) := by decide +kernel
theorem dX11_finished_1 : decode cX11_finished 1 = .ok (.ifCond .lt 20, 3) := by decide +kernel
theorem dX11_finished_4 : decode cX11_finished 4 = .ok (.iload_n 1, 1) := by decide +kernel
theorem dX11_finished_5 : decode cX11_finished 5 = .ok (.aload_n 0, 1) := by decide +kernel
theorem dX11_finished_6 : decode cX11_finished 6 = .ok (.getfield 165, 3) := by decide +kernel
theorem dX11_finished_9 : decode cX11_finished 9 = .ok (.if_icmp .ge 12, 3) := by decide +kernel
theorem dX11_finished_12 : decode cX11_finished 12 = .ok (.aload_n 0, 1) := by decide +kernel
theorem dX11_finished_13 : decode cX11_finished 13 = .ok (.getfield 106, 3) := by decide +kernel
theorem dX11_finished_16 : decode cX11_finished 16 = .ok (.iload_n 1, 1) := by decide +kernel
theorem dX11_finished_17 : decode cX11_finished 17 = .ok (.iaload, 1) := by decide +kernel
theorem dX11_finished_18 : decode cX11_finished 18 = .ok (.goto 4, 3) := by decide +kernel
theorem dX11_finished_21 : decode cX11_finished 21 = .ok (.iconst (-1), 1) := by decide +kernel
theorem dX11_finished_22 : decode cX11_finished 22 = .ok (.ireturn, 1) := by decide +kernel
theorem dX11_depth_0 : decode cX11_depth 0 = .ok (.aload_n 0, 1) := by decide +kernel
theorem dX11_depth_1 : decode cX11_depth 1 = .ok (.getfield 171, 3) := by decide +kernel
theorem dX11_depth_4 : decode cX11_depth 4 = .ok (.ireturn, 1) := by decide +kernel
theorem dX11_status_0 : decode cX11_status 0 = .ok (.iload_n 1, 1) := by decide +kernel
theorem dX11_status_1 : decode cX11_status 1 = .ok (.tableswitch 91 0 7 #[47, 52, 61, 66, 71, 76, 81, 86], 47) := by decide +kernel
theorem dX11_status_48 : decode cX11_status 48 = .ok (.aload_n 0, 1) := by decide +kernel
theorem dX11_status_49 : decode cX11_status 49 = .ok (.getfield 109, 3) := by decide +kernel
theorem dX11_status_52 : decode cX11_status 52 = .ok (.ireturn, 1) := by decide +kernel
theorem dX11_status_53 : decode cX11_status 53 = .ok (.aload_n 0, 1) := by decide +kernel
theorem dX11_status_54 : decode cX11_status 54 = .ok (.invokevirtual 127, 3) := by decide +kernel
theorem dX11_status_57 : decode cX11_status 57 = .ok (.aload_n 0, 1) := by decide +kernel
theorem dX11_status_58 : decode cX11_status 58 = .ok (.getfield 112, 3) := by decide +kernel
theorem dX11_status_61 : decode cX11_status 61 = .ok (.ireturn, 1) := by decide +kernel
theorem dX11_status_62 : decode cX11_status 62 = .ok (.aload_n 0, 1) := by decide +kernel
theorem dX11_status_63 : decode cX11_status 63 = .ok (.getfield 130, 3) := by decide +kernel
theorem dX11_status_66 : decode cX11_status 66 = .ok (.ireturn, 1) := by decide +kernel
theorem dX11_status_67 : decode cX11_status 67 = .ok (.aload_n 0, 1) := by decide +kernel
theorem dX11_status_68 : decode cX11_status 68 = .ok (.getfield 147, 3) := by decide +kernel
theorem dX11_status_71 : decode cX11_status 71 = .ok (.ireturn, 1) := by decide +kernel
theorem dX11_status_72 : decode cX11_status 72 = .ok (.aload_n 0, 1) := by decide +kernel
theorem dX11_status_73 : decode cX11_status 73 = .ok (.getfield 162, 3) := by decide +kernel
theorem dX11_status_76 : decode cX11_status 76 = .ok (.ireturn, 1) := by decide +kernel
theorem dX11_status_77 : decode cX11_status 77 = .ok (.aload_n 0, 1) := by decide +kernel
theorem dX11_status_78 : decode cX11_status 78 = .ok (.getfield 165, 3) := by decide +kernel
theorem dX11_status_81 : decode cX11_status 81 = .ok (.ireturn, 1) := by decide +kernel
theorem dX11_status_82 : decode cX11_status 82 = .ok (.aload_n 0, 1) := by decide +kernel
theorem dX11_status_83 : decode cX11_status 83 = .ok (.invokevirtual 315, 3) := by decide +kernel
theorem dX11_status_86 : decode cX11_status 86 = .ok (.ireturn, 1) := by decide +kernel
theorem dX11_status_87 : decode cX11_status 87 = .ok (.aload_n 0, 1) := by decide +kernel
theorem dX11_status_88 : decode cX11_status 88 = .ok (.getfield 168, 3) := by decide +kernel
theorem dX11_status_91 : decode cX11_status 91 = .ok (.ireturn, 1) := by decide +kernel
theorem dX11_status_92 : decode cX11_status 92 = .ok (.iconst (-1), 1) := by decide +kernel
theorem dX11_status_93 : decode cX11_status 93 = .ok (.ireturn, 1) := by decide +kernel
theorem dX11_causes_0 : decode cX11_causes 0 = .ok (.iconst 0, 1) := by decide +kernel
theorem dX11_causes_1 : decode cX11_causes 1 = .ok (.istore_n 1, 1) := by decide +kernel
theorem dX11_causes_2 : decode cX11_causes 2 = .ok (.aload_n 0, 1) := by decide +kernel
theorem dX11_causes_3 : decode cX11_causes 3 = .ok (.getfield 96, 3) := by decide +kernel
theorem dX11_causes_6 : decode cX11_causes 6 = .ok (.aload_n 0, 1) := by decide +kernel
theorem dX11_causes_7 : decode cX11_causes 7 = .ok (.getfield 178, 3) := by decide +kernel
theorem dX11_causes_10 : decode cX11_causes 10 = .ok (.iaload, 1) := by decide +kernel
theorem dX11_causes_11 : decode cX11_causes 11 = .ok (.istore_n 2, 1) := by decide +kernel
theorem dX11_causes_12 : decode cX11_causes 12 = .ok (.iload_n 2, 1) := by decide +kernel
theorem dX11_causes_13 : decode cX11_causes 13 = .ok (.ifCond .le 23, 3) := by decide +kernel
theorem dX11_causes_16 : decode cX11_causes 16 = .ok (.iload_n 1, 1) := by decide +kernel
theorem dX11_causes_17 : decode cX11_causes 17 = .ok (.sipush 1000, 3) := by decide +kernel
theorem dX11_causes_20 : decode cX11_causes 20 = .ok (.if_icmp .ge 16, 3) := by decide +kernel
theorem dX11_causes_23 : decode cX11_causes 23 = .ok (.iinc 1 1, 3) := by decide +kernel
theorem dX11_causes_26 : decode cX11_causes 26 = .ok (.aload_n 0, 1) := by decide +kernel
theorem dX11_causes_27 : decode cX11_causes 27 = .ok (.getfield 96, 3) := by decide +kernel
theorem dX11_causes_30 : decode cX11_causes 30 = .ok (.iload_n 2, 1) := by decide +kernel
theorem dX11_causes_31 : decode cX11_causes 31 = .ok (.iaload, 1) := by decide +kernel
theorem dX11_causes_32 : decode cX11_causes 32 = .ok (.istore_n 2, 1) := by decide +kernel
theorem dX11_causes_33 : decode cX11_causes 33 = .ok (.goto (-21), 3) := by decide +kernel
theorem dX11_causes_36 : decode cX11_causes 36 = .ok (.iload_n 1, 1) := by decide +kernel
theorem dX11_causes_37 : decode cX11_causes 37 = .ok (.ireturn, 1) := by decide +kernel
theorem dX11_number_0 : decode cX11_number 0 = .ok (.iload_n 1, 1) := by decide +kernel
theorem dX11_number_1 : decode cX11_number 1 = .ok (.ifCond .lt 18, 3) := by decide +kernel
theorem dX11_number_4 : decode cX11_number 4 = .ok (.iload_n 1, 1) := by decide +kernel
theorem dX11_number_5 : decode cX11_number 5 = .ok (.bipush 8, 2) := by decide +kernel
theorem dX11_number_7 : decode cX11_number 7 = .ok (.if_icmp .ge 12, 3) := by decide +kernel
theorem dX11_number_10 : decode cX11_number 10 = .ok (.aload_n 0, 1) := by decide +kernel
theorem dX11_number_11 : decode cX11_number 11 = .ok (.getfield 43, 3) := by decide +kernel
theorem dX11_number_14 : decode cX11_number 14 = .ok (.iload_n 1, 1) := by decide +kernel
theorem dX11_number_15 : decode cX11_number 15 = .ok (.laload, 1) := by decide +kernel
theorem dX11_number_16 : decode cX11_number 16 = .ok (.goto 4, 3) := by decide +kernel
theorem dX11_number_19 : decode cX11_number 19 = .ok (.lconst 0, 1) := by decide +kernel
theorem dX11_number_20 : decode cX11_number 20 = .ok (.lreturn, 1) := by decide +kernel
theorem dX11_hand_0 : decode cX11_hand 0 = .ok (.iload_n 1, 1) := by decide +kernel
theorem dX11_hand_1 : decode cX11_hand 1 = .ok (.ifCond .lt 9, 3) := by decide +kernel
theorem dX11_hand_4 : decode cX11_hand 4 = .ok (.iload_n 1, 1) := by decide +kernel
theorem dX11_hand_5 : decode cX11_hand 5 = .ok (.bipush 7, 2) := by decide +kernel
theorem dX11_hand_7 : decode cX11_hand 7 = .ok (.if_icmp .le 6, 3) := by decide +kernel
theorem dX11_hand_10 : decode cX11_hand 10 = .ok (.bipush (-2), 2) := by decide +kernel
theorem dX11_hand_12 : decode cX11_hand 12 = .ok (.ireturn, 1) := by decide +kernel
theorem dX11_hand_13 : decode cX11_hand 13 = .ok (.aload_n 0, 1) := by decide +kernel
theorem dX11_hand_14 : decode cX11_hand 14 = .ok (.getfield 47, 3) := by decide +kernel
theorem dX11_hand_17 : decode cX11_hand 17 = .ok (.iload_n 1, 1) := by decide +kernel
theorem dX11_hand_18 : decode cX11_hand 18 = .ok (.iaload, 1) := by decide +kernel
theorem dX11_hand_19 : decode cX11_hand 19 = .ok (.ifCond .ne 7, 3) := by decide +kernel
theorem dX11_hand_22 : decode cX11_hand 22 = .ok (.iconst (-1), 1) := by decide +kernel
theorem dX11_hand_23 : decode cX11_hand 23 = .ok (.goto 14, 3) := by decide +kernel
theorem dX11_hand_26 : decode cX11_hand 26 = .ok (.aload_n 0, 1) := by decide +kernel
theorem dX11_hand_27 : decode cX11_hand 27 = .ok (.getfield 50, 3) := by decide +kernel
theorem dX11_hand_30 : decode cX11_hand 30 = .ok (.aload_n 0, 1) := by decide +kernel
theorem dX11_hand_31 : decode cX11_hand 31 = .ok (.getfield 47, 3) := by decide +kernel
theorem dX11_hand_34 : decode cX11_hand 34 = .ok (.iload_n 1, 1) := by decide +kernel
theorem dX11_hand_35 : decode cX11_hand 35 = .ok (.iaload, 1) := by decide +kernel
theorem dX11_hand_36 : decode cX11_hand 36 = .ok (.iaload, 1) := by decide +kernel
theorem dX11_hand_37 : decode cX11_hand 37 = .ok (.ireturn, 1) := by decide +kernel
theorem dX11_mark_0 : decode cX11_mark 0 = .ok (.iload_n 1, 1) := by decide +kernel
theorem dX11_mark_1 : decode cX11_mark 1 = .ok (.ifCond .lt 32, 3) := by decide +kernel
theorem dX11_mark_4 : decode cX11_mark 4 = .ok (.iload_n 1, 1) := by decide +kernel
theorem dX11_mark_5 : decode cX11_mark 5 = .ok (.bipush 8, 2) := by decide +kernel
theorem dX11_mark_7 : decode cX11_mark 7 = .ok (.if_icmp .ge 26, 3) := by decide +kernel
theorem dX11_mark_10 : decode cX11_mark 10 = .ok (.aload_n 0, 1) := by decide +kernel
theorem dX11_mark_11 : decode cX11_mark 11 = .ok (.getfield 47, 3) := by decide +kernel
theorem dX11_mark_14 : decode cX11_mark 14 = .ok (.iload_n 1, 1) := by decide +kernel
theorem dX11_mark_15 : decode cX11_mark 15 = .ok (.iaload, 1) := by decide +kernel
theorem dX11_mark_16 : decode cX11_mark 16 = .ok (.ifCond .le 17, 3) := by decide +kernel
theorem dX11_mark_19 : decode cX11_mark 19 = .ok (.aload_n 0, 1) := by decide +kernel
theorem dX11_mark_20 : decode cX11_mark 20 = .ok (.getfield 53, 3) := by decide +kernel
theorem dX11_mark_23 : decode cX11_mark 23 = .ok (.aload_n 0, 1) := by decide +kernel
theorem dX11_mark_24 : decode cX11_mark 24 = .ok (.getfield 47, 3) := by decide +kernel
theorem dX11_mark_27 : decode cX11_mark 27 = .ok (.iload_n 1, 1) := by decide +kernel
theorem dX11_mark_28 : decode cX11_mark 28 = .ok (.iaload, 1) := by decide +kernel
theorem dX11_mark_29 : decode cX11_mark 29 = .ok (.laload, 1) := by decide +kernel
theorem dX11_mark_30 : decode cX11_mark 30 = .ok (.goto 4, 3) := by decide +kernel
theorem dX11_mark_33 : decode cX11_mark 33 = .ok (.lconst 0, 1) := by decide +kernel
theorem dX11_mark_34 : decode cX11_mark 34 = .ok (.lreturn, 1) := by decide +kernel
theorem dX11_size_0 : decode cX11_size 0 = .ok (.iload_n 1, 1) := by decide +kernel
theorem dX11_size_1 : decode cX11_size 1 = .ok (.ifCond .lt 19, 3) := by decide +kernel
theorem dX11_size_4 : decode cX11_size 4 = .ok (.iload_n 1, 1) := by decide +kernel
theorem dX11_size_5 : decode cX11_size 5 = .ok (.bipush 7, 2) := by decide +kernel
theorem dX11_size_7 : decode cX11_size 7 = .ok (.if_icmp .gt 13, 3) := by decide +kernel
theorem dX11_size_10 : decode cX11_size 10 = .ok (.iload_n 2, 1) := by decide +kernel
theorem dX11_size_11 : decode cX11_size 11 = .ok (.ifCond .lt 9, 3) := by decide +kernel
theorem dX11_size_14 : decode cX11_size 14 = .ok (.iload_n 2, 1) := by decide +kernel
theorem dX11_size_15 : decode cX11_size 15 = .ok (.bipush 7, 2) := by decide +kernel
theorem dX11_size_17 : decode cX11_size 17 = .ok (.if_icmp .le 8, 3) := by decide +kernel
theorem dX11_size_20 : decode cX11_size 20 = .ok (.bipush (-2), 2) := by decide +kernel
theorem dX11_size_22 : decode cX11_size 22 = .ok (.goto 14, 3) := by decide +kernel
theorem dX11_size_25 : decode cX11_size 25 = .ok (.aload_n 0, 1) := by decide +kernel
theorem dX11_size_26 : decode cX11_size 26 = .ok (.getfield 56, 3) := by decide +kernel
theorem dX11_size_29 : decode cX11_size 29 = .ok (.bipush 8, 2) := by decide +kernel
theorem dX11_size_31 : decode cX11_size 31 = .ok (.iload_n 1, 1) := by decide +kernel
theorem dX11_size_32 : decode cX11_size 32 = .ok (.imul, 1) := by decide +kernel
theorem dX11_size_33 : decode cX11_size 33 = .ok (.iload_n 2, 1) := by decide +kernel
theorem dX11_size_34 : decode cX11_size 34 = .ok (.iadd, 1) := by decide +kernel
theorem dX11_size_35 : decode cX11_size 35 = .ok (.iaload, 1) := by decide +kernel
theorem dX11_size_36 : decode cX11_size 36 = .ok (.ireturn, 1) := by decide +kernel
theorem dX11_value_0 : decode cX11_value 0 = .ok (.aload_n 0, 1) := by decide +kernel
theorem dX11_value_1 : decode cX11_value 1 = .ok (.iload_n 1, 1) := by decide +kernel
theorem dX11_value_2 : decode cX11_value 2 = .ok (.iload_n 2, 1) := by decide +kernel
theorem dX11_value_3 : decode cX11_value 3 = .ok (.invokevirtual 318, 3) := by decide +kernel
theorem dX11_value_6 : decode cX11_value 6 = .ok (.istore 4, 2) := by decide +kernel
theorem dX11_value_8 : decode cX11_value 8 = .ok (.iload_n 3, 1) := by decide +kernel
theorem dX11_value_9 : decode cX11_value 9 = .ok (.ifCond .lt 9, 3) := by decide +kernel
theorem dX11_value_12 : decode cX11_value 12 = .ok (.iload_n 3, 1) := by decide +kernel
theorem dX11_value_13 : decode cX11_value 13 = .ok (.iload 4, 2) := by decide +kernel
theorem dX11_value_15 : decode cX11_value 15 = .ok (.if_icmp .lt 5, 3) := by decide +kernel
theorem dX11_value_18 : decode cX11_value 18 = .ok (.lconst 0, 1) := by decide +kernel
theorem dX11_value_19 : decode cX11_value 19 = .ok (.lreturn, 1) := by decide +kernel
theorem dX11_value_20 : decode cX11_value 20 = .ok (.aload_n 0, 1) := by decide +kernel
theorem dX11_value_21 : decode cX11_value 21 = .ok (.getfield 63, 3) := by decide +kernel
theorem dX11_value_24 : decode cX11_value 24 = .ok (.bipush 64, 2) := by decide +kernel
theorem dX11_value_26 : decode cX11_value 26 = .ok (.bipush 8, 2) := by decide +kernel
theorem dX11_value_28 : decode cX11_value 28 = .ok (.iload_n 1, 1) := by decide +kernel
theorem dX11_value_29 : decode cX11_value 29 = .ok (.imul, 1) := by decide +kernel
theorem dX11_value_30 : decode cX11_value 30 = .ok (.iload_n 2, 1) := by decide +kernel
theorem dX11_value_31 : decode cX11_value 31 = .ok (.iadd, 1) := by decide +kernel
theorem dX11_value_32 : decode cX11_value 32 = .ok (.imul, 1) := by decide +kernel
theorem dX11_value_33 : decode cX11_value 33 = .ok (.iload_n 3, 1) := by decide +kernel
theorem dX11_value_34 : decode cX11_value 34 = .ok (.iadd, 1) := by decide +kernel
theorem dX11_value_35 : decode cX11_value 35 = .ok (.laload, 1) := by decide +kernel
theorem dX11_value_36 : decode cX11_value 36 = .ok (.lstore 5, 2) := by decide +kernel
theorem dX11_value_38 : decode cX11_value 38 = .ok (.iload_n 1, 1) := by decide +kernel
theorem dX11_value_39 : decode cX11_value 39 = .ok (.bipush 7, 2) := by decide +kernel
theorem dX11_value_41 : decode cX11_value 41 = .ok (.if_icmp .ge 6, 3) := by decide +kernel
theorem dX11_value_44 : decode cX11_value 44 = .ok (.lload 5, 2) := by decide +kernel
theorem dX11_value_46 : decode cX11_value 46 = .ok (.lreturn, 1) := by decide +kernel
theorem dX11_value_47 : decode cX11_value 47 = .ok (.lload 5, 2) := by decide +kernel
theorem dX11_value_49 : decode cX11_value 49 = .ok (.lconst 0, 1) := by decide +kernel
theorem dX11_value_50 : decode cX11_value 50 = .ok (.lcmp, 1) := by decide +kernel
theorem dX11_value_51 : decode cX11_value 51 = .ok (.ifCond .ne 9, 3) := by decide +kernel
theorem dX11_value_54 : decode cX11_value 54 = .ok (.ldc2_w 258, 3) := by decide +kernel
theorem dX11_value_57 : decode cX11_value 57 = .ok (.goto 12, 3) := by decide +kernel
theorem dX11_value_60 : decode cX11_value 60 = .ok (.aload_n 0, 1) := by decide +kernel
theorem dX11_value_61 : decode cX11_value 61 = .ok (.getfield 50, 3) := by decide +kernel
theorem dX11_value_64 : decode cX11_value 64 = .ok (.lload 5, 2) := by decide +kernel
theorem dX11_value_66 : decode cX11_value 66 = .ok (.l2i, 1) := by decide +kernel
theorem dX11_value_67 : decode cX11_value 67 = .ok (.iaload, 1) := by decide +kernel
theorem dX11_value_68 : decode cX11_value 68 = .ok (.i2l, 1) := by decide +kernel
theorem dX11_value_69 : decode cX11_value 69 = .ok (.lreturn, 1) := by decide +kernel
theorem dX11_grid_0 : decode cX11_grid 0 = .ok (.aload_n 0, 1) := by decide +kernel
theorem dX11_grid_1 : decode cX11_grid 1 = .ok (.getfield 289, 3) := by decide +kernel
theorem dX11_grid_4 : decode cX11_grid 4 = .ok (.ifCond .eq 41, 3) := by decide +kernel
theorem dX11_grid_7 : decode cX11_grid 7 = .ok (.iload_n 1, 1) := by decide +kernel
theorem dX11_grid_8 : decode cX11_grid 8 = .ok (.ifCond .lt 37, 3) := by decide +kernel
theorem dX11_grid_11 : decode cX11_grid 11 = .ok (.iload_n 1, 1) := by decide +kernel
theorem dX11_grid_12 : decode cX11_grid 12 = .ok (.aload_n 0, 1) := by decide +kernel
theorem dX11_grid_13 : decode cX11_grid 13 = .ok (.getfield 292, 3) := by decide +kernel
theorem dX11_grid_16 : decode cX11_grid 16 = .ok (.if_icmp .ge 29, 3) := by decide +kernel
theorem dX11_grid_19 : decode cX11_grid 19 = .ok (.iload_n 2, 1) := by decide +kernel
theorem dX11_grid_20 : decode cX11_grid 20 = .ok (.ifCond .lt 25, 3) := by decide +kernel
theorem dX11_grid_23 : decode cX11_grid 23 = .ok (.iload_n 2, 1) := by decide +kernel
theorem dX11_grid_24 : decode cX11_grid 24 = .ok (.aload_n 0, 1) := by decide +kernel
theorem dX11_grid_25 : decode cX11_grid 25 = .ok (.getfield 295, 3) := by decide +kernel
theorem dX11_grid_28 : decode cX11_grid 28 = .ok (.if_icmp .ge 17, 3) := by decide +kernel
theorem dX11_grid_31 : decode cX11_grid 31 = .ok (.aload_n 0, 1) := by decide +kernel
theorem dX11_grid_32 : decode cX11_grid 32 = .ok (.getfield 66, 3) := by decide +kernel
theorem dX11_grid_35 : decode cX11_grid 35 = .ok (.bipush 8, 2) := by decide +kernel
theorem dX11_grid_37 : decode cX11_grid 37 = .ok (.iload_n 1, 1) := by decide +kernel
theorem dX11_grid_38 : decode cX11_grid 38 = .ok (.imul, 1) := by decide +kernel
theorem dX11_grid_39 : decode cX11_grid 39 = .ok (.iload_n 2, 1) := by decide +kernel
theorem dX11_grid_40 : decode cX11_grid 40 = .ok (.iadd, 1) := by decide +kernel
theorem dX11_grid_41 : decode cX11_grid 41 = .ok (.iaload, 1) := by decide +kernel
theorem dX11_grid_42 : decode cX11_grid 42 = .ok (.goto 4, 3) := by decide +kernel
theorem dX11_grid_45 : decode cX11_grid 45 = .ok (.iconst 0, 1) := by decide +kernel
theorem dX11_grid_46 : decode cX11_grid 46 = .ok (.ireturn, 1) := by decide +kernel
theorem dJ9_max_7cf53_0 : decode cJ9_max_7cf53 0 = .ok (.iload_n 0, 1) := by decide +kernel
theorem dJ9_max_7cf53_1 : decode cJ9_max_7cf53 1 = .ok (.iload_n 1, 1) := by decide +kernel
theorem dJ9_max_7cf53_2 : decode cJ9_max_7cf53 2 = .ok (.if_icmp .lt 7, 3) := by decide +kernel
theorem dJ9_max_7cf53_5 : decode cJ9_max_7cf53 5 = .ok (.iload_n 0, 1) := by decide +kernel
theorem dJ9_max_7cf53_6 : decode cJ9_max_7cf53 6 = .ok (.goto 4, 3) := by decide +kernel
theorem dJ9_max_7cf53_9 : decode cJ9_max_7cf53 9 = .ok (.iload_n 1, 1) := by decide +kernel
theorem dJ9_max_7cf53_10 : decode cJ9_max_7cf53 10 = .ok (.ireturn, 1) := by decide +kernel
theorem dJ7_fill_d0a16_0 : decode cJ7_fill_d0a16 0 = .ok (.iconst 0, 1) := by decide +kernel
theorem dJ7_fill_d0a16_1 : decode cJ7_fill_d0a16 1 = .ok (.istore_n 3, 1) := by decide +kernel
theorem dJ7_fill_d0a16_2 : decode cJ7_fill_d0a16 2 = .ok (.aload_n 0, 1) := by decide +kernel
theorem dJ7_fill_d0a16_3 : decode cJ7_fill_d0a16 3 = .ok (.arraylength, 1) := by decide +kernel
theorem dJ7_fill_d0a16_4 : decode cJ7_fill_d0a16 4 = .ok (.istore 4, 2) := by decide +kernel
theorem dJ7_fill_d0a16_6 : decode cJ7_fill_d0a16 6 = .ok (.iload_n 3, 1) := by decide +kernel
theorem dJ7_fill_d0a16_7 : decode cJ7_fill_d0a16 7 = .ok (.iload 4, 2) := by decide +kernel
theorem dJ7_fill_d0a16_9 : decode cJ7_fill_d0a16 9 = .ok (.if_icmp .ge 13, 3) := by decide +kernel
theorem dJ7_fill_d0a16_12 : decode cJ7_fill_d0a16 12 = .ok (.aload_n 0, 1) := by decide +kernel
theorem dJ7_fill_d0a16_13 : decode cJ7_fill_d0a16 13 = .ok (.iload_n 3, 1) := by decide +kernel
theorem dJ7_fill_d0a16_14 : decode cJ7_fill_d0a16 14 = .ok (.lload_n 1, 1) := by decide +kernel
theorem dJ7_fill_d0a16_15 : decode cJ7_fill_d0a16 15 = .ok (.lastore, 1) := by decide +kernel
theorem dJ7_fill_d0a16_16 : decode cJ7_fill_d0a16 16 = .ok (.iinc 3 1, 3) := by decide +kernel
theorem dJ7_fill_d0a16_19 : decode cJ7_fill_d0a16 19 = .ok (.goto (-13), 3) := by decide +kernel
theorem dJ7_fill_d0a16_22 : decode cJ7_fill_d0a16 22 = .ok (.return_, 1) := by decide +kernel
theorem dJ7_fill_53178_0 : decode cJ7_fill_53178 0 = .ok (.iconst 0, 1) := by decide +kernel
theorem dJ7_fill_53178_1 : decode cJ7_fill_53178 1 = .ok (.istore_n 2, 1) := by decide +kernel
theorem dJ7_fill_53178_2 : decode cJ7_fill_53178 2 = .ok (.aload_n 0, 1) := by decide +kernel
theorem dJ7_fill_53178_3 : decode cJ7_fill_53178 3 = .ok (.arraylength, 1) := by decide +kernel
theorem dJ7_fill_53178_4 : decode cJ7_fill_53178 4 = .ok (.istore_n 3, 1) := by decide +kernel
theorem dJ7_fill_53178_5 : decode cJ7_fill_53178 5 = .ok (.iload_n 2, 1) := by decide +kernel
theorem dJ7_fill_53178_6 : decode cJ7_fill_53178 6 = .ok (.iload_n 3, 1) := by decide +kernel
theorem dJ7_fill_53178_7 : decode cJ7_fill_53178 7 = .ok (.if_icmp .ge 13, 3) := by decide +kernel
theorem dJ7_fill_53178_10 : decode cJ7_fill_53178 10 = .ok (.aload_n 0, 1) := by decide +kernel
theorem dJ7_fill_53178_11 : decode cJ7_fill_53178 11 = .ok (.iload_n 2, 1) := by decide +kernel
theorem dJ7_fill_53178_12 : decode cJ7_fill_53178 12 = .ok (.iload_n 1, 1) := by decide +kernel
theorem dJ7_fill_53178_13 : decode cJ7_fill_53178 13 = .ok (.iastore, 1) := by decide +kernel
theorem dJ7_fill_53178_14 : decode cJ7_fill_53178 14 = .ok (.iinc 2 1, 3) := by decide +kernel
theorem dJ7_fill_53178_17 : decode cJ7_fill_53178 17 = .ok (.goto (-12), 3) := by decide +kernel
theorem dJ7_fill_53178_20 : decode cJ7_fill_53178 20 = .ok (.return_, 1) := by decide +kernel
theorem dL_law_0 : decode cL_law 0 = .ok (.new 7, 3) := by decide +kernel
theorem dL_law_3 : decode cL_law 3 = .ok (.dup, 1) := by decide +kernel
theorem dL_law_4 : decode cL_law 4 = .ok (.invokespecial 9, 3) := by decide +kernel
theorem dL_law_7 : decode cL_law 7 = .ok (.astore_n 1, 1) := by decide +kernel
theorem dL_law_8 : decode cL_law 8 = .ok (.new 10, 3) := by decide +kernel
theorem dL_law_11 : decode cL_law 11 = .ok (.dup, 1) := by decide +kernel
theorem dL_law_12 : decode cL_law 12 = .ok (.invokespecial 12, 3) := by decide +kernel
theorem dL_law_15 : decode cL_law 15 = .ok (.astore_n 2, 1) := by decide +kernel
theorem dL_law_16 : decode cL_law 16 = .ok (.iconst 0, 1) := by decide +kernel
theorem dL_law_17 : decode cL_law 17 = .ok (.istore_n 3, 1) := by decide +kernel
theorem dL_law_18 : decode cL_law 18 = .ok (.iload_n 3, 1) := by decide +kernel
theorem dL_law_19 : decode cL_law 19 = .ok (.aload_n 0, 1) := by decide +kernel
theorem dL_law_20 : decode cL_law 20 = .ok (.arraylength, 1) := by decide +kernel
theorem dL_law_21 : decode cL_law 21 = .ok (.iconst 5, 1) := by decide +kernel
theorem dL_law_22 : decode cL_law 22 = .ok (.isub, 1) := by decide +kernel
theorem dL_law_23 : decode cL_law 23 = .ok (.if_icmp .gt 525, 3) := by decide +kernel
theorem dL_law_26 : decode cL_law 26 = .ok (.aload_n 0, 1) := by decide +kernel
theorem dL_law_27 : decode cL_law 27 = .ok (.iload_n 3, 1) := by decide +kernel
theorem dL_law_28 : decode cL_law 28 = .ok (.iaload, 1) := by decide +kernel
theorem dL_law_29 : decode cL_law 29 = .ok (.bipush 31, 2) := by decide +kernel
theorem dL_law_31 : decode cL_law 31 = .ok (.iand, 1) := by decide +kernel
theorem dL_law_32 : decode cL_law 32 = .ok (.tableswitch 510 0 16 #[84, 137, 150, 183, 196, 210, 223, 246, 270, 293, 306, 329, 353, 376, 400, 433, 477], 84) := by decide +kernel
theorem dL_law_116 : decode cL_law 116 = .ok (.aload_n 1, 1) := by decide +kernel
theorem dL_law_117 : decode cL_law 117 = .ok (.aload_n 0, 1) := by decide +kernel
theorem dL_law_118 : decode cL_law 118 = .ok (.iload_n 3, 1) := by decide +kernel
theorem dL_law_119 : decode cL_law 119 = .ok (.iconst 1, 1) := by decide +kernel
theorem dL_law_120 : decode cL_law 120 = .ok (.iadd, 1) := by decide +kernel
theorem dL_law_121 : decode cL_law 121 = .ok (.iaload, 1) := by decide +kernel
theorem dL_law_122 : decode cL_law 122 = .ok (.aload_n 0, 1) := by decide +kernel
theorem dL_law_123 : decode cL_law 123 = .ok (.iload_n 3, 1) := by decide +kernel
theorem dL_law_124 : decode cL_law 124 = .ok (.iconst 2, 1) := by decide +kernel
theorem dL_law_125 : decode cL_law 125 = .ok (.iadd, 1) := by decide +kernel
theorem dL_law_126 : decode cL_law 126 = .ok (.iaload, 1) := by decide +kernel
theorem dL_law_127 : decode cL_law 127 = .ok (.aload_n 0, 1) := by decide +kernel
theorem dL_law_128 : decode cL_law 128 = .ok (.iload_n 3, 1) := by decide +kernel
theorem dL_law_129 : decode cL_law 129 = .ok (.iconst 3, 1) := by decide +kernel
theorem dL_law_130 : decode cL_law 130 = .ok (.iadd, 1) := by decide +kernel
theorem dL_law_131 : decode cL_law 131 = .ok (.iaload, 1) := by decide +kernel
theorem dL_law_132 : decode cL_law 132 = .ok (.aload_n 0, 1) := by decide +kernel
theorem dL_law_133 : decode cL_law 133 = .ok (.iload_n 3, 1) := by decide +kernel
theorem dL_law_134 : decode cL_law 134 = .ok (.iconst 4, 1) := by decide +kernel
theorem dL_law_135 : decode cL_law 135 = .ok (.iadd, 1) := by decide +kernel
theorem dL_law_136 : decode cL_law 136 = .ok (.iaload, 1) := by decide +kernel
theorem dL_law_137 : decode cL_law 137 = .ok (.invokevirtual 13, 3) := by decide +kernel
theorem dL_law_140 : decode cL_law 140 = .ok (.aload_n 2, 1) := by decide +kernel
theorem dL_law_141 : decode cL_law 141 = .ok (.aload_n 0, 1) := by decide +kernel
theorem dL_law_142 : decode cL_law 142 = .ok (.iload_n 3, 1) := by decide +kernel
theorem dL_law_143 : decode cL_law 143 = .ok (.iconst 1, 1) := by decide +kernel
theorem dL_law_144 : decode cL_law 144 = .ok (.iadd, 1) := by decide +kernel
theorem dL_law_145 : decode cL_law 145 = .ok (.iaload, 1) := by decide +kernel
theorem dL_law_146 : decode cL_law 146 = .ok (.aload_n 0, 1) := by decide +kernel
theorem dL_law_147 : decode cL_law 147 = .ok (.iload_n 3, 1) := by decide +kernel
theorem dL_law_148 : decode cL_law 148 = .ok (.iconst 2, 1) := by decide +kernel
theorem dL_law_149 : decode cL_law 149 = .ok (.iadd, 1) := by decide +kernel
theorem dL_law_150 : decode cL_law 150 = .ok (.iaload, 1) := by decide +kernel
theorem dL_law_151 : decode cL_law 151 = .ok (.aload_n 0, 1) := by decide +kernel
theorem dL_law_152 : decode cL_law 152 = .ok (.iload_n 3, 1) := by decide +kernel
theorem dL_law_153 : decode cL_law 153 = .ok (.iconst 3, 1) := by decide +kernel
theorem dL_law_154 : decode cL_law 154 = .ok (.iadd, 1) := by decide +kernel
theorem dL_law_155 : decode cL_law 155 = .ok (.iaload, 1) := by decide +kernel
theorem dL_law_156 : decode cL_law 156 = .ok (.aload_n 0, 1) := by decide +kernel
theorem dL_law_157 : decode cL_law 157 = .ok (.iload_n 3, 1) := by decide +kernel
theorem dL_law_158 : decode cL_law 158 = .ok (.iconst 4, 1) := by decide +kernel
theorem dL_law_159 : decode cL_law 159 = .ok (.iadd, 1) := by decide +kernel
theorem dL_law_160 : decode cL_law 160 = .ok (.iaload, 1) := by decide +kernel
theorem dL_law_161 : decode cL_law 161 = .ok (.invokevirtual 17, 3) := by decide +kernel
theorem dL_law_164 : decode cL_law 164 = .ok (.if_icmp .eq 378, 3) := by decide +kernel
theorem dL_law_167 : decode cL_law 167 = .ok (.iconst 0, 1) := by decide +kernel
theorem dL_law_168 : decode cL_law 168 = .ok (.ireturn, 1) := by decide +kernel
theorem dL_law_169 : decode cL_law 169 = .ok (.aload_n 1, 1) := by decide +kernel
theorem dL_law_170 : decode cL_law 170 = .ok (.invokevirtual 18, 3) := by decide +kernel
theorem dL_law_173 : decode cL_law 173 = .ok (.aload_n 2, 1) := by decide +kernel
theorem dL_law_174 : decode cL_law 174 = .ok (.invokevirtual 22, 3) := by decide +kernel
theorem dL_law_177 : decode cL_law 177 = .ok (.if_icmp .eq 365, 3) := by decide +kernel
theorem dL_law_180 : decode cL_law 180 = .ok (.iconst 0, 1) := by decide +kernel
theorem dL_law_181 : decode cL_law 181 = .ok (.ireturn, 1) := by decide +kernel
theorem dL_law_182 : decode cL_law 182 = .ok (.aload_n 1, 1) := by decide +kernel
theorem dL_law_183 : decode cL_law 183 = .ok (.aload_n 0, 1) := by decide +kernel
theorem dL_law_184 : decode cL_law 184 = .ok (.iload_n 3, 1) := by decide +kernel
theorem dL_law_185 : decode cL_law 185 = .ok (.iconst 1, 1) := by decide +kernel
theorem dL_law_186 : decode cL_law 186 = .ok (.iadd, 1) := by decide +kernel
theorem dL_law_187 : decode cL_law 187 = .ok (.iaload, 1) := by decide +kernel
theorem dL_law_188 : decode cL_law 188 = .ok (.aload_n 0, 1) := by decide +kernel
theorem dL_law_189 : decode cL_law 189 = .ok (.iload_n 3, 1) := by decide +kernel
theorem dL_law_190 : decode cL_law 190 = .ok (.iconst 2, 1) := by decide +kernel
theorem dL_law_191 : decode cL_law 191 = .ok (.iadd, 1) := by decide +kernel
theorem dL_law_192 : decode cL_law 192 = .ok (.iaload, 1) := by decide +kernel
theorem dL_law_193 : decode cL_law 193 = .ok (.invokevirtual 23, 3) := by decide +kernel
theorem dL_law_196 : decode cL_law 196 = .ok (.aload_n 2, 1) := by decide +kernel
theorem dL_law_197 : decode cL_law 197 = .ok (.aload_n 0, 1) := by decide +kernel
theorem dL_law_198 : decode cL_law 198 = .ok (.iload_n 3, 1) := by decide +kernel
theorem dL_law_199 : decode cL_law 199 = .ok (.iconst 1, 1) := by decide +kernel
theorem dL_law_200 : decode cL_law 200 = .ok (.iadd, 1) := by decide +kernel
theorem dL_law_201 : decode cL_law 201 = .ok (.iaload, 1) := by decide +kernel
theorem dL_law_202 : decode cL_law 202 = .ok (.aload_n 0, 1) := by decide +kernel
theorem dL_law_203 : decode cL_law 203 = .ok (.iload_n 3, 1) := by decide +kernel
theorem dL_law_204 : decode cL_law 204 = .ok (.iconst 2, 1) := by decide +kernel
theorem dL_law_205 : decode cL_law 205 = .ok (.iadd, 1) := by decide +kernel
theorem dL_law_206 : decode cL_law 206 = .ok (.iaload, 1) := by decide +kernel
theorem dL_law_207 : decode cL_law 207 = .ok (.invokevirtual 27, 3) := by decide +kernel
theorem dL_law_210 : decode cL_law 210 = .ok (.if_icmp .eq 332, 3) := by decide +kernel
theorem dL_law_213 : decode cL_law 213 = .ok (.iconst 0, 1) := by decide +kernel
theorem dL_law_214 : decode cL_law 214 = .ok (.ireturn, 1) := by decide +kernel
theorem dL_law_215 : decode cL_law 215 = .ok (.aload_n 1, 1) := by decide +kernel
theorem dL_law_216 : decode cL_law 216 = .ok (.invokevirtual 28, 3) := by decide +kernel
theorem dL_law_219 : decode cL_law 219 = .ok (.aload_n 2, 1) := by decide +kernel
theorem dL_law_220 : decode cL_law 220 = .ok (.invokevirtual 31, 3) := by decide +kernel
theorem dL_law_223 : decode cL_law 223 = .ok (.if_icmp .eq 319, 3) := by decide +kernel
theorem dL_law_226 : decode cL_law 226 = .ok (.iconst 0, 1) := by decide +kernel
theorem dL_law_227 : decode cL_law 227 = .ok (.ireturn, 1) := by decide +kernel
theorem dL_law_228 : decode cL_law 228 = .ok (.aload_n 1, 1) := by decide +kernel
theorem dL_law_229 : decode cL_law 229 = .ok (.invokevirtual 32, 3) := by decide +kernel
theorem dL_law_232 : decode cL_law 232 = .ok (.aload_n 2, 1) := by decide +kernel
theorem dL_law_233 : decode cL_law 233 = .ok (.invokevirtual 36, 3) := by decide +kernel
theorem dL_law_236 : decode cL_law 236 = .ok (.lcmp, 1) := by decide +kernel
theorem dL_law_237 : decode cL_law 237 = .ok (.ifCond .eq 305, 3) := by decide +kernel
theorem dL_law_240 : decode cL_law 240 = .ok (.iconst 0, 1) := by decide +kernel
theorem dL_law_241 : decode cL_law 241 = .ok (.ireturn, 1) := by decide +kernel
theorem dL_law_242 : decode cL_law 242 = .ok (.aload_n 1, 1) := by decide +kernel
theorem dL_law_243 : decode cL_law 243 = .ok (.invokevirtual 37, 3) := by decide +kernel
theorem dL_law_246 : decode cL_law 246 = .ok (.aload_n 2, 1) := by decide +kernel
theorem dL_law_247 : decode cL_law 247 = .ok (.invokevirtual 40, 3) := by decide +kernel
theorem dL_law_250 : decode cL_law 250 = .ok (.if_icmp .eq 292, 3) := by decide +kernel
theorem dL_law_253 : decode cL_law 253 = .ok (.iconst 0, 1) := by decide +kernel
theorem dL_law_254 : decode cL_law 254 = .ok (.ireturn, 1) := by decide +kernel
theorem dL_law_255 : decode cL_law 255 = .ok (.aload_n 1, 1) := by decide +kernel
theorem dL_law_256 : decode cL_law 256 = .ok (.aload_n 0, 1) := by decide +kernel
theorem dL_law_257 : decode cL_law 257 = .ok (.iload_n 3, 1) := by decide +kernel
theorem dL_law_258 : decode cL_law 258 = .ok (.iconst 1, 1) := by decide +kernel
theorem dL_law_259 : decode cL_law 259 = .ok (.iadd, 1) := by decide +kernel
theorem dL_law_260 : decode cL_law 260 = .ok (.iaload, 1) := by decide +kernel
theorem dL_law_261 : decode cL_law 261 = .ok (.invokevirtual 41, 3) := by decide +kernel
theorem dL_law_264 : decode cL_law 264 = .ok (.aload_n 2, 1) := by decide +kernel
theorem dL_law_265 : decode cL_law 265 = .ok (.aload_n 0, 1) := by decide +kernel
theorem dL_law_266 : decode cL_law 266 = .ok (.iload_n 3, 1) := by decide +kernel
theorem dL_law_267 : decode cL_law 267 = .ok (.iconst 1, 1) := by decide +kernel
theorem dL_law_268 : decode cL_law 268 = .ok (.iadd, 1) := by decide +kernel
theorem dL_law_269 : decode cL_law 269 = .ok (.iaload, 1) := by decide +kernel
theorem dL_law_270 : decode cL_law 270 = .ok (.invokevirtual 45, 3) := by decide +kernel
theorem dL_law_273 : decode cL_law 273 = .ok (.if_icmp .eq 269, 3) := by decide +kernel
theorem dL_law_276 : decode cL_law 276 = .ok (.iconst 0, 1) := by decide +kernel
theorem dL_law_277 : decode cL_law 277 = .ok (.ireturn, 1) := by decide +kernel
theorem dL_law_278 : decode cL_law 278 = .ok (.aload_n 1, 1) := by decide +kernel
theorem dL_law_279 : decode cL_law 279 = .ok (.aload_n 0, 1) := by decide +kernel
theorem dL_law_280 : decode cL_law 280 = .ok (.iload_n 3, 1) := by decide +kernel
theorem dL_law_281 : decode cL_law 281 = .ok (.iconst 1, 1) := by decide +kernel
theorem dL_law_282 : decode cL_law 282 = .ok (.iadd, 1) := by decide +kernel
theorem dL_law_283 : decode cL_law 283 = .ok (.iaload, 1) := by decide +kernel
theorem dL_law_284 : decode cL_law 284 = .ok (.invokevirtual 46, 3) := by decide +kernel
theorem dL_law_287 : decode cL_law 287 = .ok (.aload_n 2, 1) := by decide +kernel
theorem dL_law_288 : decode cL_law 288 = .ok (.aload_n 0, 1) := by decide +kernel
theorem dL_law_289 : decode cL_law 289 = .ok (.iload_n 3, 1) := by decide +kernel
theorem dL_law_290 : decode cL_law 290 = .ok (.iconst 1, 1) := by decide +kernel
theorem dL_law_291 : decode cL_law 291 = .ok (.iadd, 1) := by decide +kernel
theorem dL_law_292 : decode cL_law 292 = .ok (.iaload, 1) := by decide +kernel
theorem dL_law_293 : decode cL_law 293 = .ok (.invokevirtual 50, 3) := by decide +kernel
theorem dL_law_296 : decode cL_law 296 = .ok (.lcmp, 1) := by decide +kernel
theorem dL_law_297 : decode cL_law 297 = .ok (.ifCond .eq 245, 3) := by decide +kernel
theorem dL_law_300 : decode cL_law 300 = .ok (.iconst 0, 1) := by decide +kernel
theorem dL_law_301 : decode cL_law 301 = .ok (.ireturn, 1) := by decide +kernel
theorem dL_law_302 : decode cL_law 302 = .ok (.aload_n 1, 1) := by decide +kernel
theorem dL_law_303 : decode cL_law 303 = .ok (.aload_n 0, 1) := by decide +kernel
theorem dL_law_304 : decode cL_law 304 = .ok (.iload_n 3, 1) := by decide +kernel
theorem dL_law_305 : decode cL_law 305 = .ok (.iconst 1, 1) := by decide +kernel
theorem dL_law_306 : decode cL_law 306 = .ok (.iadd, 1) := by decide +kernel
theorem dL_law_307 : decode cL_law 307 = .ok (.iaload, 1) := by decide +kernel
theorem dL_law_308 : decode cL_law 308 = .ok (.invokevirtual 51, 3) := by decide +kernel
theorem dL_law_311 : decode cL_law 311 = .ok (.aload_n 2, 1) := by decide +kernel
theorem dL_law_312 : decode cL_law 312 = .ok (.aload_n 0, 1) := by decide +kernel
theorem dL_law_313 : decode cL_law 313 = .ok (.iload_n 3, 1) := by decide +kernel
theorem dL_law_314 : decode cL_law 314 = .ok (.iconst 1, 1) := by decide +kernel
theorem dL_law_315 : decode cL_law 315 = .ok (.iadd, 1) := by decide +kernel
theorem dL_law_316 : decode cL_law 316 = .ok (.iaload, 1) := by decide +kernel
theorem dL_law_317 : decode cL_law 317 = .ok (.invokevirtual 54, 3) := by decide +kernel
theorem dL_law_320 : decode cL_law 320 = .ok (.if_icmp .eq 222, 3) := by decide +kernel
theorem dL_law_323 : decode cL_law 323 = .ok (.iconst 0, 1) := by decide +kernel
theorem dL_law_324 : decode cL_law 324 = .ok (.ireturn, 1) := by decide +kernel
theorem dL_law_325 : decode cL_law 325 = .ok (.aload_n 1, 1) := by decide +kernel
theorem dL_law_326 : decode cL_law 326 = .ok (.invokevirtual 55, 3) := by decide +kernel
theorem dL_law_329 : decode cL_law 329 = .ok (.aload_n 2, 1) := by decide +kernel
theorem dL_law_330 : decode cL_law 330 = .ok (.invokevirtual 58, 3) := by decide +kernel
theorem dL_law_333 : decode cL_law 333 = .ok (.if_icmp .eq 209, 3) := by decide +kernel
theorem dL_law_336 : decode cL_law 336 = .ok (.iconst 0, 1) := by decide +kernel
theorem dL_law_337 : decode cL_law 337 = .ok (.ireturn, 1) := by decide +kernel
theorem dL_law_338 : decode cL_law 338 = .ok (.aload_n 1, 1) := by decide +kernel
theorem dL_law_339 : decode cL_law 339 = .ok (.aload_n 0, 1) := by decide +kernel
theorem dL_law_340 : decode cL_law 340 = .ok (.iload_n 3, 1) := by decide +kernel
theorem dL_law_341 : decode cL_law 341 = .ok (.iconst 1, 1) := by decide +kernel
theorem dL_law_342 : decode cL_law 342 = .ok (.iadd, 1) := by decide +kernel
theorem dL_law_343 : decode cL_law 343 = .ok (.iaload, 1) := by decide +kernel
theorem dL_law_344 : decode cL_law 344 = .ok (.invokevirtual 59, 3) := by decide +kernel
theorem dL_law_347 : decode cL_law 347 = .ok (.aload_n 2, 1) := by decide +kernel
theorem dL_law_348 : decode cL_law 348 = .ok (.aload_n 0, 1) := by decide +kernel
theorem dL_law_349 : decode cL_law 349 = .ok (.iload_n 3, 1) := by decide +kernel
theorem dL_law_350 : decode cL_law 350 = .ok (.iconst 1, 1) := by decide +kernel
theorem dL_law_351 : decode cL_law 351 = .ok (.iadd, 1) := by decide +kernel
theorem dL_law_352 : decode cL_law 352 = .ok (.iaload, 1) := by decide +kernel
theorem dL_law_353 : decode cL_law 353 = .ok (.invokevirtual 62, 3) := by decide +kernel
theorem dL_law_356 : decode cL_law 356 = .ok (.if_icmp .eq 186, 3) := by decide +kernel
theorem dL_law_359 : decode cL_law 359 = .ok (.iconst 0, 1) := by decide +kernel
theorem dL_law_360 : decode cL_law 360 = .ok (.ireturn, 1) := by decide +kernel
theorem dL_law_361 : decode cL_law 361 = .ok (.aload_n 1, 1) := by decide +kernel
theorem dL_law_362 : decode cL_law 362 = .ok (.aload_n 0, 1) := by decide +kernel
theorem dL_law_363 : decode cL_law 363 = .ok (.iload_n 3, 1) := by decide +kernel
theorem dL_law_364 : decode cL_law 364 = .ok (.iconst 1, 1) := by decide +kernel
theorem dL_law_365 : decode cL_law 365 = .ok (.iadd, 1) := by decide +kernel
theorem dL_law_366 : decode cL_law 366 = .ok (.iaload, 1) := by decide +kernel
theorem dL_law_367 : decode cL_law 367 = .ok (.invokevirtual 63, 3) := by decide +kernel
theorem dL_law_370 : decode cL_law 370 = .ok (.aload_n 2, 1) := by decide +kernel
theorem dL_law_371 : decode cL_law 371 = .ok (.aload_n 0, 1) := by decide +kernel
theorem dL_law_372 : decode cL_law 372 = .ok (.iload_n 3, 1) := by decide +kernel
theorem dL_law_373 : decode cL_law 373 = .ok (.iconst 1, 1) := by decide +kernel
theorem dL_law_374 : decode cL_law 374 = .ok (.iadd, 1) := by decide +kernel
theorem dL_law_375 : decode cL_law 375 = .ok (.iaload, 1) := by decide +kernel
theorem dL_law_376 : decode cL_law 376 = .ok (.invokevirtual 66, 3) := by decide +kernel
theorem dL_law_379 : decode cL_law 379 = .ok (.lcmp, 1) := by decide +kernel
theorem dL_law_380 : decode cL_law 380 = .ok (.ifCond .eq 162, 3) := by decide +kernel
theorem dL_law_383 : decode cL_law 383 = .ok (.iconst 0, 1) := by decide +kernel
theorem dL_law_384 : decode cL_law 384 = .ok (.ireturn, 1) := by decide +kernel
theorem dL_law_385 : decode cL_law 385 = .ok (.aload_n 1, 1) := by decide +kernel
theorem dL_law_386 : decode cL_law 386 = .ok (.aload_n 0, 1) := by decide +kernel
theorem dL_law_387 : decode cL_law 387 = .ok (.iload_n 3, 1) := by decide +kernel
theorem dL_law_388 : decode cL_law 388 = .ok (.iconst 1, 1) := by decide +kernel
theorem dL_law_389 : decode cL_law 389 = .ok (.iadd, 1) := by decide +kernel
theorem dL_law_390 : decode cL_law 390 = .ok (.iaload, 1) := by decide +kernel
theorem dL_law_391 : decode cL_law 391 = .ok (.invokevirtual 67, 3) := by decide +kernel
theorem dL_law_394 : decode cL_law 394 = .ok (.aload_n 2, 1) := by decide +kernel
theorem dL_law_395 : decode cL_law 395 = .ok (.aload_n 0, 1) := by decide +kernel
theorem dL_law_396 : decode cL_law 396 = .ok (.iload_n 3, 1) := by decide +kernel
theorem dL_law_397 : decode cL_law 397 = .ok (.iconst 1, 1) := by decide +kernel
theorem dL_law_398 : decode cL_law 398 = .ok (.iadd, 1) := by decide +kernel
theorem dL_law_399 : decode cL_law 399 = .ok (.iaload, 1) := by decide +kernel
theorem dL_law_400 : decode cL_law 400 = .ok (.invokevirtual 70, 3) := by decide +kernel
theorem dL_law_403 : decode cL_law 403 = .ok (.if_icmp .eq 139, 3) := by decide +kernel
theorem dL_law_406 : decode cL_law 406 = .ok (.iconst 0, 1) := by decide +kernel
theorem dL_law_407 : decode cL_law 407 = .ok (.ireturn, 1) := by decide +kernel
theorem dL_law_408 : decode cL_law 408 = .ok (.aload_n 1, 1) := by decide +kernel
theorem dL_law_409 : decode cL_law 409 = .ok (.aload_n 0, 1) := by decide +kernel
theorem dL_law_410 : decode cL_law 410 = .ok (.iload_n 3, 1) := by decide +kernel
theorem dL_law_411 : decode cL_law 411 = .ok (.iconst 1, 1) := by decide +kernel
theorem dL_law_412 : decode cL_law 412 = .ok (.iadd, 1) := by decide +kernel
theorem dL_law_413 : decode cL_law 413 = .ok (.iaload, 1) := by decide +kernel
theorem dL_law_414 : decode cL_law 414 = .ok (.invokevirtual 71, 3) := by decide +kernel
theorem dL_law_417 : decode cL_law 417 = .ok (.aload_n 2, 1) := by decide +kernel
theorem dL_law_418 : decode cL_law 418 = .ok (.aload_n 0, 1) := by decide +kernel
theorem dL_law_419 : decode cL_law 419 = .ok (.iload_n 3, 1) := by decide +kernel
theorem dL_law_420 : decode cL_law 420 = .ok (.iconst 1, 1) := by decide +kernel
theorem dL_law_421 : decode cL_law 421 = .ok (.iadd, 1) := by decide +kernel
theorem dL_law_422 : decode cL_law 422 = .ok (.iaload, 1) := by decide +kernel
theorem dL_law_423 : decode cL_law 423 = .ok (.invokevirtual 74, 3) := by decide +kernel
theorem dL_law_426 : decode cL_law 426 = .ok (.lcmp, 1) := by decide +kernel
theorem dL_law_427 : decode cL_law 427 = .ok (.ifCond .eq 115, 3) := by decide +kernel
theorem dL_law_430 : decode cL_law 430 = .ok (.iconst 0, 1) := by decide +kernel
theorem dL_law_431 : decode cL_law 431 = .ok (.ireturn, 1) := by decide +kernel
theorem dL_law_432 : decode cL_law 432 = .ok (.aload_n 1, 1) := by decide +kernel
theorem dL_law_433 : decode cL_law 433 = .ok (.aload_n 0, 1) := by decide +kernel
theorem dL_law_434 : decode cL_law 434 = .ok (.iload_n 3, 1) := by decide +kernel
theorem dL_law_435 : decode cL_law 435 = .ok (.iconst 1, 1) := by decide +kernel
theorem dL_law_436 : decode cL_law 436 = .ok (.iadd, 1) := by decide +kernel
theorem dL_law_437 : decode cL_law 437 = .ok (.iaload, 1) := by decide +kernel
theorem dL_law_438 : decode cL_law 438 = .ok (.aload_n 0, 1) := by decide +kernel
theorem dL_law_439 : decode cL_law 439 = .ok (.iload_n 3, 1) := by decide +kernel
theorem dL_law_440 : decode cL_law 440 = .ok (.iconst 2, 1) := by decide +kernel
theorem dL_law_441 : decode cL_law 441 = .ok (.iadd, 1) := by decide +kernel
theorem dL_law_442 : decode cL_law 442 = .ok (.iaload, 1) := by decide +kernel
theorem dL_law_443 : decode cL_law 443 = .ok (.invokevirtual 75, 3) := by decide +kernel
theorem dL_law_446 : decode cL_law 446 = .ok (.aload_n 2, 1) := by decide +kernel
theorem dL_law_447 : decode cL_law 447 = .ok (.aload_n 0, 1) := by decide +kernel
theorem dL_law_448 : decode cL_law 448 = .ok (.iload_n 3, 1) := by decide +kernel
theorem dL_law_449 : decode cL_law 449 = .ok (.iconst 1, 1) := by decide +kernel
theorem dL_law_450 : decode cL_law 450 = .ok (.iadd, 1) := by decide +kernel
theorem dL_law_451 : decode cL_law 451 = .ok (.iaload, 1) := by decide +kernel
theorem dL_law_452 : decode cL_law 452 = .ok (.aload_n 0, 1) := by decide +kernel
theorem dL_law_453 : decode cL_law 453 = .ok (.iload_n 3, 1) := by decide +kernel
theorem dL_law_454 : decode cL_law 454 = .ok (.iconst 2, 1) := by decide +kernel
theorem dL_law_455 : decode cL_law 455 = .ok (.iadd, 1) := by decide +kernel
theorem dL_law_456 : decode cL_law 456 = .ok (.iaload, 1) := by decide +kernel
theorem dL_law_457 : decode cL_law 457 = .ok (.invokevirtual 78, 3) := by decide +kernel
theorem dL_law_460 : decode cL_law 460 = .ok (.if_icmp .eq 82, 3) := by decide +kernel
theorem dL_law_463 : decode cL_law 463 = .ok (.iconst 0, 1) := by decide +kernel
theorem dL_law_464 : decode cL_law 464 = .ok (.ireturn, 1) := by decide +kernel
theorem dL_law_465 : decode cL_law 465 = .ok (.aload_n 1, 1) := by decide +kernel
theorem dL_law_466 : decode cL_law 466 = .ok (.aload_n 0, 1) := by decide +kernel
theorem dL_law_467 : decode cL_law 467 = .ok (.iload_n 3, 1) := by decide +kernel
theorem dL_law_468 : decode cL_law 468 = .ok (.iconst 1, 1) := by decide +kernel
theorem dL_law_469 : decode cL_law 469 = .ok (.iadd, 1) := by decide +kernel
theorem dL_law_470 : decode cL_law 470 = .ok (.iaload, 1) := by decide +kernel
theorem dL_law_471 : decode cL_law 471 = .ok (.aload_n 0, 1) := by decide +kernel
theorem dL_law_472 : decode cL_law 472 = .ok (.iload_n 3, 1) := by decide +kernel
theorem dL_law_473 : decode cL_law 473 = .ok (.iconst 2, 1) := by decide +kernel
theorem dL_law_474 : decode cL_law 474 = .ok (.iadd, 1) := by decide +kernel
theorem dL_law_475 : decode cL_law 475 = .ok (.iaload, 1) := by decide +kernel
theorem dL_law_476 : decode cL_law 476 = .ok (.aload_n 0, 1) := by decide +kernel
theorem dL_law_477 : decode cL_law 477 = .ok (.iload_n 3, 1) := by decide +kernel
theorem dL_law_478 : decode cL_law 478 = .ok (.iconst 3, 1) := by decide +kernel
theorem dL_law_479 : decode cL_law 479 = .ok (.iadd, 1) := by decide +kernel
theorem dL_law_480 : decode cL_law 480 = .ok (.iaload, 1) := by decide +kernel
theorem dL_law_481 : decode cL_law 481 = .ok (.invokevirtual 79, 3) := by decide +kernel
theorem dL_law_484 : decode cL_law 484 = .ok (.aload_n 2, 1) := by decide +kernel
theorem dL_law_485 : decode cL_law 485 = .ok (.aload_n 0, 1) := by decide +kernel
theorem dL_law_486 : decode cL_law 486 = .ok (.iload_n 3, 1) := by decide +kernel
theorem dL_law_487 : decode cL_law 487 = .ok (.iconst 1, 1) := by decide +kernel
theorem dL_law_488 : decode cL_law 488 = .ok (.iadd, 1) := by decide +kernel
theorem dL_law_489 : decode cL_law 489 = .ok (.iaload, 1) := by decide +kernel
theorem dL_law_490 : decode cL_law 490 = .ok (.aload_n 0, 1) := by decide +kernel
theorem dL_law_491 : decode cL_law 491 = .ok (.iload_n 3, 1) := by decide +kernel
theorem dL_law_492 : decode cL_law 492 = .ok (.iconst 2, 1) := by decide +kernel
theorem dL_law_493 : decode cL_law 493 = .ok (.iadd, 1) := by decide +kernel
theorem dL_law_494 : decode cL_law 494 = .ok (.iaload, 1) := by decide +kernel
theorem dL_law_495 : decode cL_law 495 = .ok (.aload_n 0, 1) := by decide +kernel
theorem dL_law_496 : decode cL_law 496 = .ok (.iload_n 3, 1) := by decide +kernel
theorem dL_law_497 : decode cL_law 497 = .ok (.iconst 3, 1) := by decide +kernel
theorem dL_law_498 : decode cL_law 498 = .ok (.iadd, 1) := by decide +kernel
theorem dL_law_499 : decode cL_law 499 = .ok (.iaload, 1) := by decide +kernel
theorem dL_law_500 : decode cL_law 500 = .ok (.invokevirtual 83, 3) := by decide +kernel
theorem dL_law_503 : decode cL_law 503 = .ok (.lcmp, 1) := by decide +kernel
theorem dL_law_504 : decode cL_law 504 = .ok (.ifCond .eq 38, 3) := by decide +kernel
theorem dL_law_507 : decode cL_law 507 = .ok (.iconst 0, 1) := by decide +kernel
theorem dL_law_508 : decode cL_law 508 = .ok (.ireturn, 1) := by decide +kernel
theorem dL_law_509 : decode cL_law 509 = .ok (.aload_n 1, 1) := by decide +kernel
theorem dL_law_510 : decode cL_law 510 = .ok (.aload_n 0, 1) := by decide +kernel
theorem dL_law_511 : decode cL_law 511 = .ok (.iload_n 3, 1) := by decide +kernel
theorem dL_law_512 : decode cL_law 512 = .ok (.iconst 1, 1) := by decide +kernel
theorem dL_law_513 : decode cL_law 513 = .ok (.iadd, 1) := by decide +kernel
theorem dL_law_514 : decode cL_law 514 = .ok (.iaload, 1) := by decide +kernel
theorem dL_law_515 : decode cL_law 515 = .ok (.aload_n 0, 1) := by decide +kernel
theorem dL_law_516 : decode cL_law 516 = .ok (.iload_n 3, 1) := by decide +kernel
theorem dL_law_517 : decode cL_law 517 = .ok (.iconst 2, 1) := by decide +kernel
theorem dL_law_518 : decode cL_law 518 = .ok (.iadd, 1) := by decide +kernel
theorem dL_law_519 : decode cL_law 519 = .ok (.iaload, 1) := by decide +kernel
theorem dL_law_520 : decode cL_law 520 = .ok (.invokevirtual 84, 3) := by decide +kernel
theorem dL_law_523 : decode cL_law 523 = .ok (.aload_n 2, 1) := by decide +kernel
theorem dL_law_524 : decode cL_law 524 = .ok (.aload_n 0, 1) := by decide +kernel
theorem dL_law_525 : decode cL_law 525 = .ok (.iload_n 3, 1) := by decide +kernel
theorem dL_law_526 : decode cL_law 526 = .ok (.iconst 1, 1) := by decide +kernel
theorem dL_law_527 : decode cL_law 527 = .ok (.iadd, 1) := by decide +kernel
theorem dL_law_528 : decode cL_law 528 = .ok (.iaload, 1) := by decide +kernel
theorem dL_law_529 : decode cL_law 529 = .ok (.aload_n 0, 1) := by decide +kernel
theorem dL_law_530 : decode cL_law 530 = .ok (.iload_n 3, 1) := by decide +kernel
theorem dL_law_531 : decode cL_law 531 = .ok (.iconst 2, 1) := by decide +kernel
theorem dL_law_532 : decode cL_law 532 = .ok (.iadd, 1) := by decide +kernel
theorem dL_law_533 : decode cL_law 533 = .ok (.iaload, 1) := by decide +kernel
theorem dL_law_534 : decode cL_law 534 = .ok (.invokevirtual 87, 3) := by decide +kernel
theorem dL_law_537 : decode cL_law 537 = .ok (.if_icmp .eq 5, 3) := by decide +kernel
theorem dL_law_540 : decode cL_law 540 = .ok (.iconst 0, 1) := by decide +kernel
theorem dL_law_541 : decode cL_law 541 = .ok (.ireturn, 1) := by decide +kernel
theorem dL_law_542 : decode cL_law 542 = .ok (.iinc 3 5, 3) := by decide +kernel
theorem dL_law_545 : decode cL_law 545 = .ok (.goto (-527), 3) := by decide +kernel
theorem dL_law_548 : decode cL_law 548 = .ok (.iconst 1, 1) := by decide +kernel
theorem dL_law_549 : decode cL_law 549 = .ok (.ireturn, 1) := by decide +kernel
end
section
/-- the fields of each class: 0 whole numbers, 1 longs, 2 references -/
def fty : Nat → List Nat
  | 0 => [0, 2]
  | 1 => [2, 2, 0, 0, 0, 2, 0, 1, 2]
  | 2 => [2, 0, 0, 0]
  | 3 => [2, 2, 2, 2]
  | 4 => [2, 2, 0, 1, 2, 0, 0, 0, 0]
  | 5 => [0, 2, 2, 0, 0]
  | 6 => [2, 2, 2, 0, 0]
  | 7 => [0, 0, 0, 0, 0, 2, 0, 0, 0]
  | 8 => [0, 1]
  | 9 => [2, 2, 2, 2, 2, 0, 0, 0, 0, 1, 2]
  | 10 => [2, 2, 2, 2, 0, 0]
  | 11 => [2, 2, 2, 2, 0, 2, 2, 2, 2, 2, 2, 2, 0, 2, 2, 2, 2, 0, 2, 2, 2, 0, 0, 0, 2, 2, 2, 2, 2, 2, 2, 2, 2, 0, 0, 0, 0, 1, 0, 2, 2, 0, 0, 0, 0, 0, 0, 1, 0, 2, 0, 2, 0, 0, 0]
  | _ => []
/-! ===== what the tables say of a field, a class, a call, once for each place in the constant pools ===== -/
def gF (own : String) (index ci j ty : Nat) (fin mine : Bool) (ft : FieldType) : Prop := ∃ (Cn : String) (T : u_T) (N : Nat) (ty0 : Nat → FieldType), ci < 12 ∧ vwCl[ci]? = some (Cn, T, N) ∧ (∀ w ∈ u_ws Cn T N, w ∈ wsL_law) ∧ (∀ k, k < N → parseFieldDescriptor (T k).2.2.1 = some (ty0 k)) ∧ (∀ a, a < N → ∀ b, b < N → a ≠ b → (T a).2.1 ≠ (T b).2.1) ∧ j < N ∧ N = (fty ci).length ∧ Cond.fieldLink own index (T j).1 (T j).2.1 (T j).2.2.1 ∈ wsL_law ∧ (fty ci)[j]? = some ty ∧ (T j).2.2.2 = fin ∧ ty0 j = ft ∧ (mine = true → (T j).1 = own)
def gz (t : Nat) : Value := match t with
  | 0 => .int 0
  | 1 => .long 0
  | _ => .null
def gN (own : String) (index ci n : Nat) : Prop := ∃ (Cn : String) (T : u_T) (N : Nat) (ty0 : Nat → FieldType), ci < 12 ∧ vwCl[ci]? = some (Cn, T, N) ∧ (∀ w ∈ u_ws Cn T N, w ∈ wsL_law) ∧ (∀ k, k < N → parseFieldDescriptor (T k).2.2.1 = some (ty0 k)) ∧ Cond.classLink own index Cn ∈ wsL_law ∧ Cond.instantiable Cn N ∈ wsL_law ∧ Cond.initialized Cn ∈ wsL_law ∧ N = n ∧ ∀ j, j < N → ∃ t, (fty ci)[j]? = some t ∧ defaultValue (ty0 j) = gz t
def gM (own : String) (index : Nat) (y : MethodName) (bytes : ByteArray) (maxL : Nat) (ret : Option FieldType) (n : Nat) : Prop := Cond.methodLink own index y ∈ wsL_law ∧ Cond.initialized y.cls ∈ wsL_law ∧ Cond.code y bytes maxL ret ∈ wsL_law ∧ (y.cls ≠ "java/lang/invoke/MethodHandle" ∧ y.cls ≠ "java/lang/invoke/VarHandle" ∧ (parseMethodDescriptor y.desc).map (fun d => d.parameters.length) = some n)
def gMV (own : String) (index : Nat) (C : String) (y : MethodName) (bytes : ByteArray) (maxL : Nat) (ret : Option FieldType) (n : Nat) : Prop := gM own index y bytes maxL ret n ∧ Cond.instanceMethod y ∈ wsL_law ∧ Cond.selects C y y ∈ wsL_law
def gMS (own : String) (index : Nat) (y : MethodName) (bytes : ByteArray) (maxL : Nat) (ret : Option FieldType) (n : Nat) : Prop := gM own index y bytes maxL ret n ∧ Cond.static y ∈ wsL_law
def gMI (own : String) (index : Nat) (y : MethodName) (bytes : ByteArray) (maxL : Nat) (n : Nat) : Prop := gM own index y bytes maxL none n ∧ y.name = "<init>" ∧ Cond.instanceMethod y ∈ wsL_law
def gMN (own : String) (index : Nat) (y : MethodName) (bytes : ByteArray) (maxL : Nat) (n : Nat) : Prop := Cond.initialized y.cls ∈ wsL_law ∧ Cond.code y bytes maxL none ∈ wsL_law ∧ (y.cls ≠ "java/lang/invoke/MethodHandle" ∧ y.cls ≠ "java/lang/invoke/VarHandle" ∧ (parseMethodDescriptor y.desc).map (fun d => d.parameters.length) = some n) ∧ y.name = "<init>" ∧ Cond.instanceMethod y ∈ wsL_law
end
section
theorem F0_13 : gF RX0 13 0 1 2 true true (.object "TrialStair$Failure") := ⟨RX0, TX0, 2, tyX0, by decide, rfl, inlX0, tyX0_ok, nmX0, by decide, rfl, List.mem_of_getElem? (i := 349) (by decide +kernel), rfl, rfl, rfl, fun _ => rfl⟩
theorem F0_7 : gF RX0 7 0 0 0 true true .int := ⟨RX0, TX0, 2, tyX0, by decide, rfl, inlX0, tyX0_ok, nmX0, by decide, rfl, List.mem_of_getElem? (i := 348) (by decide +kernel), rfl, rfl, rfl, fun _ => rfl⟩
theorem F10_10 : gF RX10 10 10 0 2 true true (.object "TrialStair$Script") := ⟨RX10, TX10, 6, tyX10, by decide, rfl, inlX10, tyX10_ok, nmX10, by decide, rfl, List.mem_of_getElem? (i := 15) (by decide +kernel), rfl, rfl, rfl, fun _ => rfl⟩
theorem F10_100 : gF RX10 100 6 4 0 false false .int := ⟨RX6, TX6, 5, tyX6, by decide, rfl, inlX6, tyX6_ok, nmX6, by decide, rfl, List.mem_of_getElem? (i := 782) (by decide +kernel), rfl, rfl, rfl, fun h => by cases h⟩
theorem F10_107 : gF RX10 107 4 8 0 false false .int := ⟨RX4, TX4, 9, tyX4, by decide, rfl, inlX4, tyX4_ok, nmX4, by decide, rfl, List.mem_of_getElem? (i := 783) (by decide +kernel), rfl, rfl, rfl, fun h => by cases h⟩
theorem F10_125 : gF RX10 125 8 1 1 false false .long := ⟨RX8, TX8, 2, tyX8, by decide, rfl, inlX8, tyX8_ok, nmX8, by decide, rfl, List.mem_of_getElem? (i := 826) (by decide +kernel), rfl, rfl, rfl, fun h => by cases h⟩
theorem F10_134 : gF RX10 134 5 3 0 false false .int := ⟨RX5, TX5, 5, tyX5, by decide, rfl, inlX5, tyX5_ok, nmX5, by decide, rfl, List.mem_of_getElem? (i := 835) (by decide +kernel), rfl, rfl, rfl, fun h => by cases h⟩
theorem F10_148 : gF RX10 148 3 3 2 true false (.object "TrialStair$Grid") := ⟨RX3, TX3, 4, tyX3, by decide, rfl, inlX3, tyX3_ok, nmX3, by decide, rfl, List.mem_of_getElem? (i := 857) (by decide +kernel), rfl, rfl, rfl, fun h => by cases h⟩
theorem F10_160 : gF RX10 160 8 0 0 true false .int := ⟨RX8, TX8, 2, tyX8, by decide, rfl, inlX8, tyX8_ok, nmX8, by decide, rfl, List.mem_of_getElem? (i := 817) (by decide +kernel), rfl, rfl, rfl, fun h => by cases h⟩
theorem F10_19 : gF RX10 19 10 1 2 true true (.object "TrialStair$House") := ⟨RX10, TX10, 6, tyX10, by decide, rfl, inlX10, tyX10_ok, nmX10, by decide, rfl, List.mem_of_getElem? (i := 19) (by decide +kernel), rfl, rfl, rfl, fun _ => rfl⟩
theorem F10_26 : gF RX10 26 10 2 2 true true (.object "TrialStair$Report") := ⟨RX10, TX10, 6, tyX10, by decide, rfl, inlX10, tyX10_ok, nmX10, by decide, rfl, List.mem_of_getElem? (i := 23) (by decide +kernel), rfl, rfl, rfl, fun _ => rfl⟩
theorem F10_35 : gF RX10 35 10 3 2 true true (.object "TrialStair$Worker") := ⟨RX10, TX10, 6, tyX10, by decide, rfl, inlX10, tyX10_ok, nmX10, by decide, rfl, List.mem_of_getElem? (i := 27) (by decide +kernel), rfl, rfl, rfl, fun _ => rfl⟩
theorem F10_39 : gF RX10 39 6 3 0 false false .int := ⟨RX6, TX6, 5, tyX6, by decide, rfl, inlX6, tyX6_ok, nmX6, by decide, rfl, List.mem_of_getElem? (i := 122) (by decide +kernel), rfl, rfl, rfl, fun h => by cases h⟩
theorem F10_54 : gF RX10 54 10 4 0 false true .int := ⟨RX10, TX10, 6, tyX10, by decide, rfl, inlX10, tyX10_ok, nmX10, by decide, rfl, List.mem_of_getElem? (i := 166) (by decide +kernel), rfl, rfl, rfl, fun _ => rfl⟩
theorem F10_61 : gF RX10 61 10 5 0 false true .int := ⟨RX10, TX10, 6, tyX10, by decide, rfl, inlX10, tyX10_ok, nmX10, by decide, rfl, List.mem_of_getElem? (i := 167) (by decide +kernel), rfl, rfl, rfl, fun _ => rfl⟩
theorem F10_64 : gF RX10 64 4 2 0 false false .int := ⟨RX4, TX4, 9, tyX4, by decide, rfl, inlX4, tyX4_ok, nmX4, by decide, rfl, List.mem_of_getElem? (i := 716) (by decide +kernel), rfl, rfl, rfl, fun h => by cases h⟩
theorem F10_67 : gF RX10 67 4 3 1 false false .long := ⟨RX4, TX4, 9, tyX4, by decide, rfl, inlX4, tyX4_ok, nmX4, by decide, rfl, List.mem_of_getElem? (i := 725) (by decide +kernel), rfl, rfl, rfl, fun h => by cases h⟩
theorem F10_71 : gF RX10 71 4 4 2 false false (.object "TrialStair$Failure") := ⟨RX4, TX4, 9, tyX4, by decide, rfl, inlX4, tyX4_ok, nmX4, by decide, rfl, List.mem_of_getElem? (i := 734) (by decide +kernel), rfl, rfl, rfl, fun h => by cases h⟩
theorem F10_75 : gF RX10 75 0 0 0 true false .int := ⟨RX0, TX0, 2, tyX0, by decide, rfl, inlX0, tyX0_ok, nmX0, by decide, rfl, List.mem_of_getElem? (i := 735) (by decide +kernel), rfl, rfl, rfl, fun h => by cases h⟩
theorem F10_80 : gF RX10 80 0 1 2 true false (.object "TrialStair$Failure") := ⟨RX0, TX0, 2, tyX0, by decide, rfl, inlX0, tyX0_ok, nmX0, by decide, rfl, List.mem_of_getElem? (i := 744) (by decide +kernel), rfl, rfl, rfl, fun h => by cases h⟩
theorem F10_83 : gF RX10 83 4 5 0 false false .int := ⟨RX4, TX4, 9, tyX4, by decide, rfl, inlX4, tyX4_ok, nmX4, by decide, rfl, List.mem_of_getElem? (i := 753) (by decide +kernel), rfl, rfl, rfl, fun h => by cases h⟩
theorem F10_86 : gF RX10 86 4 0 2 true false (.array .long) := ⟨RX4, TX4, 9, tyX4, by decide, rfl, inlX4, tyX4_ok, nmX4, by decide, rfl, List.mem_of_getElem? (i := 754) (by decide +kernel), rfl, rfl, rfl, fun h => by cases h⟩
theorem F10_90 : gF RX10 90 4 6 0 false false .int := ⟨RX4, TX4, 9, tyX4, by decide, rfl, inlX4, tyX4_ok, nmX4, by decide, rfl, List.mem_of_getElem? (i := 763) (by decide +kernel), rfl, rfl, rfl, fun h => by cases h⟩
theorem F10_93 : gF RX10 93 4 1 2 true false (.array .int) := ⟨RX4, TX4, 9, tyX4, by decide, rfl, inlX4, tyX4_ok, nmX4, by decide, rfl, List.mem_of_getElem? (i := 764) (by decide +kernel), rfl, rfl, rfl, fun h => by cases h⟩
theorem F10_97 : gF RX10 97 4 7 0 false false .int := ⟨RX4, TX4, 9, tyX4, by decide, rfl, inlX4, tyX4_ok, nmX4, by decide, rfl, List.mem_of_getElem? (i := 773) (by decide +kernel), rfl, rfl, rfl, fun h => by cases h⟩
theorem F11_103 : gF RX11 103 11 49 2 true true (.array .long) := ⟨RX11, TX11, 55, tyX11, by decide, rfl, inlX11, tyX11_ok, nmX11, by decide, rfl, List.mem_of_getElem? (i := 116) (by decide +kernel), rfl, rfl, rfl, fun _ => rfl⟩
theorem F11_106 : gF RX11 106 11 51 2 true true (.array .int) := ⟨RX11, TX11, 55, tyX11, by decide, rfl, inlX11, tyX11_ok, nmX11, by decide, rfl, List.mem_of_getElem? (i := 117) (by decide +kernel), rfl, rfl, rfl, fun _ => rfl⟩
theorem F11_109 : gF RX11 109 11 4 0 false true .int := ⟨RX11, TX11, 55, tyX11, by decide, rfl, inlX11, tyX11_ok, nmX11, by decide, rfl, List.mem_of_getElem? (i := 149) (by decide +kernel), rfl, rfl, rfl, fun _ => rfl⟩
theorem F11_112 : gF RX11 112 11 12 0 false true .int := ⟨RX11, TX11, 55, tyX11, by decide, rfl, inlX11, tyX11_ok, nmX11, by decide, rfl, List.mem_of_getElem? (i := 540) (by decide +kernel), rfl, rfl, rfl, fun _ => rfl⟩
theorem F11_13 : gF RX11 13 11 1 2 true true (.array .int) := ⟨RX11, TX11, 55, tyX11, by decide, rfl, inlX11, tyX11_ok, nmX11, by decide, rfl, List.mem_of_getElem? (i := 86) (by decide +kernel), rfl, rfl, rfl, fun _ => rfl⟩
theorem F11_130 : gF RX11 130 11 45 0 false true .int := ⟨RX11, TX11, 55, tyX11, by decide, rfl, inlX11, tyX11_ok, nmX11, by decide, rfl, List.mem_of_getElem? (i := 541) (by decide +kernel), rfl, rfl, rfl, fun _ => rfl⟩
theorem F11_140 : gF RX11 140 11 35 0 false true .boolean := ⟨RX11, TX11, 55, tyX11, by decide, rfl, inlX11, tyX11_ok, nmX11, by decide, rfl, List.mem_of_getElem? (i := 542) (by decide +kernel), rfl, rfl, rfl, fun _ => rfl⟩
theorem F11_147 : gF RX11 147 11 44 0 false true .int := ⟨RX11, TX11, 55, tyX11, by decide, rfl, inlX11, tyX11_ok, nmX11, by decide, rfl, List.mem_of_getElem? (i := 543) (by decide +kernel), rfl, rfl, rfl, fun _ => rfl⟩
theorem F11_150 : gF RX11 150 11 43 0 false true .int := ⟨RX11, TX11, 55, tyX11, by decide, rfl, inlX11, tyX11_ok, nmX11, by decide, rfl, List.mem_of_getElem? (i := 544) (by decide +kernel), rfl, rfl, rfl, fun _ => rfl⟩
theorem F11_153 : gF RX11 153 11 42 0 false true .int := ⟨RX11, TX11, 55, tyX11, by decide, rfl, inlX11, tyX11_ok, nmX11, by decide, rfl, List.mem_of_getElem? (i := 565) (by decide +kernel), rfl, rfl, rfl, fun _ => rfl⟩
theorem F11_156 : gF RX11 156 11 33 0 false true .int := ⟨RX11, TX11, 55, tyX11, by decide, rfl, inlX11, tyX11_ok, nmX11, by decide, rfl, List.mem_of_getElem? (i := 566) (by decide +kernel), rfl, rfl, rfl, fun _ => rfl⟩
theorem F11_159 : gF RX11 159 11 41 0 false true .int := ⟨RX11, TX11, 55, tyX11, by decide, rfl, inlX11, tyX11_ok, nmX11, by decide, rfl, List.mem_of_getElem? (i := 567) (by decide +kernel), rfl, rfl, rfl, fun _ => rfl⟩
theorem F11_16 : gF RX11 16 11 2 2 true true (.array .int) := ⟨RX11, TX11, 55, tyX11, by decide, rfl, inlX11, tyX11_ok, nmX11, by decide, rfl, List.mem_of_getElem? (i := 87) (by decide +kernel), rfl, rfl, rfl, fun _ => rfl⟩
theorem F11_162 : gF RX11 162 11 50 0 false true .int := ⟨RX11, TX11, 55, tyX11, by decide, rfl, inlX11, tyX11_ok, nmX11, by decide, rfl, List.mem_of_getElem? (i := 568) (by decide +kernel), rfl, rfl, rfl, fun _ => rfl⟩
theorem F11_165 : gF RX11 165 11 52 0 false true .int := ⟨RX11, TX11, 55, tyX11, by decide, rfl, inlX11, tyX11_ok, nmX11, by decide, rfl, List.mem_of_getElem? (i := 569) (by decide +kernel), rfl, rfl, rfl, fun _ => rfl⟩
theorem F11_168 : gF RX11 168 11 53 0 false true .int := ⟨RX11, TX11, 55, tyX11, by decide, rfl, inlX11, tyX11_ok, nmX11, by decide, rfl, List.mem_of_getElem? (i := 570) (by decide +kernel), rfl, rfl, rfl, fun _ => rfl⟩
theorem F11_171 : gF RX11 171 11 54 0 false true .int := ⟨RX11, TX11, 55, tyX11, by decide, rfl, inlX11, tyX11_ok, nmX11, by decide, rfl, List.mem_of_getElem? (i := 571) (by decide +kernel), rfl, rfl, rfl, fun _ => rfl⟩
theorem F11_174 : gF RX11 174 11 47 1 false true .long := ⟨RX11, TX11, 55, tyX11, by decide, rfl, inlX11, tyX11_ok, nmX11, by decide, rfl, List.mem_of_getElem? (i := 572) (by decide +kernel), rfl, rfl, rfl, fun _ => rfl⟩
theorem F11_178 : gF RX11 178 11 48 0 false true .int := ⟨RX11, TX11, 55, tyX11, by decide, rfl, inlX11, tyX11_ok, nmX11, by decide, rfl, List.mem_of_getElem? (i := 573) (by decide +kernel), rfl, rfl, rfl, fun _ => rfl⟩
theorem F11_187 : gF RX11 187 11 34 0 false true .int := ⟨RX11, TX11, 55, tyX11, by decide, rfl, inlX11, tyX11_ok, nmX11, by decide, rfl, List.mem_of_getElem? (i := 578) (by decide +kernel), rfl, rfl, rfl, fun _ => rfl⟩
theorem F11_19 : gF RX11 19 11 3 2 true true (.array .int) := ⟨RX11, TX11, 55, tyX11, by decide, rfl, inlX11, tyX11_ok, nmX11, by decide, rfl, List.mem_of_getElem? (i := 88) (by decide +kernel), rfl, rfl, rfl, fun _ => rfl⟩
theorem F11_194 : gF RX11 194 11 36 0 false true .int := ⟨RX11, TX11, 55, tyX11, by decide, rfl, inlX11, tyX11_ok, nmX11, by decide, rfl, List.mem_of_getElem? (i := 591) (by decide +kernel), rfl, rfl, rfl, fun _ => rfl⟩
theorem F11_22 : gF RX11 22 11 5 2 true true (.array .int) := ⟨RX11, TX11, 55, tyX11, by decide, rfl, inlX11, tyX11_ok, nmX11, by decide, rfl, List.mem_of_getElem? (i := 89) (by decide +kernel), rfl, rfl, rfl, fun _ => rfl⟩
theorem F11_226 : gF RX11 226 11 37 1 false true .long := ⟨RX11, TX11, 55, tyX11, by decide, rfl, inlX11, tyX11_ok, nmX11, by decide, rfl, List.mem_of_getElem? (i := 592) (by decide +kernel), rfl, rfl, rfl, fun _ => rfl⟩
theorem F11_232 : gF RX11 232 11 38 0 false true .int := ⟨RX11, TX11, 55, tyX11, by decide, rfl, inlX11, tyX11_ok, nmX11, by decide, rfl, List.mem_of_getElem? (i := 605) (by decide +kernel), rfl, rfl, rfl, fun _ => rfl⟩
theorem F11_25 : gF RX11 25 11 6 2 true true (.array .int) := ⟨RX11, TX11, 55, tyX11, by decide, rfl, inlX11, tyX11_ok, nmX11, by decide, rfl, List.mem_of_getElem? (i := 90) (by decide +kernel), rfl, rfl, rfl, fun _ => rfl⟩
theorem F11_28 : gF RX11 28 11 7 2 true true (.array .int) := ⟨RX11, TX11, 55, tyX11, by decide, rfl, inlX11, tyX11_ok, nmX11, by decide, rfl, List.mem_of_getElem? (i := 91) (by decide +kernel), rfl, rfl, rfl, fun _ => rfl⟩
theorem F11_289 : gF RX11 289 11 21 0 false true .boolean := ⟨RX11, TX11, 55, tyX11, by decide, rfl, inlX11, tyX11_ok, nmX11, by decide, rfl, List.mem_of_getElem? (i := 646) (by decide +kernel), rfl, rfl, rfl, fun _ => rfl⟩
theorem F11_292 : gF RX11 292 11 22 0 false true .int := ⟨RX11, TX11, 55, tyX11, by decide, rfl, inlX11, tyX11_ok, nmX11, by decide, rfl, List.mem_of_getElem? (i := 647) (by decide +kernel), rfl, rfl, rfl, fun _ => rfl⟩
theorem F11_295 : gF RX11 295 11 23 0 false true .int := ⟨RX11, TX11, 55, tyX11, by decide, rfl, inlX11, tyX11_ok, nmX11, by decide, rfl, List.mem_of_getElem? (i := 648) (by decide +kernel), rfl, rfl, rfl, fun _ => rfl⟩
theorem F11_308 : gF RX11 308 11 17 0 false true .int := ⟨RX11, TX11, 55, tyX11, by decide, rfl, inlX11, tyX11_ok, nmX11, by decide, rfl, List.mem_of_getElem? (i := 681) (by decide +kernel), rfl, rfl, rfl, fun _ => rfl⟩
theorem F11_31 : gF RX11 31 11 8 2 true true (.array .int) := ⟨RX11, TX11, 55, tyX11, by decide, rfl, inlX11, tyX11_ok, nmX11, by decide, rfl, List.mem_of_getElem? (i := 92) (by decide +kernel), rfl, rfl, rfl, fun _ => rfl⟩
theorem F11_34 : gF RX11 34 11 9 2 true true (.array .int) := ⟨RX11, TX11, 55, tyX11, by decide, rfl, inlX11, tyX11_ok, nmX11, by decide, rfl, List.mem_of_getElem? (i := 93) (by decide +kernel), rfl, rfl, rfl, fun _ => rfl⟩
theorem F11_37 : gF RX11 37 11 10 2 true true (.array .int) := ⟨RX11, TX11, 55, tyX11, by decide, rfl, inlX11, tyX11_ok, nmX11, by decide, rfl, List.mem_of_getElem? (i := 94) (by decide +kernel), rfl, rfl, rfl, fun _ => rfl⟩
theorem F11_40 : gF RX11 40 11 11 2 true true (.array .int) := ⟨RX11, TX11, 55, tyX11, by decide, rfl, inlX11, tyX11_ok, nmX11, by decide, rfl, List.mem_of_getElem? (i := 95) (by decide +kernel), rfl, rfl, rfl, fun _ => rfl⟩
theorem F11_43 : gF RX11 43 11 13 2 true true (.array .long) := ⟨RX11, TX11, 55, tyX11, by decide, rfl, inlX11, tyX11_ok, nmX11, by decide, rfl, List.mem_of_getElem? (i := 96) (by decide +kernel), rfl, rfl, rfl, fun _ => rfl⟩
theorem F11_47 : gF RX11 47 11 14 2 true true (.array .int) := ⟨RX11, TX11, 55, tyX11, by decide, rfl, inlX11, tyX11_ok, nmX11, by decide, rfl, List.mem_of_getElem? (i := 97) (by decide +kernel), rfl, rfl, rfl, fun _ => rfl⟩
theorem F11_50 : gF RX11 50 11 15 2 true true (.array .int) := ⟨RX11, TX11, 55, tyX11, by decide, rfl, inlX11, tyX11_ok, nmX11, by decide, rfl, List.mem_of_getElem? (i := 98) (by decide +kernel), rfl, rfl, rfl, fun _ => rfl⟩
theorem F11_53 : gF RX11 53 11 16 2 true true (.array .long) := ⟨RX11, TX11, 55, tyX11, by decide, rfl, inlX11, tyX11_ok, nmX11, by decide, rfl, List.mem_of_getElem? (i := 99) (by decide +kernel), rfl, rfl, rfl, fun _ => rfl⟩
theorem F11_56 : gF RX11 56 11 18 2 true true (.array .int) := ⟨RX11, TX11, 55, tyX11, by decide, rfl, inlX11, tyX11_ok, nmX11, by decide, rfl, List.mem_of_getElem? (i := 100) (by decide +kernel), rfl, rfl, rfl, fun _ => rfl⟩
theorem F11_59 : gF RX11 59 11 19 2 true true (.array .boolean) := ⟨RX11, TX11, 55, tyX11, by decide, rfl, inlX11, tyX11_ok, nmX11, by decide, rfl, List.mem_of_getElem? (i := 102) (by decide +kernel), rfl, rfl, rfl, fun _ => rfl⟩
theorem F11_63 : gF RX11 63 11 20 2 true true (.array .long) := ⟨RX11, TX11, 55, tyX11, by decide, rfl, inlX11, tyX11_ok, nmX11, by decide, rfl, List.mem_of_getElem? (i := 103) (by decide +kernel), rfl, rfl, rfl, fun _ => rfl⟩
theorem F11_66 : gF RX11 66 11 24 2 true true (.array .int) := ⟨RX11, TX11, 55, tyX11, by decide, rfl, inlX11, tyX11_ok, nmX11, by decide, rfl, List.mem_of_getElem? (i := 104) (by decide +kernel), rfl, rfl, rfl, fun _ => rfl⟩
theorem F11_69 : gF RX11 69 11 25 2 true true (.array .int) := ⟨RX11, TX11, 55, tyX11, by decide, rfl, inlX11, tyX11_ok, nmX11, by decide, rfl, List.mem_of_getElem? (i := 105) (by decide +kernel), rfl, rfl, rfl, fun _ => rfl⟩
theorem F11_7 : gF RX11 7 11 0 2 true true (.array .int) := ⟨RX11, TX11, 55, tyX11, by decide, rfl, inlX11, tyX11_ok, nmX11, by decide, rfl, List.mem_of_getElem? (i := 85) (by decide +kernel), rfl, rfl, rfl, fun _ => rfl⟩
theorem F11_72 : gF RX11 72 11 26 2 true true (.array .int) := ⟨RX11, TX11, 55, tyX11, by decide, rfl, inlX11, tyX11_ok, nmX11, by decide, rfl, List.mem_of_getElem? (i := 106) (by decide +kernel), rfl, rfl, rfl, fun _ => rfl⟩
theorem F11_75 : gF RX11 75 11 27 2 true true (.array .int) := ⟨RX11, TX11, 55, tyX11, by decide, rfl, inlX11, tyX11_ok, nmX11, by decide, rfl, List.mem_of_getElem? (i := 107) (by decide +kernel), rfl, rfl, rfl, fun _ => rfl⟩
theorem F11_78 : gF RX11 78 11 28 2 true true (.array .int) := ⟨RX11, TX11, 55, tyX11, by decide, rfl, inlX11, tyX11_ok, nmX11, by decide, rfl, List.mem_of_getElem? (i := 108) (by decide +kernel), rfl, rfl, rfl, fun _ => rfl⟩
theorem F11_81 : gF RX11 81 11 29 2 true true (.array .int) := ⟨RX11, TX11, 55, tyX11, by decide, rfl, inlX11, tyX11_ok, nmX11, by decide, rfl, List.mem_of_getElem? (i := 109) (by decide +kernel), rfl, rfl, rfl, fun _ => rfl⟩
theorem F11_84 : gF RX11 84 11 30 2 true true (.array .int) := ⟨RX11, TX11, 55, tyX11, by decide, rfl, inlX11, tyX11_ok, nmX11, by decide, rfl, List.mem_of_getElem? (i := 110) (by decide +kernel), rfl, rfl, rfl, fun _ => rfl⟩
theorem F11_87 : gF RX11 87 11 31 2 true true (.array .long) := ⟨RX11, TX11, 55, tyX11, by decide, rfl, inlX11, tyX11_ok, nmX11, by decide, rfl, List.mem_of_getElem? (i := 111) (by decide +kernel), rfl, rfl, rfl, fun _ => rfl⟩
theorem F11_90 : gF RX11 90 11 32 2 true true (.array .int) := ⟨RX11, TX11, 55, tyX11, by decide, rfl, inlX11, tyX11_ok, nmX11, by decide, rfl, List.mem_of_getElem? (i := 112) (by decide +kernel), rfl, rfl, rfl, fun _ => rfl⟩
theorem F11_93 : gF RX11 93 11 39 2 true true (.array .int) := ⟨RX11, TX11, 55, tyX11, by decide, rfl, inlX11, tyX11_ok, nmX11, by decide, rfl, List.mem_of_getElem? (i := 113) (by decide +kernel), rfl, rfl, rfl, fun _ => rfl⟩
theorem F11_96 : gF RX11 96 11 40 2 true true (.array .int) := ⟨RX11, TX11, 55, tyX11, by decide, rfl, inlX11, tyX11_ok, nmX11, by decide, rfl, List.mem_of_getElem? (i := 114) (by decide +kernel), rfl, rfl, rfl, fun _ => rfl⟩
theorem F11_99 : gF RX11 99 11 46 0 false true .int := ⟨RX11, TX11, 55, tyX11, by decide, rfl, inlX11, tyX11_ok, nmX11, by decide, rfl, List.mem_of_getElem? (i := 115) (by decide +kernel), rfl, rfl, rfl, fun _ => rfl⟩
theorem F1_15 : gF RX1 15 1 0 2 true true (.object "TrialStair$Step") := ⟨RX1, TX1, 9, tyX1, by decide, rfl, inlX1, tyX1_ok, nmX1, by decide, rfl, List.mem_of_getElem? (i := 210) (by decide +kernel), rfl, rfl, rfl, fun _ => rfl⟩
theorem F1_19 : gF RX1 19 1 1 2 true true (.object "TrialStair$Frame") := ⟨RX1, TX1, 9, tyX1, by decide, rfl, inlX1, tyX1_ok, nmX1, by decide, rfl, List.mem_of_getElem? (i := 211) (by decide +kernel), rfl, rfl, rfl, fun _ => rfl⟩
theorem F1_23 : gF RX1 23 1 2 0 true true .int := ⟨RX1, TX1, 9, tyX1, by decide, rfl, inlX1, tyX1_ok, nmX1, by decide, rfl, List.mem_of_getElem? (i := 212) (by decide +kernel), rfl, rfl, rfl, fun _ => rfl⟩
theorem F1_26 : gF RX1 26 1 3 0 false true .int := ⟨RX1, TX1, 9, tyX1, by decide, rfl, inlX1, tyX1_ok, nmX1, by decide, rfl, List.mem_of_getElem? (i := 213) (by decide +kernel), rfl, rfl, rfl, fun _ => rfl⟩
theorem F1_29 : gF RX1 29 7 8 0 false false .int := ⟨RX7, TX7, 9, tyX7, by decide, rfl, inlX7, tyX7_ok, nmX7, by decide, rfl, List.mem_of_getElem? (i := 262) (by decide +kernel), rfl, rfl, rfl, fun h => by cases h⟩
theorem F1_34 : gF RX1 34 7 7 0 false false .int := ⟨RX7, TX7, 9, tyX7, by decide, rfl, inlX7, tyX7_ok, nmX7, by decide, rfl, List.mem_of_getElem? (i := 279) (by decide +kernel), rfl, rfl, rfl, fun h => by cases h⟩
theorem F1_41 : gF RX1 41 7 6 0 false false .int := ⟨RX7, TX7, 9, tyX7, by decide, rfl, inlX7, tyX7_ok, nmX7, by decide, rfl, List.mem_of_getElem? (i := 363) (by decide +kernel), rfl, rfl, rfl, fun h => by cases h⟩
theorem F1_9 : gF RX1 9 1 4 0 false true .int := ⟨RX1, TX1, 9, tyX1, by decide, rfl, inlX1, tyX1_ok, nmX1, by decide, rfl, List.mem_of_getElem? (i := 209) (by decide +kernel), rfl, rfl, rfl, fun _ => rfl⟩
theorem F2_15 : gF RX2 15 2 1 0 false true .boolean := ⟨RX2, TX2, 4, tyX2, by decide, rfl, inlX2, tyX2_ok, nmX2, by decide, rfl, List.mem_of_getElem? (i := 471) (by decide +kernel), rfl, rfl, rfl, fun _ => rfl⟩
theorem F2_19 : gF RX2 19 2 2 0 false true .int := ⟨RX2, TX2, 4, tyX2, by decide, rfl, inlX2, tyX2_ok, nmX2, by decide, rfl, List.mem_of_getElem? (i := 472) (by decide +kernel), rfl, rfl, rfl, fun _ => rfl⟩
theorem F2_23 : gF RX2 23 2 3 0 false true .int := ⟨RX2, TX2, 4, tyX2, by decide, rfl, inlX2, tyX2_ok, nmX2, by decide, rfl, List.mem_of_getElem? (i := 473) (by decide +kernel), rfl, rfl, rfl, fun _ => rfl⟩
theorem F2_9 : gF RX2 9 2 0 2 true true (.array .int) := ⟨RX2, TX2, 4, tyX2, by decide, rfl, inlX2, tyX2_ok, nmX2, by decide, rfl, List.mem_of_getElem? (i := 51) (by decide +kernel), rfl, rfl, rfl, fun _ => rfl⟩
theorem F3_122 : gF RX3 122 5 4 0 false false .boolean := ⟨RX5, TX5, 5, tyX5, by decide, rfl, inlX5, tyX5_ok, nmX5, by decide, rfl, List.mem_of_getElem? (i := 440) (by decide +kernel), rfl, rfl, rfl, fun h => by cases h⟩
theorem F3_126 : gF RX3 126 8 0 0 true false .int := ⟨RX8, TX8, 2, tyX8, by decide, rfl, inlX8, tyX8_ok, nmX8, by decide, rfl, List.mem_of_getElem? (i := 441) (by decide +kernel), rfl, rfl, rfl, fun h => by cases h⟩
theorem F3_136 : gF RX3 136 2 1 0 false false .boolean := ⟨RX2, TX2, 4, tyX2, by decide, rfl, inlX2, tyX2_ok, nmX2, by decide, rfl, List.mem_of_getElem? (i := 466) (by decide +kernel), rfl, rfl, rfl, fun h => by cases h⟩
theorem F3_163 : gF RX3 163 8 1 1 false false .long := ⟨RX8, TX8, 2, tyX8, by decide, rfl, inlX8, tyX8_ok, nmX8, by decide, rfl, List.mem_of_getElem? (i := 516) (by decide +kernel), rfl, rfl, rfl, fun h => by cases h⟩
theorem F3_17 : gF RX3 17 3 1 2 true true (.array (.object "TrialStair$Thing")) := ⟨RX3, TX3, 4, tyX3, by decide, rfl, inlX3, tyX3_ok, nmX3, by decide, rfl, List.mem_of_getElem? (i := 41) (by decide +kernel), rfl, rfl, rfl, fun _ => rfl⟩
theorem F3_23 : gF RX3 23 3 2 2 true true (.array (.object "TrialStair$Row")) := ⟨RX3, TX3, 4, tyX3, by decide, rfl, inlX3, tyX3_ok, nmX3, by decide, rfl, List.mem_of_getElem? (i := 43) (by decide +kernel), rfl, rfl, rfl, fun _ => rfl⟩
theorem F3_30 : gF RX3 30 3 3 2 true true (.object "TrialStair$Grid") := ⟨RX3, TX3, 4, tyX3, by decide, rfl, inlX3, tyX3_ok, nmX3, by decide, rfl, List.mem_of_getElem? (i := 47) (by decide +kernel), rfl, rfl, rfl, fun _ => rfl⟩
theorem F3_38 : gF RX3 38 7 1 0 true false .int := ⟨RX7, TX7, 9, tyX7, by decide, rfl, inlX7, tyX7_ok, nmX7, by decide, rfl, List.mem_of_getElem? (i := 374) (by decide +kernel), rfl, rfl, rfl, fun h => by cases h⟩
theorem F3_63 : gF RX3 63 7 3 0 true false .int := ⟨RX7, TX7, 9, tyX7, by decide, rfl, inlX7, tyX7_ok, nmX7, by decide, rfl, List.mem_of_getElem? (i := 379) (by decide +kernel), rfl, rfl, rfl, fun h => by cases h⟩
theorem F3_66 : gF RX3 66 7 4 0 true false .int := ⟨RX7, TX7, 9, tyX7, by decide, rfl, inlX7, tyX7_ok, nmX7, by decide, rfl, List.mem_of_getElem? (i := 380) (by decide +kernel), rfl, rfl, rfl, fun h => by cases h⟩
theorem F3_69 : gF RX3 69 7 2 0 true false .int := ⟨RX7, TX7, 9, tyX7, by decide, rfl, inlX7, tyX7_ok, nmX7, by decide, rfl, List.mem_of_getElem? (i := 381) (by decide +kernel), rfl, rfl, rfl, fun h => by cases h⟩
theorem F3_84 : gF RX3 84 5 3 0 false false .int := ⟨RX5, TX5, 5, tyX5, by decide, rfl, inlX5, tyX5_ok, nmX5, by decide, rfl, List.mem_of_getElem? (i := 423) (by decide +kernel), rfl, rfl, rfl, fun h => by cases h⟩
theorem F3_9 : gF RX3 9 3 0 2 true true (.array .long) := ⟨RX3, TX3, 4, tyX3, by decide, rfl, inlX3, tyX3_ok, nmX3, by decide, rfl, List.mem_of_getElem? (i := 39) (by decide +kernel), rfl, rfl, rfl, fun _ => rfl⟩
theorem F4_15 : gF RX4 15 4 1 2 true true (.array .int) := ⟨RX4, TX4, 9, tyX4, by decide, rfl, inlX4, tyX4_ok, nmX4, by decide, rfl, List.mem_of_getElem? (i := 56) (by decide +kernel), rfl, rfl, rfl, fun _ => rfl⟩
theorem F4_19 : gF RX4 19 4 2 0 false true .int := ⟨RX4, TX4, 9, tyX4, by decide, rfl, inlX4, tyX4_ok, nmX4, by decide, rfl, List.mem_of_getElem? (i := 57) (by decide +kernel), rfl, rfl, rfl, fun _ => rfl⟩
theorem F4_23 : gF RX4 23 4 3 1 false true .long := ⟨RX4, TX4, 9, tyX4, by decide, rfl, inlX4, tyX4_ok, nmX4, by decide, rfl, List.mem_of_getElem? (i := 187) (by decide +kernel), rfl, rfl, rfl, fun _ => rfl⟩
theorem F4_27 : gF RX4 27 4 4 2 false true (.object "TrialStair$Failure") := ⟨RX4, TX4, 9, tyX4, by decide, rfl, inlX4, tyX4_ok, nmX4, by decide, rfl, List.mem_of_getElem? (i := 188) (by decide +kernel), rfl, rfl, rfl, fun _ => rfl⟩
theorem F4_31 : gF RX4 31 4 5 0 false true .int := ⟨RX4, TX4, 9, tyX4, by decide, rfl, inlX4, tyX4_ok, nmX4, by decide, rfl, List.mem_of_getElem? (i := 189) (by decide +kernel), rfl, rfl, rfl, fun _ => rfl⟩
theorem F4_34 : gF RX4 34 4 6 0 false true .int := ⟨RX4, TX4, 9, tyX4, by decide, rfl, inlX4, tyX4_ok, nmX4, by decide, rfl, List.mem_of_getElem? (i := 190) (by decide +kernel), rfl, rfl, rfl, fun _ => rfl⟩
theorem F4_37 : gF RX4 37 4 7 0 false true .int := ⟨RX4, TX4, 9, tyX4, by decide, rfl, inlX4, tyX4_ok, nmX4, by decide, rfl, List.mem_of_getElem? (i := 191) (by decide +kernel), rfl, rfl, rfl, fun _ => rfl⟩
theorem F4_40 : gF RX4 40 4 8 0 false true .int := ⟨RX4, TX4, 9, tyX4, by decide, rfl, inlX4, tyX4_ok, nmX4, by decide, rfl, List.mem_of_getElem? (i := 192) (by decide +kernel), rfl, rfl, rfl, fun _ => rfl⟩
theorem F4_43 : gF RX4 43 0 1 2 true false (.object "TrialStair$Failure") := ⟨RX0, TX0, 2, tyX0, by decide, rfl, inlX0, tyX0_ok, nmX0, by decide, rfl, List.mem_of_getElem? (i := 788) (by decide +kernel), rfl, rfl, rfl, fun h => by cases h⟩
theorem F4_9 : gF RX4 9 4 0 2 true true (.array .long) := ⟨RX4, TX4, 9, tyX4, by decide, rfl, inlX4, tyX4_ok, nmX4, by decide, rfl, List.mem_of_getElem? (i := 55) (by decide +kernel), rfl, rfl, rfl, fun _ => rfl⟩
theorem F5_15 : gF RX5 15 5 1 2 true true (.array .long) := ⟨RX5, TX5, 5, tyX5, by decide, rfl, inlX5, tyX5_ok, nmX5, by decide, rfl, List.mem_of_getElem? (i := 406) (by decide +kernel), rfl, rfl, rfl, fun _ => rfl⟩
theorem F5_21 : gF RX5 21 5 2 2 true true (.array (.object "TrialStair$Thing")) := ⟨RX5, TX5, 5, tyX5, by decide, rfl, inlX5, tyX5_ok, nmX5, by decide, rfl, List.mem_of_getElem? (i := 408) (by decide +kernel), rfl, rfl, rfl, fun _ => rfl⟩
theorem F5_25 : gF RX5 25 5 3 0 false true .int := ⟨RX5, TX5, 5, tyX5, by decide, rfl, inlX5, tyX5_ok, nmX5, by decide, rfl, List.mem_of_getElem? (i := 413) (by decide +kernel), rfl, rfl, rfl, fun _ => rfl⟩
theorem F5_28 : gF RX5 28 5 4 0 false true .boolean := ⟨RX5, TX5, 5, tyX5, by decide, rfl, inlX5, tyX5_ok, nmX5, by decide, rfl, List.mem_of_getElem? (i := 414) (by decide +kernel), rfl, rfl, rfl, fun _ => rfl⟩
theorem F5_9 : gF RX5 9 5 0 0 true true .int := ⟨RX5, TX5, 5, tyX5, by decide, rfl, inlX5, tyX5_ok, nmX5, by decide, rfl, List.mem_of_getElem? (i := 405) (by decide +kernel), rfl, rfl, rfl, fun _ => rfl⟩
theorem F6_11 : gF RX6 11 6 0 2 true true (.array (.object "TrialStair$Step")) := ⟨RX6, TX6, 5, tyX6, by decide, rfl, inlX6, tyX6_ok, nmX6, by decide, rfl, List.mem_of_getElem? (i := 32) (by decide +kernel), rfl, rfl, rfl, fun _ => rfl⟩
theorem F6_17 : gF RX6 17 6 1 2 true true (.array .int) := ⟨RX6, TX6, 5, tyX6, by decide, rfl, inlX6, tyX6_ok, nmX6, by decide, rfl, List.mem_of_getElem? (i := 34) (by decide +kernel), rfl, rfl, rfl, fun _ => rfl⟩
theorem F6_21 : gF RX6 21 6 3 0 false true .int := ⟨RX6, TX6, 5, tyX6, by decide, rfl, inlX6, tyX6_ok, nmX6, by decide, rfl, List.mem_of_getElem? (i := 127) (by decide +kernel), rfl, rfl, rfl, fun _ => rfl⟩
theorem F6_25 : gF RX6 25 6 4 0 false true .int := ⟨RX6, TX6, 5, tyX6, by decide, rfl, inlX6, tyX6_ok, nmX6, by decide, rfl, List.mem_of_getElem? (i := 144) (by decide +kernel), rfl, rfl, rfl, fun _ => rfl⟩
theorem F6_28 : gF RX6 28 6 2 2 false true (.object "TrialStair$Step") := ⟨RX6, TX6, 5, tyX6, by decide, rfl, inlX6, tyX6_ok, nmX6, by decide, rfl, List.mem_of_getElem? (i := 128) (by decide +kernel), rfl, rfl, rfl, fun _ => rfl⟩
theorem F6_35 : gF RX6 35 7 5 2 false false (.object "TrialStair$Step") := ⟨RX7, TX7, 9, tyX7, by decide, rfl, inlX7, tyX7_ok, nmX7, by decide, rfl, List.mem_of_getElem? (i := 129) (by decide +kernel), rfl, rfl, rfl, fun h => by cases h⟩
theorem F6_42 : gF RX6 42 7 0 0 true false .int := ⟨RX7, TX7, 9, tyX7, by decide, rfl, inlX7, tyX7_ok, nmX7, by decide, rfl, List.mem_of_getElem? (i := 130) (by decide +kernel), rfl, rfl, rfl, fun h => by cases h⟩
theorem F6_49 : gF RX6 49 7 1 0 true false .int := ⟨RX7, TX7, 9, tyX7, by decide, rfl, inlX7, tyX7_ok, nmX7, by decide, rfl, List.mem_of_getElem? (i := 136) (by decide +kernel), rfl, rfl, rfl, fun h => by cases h⟩
theorem F6_52 : gF RX6 52 7 6 0 false false .int := ⟨RX7, TX7, 9, tyX7, by decide, rfl, inlX7, tyX7_ok, nmX7, by decide, rfl, List.mem_of_getElem? (i := 137) (by decide +kernel), rfl, rfl, rfl, fun h => by cases h⟩
theorem F6_55 : gF RX6 55 7 7 0 false false .int := ⟨RX7, TX7, 9, tyX7, by decide, rfl, inlX7, tyX7_ok, nmX7, by decide, rfl, List.mem_of_getElem? (i := 138) (by decide +kernel), rfl, rfl, rfl, fun h => by cases h⟩
theorem F6_58 : gF RX6 58 7 8 0 false false .int := ⟨RX7, TX7, 9, tyX7, by decide, rfl, inlX7, tyX7_ok, nmX7, by decide, rfl, List.mem_of_getElem? (i := 139) (by decide +kernel), rfl, rfl, rfl, fun h => by cases h⟩
theorem F7_13 : gF RX7 13 7 7 0 false true .int := ⟨RX7, TX7, 9, tyX7, by decide, rfl, inlX7, tyX7_ok, nmX7, by decide, rfl, List.mem_of_getElem? (i := 74) (by decide +kernel), rfl, rfl, rfl, fun _ => rfl⟩
theorem F7_16 : gF RX7 16 7 8 0 false true .int := ⟨RX7, TX7, 9, tyX7, by decide, rfl, inlX7, tyX7_ok, nmX7, by decide, rfl, List.mem_of_getElem? (i := 75) (by decide +kernel), rfl, rfl, rfl, fun _ => rfl⟩
theorem F7_19 : gF RX7 19 7 0 0 true true .int := ⟨RX7, TX7, 9, tyX7, by decide, rfl, inlX7, tyX7_ok, nmX7, by decide, rfl, List.mem_of_getElem? (i := 76) (by decide +kernel), rfl, rfl, rfl, fun _ => rfl⟩
theorem F7_22 : gF RX7 22 7 1 0 true true .int := ⟨RX7, TX7, 9, tyX7, by decide, rfl, inlX7, tyX7_ok, nmX7, by decide, rfl, List.mem_of_getElem? (i := 77) (by decide +kernel), rfl, rfl, rfl, fun _ => rfl⟩
theorem F7_25 : gF RX7 25 7 2 0 true true .int := ⟨RX7, TX7, 9, tyX7, by decide, rfl, inlX7, tyX7_ok, nmX7, by decide, rfl, List.mem_of_getElem? (i := 78) (by decide +kernel), rfl, rfl, rfl, fun _ => rfl⟩
theorem F7_28 : gF RX7 28 7 3 0 true true .int := ⟨RX7, TX7, 9, tyX7, by decide, rfl, inlX7, tyX7_ok, nmX7, by decide, rfl, List.mem_of_getElem? (i := 79) (by decide +kernel), rfl, rfl, rfl, fun _ => rfl⟩
theorem F7_31 : gF RX7 31 7 4 0 true true .int := ⟨RX7, TX7, 9, tyX7, by decide, rfl, inlX7, tyX7_ok, nmX7, by decide, rfl, List.mem_of_getElem? (i := 80) (by decide +kernel), rfl, rfl, rfl, fun _ => rfl⟩
theorem F7_7 : gF RX7 7 7 6 0 false true .int := ⟨RX7, TX7, 9, tyX7, by decide, rfl, inlX7, tyX7_ok, nmX7, by decide, rfl, List.mem_of_getElem? (i := 73) (by decide +kernel), rfl, rfl, rfl, fun _ => rfl⟩
theorem F8_15 : gF RX8 15 8 1 1 false true .long := ⟨RX8, TX8, 2, tyX8, by decide, rfl, inlX8, tyX8_ok, nmX8, by decide, rfl, List.mem_of_getElem? (i := 503) (by decide +kernel), rfl, rfl, rfl, fun _ => rfl⟩
theorem F8_9 : gF RX8 9 8 0 0 true true .int := ⟨RX8, TX8, 2, tyX8, by decide, rfl, inlX8, tyX8_ok, nmX8, by decide, rfl, List.mem_of_getElem? (i := 502) (by decide +kernel), rfl, rfl, rfl, fun _ => rfl⟩
theorem F9_116 : gF RX9 116 9 9 1 false true .long := ⟨RX9, TX9, 11, tyX9, by decide, rfl, inlX9, tyX9_ok, nmX9, by decide, rfl, List.mem_of_getElem? (i := 249) (by decide +kernel), rfl, rfl, rfl, fun _ => rfl⟩
theorem F9_134 : gF RX9 134 9 10 2 false true (.object "TrialStair$Failure") := ⟨RX9, TX9, 11, tyX9, by decide, rfl, inlX9, tyX9_ok, nmX9, by decide, rfl, List.mem_of_getElem? (i := 251) (by decide +kernel), rfl, rfl, rfl, fun _ => rfl⟩
theorem F9_138 : gF RX9 138 1 4 0 false false .int := ⟨RX1, TX1, 9, tyX1, by decide, rfl, inlX1, tyX1_ok, nmX1, by decide, rfl, List.mem_of_getElem? (i := 246) (by decide +kernel), rfl, rfl, rfl, fun h => by cases h⟩
theorem F9_14 : gF RX9 14 9 3 2 true true (.object "TrialStair$Step") := ⟨RX9, TX9, 11, tyX9, by decide, rfl, inlX9, tyX9_ok, nmX9, by decide, rfl, List.mem_of_getElem? (i := 65) (by decide +kernel), rfl, rfl, rfl, fun _ => rfl⟩
theorem F9_141 : gF RX9 141 1 5 2 false false (.object "TrialStair$Failure") := ⟨RX1, TX1, 9, tyX1, by decide, rfl, inlX1, tyX1_ok, nmX1, by decide, rfl, List.mem_of_getElem? (i := 274) (by decide +kernel), rfl, rfl, rfl, fun h => by cases h⟩
theorem F9_144 : gF RX9 144 1 1 2 true false (.object "TrialStair$Frame") := ⟨RX1, TX1, 9, tyX1, by decide, rfl, inlX1, tyX1_ok, nmX1, by decide, rfl, List.mem_of_getElem? (i := 257) (by decide +kernel), rfl, rfl, rfl, fun h => by cases h⟩
theorem F9_165 : gF RX9 165 1 2 0 true false .int := ⟨RX1, TX1, 9, tyX1, by decide, rfl, inlX1, tyX1_ok, nmX1, by decide, rfl, List.mem_of_getElem? (i := 358) (by decide +kernel), rfl, rfl, rfl, fun h => by cases h⟩
theorem F9_172 : gF RX9 172 7 0 0 true false .int := ⟨RX7, TX7, 9, tyX7, by decide, rfl, inlX7, tyX7_ok, nmX7, by decide, rfl, List.mem_of_getElem? (i := 292) (by decide +kernel), rfl, rfl, rfl, fun h => by cases h⟩
theorem F9_176 : gF RX9 176 7 3 0 true false .int := ⟨RX7, TX7, 9, tyX7, by decide, rfl, inlX7, tyX7_ok, nmX7, by decide, rfl, List.mem_of_getElem? (i := 322) (by decide +kernel), rfl, rfl, rfl, fun h => by cases h⟩
theorem F9_179 : gF RX9 179 4 7 0 false false .int := ⟨RX4, TX4, 9, tyX4, by decide, rfl, inlX4, tyX4_ok, nmX4, by decide, rfl, List.mem_of_getElem? (i := 222) (by decide +kernel), rfl, rfl, rfl, fun h => by cases h⟩
theorem F9_188 : gF RX9 188 1 0 2 true false (.object "TrialStair$Step") := ⟨RX1, TX1, 9, tyX1, by decide, rfl, inlX1, tyX1_ok, nmX1, by decide, rfl, List.mem_of_getElem? (i := 240) (by decide +kernel), rfl, rfl, rfl, fun h => by cases h⟩
theorem F9_20 : gF RX9 20 9 0 2 true true (.object "TrialStair$Script") := ⟨RX9, TX9, 11, tyX9, by decide, rfl, inlX9, tyX9_ok, nmX9, by decide, rfl, List.mem_of_getElem? (i := 66) (by decide +kernel), rfl, rfl, rfl, fun _ => rfl⟩
theorem F9_209 : gF RX9 209 1 6 0 false false .int := ⟨RX1, TX1, 9, tyX1, by decide, rfl, inlX1, tyX1_ok, nmX1, by decide, rfl, List.mem_of_getElem? (i := 247) (by decide +kernel), rfl, rfl, rfl, fun h => by cases h⟩
theorem F9_212 : gF RX9 212 1 7 1 false false .long := ⟨RX1, TX1, 9, tyX1, by decide, rfl, inlX1, tyX1_ok, nmX1, by decide, rfl, List.mem_of_getElem? (i := 248) (by decide +kernel), rfl, rfl, rfl, fun h => by cases h⟩
theorem F9_215 : gF RX9 215 1 8 2 false false (.object "TrialStair$Failure") := ⟨RX1, TX1, 9, tyX1, by decide, rfl, inlX1, tyX1_ok, nmX1, by decide, rfl, List.mem_of_getElem? (i := 250) (by decide +kernel), rfl, rfl, rfl, fun h => by cases h⟩
theorem F9_225 : gF RX9 225 7 7 0 false false .int := ⟨RX7, TX7, 9, tyX7, by decide, rfl, inlX7, tyX7_ok, nmX7, by decide, rfl, List.mem_of_getElem? (i := 252) (by decide +kernel), rfl, rfl, rfl, fun h => by cases h⟩
theorem F9_231 : gF RX9 231 7 6 0 false false .int := ⟨RX7, TX7, 9, tyX7, by decide, rfl, inlX7, tyX7_ok, nmX7, by decide, rfl, List.mem_of_getElem? (i := 266) (by decide +kernel), rfl, rfl, rfl, fun h => by cases h⟩
theorem F9_234 : gF RX9 234 0 0 0 true false .int := ⟨RX0, TX0, 2, tyX0, by decide, rfl, inlX0, tyX0_ok, nmX0, by decide, rfl, List.mem_of_getElem? (i := 267) (by decide +kernel), rfl, rfl, rfl, fun h => by cases h⟩
theorem F9_237 : gF RX9 237 4 8 0 false false .int := ⟨RX4, TX4, 9, tyX4, by decide, rfl, inlX4, tyX4_ok, nmX4, by decide, rfl, List.mem_of_getElem? (i := 273) (by decide +kernel), rfl, rfl, rfl, fun h => by cases h⟩
theorem F9_24 : gF RX9 24 9 1 2 true true (.object "TrialStair$House") := ⟨RX9, TX9, 11, tyX9, by decide, rfl, inlX9, tyX9_ok, nmX9, by decide, rfl, List.mem_of_getElem? (i := 67) (by decide +kernel), rfl, rfl, rfl, fun _ => rfl⟩
theorem F9_255 : gF RX9 255 4 4 2 false false (.object "TrialStair$Failure") := ⟨RX4, TX4, 9, tyX4, by decide, rfl, inlX4, tyX4_ok, nmX4, by decide, rfl, List.mem_of_getElem? (i := 327) (by decide +kernel), rfl, rfl, rfl, fun h => by cases h⟩
theorem F9_256 : gF RX9 256 4 3 1 false false .long := ⟨RX4, TX4, 9, tyX4, by decide, rfl, inlX4, tyX4_ok, nmX4, by decide, rfl, List.mem_of_getElem? (i := 328) (by decide +kernel), rfl, rfl, rfl, fun h => by cases h⟩
theorem F9_28 : gF RX9 28 9 2 2 true true (.object "TrialStair$Report") := ⟨RX9, TX9, 11, tyX9, by decide, rfl, inlX9, tyX9_ok, nmX9, by decide, rfl, List.mem_of_getElem? (i := 68) (by decide +kernel), rfl, rfl, rfl, fun _ => rfl⟩
theorem F9_37 : gF RX9 37 9 7 0 false true .int := ⟨RX9, TX9, 11, tyX9, by decide, rfl, inlX9, tyX9_ok, nmX9, by decide, rfl, List.mem_of_getElem? (i := 176) (by decide +kernel), rfl, rfl, rfl, fun _ => rfl⟩
theorem F9_41 : gF RX9 41 9 5 0 false true .int := ⟨RX9, TX9, 11, tyX9, by decide, rfl, inlX9, tyX9_ok, nmX9, by decide, rfl, List.mem_of_getElem? (i := 177) (by decide +kernel), rfl, rfl, rfl, fun _ => rfl⟩
theorem F9_44 : gF RX9 44 9 4 2 false true (.object "TrialStair$Frame") := ⟨RX9, TX9, 11, tyX9, by decide, rfl, inlX9, tyX9_ok, nmX9, by decide, rfl, List.mem_of_getElem? (i := 178) (by decide +kernel), rfl, rfl, rfl, fun _ => rfl⟩
theorem F9_53 : gF RX9 53 9 6 0 false true .int := ⟨RX9, TX9, 11, tyX9, by decide, rfl, inlX9, tyX9_ok, nmX9, by decide, rfl, List.mem_of_getElem? (i := 180) (by decide +kernel), rfl, rfl, rfl, fun _ => rfl⟩
theorem F9_56 : gF RX9 56 1 3 0 false false .int := ⟨RX1, TX1, 9, tyX1, by decide, rfl, inlX1, tyX1_ok, nmX1, by decide, rfl, List.mem_of_getElem? (i := 181) (by decide +kernel), rfl, rfl, rfl, fun h => by cases h⟩
theorem F9_67 : gF RX9 67 9 8 0 false true .int := ⟨RX9, TX9, 11, tyX9, by decide, rfl, inlX9, tyX9_ok, nmX9, by decide, rfl, List.mem_of_getElem? (i := 182) (by decide +kernel), rfl, rfl, rfl, fun _ => rfl⟩
theorem F9_86 : gF RX9 86 4 2 0 false false .int := ⟨RX4, TX4, 9, tyX4, by decide, rfl, inlX4, tyX4_ok, nmX4, by decide, rfl, List.mem_of_getElem? (i := 231) (by decide +kernel), rfl, rfl, rfl, fun h => by cases h⟩
theorem F9_89 : gF RX9 89 7 1 0 true false .int := ⟨RX7, TX7, 9, tyX7, by decide, rfl, inlX7, tyX7_ok, nmX7, by decide, rfl, List.mem_of_getElem? (i := 241) (by decide +kernel), rfl, rfl, rfl, fun h => by cases h⟩
theorem F9_92 : gF RX9 92 7 2 0 true false .int := ⟨RX7, TX7, 9, tyX7, by decide, rfl, inlX7, tyX7_ok, nmX7, by decide, rfl, List.mem_of_getElem? (i := 268) (by decide +kernel), rfl, rfl, rfl, fun h => by cases h⟩
theorem N10_16 : gN RX10 16 3 4 := ⟨RX3, TX3, 4, tyX3, by decide, rfl, inlX3, tyX3_ok, (List.mem_of_getElem? (i := 16) (by decide +kernel)), (List.mem_of_getElem? (i := 17) (by decide +kernel)), (List.mem_of_getElem? (i := 18) (by decide +kernel)), rfl, lt_s (lt_s (lt_s (lt_s (lt_0) ⟨2, rfl, rfl⟩) ⟨2, rfl, rfl⟩) ⟨2, rfl, rfl⟩) ⟨2, rfl, rfl⟩⟩
theorem N10_23 : gN RX10 23 4 9 := ⟨RX4, TX4, 9, tyX4, by decide, rfl, inlX4, tyX4_ok, (List.mem_of_getElem? (i := 20) (by decide +kernel)), (List.mem_of_getElem? (i := 21) (by decide +kernel)), (List.mem_of_getElem? (i := 22) (by decide +kernel)), rfl, lt_s (lt_s (lt_s (lt_s (lt_s (lt_s (lt_s (lt_s (lt_s (lt_0) ⟨2, rfl, rfl⟩) ⟨2, rfl, rfl⟩) ⟨0, rfl, rfl⟩) ⟨1, rfl, rfl⟩) ⟨2, rfl, rfl⟩) ⟨0, rfl, rfl⟩) ⟨0, rfl, rfl⟩) ⟨0, rfl, rfl⟩) ⟨0, rfl, rfl⟩⟩
theorem N10_30 : gN RX10 30 9 11 := ⟨RX9, TX9, 11, tyX9, by decide, rfl, inlX9, tyX9_ok, (List.mem_of_getElem? (i := 24) (by decide +kernel)), (List.mem_of_getElem? (i := 25) (by decide +kernel)), (List.mem_of_getElem? (i := 26) (by decide +kernel)), rfl, lt_s (lt_s (lt_s (lt_s (lt_s (lt_s (lt_s (lt_s (lt_s (lt_s (lt_s (lt_0) ⟨2, rfl, rfl⟩) ⟨2, rfl, rfl⟩) ⟨2, rfl, rfl⟩) ⟨2, rfl, rfl⟩) ⟨2, rfl, rfl⟩) ⟨0, rfl, rfl⟩) ⟨0, rfl, rfl⟩) ⟨0, rfl, rfl⟩) ⟨0, rfl, rfl⟩) ⟨1, rfl, rfl⟩) ⟨2, rfl, rfl⟩⟩
theorem N10_7 : gN RX10 7 6 5 := ⟨RX6, TX6, 5, tyX6, by decide, rfl, inlX6, tyX6_ok, (List.mem_of_getElem? (i := 12) (by decide +kernel)), (List.mem_of_getElem? (i := 13) (by decide +kernel)), (List.mem_of_getElem? (i := 14) (by decide +kernel)), rfl, lt_s (lt_s (lt_s (lt_s (lt_s (lt_0) ⟨2, rfl, rfl⟩) ⟨2, rfl, rfl⟩) ⟨2, rfl, rfl⟩) ⟨0, rfl, rfl⟩) ⟨0, rfl, rfl⟩⟩
theorem N3_15 : gN RX3 15 8 2 := ⟨RX8, TX8, 2, tyX8, by decide, rfl, inlX8, tyX8_ok, (List.mem_of_getElem? (i := 40) (by decide +kernel)), (List.mem_of_getElem? (i := 496) (by decide +kernel)), (List.mem_of_getElem? (i := 497) (by decide +kernel)), rfl, lt_s (lt_s (lt_0) ⟨0, rfl, rfl⟩) ⟨1, rfl, rfl⟩⟩
theorem N3_21 : gN RX3 21 5 5 := ⟨RX5, TX5, 5, tyX5, by decide, rfl, inlX5, tyX5_ok, (List.mem_of_getElem? (i := 42) (by decide +kernel)), (List.mem_of_getElem? (i := 391) (by decide +kernel)), (List.mem_of_getElem? (i := 392) (by decide +kernel)), rfl, lt_s (lt_s (lt_s (lt_s (lt_s (lt_0) ⟨0, rfl, rfl⟩) ⟨2, rfl, rfl⟩) ⟨2, rfl, rfl⟩) ⟨0, rfl, rfl⟩) ⟨0, rfl, rfl⟩⟩
theorem N3_27 : gN RX3 27 2 4 := ⟨RX2, TX2, 4, tyX2, by decide, rfl, inlX2, tyX2_ok, (List.mem_of_getElem? (i := 44) (by decide +kernel)), (List.mem_of_getElem? (i := 45) (by decide +kernel)), (List.mem_of_getElem? (i := 46) (by decide +kernel)), rfl, lt_s (lt_s (lt_s (lt_s (lt_0) ⟨2, rfl, rfl⟩) ⟨0, rfl, rfl⟩) ⟨0, rfl, rfl⟩) ⟨0, rfl, rfl⟩⟩
theorem N6_9 : gN RX6 9 7 9 := ⟨RX7, TX7, 9, tyX7, by decide, rfl, inlX7, tyX7_ok, (List.mem_of_getElem? (i := 31) (by decide +kernel)), (List.mem_of_getElem? (i := 63) (by decide +kernel)), (List.mem_of_getElem? (i := 64) (by decide +kernel)), rfl, lt_s (lt_s (lt_s (lt_s (lt_s (lt_s (lt_s (lt_s (lt_s (lt_0) ⟨0, rfl, rfl⟩) ⟨0, rfl, rfl⟩) ⟨0, rfl, rfl⟩) ⟨0, rfl, rfl⟩) ⟨0, rfl, rfl⟩) ⟨2, rfl, rfl⟩) ⟨0, rfl, rfl⟩) ⟨0, rfl, rfl⟩) ⟨0, rfl, rfl⟩⟩
theorem N9_130 : gN RX9 130 0 2 := ⟨RX0, TX0, 2, tyX0, by decide, rfl, inlX0, tyX0_ok, (List.mem_of_getElem? (i := 341) (by decide +kernel)), (List.mem_of_getElem? (i := 342) (by decide +kernel)), (List.mem_of_getElem? (i := 343) (by decide +kernel)), rfl, lt_s (lt_s (lt_0) ⟨0, rfl, rfl⟩) ⟨2, rfl, rfl⟩⟩
theorem N9_57 : gN RX9 57 1 9 := ⟨RX1, TX1, 9, tyX1, by decide, rfl, inlX1, tyX1_ok, (List.mem_of_getElem? (i := 197) (by decide +kernel)), (List.mem_of_getElem? (i := 198) (by decide +kernel)), (List.mem_of_getElem? (i := 199) (by decide +kernel)), rfl, lt_s (lt_s (lt_s (lt_s (lt_s (lt_s (lt_s (lt_s (lt_s (lt_0) ⟨2, rfl, rfl⟩) ⟨2, rfl, rfl⟩) ⟨0, rfl, rfl⟩) ⟨0, rfl, rfl⟩) ⟨0, rfl, rfl⟩) ⟨2, rfl, rfl⟩) ⟨0, rfl, rfl⟩) ⟨1, rfl, rfl⟩) ⟨2, rfl, rfl⟩⟩
theorem N9_9 : gN RX9 9 7 9 := ⟨RX7, TX7, 9, tyX7, by decide, rfl, inlX7, tyX7_ok, (List.mem_of_getElem? (i := 62) (by decide +kernel)), (List.mem_of_getElem? (i := 63) (by decide +kernel)), (List.mem_of_getElem? (i := 64) (by decide +kernel)), rfl, lt_s (lt_s (lt_s (lt_s (lt_s (lt_s (lt_s (lt_s (lt_s (lt_0) ⟨0, rfl, rfl⟩) ⟨0, rfl, rfl⟩) ⟨0, rfl, rfl⟩) ⟨0, rfl, rfl⟩) ⟨0, rfl, rfl⟩) ⟨2, rfl, rfl⟩) ⟨0, rfl, rfl⟩) ⟨0, rfl, rfl⟩) ⟨0, rfl, rfl⟩⟩
theorem M10_103 : gMV RX10 103 RX4 yX4_countCauses cX4_countCauses 3 (some .int) 0 := ⟨⟨(List.mem_of_getElem? (i := 784) (by decide +kernel)), (List.mem_of_getElem? (i := 22) (by decide +kernel)), (List.mem_of_getElem? (i := 787) (by decide +kernel)), ⟨by decide +kernel, by decide +kernel, by decide +kernel⟩⟩, (List.mem_of_getElem? (i := 785) (by decide +kernel)), (List.mem_of_getElem? (i := 786) (by decide +kernel))⟩
theorem M10_110 : gMS RX10 110 yX10_isOfEight cX10_isOfEight 1 (some .boolean) 1 := ⟨⟨(List.mem_of_getElem? (i := 801) (by decide +kernel)), (List.mem_of_getElem? (i := 2) (by decide +kernel)), (List.mem_of_getElem? (i := 803) (by decide +kernel)), ⟨by decide +kernel, by decide +kernel, by decide +kernel⟩⟩, (List.mem_of_getElem? (i := 802) (by decide +kernel))⟩
theorem M10_113 : gMV RX10 113 RX3 yX3_numberOf cX3_numberOf 2 (some .long) 1 := ⟨⟨(List.mem_of_getElem? (i := 804) (by decide +kernel)), (List.mem_of_getElem? (i := 18) (by decide +kernel)), (List.mem_of_getElem? (i := 313) (by decide +kernel)), ⟨by decide +kernel, by decide +kernel, by decide +kernel⟩⟩, (List.mem_of_getElem? (i := 311) (by decide +kernel)), (List.mem_of_getElem? (i := 312) (by decide +kernel))⟩
theorem M10_117 : gMV RX10 117 RX3 yX3_thingOf cX3_thingOf 2 (some (.object "TrialStair$Thing")) 1 := ⟨⟨(List.mem_of_getElem? (i := 813) (by decide +kernel)), (List.mem_of_getElem? (i := 18) (by decide +kernel)), (List.mem_of_getElem? (i := 445) (by decide +kernel)), ⟨by decide +kernel, by decide +kernel, by decide +kernel⟩⟩, (List.mem_of_getElem? (i := 443) (by decide +kernel)), (List.mem_of_getElem? (i := 444) (by decide +kernel))⟩
theorem M10_121 : gMS RX10 121 yX10_kindOf cX10_kindOf 1 (some .int) 1 := ⟨⟨(List.mem_of_getElem? (i := 814) (by decide +kernel)), (List.mem_of_getElem? (i := 2) (by decide +kernel)), (List.mem_of_getElem? (i := 816) (by decide +kernel)), ⟨by decide +kernel, by decide +kernel, by decide +kernel⟩⟩, (List.mem_of_getElem? (i := 815) (by decide +kernel))⟩
theorem M10_130 : gMV RX10 130 RX3 yX3_rowOf cX3_rowOf 3 (some (.object "TrialStair$Row")) 2 := ⟨⟨(List.mem_of_getElem? (i := 836) (by decide +kernel)), (List.mem_of_getElem? (i := 18) (by decide +kernel)), (List.mem_of_getElem? (i := 400) (by decide +kernel)), ⟨by decide +kernel, by decide +kernel, by decide +kernel⟩⟩, (List.mem_of_getElem? (i := 398) (by decide +kernel)), (List.mem_of_getElem? (i := 399) (by decide +kernel))⟩
theorem M10_139 : gMV RX10 139 RX5 yX5_has cX5_has 2 (some .boolean) 1 := ⟨⟨(List.mem_of_getElem? (i := 845) (by decide +kernel)), (List.mem_of_getElem? (i := 392) (by decide +kernel)), (List.mem_of_getElem? (i := 427) (by decide +kernel)), ⟨by decide +kernel, by decide +kernel, by decide +kernel⟩⟩, (List.mem_of_getElem? (i := 425) (by decide +kernel)), (List.mem_of_getElem? (i := 426) (by decide +kernel))⟩
theorem M10_142 : gMV RX10 142 RX5 yX5_thingAt cX5_thingAt 2 (some (.object "TrialStair$Thing")) 1 := ⟨⟨(List.mem_of_getElem? (i := 846) (by decide +kernel)), (List.mem_of_getElem? (i := 392) (by decide +kernel)), (List.mem_of_getElem? (i := 435) (by decide +kernel)), ⟨by decide +kernel, by decide +kernel, by decide +kernel⟩⟩, (List.mem_of_getElem? (i := 433) (by decide +kernel)), (List.mem_of_getElem? (i := 434) (by decide +kernel))⟩
theorem M10_145 : gMV RX10 145 RX5 yX5_numberAt cX5_numberAt 2 (some .long) 1 := ⟨⟨(List.mem_of_getElem? (i := 847) (by decide +kernel)), (List.mem_of_getElem? (i := 392) (by decide +kernel)), (List.mem_of_getElem? (i := 453) (by decide +kernel)), ⟨by decide +kernel, by decide +kernel, by decide +kernel⟩⟩, (List.mem_of_getElem? (i := 451) (by decide +kernel)), (List.mem_of_getElem? (i := 452) (by decide +kernel))⟩
theorem M10_152 : gMV RX10 152 RX2 yX2_has cX2_has 3 (some .boolean) 2 := ⟨⟨(List.mem_of_getElem? (i := 858) (by decide +kernel)), (List.mem_of_getElem? (i := 46) (by decide +kernel)), (List.mem_of_getElem? (i := 480) (by decide +kernel)), ⟨by decide +kernel, by decide +kernel, by decide +kernel⟩⟩, (List.mem_of_getElem? (i := 478) (by decide +kernel)), (List.mem_of_getElem? (i := 479) (by decide +kernel))⟩
theorem M10_157 : gMV RX10 157 RX2 yX2_cellAt cX2_cellAt 4 (some .int) 2 := ⟨⟨(List.mem_of_getElem? (i := 859) (by decide +kernel)), (List.mem_of_getElem? (i := 46) (by decide +kernel)), (List.mem_of_getElem? (i := 484) (by decide +kernel)), ⟨by decide +kernel, by decide +kernel, by decide +kernel⟩⟩, (List.mem_of_getElem? (i := 482) (by decide +kernel)), (List.mem_of_getElem? (i := 483) (by decide +kernel))⟩
theorem M10_18 : gMN RX10 18 yX3_init cX3_init 1 0 := ⟨(List.mem_of_getElem? (i := 18) (by decide +kernel)), (List.mem_of_getElem? (i := 36) (by decide +kernel)), ⟨by decide +kernel, by decide +kernel, by decide +kernel⟩, rfl, (List.mem_of_getElem? (i := 35) (by decide +kernel))⟩
theorem M10_25 : gMN RX10 25 yX4_init cX4_init 1 0 := ⟨(List.mem_of_getElem? (i := 22) (by decide +kernel)), (List.mem_of_getElem? (i := 53) (by decide +kernel)), ⟨by decide +kernel, by decide +kernel, by decide +kernel⟩, rfl, (List.mem_of_getElem? (i := 52) (by decide +kernel))⟩
theorem M10_32 : gMI RX10 32 yX9_init cX9_init 4 3 := ⟨⟨(List.mem_of_getElem? (i := 58) (by decide +kernel)), (List.mem_of_getElem? (i := 26) (by decide +kernel)), (List.mem_of_getElem? (i := 60) (by decide +kernel)), ⟨by decide +kernel, by decide +kernel, by decide +kernel⟩⟩, rfl, (List.mem_of_getElem? (i := 59) (by decide +kernel))⟩
theorem M10_43 : gMV RX10 43 RX6 yX6_add cX6_add 6 none 4 := ⟨⟨(List.mem_of_getElem? (i := 123) (by decide +kernel)), (List.mem_of_getElem? (i := 14) (by decide +kernel)), (List.mem_of_getElem? (i := 126) (by decide +kernel)), ⟨by decide +kernel, by decide +kernel, by decide +kernel⟩⟩, (List.mem_of_getElem? (i := 124) (by decide +kernel)), (List.mem_of_getElem? (i := 125) (by decide +kernel))⟩
theorem M10_47 : gMV RX10 47 RX6 yX6_clear cX6_clear 1 none 0 := ⟨⟨(List.mem_of_getElem? (i := 154) (by decide +kernel)), (List.mem_of_getElem? (i := 14) (by decide +kernel)), (List.mem_of_getElem? (i := 157) (by decide +kernel)), ⟨by decide +kernel, by decide +kernel, by decide +kernel⟩⟩, (List.mem_of_getElem? (i := 155) (by decide +kernel)), (List.mem_of_getElem? (i := 156) (by decide +kernel))⟩
theorem M10_50 : gMV RX10 50 RX6 yX6_hasRoutine cX6_hasRoutine 2 (some .boolean) 1 := ⟨⟨(List.mem_of_getElem? (i := 168) (by decide +kernel)), (List.mem_of_getElem? (i := 14) (by decide +kernel)), (List.mem_of_getElem? (i := 171) (by decide +kernel)), ⟨by decide +kernel, by decide +kernel, by decide +kernel⟩⟩, (List.mem_of_getElem? (i := 169) (by decide +kernel)), (List.mem_of_getElem? (i := 170) (by decide +kernel))⟩
theorem M10_57 : gMV RX10 57 RX9 yX9_workRun cX9_workRun 6 (some .int) 2 := ⟨⟨(List.mem_of_getElem? (i := 172) (by decide +kernel)), (List.mem_of_getElem? (i := 26) (by decide +kernel)), (List.mem_of_getElem? (i := 175) (by decide +kernel)), ⟨by decide +kernel, by decide +kernel, by decide +kernel⟩⟩, (List.mem_of_getElem? (i := 173) (by decide +kernel)), (List.mem_of_getElem? (i := 174) (by decide +kernel))⟩
theorem M10_9 : gMN RX10 9 yX6_init cX6_init 1 0 := ⟨(List.mem_of_getElem? (i := 14) (by decide +kernel)), (List.mem_of_getElem? (i := 29) (by decide +kernel)), ⟨by decide +kernel, by decide +kernel, by decide +kernel⟩, rfl, (List.mem_of_getElem? (i := 28) (by decide +kernel))⟩
theorem M11_115 : gMV RX11 115 RX11 yX11_isMark cX11_isMark 2 (some .boolean) 1 := ⟨⟨(List.mem_of_getElem? (i := 549) (by decide +kernel)), (List.mem_of_getElem? (i := 5) (by decide +kernel)), (List.mem_of_getElem? (i := 552) (by decide +kernel)), ⟨by decide +kernel, by decide +kernel, by decide +kernel⟩⟩, (List.mem_of_getElem? (i := 550) (by decide +kernel)), (List.mem_of_getElem? (i := 551) (by decide +kernel))⟩
theorem M11_119 : gMV RX11 119 RX11 yX11_layOutRoutine cX11_layOutRoutine 6 none 2 := ⟨⟨(List.mem_of_getElem? (i := 553) (by decide +kernel)), (List.mem_of_getElem? (i := 5) (by decide +kernel)), (List.mem_of_getElem? (i := 556) (by decide +kernel)), ⟨by decide +kernel, by decide +kernel, by decide +kernel⟩⟩, (List.mem_of_getElem? (i := 554) (by decide +kernel)), (List.mem_of_getElem? (i := 555) (by decide +kernel))⟩
theorem M11_123 : gMV RX11 123 RX11 yX11_belongs cX11_belongs 6 (some .boolean) 3 := ⟨⟨(List.mem_of_getElem? (i := 557) (by decide +kernel)), (List.mem_of_getElem? (i := 5) (by decide +kernel)), (List.mem_of_getElem? (i := 560) (by decide +kernel)), ⟨by decide +kernel, by decide +kernel, by decide +kernel⟩⟩, (List.mem_of_getElem? (i := 558) (by decide +kernel)), (List.mem_of_getElem? (i := 559) (by decide +kernel))⟩
theorem M11_127 : gMV RX11 127 RX11 yX11_layOut cX11_layOut 2 none 0 := ⟨⟨(List.mem_of_getElem? (i := 545) (by decide +kernel)), (List.mem_of_getElem? (i := 5) (by decide +kernel)), (List.mem_of_getElem? (i := 548) (by decide +kernel)), ⟨by decide +kernel, by decide +kernel, by decide +kernel⟩⟩, (List.mem_of_getElem? (i := 546) (by decide +kernel)), (List.mem_of_getElem? (i := 547) (by decide +kernel))⟩
theorem M11_133 : gMV RX11 133 RX11 yX11_begin cX11_begin 2 none 1 := ⟨⟨(List.mem_of_getElem? (i := 561) (by decide +kernel)), (List.mem_of_getElem? (i := 5) (by decide +kernel)), (List.mem_of_getElem? (i := 564) (by decide +kernel)), ⟨by decide +kernel, by decide +kernel, by decide +kernel⟩⟩, (List.mem_of_getElem? (i := 562) (by decide +kernel)), (List.mem_of_getElem? (i := 563) (by decide +kernel))⟩
theorem M11_137 : gMV RX11 137 RX11 yX11_enter cX11_enter 3 none 2 := ⟨⟨(List.mem_of_getElem? (i := 574) (by decide +kernel)), (List.mem_of_getElem? (i := 5) (by decide +kernel)), (List.mem_of_getElem? (i := 577) (by decide +kernel)), ⟨by decide +kernel, by decide +kernel, by decide +kernel⟩⟩, (List.mem_of_getElem? (i := 575) (by decide +kernel)), (List.mem_of_getElem? (i := 576) (by decide +kernel))⟩
theorem M11_144 : gMV RX11 144 RX11 yX11_goes cX11_goes 4 none 0 := ⟨⟨(List.mem_of_getElem? (i := 587) (by decide +kernel)), (List.mem_of_getElem? (i := 5) (by decide +kernel)), (List.mem_of_getElem? (i := 590) (by decide +kernel)), ⟨by decide +kernel, by decide +kernel, by decide +kernel⟩⟩, (List.mem_of_getElem? (i := 588) (by decide +kernel)), (List.mem_of_getElem? (i := 589) (by decide +kernel))⟩
theorem M11_181 : gMV RX11 181 RX11 yX11_stop cX11_stop 2 none 1 := ⟨⟨(List.mem_of_getElem? (i := 583) (by decide +kernel)), (List.mem_of_getElem? (i := 5) (by decide +kernel)), (List.mem_of_getElem? (i := 586) (by decide +kernel)), ⟨by decide +kernel, by decide +kernel, by decide +kernel⟩⟩, (List.mem_of_getElem? (i := 584) (by decide +kernel)), (List.mem_of_getElem? (i := 585) (by decide +kernel))⟩
theorem M11_184 : gMV RX11 184 RX11 yX11_opens cX11_opens 4 (some .boolean) 3 := ⟨⟨(List.mem_of_getElem? (i := 579) (by decide +kernel)), (List.mem_of_getElem? (i := 5) (by decide +kernel)), (List.mem_of_getElem? (i := 582) (by decide +kernel)), ⟨by decide +kernel, by decide +kernel, by decide +kernel⟩⟩, (List.mem_of_getElem? (i := 580) (by decide +kernel)), (List.mem_of_getElem? (i := 581) (by decide +kernel))⟩
theorem M11_190 : gMV RX11 190 RX11 yX11_partEnd cX11_partEnd 4 (some .int) 0 := ⟨⟨(List.mem_of_getElem? (i := 593) (by decide +kernel)), (List.mem_of_getElem? (i := 5) (by decide +kernel)), (List.mem_of_getElem? (i := 596) (by decide +kernel)), ⟨by decide +kernel, by decide +kernel, by decide +kernel⟩⟩, (List.mem_of_getElem? (i := 594) (by decide +kernel)), (List.mem_of_getElem? (i := 595) (by decide +kernel))⟩
theorem M11_197 : gMV RX11 197 RX11 yX11_comes cX11_comes 5 none 0 := ⟨⟨(List.mem_of_getElem? (i := 597) (by decide +kernel)), (List.mem_of_getElem? (i := 5) (by decide +kernel)), (List.mem_of_getElem? (i := 600) (by decide +kernel)), ⟨by decide +kernel, by decide +kernel, by decide +kernel⟩⟩, (List.mem_of_getElem? (i := 598) (by decide +kernel)), (List.mem_of_getElem? (i := 599) (by decide +kernel))⟩
theorem M11_200 : gMV RX11 200 RX11 yX11_takes cX11_takes 1 (some .boolean) 0 := ⟨⟨(List.mem_of_getElem? (i := 621) (by decide +kernel)), (List.mem_of_getElem? (i := 5) (by decide +kernel)), (List.mem_of_getElem? (i := 624) (by decide +kernel)), ⟨by decide +kernel, by decide +kernel, by decide +kernel⟩⟩, (List.mem_of_getElem? (i := 622) (by decide +kernel)), (List.mem_of_getElem? (i := 623) (by decide +kernel))⟩
theorem M11_204 : gMV RX11 204 RX11 yX11_reckons cX11_reckons 7 (some .int) 1 := ⟨⟨(List.mem_of_getElem? (i := 629) (by decide +kernel)), (List.mem_of_getElem? (i := 5) (by decide +kernel)), (List.mem_of_getElem? (i := 632) (by decide +kernel)), ⟨by decide +kernel, by decide +kernel, by decide +kernel⟩⟩, (List.mem_of_getElem? (i := 630) (by decide +kernel)), (List.mem_of_getElem? (i := 631) (by decide +kernel))⟩
theorem M11_208 : gMV RX11 208 RX11 yX11_rows cX11_rows 5 (some .int) 1 := ⟨⟨(List.mem_of_getElem? (i := 638) (by decide +kernel)), (List.mem_of_getElem? (i := 5) (by decide +kernel)), (List.mem_of_getElem? (i := 641) (by decide +kernel)), ⟨by decide +kernel, by decide +kernel, by decide +kernel⟩⟩, (List.mem_of_getElem? (i := 639) (by decide +kernel)), (List.mem_of_getElem? (i := 640) (by decide +kernel))⟩
theorem M11_211 : gMV RX11 211 RX11 yX11_withThings cX11_withThings 4 (some .int) 1 := ⟨⟨(List.mem_of_getElem? (i := 673) (by decide +kernel)), (List.mem_of_getElem? (i := 5) (by decide +kernel)), (List.mem_of_getElem? (i := 676) (by decide +kernel)), ⟨by decide +kernel, by decide +kernel, by decide +kernel⟩⟩, (List.mem_of_getElem? (i := 674) (by decide +kernel)), (List.mem_of_getElem? (i := 675) (by decide +kernel))⟩
theorem M11_214 : gMV RX11 214 RX11 yX11_throwsAt cX11_throwsAt 4 (some .int) 1 := ⟨⟨(List.mem_of_getElem? (i := 692) (by decide +kernel)), (List.mem_of_getElem? (i := 5) (by decide +kernel)), (List.mem_of_getElem? (i := 695) (by decide +kernel)), ⟨by decide +kernel, by decide +kernel, by decide +kernel⟩⟩, (List.mem_of_getElem? (i := 693) (by decide +kernel)), (List.mem_of_getElem? (i := 694) (by decide +kernel))⟩
theorem M11_217 : gMV RX11 217 RX11 yX11_goOn cX11_goOn 3 none 2 := ⟨⟨(List.mem_of_getElem? (i := 700) (by decide +kernel)), (List.mem_of_getElem? (i := 5) (by decide +kernel)), (List.mem_of_getElem? (i := 703) (by decide +kernel)), ⟨by decide +kernel, by decide +kernel, by decide +kernel⟩⟩, (List.mem_of_getElem? (i := 701) (by decide +kernel)), (List.mem_of_getElem? (i := 702) (by decide +kernel))⟩
theorem M11_220 : gMV RX11 220 RX11 yX11_block cX11_block 4 none 2 := ⟨⟨(List.mem_of_getElem? (i := 704) (by decide +kernel)), (List.mem_of_getElem? (i := 5) (by decide +kernel)), (List.mem_of_getElem? (i := 707) (by decide +kernel)), ⟨by decide +kernel, by decide +kernel, by decide +kernel⟩⟩, (List.mem_of_getElem? (i := 705) (by decide +kernel)), (List.mem_of_getElem? (i := 706) (by decide +kernel))⟩
theorem M11_223 : gMV RX11 223 RX11 yX11_call cX11_call 3 none 1 := ⟨⟨(List.mem_of_getElem? (i := 708) (by decide +kernel)), (List.mem_of_getElem? (i := 5) (by decide +kernel)), (List.mem_of_getElem? (i := 711) (by decide +kernel)), ⟨by decide +kernel, by decide +kernel, by decide +kernel⟩⟩, (List.mem_of_getElem? (i := 709) (by decide +kernel)), (List.mem_of_getElem? (i := 710) (by decide +kernel))⟩
theorem M11_229 : gMV RX11 229 RX11 yX11_makeFailure cX11_makeFailure 3 none 2 := ⟨⟨(List.mem_of_getElem? (i := 696) (by decide +kernel)), (List.mem_of_getElem? (i := 5) (by decide +kernel)), (List.mem_of_getElem? (i := 699) (by decide +kernel)), ⟨by decide +kernel, by decide +kernel, by decide +kernel⟩⟩, (List.mem_of_getElem? (i := 697) (by decide +kernel)), (List.mem_of_getElem? (i := 698) (by decide +kernel))⟩
theorem M11_235 : gMV RX11 235 RX11 yX11_looks cX11_looks 3 none 1 := ⟨⟨(List.mem_of_getElem? (i := 625) (by decide +kernel)), (List.mem_of_getElem? (i := 5) (by decide +kernel)), (List.mem_of_getElem? (i := 628) (by decide +kernel)), ⟨by decide +kernel, by decide +kernel, by decide +kernel⟩⟩, (List.mem_of_getElem? (i := 626) (by decide +kernel)), (List.mem_of_getElem? (i := 627) (by decide +kernel))⟩
theorem M11_238 : gMV RX11 238 RX11 yX11_comesOfRoutine cX11_comesOfRoutine 3 (some .boolean) 1 := ⟨⟨(List.mem_of_getElem? (i := 601) (by decide +kernel)), (List.mem_of_getElem? (i := 5) (by decide +kernel)), (List.mem_of_getElem? (i := 604) (by decide +kernel)), ⟨by decide +kernel, by decide +kernel, by decide +kernel⟩⟩, (List.mem_of_getElem? (i := 602) (by decide +kernel)), (List.mem_of_getElem? (i := 603) (by decide +kernel))⟩
theorem M11_241 : gMV RX11 241 RX11 yX11_comesOfTrial cX11_comesOfTrial 3 (some .boolean) 1 := ⟨⟨(List.mem_of_getElem? (i := 606) (by decide +kernel)), (List.mem_of_getElem? (i := 5) (by decide +kernel)), (List.mem_of_getElem? (i := 609) (by decide +kernel)), ⟨by decide +kernel, by decide +kernel, by decide +kernel⟩⟩, (List.mem_of_getElem? (i := 607) (by decide +kernel)), (List.mem_of_getElem? (i := 608) (by decide +kernel))⟩
theorem M11_244 : gMV RX11 244 RX11 yX11_comesOfLoop cX11_comesOfLoop 3 (some .boolean) 1 := ⟨⟨(List.mem_of_getElem? (i := 617) (by decide +kernel)), (List.mem_of_getElem? (i := 5) (by decide +kernel)), (List.mem_of_getElem? (i := 620) (by decide +kernel)), ⟨by decide +kernel, by decide +kernel, by decide +kernel⟩⟩, (List.mem_of_getElem? (i := 618) (by decide +kernel)), (List.mem_of_getElem? (i := 619) (by decide +kernel))⟩
theorem M11_247 : gMV RX11 247 RX11 yX11_over cX11_over 2 (some .boolean) 1 := ⟨⟨(List.mem_of_getElem? (i := 610) (by decide +kernel)), (List.mem_of_getElem? (i := 5) (by decide +kernel)), (List.mem_of_getElem? (i := 613) (by decide +kernel)), ⟨by decide +kernel, by decide +kernel, by decide +kernel⟩⟩, (List.mem_of_getElem? (i := 611) (by decide +kernel)), (List.mem_of_getElem? (i := 612) (by decide +kernel))⟩
theorem M11_250 : gMS RX11 250 yX11_isTaken cX11_isTaken 4 (some .boolean) 2 := ⟨⟨(List.mem_of_getElem? (i := 614) (by decide +kernel)), (List.mem_of_getElem? (i := 5) (by decide +kernel)), (List.mem_of_getElem? (i := 616) (by decide +kernel)), ⟨by decide +kernel, by decide +kernel, by decide +kernel⟩⟩, (List.mem_of_getElem? (i := 615) (by decide +kernel))⟩
theorem M11_254 : gMV RX11 254 RX11 yX11_divides cX11_divides 9 (some .int) 4 := ⟨⟨(List.mem_of_getElem? (i := 633) (by decide +kernel)), (List.mem_of_getElem? (i := 5) (by decide +kernel)), (List.mem_of_getElem? (i := 636) (by decide +kernel)), ⟨by decide +kernel, by decide +kernel, by decide +kernel⟩⟩, (List.mem_of_getElem? (i := 634) (by decide +kernel)), (List.mem_of_getElem? (i := 635) (by decide +kernel))⟩
theorem M11_260 : gMV RX11 260 RX11 yX11_grids cX11_grids 5 (some .int) 1 := ⟨⟨(List.mem_of_getElem? (i := 642) (by decide +kernel)), (List.mem_of_getElem? (i := 5) (by decide +kernel)), (List.mem_of_getElem? (i := 645) (by decide +kernel)), ⟨by decide +kernel, by decide +kernel, by decide +kernel⟩⟩, (List.mem_of_getElem? (i := 643) (by decide +kernel)), (List.mem_of_getElem? (i := 644) (by decide +kernel))⟩
theorem M11_263 : gMV RX11 263 RX11 yX11_makes cX11_makes 5 (some .int) 2 := ⟨⟨(List.mem_of_getElem? (i := 653) (by decide +kernel)), (List.mem_of_getElem? (i := 5) (by decide +kernel)), (List.mem_of_getElem? (i := 656) (by decide +kernel)), ⟨by decide +kernel, by decide +kernel, by decide +kernel⟩⟩, (List.mem_of_getElem? (i := 654) (by decide +kernel)), (List.mem_of_getElem? (i := 655) (by decide +kernel))⟩
theorem M11_267 : gMV RX11 267 RX11 yX11_intOf cX11_intOf 2 (some .int) 1 := ⟨⟨(List.mem_of_getElem? (i := 649) (by decide +kernel)), (List.mem_of_getElem? (i := 5) (by decide +kernel)), (List.mem_of_getElem? (i := 652) (by decide +kernel)), ⟨by decide +kernel, by decide +kernel, by decide +kernel⟩⟩, (List.mem_of_getElem? (i := 650) (by decide +kernel)), (List.mem_of_getElem? (i := 651) (by decide +kernel))⟩
theorem M11_270 : gMV RX11 270 RX11 yX11_looksAt cX11_looksAt 6 (some .int) 3 := ⟨⟨(List.mem_of_getElem? (i := 657) (by decide +kernel)), (List.mem_of_getElem? (i := 5) (by decide +kernel)), (List.mem_of_getElem? (i := 660) (by decide +kernel)), ⟨by decide +kernel, by decide +kernel, by decide +kernel⟩⟩, (List.mem_of_getElem? (i := 658) (by decide +kernel)), (List.mem_of_getElem? (i := 659) (by decide +kernel))⟩
theorem M11_274 : gMV RX11 274 RX11 yX11_puts cX11_puts 8 (some .int) 3 := ⟨⟨(List.mem_of_getElem? (i := 661) (by decide +kernel)), (List.mem_of_getElem? (i := 5) (by decide +kernel)), (List.mem_of_getElem? (i := 664) (by decide +kernel)), ⟨by decide +kernel, by decide +kernel, by decide +kernel⟩⟩, (List.mem_of_getElem? (i := 662) (by decide +kernel)), (List.mem_of_getElem? (i := 663) (by decide +kernel))⟩
theorem M11_277 : gMS RX11 277 yX11_fitted cX11_fitted 3 (some .long) 2 := ⟨⟨(List.mem_of_getElem? (i := 665) (by decide +kernel)), (List.mem_of_getElem? (i := 5) (by decide +kernel)), (List.mem_of_getElem? (i := 667) (by decide +kernel)), ⟨by decide +kernel, by decide +kernel, by decide +kernel⟩⟩, (List.mem_of_getElem? (i := 666) (by decide +kernel))⟩
theorem M11_283 : gMS RX11 283 yX11_rounded cX11_rounded 14 (some .long) 2 := ⟨⟨(List.mem_of_getElem? (i := 669) (by decide +kernel)), (List.mem_of_getElem? (i := 5) (by decide +kernel)), (List.mem_of_getElem? (i := 671) (by decide +kernel)), ⟨by decide +kernel, by decide +kernel, by decide +kernel⟩⟩, (List.mem_of_getElem? (i := 670) (by decide +kernel))⟩
theorem M11_298 : gMV RX11 298 RX11 yX11_newThing cX11_newThing 4 (some .int) 2 := ⟨⟨(List.mem_of_getElem? (i := 677) (by decide +kernel)), (List.mem_of_getElem? (i := 5) (by decide +kernel)), (List.mem_of_getElem? (i := 680) (by decide +kernel)), ⟨by decide +kernel, by decide +kernel, by decide +kernel⟩⟩, (List.mem_of_getElem? (i := 678) (by decide +kernel)), (List.mem_of_getElem? (i := 679) (by decide +kernel))⟩
theorem M11_302 : gMV RX11 302 RX11 yX11_casts cX11_casts 6 (some .int) 2 := ⟨⟨(List.mem_of_getElem? (i := 682) (by decide +kernel)), (List.mem_of_getElem? (i := 5) (by decide +kernel)), (List.mem_of_getElem? (i := 685) (by decide +kernel)), ⟨by decide +kernel, by decide +kernel, by decide +kernel⟩⟩, (List.mem_of_getElem? (i := 683) (by decide +kernel)), (List.mem_of_getElem? (i := 684) (by decide +kernel))⟩
theorem M11_305 : gMV RX11 305 RX11 yX11_makesOf cX11_makesOf 11 (some .int) 3 := ⟨⟨(List.mem_of_getElem? (i := 686) (by decide +kernel)), (List.mem_of_getElem? (i := 5) (by decide +kernel)), (List.mem_of_getElem? (i := 689) (by decide +kernel)), ⟨by decide +kernel, by decide +kernel, by decide +kernel⟩⟩, (List.mem_of_getElem? (i := 687) (by decide +kernel)), (List.mem_of_getElem? (i := 688) (by decide +kernel))⟩
theorem M11_315 : gMV RX11 315 RX11 yX11_causes cX11_causes 3 (some .int) 0 := ⟨⟨(List.mem_of_getElem? (i := 793) (by decide +kernel)), (List.mem_of_getElem? (i := 5) (by decide +kernel)), (List.mem_of_getElem? (i := 796) (by decide +kernel)), ⟨by decide +kernel, by decide +kernel, by decide +kernel⟩⟩, (List.mem_of_getElem? (i := 794) (by decide +kernel)), (List.mem_of_getElem? (i := 795) (by decide +kernel))⟩
theorem M11_318 : gMV RX11 318 RX11 yX11_size cX11_size 3 (some .int) 2 := ⟨⟨(List.mem_of_getElem? (i := 852) (by decide +kernel)), (List.mem_of_getElem? (i := 5) (by decide +kernel)), (List.mem_of_getElem? (i := 840) (by decide +kernel)), ⟨by decide +kernel, by decide +kernel, by decide +kernel⟩⟩, (List.mem_of_getElem? (i := 838) (by decide +kernel)), (List.mem_of_getElem? (i := 839) (by decide +kernel))⟩
theorem M1_37 : gMV RX1 37 RX1 yX1_blockEnd cX1_blockEnd 1 (some .int) 0 := ⟨⟨(List.mem_of_getElem? (i := 280) (by decide +kernel)), (List.mem_of_getElem? (i := 199) (by decide +kernel)), (List.mem_of_getElem? (i := 283) (by decide +kernel)), ⟨by decide +kernel, by decide +kernel, by decide +kernel⟩⟩, (List.mem_of_getElem? (i := 281) (by decide +kernel)), (List.mem_of_getElem? (i := 282) (by decide +kernel))⟩
theorem M1_44 : gMV RX1 44 RX1 yX1_takerEnd cX1_takerEnd 1 (some .int) 0 := ⟨⟨(List.mem_of_getElem? (i := 364) (by decide +kernel)), (List.mem_of_getElem? (i := 199) (by decide +kernel)), (List.mem_of_getElem? (i := 278) (by decide +kernel)), ⟨by decide +kernel, by decide +kernel, by decide +kernel⟩⟩, (List.mem_of_getElem? (i := 276) (by decide +kernel)), (List.mem_of_getElem? (i := 277) (by decide +kernel))⟩
theorem M2_26 : gMS RX2 26 yJ7_fill_53178 cJ7_fill_53178 4 none 2 := ⟨⟨(List.mem_of_getElem? (i := 474) (by decide +kernel)), (List.mem_of_getElem? (i := 417) (by decide +kernel)), (List.mem_of_getElem? (i := 476) (by decide +kernel)), ⟨by decide +kernel, by decide +kernel, by decide +kernel⟩⟩, (List.mem_of_getElem? (i := 475) (by decide +kernel))⟩
theorem M3_102 : gMV RX3 102 RX5 yX5_numberAt cX5_numberAt 2 (some .long) 1 := ⟨⟨(List.mem_of_getElem? (i := 450) (by decide +kernel)), (List.mem_of_getElem? (i := 392) (by decide +kernel)), (List.mem_of_getElem? (i := 453) (by decide +kernel)), ⟨by decide +kernel, by decide +kernel, by decide +kernel⟩⟩, (List.mem_of_getElem? (i := 451) (by decide +kernel)), (List.mem_of_getElem? (i := 452) (by decide +kernel))⟩
theorem M3_105 : gMV RX3 105 RX5 yX5_putNumber cX5_putNumber 4 none 2 := ⟨⟨(List.mem_of_getElem? (i := 454) (by decide +kernel)), (List.mem_of_getElem? (i := 392) (by decide +kernel)), (List.mem_of_getElem? (i := 457) (by decide +kernel)), ⟨by decide +kernel, by decide +kernel, by decide +kernel⟩⟩, (List.mem_of_getElem? (i := 455) (by decide +kernel)), (List.mem_of_getElem? (i := 456) (by decide +kernel))⟩
theorem M3_108 : gMI RX3 108 yX5_init cX5_init 2 1 := ⟨⟨(List.mem_of_getElem? (i := 401) (by decide +kernel)), (List.mem_of_getElem? (i := 392) (by decide +kernel)), (List.mem_of_getElem? (i := 403) (by decide +kernel)), ⟨by decide +kernel, by decide +kernel, by decide +kernel⟩⟩, rfl, (List.mem_of_getElem? (i := 402) (by decide +kernel))⟩
theorem M3_111 : gMV RX3 111 RX5 yX5_empty cX5_empty 4 none 2 := ⟨⟨(List.mem_of_getElem? (i := 409) (by decide +kernel)), (List.mem_of_getElem? (i := 392) (by decide +kernel)), (List.mem_of_getElem? (i := 412) (by decide +kernel)), ⟨by decide +kernel, by decide +kernel, by decide +kernel⟩⟩, (List.mem_of_getElem? (i := 410) (by decide +kernel)), (List.mem_of_getElem? (i := 411) (by decide +kernel))⟩
theorem M3_115 : gMV RX3 115 RX5 yX5_thingAt cX5_thingAt 2 (some (.object "TrialStair$Thing")) 1 := ⟨⟨(List.mem_of_getElem? (i := 432) (by decide +kernel)), (List.mem_of_getElem? (i := 392) (by decide +kernel)), (List.mem_of_getElem? (i := 435) (by decide +kernel)), ⟨by decide +kernel, by decide +kernel, by decide +kernel⟩⟩, (List.mem_of_getElem? (i := 433) (by decide +kernel)), (List.mem_of_getElem? (i := 434) (by decide +kernel))⟩
theorem M3_119 : gMV RX3 119 RX3 yX3_thingOf cX3_thingOf 2 (some (.object "TrialStair$Thing")) 1 := ⟨⟨(List.mem_of_getElem? (i := 442) (by decide +kernel)), (List.mem_of_getElem? (i := 18) (by decide +kernel)), (List.mem_of_getElem? (i := 445) (by decide +kernel)), ⟨by decide +kernel, by decide +kernel, by decide +kernel⟩⟩, (List.mem_of_getElem? (i := 443) (by decide +kernel)), (List.mem_of_getElem? (i := 444) (by decide +kernel))⟩
theorem M3_129 : gMV RX3 129 RX5 yX5_putThing cX5_putThing 3 none 2 := ⟨⟨(List.mem_of_getElem? (i := 446) (by decide +kernel)), (List.mem_of_getElem? (i := 392) (by decide +kernel)), (List.mem_of_getElem? (i := 449) (by decide +kernel)), ⟨by decide +kernel, by decide +kernel, by decide +kernel⟩⟩, (List.mem_of_getElem? (i := 447) (by decide +kernel)), (List.mem_of_getElem? (i := 448) (by decide +kernel))⟩
theorem M3_132 : gMV RX3 132 RX2 yX2_make cX2_make 3 none 2 := ⟨⟨(List.mem_of_getElem? (i := 467) (by decide +kernel)), (List.mem_of_getElem? (i := 46) (by decide +kernel)), (List.mem_of_getElem? (i := 470) (by decide +kernel)), ⟨by decide +kernel, by decide +kernel, by decide +kernel⟩⟩, (List.mem_of_getElem? (i := 468) (by decide +kernel)), (List.mem_of_getElem? (i := 469) (by decide +kernel))⟩
theorem M3_139 : gMV RX3 139 RX2 yX2_has cX2_has 3 (some .boolean) 2 := ⟨⟨(List.mem_of_getElem? (i := 477) (by decide +kernel)), (List.mem_of_getElem? (i := 46) (by decide +kernel)), (List.mem_of_getElem? (i := 480) (by decide +kernel)), ⟨by decide +kernel, by decide +kernel, by decide +kernel⟩⟩, (List.mem_of_getElem? (i := 478) (by decide +kernel)), (List.mem_of_getElem? (i := 479) (by decide +kernel))⟩
theorem M3_142 : gMV RX3 142 RX2 yX2_cellAt cX2_cellAt 4 (some .int) 2 := ⟨⟨(List.mem_of_getElem? (i := 481) (by decide +kernel)), (List.mem_of_getElem? (i := 46) (by decide +kernel)), (List.mem_of_getElem? (i := 484) (by decide +kernel)), ⟨by decide +kernel, by decide +kernel, by decide +kernel⟩⟩, (List.mem_of_getElem? (i := 482) (by decide +kernel)), (List.mem_of_getElem? (i := 483) (by decide +kernel))⟩
theorem M3_146 : gMV RX3 146 RX2 yX2_putCell cX2_putCell 5 none 3 := ⟨⟨(List.mem_of_getElem? (i := 485) (by decide +kernel)), (List.mem_of_getElem? (i := 46) (by decide +kernel)), (List.mem_of_getElem? (i := 488) (by decide +kernel)), ⟨by decide +kernel, by decide +kernel, by decide +kernel⟩⟩, (List.mem_of_getElem? (i := 486) (by decide +kernel)), (List.mem_of_getElem? (i := 487) (by decide +kernel))⟩
theorem M3_150 : gMS RX3 150 yX3_newThing cX3_newThing 3 (some (.object "TrialStair$Thing")) 2 := ⟨⟨(List.mem_of_getElem? (i := 493) (by decide +kernel)), (List.mem_of_getElem? (i := 18) (by decide +kernel)), (List.mem_of_getElem? (i := 495) (by decide +kernel)), ⟨by decide +kernel, by decide +kernel, by decide +kernel⟩⟩, (List.mem_of_getElem? (i := 494) (by decide +kernel))⟩
theorem M3_154 : gMV RX3 154 RX8 yX8_isCastAs cX8_isCastAs 2 (some .boolean) 1 := ⟨⟨(List.mem_of_getElem? (i := 504) (by decide +kernel)), (List.mem_of_getElem? (i := 497) (by decide +kernel)), (List.mem_of_getElem? (i := 507) (by decide +kernel)), ⟨by decide +kernel, by decide +kernel, by decide +kernel⟩⟩, (List.mem_of_getElem? (i := 505) (by decide +kernel)), (List.mem_of_getElem? (i := 506) (by decide +kernel))⟩
theorem M3_157 : gMV RX3 157 RX3 yX3_workMark cX3_workMark 3 (some .int) 2 := ⟨⟨(List.mem_of_getElem? (i := 512) (by decide +kernel)), (List.mem_of_getElem? (i := 18) (by decide +kernel)), (List.mem_of_getElem? (i := 515) (by decide +kernel)), ⟨by decide +kernel, by decide +kernel, by decide +kernel⟩⟩, (List.mem_of_getElem? (i := 513) (by decide +kernel)), (List.mem_of_getElem? (i := 514) (by decide +kernel))⟩
theorem M3_161 : gMI RX3 161 yX8_init cX8_init 4 2 := ⟨⟨(List.mem_of_getElem? (i := 498) (by decide +kernel)), (List.mem_of_getElem? (i := 497) (by decide +kernel)), (List.mem_of_getElem? (i := 500) (by decide +kernel)), ⟨by decide +kernel, by decide +kernel, by decide +kernel⟩⟩, rfl, (List.mem_of_getElem? (i := 499) (by decide +kernel))⟩
theorem M3_167 : gMV RX3 167 RX8 yX8_use cX8_use 3 (some .long) 1 := ⟨⟨(List.mem_of_getElem? (i := 522) (by decide +kernel)), (List.mem_of_getElem? (i := 497) (by decide +kernel)), (List.mem_of_getElem? (i := 525) (by decide +kernel)), ⟨by decide +kernel, by decide +kernel, by decide +kernel⟩⟩, (List.mem_of_getElem? (i := 523) (by decide +kernel)), (List.mem_of_getElem? (i := 524) (by decide +kernel))⟩
theorem M3_173 : gMV RX3 173 RX8 yX8_rings cX8_rings 1 (some .boolean) 0 := ⟨⟨(List.mem_of_getElem? (i := 527) (by decide +kernel)), (List.mem_of_getElem? (i := 497) (by decide +kernel)), (List.mem_of_getElem? (i := 511) (by decide +kernel)), ⟨by decide +kernel, by decide +kernel, by decide +kernel⟩⟩, (List.mem_of_getElem? (i := 509) (by decide +kernel)), (List.mem_of_getElem? (i := 510) (by decide +kernel))⟩
theorem M3_177 : gMV RX3 177 RX8 yX8_ring cX8_ring 5 (some .long) 1 := ⟨⟨(List.mem_of_getElem? (i := 528) (by decide +kernel)), (List.mem_of_getElem? (i := 497) (by decide +kernel)), (List.mem_of_getElem? (i := 531) (by decide +kernel)), ⟨by decide +kernel, by decide +kernel, by decide +kernel⟩⟩, (List.mem_of_getElem? (i := 529) (by decide +kernel)), (List.mem_of_getElem? (i := 530) (by decide +kernel))⟩
theorem M3_29 : gMN RX3 29 yX2_init cX2_init 1 0 := ⟨(List.mem_of_getElem? (i := 46) (by decide +kernel)), (List.mem_of_getElem? (i := 49) (by decide +kernel)), ⟨by decide +kernel, by decide +kernel, by decide +kernel⟩, rfl, (List.mem_of_getElem? (i := 48) (by decide +kernel))⟩
theorem M3_34 : gMV RX3 34 RX3 yX3_numberOf cX3_numberOf 2 (some .long) 1 := ⟨⟨(List.mem_of_getElem? (i := 382) (by decide +kernel)), (List.mem_of_getElem? (i := 18) (by decide +kernel)), (List.mem_of_getElem? (i := 313) (by decide +kernel)), ⟨by decide +kernel, by decide +kernel, by decide +kernel⟩⟩, (List.mem_of_getElem? (i := 311) (by decide +kernel)), (List.mem_of_getElem? (i := 312) (by decide +kernel))⟩
theorem M3_44 : gMV RX3 44 RX3 yX3_reckon cX3_reckon 6 (some .int) 1 := ⟨⟨(List.mem_of_getElem? (i := 375) (by decide +kernel)), (List.mem_of_getElem? (i := 18) (by decide +kernel)), (List.mem_of_getElem? (i := 378) (by decide +kernel)), ⟨by decide +kernel, by decide +kernel, by decide +kernel⟩⟩, (List.mem_of_getElem? (i := 376) (by decide +kernel)), (List.mem_of_getElem? (i := 377) (by decide +kernel))⟩
theorem M3_48 : gMV RX3 48 RX3 yX3_makeRow cX3_makeRow 5 (some .int) 1 := ⟨⟨(List.mem_of_getElem? (i := 387) (by decide +kernel)), (List.mem_of_getElem? (i := 18) (by decide +kernel)), (List.mem_of_getElem? (i := 390) (by decide +kernel)), ⟨by decide +kernel, by decide +kernel, by decide +kernel⟩⟩, (List.mem_of_getElem? (i := 388) (by decide +kernel)), (List.mem_of_getElem? (i := 389) (by decide +kernel))⟩
theorem M3_51 : gMV RX3 51 RX3 yX3_workRow cX3_workRow 5 (some .int) 1 := ⟨⟨(List.mem_of_getElem? (i := 419) (by decide +kernel)), (List.mem_of_getElem? (i := 18) (by decide +kernel)), (List.mem_of_getElem? (i := 422) (by decide +kernel)), ⟨by decide +kernel, by decide +kernel, by decide +kernel⟩⟩, (List.mem_of_getElem? (i := 420) (by decide +kernel)), (List.mem_of_getElem? (i := 421) (by decide +kernel))⟩
theorem M3_54 : gMV RX3 54 RX3 yX3_workGrid cX3_workGrid 4 (some .int) 1 := ⟨⟨(List.mem_of_getElem? (i := 462) (by decide +kernel)), (List.mem_of_getElem? (i := 18) (by decide +kernel)), (List.mem_of_getElem? (i := 465) (by decide +kernel)), ⟨by decide +kernel, by decide +kernel, by decide +kernel⟩⟩, (List.mem_of_getElem? (i := 463) (by decide +kernel)), (List.mem_of_getElem? (i := 464) (by decide +kernel))⟩
theorem M3_57 : gMV RX3 57 RX3 yX3_workHand cX3_workHand 3 (some .int) 1 := ⟨⟨(List.mem_of_getElem? (i := 489) (by decide +kernel)), (List.mem_of_getElem? (i := 18) (by decide +kernel)), (List.mem_of_getElem? (i := 492) (by decide +kernel)), ⟨by decide +kernel, by decide +kernel, by decide +kernel⟩⟩, (List.mem_of_getElem? (i := 490) (by decide +kernel)), (List.mem_of_getElem? (i := 491) (by decide +kernel))⟩
theorem M3_60 : gMV RX3 60 RX3 yX3_workTool cX3_workTool 5 (some .int) 1 := ⟨⟨(List.mem_of_getElem? (i := 517) (by decide +kernel)), (List.mem_of_getElem? (i := 18) (by decide +kernel)), (List.mem_of_getElem? (i := 520) (by decide +kernel)), ⟨by decide +kernel, by decide +kernel, by decide +kernel⟩⟩, (List.mem_of_getElem? (i := 518) (by decide +kernel)), (List.mem_of_getElem? (i := 519) (by decide +kernel))⟩
theorem M3_72 : gMS RX3 72 yX3_reckoned cX3_reckoned 5 (some .long) 3 := ⟨⟨(List.mem_of_getElem? (i := 383) (by decide +kernel)), (List.mem_of_getElem? (i := 18) (by decide +kernel)), (List.mem_of_getElem? (i := 385) (by decide +kernel)), ⟨by decide +kernel, by decide +kernel, by decide +kernel⟩⟩, (List.mem_of_getElem? (i := 384) (by decide +kernel))⟩
theorem M3_76 : gMV RX3 76 RX3 yX3_setNumber cX3_setNumber 4 none 2 := ⟨⟨(List.mem_of_getElem? (i := 386) (by decide +kernel)), (List.mem_of_getElem? (i := 18) (by decide +kernel)), (List.mem_of_getElem? (i := 317) (by decide +kernel)), ⟨by decide +kernel, by decide +kernel, by decide +kernel⟩⟩, (List.mem_of_getElem? (i := 315) (by decide +kernel)), (List.mem_of_getElem? (i := 316) (by decide +kernel))⟩
theorem M3_80 : gMV RX3 80 RX3 yX3_rowOf cX3_rowOf 3 (some (.object "TrialStair$Row")) 2 := ⟨⟨(List.mem_of_getElem? (i := 397) (by decide +kernel)), (List.mem_of_getElem? (i := 18) (by decide +kernel)), (List.mem_of_getElem? (i := 400) (by decide +kernel)), ⟨by decide +kernel, by decide +kernel, by decide +kernel⟩⟩, (List.mem_of_getElem? (i := 398) (by decide +kernel)), (List.mem_of_getElem? (i := 399) (by decide +kernel))⟩
theorem M3_87 : gMV RX3 87 RX3 yX3_intOf cX3_intOf 2 (some .int) 1 := ⟨⟨(List.mem_of_getElem? (i := 393) (by decide +kernel)), (List.mem_of_getElem? (i := 18) (by decide +kernel)), (List.mem_of_getElem? (i := 396) (by decide +kernel)), ⟨by decide +kernel, by decide +kernel, by decide +kernel⟩⟩, (List.mem_of_getElem? (i := 394) (by decide +kernel)), (List.mem_of_getElem? (i := 395) (by decide +kernel))⟩
theorem M3_91 : gMV RX3 91 RX5 yX5_has cX5_has 2 (some .boolean) 1 := ⟨⟨(List.mem_of_getElem? (i := 424) (by decide +kernel)), (List.mem_of_getElem? (i := 392) (by decide +kernel)), (List.mem_of_getElem? (i := 427) (by decide +kernel)), ⟨by decide +kernel, by decide +kernel, by decide +kernel⟩⟩, (List.mem_of_getElem? (i := 425) (by decide +kernel)), (List.mem_of_getElem? (i := 426) (by decide +kernel))⟩
theorem M3_95 : gMV RX3 95 RX3 yX3_takeThing cX3_takeThing 4 (some .int) 3 := ⟨⟨(List.mem_of_getElem? (i := 428) (by decide +kernel)), (List.mem_of_getElem? (i := 18) (by decide +kernel)), (List.mem_of_getElem? (i := 431) (by decide +kernel)), ⟨by decide +kernel, by decide +kernel, by decide +kernel⟩⟩, (List.mem_of_getElem? (i := 429) (by decide +kernel)), (List.mem_of_getElem? (i := 430) (by decide +kernel))⟩
theorem M3_99 : gMV RX3 99 RX3 yX3_putThing cX3_putThing 5 (some .int) 3 := ⟨⟨(List.mem_of_getElem? (i := 436) (by decide +kernel)), (List.mem_of_getElem? (i := 18) (by decide +kernel)), (List.mem_of_getElem? (i := 439) (by decide +kernel)), ⟨by decide +kernel, by decide +kernel, by decide +kernel⟩⟩, (List.mem_of_getElem? (i := 437) (by decide +kernel)), (List.mem_of_getElem? (i := 438) (by decide +kernel))⟩
theorem M5_32 : gMS RX5 32 yJ7_fill_d0a16 cJ7_fill_d0a16 5 none 2 := ⟨⟨(List.mem_of_getElem? (i := 415) (by decide +kernel)), (List.mem_of_getElem? (i := 417) (by decide +kernel)), (List.mem_of_getElem? (i := 418) (by decide +kernel)), ⟨by decide +kernel, by decide +kernel, by decide +kernel⟩⟩, (List.mem_of_getElem? (i := 416) (by decide +kernel))⟩
theorem M5_38 : gMV RX5 38 RX5 yX5_narrowed cX5_narrowed 3 (some .long) 1 := ⟨⟨(List.mem_of_getElem? (i := 458) (by decide +kernel)), (List.mem_of_getElem? (i := 392) (by decide +kernel)), (List.mem_of_getElem? (i := 461) (by decide +kernel)), ⟨by decide +kernel, by decide +kernel, by decide +kernel⟩⟩, (List.mem_of_getElem? (i := 459) (by decide +kernel)), (List.mem_of_getElem? (i := 460) (by decide +kernel))⟩
theorem M6_32 : gMI RX6 32 yX7_init cX7_init 6 5 := ⟨⟨(List.mem_of_getElem? (i := 131) (by decide +kernel)), (List.mem_of_getElem? (i := 64) (by decide +kernel)), (List.mem_of_getElem? (i := 71) (by decide +kernel)), ⟨by decide +kernel, by decide +kernel, by decide +kernel⟩⟩, rfl, (List.mem_of_getElem? (i := 70) (by decide +kernel))⟩
theorem M6_38 : gMV RX6 38 RX6 yX6_fit cX6_fit 3 none 1 := ⟨⟨(List.mem_of_getElem? (i := 132) (by decide +kernel)), (List.mem_of_getElem? (i := 14) (by decide +kernel)), (List.mem_of_getElem? (i := 135) (by decide +kernel)), ⟨by decide +kernel, by decide +kernel, by decide +kernel⟩⟩, (List.mem_of_getElem? (i := 133) (by decide +kernel)), (List.mem_of_getElem? (i := 134) (by decide +kernel))⟩
theorem M6_45 : gMV RX6 45 RX6 yX6_beginRoutine cX6_beginRoutine 2 none 1 := ⟨⟨(List.mem_of_getElem? (i := 140) (by decide +kernel)), (List.mem_of_getElem? (i := 14) (by decide +kernel)), (List.mem_of_getElem? (i := 143) (by decide +kernel)), ⟨by decide +kernel, by decide +kernel, by decide +kernel⟩⟩, (List.mem_of_getElem? (i := 141) (by decide +kernel)), (List.mem_of_getElem? (i := 142) (by decide +kernel))⟩
theorem M6_61 : gMV RX6 61 RX6 yX6_hasRoutine cX6_hasRoutine 2 (some .boolean) 1 := ⟨⟨(List.mem_of_getElem? (i := 204) (by decide +kernel)), (List.mem_of_getElem? (i := 14) (by decide +kernel)), (List.mem_of_getElem? (i := 171) (by decide +kernel)), ⟨by decide +kernel, by decide +kernel, by decide +kernel⟩⟩, (List.mem_of_getElem? (i := 169) (by decide +kernel)), (List.mem_of_getElem? (i := 170) (by decide +kernel))⟩
theorem M8_19 : gMV RX8 19 RX8 yX8_rings cX8_rings 1 (some .boolean) 0 := ⟨⟨(List.mem_of_getElem? (i := 508) (by decide +kernel)), (List.mem_of_getElem? (i := 497) (by decide +kernel)), (List.mem_of_getElem? (i := 511) (by decide +kernel)), ⟨by decide +kernel, by decide +kernel, by decide +kernel⟩⟩, (List.mem_of_getElem? (i := 509) (by decide +kernel)), (List.mem_of_getElem? (i := 510) (by decide +kernel))⟩
theorem M9_101 : gMV RX9 101 RX4 yX4_tell cX4_tell 3 none 1 := ⟨⟨(List.mem_of_getElem? (i := 333) (by decide +kernel)), (List.mem_of_getElem? (i := 22) (by decide +kernel)), (List.mem_of_getElem? (i := 336) (by decide +kernel)), ⟨by decide +kernel, by decide +kernel, by decide +kernel⟩⟩, (List.mem_of_getElem? (i := 334) (by decide +kernel)), (List.mem_of_getElem? (i := 335) (by decide +kernel))⟩
theorem M9_105 : gMV RX9 105 RX9 yX9_fail cX9_fail 3 none 2 := ⟨⟨(List.mem_of_getElem? (i := 337) (by decide +kernel)), (List.mem_of_getElem? (i := 26) (by decide +kernel)), (List.mem_of_getElem? (i := 340) (by decide +kernel)), ⟨by decide +kernel, by decide +kernel, by decide +kernel⟩⟩, (List.mem_of_getElem? (i := 338) (by decide +kernel)), (List.mem_of_getElem? (i := 339) (by decide +kernel))⟩
theorem M9_109 : gMV RX9 109 RX9 yX9_failureAtWork cX9_failureAtWork 2 (some (.object "TrialStair$Failure")) 0 := ⟨⟨(List.mem_of_getElem? (i := 350) (by decide +kernel)), (List.mem_of_getElem? (i := 26) (by decide +kernel)), (List.mem_of_getElem? (i := 353) (by decide +kernel)), ⟨by decide +kernel, by decide +kernel, by decide +kernel⟩⟩, (List.mem_of_getElem? (i := 351) (by decide +kernel)), (List.mem_of_getElem? (i := 352) (by decide +kernel))⟩
theorem M9_11 : gMI RX9 11 yX7_init cX7_init 6 5 := ⟨⟨(List.mem_of_getElem? (i := 69) (by decide +kernel)), (List.mem_of_getElem? (i := 64) (by decide +kernel)), (List.mem_of_getElem? (i := 71) (by decide +kernel)), ⟨by decide +kernel, by decide +kernel, by decide +kernel⟩⟩, rfl, (List.mem_of_getElem? (i := 70) (by decide +kernel))⟩
theorem M9_113 : gMV RX9 113 RX9 yX9_beginBlock cX9_beginBlock 4 none 2 := ⟨⟨(List.mem_of_getElem? (i := 354) (by decide +kernel)), (List.mem_of_getElem? (i := 26) (by decide +kernel)), (List.mem_of_getElem? (i := 357) (by decide +kernel)), ⟨by decide +kernel, by decide +kernel, by decide +kernel⟩⟩, (List.mem_of_getElem? (i := 355) (by decide +kernel)), (List.mem_of_getElem? (i := 356) (by decide +kernel))⟩
theorem M9_120 : gMV RX9 120 RX9 yX9_callRoutine cX9_callRoutine 2 none 1 := ⟨⟨(List.mem_of_getElem? (i := 365) (by decide +kernel)), (List.mem_of_getElem? (i := 26) (by decide +kernel)), (List.mem_of_getElem? (i := 368) (by decide +kernel)), ⟨by decide +kernel, by decide +kernel, by decide +kernel⟩⟩, (List.mem_of_getElem? (i := 366) (by decide +kernel)), (List.mem_of_getElem? (i := 367) (by decide +kernel))⟩
theorem M9_124 : gMV RX9 124 RX3 yX3_workStep cX3_workStep 2 (some .int) 1 := ⟨⟨(List.mem_of_getElem? (i := 370) (by decide +kernel)), (List.mem_of_getElem? (i := 18) (by decide +kernel)), (List.mem_of_getElem? (i := 373) (by decide +kernel)), ⟨by decide +kernel, by decide +kernel, by decide +kernel⟩⟩, (List.mem_of_getElem? (i := 371) (by decide +kernel)), (List.mem_of_getElem? (i := 372) (by decide +kernel))⟩
theorem M9_127 : gMV RX9 127 RX9 yX9_goBehind cX9_goBehind 2 none 1 := ⟨⟨(List.mem_of_getElem? (i := 532) (by decide +kernel)), (List.mem_of_getElem? (i := 26) (by decide +kernel)), (List.mem_of_getElem? (i := 535) (by decide +kernel)), ⟨by decide +kernel, by decide +kernel, by decide +kernel⟩⟩, (List.mem_of_getElem? (i := 533) (by decide +kernel)), (List.mem_of_getElem? (i := 534) (by decide +kernel))⟩
theorem M9_132 : gMI RX9 132 yX0_init cX0_init 3 2 := ⟨⟨(List.mem_of_getElem? (i := 344) (by decide +kernel)), (List.mem_of_getElem? (i := 343) (by decide +kernel)), (List.mem_of_getElem? (i := 346) (by decide +kernel)), ⟨by decide +kernel, by decide +kernel, by decide +kernel⟩⟩, rfl, (List.mem_of_getElem? (i := 345) (by decide +kernel))⟩
theorem M9_147 : gMV RX9 147 RX6 yX6_hasRoutine cX6_hasRoutine 2 (some .boolean) 1 := ⟨⟨(List.mem_of_getElem? (i := 369) (by decide +kernel)), (List.mem_of_getElem? (i := 14) (by decide +kernel)), (List.mem_of_getElem? (i := 171) (by decide +kernel)), ⟨by decide +kernel, by decide +kernel, by decide +kernel⟩⟩, (List.mem_of_getElem? (i := 169) (by decide +kernel)), (List.mem_of_getElem? (i := 170) (by decide +kernel))⟩
theorem M9_151 : gMV RX9 151 RX6 yX6_placeBehind cX6_placeBehind 2 (some .int) 1 := ⟨⟨(List.mem_of_getElem? (i := 200) (by decide +kernel)), (List.mem_of_getElem? (i := 14) (by decide +kernel)), (List.mem_of_getElem? (i := 203) (by decide +kernel)), ⟨by decide +kernel, by decide +kernel, by decide +kernel⟩⟩, (List.mem_of_getElem? (i := 201) (by decide +kernel)), (List.mem_of_getElem? (i := 202) (by decide +kernel))⟩
theorem M9_155 : gMI RX9 155 yX1_init cX1_init 4 3 := ⟨⟨(List.mem_of_getElem? (i := 205) (by decide +kernel)), (List.mem_of_getElem? (i := 199) (by decide +kernel)), (List.mem_of_getElem? (i := 207) (by decide +kernel)), ⟨by decide +kernel, by decide +kernel, by decide +kernel⟩⟩, rfl, (List.mem_of_getElem? (i := 206) (by decide +kernel))⟩
theorem M9_158 : gMV RX9 158 RX6 yX6_firstPlaceOf cX6_firstPlaceOf 2 (some .int) 1 := ⟨⟨(List.mem_of_getElem? (i := 214) (by decide +kernel)), (List.mem_of_getElem? (i := 14) (by decide +kernel)), (List.mem_of_getElem? (i := 217) (by decide +kernel)), ⟨by decide +kernel, by decide +kernel, by decide +kernel⟩⟩, (List.mem_of_getElem? (i := 215) (by decide +kernel)), (List.mem_of_getElem? (i := 216) (by decide +kernel))⟩
theorem M9_161 : gMV RX9 161 RX9 yX9_enter cX9_enter 3 (some .boolean) 2 := ⟨⟨(List.mem_of_getElem? (i := 218) (by decide +kernel)), (List.mem_of_getElem? (i := 26) (by decide +kernel)), (List.mem_of_getElem? (i := 221) (by decide +kernel)), ⟨by decide +kernel, by decide +kernel, by decide +kernel⟩⟩, (List.mem_of_getElem? (i := 219) (by decide +kernel)), (List.mem_of_getElem? (i := 220) (by decide +kernel))⟩
theorem M9_168 : gMV RX9 168 RX1 yX1_bodyEnd cX1_bodyEnd 1 (some .int) 0 := ⟨⟨(List.mem_of_getElem? (i := 359) (by decide +kernel)), (List.mem_of_getElem? (i := 199) (by decide +kernel)), (List.mem_of_getElem? (i := 362) (by decide +kernel)), ⟨by decide +kernel, by decide +kernel, by decide +kernel⟩⟩, (List.mem_of_getElem? (i := 360) (by decide +kernel)), (List.mem_of_getElem? (i := 361) (by decide +kernel))⟩
theorem M9_173 : gMV RX9 173 RX9 yX9_look cX9_look 5 none 1 := ⟨⟨(List.mem_of_getElem? (i := 306) (by decide +kernel)), (List.mem_of_getElem? (i := 26) (by decide +kernel)), (List.mem_of_getElem? (i := 309) (by decide +kernel)), ⟨by decide +kernel, by decide +kernel, by decide +kernel⟩⟩, (List.mem_of_getElem? (i := 307) (by decide +kernel)), (List.mem_of_getElem? (i := 308) (by decide +kernel))⟩
theorem M9_191 : gMV RX9 191 RX3 yX3_setNumber cX3_setNumber 4 none 2 := ⟨⟨(List.mem_of_getElem? (i := 314) (by decide +kernel)), (List.mem_of_getElem? (i := 18) (by decide +kernel)), (List.mem_of_getElem? (i := 317) (by decide +kernel)), ⟨by decide +kernel, by decide +kernel, by decide +kernel⟩⟩, (List.mem_of_getElem? (i := 315) (by decide +kernel)), (List.mem_of_getElem? (i := 316) (by decide +kernel))⟩
theorem M9_195 : gMV RX9 195 RX9 yX9_leaveBlock cX9_leaveBlock 2 none 1 := ⟨⟨(List.mem_of_getElem? (i := 253) (by decide +kernel)), (List.mem_of_getElem? (i := 26) (by decide +kernel)), (List.mem_of_getElem? (i := 256) (by decide +kernel)), ⟨by decide +kernel, by decide +kernel, by decide +kernel⟩⟩, (List.mem_of_getElem? (i := 254) (by decide +kernel)), (List.mem_of_getElem? (i := 255) (by decide +kernel))⟩
theorem M9_198 : gMV RX9 198 RX9 yX9_settleTrial cX9_settleTrial 2 none 1 := ⟨⟨(List.mem_of_getElem? (i := 242) (by decide +kernel)), (List.mem_of_getElem? (i := 26) (by decide +kernel)), (List.mem_of_getElem? (i := 245) (by decide +kernel)), ⟨by decide +kernel, by decide +kernel, by decide +kernel⟩⟩, (List.mem_of_getElem? (i := 243) (by decide +kernel)), (List.mem_of_getElem? (i := 244) (by decide +kernel))⟩
theorem M9_201 : gMV RX9 201 RX9 yX9_settleLoop cX9_settleLoop 2 none 1 := ⟨⟨(List.mem_of_getElem? (i := 298) (by decide +kernel)), (List.mem_of_getElem? (i := 26) (by decide +kernel)), (List.mem_of_getElem? (i := 301) (by decide +kernel)), ⟨by decide +kernel, by decide +kernel, by decide +kernel⟩⟩, (List.mem_of_getElem? (i := 299) (by decide +kernel)), (List.mem_of_getElem? (i := 300) (by decide +kernel))⟩
theorem M9_204 : gMV RX9 204 RX9 yX9_settleRoutine cX9_settleRoutine 2 none 1 := ⟨⟨(List.mem_of_getElem? (i := 318) (by decide +kernel)), (List.mem_of_getElem? (i := 26) (by decide +kernel)), (List.mem_of_getElem? (i := 321) (by decide +kernel)), ⟨by decide +kernel, by decide +kernel, by decide +kernel⟩⟩, (List.mem_of_getElem? (i := 319) (by decide +kernel)), (List.mem_of_getElem? (i := 320) (by decide +kernel))⟩
theorem M9_207 : gMV RX9 207 RX1 yX1_placeBehind cX1_placeBehind 1 (some .int) 0 := ⟨⟨(List.mem_of_getElem? (i := 258) (by decide +kernel)), (List.mem_of_getElem? (i := 199) (by decide +kernel)), (List.mem_of_getElem? (i := 261) (by decide +kernel)), ⟨by decide +kernel, by decide +kernel, by decide +kernel⟩⟩, (List.mem_of_getElem? (i := 259) (by decide +kernel)), (List.mem_of_getElem? (i := 260) (by decide +kernel))⟩
theorem M9_218 : gMS RX9 218 yX9_takes cX9_takes 4 (some .boolean) 2 := ⟨⟨(List.mem_of_getElem? (i := 263) (by decide +kernel)), (List.mem_of_getElem? (i := 26) (by decide +kernel)), (List.mem_of_getElem? (i := 265) (by decide +kernel)), ⟨by decide +kernel, by decide +kernel, by decide +kernel⟩⟩, (List.mem_of_getElem? (i := 264) (by decide +kernel))⟩
theorem M9_222 : gMV RX9 222 RX9 yX9_beginTaker cX9_beginTaker 2 none 1 := ⟨⟨(List.mem_of_getElem? (i := 269) (by decide +kernel)), (List.mem_of_getElem? (i := 26) (by decide +kernel)), (List.mem_of_getElem? (i := 272) (by decide +kernel)), ⟨by decide +kernel, by decide +kernel, by decide +kernel⟩⟩, (List.mem_of_getElem? (i := 270) (by decide +kernel)), (List.mem_of_getElem? (i := 271) (by decide +kernel))⟩
theorem M9_228 : gMV RX9 228 RX9 yX9_beginFinish cX9_beginFinish 2 none 1 := ⟨⟨(List.mem_of_getElem? (i := 288) (by decide +kernel)), (List.mem_of_getElem? (i := 26) (by decide +kernel)), (List.mem_of_getElem? (i := 291) (by decide +kernel)), ⟨by decide +kernel, by decide +kernel, by decide +kernel⟩⟩, (List.mem_of_getElem? (i := 289) (by decide +kernel)), (List.mem_of_getElem? (i := 290) (by decide +kernel))⟩
theorem M9_239 : gMV RX9 239 RX1 yX1_takerEnd cX1_takerEnd 1 (some .int) 0 := ⟨⟨(List.mem_of_getElem? (i := 275) (by decide +kernel)), (List.mem_of_getElem? (i := 199) (by decide +kernel)), (List.mem_of_getElem? (i := 278) (by decide +kernel)), ⟨by decide +kernel, by decide +kernel, by decide +kernel⟩⟩, (List.mem_of_getElem? (i := 276) (by decide +kernel)), (List.mem_of_getElem? (i := 277) (by decide +kernel))⟩
theorem M9_242 : gMV RX9 242 RX9 yX9_beginPart cX9_beginPart 5 none 4 := ⟨⟨(List.mem_of_getElem? (i := 284) (by decide +kernel)), (List.mem_of_getElem? (i := 26) (by decide +kernel)), (List.mem_of_getElem? (i := 287) (by decide +kernel)), ⟨by decide +kernel, by decide +kernel, by decide +kernel⟩⟩, (List.mem_of_getElem? (i := 285) (by decide +kernel)), (List.mem_of_getElem? (i := 286) (by decide +kernel))⟩
theorem M9_246 : gMV RX9 246 RX4 yX4_noteFinish cX4_noteFinish 2 none 1 := ⟨⟨(List.mem_of_getElem? (i := 293) (by decide +kernel)), (List.mem_of_getElem? (i := 22) (by decide +kernel)), (List.mem_of_getElem? (i := 296) (by decide +kernel)), ⟨by decide +kernel, by decide +kernel, by decide +kernel⟩⟩, (List.mem_of_getElem? (i := 294) (by decide +kernel)), (List.mem_of_getElem? (i := 295) (by decide +kernel))⟩
theorem M9_249 : gMV RX9 249 RX1 yX1_blockEnd cX1_blockEnd 1 (some .int) 0 := ⟨⟨(List.mem_of_getElem? (i := 297) (by decide +kernel)), (List.mem_of_getElem? (i := 199) (by decide +kernel)), (List.mem_of_getElem? (i := 283) (by decide +kernel)), ⟨by decide +kernel, by decide +kernel, by decide +kernel⟩⟩, (List.mem_of_getElem? (i := 281) (by decide +kernel)), (List.mem_of_getElem? (i := 282) (by decide +kernel))⟩
theorem M9_252 : gMV RX9 252 RX9 yX9_reportEnd cX9_reportEnd 1 none 0 := ⟨⟨(List.mem_of_getElem? (i := 323) (by decide +kernel)), (List.mem_of_getElem? (i := 26) (by decide +kernel)), (List.mem_of_getElem? (i := 326) (by decide +kernel)), ⟨by decide +kernel, by decide +kernel, by decide +kernel⟩⟩, (List.mem_of_getElem? (i := 324) (by decide +kernel)), (List.mem_of_getElem? (i := 325) (by decide +kernel))⟩
theorem M9_48 : gMV RX9 48 RX9 yX9_enterRoutine cX9_enterRoutine 3 none 2 := ⟨⟨(List.mem_of_getElem? (i := 193) (by decide +kernel)), (List.mem_of_getElem? (i := 26) (by decide +kernel)), (List.mem_of_getElem? (i := 196) (by decide +kernel)), ⟨by decide +kernel, by decide +kernel, by decide +kernel⟩⟩, (List.mem_of_getElem? (i := 194) (by decide +kernel)), (List.mem_of_getElem? (i := 195) (by decide +kernel))⟩
theorem M9_74 : gMV RX9 74 RX9 yX9_takeStep cX9_takeStep 1 (some .boolean) 0 := ⟨⟨(List.mem_of_getElem? (i := 302) (by decide +kernel)), (List.mem_of_getElem? (i := 26) (by decide +kernel)), (List.mem_of_getElem? (i := 305) (by decide +kernel)), ⟨by decide +kernel, by decide +kernel, by decide +kernel⟩⟩, (List.mem_of_getElem? (i := 303) (by decide +kernel)), (List.mem_of_getElem? (i := 304) (by decide +kernel))⟩
theorem M9_82 : gMV RX9 82 RX9 yX9_stop cX9_stop 2 none 1 := ⟨⟨(List.mem_of_getElem? (i := 227) (by decide +kernel)), (List.mem_of_getElem? (i := 26) (by decide +kernel)), (List.mem_of_getElem? (i := 230) (by decide +kernel)), ⟨by decide +kernel, by decide +kernel, by decide +kernel⟩⟩, (List.mem_of_getElem? (i := 228) (by decide +kernel)), (List.mem_of_getElem? (i := 229) (by decide +kernel))⟩
theorem M9_95 : gMV RX9 95 RX3 yX3_numberOf cX3_numberOf 2 (some .long) 1 := ⟨⟨(List.mem_of_getElem? (i := 310) (by decide +kernel)), (List.mem_of_getElem? (i := 18) (by decide +kernel)), (List.mem_of_getElem? (i := 313) (by decide +kernel)), ⟨by decide +kernel, by decide +kernel, by decide +kernel⟩⟩, (List.mem_of_getElem? (i := 311) (by decide +kernel)), (List.mem_of_getElem? (i := 312) (by decide +kernel))⟩
end
section
/-! ===== THE STATE OF A SYSTEM: kinds of addresses, lengths, and what each field and place holds, by address ===== -/
abbrev Sg : Type := (Nat → Nat) × (Nat → Nat) × (Nat → Nat → Int32) × (Nat → Nat → Int64) × (Nat → Nat → Option Nat) × (Nat → Nat → Int32) × (Nat → Nat → Int64) × (Nat → Nat → Option Nat) × Nat
def tg (σ : Sg) : Nat → Nat := σ.1
def ln (σ : Sg) : Nat → Nat := σ.2.1
def fI (σ : Sg) : Nat → Nat → Int32 := σ.2.2.1
def fL (σ : Sg) : Nat → Nat → Int64 := σ.2.2.2.1
def fR (σ : Sg) : Nat → Nat → Option Nat := σ.2.2.2.2.1
def aI (σ : Sg) : Nat → Nat → Int32 := σ.2.2.2.2.2.1
def aL (σ : Sg) : Nat → Nat → Int64 := σ.2.2.2.2.2.2.1
def aR (σ : Sg) : Nat → Nat → Option Nat := σ.2.2.2.2.2.2.2.1
def sz (σ : Sg) : Nat := σ.2.2.2.2.2.2.2.2
def g_u {α : Type} (f : Nat → Nat → α) (k a : Nat) (v : α) : Nat → Nat → α := fun k' a' => if k' = k ∧ a' = a then v else f k' a'
def sFI (σ : Sg) (k a : Nat) (v : Int32) : Sg := (tg σ, ln σ, g_u (fI σ) k a v, fL σ, fR σ, aI σ, aL σ, aR σ, sz σ)
def sFL (σ : Sg) (k a : Nat) (v : Int64) : Sg := (tg σ, ln σ, fI σ, g_u (fL σ) k a v, fR σ, aI σ, aL σ, aR σ, sz σ)
def sFR (σ : Sg) (k a : Nat) (v : Option Nat) : Sg := (tg σ, ln σ, fI σ, fL σ, g_u (fR σ) k a v, aI σ, aL σ, aR σ, sz σ)
def sAI (σ : Sg) (a i : Nat) (v : Int32) : Sg := (tg σ, ln σ, fI σ, fL σ, fR σ, g_u (aI σ) a i v, aL σ, aR σ, sz σ)
def sAL (σ : Sg) (a i : Nat) (v : Int64) : Sg := (tg σ, ln σ, fI σ, fL σ, fR σ, aI σ, g_u (aL σ) a i v, aR σ, sz σ)
def sAR (σ : Sg) (a i : Nat) (v : Option Nat) : Sg := (tg σ, ln σ, fI σ, fL σ, fR σ, aI σ, aL σ, g_u (aR σ) a i v, sz σ)
/-- a new cell of kind t, of length n where it is an array, all at its first values -/
def nw (σ : Sg) (t n : Nat) : Sg := (fun q => if q = sz σ then t else tg σ q, fun q => if q = sz σ then n else ln σ q, fun k q => if q = sz σ then 0 else fI σ k q, fun k q => if q = sz σ then 0 else fL σ k q, fun k q => if q = sz σ then none else fR σ k q,
  fun q i => if q = sz σ then 0 else aI σ q i, fun q i => if q = sz σ then 0 else aL σ q i, fun q i => if q = sz σ then none else aR σ q i, sz σ + 1)
theorem gs_FI (σ : Sg) (k a : Nat) (v : Int32) : tg (sFI σ k a v) = tg σ ∧ ln (sFI σ k a v) = ln σ ∧ fL (sFI σ k a v) = fL σ ∧ fR (sFI σ k a v) = fR σ ∧ aI (sFI σ k a v) = aI σ ∧ aL (sFI σ k a v) = aL σ ∧ aR (sFI σ k a v) = aR σ ∧ sz (sFI σ k a v) = sz σ ∧ ∀ k' a', fI (sFI σ k a v) k' a' = if k' = k ∧ a' = a then v else fI σ k' a' := ⟨rfl, rfl, rfl, rfl, rfl, rfl, rfl, rfl, fun _ _ => rfl⟩
theorem gs_FL (σ : Sg) (k a : Nat) (v : Int64) : tg (sFL σ k a v) = tg σ ∧ ln (sFL σ k a v) = ln σ ∧ fI (sFL σ k a v) = fI σ ∧ fR (sFL σ k a v) = fR σ ∧ aI (sFL σ k a v) = aI σ ∧ aL (sFL σ k a v) = aL σ ∧ aR (sFL σ k a v) = aR σ ∧ sz (sFL σ k a v) = sz σ ∧ ∀ k' a', fL (sFL σ k a v) k' a' = if k' = k ∧ a' = a then v else fL σ k' a' := ⟨rfl, rfl, rfl, rfl, rfl, rfl, rfl, rfl, fun _ _ => rfl⟩
theorem gs_FR (σ : Sg) (k a : Nat) (v : Option Nat) : tg (sFR σ k a v) = tg σ ∧ ln (sFR σ k a v) = ln σ ∧ fI (sFR σ k a v) = fI σ ∧ fL (sFR σ k a v) = fL σ ∧ aI (sFR σ k a v) = aI σ ∧ aL (sFR σ k a v) = aL σ ∧ aR (sFR σ k a v) = aR σ ∧ sz (sFR σ k a v) = sz σ ∧ ∀ k' a', fR (sFR σ k a v) k' a' = if k' = k ∧ a' = a then v else fR σ k' a' := ⟨rfl, rfl, rfl, rfl, rfl, rfl, rfl, rfl, fun _ _ => rfl⟩
theorem gs_AI (σ : Sg) (k a : Nat) (v : Int32) : tg (sAI σ k a v) = tg σ ∧ ln (sAI σ k a v) = ln σ ∧ fI (sAI σ k a v) = fI σ ∧ fL (sAI σ k a v) = fL σ ∧ fR (sAI σ k a v) = fR σ ∧ aL (sAI σ k a v) = aL σ ∧ aR (sAI σ k a v) = aR σ ∧ sz (sAI σ k a v) = sz σ ∧ ∀ k' a', aI (sAI σ k a v) k' a' = if k' = k ∧ a' = a then v else aI σ k' a' := ⟨rfl, rfl, rfl, rfl, rfl, rfl, rfl, rfl, fun _ _ => rfl⟩
theorem gs_AL (σ : Sg) (k a : Nat) (v : Int64) : tg (sAL σ k a v) = tg σ ∧ ln (sAL σ k a v) = ln σ ∧ fI (sAL σ k a v) = fI σ ∧ fL (sAL σ k a v) = fL σ ∧ fR (sAL σ k a v) = fR σ ∧ aI (sAL σ k a v) = aI σ ∧ aR (sAL σ k a v) = aR σ ∧ sz (sAL σ k a v) = sz σ ∧ ∀ k' a', aL (sAL σ k a v) k' a' = if k' = k ∧ a' = a then v else aL σ k' a' := ⟨rfl, rfl, rfl, rfl, rfl, rfl, rfl, rfl, fun _ _ => rfl⟩
theorem gs_AR (σ : Sg) (k a : Nat) (v : Option Nat) : tg (sAR σ k a v) = tg σ ∧ ln (sAR σ k a v) = ln σ ∧ fI (sAR σ k a v) = fI σ ∧ fL (sAR σ k a v) = fL σ ∧ fR (sAR σ k a v) = fR σ ∧ aI (sAR σ k a v) = aI σ ∧ aL (sAR σ k a v) = aL σ ∧ sz (sAR σ k a v) = sz σ ∧ ∀ k' a', aR (sAR σ k a v) k' a' = if k' = k ∧ a' = a then v else aR σ k' a' := ⟨rfl, rfl, rfl, rfl, rfl, rfl, rfl, rfl, fun _ _ => rfl⟩
theorem gs_nw (σ : Sg) (t n : Nat) : sz (nw σ t n) = sz σ + 1 ∧ (∀ q, tg (nw σ t n) q = if q = sz σ then t else tg σ q) ∧ (∀ q, ln (nw σ t n) q = if q = sz σ then n else ln σ q) ∧ (∀ k q, fI (nw σ t n) k q = if q = sz σ then 0 else fI σ k q) ∧ (∀ k q, fL (nw σ t n) k q = if q = sz σ then 0 else fL σ k q) ∧ (∀ k q, fR (nw σ t n) k q = if q = sz σ then none else fR σ k q) ∧
  (∀ q i, aI (nw σ t n) q i = if q = sz σ then 0 else aI σ q i) ∧ (∀ q i, aL (nw σ t n) q i = if q = sz σ then 0 else aL σ q i) ∧ (∀ q i, aR (nw σ t n) q i = if q = sz σ then none else aR σ q i) := ⟨rfl, fun _ => rfl, fun _ => rfl, fun _ _ => rfl, fun _ _ => rfl, fun _ _ => rfl, fun _ _ => rfl, fun _ _ => rfl, fun _ _ => rfl⟩
/-- the value of a field: 0 whole numbers, 1 longs, 2 references -/
def gv (σ : Sg) (a k : Nat) (t : Nat) : Value := match t with
  | 0 => .int (fI σ k a)
  | 1 => .long (fL σ k a)
  | _ => va_rf (fR σ k a)
def gfs (σ : Sg) (a ci : Nat) : List Value := (fty ci).mapIdx (fun j t => gv σ a (64 * ci + j) t)
def gar (σ : Sg) (a t : Nat) : (Nat → Int32) ⊕ (Nat → Int64) ⊕ (Nat → UInt32) ⊕ (Nat → UInt64) ⊕ (Nat → Option Nat) := match t with
  | 0 => .inl (aI σ a)
  | 1 => .inr (.inl (aL σ a))
  | 2 => .inl (aI σ a)
  | _ => .inr (.inr (.inr (.inr (aR σ a))))
def gE (cy : Nat → ClassId) (σ : Sg) (a t : Nat) : va_E := if t < 12 then .inr (t, gfs σ a t) else .inl (cy (t - 12), ln σ a, gar σ a (t - 12))
/-- the heap holds the state -/
def gH (D : va_G) (cy : Nat → ClassId) (σ : Sg) (H : Heap) : Prop := ∀ a t, tg σ a = t + 1 → va_at D vwCl (a, gE cy σ a t) H
def gT (cy : Nat → ClassId) : List (ClassId × FieldType) := [(cy 0, .int), (cy 1, .long), (cy 2, .boolean), (cy 3, .object RX5), (cy 4, .object RX7), (cy 5, .object RX8)]
def gA (σ : Sg) : Nat → Prop := fun q => tg σ q ≠ 0 ∨ sz σ ≤ q
def gW (D : va_G) (cy : Nat → ClassId) (A : Nat → Prop) (M : Nat → Nat) (H0 : Heap) (σ : Sg) (H : Heap) (locs : List Loc) : Prop := gH D cy σ H ∧ H.size = sz σ ∧ va_S A H0 H locs ∧ (∀ q, tg σ q ≠ 0 → A q) ∧ (∀ q, H0.size ≤ q → A q) ∧ ∀ q t, M q = t + 1 → tg σ q = t + 1
def gX (U : State) : Prop := va_Nw (.methodLinkNest RX10 9 yX6_init RX10) U ∧ va_Nw (.methodLinkNest RX10 18 yX3_init RX10) U ∧ va_Nw (.methodLinkNest RX3 29 yX2_init RX10) U ∧ va_Nw (.methodLinkNest RX10 25 yX4_init RX10) U ∧ va_AO RX5 U ∧ va_AO RX7 U ∧ va_AO RX8 U
def gC (p : Program) (s : State) (m : MethodId) (args : Array Value) (meth : Method) (c : Code) (D : va_G) (cy : Nat → ClassId) (cc : ByteArray) (nL : Nat) (own : String) (ret : Option FieldType) (nm : String) : Prop :=
  p.tables.exec = Jvm.exec ∧ c.code = cc ∧ c.maxLocals = nL ∧ s.vm.findClass own = some m.cls ∧ (∀ w ∈ wsL_law, w.before args s = true) ∧ meth.locks = false ∧ va_K D vwCl (gT cy) s ∧ gX s ∧ meth.sig.returnType = ret ∧ meth.name = nm
def gPc (D : va_G) (cy : Nat → ClassId) (av : List Value) (σ : Sg) : Array Value → State → Prop := va_Pc av (fun U => (gH D cy σ U.heap ∧ U.heap.size = sz σ) ∧ va_K D vwCl (gT cy) U ∧ gX U)
def gB (D : va_G) (cy : Nat → ClassId) (σ σ' : Sg) (t : State) : Prop := gH D cy σ' t.heap ∧ t.heap.size = sz σ' ∧ (∀ q, tg σ' q ≠ 0 → gA σ q) ∧ ∀ q t, tg σ q = t + 1 → tg σ' q = t + 1
theorem gT_0 (cy : Nat → ClassId) : (gT cy)[0]? = some (cy 0, .int) ∧ (gT cy)[1]? = some (cy 1, .long) ∧ (gT cy)[2]? = some (cy 2, .boolean) ∧ (gT cy)[3]? = some (cy 3, .object RX5) ∧ (gT cy)[4]? = some (cy 4, .object RX7) ∧ (gT cy)[5]? = some (cy 5, .object RX8) := ⟨rfl, rfl, rfl, rfl, rfl, rfl⟩
theorem gfs_at {σ : Sg} {a ci j t : Nat} (h : (fty ci)[j]? = some t) : (gfs σ a ci)[j]? = some (gv σ a (64 * ci + j) t) := by
  unfold gfs
  rw [List.getElem?_mapIdx, h]
  rfl
theorem gfs_len {σ : Sg} {a ci : Nat} : (gfs σ a ci).length = (fty ci).length := by unfold gfs; exact List.length_mapIdx
theorem gfs_eq {σ σ' : Sg} {a ci : Nat} (h : ∀ j t, gv σ' a (64 * ci + j) t = gv σ a (64 * ci + j) t) : gfs σ' a ci = gfs σ a ci := by
  unfold gfs
  refine congrArg (fun f => (fty ci).mapIdx f) ?_
  funext j t
  exact h j t
theorem gfs_set {σ σ' : Sg} {a ci j t0 : Nat} {v : Value} (h0 : (fty ci)[j]? = some t0) (hv : gv σ' a (64 * ci + j) t0 = v) (h : ∀ i t, (fty ci)[i]? = some t → i ≠ j → gv σ' a (64 * ci + i) t = gv σ a (64 * ci + i) t) : gfs σ' a ci = (gfs σ a ci).set j v := by
  refine List.ext_getElem? fun i => ?_
  have hj : j < (fty ci).length := (List.getElem?_eq_some_iff.mp h0).1
  by_cases e : i = j
  · subst e
    rw [gfs_at h0, List.getElem?_set_self (by rw [gfs_len]; exact hj), hv]
  · rw [List.getElem?_set_ne (Ne.symm e)]
    cases hi : (fty ci)[i]? with
    | none =>
      unfold gfs
      rw [List.getElem?_mapIdx, List.getElem?_mapIdx, hi]
      rfl
    | some t => rw [gfs_at hi, gfs_at hi, h i t hi e]
theorem gE_obj {cy : Nat → ClassId} {σ : Sg} {a t : Nat} (h : t < 12) : gE cy σ a t = .inr (t, gfs σ a t) := by unfold gE; rw [if_pos h]
theorem gE_arr {cy : Nat → ClassId} {σ : Sg} {a t : Nat} (h : ¬ t < 12) : gE cy σ a t = .inl (cy (t - 12), ln σ a, gar σ a (t - 12)) := by unfold gE; rw [if_neg h]
theorem gE_eq {cy : Nat → ClassId} {σ σ' : Sg} {a t : Nat} (h1 : ∀ k t, gv σ' a k t = gv σ a k t) (h2 : ln σ' a = ln σ a) (h3 : ∀ t, gar σ' a t = gar σ a t) : gE cy σ' a t = gE cy σ a t := by
  unfold gE
  rw [gfs_eq (fun j t => h1 _ t), h2, h3]
theorem gH_put {D : va_G} {cy : Nat → ClassId} {σ σ' : Sg} {H H1 : Heap} {a t0 : Nat} (hH : gH D cy σ H) (h0 : tg σ a = t0 + 1) (ht : tg σ' = tg σ) (hne : ∀ q t, q ≠ a → gE cy σ' q t = gE cy σ q t) (hat : va_at D vwCl (a, gE cy σ' a t0) H1) (oq : ∀ q : Nat, q ≠ a → H1[q]? = H[q]?) : gH D cy σ' H1 := by
  intro q t hq
  rw [ht] at hq
  by_cases e : q = a
  · subst e
    have : t = t0 := by omega
    subst this
    exact hat
  · rw [hne q t e]
    exact (hH q t hq).kept (oq q e)
theorem gv_FI {σ : Sg} {k a q i t : Nat} {v : Int32} (h : q ≠ a) : gv (sFI σ k a v) q i t = gv σ q i t := by
  unfold gv
  split
  · rw [(gs_FI σ k a v).2.2.2.2.2.2.2.2, if_neg (fun z => h z.2)]
  · rfl
  · rfl
theorem gv_FL {σ : Sg} {k a q i t : Nat} {v : Int64} (h : q ≠ a) : gv (sFL σ k a v) q i t = gv σ q i t := by
  unfold gv
  split
  · rfl
  · rw [(gs_FL σ k a v).2.2.2.2.2.2.2.2, if_neg (fun z => h z.2)]
  · rfl
theorem gv_FR {σ : Sg} {k a q i t : Nat} {v : Option Nat} (h : q ≠ a) : gv (sFR σ k a v) q i t = gv σ q i t := by
  unfold gv
  split
  · rfl
  · rfl
  · rw [(gs_FR σ k a v).2.2.2.2.2.2.2.2, if_neg (fun z => h z.2)]
theorem gw_FI {σ : Sg} {k a q i t : Nat} {v : Int32} (h : i ≠ k) : gv (sFI σ k a v) q i t = gv σ q i t := by
  unfold gv
  split
  · rw [(gs_FI σ k a v).2.2.2.2.2.2.2.2, if_neg (fun z => h z.1)]
  · rfl
  · rfl
theorem gw_FL {σ : Sg} {k a q i t : Nat} {v : Int64} (h : i ≠ k) : gv (sFL σ k a v) q i t = gv σ q i t := by
  unfold gv
  split
  · rfl
  · rw [(gs_FL σ k a v).2.2.2.2.2.2.2.2, if_neg (fun z => h z.1)]
  · rfl
theorem gw_FR {σ : Sg} {k a q i t : Nat} {v : Option Nat} (h : i ≠ k) : gv (sFR σ k a v) q i t = gv σ q i t := by
  unfold gv
  split
  · rfl
  · rfl
  · rw [(gs_FR σ k a v).2.2.2.2.2.2.2.2, if_neg (fun z => h z.1)]
theorem gu_row {α : Type} {f : Nat → Nat → α} {a i q : Nat} {v : α} (h : q ≠ a) : g_u f a i v q = f q := by
  funext j
  unfold g_u
  rw [if_neg (fun z => h z.1)]
theorem gu_self {f : Nat → Nat → Int32} {a i : Nat} {v : Int32} : g_u f a i v a = upd (f a) i v := by
  funext j
  unfold g_u upd
  by_cases e : j = i
  · rw [if_pos ⟨rfl, e⟩, if_pos e]
  · rw [if_neg (fun z => e z.2), if_neg e]
theorem gu_selfV {α : Type} {f : Nat → Nat → α} {a i : Nat} {v : α} {g : α → Value} : (fun j => g (g_u f a i v a j)) = updV (fun j => g (f a j)) i (g v) := by
  funext j
  unfold g_u updV
  by_cases e : j = i
  · rw [if_pos ⟨rfl, e⟩, if_pos e]
  · rw [if_neg (fun z => e z.2), if_neg e]
theorem gW_H {D : va_G} {cy : Nat → ClassId} {A : Nat → Prop} {M : Nat → Nat} {H0 H : Heap} {σ : Sg} {locs : List Loc} (h : gW D cy A M H0 σ H locs) {a t : Nat} (ht : tg σ a = t + 1) : va_at D vwCl (a, gE cy σ a t) H := h.1 a t ht
theorem gW_put {D : va_G} {cy : Nat → ClassId} {A : Nat → Prop} {M : Nat → Nat} {H0 H H1 : Heap} {σ σ' : Sg} {locs : List Loc} {a t0 k : Nat} (h : gW D cy A M H0 σ H locs) (h0 : tg σ a = t0 + 1) (ht : tg σ' = tg σ) (hz : sz σ' = sz σ) (hne : ∀ q t, q ≠ a → gE cy σ' q t = gE cy σ q t) (hat : va_at D vwCl (a, gE cy σ' a t0) H1) (z : H1.size = H.size) (oq : ∀ q : Nat, q ≠ a → H1[q]? = H[q]?) : gW D cy A M H0 σ' H1 (locs ++ [⟨a, k⟩]) :=
  ⟨gH_put h.1 h0 ht hne hat oq, by rw [z, hz]; exact h.2.1, h.2.2.1.put z oq (h.2.2.2.1 a (by omega)), fun q hq => h.2.2.2.1 q (by rw [← ht]; exact hq), h.2.2.2.2.1, fun q t hq => by rw [ht]; exact h.2.2.2.2.2 q t hq⟩
/-- a new cell at the heap's end -/
theorem gW_new {D : va_G} {cy : Nat → ClassId} {A : Nat → Prop} {M : Nat → Nat} {H0 H H1 : Heap} {σ : Sg} {locs : List Loc} {t n : Nat} (h : gW D cy A M H0 σ H locs) (hat : va_at D vwCl (H.size, gE cy (nw σ (t + 1) n) H.size t) H1) (z : H1.size = H.size + 1) (oq : ∀ q : Nat, q < H.size → H1[q]? = H[q]?) : gW D cy A M H0 (nw σ (t + 1) n) H1 locs := by
  obtain ⟨hH, hz, hS, hT, hA, hM⟩ := h
  refine ⟨fun q t' hq => ?_, by rw [z, hz]; rfl, ⟨Nat.le_trans hS.1 (by omega), fun x h1 h2 => (oq x (Nat.lt_of_lt_of_le h1 hS.1)).trans (hS.2.1 x h1 h2), hS.2.2⟩, fun q hq => ?_, hA, fun q t' hq => ?_⟩
  · rw [(gs_nw σ (t + 1) n).2.1] at hq
    by_cases e : q = sz σ
    · rw [if_pos e] at hq
      have e2 : t' = t := by omega
      have e3 : q = H.size := by rw [hz]; exact e
      subst e2
      subst e3
      exact hat
    · rw [if_neg e] at hq
      have hq0 := hH q t' hq
      have hl : q < H.size := hq0.lt
      have e2 : gE cy (nw σ (t + 1) n) q t' = gE cy σ q t' := by
        refine gE_eq (fun k t => ?_) ?_ (fun t => ?_)
        · unfold gv
          split <;> simp only [gs_nw, if_neg e]
        · simp only [gs_nw, if_neg e]
        · unfold gar
          have f1 : aI (nw σ (t' + 1) n) q = aI σ q := by funext i; exact if_neg e
          have f2 : aL (nw σ (t' + 1) n) q = aL σ q := by funext i; exact if_neg e
          have f3 : aR (nw σ (t' + 1) n) q = aR σ q := by funext i; exact if_neg e
          split
          · exact congrArg Sum.inl (by funext i; exact if_neg e)
          · exact congrArg (fun f => Sum.inr (Sum.inl f)) (by funext i; exact if_neg e)
          · exact congrArg Sum.inl (by funext i; exact if_neg e)
          · exact congrArg (fun f => Sum.inr (Sum.inr (Sum.inr (Sum.inr f)))) (by funext i; exact if_neg e)
      rw [e2]
      exact hq0.kept (oq q hl)
  · rw [(gs_nw σ (t + 1) n).2.1] at hq
    by_cases e : q = sz σ
    · exact hA q (by rw [e, ← hz]; exact hS.1)
    · rw [if_neg e] at hq
      exact hT q hq
  · have h1 := hM q t' hq
    have h2 : q < H.size := (hH q t' h1).lt
    rw [(gs_nw σ (t + 1) n).2.1, if_neg (by omega)]
    exact h1
theorem gW_keep {D : va_G} {cy : Nat → ClassId} {A : Nat → Prop} {M : Nat → Nat} {H0 H : Heap} {σ : Sg} {locs : List Loc} {t n a i : Nat} (h : gW D cy A M H0 σ H locs) (ha : tg σ a = i + 1) : tg (nw σ t n) a = i + 1 := by
  have h2 : a < H.size := (h.1 a i ha).lt
  have h3 := h.2.1
  rw [(gs_nw σ t n).2.1, if_neg (by omega)]
  exact ha
theorem nw_tg {σ : Sg} {t n : Nat} : tg (nw σ t n) (sz σ) = t := if_pos rfl
theorem gws_all : wsL_law.all goodWord = true := by decide +kernel
theorem gIn {y : MethodName} {bytes : ByteArray} {maxL : Nat} {ret : Option FieldType} (h : Cond.code y bytes maxL ret ∈ wsL_law) : GoodIn wsL_law (.code y bytes maxL ret :: wsL_law) := by
  intro w hw
  have hm : w ∈ wsL_law := by
    rcases List.mem_cons.mp hw with e | e
    · rw [e]; exact h
    · exact e
  exact ⟨hm, good_of_word (List.all_eq_true.mp gws_all w hm)⟩
theorem gX_moved {s U : State} (hW : s.WarmedH U.vm) (h : gX s) : gX U := ⟨va_Nw.warmM hW h.1, va_Nw.warmM hW h.2.1, va_Nw.warmM hW h.2.2.1, va_Nw.warmM hW h.2.2.2.1, va_AO.moved hW.alike h.2.2.2.2.1, va_AO.moved hW.alike h.2.2.2.2.2.1, va_AO.moved hW.alike h.2.2.2.2.2.2⟩
theorem gX_same {u U : State} (e : u.vm = U.vm) (h : gX u) : gX U := ⟨va_Nw.same rfl e h.1, va_Nw.same rfl e h.2.1, va_Nw.same rfl e h.2.2.1, va_Nw.same rfl e h.2.2.2.1, va_AO.moved (by rw [e]; exact Vm.Alike.refl _) h.2.2.2.2.1, va_AO.moved (by rw [e]; exact Vm.Alike.refl _) h.2.2.2.2.2.1, va_AO.moved (by rw [e]; exact Vm.Alike.refl _) h.2.2.2.2.2.2⟩
theorem gPc_blind {D : va_G} {cy : Nat → ClassId} {av : List Value} {σ : Sg} : FrameBlind (gPc D cy av σ) := by
  intro a U g mk h
  obtain ⟨h1, h2, h3, h4⟩ := h
  exact ⟨h1, h2, va_K.moved (u := U) (U := U.calling g mk a) (Vm.Alike.refl U.vm) h3, gX_same (u := U) (U := U.calling g mk a) rfl h4⟩
theorem va_rf_cat (o : Option Nat) : (va_rf o).category = 1 := by cases o <;> rfl
theorem cat_le (v : Value) : v.category ≤ 2 := by cases v <;> simp [Value.category]
theorem gx_room0 : ∀ {st : List Value} {n : Nat}, st.length ≤ n → (st.map fun v => v.category).sum ≤ 2 * n := by
  intro st
  induction st with
  | nil => intro n h; simp
  | cons v t ih =>
    intro n h
    have h1 := cat_le v
    have h2 := ih (n := n - 1) (by simp at h; omega)
    simp at h ⊢
    omega
theorem gx_room {m : MethodId} {pc : Nat} {ls : Array Slot} {s0 st : List Value} (h : st.length ≤ 4) : 2 * (F0 m pc ls s0).monitorRoom + (st.map fun v => v.category).sum ≤ 8 := lv_room (gx_room0 (n := 4) h)
section GX
variable {p : Program} {l : Launch} {e : Env} {R : Room} {s : State} {m : MethodId} {args : Array Value} {below : List Frame} {meth : Method} {c : Code} {H : Heap} {locs : List Loc} {cells slots : Nat} {Q : State → Prop}
variable {cc : ByteArray} {nL : Nat} {own nm : String} {ret : Option FieldType} {pc : Nat} {ls : Array Slot} {rest st : List Value} {D : va_G} {cy : Nat → ClassId} {A : Nat → Prop} {M : Nat → Nat} {H0 : Heap} {σ : Sg}
theorem gx_get (C : gC p s m args meth c D cy cc nL own ret nm) (hW : gW D cy A M H0 σ H locs) {index ci j a ty : Nat} {fin mine : Bool} {ft : FieldType} {o : Option Nat} (hF : gF own index ci j ty fin mine ft) (ho : o = some a) (ht : tg σ a = ci + 1) {v : Value} (hv : gv σ a (64 * ci + j) ty = v) (hdg : decode cc pc = .ok (.getfield index, 3))
    (kk : W p l e R s m args below meth c H locs cells slots Q (F0 m (pc + 3) ls (v :: rest))) : W p l e R s m args below meth c H locs cells slots Q (F0 m pc ls (va_rf o :: rest)) := by
  obtain ⟨hx, hb, hml, hown, hts, hlk, hK, hX, hr, hn⟩ := C
  obtain ⟨Cn, T, N, ty0, hci, hc, hin, hp, hd, hj, hN, hl, hty, hfi, hft, hmi⟩ := hF
  subst ho
  have hP : va_P D vwCl [(a, .inr (ci, gfs σ a ci))] H := by
    intro k q hk
    have hz : k < 1 := (List.getElem?_eq_some_iff.mp hk).1
    rw [show k = 0 by omega] at hk
    cases hk
    have := gW_H hW ht
    rw [gE_obj hci] at this
    exact this
  exact va_get hx hb hts hin hown hK hP 0 rfl hc j hj (hts _ hl) (fun _ h9 => h9) (v := v) (by rw [gfs_at hty, hv]) hdg kk
theorem gx_getI (C : gC p s m args meth c D cy cc nL own ret nm) (hW : gW D cy A M H0 σ H locs) {index ci j a k : Nat} {fin mine : Bool} {ft : FieldType} {o : Option Nat} (hF : gF own index ci j 0 fin mine ft) (ho : o = some a) (ht : tg σ a = ci + 1) (hk : 64 * ci + j = k) (hdg : decode cc pc = .ok (.getfield index, 3))
    (kk : W p l e R s m args below meth c H locs cells slots Q (F0 m (pc + 3) ls (.int (fI σ k a) :: rest))) : W p l e R s m args below meth c H locs cells slots Q (F0 m pc ls (va_rf o :: rest)) := gx_get C hW hF ho ht (v := .int (fI σ k a)) (by rw [hk]; rfl) hdg kk
theorem gx_getL (C : gC p s m args meth c D cy cc nL own ret nm) (hW : gW D cy A M H0 σ H locs) {index ci j a k : Nat} {fin mine : Bool} {ft : FieldType} {o : Option Nat} (hF : gF own index ci j 1 fin mine ft) (ho : o = some a) (ht : tg σ a = ci + 1) (hk : 64 * ci + j = k) (hdg : decode cc pc = .ok (.getfield index, 3))
    (kk : W p l e R s m args below meth c H locs cells slots Q (F0 m (pc + 3) ls (.long (fL σ k a) :: rest))) : W p l e R s m args below meth c H locs cells slots Q (F0 m pc ls (va_rf o :: rest)) := gx_get C hW hF ho ht (v := .long (fL σ k a)) (by rw [hk]; rfl) hdg kk
theorem gx_getR (C : gC p s m args meth c D cy cc nL own ret nm) (hW : gW D cy A M H0 σ H locs) {index ci j a k : Nat} {fin mine : Bool} {ft : FieldType} {o : Option Nat} (hF : gF own index ci j 2 fin mine ft) (ho : o = some a) (ht : tg σ a = ci + 1) (hk : 64 * ci + j = k) (hdg : decode cc pc = .ok (.getfield index, 3))
    (kk : W p l e R s m args below meth c H locs cells slots Q (F0 m (pc + 3) ls (va_rf (fR σ k a) :: rest))) : W p l e R s m args below meth c H locs cells slots Q (F0 m pc ls (va_rf o :: rest)) := gx_get C hW hF ho ht (v := va_rf (fR σ k a)) (by rw [hk]; rfl) hdg kk
theorem gx_put (C : gC p s m args meth c D cy cc nL own ret nm) (hW : gW D cy A M H0 σ H locs) {index ci j a ty : Nat} {fin mine : Bool} {ft : FieldType} {o : Option Nat} {v : Value} {σ' : Sg} (hF : gF own index ci j ty fin mine ft) (hfin : fin = false ∨ (fin = true ∧ mine = true ∧ nm = "<init>")) (ho : o = some a) (ht : tg σ a = ci + 1) (hn : narrow ft v = v) (hfit : fits ft v = true) (h1 : tg σ' = tg σ) (h2 : sz σ' = sz σ) (h3 : ∀ q t, q ≠ a → gE cy σ' q t = gE cy σ q t)
    (h4 : ∀ t, (fty ci)[j]? = some t → gfs σ' a ci = (gfs σ a ci).set j v) (hdg : decode cc pc = .ok (.putfield index, 3)) (kk : ∀ (H1 : Heap) (locs1 : List Loc), gW D cy A M H0 σ' H1 locs1 → W p l e R s m args below meth c H1 locs1 cells slots Q (F0 m (pc + 3) ls rest)) : W p l e R s m args below meth c H locs cells slots Q (F0 m pc ls (v :: va_rf o :: rest)) := by
  obtain ⟨hx, hb, hml, hown, hts, hlk, hK, hX, hr, hnm⟩ := C
  obtain ⟨Cn, T, N, ty0, hci, hc, hin, hp, hd, hj, hN, hl, hty, hfi, hft, hmi⟩ := hF
  subst ho
  have hat := gW_H hW ht
  rw [gE_obj hci] at hat
  obtain ⟨r, q0, cell, q1, q2, q3, q4⟩ := hat
  have hr0 : r = (Cn, T, N) := Option.some.inj (q0.symm.trans hc)
  subst hr0
  obtain ⟨hS, hfc, kC, hkC, hkind⟩ := hK.1 ci _ hc
  obtain ⟨cf, kf, fi, f, hi, hsl⟩ := hS j hj
  have hap := va_apart (own := own) hts hin ty0 hp hd hK hc
  have hst := (u_facts hfc hkC (u_lays hts hin hj) hi).1
  have hgl : j < (gfs σ a ci).length := by rw [gfs_len, ← hN]; exact hj
  have goal2 : ∀ H' : Heap, H'[a]? = some (cell.setSlot f.slot v) → H'.size = H.size → (∀ q, q ≠ a → H'[q]? = H[q]?) → W p l e R s m args below meth c H' (locs ++ [⟨a, f.slot⟩]) cells slots Q (F0 m (pc + 3) ls rest) := by
    intro H' e1 e2 e3
    rw [hsl] at e1 ⊢
    refine kk H' _ (gW_put hW ht h1 h2 h3 ?_ e2 e3)
    rw [gE_obj hci, h4 _ hty]
    exact ⟨_, hc, t_OB.to (V := updV (vp_V (gfs σ a ci)) j v) ⟨_, e1, q2, q3, t_set q4 hap hj v⟩ (fun j' _ => vp_updV_set hgl v j')⟩
  have hlay := hts _ (hin _ (u_in_lay hj))
  unfold u_lay at hlay
  rcases hfin with hf0 | ⟨hf0, hm, hi9⟩
  · rw [if_neg (by rw [hfi, hf0]; decide)] at hlay
    have h6 := u_store hfc hkC hkind hlay hi (hp j hj) (by rw [hft]; exact hn) (by rw [hft]; exact hfit)
    exact W.putK hx hb (f := f) ⟨hown, hts _ hl, ⟨_, _, _, hi⟩, hst⟩ (by rw [q2]; exact h6) q1 q3 (by rw [hsl]; exact k2_hasslot (q4 j hj)) rfl rfl hdg goal2
  · rw [if_pos (by rw [hfi, hf0])] at hlay
    have hcf : m.cls = cf := by
      obtain ⟨_, _, c', _, _, _, -, -, hf', -, -, -, hown2, -⟩ := Cond.laysFinal_spec hlay
      have e1 : c' = cf := by have := hi.symm.trans hf'; simp at this; exact this.1.symm
      rw [hmi hm] at hown2
      rw [← e1]; exact Option.some.inj (hown.symm.trans hown2)
    have h6 := u_fits hfc hkC hkind (Or.inr hlay) hi (hp j hj) (by rw [hft]; exact hn) (by rw [hft]; exact hfit)
    exact W.putFinK hx hb hown (hts _ hl) hi hst hcf (by rw [hnm]; exact hi9) (by rw [q2]; exact h6) q1 q3 (by rw [hsl]; exact k2_hasslot (q4 j hj)) rfl rfl hdg goal2
theorem gx_putI (C : gC p s m args meth c D cy cc nL own ret nm) (hW : gW D cy A M H0 σ H locs) {index ci j a k : Nat} {fin mine : Bool} {ft : FieldType} {o : Option Nat} {x : Int32} (hF : gF own index ci j 0 fin mine ft) (hfin : fin = false ∨ (fin = true ∧ mine = true ∧ nm = "<init>")) (ho : o = some a) (ht : tg σ a = ci + 1) (hk : 64 * ci + j = k) (hn : narrow ft (.int x) = .int x) (hfit : fits ft (.int x) = true)
    (hdg : decode cc pc = .ok (.putfield index, 3)) (kk : ∀ (H1 : Heap) (locs1 : List Loc) (S : Sg), S = sFI σ k a x → gW D cy A M H0 S H1 locs1 → (∀ q t, tg σ q = t + 1 → tg S q = t + 1) → W p l e R s m args below meth c H1 locs1 cells slots Q (F0 m (pc + 3) ls rest)) : W p l e R s m args below meth c H locs cells slots Q (F0 m pc ls (.int x :: va_rf o :: rest)) := by
  subst hk
  have hty : (fty ci)[j]? = some 0 := by obtain ⟨_, _, _, _, _, _, _, _, _, _, _, _, h, _⟩ := hF; exact h
  refine gx_put C hW hF hfin ho ht hn hfit (gs_FI σ _ a x).1 (gs_FI σ _ a x).2.2.2.2.2.2.2.1 (fun q t hq => gE_eq (fun k t => gv_FI hq) rfl (fun t => rfl)) (fun t _ => gfs_set hty ?_ (fun i t _ hne => gw_FI (by omega))) hdg (fun H1 locs1 h => kk H1 locs1 _ rfl h (fun _ _ h => h))
  show Value.int (fI (sFI σ (64 * ci + j) a x) (64 * ci + j) a) = .int x
  rw [(gs_FI σ _ a x).2.2.2.2.2.2.2.2, if_pos ⟨rfl, rfl⟩]
theorem gx_putL (C : gC p s m args meth c D cy cc nL own ret nm) (hW : gW D cy A M H0 σ H locs) {index ci j a k : Nat} {fin mine : Bool} {o : Option Nat} {x : Int64} (hF : gF own index ci j 1 fin mine .long) (hfin : fin = false ∨ (fin = true ∧ mine = true ∧ nm = "<init>")) (ho : o = some a) (ht : tg σ a = ci + 1) (hk : 64 * ci + j = k)
    (hdg : decode cc pc = .ok (.putfield index, 3)) (kk : ∀ (H1 : Heap) (locs1 : List Loc) (S : Sg), S = sFL σ k a x → gW D cy A M H0 S H1 locs1 → (∀ q t, tg σ q = t + 1 → tg S q = t + 1) → W p l e R s m args below meth c H1 locs1 cells slots Q (F0 m (pc + 3) ls rest)) : W p l e R s m args below meth c H locs cells slots Q (F0 m pc ls (.long x :: va_rf o :: rest)) := by
  subst hk
  have hty : (fty ci)[j]? = some 1 := by obtain ⟨_, _, _, _, _, _, _, _, _, _, _, _, h, _⟩ := hF; exact h
  refine gx_put C hW hF hfin ho ht rfl rfl (gs_FL σ _ a x).1 (gs_FL σ _ a x).2.2.2.2.2.2.2.1 (fun q t hq => gE_eq (fun k t => gv_FL hq) rfl (fun t => rfl)) (fun t _ => gfs_set hty ?_ (fun i t _ hne => gw_FL (by omega))) hdg (fun H1 locs1 h => kk H1 locs1 _ rfl h (fun _ _ h => h))
  show Value.long (fL (sFL σ (64 * ci + j) a x) (64 * ci + j) a) = .long x
  rw [(gs_FL σ _ a x).2.2.2.2.2.2.2.2, if_pos ⟨rfl, rfl⟩]
def g_isR : FieldType → Bool
  | .object _ => true
  | .array _ => true
  | _ => false
theorem g_nR {ft : FieldType} (h : g_isR ft = true) (x : Option Nat) : narrow ft (va_rf x) = va_rf x ∧ fits ft (va_rf x) = true := by
  cases ft <;> first | (cases h; done) | (cases x <;> exact ⟨rfl, rfl⟩)
theorem gx_putR (C : gC p s m args meth c D cy cc nL own ret nm) (hW : gW D cy A M H0 σ H locs) {index ci j a k : Nat} {fin mine : Bool} {ft : FieldType} {o x : Option Nat} (hF : gF own index ci j 2 fin mine ft) (hfin : fin = false ∨ (fin = true ∧ mine = true ∧ nm = "<init>")) (hft : g_isR ft = true) (ho : o = some a) (ht : tg σ a = ci + 1) (hk : 64 * ci + j = k)
    (hdg : decode cc pc = .ok (.putfield index, 3)) (kk : ∀ (H1 : Heap) (locs1 : List Loc) (S : Sg), S = sFR σ k a x → gW D cy A M H0 S H1 locs1 → (∀ q t, tg σ q = t + 1 → tg S q = t + 1) → W p l e R s m args below meth c H1 locs1 cells slots Q (F0 m (pc + 3) ls rest)) : W p l e R s m args below meth c H locs cells slots Q (F0 m pc ls (va_rf x :: va_rf o :: rest)) := by
  subst hk
  have hty : (fty ci)[j]? = some 2 := by obtain ⟨_, _, _, _, _, _, _, _, _, _, _, _, h, _⟩ := hF; exact h
  refine gx_put C hW hF hfin ho ht (g_nR hft x).1 (g_nR hft x).2 (gs_FR σ _ a x).1 (gs_FR σ _ a x).2.2.2.2.2.2.2.1 (fun q t hq => gE_eq (fun k t => gv_FR hq) rfl (fun t => rfl)) (fun t _ => gfs_set hty ?_ (fun i t _ hne => gw_FR (by omega))) hdg (fun H1 locs1 h => kk H1 locs1 _ rfl h (fun _ _ h => h))
  show va_rf (fR (sFR σ (64 * ci + j) a x) (64 * ci + j) a) = va_rf x
  rw [(gs_FR σ _ a x).2.2.2.2.2.2.2.2, if_pos ⟨rfl, rfl⟩]
-- arrays
theorem gx_cellI (hW : gW D cy A M H0 σ H locs) {a : Nat} (ht : tg σ a = 13) : H[a]? = some (arrV (cy 0) (ln σ a) (fun j => .int (aI σ a j))) := gW_H hW (t := 12) ht
theorem gx_cellL (hW : gW D cy A M H0 σ H locs) {a : Nat} (ht : tg σ a = 14) : H[a]? = some (arrV (cy 1) (ln σ a) (fun j => .long (aL σ a j))) := gW_H hW (t := 13) ht
theorem gx_cellZ (hW : gW D cy A M H0 σ H locs) {a : Nat} (ht : tg σ a = 15) : H[a]? = some (arrV (cy 2) (ln σ a) (fun j => .int (aI σ a j))) := gW_H hW (t := 14) ht
theorem gx_cell3 (hW : gW D cy A M H0 σ H locs) {a : Nat} (ht : tg σ a = 16) : H[a]? = some (arrV (cy 3) (ln σ a) (fun j => va_rf (aR σ a j))) := gW_H hW (t := 15) ht
theorem gx_cell4 (hW : gW D cy A M H0 σ H locs) {a : Nat} (ht : tg σ a = 17) : H[a]? = some (arrV (cy 4) (ln σ a) (fun j => va_rf (aR σ a j))) := gW_H hW (t := 16) ht
theorem gx_cell5 (hW : gW D cy A M H0 σ H locs) {a : Nat} (ht : tg σ a = 18) : H[a]? = some (arrV (cy 5) (ln σ a) (fun j => va_rf (aR σ a j))) := gW_H hW (t := 17) ht
theorem gx_alen (C : gC p s m args meth c D cy cc nL own ret nm) (hW : gW D cy A M H0 σ H locs) {a : Nat} {o : Option Nat} (ho : o = some a) (ht : tg σ a = 13 ∨ tg σ a = 14 ∨ tg σ a = 15 ∨ tg σ a = 16 ∨ tg σ a = 17 ∨ tg σ a = 18) (hdg : decode cc pc = .ok (.arraylength, 1))
    (kk : W p l e R s m args below meth c H locs cells slots Q (F0 m (pc + 1) ls (.int (nI (ln σ a)) :: rest))) : W p l e R s m args below meth c H locs cells slots Q (F0 m pc ls (va_rf o :: rest)) := by
  obtain ⟨hx, hb, hml, hown, hts, hlk, hK, hX, hr, hn⟩ := C
  subst ho
  rcases ht with ht | ht | ht | ht | ht | ht
  · exact W.alen (n := nI (ln σ a)) hx hb (gx_cellI hW ht) ((hK.2 0 _ rfl).1 _ _) (by rw [arrV_size]; rfl) rfl rfl hdg kk
  · exact W.alen (n := nI (ln σ a)) hx hb (gx_cellL hW ht) ((hK.2 1 _ rfl).1 _ _) (by rw [arrV_size]; rfl) rfl rfl hdg kk
  · exact W.alen (n := nI (ln σ a)) hx hb (gx_cellZ hW ht) ((hK.2 2 _ rfl).1 _ _) (by rw [arrV_size]; rfl) rfl rfl hdg kk
  · exact W.alen (n := nI (ln σ a)) hx hb (gx_cell3 hW ht) ((hK.2 3 _ rfl).1 _ _) (by rw [arrV_size]; rfl) rfl rfl hdg kk
  · exact W.alen (n := nI (ln σ a)) hx hb (gx_cell4 hW ht) ((hK.2 4 _ rfl).1 _ _) (by rw [arrV_size]; rfl) rfl rfl hdg kk
  · exact W.alen (n := nI (ln σ a)) hx hb (gx_cell5 hW ht) ((hK.2 5 _ rfl).1 _ _) (by rw [arrV_size]; rfl) rfl rfl hdg kk
theorem gx_iald (C : gC p s m args meth c D cy cc nL own ret nm) (hW : gW D cy A M H0 σ H locs) {a : Nat} {o : Option Nat} {i : Int32} (ho : o = some a) (ht : tg σ a = 13) (hin : vp_in i (ln σ a)) (hdg : decode cc pc = .ok (.iaload, 1))
    (kk : W p l e R s m args below meth c H locs cells slots Q (F0 m (pc + 1) ls (.int (aI σ a i.toNatClampNeg) :: rest))) : W p l e R s m args below meth c H locs cells slots Q (F0 m pc ls (.int i :: va_rf o :: rest)) := by
  obtain ⟨hx, hb, hml, hown, hts, hlk, hK, hX, hr, hn⟩ := C
  subst ho
  have hlt : i.toNatClampNeg < ln σ a := Nat.not_le.mp fun q => hin (Or.inr q)
  exact W.iald (v := .int (aI σ a i.toNatClampNeg)) hx hb (gx_cellI hW ht) ((hK.2 0 _ rfl).1 _ _) (fun q => by cases q) (by rw [arrV_size]; exact hin) (by rw [arrV_read _ _ hlt]) rfl rfl hdg kk
theorem gx_lald (C : gC p s m args meth c D cy cc nL own ret nm) (hW : gW D cy A M H0 σ H locs) {a : Nat} {o : Option Nat} {i : Int32} (ho : o = some a) (ht : tg σ a = 14) (hin : vp_in i (ln σ a)) (hdg : decode cc pc = .ok (.laload, 1))
    (kk : W p l e R s m args below meth c H locs cells slots Q (F0 m (pc + 1) ls (.long (aL σ a i.toNatClampNeg) :: rest))) : W p l e R s m args below meth c H locs cells slots Q (F0 m pc ls (.int i :: va_rf o :: rest)) := by
  obtain ⟨hx, hb, hml, hown, hts, hlk, hK, hX, hr, hn⟩ := C
  subst ho
  have hlt : i.toNatClampNeg < ln σ a := Nat.not_le.mp fun q => hin (Or.inr q)
  exact W.lald (v := .long (aL σ a i.toNatClampNeg)) hx hb (gx_cellL hW ht) ((hK.2 1 _ rfl).1 _ _) (fun q => by cases q) (by rw [arrV_size]; exact hin) (by rw [arrV_read _ _ hlt]) rfl rfl hdg kk
theorem gx_zald (C : gC p s m args meth c D cy cc nL own ret nm) (hW : gW D cy A M H0 σ H locs) {a : Nat} {o : Option Nat} {i : Int32} (ho : o = some a) (ht : tg σ a = 15) (hin : vp_in i (ln σ a)) (hdg : decode cc pc = .ok (.baload, 1))
    (kk : W p l e R s m args below meth c H locs cells slots Q (F0 m (pc + 1) ls (.int (aI σ a i.toNatClampNeg) :: rest))) : W p l e R s m args below meth c H locs cells slots Q (F0 m pc ls (.int i :: va_rf o :: rest)) := by
  obtain ⟨hx, hb, hml, hown, hts, hlk, hK, hX, hr, hn⟩ := C
  subst ho
  have hlt : i.toNatClampNeg < ln σ a := Nat.not_le.mp fun q => hin (Or.inr q)
  exact W.zald (v := .int (aI σ a i.toNatClampNeg)) hx hb (gx_cellZ hW ht) ((hK.2 2 _ rfl).1 _ _) (fun q => by cases q) (by rw [arrV_size]; exact hin) (by rw [arrV_read _ _ hlt]) rfl rfl hdg kk
theorem gx_aald (C : gC p s m args meth c D cy cc nL own ret nm) (hW : gW D cy A M H0 σ H locs) {a : Nat} {o : Option Nat} {i : Int32} (ho : o = some a) (ht : tg σ a = 16 ∨ tg σ a = 17 ∨ tg σ a = 18) (hin : vp_in i (ln σ a)) (hdg : decode cc pc = .ok (.aaload, 1))
    (kk : W p l e R s m args below meth c H locs cells slots Q (F0 m (pc + 1) ls (va_rf (aR σ a i.toNatClampNeg) :: rest))) : W p l e R s m args below meth c H locs cells slots Q (F0 m pc ls (.int i :: va_rf o :: rest)) := by
  obtain ⟨hx, hb, hml, hown, hts, hlk, hK, hX, hr, hn⟩ := C
  subst ho
  have hlt : i.toNatClampNeg < ln σ a := Nat.not_le.mp fun q => hin (Or.inr q)
  rcases ht with ht | ht | ht
  · exact W.aald (v := va_rf (aR σ a i.toNatClampNeg)) (ty := .object RX5) hx hb (gx_cell3 hW ht) ((hK.2 3 _ rfl).1 _ _) rfl (fun q => by cases q) (by rw [arrV_size]; exact hin) (by rw [arrV_read _ _ hlt]) rfl rfl hdg kk
  · exact W.aald (v := va_rf (aR σ a i.toNatClampNeg)) (ty := .object RX7) hx hb (gx_cell4 hW ht) ((hK.2 4 _ rfl).1 _ _) rfl (fun q => by cases q) (by rw [arrV_size]; exact hin) (by rw [arrV_read _ _ hlt]) rfl rfl hdg kk
  · exact W.aald (v := va_rf (aR σ a i.toNatClampNeg)) (ty := .object RX8) hx hb (gx_cell5 hW ht) ((hK.2 5 _ rfl).1 _ _) rfl (fun q => by cases q) (by rw [arrV_size]; exact hin) (by rw [arrV_read _ _ hlt]) rfl rfl hdg kk
theorem gE_neA {a i q t : Nat} {v : Int32} (h : q ≠ a) : gE cy (sAI σ a i v) q t = gE cy σ q t := gE_eq (fun _ _ => rfl) rfl (fun t => by
  have : aI (sAI σ a i v) q = aI σ q := gu_row h
  unfold gar; split <;> first | rfl | (rw [this]))
theorem gE_neL {a i q t : Nat} {v : Int64} (h : q ≠ a) : gE cy (sAL σ a i v) q t = gE cy σ q t := gE_eq (fun _ _ => rfl) rfl (fun t => by
  have : aL (sAL σ a i v) q = aL σ q := gu_row h
  unfold gar; split <;> first | rfl | (rw [this]))
theorem gE_neR {a i q t : Nat} {v : Option Nat} (h : q ≠ a) : gE cy (sAR σ a i v) q t = gE cy σ q t := gE_eq (fun _ _ => rfl) rfl (fun t => by
  have : aR (sAR σ a i v) q = aR σ q := gu_row h
  unfold gar; split <;> first | rfl | (rw [this]))
theorem gx_iast (C : gC p s m args meth c D cy cc nL own ret nm) (hW : gW D cy A M H0 σ H locs) {a : Nat} {o : Option Nat} {i x : Int32} (ho : o = some a) (ht : tg σ a = 13) (hin : vp_in i (ln σ a)) (hdg : decode cc pc = .ok (.iastore, 1))
    (kk : ∀ (H1 : Heap) (locs1 : List Loc) (S : Sg), S = sAI σ a i.toNatClampNeg x → gW D cy A M H0 S H1 locs1 → (∀ q t, tg σ q = t + 1 → tg S q = t + 1) → W p l e R s m args below meth c H1 locs1 cells slots Q (F0 m (pc + 1) ls rest)) : W p l e R s m args below meth c H locs cells slots Q (F0 m pc ls (.int x :: .int i :: va_rf o :: rest)) := by
  obtain ⟨hx, hb, hml, hown, hts, hlk, hK, hX, hr, hn⟩ := C
  subst ho
  refine W.iast hx hb (gx_cellI hW ht) ((hK.2 0 _ rfl).1 _ _) (fun q => by cases q) (by rw [arrV_size]; exact hin) rfl rfl hdg fun H1 e1 z oq => ?_
  refine kk H1 _ _ rfl (gW_put hW (t0 := 12) ht rfl rfl (fun q t h => gE_neA h) ?_ z oq) (fun _ _ h => h)
  show H1[a]? = some (arrV (cy 0) (ln σ a) (fun j => .int (g_u (aI σ) a i.toNatClampNeg x a j)))
  rw [e1, arrV_store, gu_selfV (g := Value.int)]
theorem gx_last (C : gC p s m args meth c D cy cc nL own ret nm) (hW : gW D cy A M H0 σ H locs) {a : Nat} {o : Option Nat} {i : Int32} {x : Int64} (ho : o = some a) (ht : tg σ a = 14) (hin : vp_in i (ln σ a)) (hdg : decode cc pc = .ok (.lastore, 1))
    (kk : ∀ (H1 : Heap) (locs1 : List Loc) (S : Sg), S = sAL σ a i.toNatClampNeg x → gW D cy A M H0 S H1 locs1 → (∀ q t, tg σ q = t + 1 → tg S q = t + 1) → W p l e R s m args below meth c H1 locs1 cells slots Q (F0 m (pc + 1) ls rest)) : W p l e R s m args below meth c H locs cells slots Q (F0 m pc ls (.long x :: .int i :: va_rf o :: rest)) := by
  obtain ⟨hx, hb, hml, hown, hts, hlk, hK, hX, hr, hn⟩ := C
  subst ho
  refine W.last hx hb (gx_cellL hW ht) ((hK.2 1 _ rfl).1 _ _) (fun q => by cases q) (by rw [arrV_size]; exact hin) rfl rfl hdg fun H1 e1 z oq => ?_
  refine kk H1 _ _ rfl (gW_put hW (t0 := 13) ht rfl rfl (fun q t h => gE_neL h) ?_ z oq) (fun _ _ h => h)
  show H1[a]? = some (arrV (cy 1) (ln σ a) (fun j => .long (g_u (aL σ) a i.toNatClampNeg x a j)))
  rw [e1, arrV_store, gu_selfV (g := Value.long)]
theorem gx_zast (C : gC p s m args meth c D cy cc nL own ret nm) (hW : gW D cy A M H0 σ H locs) {a : Nat} {o : Option Nat} {i x : Int32} (ho : o = some a) (ht : tg σ a = 15) (hin : vp_in i (ln σ a)) (hdg : decode cc pc = .ok (.bastore, 1))
    (kk : ∀ (H1 : Heap) (locs1 : List Loc) (S : Sg), S = sAI σ a i.toNatClampNeg (vp_nar .boolean x) → gW D cy A M H0 S H1 locs1 → (∀ q t, tg σ q = t + 1 → tg S q = t + 1) → W p l e R s m args below meth c H1 locs1 cells slots Q (F0 m (pc + 1) ls rest)) : W p l e R s m args below meth c H locs cells slots Q (F0 m pc ls (.int x :: .int i :: va_rf o :: rest)) := by
  obtain ⟨hx, hb, hml, hown, hts, hlk, hK, hX, hr, hn⟩ := C
  subst ho
  refine W.zast hx hb (gx_cellZ hW ht) ((hK.2 2 _ rfl).1 _ _) (fun q => by cases q) (by rw [arrV_size]; exact hin) rfl rfl hdg fun H1 e1 z oq => ?_
  refine kk H1 _ _ rfl (gW_put hW (t0 := 14) ht rfl rfl (fun q t h => gE_neA h) ?_ z oq) (fun _ _ h => h)
  show H1[a]? = some (arrV (cy 2) (ln σ a) (fun j => .int (g_u (aI σ) a i.toNatClampNeg (vp_nar .boolean x) a j)))
  rw [e1, arrV_store, gu_selfV (g := Value.int)]
  first | rfl | (congr 2; funext q; simp [updV, vp_nar])
theorem gx_aastN (C : gC p s m args meth c D cy cc nL own ret nm) (hW : gW D cy A M H0 σ H locs) {a : Nat} {o : Option Nat} {i : Int32} (ho : o = some a) (ht : tg σ a = 16 ∨ tg σ a = 17 ∨ tg σ a = 18) (hin : vp_in i (ln σ a)) (hdg : decode cc pc = .ok (.aastore, 1))
    (kk : ∀ (H1 : Heap) (locs1 : List Loc) (S : Sg), S = sAR σ a i.toNatClampNeg none → gW D cy A M H0 S H1 locs1 → (∀ q t, tg σ q = t + 1 → tg S q = t + 1) → W p l e R s m args below meth c H1 locs1 cells slots Q (F0 m (pc + 1) ls rest)) : W p l e R s m args below meth c H locs cells slots Q (F0 m pc ls (va_rf none :: .int i :: va_rf o :: rest)) := by
  obtain ⟨hx, hb, hml, hown, hts, hlk, hK, hX, hr, hn⟩ := C
  subst ho
  rcases ht with ht | ht | ht
  · refine va_WaastN (C := RX5) hx hb (gx_cell3 hW ht) ((hK.2 3 _ rfl).1 _ _) (fun q => by cases q) (by rw [arrV_size]; exact hin) rfl rfl hdg fun H1 e1 z oq => ?_
    refine kk H1 _ _ rfl (gW_put hW (t0 := 15) ht rfl rfl (fun q t h => gE_neR h) ?_ z oq) (fun _ _ h => h)
    show H1[a]? = some (arrV (cy 3) (ln σ a) (fun j => va_rf (g_u (aR σ) a i.toNatClampNeg none a j)))
    rw [e1, arrV_store, gu_selfV (g := va_rf)]
    rfl
  · refine va_WaastN (C := RX7) hx hb (gx_cell4 hW ht) ((hK.2 4 _ rfl).1 _ _) (fun q => by cases q) (by rw [arrV_size]; exact hin) rfl rfl hdg fun H1 e1 z oq => ?_
    refine kk H1 _ _ rfl (gW_put hW (t0 := 16) ht rfl rfl (fun q t h => gE_neR h) ?_ z oq) (fun _ _ h => h)
    show H1[a]? = some (arrV (cy 4) (ln σ a) (fun j => va_rf (g_u (aR σ) a i.toNatClampNeg none a j)))
    rw [e1, arrV_store, gu_selfV (g := va_rf)]
    rfl
  · refine va_WaastN (C := RX8) hx hb (gx_cell5 hW ht) ((hK.2 5 _ rfl).1 _ _) (fun q => by cases q) (by rw [arrV_size]; exact hin) rfl rfl hdg fun H1 e1 z oq => ?_
    refine kk H1 _ _ rfl (gW_put hW (t0 := 17) ht rfl rfl (fun q t h => gE_neR h) ?_ z oq) (fun _ _ h => h)
    show H1[a]? = some (arrV (cy 5) (ln σ a) (fun j => va_rf (g_u (aR σ) a i.toNatClampNeg none a j)))
    rw [e1, arrV_store, gu_selfV (g := va_rf)]
    rfl
theorem gx_aastS (hx : p.tables.exec = Jvm.exec) (hb : c.code = cc) (hK : va_K D vwCl (gT cy) s) (hW : gW D cy A M H0 σ H locs) {a v ta ci q0 : Nat} {r : vw_C} {i : Int32} (hci : ci < 12) (hc : vwCl[ci]? = some r) (hta : ¬ ta < 12) (h15 : 3 ≤ ta - 12) (ht : tg σ a = ta + 1) (hty : (gT cy)[q0]? = some (cy (ta - 12), .object r.1)) (hv : tg σ v = ci + 1) (hin : vp_in i (ln σ a)) (hdg : decode cc pc = .ok (.aastore, 1))
    (kk : ∀ (H1 : Heap) (locs1 : List Loc) (S : Sg), S = sAR σ a i.toNatClampNeg (some v) → gW D cy A M H0 S H1 locs1 → (∀ q t, tg σ q = t + 1 → tg S q = t + 1) → W p l e R s m args below meth c H1 locs1 cells slots Q (F0 m (pc + 1) ls rest)) : W p l e R s m args below meth c H locs cells slots Q (F0 m pc ls (.ref v :: .int i :: .ref a :: rest)) := by
  have hlt : i.toNatClampNeg < ln σ a := Nat.not_le.mp fun q => hin (Or.inr q)
  have h0 : ¬ i < 0 := fun q => hin (Or.inl q)
  have hg3 : ∀ σ' : Sg, gar σ' a (ta - 12) = .inr (.inr (.inr (.inr (aR σ' a)))) := by
    intro σ'
    obtain ⟨z, hz⟩ : ∃ z, ta - 12 = z + 3 := ⟨ta - 12 - 3, by omega⟩
    rw [hz]
    rfl
  have hca : H[a]? = some (arrV (cy (ta - 12)) (ln σ a) (fun j => va_rf (aR σ a j))) := by
    have h1 := gW_H hW ht
    rw [gE_arr hta, hg3] at h1
    exact h1
  have hcv := gW_H hW hv
  rw [gE_obj hci] at hcv
  obtain ⟨r', hr', cellV, g1, g2, g3, -⟩ := hcv
  have hcls := (hK.1 ci r hc).2
  obtain ⟨kA, comp, k1, k2, k3, -⟩ := (hK.2 q0 _ hty).2
  have hcomp : comp = D.1 ci := Option.some.inj (k3.symm.trans hcls.1)
  subst hcomp
  obtain ⟨kC, hkC, -⟩ := hcls.2
  refine W.aast hx hb hca (fun q h => by cases h) (fun h => by cases h) k1 k2 rfl hkC ⟨h0, by rw [arrV_size]; exact hlt⟩ g1 (fun q h => by rw [g3] at h; cases h) (by rw [g2]; exact hkC) (by rw [g2]; exact va_assign hcls) rfl rfl hdg fun H1 e1 z oq => ?_
  refine kk H1 _ _ rfl (gW_put hW (t0 := ta) ht rfl rfl (fun q t h => gE_neR h) ?_ z oq) (fun _ _ h => h)
  rw [gE_arr hta, hg3]
  show H1[a]? = some (arrV (cy (ta - 12)) (ln σ a) (fun j => va_rf (g_u (aR σ) a i.toNatClampNeg (some v) a j)))
  rw [e1, arrV_store, gu_selfV (g := va_rf)]
  rfl
theorem gx_aast3 (C : gC p s m args meth c D cy cc nL own ret nm) (hW : gW D cy A M H0 σ H locs) {a v : Nat} {o x : Option Nat} {i : Int32} (ho : o = some a) (hxv : x = some v) (ht : tg σ a = 16) (hv : tg σ v = 6) (hin : vp_in i (ln σ a)) (hdg : decode cc pc = .ok (.aastore, 1))
    (kk : ∀ (H1 : Heap) (locs1 : List Loc) (S : Sg), S = sAR σ a i.toNatClampNeg (some v) → gW D cy A M H0 S H1 locs1 → (∀ q t, tg σ q = t + 1 → tg S q = t + 1) → W p l e R s m args below meth c H1 locs1 cells slots Q (F0 m (pc + 1) ls rest)) : W p l e R s m args below meth c H locs cells slots Q (F0 m pc ls (va_rf x :: .int i :: va_rf o :: rest)) := by
  obtain ⟨hx, hb, hml, hown, hts, hlk, hK, hX, hr, hn⟩ := C
  subst ho; subst hxv
  exact gx_aastS (ta := 15) (ci := 5) (q0 := 3) (r := (RX5, TX5, 5)) hx hb hK hW (by decide) rfl (by decide) (by decide) ht rfl hv hin hdg kk
theorem gx_aast4 (C : gC p s m args meth c D cy cc nL own ret nm) (hW : gW D cy A M H0 σ H locs) {a v : Nat} {o x : Option Nat} {i : Int32} (ho : o = some a) (hxv : x = some v) (ht : tg σ a = 17) (hv : tg σ v = 8) (hin : vp_in i (ln σ a)) (hdg : decode cc pc = .ok (.aastore, 1))
    (kk : ∀ (H1 : Heap) (locs1 : List Loc) (S : Sg), S = sAR σ a i.toNatClampNeg (some v) → gW D cy A M H0 S H1 locs1 → (∀ q t, tg σ q = t + 1 → tg S q = t + 1) → W p l e R s m args below meth c H1 locs1 cells slots Q (F0 m (pc + 1) ls rest)) : W p l e R s m args below meth c H locs cells slots Q (F0 m pc ls (va_rf x :: .int i :: va_rf o :: rest)) := by
  obtain ⟨hx, hb, hml, hown, hts, hlk, hK, hX, hr, hn⟩ := C
  subst ho; subst hxv
  exact gx_aastS (ta := 16) (ci := 7) (q0 := 4) (r := (RX7, TX7, 9)) hx hb hK hW (by decide) rfl (by decide) (by decide) ht rfl hv hin hdg kk
theorem gx_aast5 (C : gC p s m args meth c D cy cc nL own ret nm) (hW : gW D cy A M H0 σ H locs) {a : Nat} {o x : Option Nat} {i : Int32} (ho : o = some a) (ht : tg σ a = 18) (hv : ∀ v, x = some v → tg σ v = 9) (hin : vp_in i (ln σ a)) (hdg : decode cc pc = .ok (.aastore, 1))
    (kk : ∀ (H1 : Heap) (locs1 : List Loc) (S : Sg), S = sAR σ a i.toNatClampNeg x → gW D cy A M H0 S H1 locs1 → (∀ q t, tg σ q = t + 1 → tg S q = t + 1) → W p l e R s m args below meth c H1 locs1 cells slots Q (F0 m (pc + 1) ls rest)) : W p l e R s m args below meth c H locs cells slots Q (F0 m pc ls (va_rf x :: .int i :: va_rf o :: rest)) := by
  cases x with
  | none => exact gx_aastN C hW ho (Or.inr (Or.inr ht)) hin hdg kk
  | some v =>
    obtain ⟨hx, hb, hml, hown, hts, hlk, hK, hX, hr, hn⟩ := C
    subst ho
    exact gx_aastS (ta := 17) (ci := 8) (q0 := 5) (r := (RX8, TX8, 2)) hx hb hK hW (by decide) rfl (by decide) (by decide) ht rfl (hv v rfl) hin hdg kk
-- new cells
theorem gx_new (C : gC p s m args meth c D cy cc nL own ret nm) (hW : gW D cy A M H0 σ H locs) {index ci n : Nat} (hN : gN own index ci n) (hcells : cells + 1 ≤ R.cells) (hslots : slots + n ≤ R.slots) (hdg : decode cc pc = .ok (.new index, 3))
    (kk : ∀ (H1 : Heap) (S : Sg), S = nw σ (ci + 1) 0 → gW D cy A M H0 S H1 locs → (∀ q t, tg σ q = t + 1 → tg S q = t + 1) → tg S (sz σ) = ci + 1 → W p l e R s m args below meth c H1 locs (cells + 1) (slots + n) Q (F0 m (pc + 3) ls (va_rf (some (sz σ)) :: rest))) : W p l e R s m args below meth c H locs cells slots Q (F0 m pc ls rest) := by
  obtain ⟨hx, hb, hml, hown, hts, hlk, hK, hX, hr, hnm⟩ := C
  obtain ⟨Cn, T, N, ty0, hci, hc, hin, hp, hcl, hins, hini, hNn, hdf⟩ := hN
  subst hNn
  have hz := hW.2.1
  have hKn := hK.1 ci _ hc
  refine W.newcK hx hb hown (hts _ hcl) (hts _ hins) (hts _ hini) rfl hdg hcells hslots hKn.2.1 rfl fun H1 kC hkC e1 z1 o1 => ?_
  rw [hz] at z1 o1 e1 ⊢
  refine kk H1 _ rfl (gW_new hW ?_ (by rw [hz]; exact z1) (by rw [hz]; exact o1)) (fun _ _ h => gW_keep hW h) nw_tg
  rw [gE_obj hci, hz]
  refine ⟨_, hc, (u_born ty0 hts hin hKn hkC e1 hp).to fun j hj => ?_⟩
  obtain ⟨t, ht, hd⟩ := hdf j hj
  show defaultValue (ty0 j) = (gfs (nw σ (ci + 1) 0) (sz σ) ci).getD j .null
  rw [hd, List.getD_eq_getElem?_getD, gfs_at ht]
  unfold gv gz
  split <;> simp [gs_nw, va_rf]
theorem gx_newa (C : gC p s m args meth c D cy cc nL own ret nm) (hW : gW D cy A M H0 σ H locs) {at0 : ArrayType} {k K N : Nat} {n : Int32} (harr : Cond.arrayClass (newarray.typeOf at0) ∈ wsL_law) (hk : (at0 = .int ∧ k = 0) ∨ (at0 = .long ∧ k = 1) ∨ (at0 = .boolean ∧ k = 2)) (hn : ¬ n < 0) (hN : n.toNatClampNeg = N) (hKn : N ≤ K) (hK8 : K ≤ 65536) (hcells : cells + 1 ≤ R.cells) (hslots : slots + K ≤ R.slots) (hdg : decode cc pc = .ok (.newarray at0, 2))
    (kk : ∀ (H1 : Heap) (S : Sg), S = nw σ (k + 13) N → gW D cy A M H0 S H1 locs → (∀ q t, tg σ q = t + 1 → tg S q = t + 1) → tg S (sz σ) = k + 13 → W p l e R s m args below meth c H1 locs (cells + 1) (slots + K) Q (F0 m (pc + 2) ls (va_rf (some (sz σ)) :: rest))) : W p l e R s m args below meth c H locs cells slots Q (F0 m pc ls (.int n :: rest)) := by
  obtain ⟨hx, hb, hml, hown, hts, hlk, hK, hX, hr, hnm⟩ := C
  have hz := hW.2.1
  subst hN
  have hbytes : n.toNatClampNeg * componentBytes (newarray.typeOf at0) ≤ 536870912 := by
    have : componentBytes (newarray.typeOf at0) ≤ 8 := by rcases hk with ⟨rfl, -⟩ | ⟨rfl, -⟩ | ⟨rfl, -⟩ <;> decide
    calc n.toNatClampNeg * componentBytes (newarray.typeOf at0) ≤ 65536 * 8 := Nat.mul_le_mul (Nat.le_trans hKn hK8) this
      _ ≤ 536870912 := by decide
  refine va_newaK hx hb (hts _ harr) rfl hdg rfl hn rfl hbytes hcells (Nat.le_trans (Nat.add_le_add_left hKn _) hslots) rfl fun H1 cA e1 z1 o1 hAr hNm => ?_
  refine W.widen (k := cells + 1) (n := slots + K) (Nat.le_refl _) (Nat.add_le_add_left hKn _) ?_
  rw [hz] at z1 o1 e1 ⊢
  refine kk H1 _ rfl ?_ (fun _ _ h => gW_keep hW h) nw_tg
  have h1 : aI (nw σ (k + 13) n.toNatClampNeg) (sz σ) = fun _ => 0 := by funext i; exact if_pos rfl
  have h2 : aL (nw σ (k + 13) n.toNatClampNeg) (sz σ) = fun _ => 0 := by funext i; exact if_pos rfl
  have h3 : ln (nw σ (k + 13) n.toNatClampNeg) (sz σ) = n.toNatClampNeg := if_pos rfl
  refine gW_new (t := k + 12) hW ?_ (by rw [hz]; exact z1) (by rw [hz]; exact o1)
  rw [gE_arr (by omega), hz]
  rcases hk with ⟨rfl, rfl⟩ | ⟨rfl, rfl⟩ | ⟨rfl, rfl⟩
  · have hc : cA = cy 0 := Option.some.inj (hNm.symm.trans (hK.2 0 _ rfl).2)
    subst hc
    show H1[sz σ]? = some (vp_cell (cy 0) (ln (nw σ (0 + 13) n.toNatClampNeg) (sz σ), .inl (aI (nw σ (0 + 13) n.toNatClampNeg) (sz σ))))
    rw [h1, h3, vp_cell_i]
    exact e1
  · have hc : cA = cy 1 := Option.some.inj (hNm.symm.trans (hK.2 1 _ rfl).2)
    subst hc
    show H1[sz σ]? = some (vp_cell (cy 1) (ln (nw σ (1 + 13) n.toNatClampNeg) (sz σ), .inr (.inl (aL (nw σ (1 + 13) n.toNatClampNeg) (sz σ)))))
    rw [h2, h3, vp_cell_l]
    exact e1
  · have hc : cA = cy 2 := Option.some.inj (hNm.symm.trans (hK.2 2 _ rfl).2)
    subst hc
    show H1[sz σ]? = some (vp_cell (cy 2) (ln (nw σ (2 + 13) n.toNatClampNeg) (sz σ), .inl (aI (nw σ (2 + 13) n.toNatClampNeg) (sz σ))))
    rw [h1, h3, vp_cell_i]
    exact e1
theorem gx_newq (C : gC p s m args meth c D cy cc nL own ret nm) (hW : gW D cy A M H0 σ H locs) {Cn : String} {index k K N : Nat} {n : Int32} (hcl : Cond.classLink own index Cn ∈ wsL_law) (hk : (Cn = RX5 ∧ k = 3) ∨ (Cn = RX7 ∧ k = 4) ∨ (Cn = RX8 ∧ k = 5)) (hn : ¬ n < 0) (hN : n.toNatClampNeg = N) (hKn : N ≤ K) (hK8 : K ≤ 65536) (hcells : cells + 1 ≤ R.cells) (hslots : slots + K ≤ R.slots) (hdg : decode cc pc = .ok (.anewarray index, 3))
    (kk : ∀ (H1 : Heap) (S : Sg), S = nw σ (k + 13) N → gW D cy A M H0 S H1 locs → (∀ q t, tg σ q = t + 1 → tg S q = t + 1) → tg S (sz σ) = k + 13 → W p l e R s m args below meth c H1 locs (cells + 1) (slots + K) Q (F0 m (pc + 3) ls (va_rf (some (sz σ)) :: rest))) : W p l e R s m args below meth c H locs cells slots Q (F0 m pc ls (.int n :: rest)) := by
  obtain ⟨hx, hb, hml, hown, hts, hlk, hK, hX, hr, hnm⟩ := C
  have hz := hW.2.1
  have hover : va_AO Cn s := by
    rcases hk with ⟨rfl, -⟩ | ⟨rfl, -⟩ | ⟨rfl, -⟩
    · exact hX.2.2.2.2.1
    · exact hX.2.2.2.2.2.1
    · exact hX.2.2.2.2.2.2
  subst hN
  have hbytes : n.toNatClampNeg * 4 ≤ 536870912 := by omega
  refine W.anew hx hb hown (hts _ hcl) (va_AO.use hover) rfl hdg rfl hn hbytes hcells (Nat.le_trans (Nat.add_le_add_left hKn _) hslots) fun cA kA comp f1 f2 f3 f4 => ?_
  generalize hH1 : H.push ({ cls := cA, slots := Array.replicate n.toNatClampNeg .null, vm := .none } : Cell) = H1
  have z1 : H1.size = H.size + 1 := by rw [← hH1, Array.size_push]
  have e1 : H1[H.size]? = some (arrV cA n.toNatClampNeg (fun _ => .null)) := by rw [← hH1, Array.getElem?_push_size, ← arrV_new]
  have o1 : ∀ q : Nat, q < H.size → H1[q]? = H[q]? := fun q hq => by rw [← hH1, Array.getElem?_push, if_neg (Nat.ne_of_lt hq)]
  refine W.widen (k := cells + 1) (n := slots + K) (Nat.le_refl _) (Nat.add_le_add_left hKn _) ?_
  rw [hz] at z1 o1 e1 ⊢
  refine kk H1 _ rfl ?_ (fun _ _ h => gW_keep hW h) nw_tg
  have h1 : aR (nw σ (k + 13) n.toNatClampNeg) (sz σ) = fun _ => none := by funext i; exact if_pos rfl
  have h3 : ln (nw σ (k + 13) n.toNatClampNeg) (sz σ) = n.toNatClampNeg := if_pos rfl
  refine gW_new (t := k + 12) hW ?_ (by rw [hz]; exact z1) (by rw [hz]; exact o1)
  have hc : cA = cy k := by
    rcases hk with ⟨rfl, rfl⟩ | ⟨rfl, rfl⟩ | ⟨rfl, rfl⟩
    · obtain ⟨kA', comp', g1, g2, g3, g4⟩ := (hK.2 3 _ rfl).2
      exact Option.some.inj (f1.symm.trans g4)
    · obtain ⟨kA', comp', g1, g2, g3, g4⟩ := (hK.2 4 _ rfl).2
      exact Option.some.inj (f1.symm.trans g4)
    · obtain ⟨kA', comp', g1, g2, g3, g4⟩ := (hK.2 5 _ rfl).2
      exact Option.some.inj (f1.symm.trans g4)
  have hg3 : gar (nw σ (k + 12 + 1) n.toNatClampNeg) (sz σ) (k + 12 - 12) = .inr (.inr (.inr (.inr (aR (nw σ (k + 13) n.toNatClampNeg) (sz σ))))) := by
    rcases hk with ⟨-, rfl⟩ | ⟨-, rfl⟩ | ⟨-, rfl⟩ <;> rfl
  rw [gE_arr (by omega), hz, hg3, h1]
  show H1[sz σ]? = some (vp_cell (cy (k + 12 - 12)) (ln (nw σ (k + 12 + 1) n.toNatClampNeg) (sz σ), .inr (.inr (.inr (.inr (fun _ => none))))))
  rw [Nat.add_sub_cancel, ← hc, vp_cell_q]
  show H1[sz σ]? = some (arrV cA (ln (nw σ (k + 13) n.toNatClampNeg) (sz σ)) _)
  rw [h3]
  exact e1
-- references
theorem gx_ifnull (hx : p.tables.exec = Jvm.exec) (hb : c.code = cc) {o : Option Nat} {off : Int} {tgt : Nat} (hdg : decode cc pc = .ok (.ifnull off, 3)) (ht : (pc : Int) + off = (tgt : Int)) (kt : o = none → W p l e R s m args below meth c H locs cells slots Q (F0 m tgt ls rest)) (kf : ¬ o = none → W p l e R s m args below meth c H locs cells slots Q (F0 m (pc + 3) ls rest)) : W p l e R s m args below meth c H locs cells slots Q (F0 m pc ls (va_rf o :: rest)) := by
  cases o with
  | none => exact lv_ifnullN hx hb hdg ht (kt rfl)
  | some a => exact lv_ifnull hx hb hdg (kf (fun h => by cases h))
theorem gx_ifnonnull (hx : p.tables.exec = Jvm.exec) (hb : c.code = cc) {o : Option Nat} {off : Int} {tgt : Nat} (hdg : decode cc pc = .ok (.ifnonnull off, 3)) (ht : (pc : Int) + off = (tgt : Int)) (kt : ¬ o = none → W p l e R s m args below meth c H locs cells slots Q (F0 m tgt ls rest)) (kf : o = none → W p l e R s m args below meth c H locs cells slots Q (F0 m (pc + 3) ls rest)) : W p l e R s m args below meth c H locs cells slots Q (F0 m pc ls (va_rf o :: rest)) := by
  cases o with
  | none => exact lv_ifnonnullN hx hb hdg (kf rfl)
  | some a => exact lv_ifnonnull hx hb hdg ht (kt (fun h => by cases h))
theorem gx_null (hx : p.tables.exec = Jvm.exec) (hb : c.code = cc) (hdg : decode cc pc = .ok (.aconst_null, 1)) (k : W p l e R s m args below meth c H locs cells slots Q (F0 m (pc + 1) ls (va_rf none :: rest))) : W p l e R s m args below meth c H locs cells slots Q (F0 m pc ls rest) := lv_null hx hb hdg k
theorem gx_aload_n (hx : p.tables.exec = Jvm.exec) (hb : c.code = cc) {k : Fin 4} {i : Nat} {o : Option Nat} (hdg : decode cc pc = .ok (.aload_n k, 1)) (hi : (k : Nat) = i) (hl : ls[i]? = some (.val (va_rf o))) (kk : W p l e R s m args below meth c H locs cells slots Q (F0 m (pc + 1) ls (va_rf o :: rest))) : W p l e R s m args below meth c H locs cells slots Q (F0 m pc ls rest) := by
  cases o with
  | none => exact lv_aload_nN hx hb hdg hi hl kk
  | some a => exact lv_aload_n hx hb hdg hi hl kk
theorem gx_aload (hx : p.tables.exec = Jvm.exec) (hb : c.code = cc) {i : Nat} {o : Option Nat} (hdg : decode cc pc = .ok (.aload i, 2)) (hl : ls[i]? = some (.val (va_rf o))) (kk : W p l e R s m args below meth c H locs cells slots Q (F0 m (pc + 2) ls (va_rf o :: rest))) : W p l e R s m args below meth c H locs cells slots Q (F0 m pc ls rest) := by
  cases o with
  | none => exact lv_aloadN hx hb hdg hl kk
  | some a => exact lv_aload hx hb hdg hl kk
theorem gx_astore_n (hx : p.tables.exec = Jvm.exec) (hb : c.code = cc) {k : Fin 4} {i nL : Nat} {o : Option Nat} {lv lv' : List (Nat × Value)} (hdg : decode cc pc = .ok (.astore_n k, 1)) (hi : (k : Nat) = i) (h : lv_has ls nL lv) (hn : i < nL) (hl : (i, va_rf o) :: lv.filter (fun q => !(q.1 == i) && !(q.1 + 1 == i && q.2.category == 2)) = lv')
    (kk : ∀ ls' : Array Slot, lv_has ls' nL lv' → W p l e R s m args below meth c H locs cells slots Q (F0 m (pc + 1) ls' rest)) : W p l e R s m args below meth c H locs cells slots Q (F0 m pc ls (va_rf o :: rest)) := by
  cases o with
  | none => exact lv_astore_nN hx hb hdg hi h hn hl kk
  | some a => exact lv_astore_n hx hb hdg hi h hn hl kk
theorem gx_astore (hx : p.tables.exec = Jvm.exec) (hb : c.code = cc) {i nL : Nat} {o : Option Nat} {lv lv' : List (Nat × Value)} (hdg : decode cc pc = .ok (.astore i, 2)) (h : lv_has ls nL lv) (hn : i < nL) (hl : (i, va_rf o) :: lv.filter (fun q => !(q.1 == i) && !(q.1 + 1 == i && q.2.category == 2)) = lv')
    (kk : ∀ ls' : Array Slot, lv_has ls' nL lv' → W p l e R s m args below meth c H locs cells slots Q (F0 m (pc + 2) ls' rest)) : W p l e R s m args below meth c H locs cells slots Q (F0 m pc ls (va_rf o :: rest)) := by
  cases o with
  | none => exact lv_astoreN hx hb hdg h hn hl kk
  | some a => exact lv_astore hx hb hdg h hn hl kk
-- calls
theorem gA_sub {σ0 : Sg} (hW : gW D cy (gA σ0) M H0 σ H locs) : ∀ q, gA σ q → gA σ0 q := by
  intro q hq
  rcases hq with h | h
  · exact hW.2.2.2.1 q h
  · exact hW.2.2.2.2.1 q (by have := hW.2.2.1.1; have := hW.2.1; omega)
theorem gx_pre (C : gC p s m args meth c D cy cc nL own ret nm) (hW : gW D cy A M H0 σ H locs) {av : List Value} : ∀ U : State, U.heap = H → s.WarmedH U.vm → gPc D cy av σ av.toArray U := by
  intro U hU hWm
  obtain ⟨hx, hb, hml, hown, hts, hlk, hK, hX, hr, hnm⟩ := C
  exact ⟨rfl, ⟨by rw [hU]; exact hW.1, by rw [hU]; exact hW.2.1⟩, va_K.moved hWm.alike hK, gX_moved hWm hX⟩
theorem gx_cB (C : gC p s m args meth c D cy cc nL own ret nm) {index n mc ms : Nat} {y : MethodName} {bytes : ByteArray} {maxL : Nat} {ret' : Option FieldType} {rm : Room} (h : gM own index y bytes maxL ret' n) (hrc : rm.cells = mc) (hrs : rm.slots = ms) (hR : rm.frames + 1 ≤ R.frames ∧ 8 + (maxL + 11) + rm.locals ≤ R.locals) : CallB R s args own index y bytes maxL ret' (.code y bytes maxL ret' :: wsL_law) rm mc ms n := by
  obtain ⟨hx, hb, hml, hown, hts, hlk, hK, hX, hr, hnm⟩ := C
  exact callB_of n hts (gIn h.2.2.1) rfl hrc hrs (hts _ h.2.1) (hts _ h.1) h.2.2.2 hR
theorem gx_fix (C : gC p s m args meth c D cy cc nL own ret nm) : CallFix p m c cc nL s args wsL_law own := ⟨C.1, C.2.1, C.2.2.1, C.2.2.2.1, C.2.2.2.2.1⟩
theorem gx_rV (C : gC p s m args meth c D cy cc nL own ret nm) (hW : gW D cy A M H0 σ H locs) {index n mc ms ci N b : Nat} {Cy : String} {T : u_T} {y : MethodName} {bytes : ByteArray} {maxL : Nat} {ret' : Option FieldType} {rm : Room} {Qc : Array Value → State → Outcome → State → Prop} {o : Option Nat} {As : List Value} (h : gMV own index Cy y bytes maxL ret' n) (hM : Met l y (.code y bytes maxL ret' :: wsL_law) rm (gPc D cy (va_rf (some b) :: As) σ) Qc mc ms (gA σ)) (hrc : rm.cells = mc) (hrs : rm.slots = ms) (hR : rm.frames + 1 ≤ R.frames ∧ 8 + (maxL + 11) + rm.locals ≤ R.locals) (ho : o = some b) (htb : tg σ b = ci + 1) (hci : ci < 12) (hcl : vwCl[ci]? = some (Cy, T, N)) (hn : As.length = n) (hsize : ls.size = nL) (hst : st = As.reverse ++ va_rf o :: rest) (hrest : rest.length ≤ 4) (hdg : decode cc pc = .ok (.invokevirtual index, 3)) (hf : cells + mc ≤ R.cells ∧ slots + ms ≤ R.slots) :
    va_Run p l e R s m args below meth c H locs cells slots mc ms (F0 m pc ls st) rest (Qc (va_rf (some b) :: As).toArray) (gA σ) := by
  subst ho
  have hat := gW_H hW htb
  rw [gE_obj hci] at hat
  obtain ⟨q', h1, cell, g1, g2, g3, -⟩ := hat
  have hq : q' = (Cy, T, N) := Option.some.inj (h1.symm.trans hcl)
  subst hq
  have hts := C.2.2.2.2.1
  have hK := C.2.2.2.2.2.2.1
  exact va_runV (gx_fix C) hM ⟨gx_cB C h.1 hrc hrs hR, hts _ h.2.1, hts _ h.2.2⟩ ⟨gPc_blind, ⟨cell, g1, by rw [g3]; rfl, by rw [g2]; exact (hK.1 ci _ hcl).2.1⟩, gx_pre C hW⟩ rfl hn hsize hst (gx_room hrest) hdg hf
theorem gx_rS (C : gC p s m args meth c D cy cc nL own ret nm) (hW : gW D cy A M H0 σ H locs) {index n mc ms : Nat} {y : MethodName} {bytes : ByteArray} {maxL : Nat} {ret' : Option FieldType} {rm : Room} {Qc : Array Value → State → Outcome → State → Prop} {As : List Value} (h : gMS own index y bytes maxL ret' n) (hM : Met l y (.code y bytes maxL ret' :: wsL_law) rm (gPc D cy As σ) Qc mc ms (gA σ)) (hrc : rm.cells = mc) (hrs : rm.slots = ms) (hR : rm.frames + 1 ≤ R.frames ∧ 8 + (maxL + 11) + rm.locals ≤ R.locals) (hn : As.length = n) (hsize : ls.size = nL) (hst : st = As.reverse ++ rest) (hrest : rest.length ≤ 4) (hdg : decode cc pc = .ok (.invokestatic index, 3)) (hf : cells + mc ≤ R.cells ∧ slots + ms ≤ R.slots) :
    va_Run p l e R s m args below meth c H locs cells slots mc ms (F0 m pc ls st) rest (Qc As.toArray) (gA σ) :=
  va_runS (gx_fix C) hM ⟨gx_cB C h.1 hrc hrs hR, C.2.2.2.2.1 _ h.2⟩ ⟨gPc_blind, gx_pre C hW⟩ rfl hn hsize hst (gx_room hrest) hdg hf
theorem gx_rI (C : gC p s m args meth c D cy cc nL own ret nm) (hW : gW D cy A M H0 σ H locs) {index n mc ms b : Nat} {y : MethodName} {bytes : ByteArray} {maxL : Nat} {rm : Room} {Qc : Array Value → State → Outcome → State → Prop} {o : Option Nat} {As : List Value} (h : gMI own index y bytes maxL n) (hM : Met l y (.code y bytes maxL none :: wsL_law) rm (gPc D cy (va_rf (some b) :: As) σ) Qc mc ms (gA σ)) (hrc : rm.cells = mc) (hrs : rm.slots = ms) (hR : rm.frames + 1 ≤ R.frames ∧ 8 + (maxL + 11) + rm.locals ≤ R.locals) (ho : o = some b) (hn : As.length = n) (hsize : ls.size = nL) (hst : st = As.reverse ++ va_rf o :: rest) (hrest : rest.length ≤ 4) (hdg : decode cc pc = .ok (.invokespecial index, 3)) (hf : cells + mc ≤ R.cells ∧ slots + ms ≤ R.slots) :
    va_Run p l e R s m args below meth c H locs cells slots mc ms (F0 m pc ls st) rest (Qc (va_rf (some b) :: As).toArray) (gA σ) := by
  subst ho
  exact va_runI (gx_fix C) hM ⟨gx_cB C h.1 hrc hrs hR, h.2.1, C.2.2.2.2.1 _ h.2.2⟩ ⟨gPc_blind, gx_pre C hW⟩ rfl hn hsize hst (gx_room hrest) hdg hf
theorem gx_rN (C : gC p s m args meth c D cy cc nL own ret nm) (hW : gW D cy A M H0 σ H locs) {index n mc ms b : Nat} {host : String} {y : MethodName} {bytes : ByteArray} {maxL : Nat} {rm : Room} {Qc : Array Value → State → Outcome → State → Prop} {o : Option Nat} {As : List Value} (h : gMN own index y bytes maxL n) (hnest : va_Nw (.methodLinkNest own index y host) s) (hM : Met l y (.code y bytes maxL none :: wsL_law) rm (gPc D cy (va_rf (some b) :: As) σ) Qc mc ms (gA σ)) (hrc : rm.cells = mc) (hrs : rm.slots = ms) (hR : rm.frames + 1 ≤ R.frames ∧ 8 + (maxL + 11) + rm.locals ≤ R.locals) (ho : o = some b) (hn : As.length = n) (hsize : ls.size = nL) (hst : st = As.reverse ++ va_rf o :: rest) (hrest : rest.length ≤ 4) (hdg : decode cc pc = .ok (.invokespecial index, 3)) (hf : cells + mc ≤ R.cells ∧ slots + ms ≤ R.slots) :
    va_Run p l e R s m args below meth c H locs cells slots mc ms (F0 m pc ls st) rest (Qc (va_rf (some b) :: As).toArray) (gA σ) := by
  subst ho
  have hts := C.2.2.2.2.1
  exact va_runIN (gx_fix C) hM ⟨va_cnB n hts (gIn h.2.1) rfl hrc hrs hnest (hts _ h.1) h.2.2.1 hR, h.2.2.2.1, hts _ h.2.2.2.2⟩ ⟨gPc_blind, gx_pre C hW⟩ rfl hn hsize hst (gx_room hrest) hdg hf
theorem gW_back {σ1 : Sg} {t : State} {H1 : Heap} {locs1 : List Loc} (hW : gW D cy A M H0 σ H locs) (hA : ∀ q, gA σ q → A q) (ht : t.heap = H1) (hB : gB D cy σ σ1 t) (hS : va_S A H0 H1 locs1) : gW D cy A M H0 σ1 H1 locs1 := by
  obtain ⟨h1, h2, h3, h4⟩ := hB
  rw [ht] at h1 h2
  exact ⟨h1, h2, hS, fun q hq => hA q (h3 q hq), hW.2.2.2.2.1, fun q t hq => h4 q t (hW.2.2.2.2.2 q t hq)⟩
theorem gA_up (hW : gW D cy A M H0 σ H locs) : ∀ q, gA σ q → A q := by
  intro q hq
  rcases hq with h | h
  · exact hW.2.2.2.1 q h
  · exact hW.2.2.2.2.1 q (by have := hW.2.2.1.1; have := hW.2.1; omega)
variable {mc ms : Nat} {a0 : Array Value} {rest st : List Value}
theorem gx_ci {post : Int32 → Sg → Prop} (hr : va_Run p l e R s m args below meth c H locs cells slots mc ms (F0 m pc ls st) rest (va_Qi post (gB D cy σ) (gA σ) a0) (gA σ)) (hW : gW D cy A M H0 σ H locs)
    (kk : ∀ (r : Int32) (σ1 : Sg) (H1 : Heap) (locs1 : List Loc), gW D cy A M H0 σ1 H1 locs1 → (∀ q t, tg σ q = t + 1 → tg σ1 q = t + 1) → post r σ1 → W p l e R s m args below meth c H1 locs1 (cells + mc) (slots + ms) Q (F0 m (pc + 3) ls (.int r :: rest))) : W p l e R s m args below meth c H locs cells slots Q (F0 m pc ls st) :=
  va_calli hr hW.2.2.1 (fun q _ h => gA_up hW q h) (gA_up hW) (fun r σ1 t H1 locs1 ht hvm hp hB hz1 hk1 hS => kk r σ1 H1 locs1 (gW_back hW (gA_up hW) ht hB hS) hB.2.2.2 hp)
theorem gx_cl {post : Int64 → Sg → Prop} (hr : va_Run p l e R s m args below meth c H locs cells slots mc ms (F0 m pc ls st) rest (va_Ql post (gB D cy σ) (gA σ) a0) (gA σ)) (hW : gW D cy A M H0 σ H locs)
    (kk : ∀ (r : Int64) (σ1 : Sg) (H1 : Heap) (locs1 : List Loc), gW D cy A M H0 σ1 H1 locs1 → (∀ q t, tg σ q = t + 1 → tg σ1 q = t + 1) → post r σ1 → W p l e R s m args below meth c H1 locs1 (cells + mc) (slots + ms) Q (F0 m (pc + 3) ls (.long r :: rest))) : W p l e R s m args below meth c H locs cells slots Q (F0 m pc ls st) :=
  va_calll hr hW.2.2.1 (fun q _ h => gA_up hW q h) (gA_up hW) (fun r σ1 t H1 locs1 ht hvm hp hB hz1 hk1 hS => kk r σ1 H1 locs1 (gW_back hW (gA_up hW) ht hB hS) hB.2.2.2 hp)
theorem gx_cq {post : Option Nat → Sg → Prop} (hr : va_Run p l e R s m args below meth c H locs cells slots mc ms (F0 m pc ls st) rest (va_Qq post (gB D cy σ) (gA σ) a0) (gA σ)) (hW : gW D cy A M H0 σ H locs)
    (kk : ∀ (r : Option Nat) (σ1 : Sg) (H1 : Heap) (locs1 : List Loc), gW D cy A M H0 σ1 H1 locs1 → (∀ q t, tg σ q = t + 1 → tg σ1 q = t + 1) → post r σ1 → W p l e R s m args below meth c H1 locs1 (cells + mc) (slots + ms) Q (F0 m (pc + 3) ls (va_rf r :: rest))) : W p l e R s m args below meth c H locs cells slots Q (F0 m pc ls st) :=
  va_callq hr hW.2.2.1 (fun q _ h => gA_up hW q h) (gA_up hW) (fun r σ1 t H1 locs1 ht hvm hp hB hz1 hk1 hS => kk r σ1 H1 locs1 (gW_back hW (gA_up hW) ht hB hS) hB.2.2.2 hp)
theorem gx_cv {post : Sg → Prop} (hr : va_Run p l e R s m args below meth c H locs cells slots mc ms (F0 m pc ls st) rest (va_Qv post (gB D cy σ) (gA σ) a0) (gA σ)) (hW : gW D cy A M H0 σ H locs)
    (kk : ∀ (σ1 : Sg) (H1 : Heap) (locs1 : List Loc), gW D cy A M H0 σ1 H1 locs1 → (∀ q t, tg σ q = t + 1 → tg σ1 q = t + 1) → post σ1 → W p l e R s m args below meth c H1 locs1 (cells + mc) (slots + ms) Q (F0 m (pc + 3) ls rest)) : W p l e R s m args below meth c H locs cells slots Q (F0 m pc ls st) :=
  va_callv hr hW.2.2.1 (fun q _ h => gA_up hW q h) (gA_up hW) (fun σ1 t H1 locs1 ht hvm hp hB hz1 hk1 hS => kk σ1 H1 locs1 (gW_back hW (gA_up hW) ht hB hS) hB.2.2.2 hp)
-- ends
variable {σ0 : Sg}
theorem gB_of {t : State} (hW : gW D cy (gA σ0) (tg σ0) s.heap σ H locs) (ht : t.heap = H) : gB D cy σ0 σ t := ⟨by rw [ht]; exact hW.1, by rw [ht]; exact hW.2.1, hW.2.2.2.1, hW.2.2.2.2.2⟩
theorem gx_iret {post : Int32 → Sg → Prop} {v : Int32} {ft : FieldType} (C : gC p s m args meth c D cy cc nL own (some ft) nm) (hW : gW D cy (gA σ0) (tg σ0) s.heap σ H locs) (hc : cells ≤ mc) (hs : slots ≤ ms) (hn : narrow ft (.int v) = .int v) (hq : post v σ) (hdg : decode cc pc = .ok (.ireturn, 1)) :
    W p l e R s m args below meth c H locs cells slots (MQ below (va_Qi post (gB D cy σ0) (gA σ0)) args s mc ms (gA σ0)) (F0 m pc ls [.int v]) := by
  obtain ⟨hx, hb, hml, hown, hts, hlk, hK, hX, hr, hnm⟩ := C
  refine W.widen (k := mc) (n := ms) hc hs ?_
  exact W.zret hx hb hr hn (fun t ht _ => ⟨⟨v, σ, rfl, hq, gB_of hW ht⟩, hW.2.2.1.F ht⟩) hW.2.2.1.2.2 hdg hlk
theorem gx_lret {post : Int64 → Sg → Prop} {v : Int64} (C : gC p s m args meth c D cy cc nL own (some .long) nm) (hW : gW D cy (gA σ0) (tg σ0) s.heap σ H locs) (hc : cells ≤ mc) (hs : slots ≤ ms) (hq : post v σ) (hdg : decode cc pc = .ok (.lreturn, 1)) :
    W p l e R s m args below meth c H locs cells slots (MQ below (va_Ql post (gB D cy σ0) (gA σ0)) args s mc ms (gA σ0)) (F0 m pc ls [.long v]) := by
  obtain ⟨hx, hb, hml, hown, hts, hlk, hK, hX, hr, hnm⟩ := C
  refine W.widen (k := mc) (n := ms) hc hs ?_
  exact W.lret hx hb hr (fun t ht _ => ⟨⟨v, σ, rfl, hq, gB_of hW ht⟩, hW.2.2.1.F ht⟩) hW.2.2.1.2.2 hdg hlk
theorem gx_vret {post : Sg → Prop} (C : gC p s m args meth c D cy cc nL own none nm) (hW : gW D cy (gA σ0) (tg σ0) s.heap σ H locs) (hc : cells ≤ mc) (hs : slots ≤ ms) (hq : post σ) (hdg : decode cc pc = .ok (.return_, 1)) :
    W p l e R s m args below meth c H locs cells slots (MQ below (va_Qv post (gB D cy σ0) (gA σ0)) args s mc ms (gA σ0)) (F0 m pc ls []) := by
  obtain ⟨hx, hb, hml, hown, hts, hlk, hK, hX, hr, hnm⟩ := C
  refine W.widen (k := mc) (n := ms) hc hs ?_
  exact W.vret hx hb hr (fun t ht _ => ⟨⟨σ, rfl, hq, gB_of hW ht⟩, hW.2.2.1.F ht⟩) hW.2.2.1.2.2 hdg hlk
theorem gx_aret {post : Option Nat → Sg → Prop} {o : Option Nat} {Cn : String} (C : gC p s m args meth c D cy cc nL own (some (.object Cn)) nm) (hW : gW D cy (gA σ0) (tg σ0) s.heap σ H locs) (hc : cells ≤ mc) (hs : slots ≤ ms) (hq : post o σ) (hdg : decode cc pc = .ok (.areturn, 1)) :
    W p l e R s m args below meth c H locs cells slots (MQ below (va_Qq post (gB D cy σ0) (gA σ0)) args s mc ms (gA σ0)) (F0 m pc ls [va_rf o]) := by
  obtain ⟨hx, hb, hml, hown, hts, hlk, hK, hX, hr, hnm⟩ := C
  refine W.widen (k := mc) (n := ms) hc hs ?_
  exact W.aret hx hb hr (Or.inl ⟨_, rfl⟩) (va_rf_or o) (fun t ht _ => ⟨⟨o, σ, rfl, hq, gB_of hW ht⟩, hW.2.2.1.F ht⟩) hW.2.2.1.2.2 hdg hlk
theorem gx_objInit (C : gC p s m args meth c D cy cc nL own ret nm) {index a : Nat} {o : Option Nat} (hl : Cond.methodLink own index objectInit ∈ wsL_law) (hi : Cond.instanceMethod objectInit ∈ wsL_law) (hcd : Cond.code objectInit ⟨#[0xb1]⟩ 1 none ∈ wsL_law) (ho : o = some a) (hsize : ls.size = nL) (hdg : decode cc pc = .ok (.invokespecial index, 3)) (hfr : 1 ≤ R.frames) (hloc : 20 ≤ R.locals) (hrest : rest.length ≤ 4)
    (kk : W p l e R s m args below meth c H locs cells slots Q (F0 m (pc + 3) ls rest)) : W p l e R s m args below meth c H locs cells slots Q (F0 m pc ls (va_rf o :: rest)) := by
  obtain ⟨hx, hb, hml, hown, hts, hlk, hK, hX, hr, hnm⟩ := C
  subst ho
  have h8 := gx_room (m := m) (pc := pc) (ls := ls) (s0 := va_rf (some a) :: rest) hrest
  exact W.objInit hx hb hown (hts _ hl) (hts _ hi) (hts _ hcd) rfl (by rw [hml]; exact hsize) rfl hdg hfr (by omega) kk
theorem gx_met {y : MethodName} {rm : Room} {av : List Value} {Qc : Array Value → State → Outcome → State → Prop} {maxL : Nat} (hy : plainName y.cls = true) (hlen : (lg_sl av).length ≤ maxL)
    (body : ∀ (p : Program) (e : Env) (s : State) (m : MethodId) (args : Array Value) (below : List Frame) (meth : Method) (c : Code) (ls : Array Slot), gC p s m args meth c D cy cc maxL y.cls ret y.name → gW D cy (gA σ) (tg σ) s.heap σ s.heap [] → lv_has ls maxL (lv_args 0 av) →
      W p l e rm s m args below meth c s.heap [] 0 0 (MQ below Qc args s mc ms (gA σ)) (F0 m 0 ls [])) : Met l y (.code y cc maxL ret :: wsL_law) rm (gPc D cy av σ) Qc mc ms (gA σ) := by
  refine Met.ofW (cc := cc) (maxL := maxL) (ret := ret) hy rfl ?_
  intro p e s m args below meth c s₁ B hml hv
  obtain ⟨rfl, ⟨hH, hz⟩, hK, hX⟩ := hv
  have hts := atoms_spec (ws := .code y cc maxL ret :: wsL_law) B.pre
  have hown : s.vm.findClass y.cls = some m.cls := findClass_of_methodNamed B.named
  have hin : meth.name = y.name := (name_of_methodNamed B.named B.method).1
  have hl := lv_entry av (n := maxL) hlen
  rw [lg_entry_eq]
  exact body p e s m av.toArray below meth c _ ⟨B.exec, B.bytes, hml, hown, fun w hw => hts w (List.mem_cons_of_mem _ hw), B.notSynchronized, hK, hX, B.returns, hin⟩ ⟨hH, hz, va_S.rf, fun q hq => Or.inl hq, fun q hq => Or.inr (by rw [← hz]; exact hq), fun _ _ h => h⟩ hl
theorem gx_topr {o : Option Nat} (k : ∀ y : Option Nat, y = o → W p l e R s m args below meth c H locs cells slots Q (F0 m pc ls (va_rf y :: rest))) : W p l e R s m args below meth c H locs cells slots Q (F0 m pc ls (va_rf o :: rest)) := k o rfl
theorem gx_mmax (C : gC p s m args meth c D cy cc nL own ret nm) {index : Nat} (hl : Cond.methodLink own index Lib.Math.max.name ∈ wsL_law) (hs : Cond.static Lib.Math.max.name ∈ wsL_law) (hi : Cond.initialized "java/lang/Math" ∈ wsL_law) (hcd : Cond.code Lib.Math.max.name Lib.Math.max.code 2 (some .int) ∈ wsL_law) (hsize : ls.size = nL) (hfr : 1 ≤ R.frames) (hloc : 21 ≤ R.locals) (hc : cells ≤ R.cells) (hs2 : slots ≤ R.slots) (hrest : rest.length ≤ 4) {x y : Int32} (hdg : decode cc pc = .ok (.invokestatic index, 3))
    (kk : W p l e R s m args below meth c H locs cells slots Q (F0 m (pc + 3) ls (.int (if x < y then y else x) :: rest))) : W p l e R s m args below meth c H locs cells slots Q (F0 m pc ls (.int y :: .int x :: rest)) := by
  obtain ⟨hx, hb, hml, hown, hts, hlk, hK, hX, hr, hnm⟩ := C
  have h8 := gx_room0 (n := 4) hrest
  exact va_mmax hx hb (by rw [hml, hsize]) hown (hts _ hl) (hts _ hs) (hts _ hi) (hts _ hcd) hfr (by omega) hc hs2 hdg kk
theorem gx_tdef (hx : p.tables.exec = Jvm.exec) (hb : c.code = cc) {dflt lo hi : Int} {offs : Array Int} {len n tgt : Nat} {x : Int32} (hdg : decode cc pc = .ok (.tableswitch dflt lo hi offs, len)) (ht : (pc : Int) + dflt = (tgt : Int)) (hn : hi = lo + (n : Int) - 1) (hg : ∀ j : Nat, j < n → x.toInt = lo + (j : Int) → offs[j]? = some dflt)
    (k : W p l e R s m args below meth c H locs cells slots Q (F0 m tgt ls rest)) : W p l e R s m args below meth c H locs cells slots Q (F0 m pc ls (.int x :: rest)) := by
  by_cases h1 : x.toInt < lo
  · exact lv_tableOut hx hb hdg (Or.inl h1) ht k
  · by_cases h2 : hi < x.toInt
    · exact lv_tableOut hx hb hdg (Or.inr h2) ht k
    · have e1 : ((x.toInt - lo).toNat : Int) = x.toInt - lo := Int.toNat_of_nonneg (by omega)
      exact lv_tableIn hx hb hdg h1 h2 (hg (x.toInt - lo).toNat (by omega) (by omega)) ht k
end GX
theorem tb_ne {x c : Int32} {z : Int} {P : Prop} (h : ¬ x = c) (hc : c.toInt = z) (hx : x.toInt = z) : P := absurd (Int32.toInt_inj.mp (hx.trans hc.symm)) h
theorem tb_nei {x c : Int32} {z : Int} (h : ¬ x = c) (hc : c.toInt = z) : ¬ z = x.toInt := fun e => h (Int32.toInt_inj.mp (e.symm.trans hc.symm))
theorem w_t {c : Prop} {dc : Decidable c} {A B : Prop} (h : @ite Prop c dc A B) (hc : c) : A := by rwa [if_pos hc] at h
theorem w_f {c : Prop} {dc : Decidable c} {A B : Prop} (h : @ite Prop c dc A B) (hc : ¬ c) : B := by rwa [if_neg hc] at h
theorem bz_n {x : Int32} (h : x = 0 ∨ x = 1) : narrow .boolean (.int x) = .int x := by rcases h with rfl | rfl <;> rfl
theorem bz_f {x : Int32} (h : x = 0 ∨ x = 1) : fits .boolean (.int x) = true := by rcases h with rfl | rfl <;> rfl
end
section
theorem cat_i (x : Int32) : (Value.int x).category = 1 := rfl
theorem cat_l (x : Int64) : (Value.long x).category = 2 := rfl
end
section
/-! TrialStair$Failure.<init> -/
def wX0_init (x0 : Nat) (x1 : Int32) (x2 : Option Nat) (S0 : Sg) (Q : Sg → Prop) : Prop := ∀ S1 : Sg, S1 = sFI S0 0 x0 x1 → ∀ S2 : Sg, S2 = sFR S1 1 x0 x2 → Q S2
set_option maxHeartbeats 4000000 in
set_option maxRecDepth 100000 in
theorem mX0_init (l : Launch) (D : va_G) (cy : Nat → ClassId) (x0 : Nat) (x1 : Int32) (x2 : Option Nat) (S0 : Sg) (Q : Sg → Prop) (t0 : tg S0 x0 = 1) (hw : wX0_init x0 x1 x2 S0 Q) : Met l yX0_init (.code yX0_init cX0_init 3 none :: wsL_law) { frames := 1, cells := 0, slots := 0, locals := 20 } (gPc D cy [va_rf (some x0), .int x1, va_rf x2] S0) (va_Qv Q (gB D cy S0) (gA S0)) 0 0 (gA S0) := by
  refine gx_met (by decide) (by simp [lg_sl, va_rf_cat, cat_i, cat_l]) ?_
  intro p e s m args below meth c ls C hW hl
  have hx := C.1
  have hb := C.2.1
  have hl : lv_has ls 3 [(0, va_rf (some x0)), (1, .int x1), (2, va_rf x2)] := by simpa [lv_args, va_rf_cat, cat_i, cat_l] using hl
  unfold wX0_init at hw
  refine gx_aload_n hx hb dX0_init_0 rfl (lv_at hl 0 rfl) ?_
  refine gx_objInit C (List.mem_of_getElem? (i := 347) (by decide +kernel)) (List.mem_of_getElem? (i := 10) (by decide +kernel)) (List.mem_of_getElem? (i := 11) (by decide +kernel)) rfl hl.1 dX0_init_1 (Nat.le_of_ble_eq_true rfl) (Nat.le_of_ble_eq_true rfl) (Nat.le_of_ble_eq_true rfl) ?_
  refine gx_aload_n hx hb dX0_init_4 rfl (lv_at hl 0 rfl) ?_
  refine lv_iload_n hx hb dX0_init_5 rfl (lv_at hl 1 rfl) ?_
  refine gx_putI (k := 0) C hW F0_7 (Or.inr ⟨rfl, rfl, rfl⟩) rfl t0 rfl rfl rfl dX0_init_6 (fun H locs S1 eS1 hW hm => ?_)
  have hw := hw S1 eS1
  have t0 := hm _ _ t0
  refine gx_aload_n hx hb dX0_init_9 rfl (lv_at hl 0 rfl) ?_
  refine gx_aload_n hx hb dX0_init_10 rfl (lv_at hl 2 rfl) ?_
  refine gx_putR (k := 1) C hW F0_13 (Or.inr ⟨rfl, rfl, rfl⟩) rfl rfl t0 rfl dX0_init_11 (fun H locs S2 eS2 hW hm => ?_)
  have hw := hw S2 eS2
  have t0 := hm _ _ t0
  exact gx_vret C hW (Nat.le_of_ble_eq_true rfl) (Nat.le_of_ble_eq_true rfl) hw dX0_init_14
/-! TrialStair$Step.<init> -/
def wX7_init (x0 : Nat) (x1 : Int32) (x2 : Int32) (x3 : Int32) (x4 : Int32) (x5 : Int32) (S0 : Sg) (Q : Sg → Prop) : Prop := ∀ S1 : Sg, S1 = sFI S0 454 x0 (-1 : Int32) → ∀ S2 : Sg, S2 = sFI S1 455 x0 (-1 : Int32) → ∀ S3 : Sg, S3 = sFI S2 456 x0 (-1 : Int32) → ∀ S4 : Sg, S4 = sFI S3 448 x0 x1 → ∀ S5 : Sg, S5 = sFI S4 449 x0 x2 → ∀ S6 : Sg, S6 = sFI S5 450 x0 x3 → ∀ S7 : Sg, S7 = sFI S6 451 x0 x4 → ∀ S8 : Sg, S8 = sFI S7 452 x0 x5 → Q S8
set_option maxHeartbeats 4000000 in
set_option maxRecDepth 100000 in
theorem mX7_init (l : Launch) (D : va_G) (cy : Nat → ClassId) (x0 : Nat) (x1 : Int32) (x2 : Int32) (x3 : Int32) (x4 : Int32) (x5 : Int32) (S0 : Sg) (Q : Sg → Prop) (t0 : tg S0 x0 = 8) (hw : wX7_init x0 x1 x2 x3 x4 x5 S0 Q) : Met l yX7_init (.code yX7_init cX7_init 6 none :: wsL_law) { frames := 1, cells := 0, slots := 0, locals := 20 } (gPc D cy [va_rf (some x0), .int x1, .int x2, .int x3, .int x4, .int x5] S0) (va_Qv Q (gB D cy S0) (gA S0)) 0 0 (gA S0) := by
  refine gx_met (by decide) (Nat.le_of_ble_eq_true rfl) ?_
  intro p e s m args below meth c ls C hW hl
  have hx := C.1
  have hb := C.2.1
  have hl : lv_has ls 6 [(0, va_rf (some x0)), (1, .int x1), (2, .int x2), (3, .int x3), (4, .int x4), (5, .int x5)] := hl
  unfold wX7_init at hw
  refine gx_aload_n hx hb dX7_init_0 rfl (lv_at hl 0 rfl) ?_
  refine gx_objInit C (List.mem_of_getElem? (i := 72) (by decide +kernel)) (List.mem_of_getElem? (i := 10) (by decide +kernel)) (List.mem_of_getElem? (i := 11) (by decide +kernel)) rfl hl.1 dX7_init_1 (Nat.le_of_ble_eq_true rfl) (Nat.le_of_ble_eq_true rfl) (Nat.le_of_ble_eq_true rfl) ?_
  refine gx_aload_n hx hb dX7_init_4 rfl (lv_at hl 0 rfl) ?_
  refine lv_iconst (v := -1) hx hb dX7_init_5 (by decide) ?_
  refine gx_putI (k := 454) C hW F7_7 (Or.inl rfl) rfl t0 rfl rfl rfl dX7_init_6 (fun H locs S1 eS1 hW hm => ?_)
  have hw := hw S1 eS1
  have t0 := hm _ _ t0
  refine gx_aload_n hx hb dX7_init_9 rfl (lv_at hl 0 rfl) ?_
  refine lv_iconst (v := -1) hx hb dX7_init_10 (by decide) ?_
  refine gx_putI (k := 455) C hW F7_13 (Or.inl rfl) rfl t0 rfl rfl rfl dX7_init_11 (fun H locs S2 eS2 hW hm => ?_)
  have hw := hw S2 eS2
  have t0 := hm _ _ t0
  refine gx_aload_n hx hb dX7_init_14 rfl (lv_at hl 0 rfl) ?_
  refine lv_iconst (v := -1) hx hb dX7_init_15 (by decide) ?_
  refine gx_putI (k := 456) C hW F7_16 (Or.inl rfl) rfl t0 rfl rfl rfl dX7_init_16 (fun H locs S3 eS3 hW hm => ?_)
  have hw := hw S3 eS3
  have t0 := hm _ _ t0
  refine gx_aload_n hx hb dX7_init_19 rfl (lv_at hl 0 rfl) ?_
  refine lv_iload_n hx hb dX7_init_20 rfl (lv_at hl 1 rfl) ?_
  refine gx_putI (k := 448) C hW F7_19 (Or.inr ⟨rfl, rfl, rfl⟩) rfl t0 rfl rfl rfl dX7_init_21 (fun H locs S4 eS4 hW hm => ?_)
  have hw := hw S4 eS4
  have t0 := hm _ _ t0
  refine gx_aload_n hx hb dX7_init_24 rfl (lv_at hl 0 rfl) ?_
  refine lv_iload_n hx hb dX7_init_25 rfl (lv_at hl 2 rfl) ?_
  refine gx_putI (k := 449) C hW F7_22 (Or.inr ⟨rfl, rfl, rfl⟩) rfl t0 rfl rfl rfl dX7_init_26 (fun H locs S5 eS5 hW hm => ?_)
  have hw := hw S5 eS5
  have t0 := hm _ _ t0
  refine gx_aload_n hx hb dX7_init_29 rfl (lv_at hl 0 rfl) ?_
  refine lv_iload_n hx hb dX7_init_30 rfl (lv_at hl 3 rfl) ?_
  refine gx_putI (k := 450) C hW F7_25 (Or.inr ⟨rfl, rfl, rfl⟩) rfl t0 rfl rfl rfl dX7_init_31 (fun H locs S6 eS6 hW hm => ?_)
  have hw := hw S6 eS6
  have t0 := hm _ _ t0
  refine gx_aload_n hx hb dX7_init_34 rfl (lv_at hl 0 rfl) ?_
  refine lv_iload hx hb dX7_init_35 (lv_at hl 4 rfl) ?_
  refine gx_putI (k := 451) C hW F7_28 (Or.inr ⟨rfl, rfl, rfl⟩) rfl t0 rfl rfl rfl dX7_init_37 (fun H locs S7 eS7 hW hm => ?_)
  have hw := hw S7 eS7
  have t0 := hm _ _ t0
  refine gx_aload_n hx hb dX7_init_40 rfl (lv_at hl 0 rfl) ?_
  refine lv_iload hx hb dX7_init_41 (lv_at hl 5 rfl) ?_
  refine gx_putI (k := 452) C hW F7_31 (Or.inr ⟨rfl, rfl, rfl⟩) rfl t0 rfl rfl rfl dX7_init_43 (fun H locs S8 eS8 hW hm => ?_)
  have hw := hw S8 eS8
  have t0 := hm _ _ t0
  exact gx_vret C hW (Nat.le_of_ble_eq_true rfl) (Nat.le_of_ble_eq_true rfl) hw dX7_init_46
/-! TrialStair$Step.fill -/
def wJ7_fill_53178_b5 : Nat → (Option Nat) → (Int32) → (Int32) → (Int32) → Sg → (Sg → Prop) → Prop
  | 0, _, _, _, _, _, _ => False
  | fu + 1, x0, x1, x2, x3, S, Q => (if x3 ≤ x2 then Q S else ∃ a4 : Nat, x0 = some a4 ∧ tg S a4 = 13 ∧ vp_in x2 (ln S a4) ∧ ∀ S6 : Sg, S6 = sAI S a4 (x2).toNatClampNeg x1 → ∀ y7 : Int32, y7 = x2 + (1) → wJ7_fill_53178_b5 fu x0 x1 y7 x3 S6 Q)
def wJ7_fill_53178 (x0 : Option Nat) (x1 : Int32) (S0 : Sg) (Q : Sg → Prop) : Prop := ∃ a1 : Nat, x0 = some a1 ∧ tg S0 a1 = 13 ∧ ∀ y2 : Int32, y2 = (nI (ln S0 a1)) → ∃ fu8 : Nat, wJ7_fill_53178_b5 fu8 x0 x1 (0 : Int32) y2 S0 Q
set_option maxHeartbeats 4000000 in
set_option maxRecDepth 100000 in
theorem kJ7_fill_53178_l5 {p : Program} {l : Launch} {e : Env} {s : State} {m : MethodId} {args : Array Value} {below : List Frame} {meth : Method} {c : Code} {D : va_G} {cy : Nat → ClassId} {S0 : Sg} (C : gC p s m args meth c D cy cJ7_fill_53178 4 yJ7_fill_53178.cls none yJ7_fill_53178.name) {x0 : Option Nat} {Q : Sg → Prop} : ∀ (fu : Nat) (x1 : Int32) (x2 : Int32) (x3 : Int32) (S : Sg) (H : Heap) (locs : List Loc) (ls : Array Slot) (hW : gW D cy (gA S0) (tg S0) s.heap S H locs) (hl : lv_has ls 4 [(0, va_rf x0), (1, .int x1), (2, .int x2), (3, .int x3)]) (hw : wJ7_fill_53178_b5 fu x0 x1 x2 x3 S Q), W p l e { frames := 0, cells := 0, slots := 0, locals := 0 } s m args below meth c H locs 0 0 (MQ below (va_Qv Q (gB D cy S0) (gA S0)) args s 0 0 (gA S0)) (F0 m 5 ls []) := by
  have hx := C.1
  have hb := C.2.1
  intro fu
  induction fu with
  | zero =>
    intro x1 x2 x3 S H locs ls hW hl hw
    unfold wJ7_fill_53178_b5 at hw
    exact hw.elim
  | succ fu ih =>
    intro x1 x2 x3 S H locs ls hW hl hw
    unfold wJ7_fill_53178_b5 at hw
    refine lv_iload_n hx hb dJ7_fill_53178_5 rfl (lv_at hl 2 rfl) ?_
    refine lv_iload_n hx hb dJ7_fill_53178_6 rfl (lv_at hl 3 rfl) ?_
    refine lv_icmp_ge (tgt := 20) hx hb dJ7_fill_53178_7 (by decide) (fun c3 => ?_) (fun c3 => ?_)
    · have hw := w_t hw c3
      exact gx_vret C hW (Nat.le_of_ble_eq_true rfl) (Nat.le_of_ble_eq_true rfl) hw dJ7_fill_53178_20
    · have hw := w_f hw c3
      refine gx_aload_n hx hb dJ7_fill_53178_10 rfl (lv_at hl 0 rfl) ?_
      refine lv_iload_n hx hb dJ7_fill_53178_11 rfl (lv_at hl 2 rfl) ?_
      refine lv_iload_n hx hb dJ7_fill_53178_12 rfl (lv_at hl 1 rfl) ?_
      obtain ⟨a4, ha4, ta4, hw⟩ := hw
      obtain ⟨i5, hw⟩ := hw
      refine gx_iast C hW ha4 ta4 i5 dJ7_fill_53178_13 (fun H locs S6 eS6 hW hm => ?_)
      have hw := hw S6 eS6
      have ta4 := hm _ _ ta4
      obtain ⟨y7, ey7⟩ : ∃ z : Int32, z = x2 + (1) := ⟨_, rfl⟩
      have hw := hw y7 ey7
      refine lv_iinc (v := y7) (lv' := [(2, .int y7), (0, va_rf x0), (1, .int x1), (3, .int x3)]) hx hb dJ7_fill_53178_14 hl (k := 2) rfl (by rw [ey7]; rfl) (by decide) rfl (fun ls hl => ?_)
      refine lv_goto (tgt := 5) hx hb dJ7_fill_53178_17 (by decide) ?_
      exact ih _ _ _ _ _ _ _ hW (lv_sub hl [1, 2, 0, 3] rfl) hw
theorem kJ7_fill_53178_b5 {p : Program} {l : Launch} {e : Env} {s : State} {m : MethodId} {args : Array Value} {below : List Frame} {meth : Method} {c : Code} {D : va_G} {cy : Nat → ClassId} {S0 : Sg} (C : gC p s m args meth c D cy cJ7_fill_53178 4 yJ7_fill_53178.cls none yJ7_fill_53178.name) {H : Heap} {locs : List Loc} {ls : Array Slot} {x0 : Option Nat} {x1 : Int32} {x2 : Int32} {x3 : Int32} {S : Sg} {Q : Sg → Prop} (fu : Nat) (hW : gW D cy (gA S0) (tg S0) s.heap S H locs) (hl : lv_has ls 4 [(0, va_rf x0), (1, .int x1), (2, .int x2), (3, .int x3)]) (hw : wJ7_fill_53178_b5 fu x0 x1 x2 x3 S Q) : W p l e { frames := 0, cells := 0, slots := 0, locals := 0 } s m args below meth c H locs 0 0 (MQ below (va_Qv Q (gB D cy S0) (gA S0)) args s 0 0 (gA S0)) (F0 m 5 ls []) := kJ7_fill_53178_l5 C fu _ _ _ _ _ _ _ hW hl hw
set_option maxHeartbeats 4000000 in
set_option maxRecDepth 100000 in
theorem mJ7_fill_53178 (l : Launch) (D : va_G) (cy : Nat → ClassId) (x0 : Option Nat) (x1 : Int32) (S0 : Sg) (Q : Sg → Prop) (hw : wJ7_fill_53178 x0 x1 S0 Q) : Met l yJ7_fill_53178 (.code yJ7_fill_53178 cJ7_fill_53178 4 none :: wsL_law) { frames := 0, cells := 0, slots := 0, locals := 0 } (gPc D cy [va_rf x0, .int x1] S0) (va_Qv Q (gB D cy S0) (gA S0)) 0 0 (gA S0) := by
  refine gx_met (by decide) (by simp [lg_sl, va_rf_cat, cat_i, cat_l]) ?_
  intro p e s m args below meth c ls C hW hl
  have hx := C.1
  have hb := C.2.1
  have hl : lv_has ls 4 [(0, va_rf x0), (1, .int x1)] := by simpa [lv_args, va_rf_cat, cat_i, cat_l] using hl
  unfold wJ7_fill_53178 at hw
  refine lv_iconst (v := 0) hx hb dJ7_fill_53178_0 (by decide) ?_
  refine lv_istore_n (lv' := [(2, .int (0 : Int32)), (0, va_rf x0), (1, .int x1)]) hx hb dJ7_fill_53178_1 rfl hl (by decide) rfl (fun ls hl => ?_)
  refine gx_aload_n hx hb dJ7_fill_53178_2 rfl (lv_at hl 1 rfl) ?_
  obtain ⟨a1, ha1, ta1, hw⟩ := hw
  refine gx_alen C hW ha1 (Or.inl ta1) dJ7_fill_53178_3 ?_
  refine lv_topi (fun y2 ey2 => ?_)
  have hw := hw y2 ey2
  refine lv_istore_n (lv' := [(3, .int y2), (2, .int (0 : Int32)), (0, va_rf x0), (1, .int x1)]) hx hb dJ7_fill_53178_4 rfl hl (by decide) rfl (fun ls hl => ?_)
  obtain ⟨fu8, hw⟩ := hw
  exact kJ7_fill_53178_b5 C fu8 hW (lv_sub hl [2, 3, 1, 0] rfl) hw
/-! TrialStair$Step.fill -/
def wJ7_fill_d0a16_b6 : Nat → (Option Nat) → (Int64) → (Int32) → (Int32) → Sg → (Sg → Prop) → Prop
  | 0, _, _, _, _, _, _ => False
  | fu + 1, x0, x1, x3, x4, S, Q => (if x4 ≤ x3 then Q S else ∃ a4 : Nat, x0 = some a4 ∧ tg S a4 = 14 ∧ vp_in x3 (ln S a4) ∧ ∀ S6 : Sg, S6 = sAL S a4 (x3).toNatClampNeg x1 → ∀ y7 : Int32, y7 = x3 + (1) → wJ7_fill_d0a16_b6 fu x0 x1 y7 x4 S6 Q)
def wJ7_fill_d0a16 (x0 : Option Nat) (x1 : Int64) (S0 : Sg) (Q : Sg → Prop) : Prop := ∃ a1 : Nat, x0 = some a1 ∧ tg S0 a1 = 14 ∧ ∀ y2 : Int32, y2 = (nI (ln S0 a1)) → ∃ fu8 : Nat, wJ7_fill_d0a16_b6 fu8 x0 x1 (0 : Int32) y2 S0 Q
set_option maxHeartbeats 4000000 in
set_option maxRecDepth 100000 in
theorem kJ7_fill_d0a16_l6 {p : Program} {l : Launch} {e : Env} {s : State} {m : MethodId} {args : Array Value} {below : List Frame} {meth : Method} {c : Code} {D : va_G} {cy : Nat → ClassId} {S0 : Sg} (C : gC p s m args meth c D cy cJ7_fill_d0a16 5 yJ7_fill_d0a16.cls none yJ7_fill_d0a16.name) {x0 : Option Nat} {Q : Sg → Prop} : ∀ (fu : Nat) (x1 : Int64) (x3 : Int32) (x4 : Int32) (S : Sg) (H : Heap) (locs : List Loc) (ls : Array Slot) (hW : gW D cy (gA S0) (tg S0) s.heap S H locs) (hl : lv_has ls 5 [(0, va_rf x0), (1, .long x1), (3, .int x3), (4, .int x4)]) (hw : wJ7_fill_d0a16_b6 fu x0 x1 x3 x4 S Q), W p l e { frames := 0, cells := 0, slots := 0, locals := 0 } s m args below meth c H locs 0 0 (MQ below (va_Qv Q (gB D cy S0) (gA S0)) args s 0 0 (gA S0)) (F0 m 6 ls []) := by
  have hx := C.1
  have hb := C.2.1
  intro fu
  induction fu with
  | zero =>
    intro x1 x3 x4 S H locs ls hW hl hw
    unfold wJ7_fill_d0a16_b6 at hw
    exact hw.elim
  | succ fu ih =>
    intro x1 x3 x4 S H locs ls hW hl hw
    unfold wJ7_fill_d0a16_b6 at hw
    refine lv_iload_n hx hb dJ7_fill_d0a16_6 rfl (lv_at hl 2 rfl) ?_
    refine lv_iload hx hb dJ7_fill_d0a16_7 (lv_at hl 3 rfl) ?_
    refine lv_icmp_ge (tgt := 22) hx hb dJ7_fill_d0a16_9 (by decide) (fun c3 => ?_) (fun c3 => ?_)
    · have hw := w_t hw c3
      exact gx_vret C hW (Nat.le_of_ble_eq_true rfl) (Nat.le_of_ble_eq_true rfl) hw dJ7_fill_d0a16_22
    · have hw := w_f hw c3
      refine gx_aload_n hx hb dJ7_fill_d0a16_12 rfl (lv_at hl 0 rfl) ?_
      refine lv_iload_n hx hb dJ7_fill_d0a16_13 rfl (lv_at hl 2 rfl) ?_
      refine lv_lload_n hx hb dJ7_fill_d0a16_14 rfl (lv_at hl 1 rfl) ?_
      obtain ⟨a4, ha4, ta4, hw⟩ := hw
      obtain ⟨i5, hw⟩ := hw
      refine gx_last C hW ha4 ta4 i5 dJ7_fill_d0a16_15 (fun H locs S6 eS6 hW hm => ?_)
      have hw := hw S6 eS6
      have ta4 := hm _ _ ta4
      obtain ⟨y7, ey7⟩ : ∃ z : Int32, z = x3 + (1) := ⟨_, rfl⟩
      have hw := hw y7 ey7
      refine lv_iinc (v := y7) (lv' := [(3, .int y7), (0, va_rf x0), (1, .long x1), (4, .int x4)]) hx hb dJ7_fill_d0a16_16 hl (k := 2) rfl (by rw [ey7]; rfl) (by decide) rfl (fun ls hl => ?_)
      refine lv_goto (tgt := 6) hx hb dJ7_fill_d0a16_19 (by decide) ?_
      exact ih _ _ _ _ _ _ _ hW (lv_sub hl [1, 2, 0, 3] rfl) hw
theorem kJ7_fill_d0a16_b6 {p : Program} {l : Launch} {e : Env} {s : State} {m : MethodId} {args : Array Value} {below : List Frame} {meth : Method} {c : Code} {D : va_G} {cy : Nat → ClassId} {S0 : Sg} (C : gC p s m args meth c D cy cJ7_fill_d0a16 5 yJ7_fill_d0a16.cls none yJ7_fill_d0a16.name) {H : Heap} {locs : List Loc} {ls : Array Slot} {x0 : Option Nat} {x1 : Int64} {x3 : Int32} {x4 : Int32} {S : Sg} {Q : Sg → Prop} (fu : Nat) (hW : gW D cy (gA S0) (tg S0) s.heap S H locs) (hl : lv_has ls 5 [(0, va_rf x0), (1, .long x1), (3, .int x3), (4, .int x4)]) (hw : wJ7_fill_d0a16_b6 fu x0 x1 x3 x4 S Q) : W p l e { frames := 0, cells := 0, slots := 0, locals := 0 } s m args below meth c H locs 0 0 (MQ below (va_Qv Q (gB D cy S0) (gA S0)) args s 0 0 (gA S0)) (F0 m 6 ls []) := kJ7_fill_d0a16_l6 C fu _ _ _ _ _ _ _ hW hl hw
set_option maxHeartbeats 4000000 in
set_option maxRecDepth 100000 in
theorem mJ7_fill_d0a16 (l : Launch) (D : va_G) (cy : Nat → ClassId) (x0 : Option Nat) (x1 : Int64) (S0 : Sg) (Q : Sg → Prop) (hw : wJ7_fill_d0a16 x0 x1 S0 Q) : Met l yJ7_fill_d0a16 (.code yJ7_fill_d0a16 cJ7_fill_d0a16 5 none :: wsL_law) { frames := 0, cells := 0, slots := 0, locals := 0 } (gPc D cy [va_rf x0, .long x1] S0) (va_Qv Q (gB D cy S0) (gA S0)) 0 0 (gA S0) := by
  refine gx_met (by decide) (by simp [lg_sl, va_rf_cat, cat_i, cat_l]) ?_
  intro p e s m args below meth c ls C hW hl
  have hx := C.1
  have hb := C.2.1
  have hl : lv_has ls 5 [(0, va_rf x0), (1, .long x1)] := by simpa [lv_args, va_rf_cat, cat_i, cat_l] using hl
  unfold wJ7_fill_d0a16 at hw
  refine lv_iconst (v := 0) hx hb dJ7_fill_d0a16_0 (by decide) ?_
  refine lv_istore_n (lv' := [(3, .int (0 : Int32)), (0, va_rf x0), (1, .long x1)]) hx hb dJ7_fill_d0a16_1 rfl hl (by decide) rfl (fun ls hl => ?_)
  refine gx_aload_n hx hb dJ7_fill_d0a16_2 rfl (lv_at hl 1 rfl) ?_
  obtain ⟨a1, ha1, ta1, hw⟩ := hw
  refine gx_alen C hW ha1 (Or.inr (Or.inl ta1)) dJ7_fill_d0a16_3 ?_
  refine lv_topi (fun y2 ey2 => ?_)
  have hw := hw y2 ey2
  refine lv_istore (lv' := [(4, .int y2), (3, .int (0 : Int32)), (0, va_rf x0), (1, .long x1)]) hx hb dJ7_fill_d0a16_4 hl (by decide) rfl (fun ls hl => ?_)
  obtain ⟨fu8, hw⟩ := hw
  exact kJ7_fill_d0a16_b6 C fu8 hW (lv_sub hl [2, 3, 1, 0] rfl) hw
/-! TrialStair$Thing.<init> -/
def wX8_init (x0 : Nat) (x1 : Int32) (x2 : Int64) (S0 : Sg) (Q : Sg → Prop) : Prop := ∀ S1 : Sg, S1 = sFI S0 512 x0 x1 → ∀ S2 : Sg, S2 = sFL S1 513 x0 x2 → Q S2
set_option maxHeartbeats 4000000 in
set_option maxRecDepth 100000 in
theorem mX8_init (l : Launch) (D : va_G) (cy : Nat → ClassId) (x0 : Nat) (x1 : Int32) (x2 : Int64) (S0 : Sg) (Q : Sg → Prop) (t0 : tg S0 x0 = 9) (hw : wX8_init x0 x1 x2 S0 Q) : Met l yX8_init (.code yX8_init cX8_init 4 none :: wsL_law) { frames := 1, cells := 0, slots := 0, locals := 20 } (gPc D cy [va_rf (some x0), .int x1, .long x2] S0) (va_Qv Q (gB D cy S0) (gA S0)) 0 0 (gA S0) := by
  refine gx_met (by decide) (Nat.le_of_ble_eq_true rfl) ?_
  intro p e s m args below meth c ls C hW hl
  have hx := C.1
  have hb := C.2.1
  have hl : lv_has ls 4 [(0, va_rf (some x0)), (1, .int x1), (2, .long x2)] := hl
  unfold wX8_init at hw
  refine gx_aload_n hx hb dX8_init_0 rfl (lv_at hl 0 rfl) ?_
  refine gx_objInit C (List.mem_of_getElem? (i := 501) (by decide +kernel)) (List.mem_of_getElem? (i := 10) (by decide +kernel)) (List.mem_of_getElem? (i := 11) (by decide +kernel)) rfl hl.1 dX8_init_1 (Nat.le_of_ble_eq_true rfl) (Nat.le_of_ble_eq_true rfl) (Nat.le_of_ble_eq_true rfl) ?_
  refine gx_aload_n hx hb dX8_init_4 rfl (lv_at hl 0 rfl) ?_
  refine lv_iload_n hx hb dX8_init_5 rfl (lv_at hl 1 rfl) ?_
  refine gx_putI (k := 512) C hW F8_9 (Or.inr ⟨rfl, rfl, rfl⟩) rfl t0 rfl rfl rfl dX8_init_6 (fun H locs S1 eS1 hW hm => ?_)
  have hw := hw S1 eS1
  have t0 := hm _ _ t0
  refine gx_aload_n hx hb dX8_init_9 rfl (lv_at hl 0 rfl) ?_
  refine lv_lload_n hx hb dX8_init_10 rfl (lv_at hl 2 rfl) ?_
  refine gx_putL (k := 513) C hW F8_15 (Or.inl rfl) rfl t0 rfl dX8_init_11 (fun H locs S2 eS2 hW hm => ?_)
  have hw := hw S2 eS2
  have t0 := hm _ _ t0
  exact gx_vret C hW (Nat.le_of_ble_eq_true rfl) (Nat.le_of_ble_eq_true rfl) hw dX8_init_14
/-! TrialStair$Thing.rings -/
def wX8_rings (x0 : Nat) (S0 : Sg) (Q : Int32 → Sg → Prop) : Prop := (if (fI S0 512 x0) = (1 : Int32) then Q (1 : Int32) S0 else (if (fI S0 512 x0) = (2 : Int32) then Q (1 : Int32) S0 else Q (0 : Int32) S0))
set_option maxHeartbeats 4000000 in
set_option maxRecDepth 100000 in
theorem mX8_rings (l : Launch) (D : va_G) (cy : Nat → ClassId) (x0 : Nat) (S0 : Sg) (Q : Int32 → Sg → Prop) (t0 : tg S0 x0 = 9) (hw : wX8_rings x0 S0 Q) : Met l yX8_rings (.code yX8_rings cX8_rings 1 (some .boolean) :: wsL_law) { frames := 0, cells := 0, slots := 0, locals := 0 } (gPc D cy [va_rf (some x0)] S0) (va_Qi Q (gB D cy S0) (gA S0)) 0 0 (gA S0) := by
  refine gx_met (by decide) (Nat.le_of_ble_eq_true rfl) ?_
  intro p e s m args below meth c ls C hW hl
  have hx := C.1
  have hb := C.2.1
  have hl : lv_has ls 1 [(0, va_rf (some x0))] := hl
  unfold wX8_rings at hw
  refine gx_aload_n hx hb dX8_rings_0 rfl (lv_at hl 0 rfl) ?_
  refine gx_getI C hW F8_9 (k := 512) rfl t0 rfl dX8_rings_1 ?_
  refine lv_iconst (v := 1) hx hb dX8_rings_4 (by decide) ?_
  refine lv_icmp_eq (tgt := 16) hx hb dX8_rings_5 (by decide) (fun c1 => ?_) (fun c1 => ?_)
  · have hw := w_t hw c1
    refine lv_iconst (v := 1) hx hb dX8_rings_16 (by decide) ?_
    refine lv_goto (tgt := 21) hx hb dX8_rings_17 (by decide) ?_
    exact gx_iret C hW (Nat.le_of_ble_eq_true rfl) (Nat.le_of_ble_eq_true rfl) rfl hw dX8_rings_21
  · have hw := w_f hw c1
    refine gx_aload_n hx hb dX8_rings_8 rfl (lv_at hl 0 rfl) ?_
    refine gx_getI C hW F8_9 (k := 512) rfl t0 rfl dX8_rings_9 ?_
    refine lv_iconst (v := 2) hx hb dX8_rings_12 (by decide) ?_
    refine lv_icmp_ne (tgt := 20) hx hb dX8_rings_13 (by decide) (fun c2 => ?_) (fun c2 => ?_)
    · have hw := w_f hw c2
      refine lv_iconst (v := 0) hx hb dX8_rings_20 (by decide) ?_
      exact gx_iret C hW (Nat.le_of_ble_eq_true rfl) (Nat.le_of_ble_eq_true rfl) rfl hw dX8_rings_21
    · have hw := w_t hw c2
      refine lv_iconst (v := 1) hx hb dX8_rings_16 (by decide) ?_
      refine lv_goto (tgt := 21) hx hb dX8_rings_17 (by decide) ?_
      exact gx_iret C hW (Nat.le_of_ble_eq_true rfl) (Nat.le_of_ble_eq_true rfl) rfl hw dX8_rings_21
/-! TrialStair$Thing.isCastAs -/
def wX8_isCastAs (x0 : Nat) (x1 : Int32) (S0 : Sg) (Q : Int32 → Sg → Prop) : Prop := (if x1 = 0 then (if (fI S0 512 x0) = 0 then Q (1 : Int32) S0 else Q (0 : Int32) S0) else (if x1 = 2 then (if (fI S0 512 x0) = (2 : Int32) then Q (1 : Int32) S0 else Q (0 : Int32) S0) else wX8_rings x0  S0 (fun (r5 : Int32) (S6 : Sg) => (r5 = 0 ∨ r5 = 1) ∧ Q r5 S6)))
set_option maxHeartbeats 4000000 in
set_option maxRecDepth 100000 in
theorem mX8_isCastAs (l : Launch) (D : va_G) (cy : Nat → ClassId) (x0 : Nat) (x1 : Int32) (S0 : Sg) (Q : Int32 → Sg → Prop) (t0 : tg S0 x0 = 9) (hw : wX8_isCastAs x0 x1 S0 Q) : Met l yX8_isCastAs (.code yX8_isCastAs cX8_isCastAs 2 (some .boolean) :: wsL_law) { frames := 1, cells := 0, slots := 0, locals := 20 } (gPc D cy [va_rf (some x0), .int x1] S0) (va_Qi Q (gB D cy S0) (gA S0)) 0 0 (gA S0) := by
  refine gx_met (by decide) (Nat.le_of_ble_eq_true rfl) ?_
  intro p e s m args below meth c ls C hW hl
  have hx := C.1
  have hb := C.2.1
  have hl : lv_has ls 2 [(0, va_rf (some x0)), (1, .int x1)] := hl
  unfold wX8_isCastAs at hw
  refine lv_iload_n hx hb dX8_isCastAs_0 rfl (lv_at hl 1 rfl) ?_
  by_cases c1 : x1 = (0 : Int32)
  · have hw := w_t hw c1
    refine lv_lookup (off := 27) (tgt := 28) hx hb dX8_isCastAs_1 (by decide) (by rw [c1]; rfl) (by decide) ?_
    refine gx_aload_n hx hb dX8_isCastAs_28 rfl (lv_at hl 0 rfl) ?_
    refine gx_getI C hW F8_9 (k := 512) rfl t0 rfl dX8_isCastAs_29 ?_
    refine lv_if_ne (tgt := 39) hx hb dX8_isCastAs_32 (by decide) (fun c2 => ?_) (fun c2 => ?_)
    · have hw := w_f hw c2
      refine lv_iconst (v := 0) hx hb dX8_isCastAs_39 (by decide) ?_
      exact gx_iret C hW (Nat.le_of_ble_eq_true rfl) (Nat.le_of_ble_eq_true rfl) rfl hw dX8_isCastAs_40
    · have hw := w_t hw c2
      refine lv_iconst (v := 1) hx hb dX8_isCastAs_35 (by decide) ?_
      refine lv_goto (tgt := 40) hx hb dX8_isCastAs_36 (by decide) ?_
      exact gx_iret C hW (Nat.le_of_ble_eq_true rfl) (Nat.le_of_ble_eq_true rfl) rfl hw dX8_isCastAs_40
  · have hw := w_f hw c1
    by_cases c3 : x1 = (2 : Int32)
    · have hw := w_t hw c3
      refine lv_lookup (off := 40) (tgt := 41) hx hb dX8_isCastAs_1 (by decide) (by rw [c3]; rfl) (by decide) ?_
      refine gx_aload_n hx hb dX8_isCastAs_41 rfl (lv_at hl 0 rfl) ?_
      refine gx_getI C hW F8_9 (k := 512) rfl t0 rfl dX8_isCastAs_42 ?_
      refine lv_iconst (v := 2) hx hb dX8_isCastAs_45 (by decide) ?_
      refine lv_icmp_ne (tgt := 53) hx hb dX8_isCastAs_46 (by decide) (fun c4 => ?_) (fun c4 => ?_)
      · have hw := w_f hw c4
        refine lv_iconst (v := 0) hx hb dX8_isCastAs_53 (by decide) ?_
        exact gx_iret C hW (Nat.le_of_ble_eq_true rfl) (Nat.le_of_ble_eq_true rfl) rfl hw dX8_isCastAs_54
      · have hw := w_t hw c4
        refine lv_iconst (v := 1) hx hb dX8_isCastAs_49 (by decide) ?_
        refine lv_goto (tgt := 54) hx hb dX8_isCastAs_50 (by decide) ?_
        exact gx_iret C hW (Nat.le_of_ble_eq_true rfl) (Nat.le_of_ble_eq_true rfl) rfl hw dX8_isCastAs_54
    · have hw := w_f hw c3
      refine lv_lookup (off := 54) (tgt := 55) hx hb dX8_isCastAs_1 (by decide) (by show Op.lookupswitch.offset [(0, 27), (2, 40)] 54 _ = 54; simp only [Op.lookupswitch.offset, if_neg (tb_nei (z := 0) c1 (by decide)), if_neg (tb_nei (z := 2) c3 (by decide))]) (by decide) ?_
      refine gx_aload_n hx hb dX8_isCastAs_55 rfl (lv_at hl 0 rfl) ?_
      refine gx_ci (gx_rV C hW M8_19 (mX8_rings l D cy _ _ _ t0 hw) rfl rfl ⟨Nat.le_of_ble_eq_true rfl, Nat.le_of_ble_eq_true rfl⟩ rfl t0 (by decide) rfl rfl hl.1 rfl (Nat.le_of_ble_eq_true rfl) dX8_isCastAs_56 ⟨Nat.le_of_ble_eq_true rfl, Nat.le_of_ble_eq_true rfl⟩) hW (fun r5 S6 H locs hW hm hw => ?_)
      have t0 := hm _ _ t0
      obtain ⟨z7, hw⟩ := hw
      exact gx_iret C hW (Nat.le_of_ble_eq_true rfl) (Nat.le_of_ble_eq_true rfl) (bz_n z7) hw dX8_isCastAs_59
/-! TrialStair$Thing.use -/
def wX8_use (x0 : Nat) (x1 : Int64) (S0 : Sg) (Q : Int64 → Sg → Prop) : Prop := (if (fI S0 512 x0) = 0 then Q ((fL S0 513 x0) + x1) S0 else (if (fI S0 512 x0) = 1 then Q ((fL S0 513 x0) - x1) S0 else Q ((2 : Int64) * ((fL S0 513 x0) - x1)) S0))
set_option maxHeartbeats 4000000 in
set_option maxRecDepth 100000 in
theorem mX8_use (l : Launch) (D : va_G) (cy : Nat → ClassId) (x0 : Nat) (x1 : Int64) (S0 : Sg) (Q : Int64 → Sg → Prop) (t0 : tg S0 x0 = 9) (hw : wX8_use x0 x1 S0 Q) : Met l yX8_use (.code yX8_use cX8_use 3 (some .long) :: wsL_law) { frames := 0, cells := 0, slots := 0, locals := 0 } (gPc D cy [va_rf (some x0), .long x1] S0) (va_Ql Q (gB D cy S0) (gA S0)) 0 0 (gA S0) := by
  refine gx_met (by decide) (Nat.le_of_ble_eq_true rfl) ?_
  intro p e s m args below meth c ls C hW hl
  have hx := C.1
  have hb := C.2.1
  have hl : lv_has ls 3 [(0, va_rf (some x0)), (1, .long x1)] := hl
  unfold wX8_use at hw
  refine gx_aload_n hx hb dX8_use_0 rfl (lv_at hl 0 rfl) ?_
  refine gx_getI C hW F8_9 (k := 512) rfl t0 rfl dX8_use_1 ?_
  by_cases c1 : (fI S0 512 x0) = (0 : Int32)
  · have hw := w_t hw c1
    refine lv_lookup (off := 28) (tgt := 32) hx hb dX8_use_4 (by decide) (by rw [c1]; rfl) (by decide) ?_
    refine gx_aload_n hx hb dX8_use_32 rfl (lv_at hl 0 rfl) ?_
    refine gx_getL C hW F8_15 (k := 513) rfl t0 rfl dX8_use_33 ?_
    refine lv_lload_n hx hb dX8_use_36 rfl (lv_at hl 1 rfl) ?_
    refine lv_ladd hx hb dX8_use_37 ?_
    exact gx_lret C hW (Nat.le_of_ble_eq_true rfl) (Nat.le_of_ble_eq_true rfl) hw dX8_use_38
  · have hw := w_f hw c1
    by_cases c2 : (fI S0 512 x0) = (1 : Int32)
    · have hw := w_t hw c2
      refine lv_lookup (off := 35) (tgt := 39) hx hb dX8_use_4 (by decide) (by rw [c2]; rfl) (by decide) ?_
      refine gx_aload_n hx hb dX8_use_39 rfl (lv_at hl 0 rfl) ?_
      refine gx_getL C hW F8_15 (k := 513) rfl t0 rfl dX8_use_40 ?_
      refine lv_lload_n hx hb dX8_use_43 rfl (lv_at hl 1 rfl) ?_
      refine lv_lsub hx hb dX8_use_44 ?_
      exact gx_lret C hW (Nat.le_of_ble_eq_true rfl) (Nat.le_of_ble_eq_true rfl) hw dX8_use_45
    · have hw := w_f hw c2
      refine lv_lookup (off := 42) (tgt := 46) hx hb dX8_use_4 (by decide) (by show Op.lookupswitch.offset [(0, 28), (1, 35)] 42 _ = 42; simp only [Op.lookupswitch.offset, if_neg (tb_nei (z := 0) c1 (by decide)), if_neg (tb_nei (z := 1) c2 (by decide))]) (by decide) ?_
      refine lv_ldc2 (v := 2) hx hb C.2.2.2.1 (C.2.2.2.2.1 _ (List.mem_of_getElem? (i := 526) (by decide +kernel))) dX8_use_46 ?_
      refine gx_aload_n hx hb dX8_use_49 rfl (lv_at hl 0 rfl) ?_
      refine gx_getL C hW F8_15 (k := 513) rfl t0 rfl dX8_use_50 ?_
      refine lv_lload_n hx hb dX8_use_53 rfl (lv_at hl 1 rfl) ?_
      refine lv_lsub hx hb dX8_use_54 ?_
      refine lv_lmul hx hb dX8_use_55 ?_
      exact gx_lret C hW (Nat.le_of_ble_eq_true rfl) (Nat.le_of_ble_eq_true rfl) hw dX8_use_56
/-! TrialStair$Thing.ring -/
def wX8_ring (x0 : Nat) (x1 : Int64) (S0 : Sg) (Q : Int64 → Sg → Prop) : Prop := ∀ y1 : Int64, y1 = ((fL S0 513 x0) ^^^ x1) → (if (fI S0 512 x0) = (2 : Int32) then Q (y1 + (1 : Int64)) S0 else Q y1 S0)
set_option maxHeartbeats 4000000 in
set_option maxRecDepth 100000 in
theorem mX8_ring (l : Launch) (D : va_G) (cy : Nat → ClassId) (x0 : Nat) (x1 : Int64) (S0 : Sg) (Q : Int64 → Sg → Prop) (t0 : tg S0 x0 = 9) (hw : wX8_ring x0 x1 S0 Q) : Met l yX8_ring (.code yX8_ring cX8_ring 5 (some .long) :: wsL_law) { frames := 0, cells := 0, slots := 0, locals := 0 } (gPc D cy [va_rf (some x0), .long x1] S0) (va_Ql Q (gB D cy S0) (gA S0)) 0 0 (gA S0) := by
  refine gx_met (by decide) (Nat.le_of_ble_eq_true rfl) ?_
  intro p e s m args below meth c ls C hW hl
  have hx := C.1
  have hb := C.2.1
  have hl : lv_has ls 5 [(0, va_rf (some x0)), (1, .long x1)] := hl
  unfold wX8_ring at hw
  refine gx_aload_n hx hb dX8_ring_0 rfl (lv_at hl 0 rfl) ?_
  refine gx_getL C hW F8_15 (k := 513) rfl t0 rfl dX8_ring_1 ?_
  refine lv_lload_n hx hb dX8_ring_4 rfl (lv_at hl 1 rfl) ?_
  refine lv_lxor hx hb dX8_ring_5 ?_
  refine lv_topl (fun y1 ey1 => ?_)
  have hw := hw y1 ey1
  refine lv_lstore_n (lv' := [(3, .long y1), (0, va_rf (some x0)), (1, .long x1)]) hx hb dX8_ring_6 rfl hl (by decide) rfl (fun ls hl => ?_)
  refine gx_aload_n hx hb dX8_ring_7 rfl (lv_at hl 1 rfl) ?_
  refine gx_getI C hW F8_9 (k := 512) rfl t0 rfl dX8_ring_8 ?_
  refine lv_iconst (v := 2) hx hb dX8_ring_11 (by decide) ?_
  refine lv_icmp_ne (tgt := 21) hx hb dX8_ring_12 (by decide) (fun c2 => ?_) (fun c2 => ?_)
  · have hw := w_f hw c2
    refine lv_lload_n hx hb dX8_ring_21 rfl (lv_at hl 0 rfl) ?_
    exact gx_lret C hW (Nat.le_of_ble_eq_true rfl) (Nat.le_of_ble_eq_true rfl) hw dX8_ring_22
  · have hw := w_t hw c2
    refine lv_lload_n hx hb dX8_ring_15 rfl (lv_at hl 0 rfl) ?_
    refine lv_lconst (v := 1) hx hb dX8_ring_16 (by decide) ?_
    refine lv_ladd hx hb dX8_ring_17 ?_
    refine lv_goto (tgt := 22) hx hb dX8_ring_18 (by decide) ?_
    exact gx_lret C hW (Nat.le_of_ble_eq_true rfl) (Nat.le_of_ble_eq_true rfl) hw dX8_ring_22
/-! TrialStair$Grid.<init> -/
def wX2_init (x0 : Nat) (S0 : Sg) (Q : Sg → Prop) : Prop := ∀ S2 : Sg, S2 = nw S0 13 49 → ∀ S3 : Sg, S3 = sFR S2 128 x0 (some (sz S0)) → Q S3
set_option maxHeartbeats 4000000 in
set_option maxRecDepth 100000 in
theorem mX2_init (l : Launch) (D : va_G) (cy : Nat → ClassId) (x0 : Nat) (S0 : Sg) (Q : Sg → Prop) (t0 : tg S0 x0 = 3) (hw : wX2_init x0 S0 Q) : Met l yX2_init (.code yX2_init cX2_init 1 none :: wsL_law) { frames := 1, cells := 1, slots := 49, locals := 20 } (gPc D cy [va_rf (some x0)] S0) (va_Qv Q (gB D cy S0) (gA S0)) 1 49 (gA S0) := by
  refine gx_met (by decide) (Nat.le_of_ble_eq_true rfl) ?_
  intro p e s m args below meth c ls C hW hl
  have hx := C.1
  have hb := C.2.1
  have hl : lv_has ls 1 [(0, va_rf (some x0))] := hl
  unfold wX2_init at hw
  refine gx_aload_n hx hb dX2_init_0 rfl (lv_at hl 0 rfl) ?_
  refine gx_objInit C (List.mem_of_getElem? (i := 50) (by decide +kernel)) (List.mem_of_getElem? (i := 10) (by decide +kernel)) (List.mem_of_getElem? (i := 11) (by decide +kernel)) rfl hl.1 dX2_init_1 (Nat.le_of_ble_eq_true rfl) (Nat.le_of_ble_eq_true rfl) (Nat.le_of_ble_eq_true rfl) ?_
  refine gx_aload_n hx hb dX2_init_4 rfl (lv_at hl 0 rfl) ?_
  refine lv_bipush (v := 49) hx hb dX2_init_5 (by decide) ?_
  refine gx_newa (at0 := .int) (k := 0) (K := 49) (N := 49) C hW (List.mem_of_getElem? (i := 33) (by decide +kernel)) (Or.inl ⟨rfl, rfl⟩) (by decide) (by decide) (by decide) (by decide) (Nat.le_of_ble_eq_true rfl) (Nat.le_of_ble_eq_true rfl) dX2_init_7 (fun H S2 eS2 hW hm t1 => ?_)
  have hw := hw S2 eS2
  have t0 := hm _ _ t0
  refine gx_putR (k := 128) C hW F2_9 (Or.inr ⟨rfl, rfl, rfl⟩) rfl rfl t0 rfl dX2_init_9 (fun H locs S3 eS3 hW hm => ?_)
  have hw := hw S3 eS3
  have t0 := hm _ _ t0
  have t1 := hm _ _ t1
  exact gx_vret C hW (Nat.le_of_ble_eq_true rfl) (Nat.le_of_ble_eq_true rfl) hw dX2_init_12
/-! TrialStair$Grid.make -/
def wX2_make (x0 : Nat) (x1 : Int32) (x2 : Int32) (S0 : Sg) (Q : Sg → Prop) : Prop := ∀ S1 : Sg, S1 = sFI S0 129 x0 (1 : Int32) → ∀ S2 : Sg, S2 = sFI S1 130 x0 x1 → ∀ S3 : Sg, S3 = sFI S2 131 x0 x2 → wJ7_fill_53178 (fR S3 128 x0) (0 : Int32) S3 (fun (S5 : Sg) => Q S5)
set_option maxHeartbeats 4000000 in
set_option maxRecDepth 100000 in
theorem mX2_make (l : Launch) (D : va_G) (cy : Nat → ClassId) (x0 : Nat) (x1 : Int32) (x2 : Int32) (S0 : Sg) (Q : Sg → Prop) (t0 : tg S0 x0 = 3) (hw : wX2_make x0 x1 x2 S0 Q) : Met l yX2_make (.code yX2_make cX2_make 3 none :: wsL_law) { frames := 1, cells := 0, slots := 0, locals := 23 } (gPc D cy [va_rf (some x0), .int x1, .int x2] S0) (va_Qv Q (gB D cy S0) (gA S0)) 0 0 (gA S0) := by
  refine gx_met (by decide) (Nat.le_of_ble_eq_true rfl) ?_
  intro p e s m args below meth c ls C hW hl
  have hx := C.1
  have hb := C.2.1
  have hl : lv_has ls 3 [(0, va_rf (some x0)), (1, .int x1), (2, .int x2)] := hl
  unfold wX2_make at hw
  refine gx_aload_n hx hb dX2_make_0 rfl (lv_at hl 0 rfl) ?_
  refine lv_iconst (v := 1) hx hb dX2_make_1 (by decide) ?_
  refine gx_putI (k := 129) C hW F2_15 (Or.inl rfl) rfl t0 rfl rfl rfl dX2_make_2 (fun H locs S1 eS1 hW hm => ?_)
  have hw := hw S1 eS1
  have t0 := hm _ _ t0
  refine gx_aload_n hx hb dX2_make_5 rfl (lv_at hl 0 rfl) ?_
  refine lv_iload_n hx hb dX2_make_6 rfl (lv_at hl 1 rfl) ?_
  refine gx_putI (k := 130) C hW F2_19 (Or.inl rfl) rfl t0 rfl rfl rfl dX2_make_7 (fun H locs S2 eS2 hW hm => ?_)
  have hw := hw S2 eS2
  have t0 := hm _ _ t0
  refine gx_aload_n hx hb dX2_make_10 rfl (lv_at hl 0 rfl) ?_
  refine lv_iload_n hx hb dX2_make_11 rfl (lv_at hl 2 rfl) ?_
  refine gx_putI (k := 131) C hW F2_23 (Or.inl rfl) rfl t0 rfl rfl rfl dX2_make_12 (fun H locs S3 eS3 hW hm => ?_)
  have hw := hw S3 eS3
  have t0 := hm _ _ t0
  refine gx_aload_n hx hb dX2_make_15 rfl (lv_at hl 0 rfl) ?_
  refine gx_getR C hW F2_9 (k := 128) rfl t0 rfl dX2_make_16 ?_
  refine lv_iconst (v := 0) hx hb dX2_make_19 (by decide) ?_
  refine gx_cv (gx_rS C hW M2_26 (mJ7_fill_53178 l D cy _ _ _ _  hw) rfl rfl ⟨Nat.le_of_ble_eq_true rfl, Nat.le_of_ble_eq_true rfl⟩ rfl hl.1 rfl (Nat.le_of_ble_eq_true rfl) dX2_make_20 ⟨Nat.le_of_ble_eq_true rfl, Nat.le_of_ble_eq_true rfl⟩) hW (fun S5 H locs hW hm hw => ?_)
  have t0 := hm _ _ t0
  exact gx_vret C hW (Nat.le_of_ble_eq_true rfl) (Nat.le_of_ble_eq_true rfl) hw dX2_make_23
/-! TrialStair$Grid.has -/
def wX2_has (x0 : Nat) (x1 : Int32) (x2 : Int32) (S0 : Sg) (Q : Int32 → Sg → Prop) : Prop := (if x1 < 0 then Q (0 : Int32) S0 else (if (fI S0 130 x0) ≤ x1 then Q (0 : Int32) S0 else (if x2 < 0 then Q (0 : Int32) S0 else (if (fI S0 131 x0) ≤ x2 then Q (0 : Int32) S0 else Q (1 : Int32) S0))))
set_option maxHeartbeats 4000000 in
set_option maxRecDepth 100000 in
theorem mX2_has (l : Launch) (D : va_G) (cy : Nat → ClassId) (x0 : Nat) (x1 : Int32) (x2 : Int32) (S0 : Sg) (Q : Int32 → Sg → Prop) (t0 : tg S0 x0 = 3) (hw : wX2_has x0 x1 x2 S0 Q) : Met l yX2_has (.code yX2_has cX2_has 3 (some .boolean) :: wsL_law) { frames := 0, cells := 0, slots := 0, locals := 0 } (gPc D cy [va_rf (some x0), .int x1, .int x2] S0) (va_Qi Q (gB D cy S0) (gA S0)) 0 0 (gA S0) := by
  refine gx_met (by decide) (Nat.le_of_ble_eq_true rfl) ?_
  intro p e s m args below meth c ls C hW hl
  have hx := C.1
  have hb := C.2.1
  have hl : lv_has ls 3 [(0, va_rf (some x0)), (1, .int x1), (2, .int x2)] := hl
  unfold wX2_has at hw
  refine lv_iload_n hx hb dX2_has_0 rfl (lv_at hl 1 rfl) ?_
  refine lv_if_lt (tgt := 28) hx hb dX2_has_1 (by decide) (fun c1 => ?_) (fun c1 => ?_)
  · have hw := w_t hw c1
    refine lv_iconst (v := 0) hx hb dX2_has_28 (by decide) ?_
    exact gx_iret C hW (Nat.le_of_ble_eq_true rfl) (Nat.le_of_ble_eq_true rfl) rfl hw dX2_has_29
  · have hw := w_f hw c1
    refine lv_iload_n hx hb dX2_has_4 rfl (lv_at hl 1 rfl) ?_
    refine gx_aload_n hx hb dX2_has_5 rfl (lv_at hl 0 rfl) ?_
    refine gx_getI C hW F2_19 (k := 130) rfl t0 rfl dX2_has_6 ?_
    refine lv_icmp_ge (tgt := 28) hx hb dX2_has_9 (by decide) (fun c2 => ?_) (fun c2 => ?_)
    · have hw := w_t hw c2
      refine lv_iconst (v := 0) hx hb dX2_has_28 (by decide) ?_
      exact gx_iret C hW (Nat.le_of_ble_eq_true rfl) (Nat.le_of_ble_eq_true rfl) rfl hw dX2_has_29
    · have hw := w_f hw c2
      refine lv_iload_n hx hb dX2_has_12 rfl (lv_at hl 2 rfl) ?_
      refine lv_if_lt (tgt := 28) hx hb dX2_has_13 (by decide) (fun c3 => ?_) (fun c3 => ?_)
      · have hw := w_t hw c3
        refine lv_iconst (v := 0) hx hb dX2_has_28 (by decide) ?_
        exact gx_iret C hW (Nat.le_of_ble_eq_true rfl) (Nat.le_of_ble_eq_true rfl) rfl hw dX2_has_29
      · have hw := w_f hw c3
        refine lv_iload_n hx hb dX2_has_16 rfl (lv_at hl 2 rfl) ?_
        refine gx_aload_n hx hb dX2_has_17 rfl (lv_at hl 0 rfl) ?_
        refine gx_getI C hW F2_23 (k := 131) rfl t0 rfl dX2_has_18 ?_
        refine lv_icmp_ge (tgt := 28) hx hb dX2_has_21 (by decide) (fun c4 => ?_) (fun c4 => ?_)
        · have hw := w_t hw c4
          refine lv_iconst (v := 0) hx hb dX2_has_28 (by decide) ?_
          exact gx_iret C hW (Nat.le_of_ble_eq_true rfl) (Nat.le_of_ble_eq_true rfl) rfl hw dX2_has_29
        · have hw := w_f hw c4
          refine lv_iconst (v := 1) hx hb dX2_has_24 (by decide) ?_
          refine lv_goto (tgt := 29) hx hb dX2_has_25 (by decide) ?_
          exact gx_iret C hW (Nat.le_of_ble_eq_true rfl) (Nat.le_of_ble_eq_true rfl) rfl hw dX2_has_29
/-! TrialStair$Grid.cellAt -/
def wX2_cellAt (x0 : Nat) (x1 : Int32) (x2 : Int32) (S0 : Sg) (Q : Int32 → Sg → Prop) : Prop := ∀ y1 : Int32, y1 = ((x1 * (7 : Int32)) + x2) → (if y1 < 0 then Q (0 : Int32) S0 else ∃ a3 : Nat, (fR S0 128 x0) = some a3 ∧ tg S0 a3 = 13 ∧ (if (nI (ln S0 a3)) ≤ y1 then Q (0 : Int32) S0 else vp_in y1 (ln S0 a3) ∧ Q (aI S0 a3 (y1).toNatClampNeg) S0))
set_option maxHeartbeats 4000000 in
set_option maxRecDepth 100000 in
theorem mX2_cellAt (l : Launch) (D : va_G) (cy : Nat → ClassId) (x0 : Nat) (x1 : Int32) (x2 : Int32) (S0 : Sg) (Q : Int32 → Sg → Prop) (t0 : tg S0 x0 = 3) (hw : wX2_cellAt x0 x1 x2 S0 Q) : Met l yX2_cellAt (.code yX2_cellAt cX2_cellAt 4 (some .int) :: wsL_law) { frames := 0, cells := 0, slots := 0, locals := 0 } (gPc D cy [va_rf (some x0), .int x1, .int x2] S0) (va_Qi Q (gB D cy S0) (gA S0)) 0 0 (gA S0) := by
  refine gx_met (by decide) (Nat.le_of_ble_eq_true rfl) ?_
  intro p e s m args below meth c ls C hW hl
  have hx := C.1
  have hb := C.2.1
  have hl : lv_has ls 4 [(0, va_rf (some x0)), (1, .int x1), (2, .int x2)] := hl
  unfold wX2_cellAt at hw
  refine lv_iload_n hx hb dX2_cellAt_0 rfl (lv_at hl 1 rfl) ?_
  refine lv_bipush (v := 7) hx hb dX2_cellAt_1 (by decide) ?_
  refine lv_imul hx hb dX2_cellAt_3 ?_
  refine lv_iload_n hx hb dX2_cellAt_4 rfl (lv_at hl 2 rfl) ?_
  refine lv_iadd hx hb dX2_cellAt_5 ?_
  refine lv_topi (fun y1 ey1 => ?_)
  have hw := hw y1 ey1
  refine lv_istore_n (lv' := [(3, .int y1), (0, va_rf (some x0)), (1, .int x1), (2, .int x2)]) hx hb dX2_cellAt_6 rfl hl (by decide) rfl (fun ls hl => ?_)
  refine lv_iload_n hx hb dX2_cellAt_7 rfl (lv_at hl 0 rfl) ?_
  refine lv_if_lt (tgt := 29) hx hb dX2_cellAt_8 (by decide) (fun c2 => ?_) (fun c2 => ?_)
  · have hw := w_t hw c2
    refine lv_iconst (v := 0) hx hb dX2_cellAt_29 (by decide) ?_
    exact gx_iret C hW (Nat.le_of_ble_eq_true rfl) (Nat.le_of_ble_eq_true rfl) rfl hw dX2_cellAt_30
  · have hw := w_f hw c2
    refine lv_iload_n hx hb dX2_cellAt_11 rfl (lv_at hl 0 rfl) ?_
    refine gx_aload_n hx hb dX2_cellAt_12 rfl (lv_at hl 1 rfl) ?_
    refine gx_getR C hW F2_9 (k := 128) rfl t0 rfl dX2_cellAt_13 ?_
    obtain ⟨a3, ha3, ta3, hw⟩ := hw
    refine gx_alen C hW ha3 (Or.inl ta3) dX2_cellAt_16 ?_
    refine lv_icmp_ge (tgt := 29) hx hb dX2_cellAt_17 (by decide) (fun c4 => ?_) (fun c4 => ?_)
    · have hw := w_t hw c4
      refine lv_iconst (v := 0) hx hb dX2_cellAt_29 (by decide) ?_
      exact gx_iret C hW (Nat.le_of_ble_eq_true rfl) (Nat.le_of_ble_eq_true rfl) rfl hw dX2_cellAt_30
    · have hw := w_f hw c4
      refine gx_aload_n hx hb dX2_cellAt_20 rfl (lv_at hl 1 rfl) ?_
      refine gx_getR C hW F2_9 (k := 128) rfl t0 rfl dX2_cellAt_21 ?_
      refine lv_iload_n hx hb dX2_cellAt_24 rfl (lv_at hl 0 rfl) ?_
      obtain ⟨i5, hw⟩ := hw
      refine gx_iald C hW ha3 ta3 i5 dX2_cellAt_25 ?_
      refine lv_goto (tgt := 30) hx hb dX2_cellAt_26 (by decide) ?_
      exact gx_iret C hW (Nat.le_of_ble_eq_true rfl) (Nat.le_of_ble_eq_true rfl) rfl hw dX2_cellAt_30
/-! TrialStair$Grid.putCell -/
def wX2_putCell (x0 : Nat) (x1 : Int32) (x2 : Int32) (x3 : Int32) (S0 : Sg) (Q : Sg → Prop) : Prop := ∀ y1 : Int32, y1 = ((x1 * (7 : Int32)) + x2) → (if y1 < 0 then Q S0 else ∃ a3 : Nat, (fR S0 128 x0) = some a3 ∧ tg S0 a3 = 13 ∧ (if (nI (ln S0 a3)) ≤ y1 then Q S0 else vp_in y1 (ln S0 a3) ∧ ∀ S6 : Sg, S6 = sAI S0 a3 (y1).toNatClampNeg x3 → Q S6))
set_option maxHeartbeats 4000000 in
set_option maxRecDepth 100000 in
theorem mX2_putCell (l : Launch) (D : va_G) (cy : Nat → ClassId) (x0 : Nat) (x1 : Int32) (x2 : Int32) (x3 : Int32) (S0 : Sg) (Q : Sg → Prop) (t0 : tg S0 x0 = 3) (hw : wX2_putCell x0 x1 x2 x3 S0 Q) : Met l yX2_putCell (.code yX2_putCell cX2_putCell 5 none :: wsL_law) { frames := 0, cells := 0, slots := 0, locals := 0 } (gPc D cy [va_rf (some x0), .int x1, .int x2, .int x3] S0) (va_Qv Q (gB D cy S0) (gA S0)) 0 0 (gA S0) := by
  refine gx_met (by decide) (Nat.le_of_ble_eq_true rfl) ?_
  intro p e s m args below meth c ls C hW hl
  have hx := C.1
  have hb := C.2.1
  have hl : lv_has ls 5 [(0, va_rf (some x0)), (1, .int x1), (2, .int x2), (3, .int x3)] := hl
  unfold wX2_putCell at hw
  refine lv_iload_n hx hb dX2_putCell_0 rfl (lv_at hl 1 rfl) ?_
  refine lv_bipush (v := 7) hx hb dX2_putCell_1 (by decide) ?_
  refine lv_imul hx hb dX2_putCell_3 ?_
  refine lv_iload_n hx hb dX2_putCell_4 rfl (lv_at hl 2 rfl) ?_
  refine lv_iadd hx hb dX2_putCell_5 ?_
  refine lv_topi (fun y1 ey1 => ?_)
  have hw := hw y1 ey1
  refine lv_istore (lv' := [(4, .int y1), (0, va_rf (some x0)), (1, .int x1), (2, .int x2), (3, .int x3)]) hx hb dX2_putCell_6 hl (by decide) rfl (fun ls hl => ?_)
  refine lv_iload hx hb dX2_putCell_8 (lv_at hl 0 rfl) ?_
  refine lv_if_lt (tgt := 31) hx hb dX2_putCell_10 (by decide) (fun c2 => ?_) (fun c2 => ?_)
  · have hw := w_t hw c2
    exact gx_vret C hW (Nat.le_of_ble_eq_true rfl) (Nat.le_of_ble_eq_true rfl) hw dX2_putCell_31
  · have hw := w_f hw c2
    refine lv_iload hx hb dX2_putCell_13 (lv_at hl 0 rfl) ?_
    refine gx_aload_n hx hb dX2_putCell_15 rfl (lv_at hl 1 rfl) ?_
    refine gx_getR C hW F2_9 (k := 128) rfl t0 rfl dX2_putCell_16 ?_
    obtain ⟨a3, ha3, ta3, hw⟩ := hw
    refine gx_alen C hW ha3 (Or.inl ta3) dX2_putCell_19 ?_
    refine lv_icmp_ge (tgt := 31) hx hb dX2_putCell_20 (by decide) (fun c4 => ?_) (fun c4 => ?_)
    · have hw := w_t hw c4
      exact gx_vret C hW (Nat.le_of_ble_eq_true rfl) (Nat.le_of_ble_eq_true rfl) hw dX2_putCell_31
    · have hw := w_f hw c4
      refine gx_aload_n hx hb dX2_putCell_23 rfl (lv_at hl 1 rfl) ?_
      refine gx_getR C hW F2_9 (k := 128) rfl t0 rfl dX2_putCell_24 ?_
      refine lv_iload hx hb dX2_putCell_27 (lv_at hl 0 rfl) ?_
      refine lv_iload_n hx hb dX2_putCell_29 rfl (lv_at hl 4 rfl) ?_
      obtain ⟨i5, hw⟩ := hw
      refine gx_iast C hW ha3 ta3 i5 dX2_putCell_30 (fun H locs S6 eS6 hW hm => ?_)
      have hw := hw S6 eS6
      have t0 := hm _ _ t0
      have ta3 := hm _ _ ta3
      exact gx_vret C hW (Nat.le_of_ble_eq_true rfl) (Nat.le_of_ble_eq_true rfl) hw dX2_putCell_31
/-! TrialStair$Report.<init> -/
def wX4_init (x0 : Nat) (S0 : Sg) (Q : Sg → Prop) : Prop := ∀ S2 : Sg, S2 = nw S0 14 500 → ∀ S3 : Sg, S3 = sFR S2 256 x0 (some (sz S0)) → ∀ S5 : Sg, S5 = nw S3 13 1000 → ∀ S6 : Sg, S6 = sFR S5 257 x0 (some (sz S3)) → ∀ S7 : Sg, S7 = sFI S6 258 x0 (-1 : Int32) → Q S7
set_option maxHeartbeats 4000000 in
set_option maxRecDepth 100000 in
theorem mX4_init (l : Launch) (D : va_G) (cy : Nat → ClassId) (x0 : Nat) (S0 : Sg) (Q : Sg → Prop) (t0 : tg S0 x0 = 5) (hw : wX4_init x0 S0 Q) : Met l yX4_init (.code yX4_init cX4_init 1 none :: wsL_law) { frames := 1, cells := 2, slots := 1500, locals := 20 } (gPc D cy [va_rf (some x0)] S0) (va_Qv Q (gB D cy S0) (gA S0)) 2 1500 (gA S0) := by
  refine gx_met (by decide) (Nat.le_of_ble_eq_true rfl) ?_
  intro p e s m args below meth c ls C hW hl
  have hx := C.1
  have hb := C.2.1
  have hl : lv_has ls 1 [(0, va_rf (some x0))] := hl
  unfold wX4_init at hw
  refine gx_aload_n hx hb dX4_init_0 rfl (lv_at hl 0 rfl) ?_
  refine gx_objInit C (List.mem_of_getElem? (i := 54) (by decide +kernel)) (List.mem_of_getElem? (i := 10) (by decide +kernel)) (List.mem_of_getElem? (i := 11) (by decide +kernel)) rfl hl.1 dX4_init_1 (Nat.le_of_ble_eq_true rfl) (Nat.le_of_ble_eq_true rfl) (Nat.le_of_ble_eq_true rfl) ?_
  refine gx_aload_n hx hb dX4_init_4 rfl (lv_at hl 0 rfl) ?_
  refine lv_sipush (v := 500) hx hb dX4_init_5 (by decide) ?_
  refine gx_newa (at0 := .long) (k := 1) (K := 500) (N := 500) C hW (List.mem_of_getElem? (i := 38) (by decide +kernel)) (Or.inr (Or.inl ⟨rfl, rfl⟩)) (by decide) (by decide) (by decide) (by decide) (Nat.le_of_ble_eq_true rfl) (Nat.le_of_ble_eq_true rfl) dX4_init_8 (fun H S2 eS2 hW hm t1 => ?_)
  have hw := hw S2 eS2
  have t0 := hm _ _ t0
  refine gx_putR (k := 256) C hW F4_9 (Or.inr ⟨rfl, rfl, rfl⟩) rfl rfl t0 rfl dX4_init_10 (fun H locs S3 eS3 hW hm => ?_)
  have hw := hw S3 eS3
  have t0 := hm _ _ t0
  have t1 := hm _ _ t1
  refine gx_aload_n hx hb dX4_init_13 rfl (lv_at hl 0 rfl) ?_
  refine lv_sipush (v := 1000) hx hb dX4_init_14 (by decide) ?_
  refine gx_newa (at0 := .int) (k := 0) (K := 1000) (N := 1000) C hW (List.mem_of_getElem? (i := 33) (by decide +kernel)) (Or.inl ⟨rfl, rfl⟩) (by decide) (by decide) (by decide) (by decide) (Nat.le_of_ble_eq_true rfl) (Nat.le_of_ble_eq_true rfl) dX4_init_17 (fun H S5 eS5 hW hm t4 => ?_)
  have hw := hw S5 eS5
  have t0 := hm _ _ t0
  have t1 := hm _ _ t1
  refine gx_putR (k := 257) C hW F4_15 (Or.inr ⟨rfl, rfl, rfl⟩) rfl rfl t0 rfl dX4_init_19 (fun H locs S6 eS6 hW hm => ?_)
  have hw := hw S6 eS6
  have t0 := hm _ _ t0
  have t1 := hm _ _ t1
  have t4 := hm _ _ t4
  refine gx_aload_n hx hb dX4_init_22 rfl (lv_at hl 0 rfl) ?_
  refine lv_iconst (v := -1) hx hb dX4_init_23 (by decide) ?_
  refine gx_putI (k := 258) C hW F4_19 (Or.inl rfl) rfl t0 rfl rfl rfl dX4_init_24 (fun H locs S7 eS7 hW hm => ?_)
  have hw := hw S7 eS7
  have t0 := hm _ _ t0
  have t1 := hm _ _ t1
  have t4 := hm _ _ t4
  exact gx_vret C hW (Nat.le_of_ble_eq_true rfl) (Nat.le_of_ble_eq_true rfl) hw dX4_init_27
/-! TrialStair$Report.begin -/
def wX4_begin (x0 : Nat) (S0 : Sg) (Q : Sg → Prop) : Prop := ∀ S1 : Sg, S1 = sFI S0 258 x0 (0 : Int32) → ∀ S2 : Sg, S2 = sFL S1 259 x0 (0 : Int64) → ∀ S3 : Sg, S3 = sFR S2 260 x0 none → ∀ S4 : Sg, S4 = sFI S3 261 x0 (0 : Int32) → ∀ S5 : Sg, S5 = sFI S4 262 x0 (0 : Int32) → ∀ S6 : Sg, S6 = sFI S5 263 x0 (0 : Int32) → ∀ S7 : Sg, S7 = sFI S6 264 x0 (0 : Int32) → Q S7
set_option maxHeartbeats 4000000 in
set_option maxRecDepth 100000 in
theorem mX4_begin (l : Launch) (D : va_G) (cy : Nat → ClassId) (x0 : Nat) (S0 : Sg) (Q : Sg → Prop) (t0 : tg S0 x0 = 5) (hw : wX4_begin x0 S0 Q) : Met l yX4_begin (.code yX4_begin cX4_begin 1 none :: wsL_law) { frames := 0, cells := 0, slots := 0, locals := 0 } (gPc D cy [va_rf (some x0)] S0) (va_Qv Q (gB D cy S0) (gA S0)) 0 0 (gA S0) := by
  refine gx_met (by decide) (Nat.le_of_ble_eq_true rfl) ?_
  intro p e s m args below meth c ls C hW hl
  have hx := C.1
  have hb := C.2.1
  have hl : lv_has ls 1 [(0, va_rf (some x0))] := hl
  unfold wX4_begin at hw
  refine gx_aload_n hx hb dX4_begin_0 rfl (lv_at hl 0 rfl) ?_
  refine lv_iconst (v := 0) hx hb dX4_begin_1 (by decide) ?_
  refine gx_putI (k := 258) C hW F4_19 (Or.inl rfl) rfl t0 rfl rfl rfl dX4_begin_2 (fun H locs S1 eS1 hW hm => ?_)
  have hw := hw S1 eS1
  have t0 := hm _ _ t0
  refine gx_aload_n hx hb dX4_begin_5 rfl (lv_at hl 0 rfl) ?_
  refine lv_lconst (v := 0) hx hb dX4_begin_6 (by decide) ?_
  refine gx_putL (k := 259) C hW F4_23 (Or.inl rfl) rfl t0 rfl dX4_begin_7 (fun H locs S2 eS2 hW hm => ?_)
  have hw := hw S2 eS2
  have t0 := hm _ _ t0
  refine gx_aload_n hx hb dX4_begin_10 rfl (lv_at hl 0 rfl) ?_
  refine gx_null hx hb dX4_begin_11 ?_
  refine gx_putR (k := 260) C hW F4_27 (Or.inl rfl) rfl rfl t0 rfl dX4_begin_12 (fun H locs S3 eS3 hW hm => ?_)
  have hw := hw S3 eS3
  have t0 := hm _ _ t0
  refine gx_aload_n hx hb dX4_begin_15 rfl (lv_at hl 0 rfl) ?_
  refine lv_iconst (v := 0) hx hb dX4_begin_16 (by decide) ?_
  refine gx_putI (k := 261) C hW F4_31 (Or.inl rfl) rfl t0 rfl rfl rfl dX4_begin_17 (fun H locs S4 eS4 hW hm => ?_)
  have hw := hw S4 eS4
  have t0 := hm _ _ t0
  refine gx_aload_n hx hb dX4_begin_20 rfl (lv_at hl 0 rfl) ?_
  refine lv_iconst (v := 0) hx hb dX4_begin_21 (by decide) ?_
  refine gx_putI (k := 262) C hW F4_34 (Or.inl rfl) rfl t0 rfl rfl rfl dX4_begin_22 (fun H locs S5 eS5 hW hm => ?_)
  have hw := hw S5 eS5
  have t0 := hm _ _ t0
  refine gx_aload_n hx hb dX4_begin_25 rfl (lv_at hl 0 rfl) ?_
  refine lv_iconst (v := 0) hx hb dX4_begin_26 (by decide) ?_
  refine gx_putI (k := 263) C hW F4_37 (Or.inl rfl) rfl t0 rfl rfl rfl dX4_begin_27 (fun H locs S6 eS6 hW hm => ?_)
  have hw := hw S6 eS6
  have t0 := hm _ _ t0
  refine gx_aload_n hx hb dX4_begin_30 rfl (lv_at hl 0 rfl) ?_
  refine lv_iconst (v := 0) hx hb dX4_begin_31 (by decide) ?_
  refine gx_putI (k := 264) C hW F4_40 (Or.inl rfl) rfl t0 rfl rfl rfl dX4_begin_32 (fun H locs S7 eS7 hW hm => ?_)
  have hw := hw S7 eS7
  have t0 := hm _ _ t0
  exact gx_vret C hW (Nat.le_of_ble_eq_true rfl) (Nat.le_of_ble_eq_true rfl) hw dX4_begin_35
/-! TrialStair$Report.tell -/
def wX4_tell (x0 : Nat) (x1 : Int64) (S0 : Sg) (Q : Sg → Prop) : Prop := (if (fI S0 261 x0) < 0 then Q S0 else ∃ a2 : Nat, (fR S0 256 x0) = some a2 ∧ tg S0 a2 = 14 ∧ (if (nI (ln S0 a2)) ≤ (fI S0 261 x0) then Q S0 else vp_in (fI S0 261 x0) (ln S0 a2) ∧ ∀ S5 : Sg, S5 = sAL S0 a2 ((fI S0 261 x0)).toNatClampNeg x1 → ∀ S6 : Sg, S6 = sFI S5 261 x0 ((fI S5 261 x0) + (1 : Int32)) → Q S6))
set_option maxHeartbeats 4000000 in
set_option maxRecDepth 100000 in
theorem mX4_tell (l : Launch) (D : va_G) (cy : Nat → ClassId) (x0 : Nat) (x1 : Int64) (S0 : Sg) (Q : Sg → Prop) (t0 : tg S0 x0 = 5) (hw : wX4_tell x0 x1 S0 Q) : Met l yX4_tell (.code yX4_tell cX4_tell 3 none :: wsL_law) { frames := 0, cells := 0, slots := 0, locals := 0 } (gPc D cy [va_rf (some x0), .long x1] S0) (va_Qv Q (gB D cy S0) (gA S0)) 0 0 (gA S0) := by
  refine gx_met (by decide) (Nat.le_of_ble_eq_true rfl) ?_
  intro p e s m args below meth c ls C hW hl
  have hx := C.1
  have hb := C.2.1
  have hl : lv_has ls 3 [(0, va_rf (some x0)), (1, .long x1)] := hl
  unfold wX4_tell at hw
  refine gx_aload_n hx hb dX4_tell_0 rfl (lv_at hl 0 rfl) ?_
  refine gx_getI C hW F4_31 (k := 261) rfl t0 rfl dX4_tell_1 ?_
  refine lv_if_lt (tgt := 39) hx hb dX4_tell_4 (by decide) (fun c1 => ?_) (fun c1 => ?_)
  · have hw := w_t hw c1
    exact gx_vret C hW (Nat.le_of_ble_eq_true rfl) (Nat.le_of_ble_eq_true rfl) hw dX4_tell_39
  · have hw := w_f hw c1
    refine gx_aload_n hx hb dX4_tell_7 rfl (lv_at hl 0 rfl) ?_
    refine gx_getI C hW F4_31 (k := 261) rfl t0 rfl dX4_tell_8 ?_
    refine gx_aload_n hx hb dX4_tell_11 rfl (lv_at hl 0 rfl) ?_
    refine gx_getR C hW F4_9 (k := 256) rfl t0 rfl dX4_tell_12 ?_
    obtain ⟨a2, ha2, ta2, hw⟩ := hw
    refine gx_alen C hW ha2 (Or.inr (Or.inl ta2)) dX4_tell_15 ?_
    refine lv_icmp_ge (tgt := 39) hx hb dX4_tell_16 (by decide) (fun c3 => ?_) (fun c3 => ?_)
    · have hw := w_t hw c3
      exact gx_vret C hW (Nat.le_of_ble_eq_true rfl) (Nat.le_of_ble_eq_true rfl) hw dX4_tell_39
    · have hw := w_f hw c3
      refine gx_aload_n hx hb dX4_tell_19 rfl (lv_at hl 0 rfl) ?_
      refine gx_getR C hW F4_9 (k := 256) rfl t0 rfl dX4_tell_20 ?_
      refine gx_aload_n hx hb dX4_tell_23 rfl (lv_at hl 0 rfl) ?_
      refine gx_getI C hW F4_31 (k := 261) rfl t0 rfl dX4_tell_24 ?_
      refine lv_lload_n hx hb dX4_tell_27 rfl (lv_at hl 1 rfl) ?_
      obtain ⟨i4, hw⟩ := hw
      refine gx_last C hW ha2 ta2 i4 dX4_tell_28 (fun H locs S5 eS5 hW hm => ?_)
      have hw := hw S5 eS5
      have t0 := hm _ _ t0
      have ta2 := hm _ _ ta2
      refine gx_aload_n hx hb dX4_tell_29 rfl (lv_at hl 0 rfl) ?_
      refine lv_dup hx hb dX4_tell_30 (va_rf_cat _) ?_
      refine gx_getI C hW F4_31 (k := 261) rfl t0 rfl dX4_tell_31 ?_
      refine lv_iconst (v := 1) hx hb dX4_tell_34 (by decide) ?_
      refine lv_iadd hx hb dX4_tell_35 ?_
      refine gx_putI (k := 261) C hW F4_31 (Or.inl rfl) rfl t0 rfl rfl rfl dX4_tell_36 (fun H locs S6 eS6 hW hm => ?_)
      have hw := hw S6 eS6
      have t0 := hm _ _ t0
      have ta2 := hm _ _ ta2
      exact gx_vret C hW (Nat.le_of_ble_eq_true rfl) (Nat.le_of_ble_eq_true rfl) hw dX4_tell_39
/-! TrialStair$Report.noteFinish -/
def wX4_noteFinish (x0 : Nat) (x1 : Int32) (S0 : Sg) (Q : Sg → Prop) : Prop := (if (fI S0 262 x0) < 0 then Q S0 else ∃ a2 : Nat, (fR S0 257 x0) = some a2 ∧ tg S0 a2 = 13 ∧ (if (nI (ln S0 a2)) ≤ (fI S0 262 x0) then Q S0 else vp_in (fI S0 262 x0) (ln S0 a2) ∧ ∀ S5 : Sg, S5 = sAI S0 a2 ((fI S0 262 x0)).toNatClampNeg x1 → ∀ S6 : Sg, S6 = sFI S5 262 x0 ((fI S5 262 x0) + (1 : Int32)) → Q S6))
set_option maxHeartbeats 4000000 in
set_option maxRecDepth 100000 in
theorem mX4_noteFinish (l : Launch) (D : va_G) (cy : Nat → ClassId) (x0 : Nat) (x1 : Int32) (S0 : Sg) (Q : Sg → Prop) (t0 : tg S0 x0 = 5) (hw : wX4_noteFinish x0 x1 S0 Q) : Met l yX4_noteFinish (.code yX4_noteFinish cX4_noteFinish 2 none :: wsL_law) { frames := 0, cells := 0, slots := 0, locals := 0 } (gPc D cy [va_rf (some x0), .int x1] S0) (va_Qv Q (gB D cy S0) (gA S0)) 0 0 (gA S0) := by
  refine gx_met (by decide) (Nat.le_of_ble_eq_true rfl) ?_
  intro p e s m args below meth c ls C hW hl
  have hx := C.1
  have hb := C.2.1
  have hl : lv_has ls 2 [(0, va_rf (some x0)), (1, .int x1)] := hl
  unfold wX4_noteFinish at hw
  refine gx_aload_n hx hb dX4_noteFinish_0 rfl (lv_at hl 0 rfl) ?_
  refine gx_getI C hW F4_34 (k := 262) rfl t0 rfl dX4_noteFinish_1 ?_
  refine lv_if_lt (tgt := 39) hx hb dX4_noteFinish_4 (by decide) (fun c1 => ?_) (fun c1 => ?_)
  · have hw := w_t hw c1
    exact gx_vret C hW (Nat.le_of_ble_eq_true rfl) (Nat.le_of_ble_eq_true rfl) hw dX4_noteFinish_39
  · have hw := w_f hw c1
    refine gx_aload_n hx hb dX4_noteFinish_7 rfl (lv_at hl 0 rfl) ?_
    refine gx_getI C hW F4_34 (k := 262) rfl t0 rfl dX4_noteFinish_8 ?_
    refine gx_aload_n hx hb dX4_noteFinish_11 rfl (lv_at hl 0 rfl) ?_
    refine gx_getR C hW F4_15 (k := 257) rfl t0 rfl dX4_noteFinish_12 ?_
    obtain ⟨a2, ha2, ta2, hw⟩ := hw
    refine gx_alen C hW ha2 (Or.inl ta2) dX4_noteFinish_15 ?_
    refine lv_icmp_ge (tgt := 39) hx hb dX4_noteFinish_16 (by decide) (fun c3 => ?_) (fun c3 => ?_)
    · have hw := w_t hw c3
      exact gx_vret C hW (Nat.le_of_ble_eq_true rfl) (Nat.le_of_ble_eq_true rfl) hw dX4_noteFinish_39
    · have hw := w_f hw c3
      refine gx_aload_n hx hb dX4_noteFinish_19 rfl (lv_at hl 0 rfl) ?_
      refine gx_getR C hW F4_15 (k := 257) rfl t0 rfl dX4_noteFinish_20 ?_
      refine gx_aload_n hx hb dX4_noteFinish_23 rfl (lv_at hl 0 rfl) ?_
      refine gx_getI C hW F4_34 (k := 262) rfl t0 rfl dX4_noteFinish_24 ?_
      refine lv_iload_n hx hb dX4_noteFinish_27 rfl (lv_at hl 1 rfl) ?_
      obtain ⟨i4, hw⟩ := hw
      refine gx_iast C hW ha2 ta2 i4 dX4_noteFinish_28 (fun H locs S5 eS5 hW hm => ?_)
      have hw := hw S5 eS5
      have t0 := hm _ _ t0
      have ta2 := hm _ _ ta2
      refine gx_aload_n hx hb dX4_noteFinish_29 rfl (lv_at hl 0 rfl) ?_
      refine lv_dup hx hb dX4_noteFinish_30 (va_rf_cat _) ?_
      refine gx_getI C hW F4_34 (k := 262) rfl t0 rfl dX4_noteFinish_31 ?_
      refine lv_iconst (v := 1) hx hb dX4_noteFinish_34 (by decide) ?_
      refine lv_iadd hx hb dX4_noteFinish_35 ?_
      refine gx_putI (k := 262) C hW F4_34 (Or.inl rfl) rfl t0 rfl rfl rfl dX4_noteFinish_36 (fun H locs S6 eS6 hW hm => ?_)
      have hw := hw S6 eS6
      have t0 := hm _ _ t0
      have ta2 := hm _ _ ta2
      exact gx_vret C hW (Nat.le_of_ble_eq_true rfl) (Nat.le_of_ble_eq_true rfl) hw dX4_noteFinish_39
/-! TrialStair$Report.countCauses -/
def wX4_countCauses_b7 : Nat → (Nat) → (Int32) → (Option Nat) → Sg → (Int32 → Sg → Prop) → Prop
  | 0, _, _, _, _, _ => False
  | fu + 1, x0, x1, x2, S, Q => (if x2 = none then Q x1 S else ∃ a3 : Nat, x2 = some a3 ∧ tg S a3 = 1 ∧ (if (fR S 1 a3) = none then Q x1 S else ∀ y5 : Int32, y5 = x1 + (1) → ∀ y6 : Option Nat, y6 = (fR S 1 a3) → wX4_countCauses_b7 fu x0 y5 y6 S Q))
def wX4_countCauses (x0 : Nat) (S0 : Sg) (Q : Int32 → Sg → Prop) : Prop := ∀ y1 : Option Nat, y1 = (fR S0 260 x0) → ∃ fu7 : Nat, wX4_countCauses_b7 fu7 x0 (0 : Int32) y1 S0 Q
set_option maxHeartbeats 4000000 in
set_option maxRecDepth 100000 in
theorem kX4_countCauses_l7 {p : Program} {l : Launch} {e : Env} {s : State} {m : MethodId} {args : Array Value} {below : List Frame} {meth : Method} {c : Code} {D : va_G} {cy : Nat → ClassId} {S0 : Sg} (C : gC p s m args meth c D cy cX4_countCauses 3 yX4_countCauses.cls (some .int) yX4_countCauses.name) {x0 : Nat} {Q : Int32 → Sg → Prop} : ∀ (fu : Nat) (x1 : Int32) (x2 : Option Nat) (S : Sg) (H : Heap) (locs : List Loc) (ls : Array Slot) (hW : gW D cy (gA S0) (tg S0) s.heap S H locs) (t0 : tg S x0 = 5) (hl : lv_has ls 3 [(0, va_rf (some x0)), (1, .int x1), (2, va_rf x2)]) (hw : wX4_countCauses_b7 fu x0 x1 x2 S Q), W p l e { frames := 0, cells := 0, slots := 0, locals := 0 } s m args below meth c H locs 0 0 (MQ below (va_Qi Q (gB D cy S0) (gA S0)) args s 0 0 (gA S0)) (F0 m 7 ls []) := by
  have hx := C.1
  have hb := C.2.1
  intro fu
  induction fu with
  | zero =>
    intro x1 x2 S H locs ls hW t0 hl hw
    unfold wX4_countCauses_b7 at hw
    exact hw.elim
  | succ fu ih =>
    intro x1 x2 S H locs ls hW t0 hl hw
    unfold wX4_countCauses_b7 at hw
    refine gx_aload_n hx hb dX4_countCauses_7 rfl (lv_at hl 2 rfl) ?_
    refine gx_ifnull (tgt := 29) hx hb dX4_countCauses_8 (by decide) (fun c2 => ?_) (fun c2 => ?_)
    · have hw := w_t hw c2
      refine lv_iload_n hx hb dX4_countCauses_29 rfl (lv_at hl 1 rfl) ?_
      exact gx_iret C hW (Nat.le_of_ble_eq_true rfl) (Nat.le_of_ble_eq_true rfl) rfl hw dX4_countCauses_30
    · have hw := w_f hw c2
      refine gx_aload_n hx hb dX4_countCauses_11 rfl (lv_at hl 2 rfl) ?_
      obtain ⟨a3, ha3, ta3, hw⟩ := hw
      refine gx_getR C hW F4_43 (k := 1) ha3 ta3 rfl dX4_countCauses_12 ?_
      refine gx_ifnull (tgt := 29) hx hb dX4_countCauses_15 (by decide) (fun c4 => ?_) (fun c4 => ?_)
      · have hw := w_t hw c4
        refine lv_iload_n hx hb dX4_countCauses_29 rfl (lv_at hl 1 rfl) ?_
        exact gx_iret C hW (Nat.le_of_ble_eq_true rfl) (Nat.le_of_ble_eq_true rfl) rfl hw dX4_countCauses_30
      · have hw := w_f hw c4
        obtain ⟨y5, ey5⟩ : ∃ z : Int32, z = x1 + (1) := ⟨_, rfl⟩
        have hw := hw y5 ey5
        refine lv_iinc (v := y5) (lv' := [(1, .int y5), (0, va_rf (some x0)), (2, va_rf x2)]) hx hb dX4_countCauses_18 hl (k := 1) rfl (by rw [ey5]; rfl) (by decide) rfl (fun ls hl => ?_)
        refine gx_aload_n hx hb dX4_countCauses_21 rfl (lv_at hl 2 rfl) ?_
        refine gx_getR C hW F4_43 (k := 1) ha3 ta3 rfl dX4_countCauses_22 ?_
        refine gx_topr (fun y6 ey6 => ?_)
        have hw := hw y6 ey6
        refine gx_astore_n (lv' := [(2, va_rf y6), (1, .int y5), (0, va_rf (some x0))]) hx hb dX4_countCauses_25 rfl hl (by decide) rfl (fun ls hl => ?_)
        refine lv_goto (tgt := 7) hx hb dX4_countCauses_26 (by decide) ?_
        exact ih _ _ _ _ _ _ hW t0 (lv_sub hl [2, 1, 0] rfl) hw
theorem kX4_countCauses_b7 {p : Program} {l : Launch} {e : Env} {s : State} {m : MethodId} {args : Array Value} {below : List Frame} {meth : Method} {c : Code} {D : va_G} {cy : Nat → ClassId} {S0 : Sg} (C : gC p s m args meth c D cy cX4_countCauses 3 yX4_countCauses.cls (some .int) yX4_countCauses.name) {H : Heap} {locs : List Loc} {ls : Array Slot} {x0 : Nat} {x1 : Int32} {x2 : Option Nat} {S : Sg} {Q : Int32 → Sg → Prop} (fu : Nat) (hW : gW D cy (gA S0) (tg S0) s.heap S H locs) (t0 : tg S x0 = 5) (hl : lv_has ls 3 [(0, va_rf (some x0)), (1, .int x1), (2, va_rf x2)]) (hw : wX4_countCauses_b7 fu x0 x1 x2 S Q) : W p l e { frames := 0, cells := 0, slots := 0, locals := 0 } s m args below meth c H locs 0 0 (MQ below (va_Qi Q (gB D cy S0) (gA S0)) args s 0 0 (gA S0)) (F0 m 7 ls []) := kX4_countCauses_l7 C fu _ _ _ _ _ _ hW t0 hl hw
set_option maxHeartbeats 4000000 in
set_option maxRecDepth 100000 in
theorem mX4_countCauses (l : Launch) (D : va_G) (cy : Nat → ClassId) (x0 : Nat) (S0 : Sg) (Q : Int32 → Sg → Prop) (t0 : tg S0 x0 = 5) (hw : wX4_countCauses x0 S0 Q) : Met l yX4_countCauses (.code yX4_countCauses cX4_countCauses 3 (some .int) :: wsL_law) { frames := 0, cells := 0, slots := 0, locals := 0 } (gPc D cy [va_rf (some x0)] S0) (va_Qi Q (gB D cy S0) (gA S0)) 0 0 (gA S0) := by
  refine gx_met (by decide) (Nat.le_of_ble_eq_true rfl) ?_
  intro p e s m args below meth c ls C hW hl
  have hx := C.1
  have hb := C.2.1
  have hl : lv_has ls 3 [(0, va_rf (some x0))] := hl
  unfold wX4_countCauses at hw
  refine lv_iconst (v := 0) hx hb dX4_countCauses_0 (by decide) ?_
  refine lv_istore_n (lv' := [(1, .int (0 : Int32)), (0, va_rf (some x0))]) hx hb dX4_countCauses_1 rfl hl (by decide) rfl (fun ls hl => ?_)
  refine gx_aload_n hx hb dX4_countCauses_2 rfl (lv_at hl 1 rfl) ?_
  refine gx_getR C hW F4_27 (k := 260) rfl t0 rfl dX4_countCauses_3 ?_
  refine gx_topr (fun y1 ey1 => ?_)
  have hw := hw y1 ey1
  refine gx_astore_n (lv' := [(2, va_rf y1), (1, .int (0 : Int32)), (0, va_rf (some x0))]) hx hb dX4_countCauses_6 rfl hl (by decide) rfl (fun ls hl => ?_)
  obtain ⟨fu7, hw⟩ := hw
  exact kX4_countCauses_b7 C fu7 hW t0 (lv_sub hl [2, 1, 0] rfl) hw
/-! TrialStair$Frame.<init> -/
def wX1_init (x0 : Nat) (x1 : Option Nat) (x2 : Option Nat) (x3 : Int32) (S0 : Sg) (Q : Sg → Prop) : Prop := ∀ S1 : Sg, S1 = sFI S0 68 x0 (0 : Int32) → ∀ S2 : Sg, S2 = sFR S1 64 x0 x1 → ∀ S3 : Sg, S3 = sFR S2 65 x0 x2 → ∀ S4 : Sg, S4 = sFI S3 66 x0 x3 → ∀ S5 : Sg, S5 = sFI S4 67 x0 x3 → Q S5
set_option maxHeartbeats 4000000 in
set_option maxRecDepth 100000 in
theorem mX1_init (l : Launch) (D : va_G) (cy : Nat → ClassId) (x0 : Nat) (x1 : Option Nat) (x2 : Option Nat) (x3 : Int32) (S0 : Sg) (Q : Sg → Prop) (t0 : tg S0 x0 = 2) (hw : wX1_init x0 x1 x2 x3 S0 Q) : Met l yX1_init (.code yX1_init cX1_init 4 none :: wsL_law) { frames := 1, cells := 0, slots := 0, locals := 20 } (gPc D cy [va_rf (some x0), va_rf x1, va_rf x2, .int x3] S0) (va_Qv Q (gB D cy S0) (gA S0)) 0 0 (gA S0) := by
  refine gx_met (by decide) (by simp [lg_sl, va_rf_cat, cat_i, cat_l]) ?_
  intro p e s m args below meth c ls C hW hl
  have hx := C.1
  have hb := C.2.1
  have hl : lv_has ls 4 [(0, va_rf (some x0)), (1, va_rf x1), (2, va_rf x2), (3, .int x3)] := by simpa [lv_args, va_rf_cat, cat_i, cat_l] using hl
  unfold wX1_init at hw
  refine gx_aload_n hx hb dX1_init_0 rfl (lv_at hl 0 rfl) ?_
  refine gx_objInit C (List.mem_of_getElem? (i := 208) (by decide +kernel)) (List.mem_of_getElem? (i := 10) (by decide +kernel)) (List.mem_of_getElem? (i := 11) (by decide +kernel)) rfl hl.1 dX1_init_1 (Nat.le_of_ble_eq_true rfl) (Nat.le_of_ble_eq_true rfl) (Nat.le_of_ble_eq_true rfl) ?_
  refine gx_aload_n hx hb dX1_init_4 rfl (lv_at hl 0 rfl) ?_
  refine lv_iconst (v := 0) hx hb dX1_init_5 (by decide) ?_
  refine gx_putI (k := 68) C hW F1_9 (Or.inl rfl) rfl t0 rfl rfl rfl dX1_init_6 (fun H locs S1 eS1 hW hm => ?_)
  have hw := hw S1 eS1
  have t0 := hm _ _ t0
  refine gx_aload_n hx hb dX1_init_9 rfl (lv_at hl 0 rfl) ?_
  refine gx_aload_n hx hb dX1_init_10 rfl (lv_at hl 1 rfl) ?_
  refine gx_putR (k := 64) C hW F1_15 (Or.inr ⟨rfl, rfl, rfl⟩) rfl rfl t0 rfl dX1_init_11 (fun H locs S2 eS2 hW hm => ?_)
  have hw := hw S2 eS2
  have t0 := hm _ _ t0
  refine gx_aload_n hx hb dX1_init_14 rfl (lv_at hl 0 rfl) ?_
  refine gx_aload_n hx hb dX1_init_15 rfl (lv_at hl 2 rfl) ?_
  refine gx_putR (k := 65) C hW F1_19 (Or.inr ⟨rfl, rfl, rfl⟩) rfl rfl t0 rfl dX1_init_16 (fun H locs S3 eS3 hW hm => ?_)
  have hw := hw S3 eS3
  have t0 := hm _ _ t0
  refine gx_aload_n hx hb dX1_init_19 rfl (lv_at hl 0 rfl) ?_
  refine lv_iload_n hx hb dX1_init_20 rfl (lv_at hl 3 rfl) ?_
  refine gx_putI (k := 66) C hW F1_23 (Or.inr ⟨rfl, rfl, rfl⟩) rfl t0 rfl rfl rfl dX1_init_21 (fun H locs S4 eS4 hW hm => ?_)
  have hw := hw S4 eS4
  have t0 := hm _ _ t0
  refine gx_aload_n hx hb dX1_init_24 rfl (lv_at hl 0 rfl) ?_
  refine lv_iload_n hx hb dX1_init_25 rfl (lv_at hl 3 rfl) ?_
  refine gx_putI (k := 67) C hW F1_26 (Or.inl rfl) rfl t0 rfl rfl rfl dX1_init_26 (fun H locs S5 eS5 hW hm => ?_)
  have hw := hw S5 eS5
  have t0 := hm _ _ t0
  exact gx_vret C hW (Nat.le_of_ble_eq_true rfl) (Nat.le_of_ble_eq_true rfl) hw dX1_init_29
/-! TrialStair$Frame.blockEnd -/
def wX1_blockEnd (x0 : Nat) (S0 : Sg) (Q : Int32 → Sg → Prop) : Prop := ∃ a1 : Nat, (fR S0 64 x0) = some a1 ∧ tg S0 a1 = 8 ∧ (if (fI S0 456 a1) < 0 then Q (fI S0 66 x0) S0 else Q (fI S0 456 a1) S0)
set_option maxHeartbeats 4000000 in
set_option maxRecDepth 100000 in
theorem mX1_blockEnd (l : Launch) (D : va_G) (cy : Nat → ClassId) (x0 : Nat) (S0 : Sg) (Q : Int32 → Sg → Prop) (t0 : tg S0 x0 = 2) (hw : wX1_blockEnd x0 S0 Q) : Met l yX1_blockEnd (.code yX1_blockEnd cX1_blockEnd 1 (some .int) :: wsL_law) { frames := 0, cells := 0, slots := 0, locals := 0 } (gPc D cy [va_rf (some x0)] S0) (va_Qi Q (gB D cy S0) (gA S0)) 0 0 (gA S0) := by
  refine gx_met (by decide) (Nat.le_of_ble_eq_true rfl) ?_
  intro p e s m args below meth c ls C hW hl
  have hx := C.1
  have hb := C.2.1
  have hl : lv_has ls 1 [(0, va_rf (some x0))] := hl
  unfold wX1_blockEnd at hw
  refine gx_aload_n hx hb dX1_blockEnd_0 rfl (lv_at hl 0 rfl) ?_
  refine gx_getR C hW F1_15 (k := 64) rfl t0 rfl dX1_blockEnd_1 ?_
  obtain ⟨a1, ha1, ta1, hw⟩ := hw
  refine gx_getI C hW F1_29 (k := 456) ha1 ta1 rfl dX1_blockEnd_4 ?_
  refine lv_if_lt (tgt := 20) hx hb dX1_blockEnd_7 (by decide) (fun c2 => ?_) (fun c2 => ?_)
  · have hw := w_t hw c2
    refine gx_aload_n hx hb dX1_blockEnd_20 rfl (lv_at hl 0 rfl) ?_
    refine gx_getI C hW F1_23 (k := 66) rfl t0 rfl dX1_blockEnd_21 ?_
    exact gx_iret C hW (Nat.le_of_ble_eq_true rfl) (Nat.le_of_ble_eq_true rfl) rfl hw dX1_blockEnd_24
  · have hw := w_f hw c2
    refine gx_aload_n hx hb dX1_blockEnd_10 rfl (lv_at hl 0 rfl) ?_
    refine gx_getR C hW F1_15 (k := 64) rfl t0 rfl dX1_blockEnd_11 ?_
    refine gx_getI C hW F1_29 (k := 456) ha1 ta1 rfl dX1_blockEnd_14 ?_
    refine lv_goto (tgt := 24) hx hb dX1_blockEnd_17 (by decide) ?_
    exact gx_iret C hW (Nat.le_of_ble_eq_true rfl) (Nat.le_of_ble_eq_true rfl) rfl hw dX1_blockEnd_24
/-! TrialStair$Frame.placeBehind -/
def wX1_placeBehind (x0 : Nat) (S0 : Sg) (Q : Int32 → Sg → Prop) : Prop := ∃ a1 : Nat, (fR S0 64 x0) = some a1 ∧ tg S0 a1 = 8 ∧ (if (fI S0 456 a1) < 0 then Q (fI S0 66 x0) S0 else Q ((fI S0 456 a1) + (1 : Int32)) S0)
set_option maxHeartbeats 4000000 in
set_option maxRecDepth 100000 in
theorem mX1_placeBehind (l : Launch) (D : va_G) (cy : Nat → ClassId) (x0 : Nat) (S0 : Sg) (Q : Int32 → Sg → Prop) (t0 : tg S0 x0 = 2) (hw : wX1_placeBehind x0 S0 Q) : Met l yX1_placeBehind (.code yX1_placeBehind cX1_placeBehind 1 (some .int) :: wsL_law) { frames := 0, cells := 0, slots := 0, locals := 0 } (gPc D cy [va_rf (some x0)] S0) (va_Qi Q (gB D cy S0) (gA S0)) 0 0 (gA S0) := by
  refine gx_met (by decide) (Nat.le_of_ble_eq_true rfl) ?_
  intro p e s m args below meth c ls C hW hl
  have hx := C.1
  have hb := C.2.1
  have hl : lv_has ls 1 [(0, va_rf (some x0))] := hl
  unfold wX1_placeBehind at hw
  refine gx_aload_n hx hb dX1_placeBehind_0 rfl (lv_at hl 0 rfl) ?_
  refine gx_getR C hW F1_15 (k := 64) rfl t0 rfl dX1_placeBehind_1 ?_
  obtain ⟨a1, ha1, ta1, hw⟩ := hw
  refine gx_getI C hW F1_29 (k := 456) ha1 ta1 rfl dX1_placeBehind_4 ?_
  refine lv_if_lt (tgt := 22) hx hb dX1_placeBehind_7 (by decide) (fun c2 => ?_) (fun c2 => ?_)
  · have hw := w_t hw c2
    refine gx_aload_n hx hb dX1_placeBehind_22 rfl (lv_at hl 0 rfl) ?_
    refine gx_getI C hW F1_23 (k := 66) rfl t0 rfl dX1_placeBehind_23 ?_
    exact gx_iret C hW (Nat.le_of_ble_eq_true rfl) (Nat.le_of_ble_eq_true rfl) rfl hw dX1_placeBehind_26
  · have hw := w_f hw c2
    refine gx_aload_n hx hb dX1_placeBehind_10 rfl (lv_at hl 0 rfl) ?_
    refine gx_getR C hW F1_15 (k := 64) rfl t0 rfl dX1_placeBehind_11 ?_
    refine gx_getI C hW F1_29 (k := 456) ha1 ta1 rfl dX1_placeBehind_14 ?_
    refine lv_iconst (v := 1) hx hb dX1_placeBehind_17 (by decide) ?_
    refine lv_iadd hx hb dX1_placeBehind_18 ?_
    refine lv_goto (tgt := 26) hx hb dX1_placeBehind_19 (by decide) ?_
    exact gx_iret C hW (Nat.le_of_ble_eq_true rfl) (Nat.le_of_ble_eq_true rfl) rfl hw dX1_placeBehind_26
/-! TrialStair$Frame.takerEnd -/
def wX1_takerEnd (x0 : Nat) (S0 : Sg) (Q : Int32 → Sg → Prop) : Prop := ∃ a1 : Nat, (fR S0 64 x0) = some a1 ∧ tg S0 a1 = 8 ∧ (if (fI S0 455 a1) < 0 then wX1_blockEnd x0  S0 (fun (r3 : Int32) (S4 : Sg) => Q r3 S4) else Q (fI S0 455 a1) S0)
set_option maxHeartbeats 4000000 in
set_option maxRecDepth 100000 in
theorem mX1_takerEnd (l : Launch) (D : va_G) (cy : Nat → ClassId) (x0 : Nat) (S0 : Sg) (Q : Int32 → Sg → Prop) (t0 : tg S0 x0 = 2) (hw : wX1_takerEnd x0 S0 Q) : Met l yX1_takerEnd (.code yX1_takerEnd cX1_takerEnd 1 (some .int) :: wsL_law) { frames := 1, cells := 0, slots := 0, locals := 20 } (gPc D cy [va_rf (some x0)] S0) (va_Qi Q (gB D cy S0) (gA S0)) 0 0 (gA S0) := by
  refine gx_met (by decide) (Nat.le_of_ble_eq_true rfl) ?_
  intro p e s m args below meth c ls C hW hl
  have hx := C.1
  have hb := C.2.1
  have hl : lv_has ls 1 [(0, va_rf (some x0))] := hl
  unfold wX1_takerEnd at hw
  refine gx_aload_n hx hb dX1_takerEnd_0 rfl (lv_at hl 0 rfl) ?_
  refine gx_getR C hW F1_15 (k := 64) rfl t0 rfl dX1_takerEnd_1 ?_
  obtain ⟨a1, ha1, ta1, hw⟩ := hw
  refine gx_getI C hW F1_34 (k := 455) ha1 ta1 rfl dX1_takerEnd_4 ?_
  refine lv_if_lt (tgt := 20) hx hb dX1_takerEnd_7 (by decide) (fun c2 => ?_) (fun c2 => ?_)
  · have hw := w_t hw c2
    refine gx_aload_n hx hb dX1_takerEnd_20 rfl (lv_at hl 0 rfl) ?_
    refine gx_ci (gx_rV C hW M1_37 (mX1_blockEnd l D cy _ _ _ t0 hw) rfl rfl ⟨Nat.le_of_ble_eq_true rfl, Nat.le_of_ble_eq_true rfl⟩ rfl t0 (by decide) rfl rfl hl.1 rfl (Nat.le_of_ble_eq_true rfl) dX1_takerEnd_21 ⟨Nat.le_of_ble_eq_true rfl, Nat.le_of_ble_eq_true rfl⟩) hW (fun r3 S4 H locs hW hm hw => ?_)
    have t0 := hm _ _ t0
    have ta1 := hm _ _ ta1
    exact gx_iret C hW (Nat.le_of_ble_eq_true rfl) (Nat.le_of_ble_eq_true rfl) rfl hw dX1_takerEnd_24
  · have hw := w_f hw c2
    refine gx_aload_n hx hb dX1_takerEnd_10 rfl (lv_at hl 0 rfl) ?_
    refine gx_getR C hW F1_15 (k := 64) rfl t0 rfl dX1_takerEnd_11 ?_
    refine gx_getI C hW F1_34 (k := 455) ha1 ta1 rfl dX1_takerEnd_14 ?_
    refine lv_goto (tgt := 24) hx hb dX1_takerEnd_17 (by decide) ?_
    exact gx_iret C hW (Nat.le_of_ble_eq_true rfl) (Nat.le_of_ble_eq_true rfl) rfl hw dX1_takerEnd_24
/-! TrialStair$Frame.bodyEnd -/
def wX1_bodyEnd (x0 : Nat) (S0 : Sg) (Q : Int32 → Sg → Prop) : Prop := ∃ a1 : Nat, (fR S0 64 x0) = some a1 ∧ tg S0 a1 = 8 ∧ (if (fI S0 454 a1) < 0 then wX1_takerEnd x0  S0 (fun (r3 : Int32) (S4 : Sg) => Q r3 S4) else Q (fI S0 454 a1) S0)
set_option maxHeartbeats 4000000 in
set_option maxRecDepth 100000 in
theorem mX1_bodyEnd (l : Launch) (D : va_G) (cy : Nat → ClassId) (x0 : Nat) (S0 : Sg) (Q : Int32 → Sg → Prop) (t0 : tg S0 x0 = 2) (hw : wX1_bodyEnd x0 S0 Q) : Met l yX1_bodyEnd (.code yX1_bodyEnd cX1_bodyEnd 1 (some .int) :: wsL_law) { frames := 2, cells := 0, slots := 0, locals := 40 } (gPc D cy [va_rf (some x0)] S0) (va_Qi Q (gB D cy S0) (gA S0)) 0 0 (gA S0) := by
  refine gx_met (by decide) (Nat.le_of_ble_eq_true rfl) ?_
  intro p e s m args below meth c ls C hW hl
  have hx := C.1
  have hb := C.2.1
  have hl : lv_has ls 1 [(0, va_rf (some x0))] := hl
  unfold wX1_bodyEnd at hw
  refine gx_aload_n hx hb dX1_bodyEnd_0 rfl (lv_at hl 0 rfl) ?_
  refine gx_getR C hW F1_15 (k := 64) rfl t0 rfl dX1_bodyEnd_1 ?_
  obtain ⟨a1, ha1, ta1, hw⟩ := hw
  refine gx_getI C hW F1_41 (k := 454) ha1 ta1 rfl dX1_bodyEnd_4 ?_
  refine lv_if_lt (tgt := 20) hx hb dX1_bodyEnd_7 (by decide) (fun c2 => ?_) (fun c2 => ?_)
  · have hw := w_t hw c2
    refine gx_aload_n hx hb dX1_bodyEnd_20 rfl (lv_at hl 0 rfl) ?_
    refine gx_ci (gx_rV C hW M1_44 (mX1_takerEnd l D cy _ _ _ t0 hw) rfl rfl ⟨Nat.le_of_ble_eq_true rfl, Nat.le_of_ble_eq_true rfl⟩ rfl t0 (by decide) rfl rfl hl.1 rfl (Nat.le_of_ble_eq_true rfl) dX1_bodyEnd_21 ⟨Nat.le_of_ble_eq_true rfl, Nat.le_of_ble_eq_true rfl⟩) hW (fun r3 S4 H locs hW hm hw => ?_)
    have t0 := hm _ _ t0
    have ta1 := hm _ _ ta1
    exact gx_iret C hW (Nat.le_of_ble_eq_true rfl) (Nat.le_of_ble_eq_true rfl) rfl hw dX1_bodyEnd_24
  · have hw := w_f hw c2
    refine gx_aload_n hx hb dX1_bodyEnd_10 rfl (lv_at hl 0 rfl) ?_
    refine gx_getR C hW F1_15 (k := 64) rfl t0 rfl dX1_bodyEnd_11 ?_
    refine gx_getI C hW F1_41 (k := 454) ha1 ta1 rfl dX1_bodyEnd_14 ?_
    refine lv_goto (tgt := 24) hx hb dX1_bodyEnd_17 (by decide) ?_
    exact gx_iret C hW (Nat.le_of_ble_eq_true rfl) (Nat.le_of_ble_eq_true rfl) rfl hw dX1_bodyEnd_24
end
section
/-! TrialStair$Row.<init> -/
def wX5_init_b22 (x0 : Nat) (x1 : Int32) (q0 : Option Nat) (q1 : Int32) (S : Sg) (Q : Sg → Prop) : Prop := ¬ q1 < 0 ∧ (q1).toNatClampNeg ≤ 63 ∧ ∀ S6 : Sg, S6 = nw S 14 (q1).toNatClampNeg → ∃ a7 : Nat, q0 = some a7 ∧ tg S6 a7 = 6 ∧ ∀ S8 : Sg, S8 = sFR S6 321 a7 (some (sz S)) → (if x1 = (7 : Int32) then ∀ S14 : Sg, S14 = nw S8 18 63 → ∀ S15 : Sg, S15 = sFR S14 322 x0 (some (sz S8)) → Q S15 else ∀ S11 : Sg, S11 = nw S8 18 0 → ∀ S12 : Sg, S12 = sFR S11 322 x0 (some (sz S8)) → Q S12)
def wX5_init (x0 : Nat) (x1 : Int32) (S0 : Sg) (Q : Sg → Prop) : Prop := ∀ S1 : Sg, S1 = sFI S0 320 x0 x1 → (if x1 = (7 : Int32) then wX5_init_b22 x0 x1 (some x0) (0 : Int32) S1 Q else wX5_init_b22 x0 x1 (some x0) (63 : Int32) S1 Q)
set_option maxHeartbeats 4000000 in
set_option maxRecDepth 100000 in
theorem kX5_init_b22 {p : Program} {l : Launch} {e : Env} {s : State} {m : MethodId} {args : Array Value} {below : List Frame} {meth : Method} {c : Code} {D : va_G} {cy : Nat → ClassId} {S0 : Sg} (C : gC p s m args meth c D cy cX5_init 2 yX5_init.cls none yX5_init.name) {H : Heap} {locs : List Loc} {ls : Array Slot} {x0 : Nat} {x1 : Int32} {q0 : Option Nat} {q1 : Int32} {S : Sg} {Q : Sg → Prop} (hW : gW D cy (gA S0) (tg S0) s.heap S H locs) (t0 : tg S x0 = 6) (hl : lv_has ls 2 [(0, va_rf (some x0)), (1, .int x1)]) (hw : wX5_init_b22 x0 x1 q0 q1 S Q) : W p l e { frames := 1, cells := 2, slots := 126, locals := 20 } s m args below meth c H locs 0 0 (MQ below (va_Qv Q (gB D cy S0) (gA S0)) args s 2 126 (gA S0)) (F0 m 22 ls [.int q1, va_rf q0]) := by
  have hx := C.1
  have hb := C.2.1
  unfold wX5_init_b22 at hw
  obtain ⟨n3, n4, hw⟩ := hw
  refine gx_newa (at0 := .long) (k := 1) (K := 63) (N := (q1).toNatClampNeg) C hW (List.mem_of_getElem? (i := 38) (by decide +kernel)) (Or.inr (Or.inl ⟨rfl, rfl⟩)) n3 rfl n4 (by decide) (Nat.le_of_ble_eq_true rfl) (Nat.le_of_ble_eq_true rfl) dX5_init_22 (fun H S6 eS6 hW hm t5 => ?_)
  have hw := hw S6 eS6
  have t0 := hm _ _ t0
  obtain ⟨a7, ha7, ta7, hw⟩ := hw
  refine gx_putR (k := 321) C hW F5_15 (Or.inr ⟨rfl, rfl, rfl⟩) rfl ha7 ta7 rfl dX5_init_24 (fun H locs S8 eS8 hW hm => ?_)
  have hw := hw S8 eS8
  have t0 := hm _ _ t0
  have t5 := hm _ _ t5
  have ta7 := hm _ _ ta7
  refine gx_aload_n hx hb dX5_init_27 rfl (lv_at hl 0 rfl) ?_
  refine lv_iload_n hx hb dX5_init_28 rfl (lv_at hl 1 rfl) ?_
  refine lv_bipush (v := 7) hx hb dX5_init_29 (by decide) ?_
  refine lv_icmp_ne (tgt := 39) hx hb dX5_init_31 (by decide) (fun c9 => ?_) (fun c9 => ?_)
  · have hw := w_f hw c9
    refine lv_iconst (v := 0) hx hb dX5_init_39 (by decide) ?_
    refine gx_newq (Cn := RX8) (k := 5) (K := 0) (N := 0) C hW (List.mem_of_getElem? (i := 407) (by decide +kernel)) (Or.inr (Or.inr ⟨rfl, rfl⟩)) (by decide) (by decide) (by decide) (by decide) (Nat.le_of_ble_eq_true rfl) (Nat.le_of_ble_eq_true rfl) dX5_init_40 (fun H S11 eS11 hW hm t10 => ?_)
    have hw := hw S11 eS11
    have t0 := hm _ _ t0
    have t5 := hm _ _ t5
    have ta7 := hm _ _ ta7
    refine gx_putR (k := 322) C hW F5_21 (Or.inr ⟨rfl, rfl, rfl⟩) rfl rfl t0 rfl dX5_init_43 (fun H locs S12 eS12 hW hm => ?_)
    have hw := hw S12 eS12
    have t0 := hm _ _ t0
    have t5 := hm _ _ t5
    have ta7 := hm _ _ ta7
    have t10 := hm _ _ t10
    exact gx_vret C hW (Nat.le_of_ble_eq_true rfl) (Nat.le_of_ble_eq_true rfl) hw dX5_init_46
  · have hw := w_t hw c9
    refine lv_bipush (v := 63) hx hb dX5_init_34 (by decide) ?_
    refine lv_goto (tgt := 40) hx hb dX5_init_36 (by decide) ?_
    refine gx_newq (Cn := RX8) (k := 5) (K := 63) (N := 63) C hW (List.mem_of_getElem? (i := 407) (by decide +kernel)) (Or.inr (Or.inr ⟨rfl, rfl⟩)) (by decide) (by decide) (by decide) (by decide) (Nat.le_of_ble_eq_true rfl) (Nat.le_of_ble_eq_true rfl) dX5_init_40 (fun H S14 eS14 hW hm t13 => ?_)
    have hw := hw S14 eS14
    have t0 := hm _ _ t0
    have t5 := hm _ _ t5
    have ta7 := hm _ _ ta7
    refine gx_putR (k := 322) C hW F5_21 (Or.inr ⟨rfl, rfl, rfl⟩) rfl rfl t0 rfl dX5_init_43 (fun H locs S15 eS15 hW hm => ?_)
    have hw := hw S15 eS15
    have t0 := hm _ _ t0
    have t5 := hm _ _ t5
    have ta7 := hm _ _ ta7
    have t13 := hm _ _ t13
    exact gx_vret C hW (Nat.le_of_ble_eq_true rfl) (Nat.le_of_ble_eq_true rfl) hw dX5_init_46
set_option maxHeartbeats 4000000 in
set_option maxRecDepth 100000 in
theorem mX5_init (l : Launch) (D : va_G) (cy : Nat → ClassId) (x0 : Nat) (x1 : Int32) (S0 : Sg) (Q : Sg → Prop) (t0 : tg S0 x0 = 6) (hw : wX5_init x0 x1 S0 Q) : Met l yX5_init (.code yX5_init cX5_init 2 none :: wsL_law) { frames := 1, cells := 2, slots := 126, locals := 20 } (gPc D cy [va_rf (some x0), .int x1] S0) (va_Qv Q (gB D cy S0) (gA S0)) 2 126 (gA S0) := by
  refine gx_met (by decide) (Nat.le_of_ble_eq_true rfl) ?_
  intro p e s m args below meth c ls C hW hl
  have hx := C.1
  have hb := C.2.1
  have hl : lv_has ls 2 [(0, va_rf (some x0)), (1, .int x1)] := hl
  unfold wX5_init at hw
  refine gx_aload_n hx hb dX5_init_0 rfl (lv_at hl 0 rfl) ?_
  refine gx_objInit C (List.mem_of_getElem? (i := 404) (by decide +kernel)) (List.mem_of_getElem? (i := 10) (by decide +kernel)) (List.mem_of_getElem? (i := 11) (by decide +kernel)) rfl hl.1 dX5_init_1 (Nat.le_of_ble_eq_true rfl) (Nat.le_of_ble_eq_true rfl) (Nat.le_of_ble_eq_true rfl) ?_
  refine gx_aload_n hx hb dX5_init_4 rfl (lv_at hl 0 rfl) ?_
  refine lv_iload_n hx hb dX5_init_5 rfl (lv_at hl 1 rfl) ?_
  refine gx_putI (k := 320) C hW F5_9 (Or.inr ⟨rfl, rfl, rfl⟩) rfl t0 rfl rfl rfl dX5_init_6 (fun H locs S1 eS1 hW hm => ?_)
  have hw := hw S1 eS1
  have t0 := hm _ _ t0
  refine gx_aload_n hx hb dX5_init_9 rfl (lv_at hl 0 rfl) ?_
  refine lv_iload_n hx hb dX5_init_10 rfl (lv_at hl 1 rfl) ?_
  refine lv_bipush (v := 7) hx hb dX5_init_11 (by decide) ?_
  refine lv_icmp_ne (tgt := 20) hx hb dX5_init_13 (by decide) (fun c2 => ?_) (fun c2 => ?_)
  · have hw := w_f hw c2
    refine lv_bipush (v := 63) hx hb dX5_init_20 (by decide) ?_
    exact kX5_init_b22 C hW t0 (lv_sub hl [0, 1] rfl) hw
  · have hw := w_t hw c2
    refine lv_iconst (v := 0) hx hb dX5_init_16 (by decide) ?_
    refine lv_goto (tgt := 22) hx hb dX5_init_17 (by decide) ?_
    exact kX5_init_b22 C hW t0 (lv_sub hl [0, 1] rfl) hw
/-! TrialStair$Row.empty -/
def wX5_empty_b20 : Nat → (Nat) → (Int32) → Sg → (Sg → Prop) → Prop
  | 0, _, _, _, _ => False
  | fu + 1, x0, x3, S, Q => ∃ a6 : Nat, (fR S 322 x0) = some a6 ∧ tg S a6 = 18 ∧ (if (nI (ln S a6)) ≤ x3 then Q S else vp_in x3 (ln S a6) ∧ ∀ S9 : Sg, S9 = sAR S a6 (x3).toNatClampNeg none → ∀ y10 : Int32, y10 = x3 + (1) → wX5_empty_b20 fu x0 y10 S9 Q)
def wX5_empty (x0 : Nat) (x1 : Int32) (x2 : Int32) (S0 : Sg) (Q : Sg → Prop) : Prop := ∀ S1 : Sg, S1 = sFI S0 323 x0 x1 → (x2 = 0 ∨ x2 = 1) ∧ ∀ S3 : Sg, S3 = sFI S1 324 x0 x2 → wJ7_fill_d0a16 (fR S3 321 x0) (0 : Int64) S3 (fun (S5 : Sg) => ∃ fu11 : Nat, wX5_empty_b20 fu11 x0 (0 : Int32) S5 Q)
set_option maxHeartbeats 4000000 in
set_option maxRecDepth 100000 in
theorem kX5_empty_l20 {p : Program} {l : Launch} {e : Env} {s : State} {m : MethodId} {args : Array Value} {below : List Frame} {meth : Method} {c : Code} {D : va_G} {cy : Nat → ClassId} {S0 : Sg} (C : gC p s m args meth c D cy cX5_empty 4 yX5_empty.cls none yX5_empty.name) {x0 : Nat} {Q : Sg → Prop} : ∀ (fu : Nat) (x3 : Int32) (S : Sg) (H : Heap) (locs : List Loc) (ls : Array Slot) (hW : gW D cy (gA S0) (tg S0) s.heap S H locs) (t0 : tg S x0 = 6) (hl : lv_has ls 4 [(0, va_rf (some x0)), (3, .int x3)]) (hw : wX5_empty_b20 fu x0 x3 S Q), W p l e { frames := 1, cells := 0, slots := 0, locals := 24 } s m args below meth c H locs 0 0 (MQ below (va_Qv Q (gB D cy S0) (gA S0)) args s 0 0 (gA S0)) (F0 m 20 ls []) := by
  have hx := C.1
  have hb := C.2.1
  intro fu
  induction fu with
  | zero =>
    intro x3 S H locs ls hW t0 hl hw
    unfold wX5_empty_b20 at hw
    exact hw.elim
  | succ fu ih =>
    intro x3 S H locs ls hW t0 hl hw
    unfold wX5_empty_b20 at hw
    refine lv_iload_n hx hb dX5_empty_20 rfl (lv_at hl 1 rfl) ?_
    refine gx_aload_n hx hb dX5_empty_21 rfl (lv_at hl 0 rfl) ?_
    refine gx_getR C hW F5_21 (k := 322) rfl t0 rfl dX5_empty_22 ?_
    obtain ⟨a6, ha6, ta6, hw⟩ := hw
    refine gx_alen C hW ha6 (Or.inr (Or.inr (Or.inr (Or.inr (Or.inr ta6))))) dX5_empty_25 ?_
    refine lv_icmp_ge (tgt := 42) hx hb dX5_empty_26 (by decide) (fun c7 => ?_) (fun c7 => ?_)
    · have hw := w_t hw c7
      exact gx_vret C hW (Nat.le_of_ble_eq_true rfl) (Nat.le_of_ble_eq_true rfl) hw dX5_empty_42
    · have hw := w_f hw c7
      refine gx_aload_n hx hb dX5_empty_29 rfl (lv_at hl 0 rfl) ?_
      refine gx_getR C hW F5_21 (k := 322) rfl t0 rfl dX5_empty_30 ?_
      refine lv_iload_n hx hb dX5_empty_33 rfl (lv_at hl 1 rfl) ?_
      refine gx_null hx hb dX5_empty_34 ?_
      obtain ⟨i8, hw⟩ := hw
      refine gx_aastN C hW ha6 (Or.inr (Or.inr ta6)) i8 dX5_empty_35 (fun H locs S9 eS9 hW hm => ?_)
      have hw := hw S9 eS9
      have t0 := hm _ _ t0
      have ta6 := hm _ _ ta6
      obtain ⟨y10, ey10⟩ : ∃ z : Int32, z = x3 + (1) := ⟨_, rfl⟩
      have hw := hw y10 ey10
      refine lv_iinc (v := y10) (lv' := [(3, .int y10), (0, va_rf (some x0))]) hx hb dX5_empty_36 hl (k := 1) rfl (by rw [ey10]; rfl) (by decide) rfl (fun ls hl => ?_)
      refine lv_goto (tgt := 20) hx hb dX5_empty_39 (by decide) ?_
      exact ih _ _ _ _ _ hW t0 (lv_sub hl [1, 0] rfl) hw
theorem kX5_empty_b20 {p : Program} {l : Launch} {e : Env} {s : State} {m : MethodId} {args : Array Value} {below : List Frame} {meth : Method} {c : Code} {D : va_G} {cy : Nat → ClassId} {S0 : Sg} (C : gC p s m args meth c D cy cX5_empty 4 yX5_empty.cls none yX5_empty.name) {H : Heap} {locs : List Loc} {ls : Array Slot} {x0 : Nat} {x3 : Int32} {S : Sg} {Q : Sg → Prop} (fu : Nat) (hW : gW D cy (gA S0) (tg S0) s.heap S H locs) (t0 : tg S x0 = 6) (hl : lv_has ls 4 [(0, va_rf (some x0)), (3, .int x3)]) (hw : wX5_empty_b20 fu x0 x3 S Q) : W p l e { frames := 1, cells := 0, slots := 0, locals := 24 } s m args below meth c H locs 0 0 (MQ below (va_Qv Q (gB D cy S0) (gA S0)) args s 0 0 (gA S0)) (F0 m 20 ls []) := kX5_empty_l20 C fu _ _ _ _ _ hW t0 hl hw
set_option maxHeartbeats 4000000 in
set_option maxRecDepth 100000 in
theorem mX5_empty (l : Launch) (D : va_G) (cy : Nat → ClassId) (x0 : Nat) (x1 : Int32) (x2 : Int32) (S0 : Sg) (Q : Sg → Prop) (t0 : tg S0 x0 = 6) (hw : wX5_empty x0 x1 x2 S0 Q) : Met l yX5_empty (.code yX5_empty cX5_empty 4 none :: wsL_law) { frames := 1, cells := 0, slots := 0, locals := 24 } (gPc D cy [va_rf (some x0), .int x1, .int x2] S0) (va_Qv Q (gB D cy S0) (gA S0)) 0 0 (gA S0) := by
  refine gx_met (by decide) (Nat.le_of_ble_eq_true rfl) ?_
  intro p e s m args below meth c ls C hW hl
  have hx := C.1
  have hb := C.2.1
  have hl : lv_has ls 4 [(0, va_rf (some x0)), (1, .int x1), (2, .int x2)] := hl
  unfold wX5_empty at hw
  refine gx_aload_n hx hb dX5_empty_0 rfl (lv_at hl 0 rfl) ?_
  refine lv_iload_n hx hb dX5_empty_1 rfl (lv_at hl 1 rfl) ?_
  refine gx_putI (k := 323) C hW F5_25 (Or.inl rfl) rfl t0 rfl rfl rfl dX5_empty_2 (fun H locs S1 eS1 hW hm => ?_)
  have hw := hw S1 eS1
  have t0 := hm _ _ t0
  refine gx_aload_n hx hb dX5_empty_5 rfl (lv_at hl 0 rfl) ?_
  refine lv_iload_n hx hb dX5_empty_6 rfl (lv_at hl 2 rfl) ?_
  obtain ⟨z2, hw⟩ := hw
  refine gx_putI (k := 324) C hW F5_28 (Or.inl rfl) rfl t0 rfl (bz_n z2) (bz_f z2) dX5_empty_7 (fun H locs S3 eS3 hW hm => ?_)
  have hw := hw S3 eS3
  have t0 := hm _ _ t0
  refine gx_aload_n hx hb dX5_empty_10 rfl (lv_at hl 0 rfl) ?_
  refine gx_getR C hW F5_15 (k := 321) rfl t0 rfl dX5_empty_11 ?_
  refine lv_lconst (v := 0) hx hb dX5_empty_14 (by decide) ?_
  refine gx_cv (gx_rS C hW M5_32 (mJ7_fill_d0a16 l D cy _ _ _ _  hw) rfl rfl ⟨Nat.le_of_ble_eq_true rfl, Nat.le_of_ble_eq_true rfl⟩ rfl hl.1 rfl (Nat.le_of_ble_eq_true rfl) dX5_empty_15 ⟨Nat.le_of_ble_eq_true rfl, Nat.le_of_ble_eq_true rfl⟩) hW (fun S5 H locs hW hm hw => ?_)
  have t0 := hm _ _ t0
  refine lv_iconst (v := 0) hx hb dX5_empty_18 (by decide) ?_
  refine lv_istore_n (lv' := [(3, .int (0 : Int32)), (0, va_rf (some x0)), (1, .int x1), (2, .int x2)]) hx hb dX5_empty_19 rfl hl (by decide) rfl (fun ls hl => ?_)
  obtain ⟨fu11, hw⟩ := hw
  exact kX5_empty_b20 C fu11 hW t0 (lv_sub hl [1, 0] rfl) hw
/-! TrialStair$Row.has -/
def wX5_has (x0 : Nat) (x1 : Int32) (S0 : Sg) (Q : Int32 → Sg → Prop) : Prop := (if x1 < 0 then Q (0 : Int32) S0 else (if (fI S0 323 x0) ≤ x1 then Q (0 : Int32) S0 else Q (1 : Int32) S0))
set_option maxHeartbeats 4000000 in
set_option maxRecDepth 100000 in
theorem mX5_has (l : Launch) (D : va_G) (cy : Nat → ClassId) (x0 : Nat) (x1 : Int32) (S0 : Sg) (Q : Int32 → Sg → Prop) (t0 : tg S0 x0 = 6) (hw : wX5_has x0 x1 S0 Q) : Met l yX5_has (.code yX5_has cX5_has 2 (some .boolean) :: wsL_law) { frames := 0, cells := 0, slots := 0, locals := 0 } (gPc D cy [va_rf (some x0), .int x1] S0) (va_Qi Q (gB D cy S0) (gA S0)) 0 0 (gA S0) := by
  refine gx_met (by decide) (Nat.le_of_ble_eq_true rfl) ?_
  intro p e s m args below meth c ls C hW hl
  have hx := C.1
  have hb := C.2.1
  have hl : lv_has ls 2 [(0, va_rf (some x0)), (1, .int x1)] := hl
  unfold wX5_has at hw
  refine lv_iload_n hx hb dX5_has_0 rfl (lv_at hl 1 rfl) ?_
  refine lv_if_lt (tgt := 16) hx hb dX5_has_1 (by decide) (fun c1 => ?_) (fun c1 => ?_)
  · have hw := w_t hw c1
    refine lv_iconst (v := 0) hx hb dX5_has_16 (by decide) ?_
    exact gx_iret C hW (Nat.le_of_ble_eq_true rfl) (Nat.le_of_ble_eq_true rfl) rfl hw dX5_has_17
  · have hw := w_f hw c1
    refine lv_iload_n hx hb dX5_has_4 rfl (lv_at hl 1 rfl) ?_
    refine gx_aload_n hx hb dX5_has_5 rfl (lv_at hl 0 rfl) ?_
    refine gx_getI C hW F5_25 (k := 323) rfl t0 rfl dX5_has_6 ?_
    refine lv_icmp_ge (tgt := 16) hx hb dX5_has_9 (by decide) (fun c2 => ?_) (fun c2 => ?_)
    · have hw := w_t hw c2
      refine lv_iconst (v := 0) hx hb dX5_has_16 (by decide) ?_
      exact gx_iret C hW (Nat.le_of_ble_eq_true rfl) (Nat.le_of_ble_eq_true rfl) rfl hw dX5_has_17
    · have hw := w_f hw c2
      refine lv_iconst (v := 1) hx hb dX5_has_12 (by decide) ?_
      refine lv_goto (tgt := 17) hx hb dX5_has_13 (by decide) ?_
      exact gx_iret C hW (Nat.le_of_ble_eq_true rfl) (Nat.le_of_ble_eq_true rfl) rfl hw dX5_has_17
/-! TrialStair$Row.numberAt -/
def wX5_numberAt (x0 : Nat) (x1 : Int32) (S0 : Sg) (Q : Int64 → Sg → Prop) : Prop := (if x1 < 0 then Q (0 : Int64) S0 else ∃ a2 : Nat, (fR S0 321 x0) = some a2 ∧ tg S0 a2 = 14 ∧ (if (nI (ln S0 a2)) ≤ x1 then Q (0 : Int64) S0 else vp_in x1 (ln S0 a2) ∧ Q (aL S0 a2 (x1).toNatClampNeg) S0))
set_option maxHeartbeats 4000000 in
set_option maxRecDepth 100000 in
theorem mX5_numberAt (l : Launch) (D : va_G) (cy : Nat → ClassId) (x0 : Nat) (x1 : Int32) (S0 : Sg) (Q : Int64 → Sg → Prop) (t0 : tg S0 x0 = 6) (hw : wX5_numberAt x0 x1 S0 Q) : Met l yX5_numberAt (.code yX5_numberAt cX5_numberAt 2 (some .long) :: wsL_law) { frames := 0, cells := 0, slots := 0, locals := 0 } (gPc D cy [va_rf (some x0), .int x1] S0) (va_Ql Q (gB D cy S0) (gA S0)) 0 0 (gA S0) := by
  refine gx_met (by decide) (Nat.le_of_ble_eq_true rfl) ?_
  intro p e s m args below meth c ls C hW hl
  have hx := C.1
  have hb := C.2.1
  have hl : lv_has ls 2 [(0, va_rf (some x0)), (1, .int x1)] := hl
  unfold wX5_numberAt at hw
  refine lv_iload_n hx hb dX5_numberAt_0 rfl (lv_at hl 1 rfl) ?_
  refine lv_if_lt (tgt := 22) hx hb dX5_numberAt_1 (by decide) (fun c1 => ?_) (fun c1 => ?_)
  · have hw := w_t hw c1
    refine lv_lconst (v := 0) hx hb dX5_numberAt_22 (by decide) ?_
    exact gx_lret C hW (Nat.le_of_ble_eq_true rfl) (Nat.le_of_ble_eq_true rfl) hw dX5_numberAt_23
  · have hw := w_f hw c1
    refine lv_iload_n hx hb dX5_numberAt_4 rfl (lv_at hl 1 rfl) ?_
    refine gx_aload_n hx hb dX5_numberAt_5 rfl (lv_at hl 0 rfl) ?_
    refine gx_getR C hW F5_15 (k := 321) rfl t0 rfl dX5_numberAt_6 ?_
    obtain ⟨a2, ha2, ta2, hw⟩ := hw
    refine gx_alen C hW ha2 (Or.inr (Or.inl ta2)) dX5_numberAt_9 ?_
    refine lv_icmp_ge (tgt := 22) hx hb dX5_numberAt_10 (by decide) (fun c3 => ?_) (fun c3 => ?_)
    · have hw := w_t hw c3
      refine lv_lconst (v := 0) hx hb dX5_numberAt_22 (by decide) ?_
      exact gx_lret C hW (Nat.le_of_ble_eq_true rfl) (Nat.le_of_ble_eq_true rfl) hw dX5_numberAt_23
    · have hw := w_f hw c3
      refine gx_aload_n hx hb dX5_numberAt_13 rfl (lv_at hl 0 rfl) ?_
      refine gx_getR C hW F5_15 (k := 321) rfl t0 rfl dX5_numberAt_14 ?_
      refine lv_iload_n hx hb dX5_numberAt_17 rfl (lv_at hl 1 rfl) ?_
      obtain ⟨i4, hw⟩ := hw
      refine gx_lald C hW ha2 ta2 i4 dX5_numberAt_18 ?_
      refine lv_goto (tgt := 23) hx hb dX5_numberAt_19 (by decide) ?_
      exact gx_lret C hW (Nat.le_of_ble_eq_true rfl) (Nat.le_of_ble_eq_true rfl) hw dX5_numberAt_23
/-! TrialStair$Row.thingAt -/
def wX5_thingAt (x0 : Nat) (x1 : Int32) (S0 : Sg) (Q : Option Nat → Sg → Prop) : Prop := (if x1 < 0 then Q none S0 else ∃ a2 : Nat, (fR S0 322 x0) = some a2 ∧ tg S0 a2 = 18 ∧ (if (nI (ln S0 a2)) ≤ x1 then Q none S0 else vp_in x1 (ln S0 a2) ∧ Q (aR S0 a2 (x1).toNatClampNeg) S0))
set_option maxHeartbeats 4000000 in
set_option maxRecDepth 100000 in
theorem mX5_thingAt (l : Launch) (D : va_G) (cy : Nat → ClassId) (x0 : Nat) (x1 : Int32) (S0 : Sg) (Q : Option Nat → Sg → Prop) (t0 : tg S0 x0 = 6) (hw : wX5_thingAt x0 x1 S0 Q) : Met l yX5_thingAt (.code yX5_thingAt cX5_thingAt 2 (some (.object "TrialStair$Thing")) :: wsL_law) { frames := 0, cells := 0, slots := 0, locals := 0 } (gPc D cy [va_rf (some x0), .int x1] S0) (va_Qq Q (gB D cy S0) (gA S0)) 0 0 (gA S0) := by
  refine gx_met (by decide) (Nat.le_of_ble_eq_true rfl) ?_
  intro p e s m args below meth c ls C hW hl
  have hx := C.1
  have hb := C.2.1
  have hl : lv_has ls 2 [(0, va_rf (some x0)), (1, .int x1)] := hl
  unfold wX5_thingAt at hw
  refine lv_iload_n hx hb dX5_thingAt_0 rfl (lv_at hl 1 rfl) ?_
  refine lv_if_lt (tgt := 22) hx hb dX5_thingAt_1 (by decide) (fun c1 => ?_) (fun c1 => ?_)
  · have hw := w_t hw c1
    refine gx_null hx hb dX5_thingAt_22 ?_
    exact gx_aret C hW (Nat.le_of_ble_eq_true rfl) (Nat.le_of_ble_eq_true rfl) hw dX5_thingAt_23
  · have hw := w_f hw c1
    refine lv_iload_n hx hb dX5_thingAt_4 rfl (lv_at hl 1 rfl) ?_
    refine gx_aload_n hx hb dX5_thingAt_5 rfl (lv_at hl 0 rfl) ?_
    refine gx_getR C hW F5_21 (k := 322) rfl t0 rfl dX5_thingAt_6 ?_
    obtain ⟨a2, ha2, ta2, hw⟩ := hw
    refine gx_alen C hW ha2 (Or.inr (Or.inr (Or.inr (Or.inr (Or.inr ta2))))) dX5_thingAt_9 ?_
    refine lv_icmp_ge (tgt := 22) hx hb dX5_thingAt_10 (by decide) (fun c3 => ?_) (fun c3 => ?_)
    · have hw := w_t hw c3
      refine gx_null hx hb dX5_thingAt_22 ?_
      exact gx_aret C hW (Nat.le_of_ble_eq_true rfl) (Nat.le_of_ble_eq_true rfl) hw dX5_thingAt_23
    · have hw := w_f hw c3
      refine gx_aload_n hx hb dX5_thingAt_13 rfl (lv_at hl 0 rfl) ?_
      refine gx_getR C hW F5_21 (k := 322) rfl t0 rfl dX5_thingAt_14 ?_
      refine lv_iload_n hx hb dX5_thingAt_17 rfl (lv_at hl 1 rfl) ?_
      obtain ⟨i4, hw⟩ := hw
      refine gx_aald C hW ha2 (Or.inr (Or.inr ta2)) i4 dX5_thingAt_18 ?_
      refine lv_goto (tgt := 23) hx hb dX5_thingAt_19 (by decide) ?_
      exact gx_aret C hW (Nat.le_of_ble_eq_true rfl) (Nat.le_of_ble_eq_true rfl) hw dX5_thingAt_23
/-! TrialStair$Row.narrowed -/
def wX5_narrowed (x0 : Nat) (x1 : Int64) (S0 : Sg) (Q : Int64 → Sg → Prop) : Prop := (if (fI S0 320 x0) = 0 then Q ((((((x1).toInt32)).toInt8.toInt32)).toInt64) S0 else (if (fI S0 320 x0) = 1 then Q (((((((x1).toInt32)).toUInt32 % 65536).toInt32)).toInt64) S0 else (if (fI S0 320 x0) = 2 then Q ((((((x1).toInt32)).toInt16.toInt32)).toInt64) S0 else (if (fI S0 320 x0) = 3 then Q ((((x1).toInt32)).toInt64) S0 else (if (fI S0 320 x0) = 5 then Q (FP.f2l (FP.l2f x1)) S0 else (if (fI S0 320 x0) = 6 then Q (FP.d2l (FP.l2d x1)) S0 else Q x1 S0))))))
set_option maxHeartbeats 4000000 in
set_option maxRecDepth 100000 in
theorem mX5_narrowed (l : Launch) (D : va_G) (cy : Nat → ClassId) (x0 : Nat) (x1 : Int64) (S0 : Sg) (Q : Int64 → Sg → Prop) (t0 : tg S0 x0 = 6) (hw : wX5_narrowed x0 x1 S0 Q) : Met l yX5_narrowed (.code yX5_narrowed cX5_narrowed 3 (some .long) :: wsL_law) { frames := 0, cells := 0, slots := 0, locals := 0 } (gPc D cy [va_rf (some x0), .long x1] S0) (va_Ql Q (gB D cy S0) (gA S0)) 0 0 (gA S0) := by
  refine gx_met (by decide) (Nat.le_of_ble_eq_true rfl) ?_
  intro p e s m args below meth c ls C hW hl
  have hx := C.1
  have hb := C.2.1
  have hl : lv_has ls 3 [(0, va_rf (some x0)), (1, .long x1)] := hl
  unfold wX5_narrowed at hw
  refine gx_aload_n hx hb dX5_narrowed_0 rfl (lv_at hl 0 rfl) ?_
  refine gx_getI C hW F5_9 (k := 320) rfl t0 rfl dX5_narrowed_1 ?_
  by_cases c1 : (fI S0 320 x0) = (0 : Int32)
  · have hw := w_t hw c1
    refine lv_tableIn (off := 44) (tgt := 48) hx hb dX5_narrowed_4 (by rw [c1]; decide) (by rw [c1]; decide) (by rw [c1]; rfl) (by decide) ?_
    refine lv_lload_n hx hb dX5_narrowed_48 rfl (lv_at hl 1 rfl) ?_
    refine lv_l2i (v := _) hx hb dX5_narrowed_49 rfl ?_
    refine lv_i2b (v := _) hx hb dX5_narrowed_50 rfl ?_
    refine lv_i2l (v := _) hx hb dX5_narrowed_51 rfl ?_
    exact gx_lret C hW (Nat.le_of_ble_eq_true rfl) (Nat.le_of_ble_eq_true rfl) hw dX5_narrowed_52
  · have hw := w_f hw c1
    by_cases c2 : (fI S0 320 x0) = (1 : Int32)
    · have hw := w_t hw c2
      refine lv_tableIn (off := 49) (tgt := 53) hx hb dX5_narrowed_4 (by rw [c2]; decide) (by rw [c2]; decide) (by rw [c2]; rfl) (by decide) ?_
      refine lv_lload_n hx hb dX5_narrowed_53 rfl (lv_at hl 1 rfl) ?_
      refine lv_l2i (v := _) hx hb dX5_narrowed_54 rfl ?_
      refine lv_i2c (v := _) hx hb dX5_narrowed_55 rfl ?_
      refine lv_i2l (v := _) hx hb dX5_narrowed_56 rfl ?_
      exact gx_lret C hW (Nat.le_of_ble_eq_true rfl) (Nat.le_of_ble_eq_true rfl) hw dX5_narrowed_57
    · have hw := w_f hw c2
      by_cases c3 : (fI S0 320 x0) = (2 : Int32)
      · have hw := w_t hw c3
        refine lv_tableIn (off := 54) (tgt := 58) hx hb dX5_narrowed_4 (by rw [c3]; decide) (by rw [c3]; decide) (by rw [c3]; rfl) (by decide) ?_
        refine lv_lload_n hx hb dX5_narrowed_58 rfl (lv_at hl 1 rfl) ?_
        refine lv_l2i (v := _) hx hb dX5_narrowed_59 rfl ?_
        refine lv_i2s (v := _) hx hb dX5_narrowed_60 rfl ?_
        refine lv_i2l (v := _) hx hb dX5_narrowed_61 rfl ?_
        exact gx_lret C hW (Nat.le_of_ble_eq_true rfl) (Nat.le_of_ble_eq_true rfl) hw dX5_narrowed_62
      · have hw := w_f hw c3
        by_cases c4 : (fI S0 320 x0) = (3 : Int32)
        · have hw := w_t hw c4
          refine lv_tableIn (off := 59) (tgt := 63) hx hb dX5_narrowed_4 (by rw [c4]; decide) (by rw [c4]; decide) (by rw [c4]; rfl) (by decide) ?_
          refine lv_lload_n hx hb dX5_narrowed_63 rfl (lv_at hl 1 rfl) ?_
          refine lv_l2i (v := _) hx hb dX5_narrowed_64 rfl ?_
          refine lv_i2l (v := _) hx hb dX5_narrowed_65 rfl ?_
          exact gx_lret C hW (Nat.le_of_ble_eq_true rfl) (Nat.le_of_ble_eq_true rfl) hw dX5_narrowed_66
        · have hw := w_f hw c4
          by_cases c5 : (fI S0 320 x0) = (5 : Int32)
          · have hw := w_t hw c5
            refine lv_tableIn (off := 63) (tgt := 67) hx hb dX5_narrowed_4 (by rw [c5]; decide) (by rw [c5]; decide) (by rw [c5]; rfl) (by decide) ?_
            refine lv_lload_n hx hb dX5_narrowed_67 rfl (lv_at hl 1 rfl) ?_
            refine lv_l2f hx hb dX5_narrowed_68 ?_
            refine lv_f2l hx hb dX5_narrowed_69 ?_
            exact gx_lret C hW (Nat.le_of_ble_eq_true rfl) (Nat.le_of_ble_eq_true rfl) hw dX5_narrowed_70
          · have hw := w_f hw c5
            by_cases c6 : (fI S0 320 x0) = (6 : Int32)
            · have hw := w_t hw c6
              refine lv_tableIn (off := 67) (tgt := 71) hx hb dX5_narrowed_4 (by rw [c6]; decide) (by rw [c6]; decide) (by rw [c6]; rfl) (by decide) ?_
              refine lv_lload_n hx hb dX5_narrowed_71 rfl (lv_at hl 1 rfl) ?_
              refine lv_l2d hx hb dX5_narrowed_72 ?_
              refine lv_d2l hx hb dX5_narrowed_73 ?_
              exact gx_lret C hW (Nat.le_of_ble_eq_true rfl) (Nat.le_of_ble_eq_true rfl) hw dX5_narrowed_74
            · have hw := w_f hw c6
              refine gx_tdef (n := 7) (tgt := 75) hx hb dX5_narrowed_4 (by decide) (by decide) (lt_s (lt_s (lt_s (lt_s (lt_s (lt_s (lt_s (lt_0) (fun hx9 => tb_ne c1 (by decide) hx9)) (fun hx9 => tb_ne c2 (by decide) hx9)) (fun hx9 => tb_ne c3 (by decide) hx9)) (fun hx9 => tb_ne c4 (by decide) hx9)) (fun hx9 => rfl)) (fun hx9 => tb_ne c5 (by decide) hx9)) (fun hx9 => tb_ne c6 (by decide) hx9)) ?_
              refine lv_lload_n hx hb dX5_narrowed_75 rfl (lv_at hl 1 rfl) ?_
              exact gx_lret C hW (Nat.le_of_ble_eq_true rfl) (Nat.le_of_ble_eq_true rfl) hw dX5_narrowed_76
/-! TrialStair$Row.putNumber -/
def wX5_putNumber (x0 : Nat) (x1 : Int32) (x2 : Int64) (S0 : Sg) (Q : Sg → Prop) : Prop := (if x1 < 0 then Q S0 else ∃ a2 : Nat, (fR S0 321 x0) = some a2 ∧ tg S0 a2 = 14 ∧ (if (nI (ln S0 a2)) ≤ x1 then Q S0 else wX5_narrowed x0 x2 S0 (fun (r4 : Int64) (S5 : Sg) => vp_in x1 (ln S5 a2) ∧ ∀ S7 : Sg, S7 = sAL S5 a2 (x1).toNatClampNeg r4 → Q S7)))
set_option maxHeartbeats 4000000 in
set_option maxRecDepth 100000 in
theorem mX5_putNumber (l : Launch) (D : va_G) (cy : Nat → ClassId) (x0 : Nat) (x1 : Int32) (x2 : Int64) (S0 : Sg) (Q : Sg → Prop) (t0 : tg S0 x0 = 6) (hw : wX5_putNumber x0 x1 x2 S0 Q) : Met l yX5_putNumber (.code yX5_putNumber cX5_putNumber 4 none :: wsL_law) { frames := 1, cells := 0, slots := 0, locals := 22 } (gPc D cy [va_rf (some x0), .int x1, .long x2] S0) (va_Qv Q (gB D cy S0) (gA S0)) 0 0 (gA S0) := by
  refine gx_met (by decide) (Nat.le_of_ble_eq_true rfl) ?_
  intro p e s m args below meth c ls C hW hl
  have hx := C.1
  have hb := C.2.1
  have hl : lv_has ls 4 [(0, va_rf (some x0)), (1, .int x1), (2, .long x2)] := hl
  unfold wX5_putNumber at hw
  refine lv_iload_n hx hb dX5_putNumber_0 rfl (lv_at hl 1 rfl) ?_
  refine lv_if_lt (tgt := 24) hx hb dX5_putNumber_1 (by decide) (fun c1 => ?_) (fun c1 => ?_)
  · have hw := w_t hw c1
    exact gx_vret C hW (Nat.le_of_ble_eq_true rfl) (Nat.le_of_ble_eq_true rfl) hw dX5_putNumber_24
  · have hw := w_f hw c1
    refine lv_iload_n hx hb dX5_putNumber_4 rfl (lv_at hl 1 rfl) ?_
    refine gx_aload_n hx hb dX5_putNumber_5 rfl (lv_at hl 0 rfl) ?_
    refine gx_getR C hW F5_15 (k := 321) rfl t0 rfl dX5_putNumber_6 ?_
    obtain ⟨a2, ha2, ta2, hw⟩ := hw
    refine gx_alen C hW ha2 (Or.inr (Or.inl ta2)) dX5_putNumber_9 ?_
    refine lv_icmp_ge (tgt := 24) hx hb dX5_putNumber_10 (by decide) (fun c3 => ?_) (fun c3 => ?_)
    · have hw := w_t hw c3
      exact gx_vret C hW (Nat.le_of_ble_eq_true rfl) (Nat.le_of_ble_eq_true rfl) hw dX5_putNumber_24
    · have hw := w_f hw c3
      refine gx_aload_n hx hb dX5_putNumber_13 rfl (lv_at hl 0 rfl) ?_
      refine gx_getR C hW F5_15 (k := 321) rfl t0 rfl dX5_putNumber_14 ?_
      refine lv_iload_n hx hb dX5_putNumber_17 rfl (lv_at hl 1 rfl) ?_
      refine gx_aload_n hx hb dX5_putNumber_18 rfl (lv_at hl 0 rfl) ?_
      refine lv_lload_n hx hb dX5_putNumber_19 rfl (lv_at hl 2 rfl) ?_
      refine gx_cl (gx_rV C hW M5_38 (mX5_narrowed l D cy _ _ _ _ t0 hw) rfl rfl ⟨Nat.le_of_ble_eq_true rfl, Nat.le_of_ble_eq_true rfl⟩ rfl t0 (by decide) rfl rfl hl.1 rfl (Nat.le_of_ble_eq_true rfl) dX5_putNumber_20 ⟨Nat.le_of_ble_eq_true rfl, Nat.le_of_ble_eq_true rfl⟩) hW (fun r4 S5 H locs hW hm hw => ?_)
      have t0 := hm _ _ t0
      have ta2 := hm _ _ ta2
      obtain ⟨i6, hw⟩ := hw
      refine gx_last C hW ha2 ta2 i6 dX5_putNumber_23 (fun H locs S7 eS7 hW hm => ?_)
      have hw := hw S7 eS7
      have t0 := hm _ _ t0
      have ta2 := hm _ _ ta2
      exact gx_vret C hW (Nat.le_of_ble_eq_true rfl) (Nat.le_of_ble_eq_true rfl) hw dX5_putNumber_24
/-! TrialStair$Row.putThing -/
def wX5_putThing (x0 : Nat) (x1 : Int32) (x2 : Option Nat) (S0 : Sg) (Q : Sg → Prop) : Prop := (if x1 < 0 then Q S0 else ∃ a2 : Nat, (fR S0 322 x0) = some a2 ∧ tg S0 a2 = 18 ∧ (if (nI (ln S0 a2)) ≤ x1 then Q S0 else vp_in x1 (ln S0 a2) ∧ (∀ v, x2 = some v → tg S0 v = 9) ∧ ∀ S5 : Sg, S5 = sAR S0 a2 (x1).toNatClampNeg x2 → Q S5))
set_option maxHeartbeats 4000000 in
set_option maxRecDepth 100000 in
theorem mX5_putThing (l : Launch) (D : va_G) (cy : Nat → ClassId) (x0 : Nat) (x1 : Int32) (x2 : Option Nat) (S0 : Sg) (Q : Sg → Prop) (t0 : tg S0 x0 = 6) (hw : wX5_putThing x0 x1 x2 S0 Q) : Met l yX5_putThing (.code yX5_putThing cX5_putThing 3 none :: wsL_law) { frames := 0, cells := 0, slots := 0, locals := 0 } (gPc D cy [va_rf (some x0), .int x1, va_rf x2] S0) (va_Qv Q (gB D cy S0) (gA S0)) 0 0 (gA S0) := by
  refine gx_met (by decide) (by simp [lg_sl, va_rf_cat, cat_i, cat_l]) ?_
  intro p e s m args below meth c ls C hW hl
  have hx := C.1
  have hb := C.2.1
  have hl : lv_has ls 3 [(0, va_rf (some x0)), (1, .int x1), (2, va_rf x2)] := by simpa [lv_args, va_rf_cat, cat_i, cat_l] using hl
  unfold wX5_putThing at hw
  refine lv_iload_n hx hb dX5_putThing_0 rfl (lv_at hl 1 rfl) ?_
  refine lv_if_lt (tgt := 20) hx hb dX5_putThing_1 (by decide) (fun c1 => ?_) (fun c1 => ?_)
  · have hw := w_t hw c1
    exact gx_vret C hW (Nat.le_of_ble_eq_true rfl) (Nat.le_of_ble_eq_true rfl) hw dX5_putThing_20
  · have hw := w_f hw c1
    refine lv_iload_n hx hb dX5_putThing_4 rfl (lv_at hl 1 rfl) ?_
    refine gx_aload_n hx hb dX5_putThing_5 rfl (lv_at hl 0 rfl) ?_
    refine gx_getR C hW F5_21 (k := 322) rfl t0 rfl dX5_putThing_6 ?_
    obtain ⟨a2, ha2, ta2, hw⟩ := hw
    refine gx_alen C hW ha2 (Or.inr (Or.inr (Or.inr (Or.inr (Or.inr ta2))))) dX5_putThing_9 ?_
    refine lv_icmp_ge (tgt := 20) hx hb dX5_putThing_10 (by decide) (fun c3 => ?_) (fun c3 => ?_)
    · have hw := w_t hw c3
      exact gx_vret C hW (Nat.le_of_ble_eq_true rfl) (Nat.le_of_ble_eq_true rfl) hw dX5_putThing_20
    · have hw := w_f hw c3
      refine gx_aload_n hx hb dX5_putThing_13 rfl (lv_at hl 0 rfl) ?_
      refine gx_getR C hW F5_21 (k := 322) rfl t0 rfl dX5_putThing_14 ?_
      refine lv_iload_n hx hb dX5_putThing_17 rfl (lv_at hl 1 rfl) ?_
      refine gx_aload_n hx hb dX5_putThing_18 rfl (lv_at hl 2 rfl) ?_
      obtain ⟨i4, hw⟩ := hw
      obtain ⟨v6, hw⟩ := hw
      refine gx_aast5 C hW ha2 ta2 v6 i4 dX5_putThing_19 (fun H locs S5 eS5 hW hm => ?_)
      have hw := hw S5 eS5
      have t0 := hm _ _ t0
      have ta2 := hm _ _ ta2
      exact gx_vret C hW (Nat.le_of_ble_eq_true rfl) (Nat.le_of_ble_eq_true rfl) hw dX5_putThing_20
/-! TrialStair$Script.<init> -/
def wX6_init (x0 : Nat) (S0 : Sg) (Q : Sg → Prop) : Prop := ∀ S2 : Sg, S2 = nw S0 17 2000 → ∀ S3 : Sg, S3 = sFR S2 384 x0 (some (sz S0)) → ∀ S5 : Sg, S5 = nw S3 13 2000 → ∀ S6 : Sg, S6 = sFR S5 385 x0 (some (sz S3)) → Q S6
set_option maxHeartbeats 4000000 in
set_option maxRecDepth 100000 in
theorem mX6_init (l : Launch) (D : va_G) (cy : Nat → ClassId) (x0 : Nat) (S0 : Sg) (Q : Sg → Prop) (t0 : tg S0 x0 = 7) (hw : wX6_init x0 S0 Q) : Met l yX6_init (.code yX6_init cX6_init 1 none :: wsL_law) { frames := 1, cells := 2, slots := 4000, locals := 20 } (gPc D cy [va_rf (some x0)] S0) (va_Qv Q (gB D cy S0) (gA S0)) 2 4000 (gA S0) := by
  refine gx_met (by decide) (Nat.le_of_ble_eq_true rfl) ?_
  intro p e s m args below meth c ls C hW hl
  have hx := C.1
  have hb := C.2.1
  have hl : lv_has ls 1 [(0, va_rf (some x0))] := hl
  unfold wX6_init at hw
  refine gx_aload_n hx hb dX6_init_0 rfl (lv_at hl 0 rfl) ?_
  refine gx_objInit C (List.mem_of_getElem? (i := 30) (by decide +kernel)) (List.mem_of_getElem? (i := 10) (by decide +kernel)) (List.mem_of_getElem? (i := 11) (by decide +kernel)) rfl hl.1 dX6_init_1 (Nat.le_of_ble_eq_true rfl) (Nat.le_of_ble_eq_true rfl) (Nat.le_of_ble_eq_true rfl) ?_
  refine gx_aload_n hx hb dX6_init_4 rfl (lv_at hl 0 rfl) ?_
  refine lv_sipush (v := 2000) hx hb dX6_init_5 (by decide) ?_
  refine gx_newq (Cn := RX7) (k := 4) (K := 2000) (N := 2000) C hW (List.mem_of_getElem? (i := 31) (by decide +kernel)) (Or.inr (Or.inl ⟨rfl, rfl⟩)) (by decide) (by decide) (by decide) (by decide) (Nat.le_of_ble_eq_true rfl) (Nat.le_of_ble_eq_true rfl) dX6_init_8 (fun H S2 eS2 hW hm t1 => ?_)
  have hw := hw S2 eS2
  have t0 := hm _ _ t0
  refine gx_putR (k := 384) C hW F6_11 (Or.inr ⟨rfl, rfl, rfl⟩) rfl rfl t0 rfl dX6_init_11 (fun H locs S3 eS3 hW hm => ?_)
  have hw := hw S3 eS3
  have t0 := hm _ _ t0
  have t1 := hm _ _ t1
  refine gx_aload_n hx hb dX6_init_14 rfl (lv_at hl 0 rfl) ?_
  refine lv_sipush (v := 2000) hx hb dX6_init_15 (by decide) ?_
  refine gx_newa (at0 := .int) (k := 0) (K := 2000) (N := 2000) C hW (List.mem_of_getElem? (i := 33) (by decide +kernel)) (Or.inl ⟨rfl, rfl⟩) (by decide) (by decide) (by decide) (by decide) (Nat.le_of_ble_eq_true rfl) (Nat.le_of_ble_eq_true rfl) dX6_init_18 (fun H S5 eS5 hW hm t4 => ?_)
  have hw := hw S5 eS5
  have t0 := hm _ _ t0
  have t1 := hm _ _ t1
  refine gx_putR (k := 385) C hW F6_17 (Or.inr ⟨rfl, rfl, rfl⟩) rfl rfl t0 rfl dX6_init_20 (fun H locs S6 eS6 hW hm => ?_)
  have hw := hw S6 eS6
  have t0 := hm _ _ t0
  have t1 := hm _ _ t1
  have t4 := hm _ _ t4
  exact gx_vret C hW (Nat.le_of_ble_eq_true rfl) (Nat.le_of_ble_eq_true rfl) hw dX6_init_23
/-! TrialStair$Script.clear -/
def wX6_clear (x0 : Nat) (S0 : Sg) (Q : Sg → Prop) : Prop := ∀ S1 : Sg, S1 = sFI S0 387 x0 (0 : Int32) → ∀ S2 : Sg, S2 = sFI S1 388 x0 (0 : Int32) → ∀ S3 : Sg, S3 = sFR S2 386 x0 none → Q S3
set_option maxHeartbeats 4000000 in
set_option maxRecDepth 100000 in
theorem mX6_clear (l : Launch) (D : va_G) (cy : Nat → ClassId) (x0 : Nat) (S0 : Sg) (Q : Sg → Prop) (t0 : tg S0 x0 = 7) (hw : wX6_clear x0 S0 Q) : Met l yX6_clear (.code yX6_clear cX6_clear 1 none :: wsL_law) { frames := 0, cells := 0, slots := 0, locals := 0 } (gPc D cy [va_rf (some x0)] S0) (va_Qv Q (gB D cy S0) (gA S0)) 0 0 (gA S0) := by
  refine gx_met (by decide) (Nat.le_of_ble_eq_true rfl) ?_
  intro p e s m args below meth c ls C hW hl
  have hx := C.1
  have hb := C.2.1
  have hl : lv_has ls 1 [(0, va_rf (some x0))] := hl
  unfold wX6_clear at hw
  refine gx_aload_n hx hb dX6_clear_0 rfl (lv_at hl 0 rfl) ?_
  refine lv_iconst (v := 0) hx hb dX6_clear_1 (by decide) ?_
  refine gx_putI (k := 387) C hW F6_21 (Or.inl rfl) rfl t0 rfl rfl rfl dX6_clear_2 (fun H locs S1 eS1 hW hm => ?_)
  have hw := hw S1 eS1
  have t0 := hm _ _ t0
  refine gx_aload_n hx hb dX6_clear_5 rfl (lv_at hl 0 rfl) ?_
  refine lv_iconst (v := 0) hx hb dX6_clear_6 (by decide) ?_
  refine gx_putI (k := 388) C hW F6_25 (Or.inl rfl) rfl t0 rfl rfl rfl dX6_clear_7 (fun H locs S2 eS2 hW hm => ?_)
  have hw := hw S2 eS2
  have t0 := hm _ _ t0
  refine gx_aload_n hx hb dX6_clear_10 rfl (lv_at hl 0 rfl) ?_
  refine gx_null hx hb dX6_clear_11 ?_
  refine gx_putR (k := 386) C hW F6_28 (Or.inl rfl) rfl rfl t0 rfl dX6_clear_12 (fun H locs S3 eS3 hW hm => ?_)
  have hw := hw S3 eS3
  have t0 := hm _ _ t0
  exact gx_vret C hW (Nat.le_of_ble_eq_true rfl) (Nat.le_of_ble_eq_true rfl) hw dX6_clear_15
/-! TrialStair$Script.fit -/
def wX6_fit_b37 (x0 : Nat) (x1 : Option Nat) (x2 : Option Nat) (q0 : Int32) (q1 : Int32) (S : Sg) (Q : Sg → Prop) : Prop := (if q0 = q1 then Q S else ∃ a8 : Nat, x1 = some a8 ∧ tg S a8 = 8 ∧ (if (fI S 449 a8) = (26 : Int32) then ∃ a17 : Nat, x2 = some a17 ∧ tg S a17 = 8 ∧ (if 0 ≤ (fI S 454 a17) then Q S else (if 0 ≤ (fI S 455 a17) then Q S else ∀ S20 : Sg, S20 = sFI S 454 a17 (fI S 448 a8) → Q S20)) else (if (fI S 449 a8) = (27 : Int32) then ∃ a14 : Nat, x2 = some a14 ∧ tg S a14 = 8 ∧ (if 0 ≤ (fI S 455 a14) then Q S else ∀ S16 : Sg, S16 = sFI S 455 a14 (fI S 448 a8) → Q S16) else ∃ a11 : Nat, x2 = some a11 ∧ tg S a11 = 8 ∧ ∀ S12 : Sg, S12 = sFI S 456 a11 (fI S 448 a8) → ∀ S13 : Sg, S13 = sFR S12 386 x0 (fR S12 453 a11) → Q S13)))
def wX6_fit_b23 (x0 : Nat) (x1 : Option Nat) (x2 : Option Nat) (q0 : Int32) (S : Sg) (Q : Sg → Prop) : Prop := ∃ a5 : Nat, x1 = some a5 ∧ tg S a5 = 8 ∧ (if (fI S 449 a5) = (31 : Int32) then wX6_fit_b37 x0 x1 x2 q0 (1 : Int32) S Q else wX6_fit_b37 x0 x1 x2 q0 (0 : Int32) S Q)
def wX6_fit (x0 : Nat) (x1 : Option Nat) (S0 : Sg) (Q : Sg → Prop) : Prop := ∀ y1 : Option Nat, y1 = (fR S0 386 x0) → (if y1 = none then Q S0 else ∃ a3 : Nat, y1 = some a3 ∧ tg S0 a3 = 8 ∧ (if (fI S0 449 a3) = (25 : Int32) then wX6_fit_b23 x0 x1 y1 (1 : Int32) S0 Q else wX6_fit_b23 x0 x1 y1 (0 : Int32) S0 Q))
set_option maxHeartbeats 4000000 in
set_option maxRecDepth 100000 in
theorem kX6_fit_b37 {p : Program} {l : Launch} {e : Env} {s : State} {m : MethodId} {args : Array Value} {below : List Frame} {meth : Method} {c : Code} {D : va_G} {cy : Nat → ClassId} {S0 : Sg} (C : gC p s m args meth c D cy cX6_fit 3 yX6_fit.cls none yX6_fit.name) {H : Heap} {locs : List Loc} {ls : Array Slot} {x0 : Nat} {x1 : Option Nat} {x2 : Option Nat} {q0 : Int32} {q1 : Int32} {S : Sg} {Q : Sg → Prop} (hW : gW D cy (gA S0) (tg S0) s.heap S H locs) (t0 : tg S x0 = 7) (hl : lv_has ls 3 [(0, va_rf (some x0)), (1, va_rf x1), (2, va_rf x2)]) (hw : wX6_fit_b37 x0 x1 x2 q0 q1 S Q) : W p l e { frames := 0, cells := 0, slots := 0, locals := 0 } s m args below meth c H locs 0 0 (MQ below (va_Qv Q (gB D cy S0) (gA S0)) args s 0 0 (gA S0)) (F0 m 37 ls [.int q1, .int q0]) := by
  have hx := C.1
  have hb := C.2.1
  unfold wX6_fit_b37 at hw
  refine lv_icmp_ne (tgt := 41) hx hb dX6_fit_37 (by decide) (fun c7 => ?_) (fun c7 => ?_)
  · have hw := w_f hw c7
    refine gx_aload_n hx hb dX6_fit_41 rfl (lv_at hl 1 rfl) ?_
    obtain ⟨a8, ha8, ta8, hw⟩ := hw
    refine gx_getI C hW F6_49 (k := 449) ha8 ta8 rfl dX6_fit_42 ?_
    refine lv_bipush (v := 26) hx hb dX6_fit_45 (by decide) ?_
    refine lv_icmp_ne (tgt := 75) hx hb dX6_fit_47 (by decide) (fun c9 => ?_) (fun c9 => ?_)
    · have hw := w_f hw c9
      refine gx_aload_n hx hb dX6_fit_75 rfl (lv_at hl 1 rfl) ?_
      refine gx_getI C hW F6_49 (k := 449) ha8 ta8 rfl dX6_fit_76 ?_
      refine lv_bipush (v := 27) hx hb dX6_fit_79 (by decide) ?_
      refine lv_icmp_ne (tgt := 102) hx hb dX6_fit_81 (by decide) (fun c10 => ?_) (fun c10 => ?_)
      · have hw := w_f hw c10
        refine gx_aload_n hx hb dX6_fit_102 rfl (lv_at hl 2 rfl) ?_
        refine gx_aload_n hx hb dX6_fit_103 rfl (lv_at hl 1 rfl) ?_
        refine gx_getI C hW F6_42 (k := 448) ha8 ta8 rfl dX6_fit_104 ?_
        obtain ⟨a11, ha11, ta11, hw⟩ := hw
        refine gx_putI (k := 456) C hW F6_58 (Or.inl rfl) ha11 ta11 rfl rfl rfl dX6_fit_107 (fun H locs S12 eS12 hW hm => ?_)
        have hw := hw S12 eS12
        have t0 := hm _ _ t0
        have ta8 := hm _ _ ta8
        have ta11 := hm _ _ ta11
        refine gx_aload_n hx hb dX6_fit_110 rfl (lv_at hl 0 rfl) ?_
        refine gx_aload_n hx hb dX6_fit_111 rfl (lv_at hl 2 rfl) ?_
        refine gx_getR C hW F6_35 (k := 453) ha11 ta11 rfl dX6_fit_112 ?_
        refine gx_putR (k := 386) C hW F6_28 (Or.inl rfl) rfl rfl t0 rfl dX6_fit_115 (fun H locs S13 eS13 hW hm => ?_)
        have hw := hw S13 eS13
        have t0 := hm _ _ t0
        have ta8 := hm _ _ ta8
        have ta11 := hm _ _ ta11
        exact gx_vret C hW (Nat.le_of_ble_eq_true rfl) (Nat.le_of_ble_eq_true rfl) hw dX6_fit_118
      · have hw := w_t hw c10
        refine gx_aload_n hx hb dX6_fit_84 rfl (lv_at hl 2 rfl) ?_
        obtain ⟨a14, ha14, ta14, hw⟩ := hw
        refine gx_getI C hW F6_55 (k := 455) ha14 ta14 rfl dX6_fit_85 ?_
        refine lv_if_ge (tgt := 118) hx hb dX6_fit_88 (by decide) (fun c15 => ?_) (fun c15 => ?_)
        · have hw := w_t hw c15
          exact gx_vret C hW (Nat.le_of_ble_eq_true rfl) (Nat.le_of_ble_eq_true rfl) hw dX6_fit_118
        · have hw := w_f hw c15
          refine gx_aload_n hx hb dX6_fit_91 rfl (lv_at hl 2 rfl) ?_
          refine gx_aload_n hx hb dX6_fit_92 rfl (lv_at hl 1 rfl) ?_
          refine gx_getI C hW F6_42 (k := 448) ha8 ta8 rfl dX6_fit_93 ?_
          refine gx_putI (k := 455) C hW F6_55 (Or.inl rfl) ha14 ta14 rfl rfl rfl dX6_fit_96 (fun H locs S16 eS16 hW hm => ?_)
          have hw := hw S16 eS16
          have t0 := hm _ _ t0
          have ta8 := hm _ _ ta8
          have ta14 := hm _ _ ta14
          refine lv_goto (tgt := 118) hx hb dX6_fit_99 (by decide) ?_
          exact gx_vret C hW (Nat.le_of_ble_eq_true rfl) (Nat.le_of_ble_eq_true rfl) hw dX6_fit_118
    · have hw := w_t hw c9
      refine gx_aload_n hx hb dX6_fit_50 rfl (lv_at hl 2 rfl) ?_
      obtain ⟨a17, ha17, ta17, hw⟩ := hw
      refine gx_getI C hW F6_52 (k := 454) ha17 ta17 rfl dX6_fit_51 ?_
      refine lv_if_ge (tgt := 118) hx hb dX6_fit_54 (by decide) (fun c18 => ?_) (fun c18 => ?_)
      · have hw := w_t hw c18
        exact gx_vret C hW (Nat.le_of_ble_eq_true rfl) (Nat.le_of_ble_eq_true rfl) hw dX6_fit_118
      · have hw := w_f hw c18
        refine gx_aload_n hx hb dX6_fit_57 rfl (lv_at hl 2 rfl) ?_
        refine gx_getI C hW F6_55 (k := 455) ha17 ta17 rfl dX6_fit_58 ?_
        refine lv_if_ge (tgt := 118) hx hb dX6_fit_61 (by decide) (fun c19 => ?_) (fun c19 => ?_)
        · have hw := w_t hw c19
          exact gx_vret C hW (Nat.le_of_ble_eq_true rfl) (Nat.le_of_ble_eq_true rfl) hw dX6_fit_118
        · have hw := w_f hw c19
          refine gx_aload_n hx hb dX6_fit_64 rfl (lv_at hl 2 rfl) ?_
          refine gx_aload_n hx hb dX6_fit_65 rfl (lv_at hl 1 rfl) ?_
          refine gx_getI C hW F6_42 (k := 448) ha8 ta8 rfl dX6_fit_66 ?_
          refine gx_putI (k := 454) C hW F6_52 (Or.inl rfl) ha17 ta17 rfl rfl rfl dX6_fit_69 (fun H locs S20 eS20 hW hm => ?_)
          have hw := hw S20 eS20
          have t0 := hm _ _ t0
          have ta8 := hm _ _ ta8
          have ta17 := hm _ _ ta17
          refine lv_goto (tgt := 118) hx hb dX6_fit_72 (by decide) ?_
          exact gx_vret C hW (Nat.le_of_ble_eq_true rfl) (Nat.le_of_ble_eq_true rfl) hw dX6_fit_118
  · have hw := w_t hw c7
    exact gx_vret C hW (Nat.le_of_ble_eq_true rfl) (Nat.le_of_ble_eq_true rfl) hw dX6_fit_40
set_option maxHeartbeats 4000000 in
set_option maxRecDepth 100000 in
theorem kX6_fit_b23 {p : Program} {l : Launch} {e : Env} {s : State} {m : MethodId} {args : Array Value} {below : List Frame} {meth : Method} {c : Code} {D : va_G} {cy : Nat → ClassId} {S0 : Sg} (C : gC p s m args meth c D cy cX6_fit 3 yX6_fit.cls none yX6_fit.name) {H : Heap} {locs : List Loc} {ls : Array Slot} {x0 : Nat} {x1 : Option Nat} {x2 : Option Nat} {q0 : Int32} {S : Sg} {Q : Sg → Prop} (hW : gW D cy (gA S0) (tg S0) s.heap S H locs) (t0 : tg S x0 = 7) (hl : lv_has ls 3 [(0, va_rf (some x0)), (1, va_rf x1), (2, va_rf x2)]) (hw : wX6_fit_b23 x0 x1 x2 q0 S Q) : W p l e { frames := 0, cells := 0, slots := 0, locals := 0 } s m args below meth c H locs 0 0 (MQ below (va_Qv Q (gB D cy S0) (gA S0)) args s 0 0 (gA S0)) (F0 m 23 ls [.int q0]) := by
  have hx := C.1
  have hb := C.2.1
  unfold wX6_fit_b23 at hw
  refine gx_aload_n hx hb dX6_fit_23 rfl (lv_at hl 1 rfl) ?_
  obtain ⟨a5, ha5, ta5, hw⟩ := hw
  refine gx_getI C hW F6_49 (k := 449) ha5 ta5 rfl dX6_fit_24 ?_
  refine lv_bipush (v := 31) hx hb dX6_fit_27 (by decide) ?_
  refine lv_icmp_ne (tgt := 36) hx hb dX6_fit_29 (by decide) (fun c6 => ?_) (fun c6 => ?_)
  · have hw := w_f hw c6
    refine lv_iconst (v := 0) hx hb dX6_fit_36 (by decide) ?_
    exact kX6_fit_b37 C hW t0 (lv_sub hl [0, 1, 2] rfl) hw
  · have hw := w_t hw c6
    refine lv_iconst (v := 1) hx hb dX6_fit_32 (by decide) ?_
    refine lv_goto (tgt := 37) hx hb dX6_fit_33 (by decide) ?_
    exact kX6_fit_b37 C hW t0 (lv_sub hl [0, 1, 2] rfl) hw
set_option maxHeartbeats 4000000 in
set_option maxRecDepth 100000 in
theorem mX6_fit (l : Launch) (D : va_G) (cy : Nat → ClassId) (x0 : Nat) (x1 : Option Nat) (S0 : Sg) (Q : Sg → Prop) (t0 : tg S0 x0 = 7) (hw : wX6_fit x0 x1 S0 Q) : Met l yX6_fit (.code yX6_fit cX6_fit 3 none :: wsL_law) { frames := 0, cells := 0, slots := 0, locals := 0 } (gPc D cy [va_rf (some x0), va_rf x1] S0) (va_Qv Q (gB D cy S0) (gA S0)) 0 0 (gA S0) := by
  refine gx_met (by decide) (by simp [lg_sl, va_rf_cat, cat_i, cat_l]) ?_
  intro p e s m args below meth c ls C hW hl
  have hx := C.1
  have hb := C.2.1
  have hl : lv_has ls 3 [(0, va_rf (some x0)), (1, va_rf x1)] := by simpa [lv_args, va_rf_cat, cat_i, cat_l] using hl
  unfold wX6_fit at hw
  refine gx_aload_n hx hb dX6_fit_0 rfl (lv_at hl 0 rfl) ?_
  refine gx_getR C hW F6_28 (k := 386) rfl t0 rfl dX6_fit_1 ?_
  refine gx_topr (fun y1 ey1 => ?_)
  have hw := hw y1 ey1
  refine gx_astore_n (lv' := [(2, va_rf y1), (0, va_rf (some x0)), (1, va_rf x1)]) hx hb dX6_fit_4 rfl hl (by decide) (by simp [List.filter, va_rf_cat, cat_i, cat_l]) (fun ls hl => ?_)
  refine gx_aload_n hx hb dX6_fit_5 rfl (lv_at hl 0 rfl) ?_
  refine gx_ifnull (tgt := 40) hx hb dX6_fit_6 (by decide) (fun c2 => ?_) (fun c2 => ?_)
  · have hw := w_t hw c2
    exact gx_vret C hW (Nat.le_of_ble_eq_true rfl) (Nat.le_of_ble_eq_true rfl) hw dX6_fit_40
  · have hw := w_f hw c2
    refine gx_aload_n hx hb dX6_fit_9 rfl (lv_at hl 0 rfl) ?_
    obtain ⟨a3, ha3, ta3, hw⟩ := hw
    refine gx_getI C hW F6_49 (k := 449) ha3 ta3 rfl dX6_fit_10 ?_
    refine lv_bipush (v := 25) hx hb dX6_fit_13 (by decide) ?_
    refine lv_icmp_ne (tgt := 22) hx hb dX6_fit_15 (by decide) (fun c4 => ?_) (fun c4 => ?_)
    · have hw := w_f hw c4
      refine lv_iconst (v := 0) hx hb dX6_fit_22 (by decide) ?_
      exact kX6_fit_b23 C hW t0 (lv_sub hl [1, 2, 0] rfl) hw
    · have hw := w_t hw c4
      refine lv_iconst (v := 1) hx hb dX6_fit_18 (by decide) ?_
      refine lv_goto (tgt := 23) hx hb dX6_fit_19 (by decide) ?_
      exact kX6_fit_b23 C hW t0 (lv_sub hl [1, 2, 0] rfl) hw
/-! TrialStair$Script.beginRoutine -/
def wX6_beginRoutine (x0 : Nat) (x1 : Int32) (S0 : Sg) (Q : Sg → Prop) : Prop := (if (fI S0 388 x0) < 0 then Q S0 else (if (fI S0 388 x0) < (2000 : Int32) then ∃ a3 : Nat, (fR S0 385 x0) = some a3 ∧ tg S0 a3 = 13 ∧ vp_in (fI S0 388 x0) (ln S0 a3) ∧ ∀ S5 : Sg, S5 = sAI S0 a3 ((fI S0 388 x0)).toNatClampNeg x1 → ∀ S6 : Sg, S6 = sFI S5 388 x0 ((fI S5 388 x0) + (1 : Int32)) → ∀ S7 : Sg, S7 = sFR S6 386 x0 none → Q S7 else Q S0))
set_option maxHeartbeats 4000000 in
set_option maxRecDepth 100000 in
theorem mX6_beginRoutine (l : Launch) (D : va_G) (cy : Nat → ClassId) (x0 : Nat) (x1 : Int32) (S0 : Sg) (Q : Sg → Prop) (t0 : tg S0 x0 = 7) (hw : wX6_beginRoutine x0 x1 S0 Q) : Met l yX6_beginRoutine (.code yX6_beginRoutine cX6_beginRoutine 2 none :: wsL_law) { frames := 0, cells := 0, slots := 0, locals := 0 } (gPc D cy [va_rf (some x0), .int x1] S0) (va_Qv Q (gB D cy S0) (gA S0)) 0 0 (gA S0) := by
  refine gx_met (by decide) (Nat.le_of_ble_eq_true rfl) ?_
  intro p e s m args below meth c ls C hW hl
  have hx := C.1
  have hb := C.2.1
  have hl : lv_has ls 2 [(0, va_rf (some x0)), (1, .int x1)] := hl
  unfold wX6_beginRoutine at hw
  refine gx_aload_n hx hb dX6_beginRoutine_0 rfl (lv_at hl 0 rfl) ?_
  refine gx_getI C hW F6_25 (k := 388) rfl t0 rfl dX6_beginRoutine_1 ?_
  refine lv_if_lt (tgt := 17) hx hb dX6_beginRoutine_4 (by decide) (fun c1 => ?_) (fun c1 => ?_)
  · have hw := w_t hw c1
    exact gx_vret C hW (Nat.le_of_ble_eq_true rfl) (Nat.le_of_ble_eq_true rfl) hw dX6_beginRoutine_17
  · have hw := w_f hw c1
    refine gx_aload_n hx hb dX6_beginRoutine_7 rfl (lv_at hl 0 rfl) ?_
    refine gx_getI C hW F6_25 (k := 388) rfl t0 rfl dX6_beginRoutine_8 ?_
    refine lv_sipush (v := 2000) hx hb dX6_beginRoutine_11 (by decide) ?_
    refine lv_icmp_lt (tgt := 18) hx hb dX6_beginRoutine_14 (by decide) (fun c2 => ?_) (fun c2 => ?_)
    · have hw := w_t hw c2
      refine gx_aload_n hx hb dX6_beginRoutine_18 rfl (lv_at hl 0 rfl) ?_
      refine gx_getR C hW F6_17 (k := 385) rfl t0 rfl dX6_beginRoutine_19 ?_
      refine gx_aload_n hx hb dX6_beginRoutine_22 rfl (lv_at hl 0 rfl) ?_
      refine gx_getI C hW F6_25 (k := 388) rfl t0 rfl dX6_beginRoutine_23 ?_
      refine lv_iload_n hx hb dX6_beginRoutine_26 rfl (lv_at hl 1 rfl) ?_
      obtain ⟨a3, ha3, ta3, hw⟩ := hw
      obtain ⟨i4, hw⟩ := hw
      refine gx_iast C hW ha3 ta3 i4 dX6_beginRoutine_27 (fun H locs S5 eS5 hW hm => ?_)
      have hw := hw S5 eS5
      have t0 := hm _ _ t0
      have ta3 := hm _ _ ta3
      refine gx_aload_n hx hb dX6_beginRoutine_28 rfl (lv_at hl 0 rfl) ?_
      refine lv_dup hx hb dX6_beginRoutine_29 (va_rf_cat _) ?_
      refine gx_getI C hW F6_25 (k := 388) rfl t0 rfl dX6_beginRoutine_30 ?_
      refine lv_iconst (v := 1) hx hb dX6_beginRoutine_33 (by decide) ?_
      refine lv_iadd hx hb dX6_beginRoutine_34 ?_
      refine gx_putI (k := 388) C hW F6_25 (Or.inl rfl) rfl t0 rfl rfl rfl dX6_beginRoutine_35 (fun H locs S6 eS6 hW hm => ?_)
      have hw := hw S6 eS6
      have t0 := hm _ _ t0
      have ta3 := hm _ _ ta3
      refine gx_aload_n hx hb dX6_beginRoutine_38 rfl (lv_at hl 0 rfl) ?_
      refine gx_null hx hb dX6_beginRoutine_39 ?_
      refine gx_putR (k := 386) C hW F6_28 (Or.inl rfl) rfl rfl t0 rfl dX6_beginRoutine_40 (fun H locs S7 eS7 hW hm => ?_)
      have hw := hw S7 eS7
      have t0 := hm _ _ t0
      have ta3 := hm _ _ ta3
      exact gx_vret C hW (Nat.le_of_ble_eq_true rfl) (Nat.le_of_ble_eq_true rfl) hw dX6_beginRoutine_43
    · have hw := w_f hw c2
      exact gx_vret C hW (Nat.le_of_ble_eq_true rfl) (Nat.le_of_ble_eq_true rfl) hw dX6_beginRoutine_17
/-! TrialStair$Script.add -/
def wX6_add_b75 (x0 : Nat) (x5 : Option Nat) (S : Sg) (Q : Sg → Prop) : Prop := ∃ a13 : Nat, x5 = some a13 ∧ tg S a13 = 8 ∧ ∀ S14 : Sg, S14 = sFR S 453 a13 (fR S 386 x0) → ∀ S15 : Sg, S15 = sFR S14 386 x0 x5 → Q S15
def wX6_add_b114 (x0 : Nat) (x1 : Int32) (x4 : Int32) (x5 : Option Nat) (S : Sg) (Q : Sg → Prop) : Prop := (if x1 = (35 : Int32) then (if (x4 &&& (1 : Int32)) = 0 then ∃ a21 : Nat, x5 = some a21 ∧ tg S a21 = 8 ∧ wX6_beginRoutine x0 (fI S 448 a21) S (fun (S23 : Sg) => Q S23) else Q S) else Q S)
def wX6_add (x0 : Nat) (x1 : Int32) (x2 : Int32) (x3 : Int32) (x4 : Int32) (S0 : Sg) (Q : Sg → Prop) : Prop := (if (fI S0 387 x0) < 0 then Q S0 else (if (fI S0 387 x0) < (2000 : Int32) then ∀ S4 : Sg, S4 = nw S0 8 0 → wX7_init (sz S0) (fI S4 387 x0) x1 x2 x3 x4 S4 (fun (S6 : Sg) => ∀ y7 : Option Nat, y7 = (some (sz S0)) → ∃ a8 : Nat, (fR S6 384 x0) = some a8 ∧ tg S6 a8 = 17 ∧ vp_in (fI S6 387 x0) (ln S6 a8) ∧ ∀ S10 : Sg, S10 = sAR S6 a8 ((fI S6 387 x0)).toNatClampNeg (some (sz S0)) → ∀ S11 : Sg, S11 = sFI S10 387 x0 ((fI S10 387 x0) + (1 : Int32)) → (if x1 = (25 : Int32) then wX6_add_b75 x0 y7 S11 Q else (if x1 = (29 : Int32) then wX6_add_b75 x0 y7 S11 Q else (if x1 = (30 : Int32) then wX6_add_b75 x0 y7 S11 Q else (if x1 < (26 : Int32) then wX6_add_b114 x0 x1 x4 y7 S11 Q else (if (31 : Int32) < x1 then wX6_add_b114 x0 x1 x4 y7 S11 Q else wX6_fit x0 y7 S11 (fun (S26 : Sg) => Q S26))))))) else Q S0))
set_option maxHeartbeats 4000000 in
set_option maxRecDepth 100000 in
theorem kX6_add_b75 {p : Program} {l : Launch} {e : Env} {s : State} {m : MethodId} {args : Array Value} {below : List Frame} {meth : Method} {c : Code} {D : va_G} {cy : Nat → ClassId} {S0 : Sg} (C : gC p s m args meth c D cy cX6_add 6 yX6_add.cls none yX6_add.name) {H : Heap} {locs : List Loc} {ls : Array Slot} {x0 : Nat} {x5 : Option Nat} {S : Sg} {Q : Sg → Prop} (hW : gW D cy (gA S0) (tg S0) s.heap S H locs) (t0 : tg S x0 = 7) (hl : lv_has ls 6 [(0, va_rf (some x0)), (5, va_rf x5)]) (hw : wX6_add_b75 x0 x5 S Q) : W p l e { frames := 2, cells := 1, slots := 9, locals := 45 } s m args below meth c H locs 1 9 (MQ below (va_Qv Q (gB D cy S0) (gA S0)) args s 1 9 (gA S0)) (F0 m 75 ls []) := by
  have hx := C.1
  have hb := C.2.1
  unfold wX6_add_b75 at hw
  refine gx_aload hx hb dX6_add_75 (lv_at hl 1 rfl) ?_
  refine gx_aload_n hx hb dX6_add_77 rfl (lv_at hl 0 rfl) ?_
  refine gx_getR C hW F6_28 (k := 386) rfl t0 rfl dX6_add_78 ?_
  obtain ⟨a13, ha13, ta13, hw⟩ := hw
  refine gx_putR (k := 453) C hW F6_35 (Or.inl rfl) rfl ha13 ta13 rfl dX6_add_81 (fun H locs S14 eS14 hW hm => ?_)
  have hw := hw S14 eS14
  have t0 := hm _ _ t0
  have ta13 := hm _ _ ta13
  refine gx_aload_n hx hb dX6_add_84 rfl (lv_at hl 0 rfl) ?_
  refine gx_aload hx hb dX6_add_85 (lv_at hl 1 rfl) ?_
  refine gx_putR (k := 386) C hW F6_28 (Or.inl rfl) rfl rfl t0 rfl dX6_add_87 (fun H locs S15 eS15 hW hm => ?_)
  have hw := hw S15 eS15
  have t0 := hm _ _ t0
  have ta13 := hm _ _ ta13
  refine lv_goto (tgt := 136) hx hb dX6_add_90 (by decide) ?_
  exact gx_vret C hW (Nat.le_of_ble_eq_true rfl) (Nat.le_of_ble_eq_true rfl) hw dX6_add_136
set_option maxHeartbeats 4000000 in
set_option maxRecDepth 100000 in
theorem kX6_add_b114 {p : Program} {l : Launch} {e : Env} {s : State} {m : MethodId} {args : Array Value} {below : List Frame} {meth : Method} {c : Code} {D : va_G} {cy : Nat → ClassId} {S0 : Sg} (C : gC p s m args meth c D cy cX6_add 6 yX6_add.cls none yX6_add.name) {H : Heap} {locs : List Loc} {ls : Array Slot} {x0 : Nat} {x1 : Int32} {x4 : Int32} {x5 : Option Nat} {S : Sg} {Q : Sg → Prop} (hW : gW D cy (gA S0) (tg S0) s.heap S H locs) (t0 : tg S x0 = 7) (hl : lv_has ls 6 [(0, va_rf (some x0)), (1, .int x1), (4, .int x4), (5, va_rf x5)]) (hw : wX6_add_b114 x0 x1 x4 x5 S Q) : W p l e { frames := 2, cells := 1, slots := 9, locals := 45 } s m args below meth c H locs 1 9 (MQ below (va_Qv Q (gB D cy S0) (gA S0)) args s 1 9 (gA S0)) (F0 m 114 ls []) := by
  have hx := C.1
  have hb := C.2.1
  unfold wX6_add_b114 at hw
  refine lv_iload_n hx hb dX6_add_114 rfl (lv_at hl 1 rfl) ?_
  refine lv_bipush (v := 35) hx hb dX6_add_115 (by decide) ?_
  refine lv_icmp_ne (tgt := 136) hx hb dX6_add_117 (by decide) (fun c19 => ?_) (fun c19 => ?_)
  · have hw := w_f hw c19
    exact gx_vret C hW (Nat.le_of_ble_eq_true rfl) (Nat.le_of_ble_eq_true rfl) hw dX6_add_136
  · have hw := w_t hw c19
    refine lv_iload hx hb dX6_add_120 (lv_at hl 2 rfl) ?_
    refine lv_iconst (v := 1) hx hb dX6_add_122 (by decide) ?_
    refine lv_iand hx hb dX6_add_123 ?_
    refine lv_if_ne (tgt := 136) hx hb dX6_add_124 (by decide) (fun c20 => ?_) (fun c20 => ?_)
    · have hw := w_f hw c20
      exact gx_vret C hW (Nat.le_of_ble_eq_true rfl) (Nat.le_of_ble_eq_true rfl) hw dX6_add_136
    · have hw := w_t hw c20
      refine gx_aload_n hx hb dX6_add_127 rfl (lv_at hl 0 rfl) ?_
      refine gx_aload hx hb dX6_add_128 (lv_at hl 3 rfl) ?_
      obtain ⟨a21, ha21, ta21, hw⟩ := hw
      refine gx_getI C hW F6_42 (k := 448) ha21 ta21 rfl dX6_add_130 ?_
      refine gx_cv (gx_rV C hW M6_45 (mX6_beginRoutine l D cy _ _ _ _ t0 hw) rfl rfl ⟨Nat.le_of_ble_eq_true rfl, Nat.le_of_ble_eq_true rfl⟩ rfl t0 (by decide) rfl rfl hl.1 rfl (Nat.le_of_ble_eq_true rfl) dX6_add_133 ⟨Nat.le_of_ble_eq_true rfl, Nat.le_of_ble_eq_true rfl⟩) hW (fun S23 H locs hW hm hw => ?_)
      have t0 := hm _ _ t0
      have ta21 := hm _ _ ta21
      exact gx_vret C hW (Nat.le_of_ble_eq_true rfl) (Nat.le_of_ble_eq_true rfl) hw dX6_add_136
set_option maxHeartbeats 4000000 in
set_option maxRecDepth 100000 in
theorem mX6_add (l : Launch) (D : va_G) (cy : Nat → ClassId) (x0 : Nat) (x1 : Int32) (x2 : Int32) (x3 : Int32) (x4 : Int32) (S0 : Sg) (Q : Sg → Prop) (t0 : tg S0 x0 = 7) (hw : wX6_add x0 x1 x2 x3 x4 S0 Q) : Met l yX6_add (.code yX6_add cX6_add 6 none :: wsL_law) { frames := 2, cells := 1, slots := 9, locals := 45 } (gPc D cy [va_rf (some x0), .int x1, .int x2, .int x3, .int x4] S0) (va_Qv Q (gB D cy S0) (gA S0)) 1 9 (gA S0) := by
  refine gx_met (by decide) (Nat.le_of_ble_eq_true rfl) ?_
  intro p e s m args below meth c ls C hW hl
  have hx := C.1
  have hb := C.2.1
  have hl : lv_has ls 6 [(0, va_rf (some x0)), (1, .int x1), (2, .int x2), (3, .int x3), (4, .int x4)] := hl
  unfold wX6_add at hw
  refine gx_aload_n hx hb dX6_add_0 rfl (lv_at hl 0 rfl) ?_
  refine gx_getI C hW F6_21 (k := 387) rfl t0 rfl dX6_add_1 ?_
  refine lv_if_lt (tgt := 17) hx hb dX6_add_4 (by decide) (fun c1 => ?_) (fun c1 => ?_)
  · have hw := w_t hw c1
    exact gx_vret C hW (Nat.le_of_ble_eq_true rfl) (Nat.le_of_ble_eq_true rfl) hw dX6_add_17
  · have hw := w_f hw c1
    refine gx_aload_n hx hb dX6_add_7 rfl (lv_at hl 0 rfl) ?_
    refine gx_getI C hW F6_21 (k := 387) rfl t0 rfl dX6_add_8 ?_
    refine lv_sipush (v := 2000) hx hb dX6_add_11 (by decide) ?_
    refine lv_icmp_lt (tgt := 18) hx hb dX6_add_14 (by decide) (fun c2 => ?_) (fun c2 => ?_)
    · have hw := w_t hw c2
      refine gx_new C hW N6_9 (Nat.le_of_ble_eq_true rfl) (Nat.le_of_ble_eq_true rfl) dX6_add_18 (fun H S4 eS4 hW hm t3 => ?_)
      have hw := hw S4 eS4
      have t0 := hm _ _ t0
      refine lv_dup hx hb dX6_add_21 (va_rf_cat _) ?_
      refine gx_aload_n hx hb dX6_add_22 rfl (lv_at hl 0 rfl) ?_
      refine gx_getI C hW F6_21 (k := 387) rfl t0 rfl dX6_add_23 ?_
      refine lv_iload_n hx hb dX6_add_26 rfl (lv_at hl 1 rfl) ?_
      refine lv_iload_n hx hb dX6_add_27 rfl (lv_at hl 2 rfl) ?_
      refine lv_iload_n hx hb dX6_add_28 rfl (lv_at hl 3 rfl) ?_
      refine lv_iload hx hb dX6_add_29 (lv_at hl 4 rfl) ?_
      refine gx_cv (gx_rI C hW M6_32 (mX7_init l D cy _ _ _ _ _ _ _ _ t3 hw) rfl rfl ⟨Nat.le_of_ble_eq_true rfl, Nat.le_of_ble_eq_true rfl⟩ rfl rfl hl.1 rfl (Nat.le_of_ble_eq_true rfl) dX6_add_31 ⟨Nat.le_of_ble_eq_true rfl, Nat.le_of_ble_eq_true rfl⟩) hW (fun S6 H locs hW hm hw => ?_)
      have t0 := hm _ _ t0
      have t3 := hm _ _ t3
      refine gx_topr (fun y7 ey7 => ?_)
      have hw := hw y7 ey7
      refine gx_astore (lv' := [(5, va_rf y7), (0, va_rf (some x0)), (1, .int x1), (2, .int x2), (3, .int x3), (4, .int x4)]) hx hb dX6_add_34 hl (by decide) rfl (fun ls hl => ?_)
      refine gx_aload_n hx hb dX6_add_36 rfl (lv_at hl 1 rfl) ?_
      refine gx_getR C hW F6_11 (k := 384) rfl t0 rfl dX6_add_37 ?_
      refine gx_aload_n hx hb dX6_add_40 rfl (lv_at hl 1 rfl) ?_
      refine gx_getI C hW F6_21 (k := 387) rfl t0 rfl dX6_add_41 ?_
      refine gx_aload hx hb dX6_add_44 (lv_at hl 0 rfl) ?_
      obtain ⟨a8, ha8, ta8, hw⟩ := hw
      obtain ⟨i9, hw⟩ := hw
      refine gx_aast4 C hW ha8 ey7 ta8 t3 i9 dX6_add_46 (fun H locs S10 eS10 hW hm => ?_)
      have hw := hw S10 eS10
      have t0 := hm _ _ t0
      have t3 := hm _ _ t3
      have ta8 := hm _ _ ta8
      refine gx_aload_n hx hb dX6_add_47 rfl (lv_at hl 1 rfl) ?_
      refine lv_dup hx hb dX6_add_48 (va_rf_cat _) ?_
      refine gx_getI C hW F6_21 (k := 387) rfl t0 rfl dX6_add_49 ?_
      refine lv_iconst (v := 1) hx hb dX6_add_52 (by decide) ?_
      refine lv_iadd hx hb dX6_add_53 ?_
      refine gx_putI (k := 387) C hW F6_21 (Or.inl rfl) rfl t0 rfl rfl rfl dX6_add_54 (fun H locs S11 eS11 hW hm => ?_)
      have hw := hw S11 eS11
      have t0 := hm _ _ t0
      have t3 := hm _ _ t3
      have ta8 := hm _ _ ta8
      refine lv_iload_n hx hb dX6_add_57 rfl (lv_at hl 2 rfl) ?_
      refine lv_bipush (v := 25) hx hb dX6_add_58 (by decide) ?_
      refine lv_icmp_eq (tgt := 75) hx hb dX6_add_60 (by decide) (fun c12 => ?_) (fun c12 => ?_)
      · have hw := w_t hw c12
        exact kX6_add_b75 C hW t0 (lv_sub hl [1, 0] rfl) hw
      · have hw := w_f hw c12
        refine lv_iload_n hx hb dX6_add_63 rfl (lv_at hl 2 rfl) ?_
        refine lv_bipush (v := 29) hx hb dX6_add_64 (by decide) ?_
        refine lv_icmp_eq (tgt := 75) hx hb dX6_add_66 (by decide) (fun c16 => ?_) (fun c16 => ?_)
        · have hw := w_t hw c16
          exact kX6_add_b75 C hW t0 (lv_sub hl [1, 0] rfl) hw
        · have hw := w_f hw c16
          refine lv_iload_n hx hb dX6_add_69 rfl (lv_at hl 2 rfl) ?_
          refine lv_bipush (v := 30) hx hb dX6_add_70 (by decide) ?_
          refine lv_icmp_ne (tgt := 93) hx hb dX6_add_72 (by decide) (fun c17 => ?_) (fun c17 => ?_)
          · have hw := w_f hw c17
            refine lv_iload_n hx hb dX6_add_93 rfl (lv_at hl 2 rfl) ?_
            refine lv_bipush (v := 26) hx hb dX6_add_94 (by decide) ?_
            refine lv_icmp_lt (tgt := 114) hx hb dX6_add_96 (by decide) (fun c18 => ?_) (fun c18 => ?_)
            · have hw := w_t hw c18
              exact kX6_add_b114 C hW t0 (lv_sub hl [1, 2, 5, 0] rfl) hw
            · have hw := w_f hw c18
              refine lv_iload_n hx hb dX6_add_99 rfl (lv_at hl 2 rfl) ?_
              refine lv_bipush (v := 31) hx hb dX6_add_100 (by decide) ?_
              refine lv_icmp_gt (tgt := 114) hx hb dX6_add_102 (by decide) (fun c24 => ?_) (fun c24 => ?_)
              · have hw := w_t hw c24
                exact kX6_add_b114 C hW t0 (lv_sub hl [1, 2, 5, 0] rfl) hw
              · have hw := w_f hw c24
                refine gx_aload_n hx hb dX6_add_105 rfl (lv_at hl 1 rfl) ?_
                refine gx_aload hx hb dX6_add_106 (lv_at hl 0 rfl) ?_
                refine gx_cv (gx_rV C hW M6_38 (mX6_fit l D cy _ _ _ _ t0 hw) rfl rfl ⟨Nat.le_of_ble_eq_true rfl, Nat.le_of_ble_eq_true rfl⟩ rfl t0 (by decide) rfl rfl hl.1 rfl (Nat.le_of_ble_eq_true rfl) dX6_add_108 ⟨Nat.le_of_ble_eq_true rfl, Nat.le_of_ble_eq_true rfl⟩) hW (fun S26 H locs hW hm hw => ?_)
                have t0 := hm _ _ t0
                have t3 := hm _ _ t3
                have ta8 := hm _ _ ta8
                refine lv_goto (tgt := 136) hx hb dX6_add_111 (by decide) ?_
                exact gx_vret C hW (Nat.le_of_ble_eq_true rfl) (Nat.le_of_ble_eq_true rfl) hw dX6_add_136
          · have hw := w_t hw c17
            exact kX6_add_b75 C hW t0 (lv_sub hl [1, 0] rfl) hw
    · have hw := w_f hw c2
      exact gx_vret C hW (Nat.le_of_ble_eq_true rfl) (Nat.le_of_ble_eq_true rfl) hw dX6_add_17
/-! TrialStair$Script.hasRoutine -/
def wX6_hasRoutine (x0 : Nat) (x1 : Int32) (S0 : Sg) (Q : Int32 → Sg → Prop) : Prop := (if x1 < 0 then Q (0 : Int32) S0 else (if (fI S0 388 x0) ≤ x1 then Q (0 : Int32) S0 else (if (2000 : Int32) ≤ x1 then Q (0 : Int32) S0 else Q (1 : Int32) S0)))
set_option maxHeartbeats 4000000 in
set_option maxRecDepth 100000 in
theorem mX6_hasRoutine (l : Launch) (D : va_G) (cy : Nat → ClassId) (x0 : Nat) (x1 : Int32) (S0 : Sg) (Q : Int32 → Sg → Prop) (t0 : tg S0 x0 = 7) (hw : wX6_hasRoutine x0 x1 S0 Q) : Met l yX6_hasRoutine (.code yX6_hasRoutine cX6_hasRoutine 2 (some .boolean) :: wsL_law) { frames := 0, cells := 0, slots := 0, locals := 0 } (gPc D cy [va_rf (some x0), .int x1] S0) (va_Qi Q (gB D cy S0) (gA S0)) 0 0 (gA S0) := by
  refine gx_met (by decide) (Nat.le_of_ble_eq_true rfl) ?_
  intro p e s m args below meth c ls C hW hl
  have hx := C.1
  have hb := C.2.1
  have hl : lv_has ls 2 [(0, va_rf (some x0)), (1, .int x1)] := hl
  unfold wX6_hasRoutine at hw
  refine lv_iload_n hx hb dX6_hasRoutine_0 rfl (lv_at hl 1 rfl) ?_
  refine lv_if_lt (tgt := 23) hx hb dX6_hasRoutine_1 (by decide) (fun c1 => ?_) (fun c1 => ?_)
  · have hw := w_t hw c1
    refine lv_iconst (v := 0) hx hb dX6_hasRoutine_23 (by decide) ?_
    exact gx_iret C hW (Nat.le_of_ble_eq_true rfl) (Nat.le_of_ble_eq_true rfl) rfl hw dX6_hasRoutine_24
  · have hw := w_f hw c1
    refine lv_iload_n hx hb dX6_hasRoutine_4 rfl (lv_at hl 1 rfl) ?_
    refine gx_aload_n hx hb dX6_hasRoutine_5 rfl (lv_at hl 0 rfl) ?_
    refine gx_getI C hW F6_25 (k := 388) rfl t0 rfl dX6_hasRoutine_6 ?_
    refine lv_icmp_ge (tgt := 23) hx hb dX6_hasRoutine_9 (by decide) (fun c2 => ?_) (fun c2 => ?_)
    · have hw := w_t hw c2
      refine lv_iconst (v := 0) hx hb dX6_hasRoutine_23 (by decide) ?_
      exact gx_iret C hW (Nat.le_of_ble_eq_true rfl) (Nat.le_of_ble_eq_true rfl) rfl hw dX6_hasRoutine_24
    · have hw := w_f hw c2
      refine lv_iload_n hx hb dX6_hasRoutine_12 rfl (lv_at hl 1 rfl) ?_
      refine lv_sipush (v := 2000) hx hb dX6_hasRoutine_13 (by decide) ?_
      refine lv_icmp_ge (tgt := 23) hx hb dX6_hasRoutine_16 (by decide) (fun c3 => ?_) (fun c3 => ?_)
      · have hw := w_t hw c3
        refine lv_iconst (v := 0) hx hb dX6_hasRoutine_23 (by decide) ?_
        exact gx_iret C hW (Nat.le_of_ble_eq_true rfl) (Nat.le_of_ble_eq_true rfl) rfl hw dX6_hasRoutine_24
      · have hw := w_f hw c3
        refine lv_iconst (v := 1) hx hb dX6_hasRoutine_19 (by decide) ?_
        refine lv_goto (tgt := 24) hx hb dX6_hasRoutine_20 (by decide) ?_
        exact gx_iret C hW (Nat.le_of_ble_eq_true rfl) (Nat.le_of_ble_eq_true rfl) rfl hw dX6_hasRoutine_24
/-! TrialStair$Script.firstPlaceOf -/
def wX6_firstPlaceOf (x0 : Nat) (x1 : Int32) (S0 : Sg) (Q : Int32 → Sg → Prop) : Prop := wX6_hasRoutine x0 x1 S0 (fun (r1 : Int32) (S2 : Sg) => (if r1 = 0 then Q (fI S2 387 x0) S2 else ∃ a4 : Nat, (fR S2 385 x0) = some a4 ∧ tg S2 a4 = 13 ∧ vp_in x1 (ln S2 a4) ∧ Q ((aI S2 a4 (x1).toNatClampNeg) + (1 : Int32)) S2))
set_option maxHeartbeats 4000000 in
set_option maxRecDepth 100000 in
theorem mX6_firstPlaceOf (l : Launch) (D : va_G) (cy : Nat → ClassId) (x0 : Nat) (x1 : Int32) (S0 : Sg) (Q : Int32 → Sg → Prop) (t0 : tg S0 x0 = 7) (hw : wX6_firstPlaceOf x0 x1 S0 Q) : Met l yX6_firstPlaceOf (.code yX6_firstPlaceOf cX6_firstPlaceOf 2 (some .int) :: wsL_law) { frames := 1, cells := 0, slots := 0, locals := 21 } (gPc D cy [va_rf (some x0), .int x1] S0) (va_Qi Q (gB D cy S0) (gA S0)) 0 0 (gA S0) := by
  refine gx_met (by decide) (Nat.le_of_ble_eq_true rfl) ?_
  intro p e s m args below meth c ls C hW hl
  have hx := C.1
  have hb := C.2.1
  have hl : lv_has ls 2 [(0, va_rf (some x0)), (1, .int x1)] := hl
  unfold wX6_firstPlaceOf at hw
  refine gx_aload_n hx hb dX6_firstPlaceOf_0 rfl (lv_at hl 0 rfl) ?_
  refine lv_iload_n hx hb dX6_firstPlaceOf_1 rfl (lv_at hl 1 rfl) ?_
  refine gx_ci (gx_rV C hW M6_61 (mX6_hasRoutine l D cy _ _ _ _ t0 hw) rfl rfl ⟨Nat.le_of_ble_eq_true rfl, Nat.le_of_ble_eq_true rfl⟩ rfl t0 (by decide) rfl rfl hl.1 rfl (Nat.le_of_ble_eq_true rfl) dX6_firstPlaceOf_2 ⟨Nat.le_of_ble_eq_true rfl, Nat.le_of_ble_eq_true rfl⟩) hW (fun r1 S2 H locs hW hm hw => ?_)
  have t0 := hm _ _ t0
  refine lv_if_eq (tgt := 19) hx hb dX6_firstPlaceOf_5 (by decide) (fun c3 => ?_) (fun c3 => ?_)
  · have hw := w_t hw c3
    refine gx_aload_n hx hb dX6_firstPlaceOf_19 rfl (lv_at hl 0 rfl) ?_
    refine gx_getI C hW F6_21 (k := 387) rfl t0 rfl dX6_firstPlaceOf_20 ?_
    exact gx_iret C hW (Nat.le_of_ble_eq_true rfl) (Nat.le_of_ble_eq_true rfl) rfl hw dX6_firstPlaceOf_23
  · have hw := w_f hw c3
    refine gx_aload_n hx hb dX6_firstPlaceOf_8 rfl (lv_at hl 0 rfl) ?_
    refine gx_getR C hW F6_17 (k := 385) rfl t0 rfl dX6_firstPlaceOf_9 ?_
    refine lv_iload_n hx hb dX6_firstPlaceOf_12 rfl (lv_at hl 1 rfl) ?_
    obtain ⟨a4, ha4, ta4, hw⟩ := hw
    obtain ⟨i5, hw⟩ := hw
    refine gx_iald C hW ha4 ta4 i5 dX6_firstPlaceOf_13 ?_
    refine lv_iconst (v := 1) hx hb dX6_firstPlaceOf_14 (by decide) ?_
    refine lv_iadd hx hb dX6_firstPlaceOf_15 ?_
    refine lv_goto (tgt := 23) hx hb dX6_firstPlaceOf_16 (by decide) ?_
    exact gx_iret C hW (Nat.le_of_ble_eq_true rfl) (Nat.le_of_ble_eq_true rfl) rfl hw dX6_firstPlaceOf_23
/-! TrialStair$Script.placeBehind -/
def wX6_placeBehind (x0 : Nat) (x1 : Int32) (S0 : Sg) (Q : Int32 → Sg → Prop) : Prop := wX6_hasRoutine x0 (x1 + (1 : Int32)) S0 (fun (r1 : Int32) (S2 : Sg) => (if r1 = 0 then Q (fI S2 387 x0) S2 else ∃ a4 : Nat, (fR S2 385 x0) = some a4 ∧ tg S2 a4 = 13 ∧ vp_in (x1 + (1 : Int32)) (ln S2 a4) ∧ Q (aI S2 a4 ((x1 + (1 : Int32))).toNatClampNeg) S2))
set_option maxHeartbeats 4000000 in
set_option maxRecDepth 100000 in
theorem mX6_placeBehind (l : Launch) (D : va_G) (cy : Nat → ClassId) (x0 : Nat) (x1 : Int32) (S0 : Sg) (Q : Int32 → Sg → Prop) (t0 : tg S0 x0 = 7) (hw : wX6_placeBehind x0 x1 S0 Q) : Met l yX6_placeBehind (.code yX6_placeBehind cX6_placeBehind 2 (some .int) :: wsL_law) { frames := 1, cells := 0, slots := 0, locals := 21 } (gPc D cy [va_rf (some x0), .int x1] S0) (va_Qi Q (gB D cy S0) (gA S0)) 0 0 (gA S0) := by
  refine gx_met (by decide) (Nat.le_of_ble_eq_true rfl) ?_
  intro p e s m args below meth c ls C hW hl
  have hx := C.1
  have hb := C.2.1
  have hl : lv_has ls 2 [(0, va_rf (some x0)), (1, .int x1)] := hl
  unfold wX6_placeBehind at hw
  refine gx_aload_n hx hb dX6_placeBehind_0 rfl (lv_at hl 0 rfl) ?_
  refine lv_iload_n hx hb dX6_placeBehind_1 rfl (lv_at hl 1 rfl) ?_
  refine lv_iconst (v := 1) hx hb dX6_placeBehind_2 (by decide) ?_
  refine lv_iadd hx hb dX6_placeBehind_3 ?_
  refine gx_ci (gx_rV C hW M6_61 (mX6_hasRoutine l D cy _ _ _ _ t0 hw) rfl rfl ⟨Nat.le_of_ble_eq_true rfl, Nat.le_of_ble_eq_true rfl⟩ rfl t0 (by decide) rfl rfl hl.1 rfl (Nat.le_of_ble_eq_true rfl) dX6_placeBehind_4 ⟨Nat.le_of_ble_eq_true rfl, Nat.le_of_ble_eq_true rfl⟩) hW (fun r1 S2 H locs hW hm hw => ?_)
  have t0 := hm _ _ t0
  refine lv_if_eq (tgt := 21) hx hb dX6_placeBehind_7 (by decide) (fun c3 => ?_) (fun c3 => ?_)
  · have hw := w_t hw c3
    refine gx_aload_n hx hb dX6_placeBehind_21 rfl (lv_at hl 0 rfl) ?_
    refine gx_getI C hW F6_21 (k := 387) rfl t0 rfl dX6_placeBehind_22 ?_
    exact gx_iret C hW (Nat.le_of_ble_eq_true rfl) (Nat.le_of_ble_eq_true rfl) rfl hw dX6_placeBehind_25
  · have hw := w_f hw c3
    refine gx_aload_n hx hb dX6_placeBehind_10 rfl (lv_at hl 0 rfl) ?_
    refine gx_getR C hW F6_17 (k := 385) rfl t0 rfl dX6_placeBehind_11 ?_
    refine lv_iload_n hx hb dX6_placeBehind_14 rfl (lv_at hl 1 rfl) ?_
    refine lv_iconst (v := 1) hx hb dX6_placeBehind_15 (by decide) ?_
    refine lv_iadd hx hb dX6_placeBehind_16 ?_
    obtain ⟨a4, ha4, ta4, hw⟩ := hw
    obtain ⟨i5, hw⟩ := hw
    refine gx_iald C hW ha4 ta4 i5 dX6_placeBehind_17 ?_
    refine lv_goto (tgt := 25) hx hb dX6_placeBehind_18 (by decide) ?_
    exact gx_iret C hW (Nat.le_of_ble_eq_true rfl) (Nat.le_of_ble_eq_true rfl) rfl hw dX6_placeBehind_25
/-! TrialStair$Script.stepAt -/
def wX6_stepAt (x0 : Nat) (x1 : Int32) (S0 : Sg) (Q : Option Nat → Sg → Prop) : Prop := (if x1 < 0 then Q none S0 else (if (fI S0 387 x0) ≤ x1 then Q none S0 else (if (2000 : Int32) ≤ x1 then Q none S0 else ∃ a4 : Nat, (fR S0 384 x0) = some a4 ∧ tg S0 a4 = 17 ∧ vp_in x1 (ln S0 a4) ∧ Q (aR S0 a4 (x1).toNatClampNeg) S0)))
set_option maxHeartbeats 4000000 in
set_option maxRecDepth 100000 in
theorem mX6_stepAt (l : Launch) (D : va_G) (cy : Nat → ClassId) (x0 : Nat) (x1 : Int32) (S0 : Sg) (Q : Option Nat → Sg → Prop) (t0 : tg S0 x0 = 7) (hw : wX6_stepAt x0 x1 S0 Q) : Met l yX6_stepAt (.code yX6_stepAt cX6_stepAt 2 (some (.object "TrialStair$Step")) :: wsL_law) { frames := 0, cells := 0, slots := 0, locals := 0 } (gPc D cy [va_rf (some x0), .int x1] S0) (va_Qq Q (gB D cy S0) (gA S0)) 0 0 (gA S0) := by
  refine gx_met (by decide) (Nat.le_of_ble_eq_true rfl) ?_
  intro p e s m args below meth c ls C hW hl
  have hx := C.1
  have hb := C.2.1
  have hl : lv_has ls 2 [(0, va_rf (some x0)), (1, .int x1)] := hl
  unfold wX6_stepAt at hw
  refine lv_iload_n hx hb dX6_stepAt_0 rfl (lv_at hl 1 rfl) ?_
  refine lv_if_lt (tgt := 28) hx hb dX6_stepAt_1 (by decide) (fun c1 => ?_) (fun c1 => ?_)
  · have hw := w_t hw c1
    refine gx_null hx hb dX6_stepAt_28 ?_
    exact gx_aret C hW (Nat.le_of_ble_eq_true rfl) (Nat.le_of_ble_eq_true rfl) hw dX6_stepAt_29
  · have hw := w_f hw c1
    refine lv_iload_n hx hb dX6_stepAt_4 rfl (lv_at hl 1 rfl) ?_
    refine gx_aload_n hx hb dX6_stepAt_5 rfl (lv_at hl 0 rfl) ?_
    refine gx_getI C hW F6_21 (k := 387) rfl t0 rfl dX6_stepAt_6 ?_
    refine lv_icmp_ge (tgt := 28) hx hb dX6_stepAt_9 (by decide) (fun c2 => ?_) (fun c2 => ?_)
    · have hw := w_t hw c2
      refine gx_null hx hb dX6_stepAt_28 ?_
      exact gx_aret C hW (Nat.le_of_ble_eq_true rfl) (Nat.le_of_ble_eq_true rfl) hw dX6_stepAt_29
    · have hw := w_f hw c2
      refine lv_iload_n hx hb dX6_stepAt_12 rfl (lv_at hl 1 rfl) ?_
      refine lv_sipush (v := 2000) hx hb dX6_stepAt_13 (by decide) ?_
      refine lv_icmp_ge (tgt := 28) hx hb dX6_stepAt_16 (by decide) (fun c3 => ?_) (fun c3 => ?_)
      · have hw := w_t hw c3
        refine gx_null hx hb dX6_stepAt_28 ?_
        exact gx_aret C hW (Nat.le_of_ble_eq_true rfl) (Nat.le_of_ble_eq_true rfl) hw dX6_stepAt_29
      · have hw := w_f hw c3
        refine gx_aload_n hx hb dX6_stepAt_19 rfl (lv_at hl 0 rfl) ?_
        refine gx_getR C hW F6_11 (k := 384) rfl t0 rfl dX6_stepAt_20 ?_
        refine lv_iload_n hx hb dX6_stepAt_23 rfl (lv_at hl 1 rfl) ?_
        obtain ⟨a4, ha4, ta4, hw⟩ := hw
        obtain ⟨i5, hw⟩ := hw
        refine gx_aald C hW ha4 (Or.inr (Or.inl ta4)) i5 dX6_stepAt_24 ?_
        refine lv_goto (tgt := 29) hx hb dX6_stepAt_25 (by decide) ?_
        exact gx_aret C hW (Nat.le_of_ble_eq_true rfl) (Nat.le_of_ble_eq_true rfl) hw dX6_stepAt_29
end
