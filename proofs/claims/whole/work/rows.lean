section
-- ===== PART A: goes FIRST, ahead of the names: the tables' words, and 'selects' of the private methods out of them =====
/-- a private method of a class that the tables say can be made, by its rows of tables_1 -/
def lw_okq (q : MethodName × Nat) : Prop := (q.1.cls ≠ "java/lang/invoke/MethodHandle" ∧ q.1.cls ≠ "java/lang/invoke/VarHandle") ∧ Cond.instantiable q.1.cls q.2 ∈ tables_1 ∧ Cond.privateMethod q.1 ∈ tables_1 ∧ Cond.instanceMethod q.1 ∈ tables_1
theorem lw_p0 : lw_okq (⟨"FarStore", "findSite", "(I)LFarStore$Site;"⟩, 6) := ⟨⟨by decide +kernel, by decide +kernel⟩, List.mem_of_getElem? (i := 17) (by decide +kernel), List.mem_of_getElem? (i := 113) (by decide +kernel), List.mem_of_getElem? (i := 114) (by decide +kernel)⟩
theorem lw_p1 : lw_okq (⟨"java/util/ArrayList", "add", "(Ljava/lang/Object;[Ljava/lang/Object;I)V"⟩, 3) := ⟨⟨by decide +kernel, by decide +kernel⟩, List.mem_of_getElem? (i := 27) (by decide +kernel), List.mem_of_getElem? (i := 146) (by decide +kernel), List.mem_of_getElem? (i := 147) (by decide +kernel)⟩
theorem lw_p2 : lw_okq (⟨"java/util/ArrayList", "grow", "()[Ljava/lang/Object;"⟩, 3) := ⟨⟨by decide +kernel, by decide +kernel⟩, List.mem_of_getElem? (i := 27) (by decide +kernel), List.mem_of_getElem? (i := 150) (by decide +kernel), List.mem_of_getElem? (i := 151) (by decide +kernel)⟩
theorem lw_p3 : lw_okq (⟨"java/util/ArrayList", "grow", "(I)[Ljava/lang/Object;"⟩, 3) := ⟨⟨by decide +kernel, by decide +kernel⟩, List.mem_of_getElem? (i := 27) (by decide +kernel), List.mem_of_getElem? (i := 154) (by decide +kernel), List.mem_of_getElem? (i := 155) (by decide +kernel)⟩
theorem lw_p4 : lw_okq (⟨"FarStore", "findTransaction", "(I)LFarStore$Transaction;"⟩, 6) := ⟨⟨by decide +kernel, by decide +kernel⟩, List.mem_of_getElem? (i := 17) (by decide +kernel), List.mem_of_getElem? (i := 279) (by decide +kernel), List.mem_of_getElem? (i := 280) (by decide +kernel)⟩
theorem lw_p5 : lw_okq (⟨"FarStore", "findPlain", "(I)LFarStore$Thing;"⟩, 6) := ⟨⟨by decide +kernel, by decide +kernel⟩, List.mem_of_getElem? (i := 17) (by decide +kernel), List.mem_of_getElem? (i := 297) (by decide +kernel), List.mem_of_getElem? (i := 298) (by decide +kernel)⟩
theorem lw_p6 : lw_okq (⟨"FarStore", "findThing", "(I)LFarStore$Thing;"⟩, 6) := ⟨⟨by decide +kernel, by decide +kernel⟩, List.mem_of_getElem? (i := 17) (by decide +kernel), List.mem_of_getElem? (i := 301) (by decide +kernel), List.mem_of_getElem? (i := 302) (by decide +kernel)⟩
theorem lw_p7 : lw_okq (⟨"FarStore$Site", "valueOf", "(LFarStore$Thing;[I)J"⟩, 4) := ⟨⟨by decide +kernel, by decide +kernel⟩, List.mem_of_getElem? (i := 52) (by decide +kernel), List.mem_of_getElem? (i := 305) (by decide +kernel), List.mem_of_getElem? (i := 306) (by decide +kernel)⟩
theorem lw_p8 : lw_okq (⟨"FarStore$Transaction", "isWithin", "([I)Z"⟩, 14) := ⟨⟨by decide +kernel, by decide +kernel⟩, List.mem_of_getElem? (i := 200) (by decide +kernel), List.mem_of_getElem? (i := 312) (by decide +kernel), List.mem_of_getElem? (i := 313) (by decide +kernel)⟩
theorem lw_p9 : lw_okq (⟨"FarStore$Transaction", "hasCommit", "()Z"⟩, 14) := ⟨⟨by decide +kernel, by decide +kernel⟩, List.mem_of_getElem? (i := 200) (by decide +kernel), List.mem_of_getElem? (i := 316) (by decide +kernel), List.mem_of_getElem? (i := 317) (by decide +kernel)⟩
theorem lw_p10 : lw_okq (⟨"FarStore", "findSet", "(I)LFarStore$Thing;"⟩, 6) := ⟨⟨by decide +kernel, by decide +kernel⟩, List.mem_of_getElem? (i := 17) (by decide +kernel), List.mem_of_getElem? (i := 324) (by decide +kernel), List.mem_of_getElem? (i := 325) (by decide +kernel)⟩
theorem lw_p11 : lw_okq (⟨"FarStore$Thing", "slotOf", "(I)I"⟩, 3) := ⟨⟨by decide +kernel, by decide +kernel⟩, List.mem_of_getElem? (i := 121) (by decide +kernel), List.mem_of_getElem? (i := 331) (by decide +kernel), List.mem_of_getElem? (i := 332) (by decide +kernel)⟩
theorem lw_p12 : lw_okq (⟨"FarStore$Site", "countOf", "(I[I)J"⟩, 4) := ⟨⟨by decide +kernel, by decide +kernel⟩, List.mem_of_getElem? (i := 52) (by decide +kernel), List.mem_of_getElem? (i := 335) (by decide +kernel), List.mem_of_getElem? (i := 336) (by decide +kernel)⟩
theorem lw_p13 : lw_okq (⟨"FarStore$Transaction", "put", "(LFarStore$Thing;J)V"⟩, 14) := ⟨⟨by decide +kernel, by decide +kernel⟩, List.mem_of_getElem? (i := 200) (by decide +kernel), List.mem_of_getElem? (i := 343) (by decide +kernel), List.mem_of_getElem? (i := 344) (by decide +kernel)⟩
theorem lw_p14 : lw_okq (⟨"FarStore$Transaction", "addTo", "(II)V"⟩, 14) := ⟨⟨by decide +kernel, by decide +kernel⟩, List.mem_of_getElem? (i := 200) (by decide +kernel), List.mem_of_getElem? (i := 351) (by decide +kernel), List.mem_of_getElem? (i := 352) (by decide +kernel)⟩
theorem lw_p15 : lw_okq (⟨"FarStore", "allFree", "(LFarStore$Transaction;LFarStore$Site;)Z"⟩, 6) := ⟨⟨by decide +kernel, by decide +kernel⟩, List.mem_of_getElem? (i := 17) (by decide +kernel), List.mem_of_getElem? (i := 359) (by decide +kernel), List.mem_of_getElem? (i := 360) (by decide +kernel)⟩
def lw_privs_1 : List (MethodName × Nat) := [(⟨"FarStore", "findSite", "(I)LFarStore$Site;"⟩, 6), (⟨"java/util/ArrayList", "add", "(Ljava/lang/Object;[Ljava/lang/Object;I)V"⟩, 3), (⟨"java/util/ArrayList", "grow", "()[Ljava/lang/Object;"⟩, 3), (⟨"java/util/ArrayList", "grow", "(I)[Ljava/lang/Object;"⟩, 3), (⟨"FarStore", "findTransaction", "(I)LFarStore$Transaction;"⟩, 6), (⟨"FarStore", "findPlain", "(I)LFarStore$Thing;"⟩, 6), (⟨"FarStore", "findThing", "(I)LFarStore$Thing;"⟩, 6), (⟨"FarStore$Site", "valueOf", "(LFarStore$Thing;[I)J"⟩, 4), (⟨"FarStore$Transaction", "isWithin", "([I)Z"⟩, 14), (⟨"FarStore$Transaction", "hasCommit", "()Z"⟩, 14), (⟨"FarStore", "findSet", "(I)LFarStore$Thing;"⟩, 6), (⟨"FarStore$Thing", "slotOf", "(I)I"⟩, 3), (⟨"FarStore$Site", "countOf", "(I[I)J"⟩, 4), (⟨"FarStore$Transaction", "put", "(LFarStore$Thing;J)V"⟩, 14), (⟨"FarStore$Transaction", "addTo", "(II)V"⟩, 14), (⟨"FarStore", "allFree", "(LFarStore$Transaction;LFarStore$Site;)Z"⟩, 6)]
theorem lw_r1 : ∀ q ∈ lw_privs_1, lw_okq q := List.forall_mem_cons.mpr ⟨lw_p0, List.forall_mem_cons.mpr ⟨lw_p1, List.forall_mem_cons.mpr ⟨lw_p2, List.forall_mem_cons.mpr ⟨lw_p3, List.forall_mem_cons.mpr ⟨lw_p4, List.forall_mem_cons.mpr ⟨lw_p5, List.forall_mem_cons.mpr ⟨lw_p6, List.forall_mem_cons.mpr ⟨lw_p7, List.forall_mem_cons.mpr ⟨lw_p8, List.forall_mem_cons.mpr ⟨lw_p9, List.forall_mem_cons.mpr ⟨lw_p10, List.forall_mem_cons.mpr ⟨lw_p11, List.forall_mem_cons.mpr ⟨lw_p12, List.forall_mem_cons.mpr ⟨lw_p13, List.forall_mem_cons.mpr ⟨lw_p14, List.forall_mem_cons.mpr ⟨lw_p15, fun _ h => absurd h List.not_mem_nil⟩⟩⟩⟩⟩⟩⟩⟩⟩⟩⟩⟩⟩⟩⟩⟩
theorem lw_p16 : lw_okq (⟨"FarStore$Site", "isFree", "(LFarStore$Thing;LFarStore$Transaction;)Z"⟩, 4) := ⟨⟨by decide +kernel, by decide +kernel⟩, List.mem_of_getElem? (i := 52) (by decide +kernel), List.mem_of_getElem? (i := 366) (by decide +kernel), List.mem_of_getElem? (i := 367) (by decide +kernel)⟩
theorem lw_p17 : lw_okq (⟨"FarStore", "hasHomesElsewhere", "(LFarStore$Transaction;)Z"⟩, 6) := ⟨⟨by decide +kernel, by decide +kernel⟩, List.mem_of_getElem? (i := 17) (by decide +kernel), List.mem_of_getElem? (i := 370) (by decide +kernel), List.mem_of_getElem? (i := 371) (by decide +kernel)⟩
theorem lw_p18 : lw_okq (⟨"FarStore", "hasHome", "(LFarStore$Transaction;LFarStore$Site;)Z"⟩, 6) := ⟨⟨by decide +kernel, by decide +kernel⟩, List.mem_of_getElem? (i := 17) (by decide +kernel), List.mem_of_getElem? (i := 374) (by decide +kernel), List.mem_of_getElem? (i := 375) (by decide +kernel)⟩
theorem lw_p19 : lw_okq (⟨"FarStore", "lockThings", "(LFarStore$Transaction;LFarStore$Site;)V"⟩, 6) := ⟨⟨by decide +kernel, by decide +kernel⟩, List.mem_of_getElem? (i := 17) (by decide +kernel), List.mem_of_getElem? (i := 378) (by decide +kernel), List.mem_of_getElem? (i := 379) (by decide +kernel)⟩
theorem lw_p20 : lw_okq (⟨"FarStore", "tellHomes", "(LFarStore$Transaction;I)I"⟩, 6) := ⟨⟨by decide +kernel, by decide +kernel⟩, List.mem_of_getElem? (i := 17) (by decide +kernel), List.mem_of_getElem? (i := 382) (by decide +kernel), List.mem_of_getElem? (i := 383) (by decide +kernel)⟩
theorem lw_p21 : lw_okq (⟨"FarStore", "post", "(ILFarStore$Site;LFarStore$Site;LFarStore$Transaction;)V"⟩, 6) := ⟨⟨by decide +kernel, by decide +kernel⟩, List.mem_of_getElem? (i := 17) (by decide +kernel), List.mem_of_getElem? (i := 386) (by decide +kernel), List.mem_of_getElem? (i := 387) (by decide +kernel)⟩
theorem lw_p22 : lw_okq (⟨"FarStore", "makeCommitted", "(LFarStore$Transaction;)V"⟩, 6) := ⟨⟨by decide +kernel, by decide +kernel⟩, List.mem_of_getElem? (i := 17) (by decide +kernel), List.mem_of_getElem? (i := 413) (by decide +kernel), List.mem_of_getElem? (i := 414) (by decide +kernel)⟩
theorem lw_p23 : lw_okq (⟨"FarStore$Transaction", "wroteAnything", "()Z"⟩, 14) := ⟨⟨by decide +kernel, by decide +kernel⟩, List.mem_of_getElem? (i := 200) (by decide +kernel), List.mem_of_getElem? (i := 417) (by decide +kernel), List.mem_of_getElem? (i := 418) (by decide +kernel)⟩
theorem lw_p24 : lw_okq (⟨"FarStore$Site", "take", "(LFarStore$Transaction;)V"⟩, 4) := ⟨⟨by decide +kernel, by decide +kernel⟩, List.mem_of_getElem? (i := 52) (by decide +kernel), List.mem_of_getElem? (i := 421) (by decide +kernel), List.mem_of_getElem? (i := 422) (by decide +kernel)⟩
theorem lw_p25 : lw_okq (⟨"FarStore$Site", "unlock", "(LFarStore$Transaction;)V"⟩, 4) := ⟨⟨by decide +kernel, by decide +kernel⟩, List.mem_of_getElem? (i := 52) (by decide +kernel), List.mem_of_getElem? (i := 426) (by decide +kernel), List.mem_of_getElem? (i := 427) (by decide +kernel)⟩
theorem lw_p26 : lw_okq (⟨"FarStore", "tellOthers", "(LFarStore$Transaction;I)V"⟩, 6) := ⟨⟨by decide +kernel, by decide +kernel⟩, List.mem_of_getElem? (i := 17) (by decide +kernel), List.mem_of_getElem? (i := 430) (by decide +kernel), List.mem_of_getElem? (i := 431) (by decide +kernel)⟩
theorem lw_p27 : lw_okq (⟨"FarStore", "findMessage", "(I)LFarStore$Message;"⟩, 6) := ⟨⟨by decide +kernel, by decide +kernel⟩, List.mem_of_getElem? (i := 17) (by decide +kernel), List.mem_of_getElem? (i := 442) (by decide +kernel), List.mem_of_getElem? (i := 443) (by decide +kernel)⟩
theorem lw_p28 : lw_okq (⟨"FarStore$Message", "canCome", "()Z"⟩, 4) := ⟨⟨by decide +kernel, by decide +kernel⟩, List.mem_of_getElem? (i := 390) (by decide +kernel), List.mem_of_getElem? (i := 446) (by decide +kernel), List.mem_of_getElem? (i := 447) (by decide +kernel)⟩
theorem lw_p29 : lw_okq (⟨"FarStore$Site", "canTake", "(LFarStore$Transaction;)Z"⟩, 4) := ⟨⟨by decide +kernel, by decide +kernel⟩, List.mem_of_getElem? (i := 52) (by decide +kernel), List.mem_of_getElem? (i := 450) (by decide +kernel), List.mem_of_getElem? (i := 451) (by decide +kernel)⟩
theorem lw_p30 : lw_okq (⟨"java/util/ArrayList", "fastRemove", "([Ljava/lang/Object;I)V"⟩, 3) := ⟨⟨by decide +kernel, by decide +kernel⟩, List.mem_of_getElem? (i := 27) (by decide +kernel), List.mem_of_getElem? (i := 458) (by decide +kernel), List.mem_of_getElem? (i := 459) (by decide +kernel)⟩
theorem lw_p31 : lw_okq (⟨"FarStore", "receive", "(LFarStore$Message;)V"⟩, 6) := ⟨⟨by decide +kernel, by decide +kernel⟩, List.mem_of_getElem? (i := 17) (by decide +kernel), List.mem_of_getElem? (i := 463) (by decide +kernel), List.mem_of_getElem? (i := 464) (by decide +kernel)⟩
def lw_privs_2 : List (MethodName × Nat) := [(⟨"FarStore$Site", "isFree", "(LFarStore$Thing;LFarStore$Transaction;)Z"⟩, 4), (⟨"FarStore", "hasHomesElsewhere", "(LFarStore$Transaction;)Z"⟩, 6), (⟨"FarStore", "hasHome", "(LFarStore$Transaction;LFarStore$Site;)Z"⟩, 6), (⟨"FarStore", "lockThings", "(LFarStore$Transaction;LFarStore$Site;)V"⟩, 6), (⟨"FarStore", "tellHomes", "(LFarStore$Transaction;I)I"⟩, 6), (⟨"FarStore", "post", "(ILFarStore$Site;LFarStore$Site;LFarStore$Transaction;)V"⟩, 6), (⟨"FarStore", "makeCommitted", "(LFarStore$Transaction;)V"⟩, 6), (⟨"FarStore$Transaction", "wroteAnything", "()Z"⟩, 14), (⟨"FarStore$Site", "take", "(LFarStore$Transaction;)V"⟩, 4), (⟨"FarStore$Site", "unlock", "(LFarStore$Transaction;)V"⟩, 4), (⟨"FarStore", "tellOthers", "(LFarStore$Transaction;I)V"⟩, 6), (⟨"FarStore", "findMessage", "(I)LFarStore$Message;"⟩, 6), (⟨"FarStore$Message", "canCome", "()Z"⟩, 4), (⟨"FarStore$Site", "canTake", "(LFarStore$Transaction;)Z"⟩, 4), (⟨"java/util/ArrayList", "fastRemove", "([Ljava/lang/Object;I)V"⟩, 3), (⟨"FarStore", "receive", "(LFarStore$Message;)V"⟩, 6)]
theorem lw_r2 : ∀ q ∈ lw_privs_2, lw_okq q := List.forall_mem_cons.mpr ⟨lw_p16, List.forall_mem_cons.mpr ⟨lw_p17, List.forall_mem_cons.mpr ⟨lw_p18, List.forall_mem_cons.mpr ⟨lw_p19, List.forall_mem_cons.mpr ⟨lw_p20, List.forall_mem_cons.mpr ⟨lw_p21, List.forall_mem_cons.mpr ⟨lw_p22, List.forall_mem_cons.mpr ⟨lw_p23, List.forall_mem_cons.mpr ⟨lw_p24, List.forall_mem_cons.mpr ⟨lw_p25, List.forall_mem_cons.mpr ⟨lw_p26, List.forall_mem_cons.mpr ⟨lw_p27, List.forall_mem_cons.mpr ⟨lw_p28, List.forall_mem_cons.mpr ⟨lw_p29, List.forall_mem_cons.mpr ⟨lw_p30, List.forall_mem_cons.mpr ⟨lw_p31, fun _ h => absurd h List.not_mem_nil⟩⟩⟩⟩⟩⟩⟩⟩⟩⟩⟩⟩⟩⟩⟩⟩
theorem lw_p32 : lw_okq (⟨"FarStore", "receiveAsk", "(LFarStore$Message;)V"⟩, 6) := ⟨⟨by decide +kernel, by decide +kernel⟩, List.mem_of_getElem? (i := 17) (by decide +kernel), List.mem_of_getElem? (i := 467) (by decide +kernel), List.mem_of_getElem? (i := 468) (by decide +kernel)⟩
theorem lw_p33 : lw_okq (⟨"FarStore", "receiveYes", "(LFarStore$Transaction;)V"⟩, 6) := ⟨⟨by decide +kernel, by decide +kernel⟩, List.mem_of_getElem? (i := 17) (by decide +kernel), List.mem_of_getElem? (i := 471) (by decide +kernel), List.mem_of_getElem? (i := 472) (by decide +kernel)⟩
theorem lw_p34 : lw_okq (⟨"FarStore", "receiveNo", "(LFarStore$Transaction;)V"⟩, 6) := ⟨⟨by decide +kernel, by decide +kernel⟩, List.mem_of_getElem? (i := 17) (by decide +kernel), List.mem_of_getElem? (i := 475) (by decide +kernel), List.mem_of_getElem? (i := 476) (by decide +kernel)⟩
theorem lw_p35 : lw_okq (⟨"FarStore", "receiveDrop", "(LFarStore$Message;)V"⟩, 6) := ⟨⟨by decide +kernel, by decide +kernel⟩, List.mem_of_getElem? (i := 17) (by decide +kernel), List.mem_of_getElem? (i := 480) (by decide +kernel), List.mem_of_getElem? (i := 481) (by decide +kernel)⟩
theorem lw_p36 : lw_okq (⟨"FarStore", "receiveSend", "(LFarStore$Message;)V"⟩, 6) := ⟨⟨by decide +kernel, by decide +kernel⟩, List.mem_of_getElem? (i := 17) (by decide +kernel), List.mem_of_getElem? (i := 484) (by decide +kernel), List.mem_of_getElem? (i := 485) (by decide +kernel)⟩
theorem lw_p37 : lw_okq (⟨"FarStore", "firstThatCanCome", "()I"⟩, 6) := ⟨⟨by decide +kernel, by decide +kernel⟩, List.mem_of_getElem? (i := 17) (by decide +kernel), List.mem_of_getElem? (i := 492) (by decide +kernel), List.mem_of_getElem? (i := 493) (by decide +kernel)⟩
theorem lw_p38 : lw_okq (⟨"FarStore", "isSafe", "(LFarStore$Transaction;)Z"⟩, 6) := ⟨⟨by decide +kernel, by decide +kernel⟩, List.mem_of_getElem? (i := 17) (by decide +kernel), List.mem_of_getElem? (i := 507) (by decide +kernel), List.mem_of_getElem? (i := 508) (by decide +kernel)⟩
theorem lw_p39 : lw_okq (⟨"FarStore", "isEverywhere", "(LFarStore$Transaction;)Z"⟩, 6) := ⟨⟨by decide +kernel, by decide +kernel⟩, List.mem_of_getElem? (i := 17) (by decide +kernel), List.mem_of_getElem? (i := 512) (by decide +kernel), List.mem_of_getElem? (i := 513) (by decide +kernel)⟩
theorem lw_p40 : lw_okq (⟨"FarStore", "howManyAre", "(I)I"⟩, 6) := ⟨⟨by decide +kernel, by decide +kernel⟩, List.mem_of_getElem? (i := 17) (by decide +kernel), List.mem_of_getElem? (i := 549) (by decide +kernel), List.mem_of_getElem? (i := 550) (by decide +kernel)⟩
theorem lw_p41 : lw_okq (⟨"FarStore", "howManyCommits", "()I"⟩, 6) := ⟨⟨by decide +kernel, by decide +kernel⟩, List.mem_of_getElem? (i := 17) (by decide +kernel), List.mem_of_getElem? (i := 553) (by decide +kernel), List.mem_of_getElem? (i := 554) (by decide +kernel)⟩
theorem lw_p42 : lw_okq (⟨"FarStore", "howManyLocks", "()I"⟩, 6) := ⟨⟨by decide +kernel, by decide +kernel⟩, List.mem_of_getElem? (i := 17) (by decide +kernel), List.mem_of_getElem? (i := 557) (by decide +kernel), List.mem_of_getElem? (i := 558) (by decide +kernel)⟩
theorem lw_p43 : lw_okq (⟨"FarStore$Site", "howManyLocked", "()I"⟩, 4) := ⟨⟨by decide +kernel, by decide +kernel⟩, List.mem_of_getElem? (i := 52) (by decide +kernel), List.mem_of_getElem? (i := 561) (by decide +kernel), List.mem_of_getElem? (i := 562) (by decide +kernel)⟩
theorem lw_p44 : lw_okq (⟨"FarStore", "howManySafe", "()I"⟩, 6) := ⟨⟨by decide +kernel, by decide +kernel⟩, List.mem_of_getElem? (i := 17) (by decide +kernel), List.mem_of_getElem? (i := 566) (by decide +kernel), List.mem_of_getElem? (i := 567) (by decide +kernel)⟩
theorem lw_p45 : lw_okq (⟨"FarStoreModel", "isSite", "(I)Z"⟩, 27) := ⟨⟨by decide +kernel, by decide +kernel⟩, List.mem_of_getElem? (i := 570) (by decide +kernel), List.mem_of_getElem? (i := 671) (by decide +kernel), List.mem_of_getElem? (i := 672) (by decide +kernel)⟩
theorem lw_p46 : lw_okq (⟨"FarStoreModel", "is", "(I)Z"⟩, 27) := ⟨⟨by decide +kernel, by decide +kernel⟩, List.mem_of_getElem? (i := 570) (by decide +kernel), List.mem_of_getElem? (i := 683) (by decide +kernel), List.mem_of_getElem? (i := 684) (by decide +kernel)⟩
theorem lw_p47 : lw_okq (⟨"FarStoreModel", "isThing", "(I)Z"⟩, 27) := ⟨⟨by decide +kernel, by decide +kernel⟩, List.mem_of_getElem? (i := 570) (by decide +kernel), List.mem_of_getElem? (i := 687) (by decide +kernel), List.mem_of_getElem? (i := 688) (by decide +kernel)⟩
def lw_privs_3 : List (MethodName × Nat) := [(⟨"FarStore", "receiveAsk", "(LFarStore$Message;)V"⟩, 6), (⟨"FarStore", "receiveYes", "(LFarStore$Transaction;)V"⟩, 6), (⟨"FarStore", "receiveNo", "(LFarStore$Transaction;)V"⟩, 6), (⟨"FarStore", "receiveDrop", "(LFarStore$Message;)V"⟩, 6), (⟨"FarStore", "receiveSend", "(LFarStore$Message;)V"⟩, 6), (⟨"FarStore", "firstThatCanCome", "()I"⟩, 6), (⟨"FarStore", "isSafe", "(LFarStore$Transaction;)Z"⟩, 6), (⟨"FarStore", "isEverywhere", "(LFarStore$Transaction;)Z"⟩, 6), (⟨"FarStore", "howManyAre", "(I)I"⟩, 6), (⟨"FarStore", "howManyCommits", "()I"⟩, 6), (⟨"FarStore", "howManyLocks", "()I"⟩, 6), (⟨"FarStore$Site", "howManyLocked", "()I"⟩, 4), (⟨"FarStore", "howManySafe", "()I"⟩, 6), (⟨"FarStoreModel", "isSite", "(I)Z"⟩, 27), (⟨"FarStoreModel", "is", "(I)Z"⟩, 27), (⟨"FarStoreModel", "isThing", "(I)Z"⟩, 27)]
theorem lw_r3 : ∀ q ∈ lw_privs_3, lw_okq q := List.forall_mem_cons.mpr ⟨lw_p32, List.forall_mem_cons.mpr ⟨lw_p33, List.forall_mem_cons.mpr ⟨lw_p34, List.forall_mem_cons.mpr ⟨lw_p35, List.forall_mem_cons.mpr ⟨lw_p36, List.forall_mem_cons.mpr ⟨lw_p37, List.forall_mem_cons.mpr ⟨lw_p38, List.forall_mem_cons.mpr ⟨lw_p39, List.forall_mem_cons.mpr ⟨lw_p40, List.forall_mem_cons.mpr ⟨lw_p41, List.forall_mem_cons.mpr ⟨lw_p42, List.forall_mem_cons.mpr ⟨lw_p43, List.forall_mem_cons.mpr ⟨lw_p44, List.forall_mem_cons.mpr ⟨lw_p45, List.forall_mem_cons.mpr ⟨lw_p46, List.forall_mem_cons.mpr ⟨lw_p47, fun _ h => absurd h List.not_mem_nil⟩⟩⟩⟩⟩⟩⟩⟩⟩⟩⟩⟩⟩⟩⟩⟩
theorem lw_p48 : lw_okq (⟨"FarStoreModel", "has", "(II)Z"⟩, 27) := ⟨⟨by decide +kernel, by decide +kernel⟩, List.mem_of_getElem? (i := 570) (by decide +kernel), List.mem_of_getElem? (i := 691) (by decide +kernel), List.mem_of_getElem? (i := 692) (by decide +kernel)⟩
theorem lw_p49 : lw_okq (⟨"FarStoreModel", "plain", "(I)I"⟩, 27) := ⟨⟨by decide +kernel, by decide +kernel⟩, List.mem_of_getElem? (i := 570) (by decide +kernel), List.mem_of_getElem? (i := 715) (by decide +kernel), List.mem_of_getElem? (i := 716) (by decide +kernel)⟩
theorem lw_p50 : lw_okq (⟨"FarStoreModel", "areFree", "(II)Z"⟩, 27) := ⟨⟨by decide +kernel, by decide +kernel⟩, List.mem_of_getElem? (i := 570) (by decide +kernel), List.mem_of_getElem? (i := 727) (by decide +kernel), List.mem_of_getElem? (i := 728) (by decide +kernel)⟩
theorem lw_p51 : lw_okq (⟨"FarStoreModel", "isFree", "(III)Z"⟩, 27) := ⟨⟨by decide +kernel, by decide +kernel⟩, List.mem_of_getElem? (i := 570) (by decide +kernel), List.mem_of_getElem? (i := 731) (by decide +kernel), List.mem_of_getElem? (i := 732) (by decide +kernel)⟩
theorem lw_p52 : lw_okq (⟨"FarStoreModel", "becomes", "(I)V"⟩, 27) := ⟨⟨by decide +kernel, by decide +kernel⟩, List.mem_of_getElem? (i := 570) (by decide +kernel), List.mem_of_getElem? (i := 735) (by decide +kernel), List.mem_of_getElem? (i := 736) (by decide +kernel)⟩
theorem lw_p53 : lw_okq (⟨"FarStoreModel", "comes", "(IIZ)V"⟩, 27) := ⟨⟨by decide +kernel, by decide +kernel⟩, List.mem_of_getElem? (i := 570) (by decide +kernel), List.mem_of_getElem? (i := 739) (by decide +kernel), List.mem_of_getElem? (i := 740) (by decide +kernel)⟩
theorem lw_p54 : lw_okq (⟨"FarStoreModel", "unlock", "(II)V"⟩, 27) := ⟨⟨by decide +kernel, by decide +kernel⟩, List.mem_of_getElem? (i := 570) (by decide +kernel), List.mem_of_getElem? (i := 743) (by decide +kernel), List.mem_of_getElem? (i := 744) (by decide +kernel)⟩
theorem lw_p55 : lw_okq (⟨"FarStoreModel", "send", "(IIII)V"⟩, 27) := ⟨⟨by decide +kernel, by decide +kernel⟩, List.mem_of_getElem? (i := 570) (by decide +kernel), List.mem_of_getElem? (i := 747) (by decide +kernel), List.mem_of_getElem? (i := 748) (by decide +kernel)⟩
theorem lw_p56 : lw_okq (⟨"FarStoreModel", "lock", "(II)V"⟩, 27) := ⟨⟨by decide +kernel, by decide +kernel⟩, List.mem_of_getElem? (i := 570) (by decide +kernel), List.mem_of_getElem? (i := 751) (by decide +kernel), List.mem_of_getElem? (i := 752) (by decide +kernel)⟩
theorem lw_p57 : lw_okq (⟨"FarStoreModel", "writesAt", "(II)Z"⟩, 27) := ⟨⟨by decide +kernel, by decide +kernel⟩, List.mem_of_getElem? (i := 570) (by decide +kernel), List.mem_of_getElem? (i := 755) (by decide +kernel), List.mem_of_getElem? (i := 756) (by decide +kernel)⟩
theorem lw_p58 : lw_okq (⟨"FarStoreModel", "isMessage", "(I)Z"⟩, 27) := ⟨⟨by decide +kernel, by decide +kernel⟩, List.mem_of_getElem? (i := 570) (by decide +kernel), List.mem_of_getElem? (i := 767) (by decide +kernel), List.mem_of_getElem? (i := 768) (by decide +kernel)⟩
theorem lw_p59 : lw_okq (⟨"FarStoreModel", "canCome", "(I)Z"⟩, 27) := ⟨⟨by decide +kernel, by decide +kernel⟩, List.mem_of_getElem? (i := 570) (by decide +kernel), List.mem_of_getElem? (i := 771) (by decide +kernel), List.mem_of_getElem? (i := 772) (by decide +kernel)⟩
theorem lw_p60 : lw_okq (⟨"FarStoreModel", "comesNow", "(I)I"⟩, 27) := ⟨⟨by decide +kernel, by decide +kernel⟩, List.mem_of_getElem? (i := 570) (by decide +kernel), List.mem_of_getElem? (i := 775) (by decide +kernel), List.mem_of_getElem? (i := 776) (by decide +kernel)⟩
theorem lw_p61 : lw_okq (⟨"FarStoreModel", "refused", "(I)V"⟩, 27) := ⟨⟨by decide +kernel, by decide +kernel⟩, List.mem_of_getElem? (i := 570) (by decide +kernel), List.mem_of_getElem? (i := 779) (by decide +kernel), List.mem_of_getElem? (i := 780) (by decide +kernel)⟩
theorem lw_p62 : lw_okq (⟨"FarStoreModel", "isSafe", "(I)Z"⟩, 27) := ⟨⟨by decide +kernel, by decide +kernel⟩, List.mem_of_getElem? (i := 570) (by decide +kernel), List.mem_of_getElem? (i := 796) (by decide +kernel), List.mem_of_getElem? (i := 797) (by decide +kernel)⟩
def lw_privs_4 : List (MethodName × Nat) := [(⟨"FarStoreModel", "has", "(II)Z"⟩, 27), (⟨"FarStoreModel", "plain", "(I)I"⟩, 27), (⟨"FarStoreModel", "areFree", "(II)Z"⟩, 27), (⟨"FarStoreModel", "isFree", "(III)Z"⟩, 27), (⟨"FarStoreModel", "becomes", "(I)V"⟩, 27), (⟨"FarStoreModel", "comes", "(IIZ)V"⟩, 27), (⟨"FarStoreModel", "unlock", "(II)V"⟩, 27), (⟨"FarStoreModel", "send", "(IIII)V"⟩, 27), (⟨"FarStoreModel", "lock", "(II)V"⟩, 27), (⟨"FarStoreModel", "writesAt", "(II)Z"⟩, 27), (⟨"FarStoreModel", "isMessage", "(I)Z"⟩, 27), (⟨"FarStoreModel", "canCome", "(I)Z"⟩, 27), (⟨"FarStoreModel", "comesNow", "(I)I"⟩, 27), (⟨"FarStoreModel", "refused", "(I)V"⟩, 27), (⟨"FarStoreModel", "isSafe", "(I)Z"⟩, 27)]
theorem lw_r4 : ∀ q ∈ lw_privs_4, lw_okq q := List.forall_mem_cons.mpr ⟨lw_p48, List.forall_mem_cons.mpr ⟨lw_p49, List.forall_mem_cons.mpr ⟨lw_p50, List.forall_mem_cons.mpr ⟨lw_p51, List.forall_mem_cons.mpr ⟨lw_p52, List.forall_mem_cons.mpr ⟨lw_p53, List.forall_mem_cons.mpr ⟨lw_p54, List.forall_mem_cons.mpr ⟨lw_p55, List.forall_mem_cons.mpr ⟨lw_p56, List.forall_mem_cons.mpr ⟨lw_p57, List.forall_mem_cons.mpr ⟨lw_p58, List.forall_mem_cons.mpr ⟨lw_p59, List.forall_mem_cons.mpr ⟨lw_p60, List.forall_mem_cons.mpr ⟨lw_p61, List.forall_mem_cons.mpr ⟨lw_p62, fun _ h => absurd h List.not_mem_nil⟩⟩⟩⟩⟩⟩⟩⟩⟩⟩⟩⟩⟩⟩⟩
def lw_privs : List (MethodName × Nat) := lw_privs_1 ++ (lw_privs_2 ++ (lw_privs_3 ++ (lw_privs_4)))
def lw_tbl : List Cond := k2_sels lw_privs ++ tables_1
theorem lw_privs_ok : ∀ q ∈ lw_privs, lw_okq q := by
  show ∀ q ∈ lw_privs_1 ++ (lw_privs_2 ++ (lw_privs_3 ++ (lw_privs_4))), lw_okq q
  exact List.forall_mem_append.mpr ⟨lw_r1, List.forall_mem_append.mpr ⟨lw_r2, List.forall_mem_append.mpr ⟨lw_r3, lw_r4⟩⟩⟩
-- ===== end of PART A; then your names; then what follows =====
end
section
def RX0 : String := "FarStore$Message"
def TX0 : u_T := fun k => match k with
  | 0 => ("FarStore$Message", "what", "I", true)
  | 1 => ("FarStore$Message", "from", "LFarStore$Site;", true)
  | 2 => ("FarStore$Message", "to", "LFarStore$Site;", true)
  | _ => ("FarStore$Message", "about", "LFarStore$Transaction;", true)
def tyX0 : Nat → FieldType := fun k => match k with
  | 0 => .int
  | 1 => .object "FarStore$Site"
  | 2 => .object "FarStore$Site"
  | _ => .object "FarStore$Transaction"
abbrev wsX00 : List Cond := u_ws RX0 TX0 4
theorem nmX0 : ∀ a, a < 4 → ∀ b, b < 4 → a ≠ b → (TX0 a).2.1 ≠ (TX0 b).2.1 := by decide +kernel
theorem tyX0_ok : ∀ k, k < 4 → parseFieldDescriptor (TX0 k).2.2.1 = some (tyX0 k) := by decide +kernel
abbrev cX0_init : ByteArray := prog_2_method_1_code
def yX0_init : MethodName := ⟨RX0, "<init>", "(ILFarStore$Site;LFarStore$Site;LFarStore$Transaction;)V"⟩
abbrev cX0_canCome : ByteArray := prog_2_method_2_code
def yX0_canCome : MethodName := ⟨RX0, "canCome", "()Z"⟩
def RX1 : String := "FarStore$Site"
def TX1 : u_T := fun k => match k with
  | 0 => ("FarStore$Site", "number", "I", true)
  | 1 => ("FarStore$Site", "taken", "[I", true)
  | 2 => ("FarStore$Site", "inOrder", "Ljava/util/ArrayList;", true)
  | _ => ("FarStore$Site", "holders", "[I", true)
def tyX1 : Nat → FieldType := fun k => match k with
  | 0 => .int
  | 1 => .array .int
  | 2 => .object "java/util/ArrayList"
  | _ => .array .int
abbrev wsX10 : List Cond := u_ws RX1 TX1 4
theorem nmX1 : ∀ a, a < 4 → ∀ b, b < 4 → a ≠ b → (TX1 a).2.1 ≠ (TX1 b).2.1 := by decide +kernel
theorem tyX1_ok : ∀ k, k < 4 → parseFieldDescriptor (TX1 k).2.2.1 = some (tyX1 k) := by decide +kernel
abbrev cX1_init : ByteArray := prog_3_method_1_code
def yX1_init : MethodName := ⟨RX1, "<init>", "(I)V"⟩
abbrev cX1_isFree : ByteArray := prog_3_method_2_code
def yX1_isFree : MethodName := ⟨RX1, "isFree", "(LFarStore$Thing;LFarStore$Transaction;)Z"⟩
abbrev cX1_valueOf : ByteArray := prog_3_method_3_code
def yX1_valueOf : MethodName := ⟨RX1, "valueOf", "(LFarStore$Thing;[I)J"⟩
abbrev cX1_countOf : ByteArray := prog_3_method_4_code
def yX1_countOf : MethodName := ⟨RX1, "countOf", "(I[I)J"⟩
abbrev cX1_canTake : ByteArray := prog_3_method_5_code
def yX1_canTake : MethodName := ⟨RX1, "canTake", "(LFarStore$Transaction;)Z"⟩
abbrev cX1_take : ByteArray := prog_3_method_6_code
def yX1_take : MethodName := ⟨RX1, "take", "(LFarStore$Transaction;)V"⟩
abbrev cX1_unlock : ByteArray := prog_3_method_7_code
def yX1_unlock : MethodName := ⟨RX1, "unlock", "(LFarStore$Transaction;)V"⟩
abbrev cX1_howManyLocked : ByteArray := prog_3_method_8_code
def yX1_howManyLocked : MethodName := ⟨RX1, "howManyLocked", "()I"⟩
def RX2 : String := "FarStore$Thing"
def TX2 : u_T := fun k => match k with
  | 0 => ("FarStore$Thing", "number", "I", true)
  | 1 => ("FarStore$Thing", "home", "LFarStore$Site;", true)
  | _ => ("FarStore$Thing", "set", "Z", true)
def tyX2 : Nat → FieldType := fun k => match k with
  | 0 => .int
  | 1 => .object "FarStore$Site"
  | _ => .boolean
abbrev wsX20 : List Cond := u_ws RX2 TX2 3
theorem nmX2 : ∀ a, a < 3 → ∀ b, b < 3 → a ≠ b → (TX2 a).2.1 ≠ (TX2 b).2.1 := by decide +kernel
theorem tyX2_ok : ∀ k, k < 3 → parseFieldDescriptor (TX2 k).2.2.1 = some (tyX2 k) := by decide +kernel
abbrev cX2_init : ByteArray := prog_4_method_1_code
def yX2_init : MethodName := ⟨RX2, "<init>", "(ILFarStore$Site;Z)V"⟩
abbrev cX2_slotOf : ByteArray := prog_4_method_2_code
def yX2_slotOf : MethodName := ⟨RX2, "slotOf", "(I)I"⟩
def RX3 : String := "FarStore$Transaction"
def TX3 : u_T := fun k => match k with
  | 0 => ("FarStore$Transaction", "number", "I", true)
  | 1 => ("FarStore$Transaction", "site", "LFarStore$Site;", true)
  | 2 => ("FarStore$Transaction", "seen", "[I", true)
  | 3 => ("FarStore$Transaction", "wrote", "[Z", true)
  | 4 => ("FarStore$Transaction", "values", "[J", true)
  | 5 => ("FarStore$Transaction", "added", "[J", true)
  | 6 => ("FarStore$Transaction", "dropped", "[Z", true)
  | 7 => ("FarStore$Transaction", "addedAnything", "Z", false)
  | 8 => ("FarStore$Transaction", "plainWritten", "I", false)
  | 9 => ("FarStore$Transaction", "state", "I", false)
  | 10 => ("FarStore$Transaction", "commitNumber", "I", false)
  | 11 => ("FarStore$Transaction", "asks", "I", false)
  | 12 => ("FarStore$Transaction", "yeses", "I", false)
  | _ => ("FarStore$Transaction", "acks", "I", false)
def tyX3 : Nat → FieldType := fun k => match k with
  | 0 => .int
  | 1 => .object "FarStore$Site"
  | 2 => .array .int
  | 3 => .array .boolean
  | 4 => .array .long
  | 5 => .array .long
  | 6 => .array .boolean
  | 7 => .boolean
  | 8 => .int
  | 9 => .int
  | 10 => .int
  | 11 => .int
  | 12 => .int
  | _ => .int
abbrev wsX30 : List Cond := u_ws RX3 TX3 14
theorem nmX3 : ∀ a, a < 14 → ∀ b, b < 14 → a ≠ b → (TX3 a).2.1 ≠ (TX3 b).2.1 := by decide +kernel
theorem tyX3_ok : ∀ k, k < 14 → parseFieldDescriptor (TX3 k).2.2.1 = some (tyX3 k) := by decide +kernel
abbrev cX3_init : ByteArray := prog_5_method_1_code
def yX3_init : MethodName := ⟨RX3, "<init>", "(ILFarStore$Site;)V"⟩
abbrev cX3_put : ByteArray := prog_5_method_2_code
def yX3_put : MethodName := ⟨RX3, "put", "(LFarStore$Thing;J)V"⟩
abbrev cX3_addTo : ByteArray := prog_5_method_3_code
def yX3_addTo : MethodName := ⟨RX3, "addTo", "(II)V"⟩
abbrev cX3_wroteAnything : ByteArray := prog_5_method_4_code
def yX3_wroteAnything : MethodName := ⟨RX3, "wroteAnything", "()Z"⟩
abbrev cX3_hasCommit : ByteArray := prog_5_method_5_code
def yX3_hasCommit : MethodName := ⟨RX3, "hasCommit", "()Z"⟩
abbrev cX3_isWithin : ByteArray := prog_5_method_6_code
def yX3_isWithin : MethodName := ⟨RX3, "isWithin", "([I)Z"⟩
def RX4 : String := "FarStore"
def TX4 : u_T := fun k => match k with
  | 0 => ("FarStore", "places", "[LFarStore$Site;", true)
  | 1 => ("FarStore", "siteCount", "I", false)
  | 2 => ("FarStore", "acksForSafe", "I", false)
  | 3 => ("FarStore", "things", "Ljava/util/ArrayList;", true)
  | 4 => ("FarStore", "transactions", "Ljava/util/ArrayList;", true)
  | _ => ("FarStore", "underWay", "Ljava/util/ArrayList;", true)
def tyX4 : Nat → FieldType := fun k => match k with
  | 0 => .array (.object "FarStore$Site")
  | 1 => .int
  | 2 => .int
  | 3 => .object "java/util/ArrayList"
  | 4 => .object "java/util/ArrayList"
  | _ => .object "java/util/ArrayList"
abbrev wsX40 : List Cond := u_ws RX4 TX4 6
theorem nmX4 : ∀ a, a < 6 → ∀ b, b < 6 → a ≠ b → (TX4 a).2.1 ≠ (TX4 b).2.1 := by decide +kernel
theorem tyX4_ok : ∀ k, k < 6 → parseFieldDescriptor (TX4 k).2.2.1 = some (tyX4 k) := by decide +kernel
abbrev cX4_init : ByteArray := prog_1_method_1_code
def yX4_init : MethodName := ⟨RX4, "<init>", "()V"⟩
abbrev cX4_sites : ByteArray := prog_1_method_2_code
def yX4_sites : MethodName := ⟨RX4, "sites", "(II)I"⟩
abbrev cX4_thing : ByteArray := prog_1_method_3_code
def yX4_thing : MethodName := ⟨RX4, "thing", "(IZ)I"⟩
abbrev cX4_begin : ByteArray := prog_1_method_4_code
def yX4_begin : MethodName := ⟨RX4, "begin", "(I)I"⟩
abbrev cX4_read : ByteArray := prog_1_method_5_code
def yX4_read : MethodName := ⟨RX4, "read", "(II)J"⟩
abbrev cX4_counted : ByteArray := prog_1_method_6_code
def yX4_counted : MethodName := ⟨RX4, "counted", "(III)J"⟩
abbrev cX4_write : ByteArray := prog_1_method_7_code
def yX4_write : MethodName := ⟨RX4, "write", "(IIJ)I"⟩
abbrev cX4_add : ByteArray := prog_1_method_8_code
def yX4_add : MethodName := ⟨RX4, "add", "(IIII)I"⟩
abbrev cX4_commit : ByteArray := prog_1_method_9_code
def yX4_commit : MethodName := ⟨RX4, "commit", "(I)I"⟩
abbrev cX4_abort : ByteArray := prog_1_method_10_code
def yX4_abort : MethodName := ⟨RX4, "abort", "(I)I"⟩
abbrev cX4_deliver : ByteArray := prog_1_method_11_code
def yX4_deliver : MethodName := ⟨RX4, "deliver", "(I)I"⟩
abbrev cX4_all : ByteArray := prog_1_method_12_code
def yX4_all : MethodName := ⟨RX4, "all", "(I)I"⟩
abbrev cX4_message : ByteArray := prog_1_method_13_code
def yX4_message : MethodName := ⟨RX4, "message", "(II)I"⟩
abbrev cX4_told : ByteArray := prog_1_method_14_code
def yX4_told : MethodName := ⟨RX4, "told", "(II)I"⟩
abbrev cX4_start : ByteArray := prog_1_method_15_code
def yX4_start : MethodName := ⟨RX4, "start", "(II)I"⟩
abbrev cX4_had : ByteArray := prog_1_method_16_code
def yX4_had : MethodName := ⟨RX4, "had", "(II)I"⟩
abbrev cX4_latest : ByteArray := prog_1_method_17_code
def yX4_latest : MethodName := ⟨RX4, "latest", "(II)J"⟩
abbrev cX4_sum : ByteArray := prog_1_method_18_code
def yX4_sum : MethodName := ⟨RX4, "sum", "(III)J"⟩
abbrev cX4_locked : ByteArray := prog_1_method_19_code
def yX4_locked : MethodName := ⟨RX4, "locked", "(II)I"⟩
abbrev cX4_sees : ByteArray := prog_1_method_20_code
def yX4_sees : MethodName := ⟨RX4, "sees", "(II)I"⟩
abbrev cX4_calm : ByteArray := prog_1_method_21_code
def yX4_calm : MethodName := ⟨RX4, "calm", "()I"⟩
abbrev cX4_count : ByteArray := prog_1_method_22_code
def yX4_count : MethodName := ⟨RX4, "count", "(I)I"⟩
abbrev cX4_findSite : ByteArray := prog_1_method_23_code
def yX4_findSite : MethodName := ⟨RX4, "findSite", "(I)LFarStore$Site;"⟩
abbrev cX4_findThing : ByteArray := prog_1_method_24_code
def yX4_findThing : MethodName := ⟨RX4, "findThing", "(I)LFarStore$Thing;"⟩
abbrev cX4_findPlain : ByteArray := prog_1_method_25_code
def yX4_findPlain : MethodName := ⟨RX4, "findPlain", "(I)LFarStore$Thing;"⟩
abbrev cX4_findSet : ByteArray := prog_1_method_26_code
def yX4_findSet : MethodName := ⟨RX4, "findSet", "(I)LFarStore$Thing;"⟩
abbrev cX4_findTransaction : ByteArray := prog_1_method_27_code
def yX4_findTransaction : MethodName := ⟨RX4, "findTransaction", "(I)LFarStore$Transaction;"⟩
abbrev cX4_findMessage : ByteArray := prog_1_method_28_code
def yX4_findMessage : MethodName := ⟨RX4, "findMessage", "(I)LFarStore$Message;"⟩
abbrev cX4_isElement : ByteArray := prog_1_method_29_code
def yX4_isElement : MethodName := ⟨RX4, "isElement", "(I)Z"⟩
abbrev cX4_oneIf : ByteArray := prog_1_method_30_code
def yX4_oneIf : MethodName := ⟨RX4, "oneIf", "(Z)I"⟩
abbrev cX4_isPlainOf : ByteArray := prog_1_method_31_code
def yX4_isPlainOf : MethodName := ⟨RX4, "isPlainOf", "(LFarStore$Transaction;LFarStore$Thing;LFarStore$Site;)Z"⟩
abbrev cX4_hasHome : ByteArray := prog_1_method_32_code
def yX4_hasHome : MethodName := ⟨RX4, "hasHome", "(LFarStore$Transaction;LFarStore$Site;)Z"⟩
abbrev cX4_hasHomesElsewhere : ByteArray := prog_1_method_33_code
def yX4_hasHomesElsewhere : MethodName := ⟨RX4, "hasHomesElsewhere", "(LFarStore$Transaction;)Z"⟩
abbrev cX4_allFree : ByteArray := prog_1_method_34_code
def yX4_allFree : MethodName := ⟨RX4, "allFree", "(LFarStore$Transaction;LFarStore$Site;)Z"⟩
abbrev cX4_lockThings : ByteArray := prog_1_method_35_code
def yX4_lockThings : MethodName := ⟨RX4, "lockThings", "(LFarStore$Transaction;LFarStore$Site;)V"⟩
abbrev cX4_tellHomes : ByteArray := prog_1_method_36_code
def yX4_tellHomes : MethodName := ⟨RX4, "tellHomes", "(LFarStore$Transaction;I)I"⟩
abbrev cX4_tellOthers : ByteArray := prog_1_method_37_code
def yX4_tellOthers : MethodName := ⟨RX4, "tellOthers", "(LFarStore$Transaction;I)V"⟩
abbrev cX4_post : ByteArray := prog_1_method_38_code
def yX4_post : MethodName := ⟨RX4, "post", "(ILFarStore$Site;LFarStore$Site;LFarStore$Transaction;)V"⟩
abbrev cX4_makeCommitted : ByteArray := prog_1_method_39_code
def yX4_makeCommitted : MethodName := ⟨RX4, "makeCommitted", "(LFarStore$Transaction;)V"⟩
abbrev cX4_firstThatCanCome : ByteArray := prog_1_method_40_code
def yX4_firstThatCanCome : MethodName := ⟨RX4, "firstThatCanCome", "()I"⟩
abbrev cX4_receive : ByteArray := prog_1_method_41_code
def yX4_receive : MethodName := ⟨RX4, "receive", "(LFarStore$Message;)V"⟩
abbrev cX4_receiveAsk : ByteArray := prog_1_method_42_code
def yX4_receiveAsk : MethodName := ⟨RX4, "receiveAsk", "(LFarStore$Message;)V"⟩
abbrev cX4_receiveYes : ByteArray := prog_1_method_43_code
def yX4_receiveYes : MethodName := ⟨RX4, "receiveYes", "(LFarStore$Transaction;)V"⟩
abbrev cX4_receiveNo : ByteArray := prog_1_method_44_code
def yX4_receiveNo : MethodName := ⟨RX4, "receiveNo", "(LFarStore$Transaction;)V"⟩
abbrev cX4_receiveDrop : ByteArray := prog_1_method_45_code
def yX4_receiveDrop : MethodName := ⟨RX4, "receiveDrop", "(LFarStore$Message;)V"⟩
abbrev cX4_receiveSend : ByteArray := prog_1_method_46_code
def yX4_receiveSend : MethodName := ⟨RX4, "receiveSend", "(LFarStore$Message;)V"⟩
abbrev cX4_isSafe : ByteArray := prog_1_method_47_code
def yX4_isSafe : MethodName := ⟨RX4, "isSafe", "(LFarStore$Transaction;)Z"⟩
abbrev cX4_isEverywhere : ByteArray := prog_1_method_48_code
def yX4_isEverywhere : MethodName := ⟨RX4, "isEverywhere", "(LFarStore$Transaction;)Z"⟩
abbrev cX4_howManyAre : ByteArray := prog_1_method_49_code
def yX4_howManyAre : MethodName := ⟨RX4, "howManyAre", "(I)I"⟩
abbrev cX4_howManyCommits : ByteArray := prog_1_method_50_code
def yX4_howManyCommits : MethodName := ⟨RX4, "howManyCommits", "()I"⟩
abbrev cX4_howManyLocks : ByteArray := prog_1_method_51_code
def yX4_howManyLocks : MethodName := ⟨RX4, "howManyLocks", "()I"⟩
abbrev cX4_howManySafe : ByteArray := prog_1_method_52_code
def yX4_howManySafe : MethodName := ⟨RX4, "howManySafe", "()I"⟩
def RX5 : String := "FarStoreModel"
def TX5 : u_T := fun k => match k with
  | 0 => ("FarStoreModel", "n", "I", false)
  | 1 => ("FarStoreModel", "f", "I", false)
  | 2 => ("FarStoreModel", "things", "I", false)
  | 3 => ("FarStoreModel", "homes", "[I", true)
  | 4 => ("FarStoreModel", "sets", "[Z", true)
  | 5 => ("FarStoreModel", "many", "I", false)
  | 6 => ("FarStoreModel", "sites", "[I", true)
  | 7 => ("FarStoreModel", "states", "[I", true)
  | 8 => ("FarStoreModel", "starts", "[I", true)
  | 9 => ("FarStoreModel", "commits", "[I", true)
  | 10 => ("FarStoreModel", "acks", "[I", true)
  | 11 => ("FarStoreModel", "yes", "[I", true)
  | 12 => ("FarStoreModel", "asks", "[I", true)
  | 13 => ("FarStoreModel", "dropped", "[Z", true)
  | 14 => ("FarStoreModel", "wrote", "[Z", true)
  | 15 => ("FarStoreModel", "written", "[J", true)
  | 16 => ("FarStoreModel", "added", "[Z", true)
  | 17 => ("FarStoreModel", "more", "[J", true)
  | 18 => ("FarStoreModel", "hads", "[I", true)
  | 19 => ("FarStoreModel", "came", "[I", true)
  | 20 => ("FarStoreModel", "cameMany", "[I", true)
  | 21 => ("FarStoreModel", "locks", "[I", true)
  | 22 => ("FarStoreModel", "messages", "I", false)
  | 23 => ("FarStoreModel", "mKind", "[I", true)
  | 24 => ("FarStoreModel", "mTo", "[I", true)
  | 25 => ("FarStoreModel", "mFrom", "[I", true)
  | _ => ("FarStoreModel", "mOf", "[I", true)
def tyX5 : Nat → FieldType := fun k => match k with
  | 0 => .int
  | 1 => .int
  | 2 => .int
  | 3 => .array .int
  | 4 => .array .boolean
  | 5 => .int
  | 6 => .array .int
  | 7 => .array .int
  | 8 => .array .int
  | 9 => .array .int
  | 10 => .array .int
  | 11 => .array .int
  | 12 => .array .int
  | 13 => .array .boolean
  | 14 => .array .boolean
  | 15 => .array .long
  | 16 => .array .boolean
  | 17 => .array .long
  | 18 => .array .int
  | 19 => .array .int
  | 20 => .array .int
  | 21 => .array .int
  | 22 => .int
  | 23 => .array .int
  | 24 => .array .int
  | 25 => .array .int
  | _ => .array .int
abbrev wsX50 : List Cond := u_ws RX5 TX5 27
theorem nmX5 : ∀ a, a < 27 → ∀ b, b < 27 → a ≠ b → (TX5 a).2.1 ≠ (TX5 b).2.1 := by decide +kernel
theorem tyX5_ok : ∀ k, k < 27 → parseFieldDescriptor (TX5 k).2.2.1 = some (tyX5 k) := by decide +kernel
abbrev cX5_init : ByteArray := prog_7_method_1_code
def yX5_init : MethodName := ⟨RX5, "<init>", "()V"⟩
abbrev cX5_in : ByteArray := prog_7_method_3_code
def yX5_in : MethodName := ⟨RX5, "in", "(JJJ)Z"⟩
abbrev cX5_isSite : ByteArray := prog_7_method_4_code
def yX5_isSite : MethodName := ⟨RX5, "isSite", "(I)Z"⟩
abbrev cX5_isThing : ByteArray := prog_7_method_5_code
def yX5_isThing : MethodName := ⟨RX5, "isThing", "(I)Z"⟩
abbrev cX5_is : ByteArray := prog_7_method_6_code
def yX5_is : MethodName := ⟨RX5, "is", "(I)Z"⟩
abbrev cX5_sites : ByteArray := prog_7_method_7_code
def yX5_sites : MethodName := ⟨RX5, "sites", "(II)I"⟩
abbrev cX5_thing : ByteArray := prog_7_method_8_code
def yX5_thing : MethodName := ⟨RX5, "thing", "(IZ)I"⟩
abbrev cX5_begin : ByteArray := prog_7_method_9_code
def yX5_begin : MethodName := ⟨RX5, "begin", "(I)I"⟩
abbrev cX5_has : ByteArray := prog_7_method_10_code
def yX5_has : MethodName := ⟨RX5, "has", "(II)Z"⟩
abbrev cX5_read : ByteArray := prog_7_method_11_code
def yX5_read : MethodName := ⟨RX5, "read", "(II)J"⟩
abbrev cX5_isElement : ByteArray := prog_7_method_12_code
def yX5_isElement : MethodName := ⟨RX5, "isElement", "(I)Z"⟩
abbrev cX5_counted : ByteArray := prog_7_method_13_code
def yX5_counted : MethodName := ⟨RX5, "counted", "(III)J"⟩
abbrev cX5_latest : ByteArray := prog_7_method_14_code
def yX5_latest : MethodName := ⟨RX5, "latest", "(II)J"⟩
abbrev cX5_sum : ByteArray := prog_7_method_15_code
def yX5_sum : MethodName := ⟨RX5, "sum", "(III)J"⟩
abbrev cX5_plain : ByteArray := prog_7_method_16_code
def yX5_plain : MethodName := ⟨RX5, "plain", "(I)I"⟩
abbrev cX5_write : ByteArray := prog_7_method_17_code
def yX5_write : MethodName := ⟨RX5, "write", "(IIJ)I"⟩
abbrev cX5_add : ByteArray := prog_7_method_18_code
def yX5_add : MethodName := ⟨RX5, "add", "(IIII)I"⟩
abbrev cX5_send : ByteArray := prog_7_method_19_code
def yX5_send : MethodName := ⟨RX5, "send", "(IIII)V"⟩
abbrev cX5_isFree : ByteArray := prog_7_method_20_code
def yX5_isFree : MethodName := ⟨RX5, "isFree", "(III)Z"⟩
abbrev cX5_areFree : ByteArray := prog_7_method_21_code
def yX5_areFree : MethodName := ⟨RX5, "areFree", "(II)Z"⟩
abbrev cX5_lock : ByteArray := prog_7_method_22_code
def yX5_lock : MethodName := ⟨RX5, "lock", "(II)V"⟩
abbrev cX5_unlock : ByteArray := prog_7_method_23_code
def yX5_unlock : MethodName := ⟨RX5, "unlock", "(II)V"⟩
abbrev cX5_writesAt : ByteArray := prog_7_method_24_code
def yX5_writesAt : MethodName := ⟨RX5, "writesAt", "(II)Z"⟩
abbrev cX5_comes : ByteArray := prog_7_method_25_code
def yX5_comes : MethodName := ⟨RX5, "comes", "(IIZ)V"⟩
abbrev cX5_becomes : ByteArray := prog_7_method_26_code
def yX5_becomes : MethodName := ⟨RX5, "becomes", "(I)V"⟩
abbrev cX5_commit : ByteArray := prog_7_method_27_code
def yX5_commit : MethodName := ⟨RX5, "commit", "(I)I"⟩
abbrev cX5_abort : ByteArray := prog_7_method_28_code
def yX5_abort : MethodName := ⟨RX5, "abort", "(I)I"⟩
abbrev cX5_isMessage : ByteArray := prog_7_method_29_code
def yX5_isMessage : MethodName := ⟨RX5, "isMessage", "(I)Z"⟩
abbrev cX5_canCome : ByteArray := prog_7_method_30_code
def yX5_canCome : MethodName := ⟨RX5, "canCome", "(I)Z"⟩
abbrev cX5_comesNow : ByteArray := prog_7_method_31_code
def yX5_comesNow : MethodName := ⟨RX5, "comesNow", "(I)I"⟩
abbrev cX5_refused : ByteArray := prog_7_method_32_code
def yX5_refused : MethodName := ⟨RX5, "refused", "(I)V"⟩
abbrev cX5_deliver : ByteArray := prog_7_method_33_code
def yX5_deliver : MethodName := ⟨RX5, "deliver", "(I)I"⟩
abbrev cX5_all : ByteArray := prog_7_method_34_code
def yX5_all : MethodName := ⟨RX5, "all", "(I)I"⟩
abbrev cX5_message : ByteArray := prog_7_method_35_code
def yX5_message : MethodName := ⟨RX5, "message", "(II)I"⟩
abbrev cX5_isSafe : ByteArray := prog_7_method_36_code
def yX5_isSafe : MethodName := ⟨RX5, "isSafe", "(I)Z"⟩
abbrev cX5_told : ByteArray := prog_7_method_37_code
def yX5_told : MethodName := ⟨RX5, "told", "(II)I"⟩
abbrev cX5_start : ByteArray := prog_7_method_38_code
def yX5_start : MethodName := ⟨RX5, "start", "(II)I"⟩
abbrev cX5_had : ByteArray := prog_7_method_39_code
def yX5_had : MethodName := ⟨RX5, "had", "(II)I"⟩
abbrev cX5_locked : ByteArray := prog_7_method_40_code
def yX5_locked : MethodName := ⟨RX5, "locked", "(II)I"⟩
abbrev cX5_sees : ByteArray := prog_7_method_41_code
def yX5_sees : MethodName := ⟨RX5, "sees", "(II)I"⟩
abbrev cX5_calm : ByteArray := prog_7_method_42_code
def yX5_calm : MethodName := ⟨RX5, "calm", "()I"⟩
abbrev cX5_count : ByteArray := prog_7_method_43_code
def yX5_count : MethodName := ⟨RX5, "count", "(I)I"⟩
def RJx145de : String := "java/io/Serializable"
def TJx145de : u_T := fun k => match k with
  | _ => ("", "", "", false)
def tyJx145de : Nat → FieldType := fun k => match k with
  | _ => .int
abbrev wsJx145de0 : List Cond := u_ws RJx145de TJx145de 0
theorem nmJx145de : ∀ a, a < 0 → ∀ b, b < 0 → a ≠ b → (TJx145de a).2.1 ≠ (TJx145de b).2.1 := by decide +kernel
theorem tyJx145de_ok : ∀ k, k < 0 → parseFieldDescriptor (TJx145de k).2.2.1 = some (tyJx145de k) := by decide +kernel
def RJx8e188 : String := "java/lang/Cloneable"
def TJx8e188 : u_T := fun k => match k with
  | _ => ("", "", "", false)
def tyJx8e188 : Nat → FieldType := fun k => match k with
  | _ => .int
abbrev wsJx8e1880 : List Cond := u_ws RJx8e188 TJx8e188 0
theorem nmJx8e188 : ∀ a, a < 0 → ∀ b, b < 0 → a ≠ b → (TJx8e188 a).2.1 ≠ (TJx8e188 b).2.1 := by decide +kernel
theorem tyJx8e188_ok : ∀ k, k < 0 → parseFieldDescriptor (TJx8e188 k).2.2.1 = some (tyJx8e188 k) := by decide +kernel
def RJxab1ab : String := "java/lang/Iterable"
def TJxab1ab : u_T := fun k => match k with
  | _ => ("", "", "", false)
def tyJxab1ab : Nat → FieldType := fun k => match k with
  | _ => .int
abbrev wsJxab1ab0 : List Cond := u_ws RJxab1ab TJxab1ab 0
theorem nmJxab1ab : ∀ a, a < 0 → ∀ b, b < 0 → a ≠ b → (TJxab1ab a).2.1 ≠ (TJxab1ab b).2.1 := by decide +kernel
theorem tyJxab1ab_ok : ∀ k, k < 0 → parseFieldDescriptor (TJxab1ab k).2.2.1 = some (tyJxab1ab k) := by decide +kernel
def RJ9 : String := "java/lang/Math"
def TJ9 : u_T := fun k => match k with
  | _ => ("", "", "", false)
def tyJ9 : Nat → FieldType := fun k => match k with
  | _ => .int
abbrev wsJ90 : List Cond := u_ws RJ9 TJ9 0
theorem nmJ9 : ∀ a, a < 0 → ∀ b, b < 0 → a ≠ b → (TJ9 a).2.1 ≠ (TJ9 b).2.1 := by decide +kernel
theorem tyJ9_ok : ∀ k, k < 0 → parseFieldDescriptor (TJ9 k).2.2.1 = some (tyJ9 k) := by decide +kernel
abbrev cJ9_max_7cf53 : ByteArray := prog_11_method_65_code
def yJ9_max_7cf53 : MethodName := ⟨RJ9, "max", "(II)I"⟩
abbrev cJ9_min_7cf53 : ByteArray := prog_11_method_69_code
def yJ9_min_7cf53 : MethodName := ⟨RJ9, "min", "(II)I"⟩
def RJ10 : String := "java/lang/System"
def TJ10 : u_T := fun k => match k with
  | _ => ("", "", "", false)
def tyJ10 : Nat → FieldType := fun k => match k with
  | _ => .int
abbrev wsJ100 : List Cond := u_ws RJ10 TJ10 0
theorem nmJ10 : ∀ a, a < 0 → ∀ b, b < 0 → a ≠ b → (TJ10 a).2.1 ≠ (TJ10 b).2.1 := by decide +kernel
theorem tyJ10_ok : ∀ k, k < 0 → parseFieldDescriptor (TJ10 k).2.2.1 = some (tyJ10 k) := by decide +kernel
def RJxa1e45 : String := "java/util/AbstractCollection"
def TJxa1e45 : u_T := fun k => match k with
  | _ => ("", "", "", false)
def tyJxa1e45 : Nat → FieldType := fun k => match k with
  | _ => .int
abbrev wsJxa1e450 : List Cond := u_ws RJxa1e45 TJxa1e45 0
theorem nmJxa1e45 : ∀ a, a < 0 → ∀ b, b < 0 → a ≠ b → (TJxa1e45 a).2.1 ≠ (TJxa1e45 b).2.1 := by decide +kernel
theorem tyJxa1e45_ok : ∀ k, k < 0 → parseFieldDescriptor (TJxa1e45 k).2.2.1 = some (tyJxa1e45 k) := by decide +kernel
abbrev cJxa1e45_init_da8c8 : ByteArray := prog_13_method_1_code
def yJxa1e45_init_da8c8 : MethodName := ⟨RJxa1e45, "<init>", "()V"⟩
def RJxc12de : String := "java/util/AbstractList"
def TJxc12de : u_T := fun k => match k with
  | _ => ("", "", "", false)
def tyJxc12de : Nat → FieldType := fun k => match k with
  | _ => .int
abbrev wsJxc12de0 : List Cond := u_ws RJxc12de TJxc12de 0
theorem nmJxc12de : ∀ a, a < 0 → ∀ b, b < 0 → a ≠ b → (TJxc12de a).2.1 ≠ (TJxc12de b).2.1 := by decide +kernel
theorem tyJxc12de_ok : ∀ k, k < 0 → parseFieldDescriptor (TJxc12de k).2.2.1 = some (tyJxc12de k) := by decide +kernel
abbrev cJxc12de_init_da8c8 : ByteArray := prog_14_method_1_code
def yJxc12de_init_da8c8 : MethodName := ⟨RJxc12de, "<init>", "()V"⟩
def RJx4a65c : String := "java/util/ArrayList"
def TJx4a65c : u_T := fun k => match k with
  | 0 => ("java/util/AbstractList", "modCount", "I", false)
  | 1 => ("java/util/ArrayList", "elementData", "[Ljava/lang/Object;", false)
  | _ => ("java/util/ArrayList", "size", "I", false)
def tyJx4a65c : Nat → FieldType := fun k => match k with
  | 0 => .int
  | 1 => .array (.object "java/lang/Object")
  | _ => .int
abbrev wsJx4a65c0 : List Cond := u_ws RJx4a65c TJx4a65c 3
theorem nmJx4a65c : ∀ a, a < 3 → ∀ b, b < 3 → a ≠ b → (TJx4a65c a).2.1 ≠ (TJx4a65c b).2.1 := by decide +kernel
theorem tyJx4a65c_ok : ∀ k, k < 3 → parseFieldDescriptor (TJx4a65c k).2.2.1 = some (tyJx4a65c k) := by decide +kernel
abbrev cJx4a65c_init_da8c8 : ByteArray := prog_15_method_2_code
def yJx4a65c_init_da8c8 : MethodName := ⟨RJx4a65c, "<init>", "()V"⟩
abbrev cJx4a65c_grow_92f84 : ByteArray := prog_15_method_6_code
def yJx4a65c_grow_92f84 : MethodName := ⟨RJx4a65c, "grow", "(I)[Ljava/lang/Object;"⟩
abbrev cJx4a65c_grow_d5877 : ByteArray := prog_15_method_7_code
def yJx4a65c_grow_d5877 : MethodName := ⟨RJx4a65c, "grow", "()[Ljava/lang/Object;"⟩
abbrev cJx4a65c_size_8abf5 : ByteArray := prog_15_method_8_code
def yJx4a65c_size_8abf5 : MethodName := ⟨RJx4a65c, "size", "()I"⟩
abbrev cJx4a65c_isEmpty_aae02 : ByteArray := prog_15_method_9_code
def yJx4a65c_isEmpty_aae02 : MethodName := ⟨RJx4a65c, "isEmpty", "()Z"⟩
abbrev cJx4a65c_elementData_915e3 : ByteArray := prog_15_method_18_code
def yJx4a65c_elementData_915e3 : MethodName := ⟨RJx4a65c, "elementData", "(I)Ljava/lang/Object;"⟩
abbrev cJx4a65c_get_915e3 : ByteArray := prog_15_method_20_code
def yJx4a65c_get_915e3 : MethodName := ⟨RJx4a65c, "get", "(I)Ljava/lang/Object;"⟩
abbrev cJx4a65c_add_72be8 : ByteArray := prog_15_method_24_code
def yJx4a65c_add_72be8 : MethodName := ⟨RJx4a65c, "add", "(Ljava/lang/Object;[Ljava/lang/Object;I)V"⟩
abbrev cJx4a65c_add_9ea2d : ByteArray := prog_15_method_25_code
def yJx4a65c_add_9ea2d : MethodName := ⟨RJx4a65c, "add", "(Ljava/lang/Object;)Z"⟩
abbrev cJx4a65c_remove_915e3 : ByteArray := prog_15_method_29_code
def yJx4a65c_remove_915e3 : MethodName := ⟨RJx4a65c, "remove", "(I)Ljava/lang/Object;"⟩
abbrev cJx4a65c_fastRemove_b59b0 : ByteArray := prog_15_method_39_code
def yJx4a65c_fastRemove_b59b0 : MethodName := ⟨RJx4a65c, "fastRemove", "([Ljava/lang/Object;I)V"⟩
def RJ7 : String := "java/util/Arrays"
def TJ7 : u_T := fun k => match k with
  | _ => ("", "", "", false)
def tyJ7 : Nat → FieldType := fun k => match k with
  | _ => .int
abbrev wsJ70 : List Cond := u_ws RJ7 TJ7 0
theorem nmJ7 : ∀ a, a < 0 → ∀ b, b < 0 → a ≠ b → (TJ7 a).2.1 ≠ (TJ7 b).2.1 := by decide +kernel
theorem tyJ7_ok : ∀ k, k < 0 → parseFieldDescriptor (TJ7 k).2.2.1 = some (tyJ7 k) := by decide +kernel
abbrev cJ7_fill_53178 : ByteArray := prog_16_method_103_code
def yJ7_fill_53178 : MethodName := ⟨RJ7, "fill", "([II)V"⟩
abbrev cJ7_copyOf_1904c : ByteArray := prog_16_method_119_code
def yJ7_copyOf_1904c : MethodName := ⟨RJ7, "copyOf", "([Ljava/lang/Object;I)[Ljava/lang/Object;"⟩
abbrev cJ7_copyOf_6403c : ByteArray := prog_16_method_120_code
def yJ7_copyOf_6403c : MethodName := ⟨RJ7, "copyOf", "([Ljava/lang/Object;ILjava/lang/Class;)[Ljava/lang/Object;"⟩
def RJx5ef63 : String := "java/util/Collection"
def TJx5ef63 : u_T := fun k => match k with
  | _ => ("", "", "", false)
def tyJx5ef63 : Nat → FieldType := fun k => match k with
  | _ => .int
abbrev wsJx5ef630 : List Cond := u_ws RJx5ef63 TJx5ef63 0
theorem nmJx5ef63 : ∀ a, a < 0 → ∀ b, b < 0 → a ≠ b → (TJx5ef63 a).2.1 ≠ (TJx5ef63 b).2.1 := by decide +kernel
theorem tyJx5ef63_ok : ∀ k, k < 0 → parseFieldDescriptor (TJx5ef63 k).2.2.1 = some (tyJx5ef63 k) := by decide +kernel
def RJxbd725 : String := "java/util/List"
def TJxbd725 : u_T := fun k => match k with
  | _ => ("", "", "", false)
def tyJxbd725 : Nat → FieldType := fun k => match k with
  | _ => .int
abbrev wsJxbd7250 : List Cond := u_ws RJxbd725 TJxbd725 0
theorem nmJxbd725 : ∀ a, a < 0 → ∀ b, b < 0 → a ≠ b → (TJxbd725 a).2.1 ≠ (TJxbd725 b).2.1 := by decide +kernel
theorem tyJxbd725_ok : ∀ k, k < 0 → parseFieldDescriptor (TJxbd725 k).2.2.1 = some (tyJxbd725 k) := by decide +kernel
def RJ15 : String := "java/util/Objects"
def TJ15 : u_T := fun k => match k with
  | _ => ("", "", "", false)
def tyJ15 : Nat → FieldType := fun k => match k with
  | _ => .int
abbrev wsJ150 : List Cond := u_ws RJ15 TJ15 0
theorem nmJ15 : ∀ a, a < 0 → ∀ b, b < 0 → a ≠ b → (TJ15 a).2.1 ≠ (TJ15 b).2.1 := by decide +kernel
theorem tyJ15_ok : ∀ k, k < 0 → parseFieldDescriptor (TJ15 k).2.2.1 = some (tyJ15 k) := by decide +kernel
abbrev cJ15_checkIndex_7cf53 : ByteArray := prog_19_method_17_code
def yJ15_checkIndex_7cf53 : MethodName := ⟨RJ15, "checkIndex", "(II)I"⟩
def RJxf0a74 : String := "java/util/RandomAccess"
def TJxf0a74 : u_T := fun k => match k with
  | _ => ("", "", "", false)
def tyJxf0a74 : Nat → FieldType := fun k => match k with
  | _ => .int
abbrev wsJxf0a740 : List Cond := u_ws RJxf0a74 TJxf0a74 0
theorem nmJxf0a74 : ∀ a, a < 0 → ∀ b, b < 0 → a ≠ b → (TJxf0a74 a).2.1 ≠ (TJxf0a74 b).2.1 := by decide +kernel
theorem tyJxf0a74_ok : ∀ k, k < 0 → parseFieldDescriptor (TJxf0a74 k).2.2.1 = some (tyJxf0a74 k) := by decide +kernel
def RJxa66e6 : String := "java/util/SequencedCollection"
def TJxa66e6 : u_T := fun k => match k with
  | _ => ("", "", "", false)
def tyJxa66e6 : Nat → FieldType := fun k => match k with
  | _ => .int
abbrev wsJxa66e60 : List Cond := u_ws RJxa66e6 TJxa66e6 0
theorem nmJxa66e6 : ∀ a, a < 0 → ∀ b, b < 0 → a ≠ b → (TJxa66e6 a).2.1 ≠ (TJxa66e6 b).2.1 := by decide +kernel
theorem tyJxa66e6_ok : ∀ k, k < 0 → parseFieldDescriptor (TJxa66e6 k).2.2.1 = some (tyJxa66e6 k) := by decide +kernel
def RJ8 : String := "jdk/internal/util/ArraysSupport"
def TJ8 : u_T := fun k => match k with
  | _ => ("", "", "", false)
def tyJ8 : Nat → FieldType := fun k => match k with
  | _ => .int
abbrev wsJ80 : List Cond := u_ws RJ8 TJ8 0
theorem nmJ8 : ∀ a, a < 0 → ∀ b, b < 0 → a ≠ b → (TJ8 a).2.1 ≠ (TJ8 b).2.1 := by decide +kernel
theorem tyJ8_ok : ∀ k, k < 0 → parseFieldDescriptor (TJ8 k).2.2.1 = some (tyJ8 k) := by decide +kernel
abbrev cJ8_newLength_cabcc : ByteArray := prog_22_method_27_code
def yJ8_newLength_cabcc : MethodName := ⟨RJ8, "newLength", "(III)I"⟩
abbrev cJ8_hugeLength_7cf53 : ByteArray := prog_22_method_28_code
def yJ8_hugeLength_7cf53 : MethodName := ⟨RJ8, "hugeLength", "(II)I"⟩
def RJ3 : String := "jdk/internal/util/Preconditions"
def TJ3 : u_T := fun k => match k with
  | _ => ("", "", "", false)
def tyJ3 : Nat → FieldType := fun k => match k with
  | _ => .int
abbrev wsJ30 : List Cond := u_ws RJ3 TJ3 0
theorem nmJ3 : ∀ a, a < 0 → ∀ b, b < 0 → a ≠ b → (TJ3 a).2.1 ≠ (TJ3 b).2.1 := by decide +kernel
theorem tyJ3_ok : ∀ k, k < 0 → parseFieldDescriptor (TJ3 k).2.2.1 = some (tyJ3 k) := by decide +kernel
abbrev cJ3_checkIndex_8e157 : ByteArray := prog_23_method_11_code
def yJ3_checkIndex_8e157 : MethodName := ⟨RJ3, "checkIndex", "(IILjava/util/function/BiFunction;)I"⟩
def RL : String := "FarStoreLaw"
abbrev cL_law : ByteArray := code
def yL_law : MethodName := ⟨RL, "law", "([I)Z"⟩
abbrev vwCl : List vw_C := [(RJx4a65c, TJx4a65c, 3), (RX0, TX0, 4), (RX1, TX1, 4), (RX2, TX2, 3), (RX3, TX3, 14), (RX4, TX4, 6), (RX5, TX5, 27)]
end
section
theorem dX0_init_0 : decode cX0_init 0 = .ok (.aload_n 0, 1) := by decide +kernel
theorem dX0_init_1 : decode cX0_init 1 = .ok (.invokespecial 3, 3) := by decide +kernel
theorem dX0_init_4 : decode cX0_init 4 = .ok (.aload_n 0, 1) := by decide +kernel
theorem dX0_init_5 : decode cX0_init 5 = .ok (.iload_n 1, 1) := by decide +kernel
theorem dX0_init_6 : decode cX0_init 6 = .ok (.putfield 9, 3) := by decide +kernel
theorem dX0_init_9 : decode cX0_init 9 = .ok (.aload_n 0, 1) := by decide +kernel
theorem dX0_init_10 : decode cX0_init 10 = .ok (.aload_n 2, 1) := by decide +kernel
theorem dX0_init_11 : decode cX0_init 11 = .ok (.putfield 15, 3) := by decide +kernel
theorem dX0_init_14 : decode cX0_init 14 = .ok (.aload_n 0, 1) := by decide +kernel
theorem dX0_init_15 : decode cX0_init 15 = .ok (.aload_n 3, 1) := by decide +kernel
theorem dX0_init_16 : decode cX0_init 16 = .ok (.putfield 19, 3) := by decide +kernel
theorem dX0_init_19 : decode cX0_init 19 = .ok (.aload_n 0, 1) := by decide +kernel
theorem dX0_init_20 : decode cX0_init 20 = .ok (.aload 4, 2) := by decide +kernel
theorem dX0_init_22 : decode cX0_init 22 = .ok (.putfield 22, 3) := by decide +kernel
theorem dX0_init_25 : decode cX0_init 25 = .ok (.return_, 1) := by decide +kernel
theorem dX0_canCome_0 : decode cX0_canCome 0 = .ok (.aload_n 0, 1) := by decide +kernel
theorem dX0_canCome_1 : decode cX0_canCome 1 = .ok (.getfield 9, 3) := by decide +kernel
theorem dX0_canCome_4 : decode cX0_canCome 4 = .ok (.iconst 4, 1) := by decide +kernel
theorem dX0_canCome_5 : decode cX0_canCome 5 = .ok (.if_icmp .ne 17, 3) := by decide +kernel
theorem dX0_canCome_8 : decode cX0_canCome 8 = .ok (.aload_n 0, 1) := by decide +kernel
theorem dX0_canCome_9 : decode cX0_canCome 9 = .ok (.getfield 19, 3) := by decide +kernel
theorem dX0_canCome_12 : decode cX0_canCome 12 = .ok (.aload_n 0, 1) := by decide +kernel
theorem dX0_canCome_13 : decode cX0_canCome 13 = .ok (.getfield 22, 3) := by decide +kernel
theorem dX0_canCome_16 : decode cX0_canCome 16 = .ok (.invokevirtual 26, 3) := by decide +kernel
theorem dX0_canCome_19 : decode cX0_canCome 19 = .ok (.ifCond .eq 7, 3) := by decide +kernel
theorem dX0_canCome_22 : decode cX0_canCome 22 = .ok (.iconst 1, 1) := by decide +kernel
theorem dX0_canCome_23 : decode cX0_canCome 23 = .ok (.goto 4, 3) := by decide +kernel
theorem dX0_canCome_26 : decode cX0_canCome 26 = .ok (.iconst 0, 1) := by decide +kernel
theorem dX0_canCome_27 : decode cX0_canCome 27 = .ok (.ireturn, 1) := by decide +kernel
theorem dX1_init_0 : decode cX1_init 0 = .ok (.aload_n 0, 1) := by decide +kernel
theorem dX1_init_1 : decode cX1_init 1 = .ok (.invokespecial 3, 3) := by decide +kernel
theorem dX1_init_4 : decode cX1_init 4 = .ok (.aload_n 0, 1) := by decide +kernel
theorem dX1_init_5 : decode cX1_init 5 = .ok (.iconst 4, 1) := by decide +kernel
theorem dX1_init_6 : decode cX1_init 6 = .ok (.newarray .int, 2) := by decide +kernel
theorem dX1_init_8 : decode cX1_init 8 = .ok (.putfield 9, 3) := by decide +kernel
theorem dX1_init_11 : decode cX1_init 11 = .ok (.aload_n 0, 1) := by decide +kernel
theorem dX1_init_12 : decode cX1_init 12 = .ok (.new 15, 3) := by decide +kernel
theorem dX1_init_15 : decode cX1_init 15 = .ok (.dup, 1) := by decide +kernel
theorem dX1_init_16 : decode cX1_init 16 = .ok (.invokespecial 17, 3) := by decide +kernel
theorem dX1_init_19 : decode cX1_init 19 = .ok (.putfield 18, 3) := by decide +kernel
theorem dX1_init_22 : decode cX1_init 22 = .ok (.aload_n 0, 1) := by decide +kernel
theorem dX1_init_23 : decode cX1_init 23 = .ok (.bipush 12, 2) := by decide +kernel
theorem dX1_init_25 : decode cX1_init 25 = .ok (.newarray .int, 2) := by decide +kernel
theorem dX1_init_27 : decode cX1_init 27 = .ok (.putfield 22, 3) := by decide +kernel
theorem dX1_init_30 : decode cX1_init 30 = .ok (.aload_n 0, 1) := by decide +kernel
theorem dX1_init_31 : decode cX1_init 31 = .ok (.iload_n 1, 1) := by decide +kernel
theorem dX1_init_32 : decode cX1_init 32 = .ok (.putfield 25, 3) := by decide +kernel
theorem dX1_init_35 : decode cX1_init 35 = .ok (.aload_n 0, 1) := by decide +kernel
theorem dX1_init_36 : decode cX1_init 36 = .ok (.getfield 22, 3) := by decide +kernel
theorem dX1_init_39 : decode cX1_init 39 = .ok (.bipush (-4), 2) := by decide +kernel
theorem dX1_init_41 : decode cX1_init 41 = .ok (.invokestatic 29, 3) := by decide +kernel
theorem dX1_init_44 : decode cX1_init 44 = .ok (.return_, 1) := by decide +kernel
theorem dX1_isFree_0 : decode cX1_isFree 0 = .ok (.aload_n 0, 1) := by decide +kernel
theorem dX1_isFree_1 : decode cX1_isFree 1 = .ok (.getfield 22, 3) := by decide +kernel
theorem dX1_isFree_4 : decode cX1_isFree 4 = .ok (.aload_n 1, 1) := by decide +kernel
theorem dX1_isFree_5 : decode cX1_isFree 5 = .ok (.getfield 35, 3) := by decide +kernel
theorem dX1_isFree_8 : decode cX1_isFree 8 = .ok (.iaload, 1) := by decide +kernel
theorem dX1_isFree_9 : decode cX1_isFree 9 = .ok (.bipush (-4), 2) := by decide +kernel
theorem dX1_isFree_11 : decode cX1_isFree 11 = .ok (.if_icmp .eq 5, 3) := by decide +kernel
theorem dX1_isFree_14 : decode cX1_isFree 14 = .ok (.iconst 0, 1) := by decide +kernel
theorem dX1_isFree_15 : decode cX1_isFree 15 = .ok (.ireturn, 1) := by decide +kernel
theorem dX1_isFree_16 : decode cX1_isFree 16 = .ok (.iconst 0, 1) := by decide +kernel
theorem dX1_isFree_17 : decode cX1_isFree 17 = .ok (.istore_n 3, 1) := by decide +kernel
theorem dX1_isFree_18 : decode cX1_isFree 18 = .ok (.iload_n 3, 1) := by decide +kernel
theorem dX1_isFree_19 : decode cX1_isFree 19 = .ok (.aload_n 0, 1) := by decide +kernel
theorem dX1_isFree_20 : decode cX1_isFree 20 = .ok (.getfield 18, 3) := by decide +kernel
theorem dX1_isFree_23 : decode cX1_isFree 23 = .ok (.invokevirtual 38, 3) := by decide +kernel
theorem dX1_isFree_26 : decode cX1_isFree 26 = .ok (.if_icmp .ge 49, 3) := by decide +kernel
theorem dX1_isFree_29 : decode cX1_isFree 29 = .ok (.aload_n 0, 1) := by decide +kernel
theorem dX1_isFree_30 : decode cX1_isFree 30 = .ok (.getfield 18, 3) := by decide +kernel
theorem dX1_isFree_33 : decode cX1_isFree 33 = .ok (.iload_n 3, 1) := by decide +kernel
theorem dX1_isFree_34 : decode cX1_isFree 34 = .ok (.invokevirtual 42, 3) := by decide +kernel
theorem dX1_isFree_37 : decode cX1_isFree 37 = .ok (.checkcast 46, 3) := by decide +kernel
theorem dX1_isFree_40 : decode cX1_isFree 40 = .ok (.astore 4, 2) := by decide +kernel
theorem dX1_isFree_42 : decode cX1_isFree 42 = .ok (.aload 4, 2) := by decide +kernel
theorem dX1_isFree_44 : decode cX1_isFree 44 = .ok (.getfield 48, 3) := by decide +kernel
theorem dX1_isFree_47 : decode cX1_isFree 47 = .ok (.aload_n 1, 1) := by decide +kernel
theorem dX1_isFree_48 : decode cX1_isFree 48 = .ok (.getfield 35, 3) := by decide +kernel
theorem dX1_isFree_51 : decode cX1_isFree 51 = .ok (.baload, 1) := by decide +kernel
theorem dX1_isFree_52 : decode cX1_isFree 52 = .ok (.ifCond .eq 17, 3) := by decide +kernel
theorem dX1_isFree_55 : decode cX1_isFree 55 = .ok (.aload 4, 2) := by decide +kernel
theorem dX1_isFree_57 : decode cX1_isFree 57 = .ok (.aload_n 2, 1) := by decide +kernel
theorem dX1_isFree_58 : decode cX1_isFree 58 = .ok (.getfield 52, 3) := by decide +kernel
theorem dX1_isFree_61 : decode cX1_isFree 61 = .ok (.invokevirtual 55, 3) := by decide +kernel
theorem dX1_isFree_64 : decode cX1_isFree 64 = .ok (.ifCond .ne 5, 3) := by decide +kernel
theorem dX1_isFree_67 : decode cX1_isFree 67 = .ok (.iconst 0, 1) := by decide +kernel
theorem dX1_isFree_68 : decode cX1_isFree 68 = .ok (.ireturn, 1) := by decide +kernel
theorem dX1_isFree_69 : decode cX1_isFree 69 = .ok (.iinc 3 1, 3) := by decide +kernel
theorem dX1_isFree_72 : decode cX1_isFree 72 = .ok (.goto (-54), 3) := by decide +kernel
theorem dX1_isFree_75 : decode cX1_isFree 75 = .ok (.iconst 1, 1) := by decide +kernel
theorem dX1_isFree_76 : decode cX1_isFree 76 = .ok (.ireturn, 1) := by decide +kernel
theorem dX1_valueOf_0 : decode cX1_valueOf 0 = .ok (.aload_n 0, 1) := by decide +kernel
theorem dX1_valueOf_1 : decode cX1_valueOf 1 = .ok (.getfield 18, 3) := by decide +kernel
theorem dX1_valueOf_4 : decode cX1_valueOf 4 = .ok (.invokevirtual 38, 3) := by decide +kernel
theorem dX1_valueOf_7 : decode cX1_valueOf 7 = .ok (.iconst 1, 1) := by decide +kernel
theorem dX1_valueOf_8 : decode cX1_valueOf 8 = .ok (.isub, 1) := by decide +kernel
theorem dX1_valueOf_9 : decode cX1_valueOf 9 = .ok (.istore_n 3, 1) := by decide +kernel
theorem dX1_valueOf_10 : decode cX1_valueOf 10 = .ok (.iload_n 3, 1) := by decide +kernel
theorem dX1_valueOf_11 : decode cX1_valueOf 11 = .ok (.ifCond .lt 55, 3) := by decide +kernel
theorem dX1_valueOf_14 : decode cX1_valueOf 14 = .ok (.aload_n 0, 1) := by decide +kernel
theorem dX1_valueOf_15 : decode cX1_valueOf 15 = .ok (.getfield 18, 3) := by decide +kernel
theorem dX1_valueOf_18 : decode cX1_valueOf 18 = .ok (.iload_n 3, 1) := by decide +kernel
theorem dX1_valueOf_19 : decode cX1_valueOf 19 = .ok (.invokevirtual 42, 3) := by decide +kernel
theorem dX1_valueOf_22 : decode cX1_valueOf 22 = .ok (.checkcast 46, 3) := by decide +kernel
theorem dX1_valueOf_25 : decode cX1_valueOf 25 = .ok (.astore 4, 2) := by decide +kernel
theorem dX1_valueOf_27 : decode cX1_valueOf 27 = .ok (.aload 4, 2) := by decide +kernel
theorem dX1_valueOf_29 : decode cX1_valueOf 29 = .ok (.getfield 48, 3) := by decide +kernel
theorem dX1_valueOf_32 : decode cX1_valueOf 32 = .ok (.aload_n 1, 1) := by decide +kernel
theorem dX1_valueOf_33 : decode cX1_valueOf 33 = .ok (.getfield 35, 3) := by decide +kernel
theorem dX1_valueOf_36 : decode cX1_valueOf 36 = .ok (.baload, 1) := by decide +kernel
theorem dX1_valueOf_37 : decode cX1_valueOf 37 = .ok (.ifCond .eq 23, 3) := by decide +kernel
theorem dX1_valueOf_40 : decode cX1_valueOf 40 = .ok (.aload 4, 2) := by decide +kernel
theorem dX1_valueOf_42 : decode cX1_valueOf 42 = .ok (.aload_n 2, 1) := by decide +kernel
theorem dX1_valueOf_43 : decode cX1_valueOf 43 = .ok (.invokevirtual 55, 3) := by decide +kernel
theorem dX1_valueOf_46 : decode cX1_valueOf 46 = .ok (.ifCond .eq 14, 3) := by decide +kernel
theorem dX1_valueOf_49 : decode cX1_valueOf 49 = .ok (.aload 4, 2) := by decide +kernel
theorem dX1_valueOf_51 : decode cX1_valueOf 51 = .ok (.getfield 59, 3) := by decide +kernel
theorem dX1_valueOf_54 : decode cX1_valueOf 54 = .ok (.aload_n 1, 1) := by decide +kernel
theorem dX1_valueOf_55 : decode cX1_valueOf 55 = .ok (.getfield 35, 3) := by decide +kernel
theorem dX1_valueOf_58 : decode cX1_valueOf 58 = .ok (.laload, 1) := by decide +kernel
theorem dX1_valueOf_59 : decode cX1_valueOf 59 = .ok (.lreturn, 1) := by decide +kernel
theorem dX1_valueOf_60 : decode cX1_valueOf 60 = .ok (.iinc 3 (-1), 3) := by decide +kernel
theorem dX1_valueOf_63 : decode cX1_valueOf 63 = .ok (.goto (-53), 3) := by decide +kernel
theorem dX1_valueOf_66 : decode cX1_valueOf 66 = .ok (.lconst 0, 1) := by decide +kernel
theorem dX1_valueOf_67 : decode cX1_valueOf 67 = .ok (.lreturn, 1) := by decide +kernel
theorem dX1_countOf_0 : decode cX1_countOf 0 = .ok (.lconst 0, 1) := by decide +kernel
theorem dX1_countOf_1 : decode cX1_countOf 1 = .ok (.lstore_n 3, 1) := by decide +kernel
theorem dX1_countOf_2 : decode cX1_countOf 2 = .ok (.iconst 0, 1) := by decide +kernel
theorem dX1_countOf_3 : decode cX1_countOf 3 = .ok (.istore 5, 2) := by decide +kernel
theorem dX1_countOf_5 : decode cX1_countOf 5 = .ok (.iload 5, 2) := by decide +kernel
theorem dX1_countOf_7 : decode cX1_countOf 7 = .ok (.aload_n 0, 1) := by decide +kernel
theorem dX1_countOf_8 : decode cX1_countOf 8 = .ok (.getfield 18, 3) := by decide +kernel
theorem dX1_countOf_11 : decode cX1_countOf 11 = .ok (.invokevirtual 38, 3) := by decide +kernel
theorem dX1_countOf_14 : decode cX1_countOf 14 = .ok (.if_icmp .ge 42, 3) := by decide +kernel
theorem dX1_countOf_17 : decode cX1_countOf 17 = .ok (.aload_n 0, 1) := by decide +kernel
theorem dX1_countOf_18 : decode cX1_countOf 18 = .ok (.getfield 18, 3) := by decide +kernel
theorem dX1_countOf_21 : decode cX1_countOf 21 = .ok (.iload 5, 2) := by decide +kernel
theorem dX1_countOf_23 : decode cX1_countOf 23 = .ok (.invokevirtual 42, 3) := by decide +kernel
theorem dX1_countOf_26 : decode cX1_countOf 26 = .ok (.checkcast 46, 3) := by decide +kernel
theorem dX1_countOf_29 : decode cX1_countOf 29 = .ok (.astore 6, 2) := by decide +kernel
theorem dX1_countOf_31 : decode cX1_countOf 31 = .ok (.aload 6, 2) := by decide +kernel
theorem dX1_countOf_33 : decode cX1_countOf 33 = .ok (.aload_n 2, 1) := by decide +kernel
theorem dX1_countOf_34 : decode cX1_countOf 34 = .ok (.invokevirtual 55, 3) := by decide +kernel
theorem dX1_countOf_37 : decode cX1_countOf 37 = .ok (.ifCond .eq 13, 3) := by decide +kernel
theorem dX1_countOf_40 : decode cX1_countOf 40 = .ok (.lload_n 3, 1) := by decide +kernel
theorem dX1_countOf_41 : decode cX1_countOf 41 = .ok (.aload 6, 2) := by decide +kernel
theorem dX1_countOf_43 : decode cX1_countOf 43 = .ok (.getfield 63, 3) := by decide +kernel
theorem dX1_countOf_46 : decode cX1_countOf 46 = .ok (.iload_n 1, 1) := by decide +kernel
theorem dX1_countOf_47 : decode cX1_countOf 47 = .ok (.laload, 1) := by decide +kernel
theorem dX1_countOf_48 : decode cX1_countOf 48 = .ok (.ladd, 1) := by decide +kernel
theorem dX1_countOf_49 : decode cX1_countOf 49 = .ok (.lstore_n 3, 1) := by decide +kernel
theorem dX1_countOf_50 : decode cX1_countOf 50 = .ok (.iinc 5 1, 3) := by decide +kernel
theorem dX1_countOf_53 : decode cX1_countOf 53 = .ok (.goto (-48), 3) := by decide +kernel
theorem dX1_countOf_56 : decode cX1_countOf 56 = .ok (.lload_n 3, 1) := by decide +kernel
theorem dX1_countOf_57 : decode cX1_countOf 57 = .ok (.lreturn, 1) := by decide +kernel
theorem dX1_canTake_0 : decode cX1_canTake 0 = .ok (.aload_n 0, 1) := by decide +kernel
theorem dX1_canTake_1 : decode cX1_canTake 1 = .ok (.getfield 9, 3) := by decide +kernel
theorem dX1_canTake_4 : decode cX1_canTake 4 = .ok (.aload_n 1, 1) := by decide +kernel
theorem dX1_canTake_5 : decode cX1_canTake 5 = .ok (.getfield 66, 3) := by decide +kernel
theorem dX1_canTake_8 : decode cX1_canTake 8 = .ok (.getfield 25, 3) := by decide +kernel
theorem dX1_canTake_11 : decode cX1_canTake 11 = .ok (.iaload, 1) := by decide +kernel
theorem dX1_canTake_12 : decode cX1_canTake 12 = .ok (.aload_n 1, 1) := by decide +kernel
theorem dX1_canTake_13 : decode cX1_canTake 13 = .ok (.getfield 70, 3) := by decide +kernel
theorem dX1_canTake_16 : decode cX1_canTake 16 = .ok (.iconst 1, 1) := by decide +kernel
theorem dX1_canTake_17 : decode cX1_canTake 17 = .ok (.isub, 1) := by decide +kernel
theorem dX1_canTake_18 : decode cX1_canTake 18 = .ok (.if_icmp .ge 5, 3) := by decide +kernel
theorem dX1_canTake_21 : decode cX1_canTake 21 = .ok (.iconst 0, 1) := by decide +kernel
theorem dX1_canTake_22 : decode cX1_canTake 22 = .ok (.ireturn, 1) := by decide +kernel
theorem dX1_canTake_23 : decode cX1_canTake 23 = .ok (.iconst 0, 1) := by decide +kernel
theorem dX1_canTake_24 : decode cX1_canTake 24 = .ok (.istore_n 2, 1) := by decide +kernel
theorem dX1_canTake_25 : decode cX1_canTake 25 = .ok (.iload_n 2, 1) := by decide +kernel
theorem dX1_canTake_26 : decode cX1_canTake 26 = .ok (.iconst 4, 1) := by decide +kernel
theorem dX1_canTake_27 : decode cX1_canTake 27 = .ok (.if_icmp .ge 26, 3) := by decide +kernel
theorem dX1_canTake_30 : decode cX1_canTake 30 = .ok (.aload_n 0, 1) := by decide +kernel
theorem dX1_canTake_31 : decode cX1_canTake 31 = .ok (.getfield 9, 3) := by decide +kernel
theorem dX1_canTake_34 : decode cX1_canTake 34 = .ok (.iload_n 2, 1) := by decide +kernel
theorem dX1_canTake_35 : decode cX1_canTake 35 = .ok (.iaload, 1) := by decide +kernel
theorem dX1_canTake_36 : decode cX1_canTake 36 = .ok (.aload_n 1, 1) := by decide +kernel
theorem dX1_canTake_37 : decode cX1_canTake 37 = .ok (.getfield 52, 3) := by decide +kernel
theorem dX1_canTake_40 : decode cX1_canTake 40 = .ok (.iload_n 2, 1) := by decide +kernel
theorem dX1_canTake_41 : decode cX1_canTake 41 = .ok (.iaload, 1) := by decide +kernel
theorem dX1_canTake_42 : decode cX1_canTake 42 = .ok (.if_icmp .ge 5, 3) := by decide +kernel
theorem dX1_canTake_45 : decode cX1_canTake 45 = .ok (.iconst 0, 1) := by decide +kernel
theorem dX1_canTake_46 : decode cX1_canTake 46 = .ok (.ireturn, 1) := by decide +kernel
theorem dX1_canTake_47 : decode cX1_canTake 47 = .ok (.iinc 2 1, 3) := by decide +kernel
theorem dX1_canTake_50 : decode cX1_canTake 50 = .ok (.goto (-25), 3) := by decide +kernel
theorem dX1_canTake_53 : decode cX1_canTake 53 = .ok (.iconst 1, 1) := by decide +kernel
theorem dX1_canTake_54 : decode cX1_canTake 54 = .ok (.ireturn, 1) := by decide +kernel
theorem dX1_take_0 : decode cX1_take 0 = .ok (.aload_n 0, 1) := by decide +kernel
theorem dX1_take_1 : decode cX1_take 1 = .ok (.getfield 9, 3) := by decide +kernel
theorem dX1_take_4 : decode cX1_take 4 = .ok (.aload_n 1, 1) := by decide +kernel
theorem dX1_take_5 : decode cX1_take 5 = .ok (.getfield 66, 3) := by decide +kernel
theorem dX1_take_8 : decode cX1_take 8 = .ok (.getfield 25, 3) := by decide +kernel
theorem dX1_take_11 : decode cX1_take 11 = .ok (.dup2, 1) := by decide +kernel
theorem dX1_take_12 : decode cX1_take 12 = .ok (.iaload, 1) := by decide +kernel
theorem dX1_take_13 : decode cX1_take 13 = .ok (.iconst 1, 1) := by decide +kernel
theorem dX1_take_14 : decode cX1_take 14 = .ok (.iadd, 1) := by decide +kernel
theorem dX1_take_15 : decode cX1_take 15 = .ok (.iastore, 1) := by decide +kernel
theorem dX1_take_16 : decode cX1_take 16 = .ok (.aload_n 0, 1) := by decide +kernel
theorem dX1_take_17 : decode cX1_take 17 = .ok (.getfield 18, 3) := by decide +kernel
theorem dX1_take_20 : decode cX1_take 20 = .ok (.aload_n 1, 1) := by decide +kernel
theorem dX1_take_21 : decode cX1_take 21 = .ok (.invokevirtual 73, 3) := by decide +kernel
theorem dX1_take_24 : decode cX1_take 24 = .ok (.pop, 1) := by decide +kernel
theorem dX1_take_25 : decode cX1_take 25 = .ok (.aload_n 0, 1) := by decide +kernel
theorem dX1_take_26 : decode cX1_take 26 = .ok (.aload_n 1, 1) := by decide +kernel
theorem dX1_take_27 : decode cX1_take 27 = .ok (.invokevirtual 77, 3) := by decide +kernel
theorem dX1_take_30 : decode cX1_take 30 = .ok (.return_, 1) := by decide +kernel
theorem dX1_unlock_0 : decode cX1_unlock 0 = .ok (.iconst 0, 1) := by decide +kernel
theorem dX1_unlock_1 : decode cX1_unlock 1 = .ok (.istore_n 2, 1) := by decide +kernel
theorem dX1_unlock_2 : decode cX1_unlock 2 = .ok (.iload_n 2, 1) := by decide +kernel
theorem dX1_unlock_3 : decode cX1_unlock 3 = .ok (.bipush 12, 2) := by decide +kernel
theorem dX1_unlock_5 : decode cX1_unlock 5 = .ok (.if_icmp .ge 30, 3) := by decide +kernel
theorem dX1_unlock_8 : decode cX1_unlock 8 = .ok (.aload_n 0, 1) := by decide +kernel
theorem dX1_unlock_9 : decode cX1_unlock 9 = .ok (.getfield 22, 3) := by decide +kernel
theorem dX1_unlock_12 : decode cX1_unlock 12 = .ok (.iload_n 2, 1) := by decide +kernel
theorem dX1_unlock_13 : decode cX1_unlock 13 = .ok (.iaload, 1) := by decide +kernel
theorem dX1_unlock_14 : decode cX1_unlock 14 = .ok (.aload_n 1, 1) := by decide +kernel
theorem dX1_unlock_15 : decode cX1_unlock 15 = .ok (.getfield 81, 3) := by decide +kernel
theorem dX1_unlock_18 : decode cX1_unlock 18 = .ok (.if_icmp .ne 11, 3) := by decide +kernel
theorem dX1_unlock_21 : decode cX1_unlock 21 = .ok (.aload_n 0, 1) := by decide +kernel
theorem dX1_unlock_22 : decode cX1_unlock 22 = .ok (.getfield 22, 3) := by decide +kernel
theorem dX1_unlock_25 : decode cX1_unlock 25 = .ok (.iload_n 2, 1) := by decide +kernel
theorem dX1_unlock_26 : decode cX1_unlock 26 = .ok (.bipush (-4), 2) := by decide +kernel
theorem dX1_unlock_28 : decode cX1_unlock 28 = .ok (.iastore, 1) := by decide +kernel
theorem dX1_unlock_29 : decode cX1_unlock 29 = .ok (.iinc 2 1, 3) := by decide +kernel
theorem dX1_unlock_32 : decode cX1_unlock 32 = .ok (.goto (-30), 3) := by decide +kernel
theorem dX1_unlock_35 : decode cX1_unlock 35 = .ok (.return_, 1) := by decide +kernel
theorem dX1_howManyLocked_0 : decode cX1_howManyLocked 0 = .ok (.iconst 0, 1) := by decide +kernel
theorem dX1_howManyLocked_1 : decode cX1_howManyLocked 1 = .ok (.istore_n 1, 1) := by decide +kernel
theorem dX1_howManyLocked_2 : decode cX1_howManyLocked 2 = .ok (.iconst 0, 1) := by decide +kernel
theorem dX1_howManyLocked_3 : decode cX1_howManyLocked 3 = .ok (.istore_n 2, 1) := by decide +kernel
theorem dX1_howManyLocked_4 : decode cX1_howManyLocked 4 = .ok (.iload_n 2, 1) := by decide +kernel
theorem dX1_howManyLocked_5 : decode cX1_howManyLocked 5 = .ok (.bipush 12, 2) := by decide +kernel
theorem dX1_howManyLocked_7 : decode cX1_howManyLocked 7 = .ok (.if_icmp .ge 31, 3) := by decide +kernel
theorem dX1_howManyLocked_10 : decode cX1_howManyLocked 10 = .ok (.iload_n 1, 1) := by decide +kernel
theorem dX1_howManyLocked_11 : decode cX1_howManyLocked 11 = .ok (.aload_n 0, 1) := by decide +kernel
theorem dX1_howManyLocked_12 : decode cX1_howManyLocked 12 = .ok (.getfield 22, 3) := by decide +kernel
theorem dX1_howManyLocked_15 : decode cX1_howManyLocked 15 = .ok (.iload_n 2, 1) := by decide +kernel
theorem dX1_howManyLocked_16 : decode cX1_howManyLocked 16 = .ok (.iaload, 1) := by decide +kernel
theorem dX1_howManyLocked_17 : decode cX1_howManyLocked 17 = .ok (.bipush (-4), 2) := by decide +kernel
theorem dX1_howManyLocked_19 : decode cX1_howManyLocked 19 = .ok (.if_icmp .eq 7, 3) := by decide +kernel
theorem dX1_howManyLocked_22 : decode cX1_howManyLocked 22 = .ok (.iconst 1, 1) := by decide +kernel
theorem dX1_howManyLocked_23 : decode cX1_howManyLocked 23 = .ok (.goto 4, 3) := by decide +kernel
theorem dX1_howManyLocked_26 : decode cX1_howManyLocked 26 = .ok (.iconst 0, 1) := by decide +kernel
theorem dX1_howManyLocked_27 : decode cX1_howManyLocked 27 = .ok (.invokestatic 82, 3) := by decide +kernel
theorem dX1_howManyLocked_30 : decode cX1_howManyLocked 30 = .ok (.iadd, 1) := by decide +kernel
theorem dX1_howManyLocked_31 : decode cX1_howManyLocked 31 = .ok (.istore_n 1, 1) := by decide +kernel
theorem dX1_howManyLocked_32 : decode cX1_howManyLocked 32 = .ok (.iinc 2 1, 3) := by decide +kernel
theorem dX1_howManyLocked_35 : decode cX1_howManyLocked 35 = .ok (.goto (-31), 3) := by decide +kernel
theorem dX1_howManyLocked_38 : decode cX1_howManyLocked 38 = .ok (.iload_n 1, 1) := by decide +kernel
theorem dX1_howManyLocked_39 : decode cX1_howManyLocked 39 = .ok (.ireturn, 1) := by decide +kernel
theorem dX2_init_0 : decode cX2_init 0 = .ok (.aload_n 0, 1) := by decide +kernel
theorem dX2_init_1 : decode cX2_init 1 = .ok (.invokespecial 3, 3) := by decide +kernel
theorem dX2_init_4 : decode cX2_init 4 = .ok (.aload_n 0, 1) := by decide +kernel
theorem dX2_init_5 : decode cX2_init 5 = .ok (.iload_n 1, 1) := by decide +kernel
theorem dX2_init_6 : decode cX2_init 6 = .ok (.putfield 9, 3) := by decide +kernel
theorem dX2_init_9 : decode cX2_init 9 = .ok (.aload_n 0, 1) := by decide +kernel
theorem dX2_init_10 : decode cX2_init 10 = .ok (.aload_n 2, 1) := by decide +kernel
theorem dX2_init_11 : decode cX2_init 11 = .ok (.putfield 15, 3) := by decide +kernel
theorem dX2_init_14 : decode cX2_init 14 = .ok (.aload_n 0, 1) := by decide +kernel
theorem dX2_init_15 : decode cX2_init 15 = .ok (.iload_n 3, 1) := by decide +kernel
theorem dX2_init_16 : decode cX2_init 16 = .ok (.putfield 19, 3) := by decide +kernel
theorem dX2_init_19 : decode cX2_init 19 = .ok (.return_, 1) := by decide +kernel
theorem dX2_slotOf_0 : decode cX2_slotOf 0 = .ok (.aload_n 0, 1) := by decide +kernel
theorem dX2_slotOf_1 : decode cX2_slotOf 1 = .ok (.getfield 9, 3) := by decide +kernel
theorem dX2_slotOf_4 : decode cX2_slotOf 4 = .ok (.bipush 8, 2) := by decide +kernel
theorem dX2_slotOf_6 : decode cX2_slotOf 6 = .ok (.imul, 1) := by decide +kernel
theorem dX2_slotOf_7 : decode cX2_slotOf 7 = .ok (.iload_n 1, 1) := by decide +kernel
theorem dX2_slotOf_8 : decode cX2_slotOf 8 = .ok (.iadd, 1) := by decide +kernel
theorem dX2_slotOf_9 : decode cX2_slotOf 9 = .ok (.ireturn, 1) := by decide +kernel
theorem dX3_init_0 : decode cX3_init 0 = .ok (.aload_n 0, 1) := by decide +kernel
theorem dX3_init_1 : decode cX3_init 1 = .ok (.invokespecial 3, 3) := by decide +kernel
theorem dX3_init_4 : decode cX3_init 4 = .ok (.aload_n 0, 1) := by decide +kernel
theorem dX3_init_5 : decode cX3_init 5 = .ok (.bipush 12, 2) := by decide +kernel
theorem dX3_init_7 : decode cX3_init 7 = .ok (.newarray .boolean, 2) := by decide +kernel
theorem dX3_init_9 : decode cX3_init 9 = .ok (.putfield 9, 3) := by decide +kernel
theorem dX3_init_12 : decode cX3_init 12 = .ok (.aload_n 0, 1) := by decide +kernel
theorem dX3_init_13 : decode cX3_init 13 = .ok (.bipush 12, 2) := by decide +kernel
theorem dX3_init_15 : decode cX3_init 15 = .ok (.newarray .long, 2) := by decide +kernel
theorem dX3_init_17 : decode cX3_init 17 = .ok (.putfield 15, 3) := by decide +kernel
theorem dX3_init_20 : decode cX3_init 20 = .ok (.aload_n 0, 1) := by decide +kernel
theorem dX3_init_21 : decode cX3_init 21 = .ok (.bipush 96, 2) := by decide +kernel
theorem dX3_init_23 : decode cX3_init 23 = .ok (.newarray .long, 2) := by decide +kernel
theorem dX3_init_25 : decode cX3_init 25 = .ok (.putfield 19, 3) := by decide +kernel
theorem dX3_init_28 : decode cX3_init 28 = .ok (.aload_n 0, 1) := by decide +kernel
theorem dX3_init_29 : decode cX3_init 29 = .ok (.iconst 4, 1) := by decide +kernel
theorem dX3_init_30 : decode cX3_init 30 = .ok (.newarray .boolean, 2) := by decide +kernel
theorem dX3_init_32 : decode cX3_init 32 = .ok (.putfield 22, 3) := by decide +kernel
theorem dX3_init_35 : decode cX3_init 35 = .ok (.aload_n 0, 1) := by decide +kernel
theorem dX3_init_36 : decode cX3_init 36 = .ok (.iconst 0, 1) := by decide +kernel
theorem dX3_init_37 : decode cX3_init 37 = .ok (.putfield 25, 3) := by decide +kernel
theorem dX3_init_40 : decode cX3_init 40 = .ok (.aload_n 0, 1) := by decide +kernel
theorem dX3_init_41 : decode cX3_init 41 = .ok (.iload_n 1, 1) := by decide +kernel
theorem dX3_init_42 : decode cX3_init 42 = .ok (.putfield 29, 3) := by decide +kernel
theorem dX3_init_45 : decode cX3_init 45 = .ok (.aload_n 0, 1) := by decide +kernel
theorem dX3_init_46 : decode cX3_init 46 = .ok (.aload_n 2, 1) := by decide +kernel
theorem dX3_init_47 : decode cX3_init 47 = .ok (.putfield 32, 3) := by decide +kernel
theorem dX3_init_50 : decode cX3_init 50 = .ok (.aload_n 0, 1) := by decide +kernel
theorem dX3_init_51 : decode cX3_init 51 = .ok (.aload_n 2, 1) := by decide +kernel
theorem dX3_init_52 : decode cX3_init 52 = .ok (.getfield 36, 3) := by decide +kernel
theorem dX3_init_55 : decode cX3_init 55 = .ok (.invokevirtual 42, 3) := by decide +kernel
theorem dX3_init_58 : decode cX3_init 58 = .ok (.checkcast 43, 3) := by decide +kernel
theorem dX3_init_61 : decode cX3_init 61 = .ok (.putfield 47, 3) := by decide +kernel
theorem dX3_init_64 : decode cX3_init 64 = .ok (.return_, 1) := by decide +kernel
theorem dX3_put_0 : decode cX3_put 0 = .ok (.aload_n 0, 1) := by decide +kernel
theorem dX3_put_1 : decode cX3_put 1 = .ok (.getfield 9, 3) := by decide +kernel
theorem dX3_put_4 : decode cX3_put 4 = .ok (.aload_n 1, 1) := by decide +kernel
theorem dX3_put_5 : decode cX3_put 5 = .ok (.getfield 50, 3) := by decide +kernel
theorem dX3_put_8 : decode cX3_put 8 = .ok (.baload, 1) := by decide +kernel
theorem dX3_put_9 : decode cX3_put 9 = .ok (.ifCond .ne 23, 3) := by decide +kernel
theorem dX3_put_12 : decode cX3_put 12 = .ok (.aload_n 0, 1) := by decide +kernel
theorem dX3_put_13 : decode cX3_put 13 = .ok (.getfield 9, 3) := by decide +kernel
theorem dX3_put_16 : decode cX3_put 16 = .ok (.aload_n 1, 1) := by decide +kernel
theorem dX3_put_17 : decode cX3_put 17 = .ok (.getfield 50, 3) := by decide +kernel
theorem dX3_put_20 : decode cX3_put 20 = .ok (.iconst 1, 1) := by decide +kernel
theorem dX3_put_21 : decode cX3_put 21 = .ok (.bastore, 1) := by decide +kernel
theorem dX3_put_22 : decode cX3_put 22 = .ok (.aload_n 0, 1) := by decide +kernel
theorem dX3_put_23 : decode cX3_put 23 = .ok (.dup, 1) := by decide +kernel
theorem dX3_put_24 : decode cX3_put 24 = .ok (.getfield 53, 3) := by decide +kernel
theorem dX3_put_27 : decode cX3_put 27 = .ok (.iconst 1, 1) := by decide +kernel
theorem dX3_put_28 : decode cX3_put 28 = .ok (.iadd, 1) := by decide +kernel
theorem dX3_put_29 : decode cX3_put 29 = .ok (.putfield 53, 3) := by decide +kernel
theorem dX3_put_32 : decode cX3_put 32 = .ok (.aload_n 0, 1) := by decide +kernel
theorem dX3_put_33 : decode cX3_put 33 = .ok (.getfield 15, 3) := by decide +kernel
theorem dX3_put_36 : decode cX3_put 36 = .ok (.aload_n 1, 1) := by decide +kernel
theorem dX3_put_37 : decode cX3_put 37 = .ok (.getfield 50, 3) := by decide +kernel
theorem dX3_put_40 : decode cX3_put 40 = .ok (.lload_n 2, 1) := by decide +kernel
theorem dX3_put_41 : decode cX3_put 41 = .ok (.lastore, 1) := by decide +kernel
theorem dX3_put_42 : decode cX3_put 42 = .ok (.return_, 1) := by decide +kernel
theorem dX3_addTo_0 : decode cX3_addTo 0 = .ok (.aload_n 0, 1) := by decide +kernel
theorem dX3_addTo_1 : decode cX3_addTo 1 = .ok (.getfield 19, 3) := by decide +kernel
theorem dX3_addTo_4 : decode cX3_addTo 4 = .ok (.iload_n 1, 1) := by decide +kernel
theorem dX3_addTo_5 : decode cX3_addTo 5 = .ok (.dup2, 1) := by decide +kernel
theorem dX3_addTo_6 : decode cX3_addTo 6 = .ok (.laload, 1) := by decide +kernel
theorem dX3_addTo_7 : decode cX3_addTo 7 = .ok (.iload_n 2, 1) := by decide +kernel
theorem dX3_addTo_8 : decode cX3_addTo 8 = .ok (.i2l, 1) := by decide +kernel
theorem dX3_addTo_9 : decode cX3_addTo 9 = .ok (.ladd, 1) := by decide +kernel
theorem dX3_addTo_10 : decode cX3_addTo 10 = .ok (.lastore, 1) := by decide +kernel
theorem dX3_addTo_11 : decode cX3_addTo 11 = .ok (.aload_n 0, 1) := by decide +kernel
theorem dX3_addTo_12 : decode cX3_addTo 12 = .ok (.iconst 1, 1) := by decide +kernel
theorem dX3_addTo_13 : decode cX3_addTo 13 = .ok (.putfield 56, 3) := by decide +kernel
theorem dX3_addTo_16 : decode cX3_addTo 16 = .ok (.return_, 1) := by decide +kernel
theorem dX3_wroteAnything_0 : decode cX3_wroteAnything 0 = .ok (.aload_n 0, 1) := by decide +kernel
theorem dX3_wroteAnything_1 : decode cX3_wroteAnything 1 = .ok (.getfield 53, 3) := by decide +kernel
theorem dX3_wroteAnything_4 : decode cX3_wroteAnything 4 = .ok (.ifCond .gt 10, 3) := by decide +kernel
theorem dX3_wroteAnything_7 : decode cX3_wroteAnything 7 = .ok (.aload_n 0, 1) := by decide +kernel
theorem dX3_wroteAnything_8 : decode cX3_wroteAnything 8 = .ok (.getfield 56, 3) := by decide +kernel
theorem dX3_wroteAnything_11 : decode cX3_wroteAnything 11 = .ok (.ifCond .eq 7, 3) := by decide +kernel
theorem dX3_wroteAnything_14 : decode cX3_wroteAnything 14 = .ok (.iconst 1, 1) := by decide +kernel
theorem dX3_wroteAnything_15 : decode cX3_wroteAnything 15 = .ok (.goto 4, 3) := by decide +kernel
theorem dX3_wroteAnything_18 : decode cX3_wroteAnything 18 = .ok (.iconst 0, 1) := by decide +kernel
theorem dX3_wroteAnything_19 : decode cX3_wroteAnything 19 = .ok (.ireturn, 1) := by decide +kernel
theorem dX3_hasCommit_0 : decode cX3_hasCommit 0 = .ok (.aload_n 0, 1) := by decide +kernel
theorem dX3_hasCommit_1 : decode cX3_hasCommit 1 = .ok (.getfield 60, 3) := by decide +kernel
theorem dX3_hasCommit_4 : decode cX3_hasCommit 4 = .ok (.ifCond .le 7, 3) := by decide +kernel
theorem dX3_hasCommit_7 : decode cX3_hasCommit 7 = .ok (.iconst 1, 1) := by decide +kernel
theorem dX3_hasCommit_8 : decode cX3_hasCommit 8 = .ok (.goto 4, 3) := by decide +kernel
theorem dX3_hasCommit_11 : decode cX3_hasCommit 11 = .ok (.iconst 0, 1) := by decide +kernel
theorem dX3_hasCommit_12 : decode cX3_hasCommit 12 = .ok (.ireturn, 1) := by decide +kernel
theorem dX3_isWithin_0 : decode cX3_isWithin 0 = .ok (.aload_n 0, 1) := by decide +kernel
theorem dX3_isWithin_1 : decode cX3_isWithin 1 = .ok (.invokevirtual 63, 3) := by decide +kernel
theorem dX3_isWithin_4 : decode cX3_isWithin 4 = .ok (.ifCond .eq 23, 3) := by decide +kernel
theorem dX3_isWithin_7 : decode cX3_isWithin 7 = .ok (.aload_n 0, 1) := by decide +kernel
theorem dX3_isWithin_8 : decode cX3_isWithin 8 = .ok (.getfield 60, 3) := by decide +kernel
theorem dX3_isWithin_11 : decode cX3_isWithin 11 = .ok (.aload_n 1, 1) := by decide +kernel
theorem dX3_isWithin_12 : decode cX3_isWithin 12 = .ok (.aload_n 0, 1) := by decide +kernel
theorem dX3_isWithin_13 : decode cX3_isWithin 13 = .ok (.getfield 32, 3) := by decide +kernel
theorem dX3_isWithin_16 : decode cX3_isWithin 16 = .ok (.getfield 67, 3) := by decide +kernel
theorem dX3_isWithin_19 : decode cX3_isWithin 19 = .ok (.iaload, 1) := by decide +kernel
theorem dX3_isWithin_20 : decode cX3_isWithin 20 = .ok (.if_icmp .gt 7, 3) := by decide +kernel
theorem dX3_isWithin_23 : decode cX3_isWithin 23 = .ok (.iconst 1, 1) := by decide +kernel
theorem dX3_isWithin_24 : decode cX3_isWithin 24 = .ok (.goto 4, 3) := by decide +kernel
theorem dX3_isWithin_27 : decode cX3_isWithin 27 = .ok (.iconst 0, 1) := by decide +kernel
theorem dX3_isWithin_28 : decode cX3_isWithin 28 = .ok (.ireturn, 1) := by decide +kernel
theorem dX4_init_0 : decode cX4_init 0 = .ok (.aload_n 0, 1) := by decide +kernel
theorem dX4_init_1 : decode cX4_init 1 = .ok (.invokespecial 1, 3) := by decide +kernel
theorem dX4_init_4 : decode cX4_init 4 = .ok (.aload_n 0, 1) := by decide +kernel
theorem dX4_init_5 : decode cX4_init 5 = .ok (.iconst 4, 1) := by decide +kernel
theorem dX4_init_6 : decode cX4_init 6 = .ok (.anewarray 9, 3) := by decide +kernel
theorem dX4_init_9 : decode cX4_init 9 = .ok (.putfield 11, 3) := by decide +kernel
theorem dX4_init_12 : decode cX4_init 12 = .ok (.aload_n 0, 1) := by decide +kernel
theorem dX4_init_13 : decode cX4_init 13 = .ok (.iconst 3, 1) := by decide +kernel
theorem dX4_init_14 : decode cX4_init 14 = .ok (.putfield 15, 3) := by decide +kernel
theorem dX4_init_17 : decode cX4_init 17 = .ok (.aload_n 0, 1) := by decide +kernel
theorem dX4_init_18 : decode cX4_init 18 = .ok (.iconst 1, 1) := by decide +kernel
theorem dX4_init_19 : decode cX4_init 19 = .ok (.putfield 19, 3) := by decide +kernel
theorem dX4_init_22 : decode cX4_init 22 = .ok (.aload_n 0, 1) := by decide +kernel
theorem dX4_init_23 : decode cX4_init 23 = .ok (.new 22, 3) := by decide +kernel
theorem dX4_init_26 : decode cX4_init 26 = .ok (.dup, 1) := by decide +kernel
theorem dX4_init_27 : decode cX4_init 27 = .ok (.invokespecial 24, 3) := by decide +kernel
theorem dX4_init_30 : decode cX4_init 30 = .ok (.putfield 25, 3) := by decide +kernel
theorem dX4_init_33 : decode cX4_init 33 = .ok (.aload_n 0, 1) := by decide +kernel
theorem dX4_init_34 : decode cX4_init 34 = .ok (.new 22, 3) := by decide +kernel
theorem dX4_init_37 : decode cX4_init 37 = .ok (.dup, 1) := by decide +kernel
theorem dX4_init_38 : decode cX4_init 38 = .ok (.invokespecial 24, 3) := by decide +kernel
theorem dX4_init_41 : decode cX4_init 41 = .ok (.putfield 29, 3) := by decide +kernel
theorem dX4_init_44 : decode cX4_init 44 = .ok (.aload_n 0, 1) := by decide +kernel
theorem dX4_init_45 : decode cX4_init 45 = .ok (.new 22, 3) := by decide +kernel
theorem dX4_init_48 : decode cX4_init 48 = .ok (.dup, 1) := by decide +kernel
theorem dX4_init_49 : decode cX4_init 49 = .ok (.invokespecial 24, 3) := by decide +kernel
theorem dX4_init_52 : decode cX4_init 52 = .ok (.putfield 32, 3) := by decide +kernel
theorem dX4_init_55 : decode cX4_init 55 = .ok (.iconst 0, 1) := by decide +kernel
theorem dX4_init_56 : decode cX4_init 56 = .ok (.istore_n 1, 1) := by decide +kernel
theorem dX4_init_57 : decode cX4_init 57 = .ok (.iload_n 1, 1) := by decide +kernel
theorem dX4_init_58 : decode cX4_init 58 = .ok (.iconst 4, 1) := by decide +kernel
theorem dX4_init_59 : decode cX4_init 59 = .ok (.if_icmp .ge 23, 3) := by decide +kernel
theorem dX4_init_62 : decode cX4_init 62 = .ok (.aload_n 0, 1) := by decide +kernel
theorem dX4_init_63 : decode cX4_init 63 = .ok (.getfield 11, 3) := by decide +kernel
theorem dX4_init_66 : decode cX4_init 66 = .ok (.iload_n 1, 1) := by decide +kernel
theorem dX4_init_67 : decode cX4_init 67 = .ok (.new 9, 3) := by decide +kernel
theorem dX4_init_70 : decode cX4_init 70 = .ok (.dup, 1) := by decide +kernel
theorem dX4_init_71 : decode cX4_init 71 = .ok (.iload_n 1, 1) := by decide +kernel
theorem dX4_init_72 : decode cX4_init 72 = .ok (.invokespecial 35, 3) := by decide +kernel
theorem dX4_init_75 : decode cX4_init 75 = .ok (.aastore, 1) := by decide +kernel
theorem dX4_init_76 : decode cX4_init 76 = .ok (.iinc 1 1, 3) := by decide +kernel
theorem dX4_init_79 : decode cX4_init 79 = .ok (.goto (-22), 3) := by decide +kernel
theorem dX4_init_82 : decode cX4_init 82 = .ok (.return_, 1) := by decide +kernel
theorem dX4_sites_0 : decode cX4_sites 0 = .ok (.iload_n 1, 1) := by decide +kernel
theorem dX4_sites_1 : decode cX4_sites 1 = .ok (.iconst 2, 1) := by decide +kernel
theorem dX4_sites_2 : decode cX4_sites 2 = .ok (.if_icmp .lt 19, 3) := by decide +kernel
theorem dX4_sites_5 : decode cX4_sites 5 = .ok (.iload_n 1, 1) := by decide +kernel
theorem dX4_sites_6 : decode cX4_sites 6 = .ok (.iconst 4, 1) := by decide +kernel
theorem dX4_sites_7 : decode cX4_sites 7 = .ok (.if_icmp .gt 14, 3) := by decide +kernel
theorem dX4_sites_10 : decode cX4_sites 10 = .ok (.iload_n 2, 1) := by decide +kernel
theorem dX4_sites_11 : decode cX4_sites 11 = .ok (.ifCond .lt 10, 3) := by decide +kernel
theorem dX4_sites_14 : decode cX4_sites 14 = .ok (.iload_n 2, 1) := by decide +kernel
theorem dX4_sites_15 : decode cX4_sites 15 = .ok (.iload_n 1, 1) := by decide +kernel
theorem dX4_sites_16 : decode cX4_sites 16 = .ok (.iconst 1, 1) := by decide +kernel
theorem dX4_sites_17 : decode cX4_sites 17 = .ok (.isub, 1) := by decide +kernel
theorem dX4_sites_18 : decode cX4_sites 18 = .ok (.if_icmp .le 5, 3) := by decide +kernel
theorem dX4_sites_21 : decode cX4_sites 21 = .ok (.iconst (-1), 1) := by decide +kernel
theorem dX4_sites_22 : decode cX4_sites 22 = .ok (.ireturn, 1) := by decide +kernel
theorem dX4_sites_23 : decode cX4_sites 23 = .ok (.aload_n 0, 1) := by decide +kernel
theorem dX4_sites_24 : decode cX4_sites 24 = .ok (.getfield 25, 3) := by decide +kernel
theorem dX4_sites_27 : decode cX4_sites 27 = .ok (.invokevirtual 38, 3) := by decide +kernel
theorem dX4_sites_30 : decode cX4_sites 30 = .ok (.ifCond .eq 13, 3) := by decide +kernel
theorem dX4_sites_33 : decode cX4_sites 33 = .ok (.aload_n 0, 1) := by decide +kernel
theorem dX4_sites_34 : decode cX4_sites 34 = .ok (.getfield 29, 3) := by decide +kernel
theorem dX4_sites_37 : decode cX4_sites 37 = .ok (.invokevirtual 38, 3) := by decide +kernel
theorem dX4_sites_40 : decode cX4_sites 40 = .ok (.ifCond .ne 6, 3) := by decide +kernel
theorem dX4_sites_43 : decode cX4_sites 43 = .ok (.bipush (-2), 2) := by decide +kernel
theorem dX4_sites_45 : decode cX4_sites 45 = .ok (.ireturn, 1) := by decide +kernel
theorem dX4_sites_46 : decode cX4_sites 46 = .ok (.aload_n 0, 1) := by decide +kernel
theorem dX4_sites_47 : decode cX4_sites 47 = .ok (.iload_n 1, 1) := by decide +kernel
theorem dX4_sites_48 : decode cX4_sites 48 = .ok (.putfield 15, 3) := by decide +kernel
theorem dX4_sites_51 : decode cX4_sites 51 = .ok (.aload_n 0, 1) := by decide +kernel
theorem dX4_sites_52 : decode cX4_sites 52 = .ok (.iload_n 2, 1) := by decide +kernel
theorem dX4_sites_53 : decode cX4_sites 53 = .ok (.putfield 19, 3) := by decide +kernel
theorem dX4_sites_56 : decode cX4_sites 56 = .ok (.iconst 1, 1) := by decide +kernel
theorem dX4_sites_57 : decode cX4_sites 57 = .ok (.ireturn, 1) := by decide +kernel
theorem dX4_thing_0 : decode cX4_thing 0 = .ok (.aload_n 0, 1) := by decide +kernel
theorem dX4_thing_1 : decode cX4_thing 1 = .ok (.iload_n 1, 1) := by decide +kernel
theorem dX4_thing_2 : decode cX4_thing 2 = .ok (.invokevirtual 42, 3) := by decide +kernel
theorem dX4_thing_5 : decode cX4_thing 5 = .ok (.astore_n 3, 1) := by decide +kernel
theorem dX4_thing_6 : decode cX4_thing 6 = .ok (.aload_n 3, 1) := by decide +kernel
theorem dX4_thing_7 : decode cX4_thing 7 = .ok (.ifnonnull 5, 3) := by decide +kernel
theorem dX4_thing_10 : decode cX4_thing 10 = .ok (.iconst (-1), 1) := by decide +kernel
theorem dX4_thing_11 : decode cX4_thing 11 = .ok (.ireturn, 1) := by decide +kernel
theorem dX4_thing_12 : decode cX4_thing 12 = .ok (.aload_n 0, 1) := by decide +kernel
theorem dX4_thing_13 : decode cX4_thing 13 = .ok (.getfield 25, 3) := by decide +kernel
theorem dX4_thing_16 : decode cX4_thing 16 = .ok (.invokevirtual 46, 3) := by decide +kernel
theorem dX4_thing_19 : decode cX4_thing 19 = .ok (.istore 4, 2) := by decide +kernel
theorem dX4_thing_21 : decode cX4_thing 21 = .ok (.iload 4, 2) := by decide +kernel
theorem dX4_thing_23 : decode cX4_thing 23 = .ok (.bipush 12, 2) := by decide +kernel
theorem dX4_thing_25 : decode cX4_thing 25 = .ok (.if_icmp .lt 6, 3) := by decide +kernel
theorem dX4_thing_28 : decode cX4_thing 28 = .ok (.bipush (-3), 2) := by decide +kernel
theorem dX4_thing_30 : decode cX4_thing 30 = .ok (.ireturn, 1) := by decide +kernel
theorem dX4_thing_31 : decode cX4_thing 31 = .ok (.aload_n 0, 1) := by decide +kernel
theorem dX4_thing_32 : decode cX4_thing 32 = .ok (.getfield 25, 3) := by decide +kernel
theorem dX4_thing_35 : decode cX4_thing 35 = .ok (.new 50, 3) := by decide +kernel
theorem dX4_thing_38 : decode cX4_thing 38 = .ok (.dup, 1) := by decide +kernel
theorem dX4_thing_39 : decode cX4_thing 39 = .ok (.iload 4, 2) := by decide +kernel
theorem dX4_thing_41 : decode cX4_thing 41 = .ok (.aload_n 3, 1) := by decide +kernel
theorem dX4_thing_42 : decode cX4_thing 42 = .ok (.iload_n 2, 1) := by decide +kernel
theorem dX4_thing_43 : decode cX4_thing 43 = .ok (.invokespecial 52, 3) := by decide +kernel
theorem dX4_thing_46 : decode cX4_thing 46 = .ok (.invokevirtual 55, 3) := by decide +kernel
theorem dX4_thing_49 : decode cX4_thing 49 = .ok (.pop, 1) := by decide +kernel
theorem dX4_thing_50 : decode cX4_thing 50 = .ok (.iload 4, 2) := by decide +kernel
theorem dX4_thing_52 : decode cX4_thing 52 = .ok (.ireturn, 1) := by decide +kernel
theorem dX4_begin_0 : decode cX4_begin 0 = .ok (.aload_n 0, 1) := by decide +kernel
theorem dX4_begin_1 : decode cX4_begin 1 = .ok (.iload_n 1, 1) := by decide +kernel
theorem dX4_begin_2 : decode cX4_begin 2 = .ok (.invokevirtual 42, 3) := by decide +kernel
theorem dX4_begin_5 : decode cX4_begin 5 = .ok (.astore_n 2, 1) := by decide +kernel
theorem dX4_begin_6 : decode cX4_begin 6 = .ok (.aload_n 2, 1) := by decide +kernel
theorem dX4_begin_7 : decode cX4_begin 7 = .ok (.ifnonnull 5, 3) := by decide +kernel
theorem dX4_begin_10 : decode cX4_begin 10 = .ok (.iconst (-1), 1) := by decide +kernel
theorem dX4_begin_11 : decode cX4_begin 11 = .ok (.ireturn, 1) := by decide +kernel
theorem dX4_begin_12 : decode cX4_begin 12 = .ok (.aload_n 0, 1) := by decide +kernel
theorem dX4_begin_13 : decode cX4_begin 13 = .ok (.getfield 29, 3) := by decide +kernel
theorem dX4_begin_16 : decode cX4_begin 16 = .ok (.invokevirtual 46, 3) := by decide +kernel
theorem dX4_begin_19 : decode cX4_begin 19 = .ok (.istore_n 3, 1) := by decide +kernel
theorem dX4_begin_20 : decode cX4_begin 20 = .ok (.iload_n 3, 1) := by decide +kernel
theorem dX4_begin_21 : decode cX4_begin 21 = .ok (.sipush 150, 3) := by decide +kernel
theorem dX4_begin_24 : decode cX4_begin 24 = .ok (.if_icmp .lt 6, 3) := by decide +kernel
theorem dX4_begin_27 : decode cX4_begin 27 = .ok (.bipush (-3), 2) := by decide +kernel
theorem dX4_begin_29 : decode cX4_begin 29 = .ok (.ireturn, 1) := by decide +kernel
theorem dX4_begin_30 : decode cX4_begin 30 = .ok (.aload_n 0, 1) := by decide +kernel
theorem dX4_begin_31 : decode cX4_begin 31 = .ok (.getfield 29, 3) := by decide +kernel
theorem dX4_begin_34 : decode cX4_begin 34 = .ok (.new 59, 3) := by decide +kernel
theorem dX4_begin_37 : decode cX4_begin 37 = .ok (.dup, 1) := by decide +kernel
theorem dX4_begin_38 : decode cX4_begin 38 = .ok (.iload_n 3, 1) := by decide +kernel
theorem dX4_begin_39 : decode cX4_begin 39 = .ok (.aload_n 2, 1) := by decide +kernel
theorem dX4_begin_40 : decode cX4_begin 40 = .ok (.invokespecial 61, 3) := by decide +kernel
theorem dX4_begin_43 : decode cX4_begin 43 = .ok (.invokevirtual 55, 3) := by decide +kernel
theorem dX4_begin_46 : decode cX4_begin 46 = .ok (.pop, 1) := by decide +kernel
theorem dX4_begin_47 : decode cX4_begin 47 = .ok (.iload_n 3, 1) := by decide +kernel
theorem dX4_begin_48 : decode cX4_begin 48 = .ok (.ireturn, 1) := by decide +kernel
theorem dX4_read_0 : decode cX4_read 0 = .ok (.aload_n 0, 1) := by decide +kernel
theorem dX4_read_1 : decode cX4_read 1 = .ok (.iload_n 1, 1) := by decide +kernel
theorem dX4_read_2 : decode cX4_read 2 = .ok (.invokevirtual 64, 3) := by decide +kernel
theorem dX4_read_5 : decode cX4_read 5 = .ok (.astore_n 3, 1) := by decide +kernel
theorem dX4_read_6 : decode cX4_read 6 = .ok (.aload_n 0, 1) := by decide +kernel
theorem dX4_read_7 : decode cX4_read 7 = .ok (.iload_n 2, 1) := by decide +kernel
theorem dX4_read_8 : decode cX4_read 8 = .ok (.invokevirtual 68, 3) := by decide +kernel
theorem dX4_read_11 : decode cX4_read 11 = .ok (.astore 4, 2) := by decide +kernel
theorem dX4_read_13 : decode cX4_read 13 = .ok (.aload_n 3, 1) := by decide +kernel
theorem dX4_read_14 : decode cX4_read 14 = .ok (.ifnull 8, 3) := by decide +kernel
theorem dX4_read_17 : decode cX4_read 17 = .ok (.aload 4, 2) := by decide +kernel
theorem dX4_read_19 : decode cX4_read 19 = .ok (.ifnonnull 5, 3) := by decide +kernel
theorem dX4_read_22 : decode cX4_read 22 = .ok (.lconst 0, 1) := by decide +kernel
theorem dX4_read_23 : decode cX4_read 23 = .ok (.lreturn, 1) := by decide +kernel
theorem dX4_read_24 : decode cX4_read 24 = .ok (.aload_n 3, 1) := by decide +kernel
theorem dX4_read_25 : decode cX4_read 25 = .ok (.getfield 72, 3) := by decide +kernel
theorem dX4_read_28 : decode cX4_read 28 = .ok (.aload 4, 2) := by decide +kernel
theorem dX4_read_30 : decode cX4_read 30 = .ok (.getfield 76, 3) := by decide +kernel
theorem dX4_read_33 : decode cX4_read 33 = .ok (.baload, 1) := by decide +kernel
theorem dX4_read_34 : decode cX4_read 34 = .ok (.ifCond .eq 16, 3) := by decide +kernel
theorem dX4_read_37 : decode cX4_read 37 = .ok (.aload_n 3, 1) := by decide +kernel
theorem dX4_read_38 : decode cX4_read 38 = .ok (.getfield 79, 3) := by decide +kernel
theorem dX4_read_41 : decode cX4_read 41 = .ok (.aload 4, 2) := by decide +kernel
theorem dX4_read_43 : decode cX4_read 43 = .ok (.getfield 76, 3) := by decide +kernel
theorem dX4_read_46 : decode cX4_read 46 = .ok (.laload, 1) := by decide +kernel
theorem dX4_read_47 : decode cX4_read 47 = .ok (.goto 16, 3) := by decide +kernel
theorem dX4_read_50 : decode cX4_read 50 = .ok (.aload_n 3, 1) := by decide +kernel
theorem dX4_read_51 : decode cX4_read 51 = .ok (.getfield 83, 3) := by decide +kernel
theorem dX4_read_54 : decode cX4_read 54 = .ok (.aload 4, 2) := by decide +kernel
theorem dX4_read_56 : decode cX4_read 56 = .ok (.aload_n 3, 1) := by decide +kernel
theorem dX4_read_57 : decode cX4_read 57 = .ok (.getfield 87, 3) := by decide +kernel
theorem dX4_read_60 : decode cX4_read 60 = .ok (.invokevirtual 91, 3) := by decide +kernel
theorem dX4_read_63 : decode cX4_read 63 = .ok (.lreturn, 1) := by decide +kernel
theorem dX4_counted_0 : decode cX4_counted 0 = .ok (.aload_n 0, 1) := by decide +kernel
theorem dX4_counted_1 : decode cX4_counted 1 = .ok (.iload_n 1, 1) := by decide +kernel
theorem dX4_counted_2 : decode cX4_counted 2 = .ok (.invokevirtual 64, 3) := by decide +kernel
theorem dX4_counted_5 : decode cX4_counted 5 = .ok (.astore 4, 2) := by decide +kernel
theorem dX4_counted_7 : decode cX4_counted 7 = .ok (.aload_n 0, 1) := by decide +kernel
theorem dX4_counted_8 : decode cX4_counted 8 = .ok (.iload_n 2, 1) := by decide +kernel
theorem dX4_counted_9 : decode cX4_counted 9 = .ok (.invokevirtual 95, 3) := by decide +kernel
theorem dX4_counted_12 : decode cX4_counted 12 = .ok (.astore 5, 2) := by decide +kernel
theorem dX4_counted_14 : decode cX4_counted 14 = .ok (.aload 4, 2) := by decide +kernel
theorem dX4_counted_16 : decode cX4_counted 16 = .ok (.ifnull 15, 3) := by decide +kernel
theorem dX4_counted_19 : decode cX4_counted 19 = .ok (.aload 5, 2) := by decide +kernel
theorem dX4_counted_21 : decode cX4_counted 21 = .ok (.ifnull 10, 3) := by decide +kernel
theorem dX4_counted_24 : decode cX4_counted 24 = .ok (.iload_n 3, 1) := by decide +kernel
theorem dX4_counted_25 : decode cX4_counted 25 = .ok (.invokestatic 98, 3) := by decide +kernel
theorem dX4_counted_28 : decode cX4_counted 28 = .ok (.ifCond .ne 5, 3) := by decide +kernel
theorem dX4_counted_31 : decode cX4_counted 31 = .ok (.lconst 0, 1) := by decide +kernel
theorem dX4_counted_32 : decode cX4_counted 32 = .ok (.lreturn, 1) := by decide +kernel
theorem dX4_counted_33 : decode cX4_counted 33 = .ok (.aload 5, 2) := by decide +kernel
theorem dX4_counted_35 : decode cX4_counted 35 = .ok (.iload_n 3, 1) := by decide +kernel
theorem dX4_counted_36 : decode cX4_counted 36 = .ok (.invokevirtual 102, 3) := by decide +kernel
theorem dX4_counted_39 : decode cX4_counted 39 = .ok (.istore 6, 2) := by decide +kernel
theorem dX4_counted_41 : decode cX4_counted 41 = .ok (.aload 4, 2) := by decide +kernel
theorem dX4_counted_43 : decode cX4_counted 43 = .ok (.getfield 106, 3) := by decide +kernel
theorem dX4_counted_46 : decode cX4_counted 46 = .ok (.iload 6, 2) := by decide +kernel
theorem dX4_counted_48 : decode cX4_counted 48 = .ok (.laload, 1) := by decide +kernel
theorem dX4_counted_49 : decode cX4_counted 49 = .ok (.aload 4, 2) := by decide +kernel
theorem dX4_counted_51 : decode cX4_counted 51 = .ok (.getfield 83, 3) := by decide +kernel
theorem dX4_counted_54 : decode cX4_counted 54 = .ok (.iload 6, 2) := by decide +kernel
theorem dX4_counted_56 : decode cX4_counted 56 = .ok (.aload 4, 2) := by decide +kernel
theorem dX4_counted_58 : decode cX4_counted 58 = .ok (.getfield 87, 3) := by decide +kernel
theorem dX4_counted_61 : decode cX4_counted 61 = .ok (.invokevirtual 109, 3) := by decide +kernel
theorem dX4_counted_64 : decode cX4_counted 64 = .ok (.ladd, 1) := by decide +kernel
theorem dX4_counted_65 : decode cX4_counted 65 = .ok (.lreturn, 1) := by decide +kernel
theorem dX4_write_0 : decode cX4_write 0 = .ok (.aload_n 0, 1) := by decide +kernel
theorem dX4_write_1 : decode cX4_write 1 = .ok (.iload_n 1, 1) := by decide +kernel
theorem dX4_write_2 : decode cX4_write 2 = .ok (.invokevirtual 64, 3) := by decide +kernel
theorem dX4_write_5 : decode cX4_write 5 = .ok (.astore 5, 2) := by decide +kernel
theorem dX4_write_7 : decode cX4_write 7 = .ok (.aload_n 0, 1) := by decide +kernel
theorem dX4_write_8 : decode cX4_write 8 = .ok (.iload_n 2, 1) := by decide +kernel
theorem dX4_write_9 : decode cX4_write 9 = .ok (.invokevirtual 68, 3) := by decide +kernel
theorem dX4_write_12 : decode cX4_write 12 = .ok (.astore 6, 2) := by decide +kernel
theorem dX4_write_14 : decode cX4_write 14 = .ok (.aload 5, 2) := by decide +kernel
theorem dX4_write_16 : decode cX4_write 16 = .ok (.ifnull 8, 3) := by decide +kernel
theorem dX4_write_19 : decode cX4_write 19 = .ok (.aload 6, 2) := by decide +kernel
theorem dX4_write_21 : decode cX4_write 21 = .ok (.ifnonnull 5, 3) := by decide +kernel
theorem dX4_write_24 : decode cX4_write 24 = .ok (.iconst (-1), 1) := by decide +kernel
theorem dX4_write_25 : decode cX4_write 25 = .ok (.ireturn, 1) := by decide +kernel
theorem dX4_write_26 : decode cX4_write 26 = .ok (.aload 5, 2) := by decide +kernel
theorem dX4_write_28 : decode cX4_write 28 = .ok (.getfield 113, 3) := by decide +kernel
theorem dX4_write_31 : decode cX4_write 31 = .ok (.ifCond .eq 6, 3) := by decide +kernel
theorem dX4_write_34 : decode cX4_write 34 = .ok (.bipush (-2), 2) := by decide +kernel
theorem dX4_write_36 : decode cX4_write 36 = .ok (.ireturn, 1) := by decide +kernel
theorem dX4_write_37 : decode cX4_write 37 = .ok (.aload 5, 2) := by decide +kernel
theorem dX4_write_39 : decode cX4_write 39 = .ok (.aload 6, 2) := by decide +kernel
theorem dX4_write_41 : decode cX4_write 41 = .ok (.lload_n 3, 1) := by decide +kernel
theorem dX4_write_42 : decode cX4_write 42 = .ok (.invokevirtual 116, 3) := by decide +kernel
theorem dX4_write_45 : decode cX4_write 45 = .ok (.aload 5, 2) := by decide +kernel
theorem dX4_write_47 : decode cX4_write 47 = .ok (.getfield 120, 3) := by decide +kernel
theorem dX4_write_50 : decode cX4_write 50 = .ok (.ireturn, 1) := by decide +kernel
theorem dX4_add_0 : decode cX4_add 0 = .ok (.aload_n 0, 1) := by decide +kernel
theorem dX4_add_1 : decode cX4_add 1 = .ok (.iload_n 1, 1) := by decide +kernel
theorem dX4_add_2 : decode cX4_add 2 = .ok (.invokevirtual 64, 3) := by decide +kernel
theorem dX4_add_5 : decode cX4_add 5 = .ok (.astore 5, 2) := by decide +kernel
theorem dX4_add_7 : decode cX4_add 7 = .ok (.aload_n 0, 1) := by decide +kernel
theorem dX4_add_8 : decode cX4_add 8 = .ok (.iload_n 2, 1) := by decide +kernel
theorem dX4_add_9 : decode cX4_add 9 = .ok (.invokevirtual 95, 3) := by decide +kernel
theorem dX4_add_12 : decode cX4_add 12 = .ok (.astore 6, 2) := by decide +kernel
theorem dX4_add_14 : decode cX4_add 14 = .ok (.aload 5, 2) := by decide +kernel
theorem dX4_add_16 : decode cX4_add 16 = .ok (.ifnull 15, 3) := by decide +kernel
theorem dX4_add_19 : decode cX4_add 19 = .ok (.aload 6, 2) := by decide +kernel
theorem dX4_add_21 : decode cX4_add 21 = .ok (.ifnull 10, 3) := by decide +kernel
theorem dX4_add_24 : decode cX4_add 24 = .ok (.iload_n 3, 1) := by decide +kernel
theorem dX4_add_25 : decode cX4_add 25 = .ok (.invokestatic 98, 3) := by decide +kernel
theorem dX4_add_28 : decode cX4_add 28 = .ok (.ifCond .ne 5, 3) := by decide +kernel
theorem dX4_add_31 : decode cX4_add 31 = .ok (.iconst (-1), 1) := by decide +kernel
theorem dX4_add_32 : decode cX4_add 32 = .ok (.ireturn, 1) := by decide +kernel
theorem dX4_add_33 : decode cX4_add 33 = .ok (.aload 5, 2) := by decide +kernel
theorem dX4_add_35 : decode cX4_add 35 = .ok (.getfield 113, 3) := by decide +kernel
theorem dX4_add_38 : decode cX4_add 38 = .ok (.ifCond .eq 6, 3) := by decide +kernel
theorem dX4_add_41 : decode cX4_add 41 = .ok (.bipush (-2), 2) := by decide +kernel
theorem dX4_add_43 : decode cX4_add 43 = .ok (.ireturn, 1) := by decide +kernel
theorem dX4_add_44 : decode cX4_add 44 = .ok (.aload 5, 2) := by decide +kernel
theorem dX4_add_46 : decode cX4_add 46 = .ok (.aload 6, 2) := by decide +kernel
theorem dX4_add_48 : decode cX4_add 48 = .ok (.iload_n 3, 1) := by decide +kernel
theorem dX4_add_49 : decode cX4_add 49 = .ok (.invokevirtual 102, 3) := by decide +kernel
theorem dX4_add_52 : decode cX4_add 52 = .ok (.iload 4, 2) := by decide +kernel
theorem dX4_add_54 : decode cX4_add 54 = .ok (.invokevirtual 123, 3) := by decide +kernel
theorem dX4_add_57 : decode cX4_add 57 = .ok (.iconst 1, 1) := by decide +kernel
theorem dX4_add_58 : decode cX4_add 58 = .ok (.ireturn, 1) := by decide +kernel
theorem dX4_commit_0 : decode cX4_commit 0 = .ok (.aload_n 0, 1) := by decide +kernel
theorem dX4_commit_1 : decode cX4_commit 1 = .ok (.iload_n 1, 1) := by decide +kernel
theorem dX4_commit_2 : decode cX4_commit 2 = .ok (.invokevirtual 64, 3) := by decide +kernel
theorem dX4_commit_5 : decode cX4_commit 5 = .ok (.astore_n 2, 1) := by decide +kernel
theorem dX4_commit_6 : decode cX4_commit 6 = .ok (.aload_n 2, 1) := by decide +kernel
theorem dX4_commit_7 : decode cX4_commit 7 = .ok (.ifnonnull 5, 3) := by decide +kernel
theorem dX4_commit_10 : decode cX4_commit 10 = .ok (.iconst (-1), 1) := by decide +kernel
theorem dX4_commit_11 : decode cX4_commit 11 = .ok (.ireturn, 1) := by decide +kernel
theorem dX4_commit_12 : decode cX4_commit 12 = .ok (.aload_n 2, 1) := by decide +kernel
theorem dX4_commit_13 : decode cX4_commit 13 = .ok (.getfield 113, 3) := by decide +kernel
theorem dX4_commit_16 : decode cX4_commit 16 = .ok (.ifCond .eq 6, 3) := by decide +kernel
theorem dX4_commit_19 : decode cX4_commit 19 = .ok (.bipush (-2), 2) := by decide +kernel
theorem dX4_commit_21 : decode cX4_commit 21 = .ok (.ireturn, 1) := by decide +kernel
theorem dX4_commit_22 : decode cX4_commit 22 = .ok (.aload_n 0, 1) := by decide +kernel
theorem dX4_commit_23 : decode cX4_commit 23 = .ok (.aload_n 2, 1) := by decide +kernel
theorem dX4_commit_24 : decode cX4_commit 24 = .ok (.aload_n 2, 1) := by decide +kernel
theorem dX4_commit_25 : decode cX4_commit 25 = .ok (.getfield 83, 3) := by decide +kernel
theorem dX4_commit_28 : decode cX4_commit 28 = .ok (.invokevirtual 127, 3) := by decide +kernel
theorem dX4_commit_31 : decode cX4_commit 31 = .ok (.ifCond .ne 11, 3) := by decide +kernel
theorem dX4_commit_34 : decode cX4_commit 34 = .ok (.aload_n 2, 1) := by decide +kernel
theorem dX4_commit_35 : decode cX4_commit 35 = .ok (.iconst 3, 1) := by decide +kernel
theorem dX4_commit_36 : decode cX4_commit 36 = .ok (.putfield 113, 3) := by decide +kernel
theorem dX4_commit_39 : decode cX4_commit 39 = .ok (.goto 43, 3) := by decide +kernel
theorem dX4_commit_42 : decode cX4_commit 42 = .ok (.aload_n 0, 1) := by decide +kernel
theorem dX4_commit_43 : decode cX4_commit 43 = .ok (.aload_n 2, 1) := by decide +kernel
theorem dX4_commit_44 : decode cX4_commit 44 = .ok (.invokevirtual 131, 3) := by decide +kernel
theorem dX4_commit_47 : decode cX4_commit 47 = .ok (.ifCond .eq 30, 3) := by decide +kernel
theorem dX4_commit_50 : decode cX4_commit 50 = .ok (.aload_n 0, 1) := by decide +kernel
theorem dX4_commit_51 : decode cX4_commit 51 = .ok (.aload_n 2, 1) := by decide +kernel
theorem dX4_commit_52 : decode cX4_commit 52 = .ok (.aload_n 2, 1) := by decide +kernel
theorem dX4_commit_53 : decode cX4_commit 53 = .ok (.getfield 83, 3) := by decide +kernel
theorem dX4_commit_56 : decode cX4_commit 56 = .ok (.invokevirtual 135, 3) := by decide +kernel
theorem dX4_commit_59 : decode cX4_commit 59 = .ok (.aload_n 2, 1) := by decide +kernel
theorem dX4_commit_60 : decode cX4_commit 60 = .ok (.iconst 1, 1) := by decide +kernel
theorem dX4_commit_61 : decode cX4_commit 61 = .ok (.putfield 113, 3) := by decide +kernel
theorem dX4_commit_64 : decode cX4_commit 64 = .ok (.aload_n 2, 1) := by decide +kernel
theorem dX4_commit_65 : decode cX4_commit 65 = .ok (.aload_n 0, 1) := by decide +kernel
theorem dX4_commit_66 : decode cX4_commit 66 = .ok (.aload_n 2, 1) := by decide +kernel
theorem dX4_commit_67 : decode cX4_commit 67 = .ok (.iconst 0, 1) := by decide +kernel
theorem dX4_commit_68 : decode cX4_commit 68 = .ok (.invokevirtual 139, 3) := by decide +kernel
theorem dX4_commit_71 : decode cX4_commit 71 = .ok (.putfield 143, 3) := by decide +kernel
theorem dX4_commit_74 : decode cX4_commit 74 = .ok (.goto 8, 3) := by decide +kernel
theorem dX4_commit_77 : decode cX4_commit 77 = .ok (.aload_n 0, 1) := by decide +kernel
theorem dX4_commit_78 : decode cX4_commit 78 = .ok (.aload_n 2, 1) := by decide +kernel
theorem dX4_commit_79 : decode cX4_commit 79 = .ok (.invokevirtual 146, 3) := by decide +kernel
theorem dX4_commit_82 : decode cX4_commit 82 = .ok (.aload_n 2, 1) := by decide +kernel
theorem dX4_commit_83 : decode cX4_commit 83 = .ok (.getfield 113, 3) := by decide +kernel
theorem dX4_commit_86 : decode cX4_commit 86 = .ok (.ireturn, 1) := by decide +kernel
theorem dX4_abort_0 : decode cX4_abort 0 = .ok (.aload_n 0, 1) := by decide +kernel
theorem dX4_abort_1 : decode cX4_abort 1 = .ok (.iload_n 1, 1) := by decide +kernel
theorem dX4_abort_2 : decode cX4_abort 2 = .ok (.invokevirtual 64, 3) := by decide +kernel
theorem dX4_abort_5 : decode cX4_abort 5 = .ok (.astore_n 2, 1) := by decide +kernel
theorem dX4_abort_6 : decode cX4_abort 6 = .ok (.aload_n 2, 1) := by decide +kernel
theorem dX4_abort_7 : decode cX4_abort 7 = .ok (.ifnonnull 5, 3) := by decide +kernel
theorem dX4_abort_10 : decode cX4_abort 10 = .ok (.iconst (-1), 1) := by decide +kernel
theorem dX4_abort_11 : decode cX4_abort 11 = .ok (.ireturn, 1) := by decide +kernel
theorem dX4_abort_12 : decode cX4_abort 12 = .ok (.aload_n 2, 1) := by decide +kernel
theorem dX4_abort_13 : decode cX4_abort 13 = .ok (.getfield 113, 3) := by decide +kernel
theorem dX4_abort_16 : decode cX4_abort 16 = .ok (.ifCond .eq 6, 3) := by decide +kernel
theorem dX4_abort_19 : decode cX4_abort 19 = .ok (.bipush (-2), 2) := by decide +kernel
theorem dX4_abort_21 : decode cX4_abort 21 = .ok (.ireturn, 1) := by decide +kernel
theorem dX4_abort_22 : decode cX4_abort 22 = .ok (.aload_n 2, 1) := by decide +kernel
theorem dX4_abort_23 : decode cX4_abort 23 = .ok (.iconst 3, 1) := by decide +kernel
theorem dX4_abort_24 : decode cX4_abort 24 = .ok (.putfield 113, 3) := by decide +kernel
theorem dX4_abort_27 : decode cX4_abort 27 = .ok (.iconst 1, 1) := by decide +kernel
theorem dX4_abort_28 : decode cX4_abort 28 = .ok (.ireturn, 1) := by decide +kernel
theorem dX4_deliver_0 : decode cX4_deliver 0 = .ok (.aload_n 0, 1) := by decide +kernel
theorem dX4_deliver_1 : decode cX4_deliver 1 = .ok (.iload_n 1, 1) := by decide +kernel
theorem dX4_deliver_2 : decode cX4_deliver 2 = .ok (.invokevirtual 150, 3) := by decide +kernel
theorem dX4_deliver_5 : decode cX4_deliver 5 = .ok (.astore_n 2, 1) := by decide +kernel
theorem dX4_deliver_6 : decode cX4_deliver 6 = .ok (.aload_n 2, 1) := by decide +kernel
theorem dX4_deliver_7 : decode cX4_deliver 7 = .ok (.ifnonnull 5, 3) := by decide +kernel
theorem dX4_deliver_10 : decode cX4_deliver 10 = .ok (.iconst (-1), 1) := by decide +kernel
theorem dX4_deliver_11 : decode cX4_deliver 11 = .ok (.ireturn, 1) := by decide +kernel
theorem dX4_deliver_12 : decode cX4_deliver 12 = .ok (.aload_n 2, 1) := by decide +kernel
theorem dX4_deliver_13 : decode cX4_deliver 13 = .ok (.invokevirtual 154, 3) := by decide +kernel
theorem dX4_deliver_16 : decode cX4_deliver 16 = .ok (.ifCond .ne 6, 3) := by decide +kernel
theorem dX4_deliver_19 : decode cX4_deliver 19 = .ok (.bipush (-2), 2) := by decide +kernel
theorem dX4_deliver_21 : decode cX4_deliver 21 = .ok (.ireturn, 1) := by decide +kernel
theorem dX4_deliver_22 : decode cX4_deliver 22 = .ok (.aload_n 0, 1) := by decide +kernel
theorem dX4_deliver_23 : decode cX4_deliver 23 = .ok (.getfield 32, 3) := by decide +kernel
theorem dX4_deliver_26 : decode cX4_deliver 26 = .ok (.iload_n 1, 1) := by decide +kernel
theorem dX4_deliver_27 : decode cX4_deliver 27 = .ok (.invokevirtual 159, 3) := by decide +kernel
theorem dX4_deliver_30 : decode cX4_deliver 30 = .ok (.pop, 1) := by decide +kernel
theorem dX4_deliver_31 : decode cX4_deliver 31 = .ok (.aload_n 0, 1) := by decide +kernel
theorem dX4_deliver_32 : decode cX4_deliver 32 = .ok (.aload_n 2, 1) := by decide +kernel
theorem dX4_deliver_33 : decode cX4_deliver 33 = .ok (.invokevirtual 163, 3) := by decide +kernel
theorem dX4_deliver_36 : decode cX4_deliver 36 = .ok (.aload_n 2, 1) := by decide +kernel
theorem dX4_deliver_37 : decode cX4_deliver 37 = .ok (.getfield 167, 3) := by decide +kernel
theorem dX4_deliver_40 : decode cX4_deliver 40 = .ok (.ireturn, 1) := by decide +kernel
theorem dX4_all_0 : decode cX4_all 0 = .ok (.iload_n 1, 1) := by decide +kernel
theorem dX4_all_1 : decode cX4_all 1 = .ok (.ifCond .lt 10, 3) := by decide +kernel
theorem dX4_all_4 : decode cX4_all 4 = .ok (.iload_n 1, 1) := by decide +kernel
theorem dX4_all_5 : decode cX4_all 5 = .ok (.sipush 500, 3) := by decide +kernel
theorem dX4_all_8 : decode cX4_all 8 = .ok (.if_icmp .le 5, 3) := by decide +kernel
theorem dX4_all_11 : decode cX4_all 11 = .ok (.iconst (-1), 1) := by decide +kernel
theorem dX4_all_12 : decode cX4_all 12 = .ok (.ireturn, 1) := by decide +kernel
theorem dX4_all_13 : decode cX4_all 13 = .ok (.iconst 0, 1) := by decide +kernel
theorem dX4_all_14 : decode cX4_all 14 = .ok (.istore_n 2, 1) := by decide +kernel
theorem dX4_all_15 : decode cX4_all 15 = .ok (.iload_n 2, 1) := by decide +kernel
theorem dX4_all_16 : decode cX4_all 16 = .ok (.iload_n 1, 1) := by decide +kernel
theorem dX4_all_17 : decode cX4_all 17 = .ok (.if_icmp .ge 43, 3) := by decide +kernel
theorem dX4_all_20 : decode cX4_all 20 = .ok (.aload_n 0, 1) := by decide +kernel
theorem dX4_all_21 : decode cX4_all 21 = .ok (.invokevirtual 170, 3) := by decide +kernel
theorem dX4_all_24 : decode cX4_all 24 = .ok (.istore_n 3, 1) := by decide +kernel
theorem dX4_all_25 : decode cX4_all 25 = .ok (.aload_n 0, 1) := by decide +kernel
theorem dX4_all_26 : decode cX4_all 26 = .ok (.iload_n 3, 1) := by decide +kernel
theorem dX4_all_27 : decode cX4_all 27 = .ok (.invokevirtual 150, 3) := by decide +kernel
theorem dX4_all_30 : decode cX4_all 30 = .ok (.astore 4, 2) := by decide +kernel
theorem dX4_all_32 : decode cX4_all 32 = .ok (.aload 4, 2) := by decide +kernel
theorem dX4_all_34 : decode cX4_all 34 = .ok (.ifnonnull 5, 3) := by decide +kernel
theorem dX4_all_37 : decode cX4_all 37 = .ok (.iload_n 2, 1) := by decide +kernel
theorem dX4_all_38 : decode cX4_all 38 = .ok (.ireturn, 1) := by decide +kernel
theorem dX4_all_39 : decode cX4_all 39 = .ok (.aload_n 0, 1) := by decide +kernel
theorem dX4_all_40 : decode cX4_all 40 = .ok (.getfield 32, 3) := by decide +kernel
theorem dX4_all_43 : decode cX4_all 43 = .ok (.iload_n 3, 1) := by decide +kernel
theorem dX4_all_44 : decode cX4_all 44 = .ok (.invokevirtual 159, 3) := by decide +kernel
theorem dX4_all_47 : decode cX4_all 47 = .ok (.pop, 1) := by decide +kernel
theorem dX4_all_48 : decode cX4_all 48 = .ok (.aload_n 0, 1) := by decide +kernel
theorem dX4_all_49 : decode cX4_all 49 = .ok (.aload 4, 2) := by decide +kernel
theorem dX4_all_51 : decode cX4_all 51 = .ok (.invokevirtual 163, 3) := by decide +kernel
theorem dX4_all_54 : decode cX4_all 54 = .ok (.iinc 2 1, 3) := by decide +kernel
theorem dX4_all_57 : decode cX4_all 57 = .ok (.goto (-42), 3) := by decide +kernel
theorem dX4_all_60 : decode cX4_all 60 = .ok (.iload_n 1, 1) := by decide +kernel
theorem dX4_all_61 : decode cX4_all 61 = .ok (.ireturn, 1) := by decide +kernel
theorem dX4_message_0 : decode cX4_message 0 = .ok (.aload_n 0, 1) := by decide +kernel
theorem dX4_message_1 : decode cX4_message 1 = .ok (.iload_n 1, 1) := by decide +kernel
theorem dX4_message_2 : decode cX4_message 2 = .ok (.invokevirtual 150, 3) := by decide +kernel
theorem dX4_message_5 : decode cX4_message 5 = .ok (.astore_n 3, 1) := by decide +kernel
theorem dX4_message_6 : decode cX4_message 6 = .ok (.aload_n 3, 1) := by decide +kernel
theorem dX4_message_7 : decode cX4_message 7 = .ok (.ifnonnull 5, 3) := by decide +kernel
theorem dX4_message_10 : decode cX4_message 10 = .ok (.iconst (-1), 1) := by decide +kernel
theorem dX4_message_11 : decode cX4_message 11 = .ok (.ireturn, 1) := by decide +kernel
theorem dX4_message_12 : decode cX4_message 12 = .ok (.iload_n 2, 1) := by decide +kernel
theorem dX4_message_13 : decode cX4_message 13 = .ok (.tableswitch 72 0 4 #[35, 40, 48, 56, 64], 35) := by decide +kernel
theorem dX4_message_48 : decode cX4_message 48 = .ok (.aload_n 3, 1) := by decide +kernel
theorem dX4_message_49 : decode cX4_message 49 = .ok (.getfield 167, 3) := by decide +kernel
theorem dX4_message_52 : decode cX4_message 52 = .ok (.ireturn, 1) := by decide +kernel
theorem dX4_message_53 : decode cX4_message 53 = .ok (.aload_n 3, 1) := by decide +kernel
theorem dX4_message_54 : decode cX4_message 54 = .ok (.getfield 173, 3) := by decide +kernel
theorem dX4_message_57 : decode cX4_message 57 = .ok (.getfield 176, 3) := by decide +kernel
theorem dX4_message_60 : decode cX4_message 60 = .ok (.ireturn, 1) := by decide +kernel
theorem dX4_message_61 : decode cX4_message 61 = .ok (.aload_n 3, 1) := by decide +kernel
theorem dX4_message_62 : decode cX4_message 62 = .ok (.getfield 177, 3) := by decide +kernel
theorem dX4_message_65 : decode cX4_message 65 = .ok (.getfield 176, 3) := by decide +kernel
theorem dX4_message_68 : decode cX4_message 68 = .ok (.ireturn, 1) := by decide +kernel
theorem dX4_message_69 : decode cX4_message 69 = .ok (.aload_n 3, 1) := by decide +kernel
theorem dX4_message_70 : decode cX4_message 70 = .ok (.getfield 180, 3) := by decide +kernel
theorem dX4_message_73 : decode cX4_message 73 = .ok (.getfield 184, 3) := by decide +kernel
theorem dX4_message_76 : decode cX4_message 76 = .ok (.ireturn, 1) := by decide +kernel
theorem dX4_message_77 : decode cX4_message 77 = .ok (.aload_n 3, 1) := by decide +kernel
theorem dX4_message_78 : decode cX4_message 78 = .ok (.invokevirtual 154, 3) := by decide +kernel
theorem dX4_message_81 : decode cX4_message 81 = .ok (.invokestatic 185, 3) := by decide +kernel
theorem dX4_message_84 : decode cX4_message 84 = .ok (.ireturn, 1) := by decide +kernel
theorem dX4_message_85 : decode cX4_message 85 = .ok (.iconst (-1), 1) := by decide +kernel
theorem dX4_message_86 : decode cX4_message 86 = .ok (.ireturn, 1) := by decide +kernel
theorem dX4_told_0 : decode cX4_told 0 = .ok (.aload_n 0, 1) := by decide +kernel
theorem dX4_told_1 : decode cX4_told 1 = .ok (.iload_n 1, 1) := by decide +kernel
theorem dX4_told_2 : decode cX4_told 2 = .ok (.invokevirtual 64, 3) := by decide +kernel
theorem dX4_told_5 : decode cX4_told 5 = .ok (.astore_n 3, 1) := by decide +kernel
theorem dX4_told_6 : decode cX4_told 6 = .ok (.aload_n 3, 1) := by decide +kernel
theorem dX4_told_7 : decode cX4_told 7 = .ok (.ifnonnull 5, 3) := by decide +kernel
theorem dX4_told_10 : decode cX4_told 10 = .ok (.iconst (-1), 1) := by decide +kernel
theorem dX4_told_11 : decode cX4_told 11 = .ok (.ireturn, 1) := by decide +kernel
theorem dX4_told_12 : decode cX4_told 12 = .ok (.iload_n 2, 1) := by decide +kernel
theorem dX4_told_13 : decode cX4_told 13 = .ok (.tableswitch 107 0 8 #[51, 56, 64, 69, 74, 83, 92, 97, 102], 51) := by decide +kernel
theorem dX4_told_64 : decode cX4_told 64 = .ok (.aload_n 3, 1) := by decide +kernel
theorem dX4_told_65 : decode cX4_told 65 = .ok (.getfield 113, 3) := by decide +kernel
theorem dX4_told_68 : decode cX4_told 68 = .ok (.ireturn, 1) := by decide +kernel
theorem dX4_told_69 : decode cX4_told 69 = .ok (.aload_n 3, 1) := by decide +kernel
theorem dX4_told_70 : decode cX4_told 70 = .ok (.getfield 83, 3) := by decide +kernel
theorem dX4_told_73 : decode cX4_told 73 = .ok (.getfield 176, 3) := by decide +kernel
theorem dX4_told_76 : decode cX4_told 76 = .ok (.ireturn, 1) := by decide +kernel
theorem dX4_told_77 : decode cX4_told 77 = .ok (.aload_n 3, 1) := by decide +kernel
theorem dX4_told_78 : decode cX4_told 78 = .ok (.getfield 189, 3) := by decide +kernel
theorem dX4_told_81 : decode cX4_told 81 = .ok (.ireturn, 1) := by decide +kernel
theorem dX4_told_82 : decode cX4_told 82 = .ok (.aload_n 3, 1) := by decide +kernel
theorem dX4_told_83 : decode cX4_told 83 = .ok (.getfield 192, 3) := by decide +kernel
theorem dX4_told_86 : decode cX4_told 86 = .ok (.ireturn, 1) := by decide +kernel
theorem dX4_told_87 : decode cX4_told 87 = .ok (.aload_n 0, 1) := by decide +kernel
theorem dX4_told_88 : decode cX4_told 88 = .ok (.aload_n 3, 1) := by decide +kernel
theorem dX4_told_89 : decode cX4_told 89 = .ok (.invokevirtual 195, 3) := by decide +kernel
theorem dX4_told_92 : decode cX4_told 92 = .ok (.invokestatic 185, 3) := by decide +kernel
theorem dX4_told_95 : decode cX4_told 95 = .ok (.ireturn, 1) := by decide +kernel
theorem dX4_told_96 : decode cX4_told 96 = .ok (.aload_n 0, 1) := by decide +kernel
theorem dX4_told_97 : decode cX4_told 97 = .ok (.aload_n 3, 1) := by decide +kernel
theorem dX4_told_98 : decode cX4_told 98 = .ok (.invokevirtual 198, 3) := by decide +kernel
theorem dX4_told_101 : decode cX4_told 101 = .ok (.invokestatic 185, 3) := by decide +kernel
theorem dX4_told_104 : decode cX4_told 104 = .ok (.ireturn, 1) := by decide +kernel
theorem dX4_told_105 : decode cX4_told 105 = .ok (.aload_n 3, 1) := by decide +kernel
theorem dX4_told_106 : decode cX4_told 106 = .ok (.getfield 120, 3) := by decide +kernel
theorem dX4_told_109 : decode cX4_told 109 = .ok (.ireturn, 1) := by decide +kernel
theorem dX4_told_110 : decode cX4_told 110 = .ok (.aload_n 3, 1) := by decide +kernel
theorem dX4_told_111 : decode cX4_told 111 = .ok (.getfield 201, 3) := by decide +kernel
theorem dX4_told_114 : decode cX4_told 114 = .ok (.ireturn, 1) := by decide +kernel
theorem dX4_told_115 : decode cX4_told 115 = .ok (.aload_n 3, 1) := by decide +kernel
theorem dX4_told_116 : decode cX4_told 116 = .ok (.getfield 143, 3) := by decide +kernel
theorem dX4_told_119 : decode cX4_told 119 = .ok (.ireturn, 1) := by decide +kernel
theorem dX4_told_120 : decode cX4_told 120 = .ok (.iconst (-1), 1) := by decide +kernel
theorem dX4_told_121 : decode cX4_told 121 = .ok (.ireturn, 1) := by decide +kernel
theorem dX4_start_0 : decode cX4_start 0 = .ok (.aload_n 0, 1) := by decide +kernel
theorem dX4_start_1 : decode cX4_start 1 = .ok (.iload_n 1, 1) := by decide +kernel
theorem dX4_start_2 : decode cX4_start 2 = .ok (.invokevirtual 64, 3) := by decide +kernel
theorem dX4_start_5 : decode cX4_start 5 = .ok (.astore_n 3, 1) := by decide +kernel
theorem dX4_start_6 : decode cX4_start 6 = .ok (.aload_n 0, 1) := by decide +kernel
theorem dX4_start_7 : decode cX4_start 7 = .ok (.iload_n 2, 1) := by decide +kernel
theorem dX4_start_8 : decode cX4_start 8 = .ok (.invokevirtual 42, 3) := by decide +kernel
theorem dX4_start_11 : decode cX4_start 11 = .ok (.astore 4, 2) := by decide +kernel
theorem dX4_start_13 : decode cX4_start 13 = .ok (.aload_n 3, 1) := by decide +kernel
theorem dX4_start_14 : decode cX4_start 14 = .ok (.ifnull 8, 3) := by decide +kernel
theorem dX4_start_17 : decode cX4_start 17 = .ok (.aload 4, 2) := by decide +kernel
theorem dX4_start_19 : decode cX4_start 19 = .ok (.ifnonnull 5, 3) := by decide +kernel
theorem dX4_start_22 : decode cX4_start 22 = .ok (.iconst (-1), 1) := by decide +kernel
theorem dX4_start_23 : decode cX4_start 23 = .ok (.ireturn, 1) := by decide +kernel
theorem dX4_start_24 : decode cX4_start 24 = .ok (.aload_n 3, 1) := by decide +kernel
theorem dX4_start_25 : decode cX4_start 25 = .ok (.getfield 87, 3) := by decide +kernel
theorem dX4_start_28 : decode cX4_start 28 = .ok (.aload 4, 2) := by decide +kernel
theorem dX4_start_30 : decode cX4_start 30 = .ok (.getfield 176, 3) := by decide +kernel
theorem dX4_start_33 : decode cX4_start 33 = .ok (.iaload, 1) := by decide +kernel
theorem dX4_start_34 : decode cX4_start 34 = .ok (.ireturn, 1) := by decide +kernel
theorem dX4_had_0 : decode cX4_had 0 = .ok (.aload_n 0, 1) := by decide +kernel
theorem dX4_had_1 : decode cX4_had 1 = .ok (.iload_n 1, 1) := by decide +kernel
theorem dX4_had_2 : decode cX4_had 2 = .ok (.invokevirtual 42, 3) := by decide +kernel
theorem dX4_had_5 : decode cX4_had 5 = .ok (.astore_n 3, 1) := by decide +kernel
theorem dX4_had_6 : decode cX4_had 6 = .ok (.aload_n 0, 1) := by decide +kernel
theorem dX4_had_7 : decode cX4_had 7 = .ok (.iload_n 2, 1) := by decide +kernel
theorem dX4_had_8 : decode cX4_had 8 = .ok (.invokevirtual 42, 3) := by decide +kernel
theorem dX4_had_11 : decode cX4_had 11 = .ok (.astore 4, 2) := by decide +kernel
theorem dX4_had_13 : decode cX4_had 13 = .ok (.aload_n 3, 1) := by decide +kernel
theorem dX4_had_14 : decode cX4_had 14 = .ok (.ifnull 8, 3) := by decide +kernel
theorem dX4_had_17 : decode cX4_had 17 = .ok (.aload 4, 2) := by decide +kernel
theorem dX4_had_19 : decode cX4_had 19 = .ok (.ifnonnull 5, 3) := by decide +kernel
theorem dX4_had_22 : decode cX4_had 22 = .ok (.iconst (-1), 1) := by decide +kernel
theorem dX4_had_23 : decode cX4_had 23 = .ok (.ireturn, 1) := by decide +kernel
theorem dX4_had_24 : decode cX4_had 24 = .ok (.aload_n 3, 1) := by decide +kernel
theorem dX4_had_25 : decode cX4_had 25 = .ok (.getfield 204, 3) := by decide +kernel
theorem dX4_had_28 : decode cX4_had 28 = .ok (.aload 4, 2) := by decide +kernel
theorem dX4_had_30 : decode cX4_had 30 = .ok (.getfield 176, 3) := by decide +kernel
theorem dX4_had_33 : decode cX4_had 33 = .ok (.iaload, 1) := by decide +kernel
theorem dX4_had_34 : decode cX4_had 34 = .ok (.ireturn, 1) := by decide +kernel
theorem dX4_latest_0 : decode cX4_latest 0 = .ok (.aload_n 0, 1) := by decide +kernel
theorem dX4_latest_1 : decode cX4_latest 1 = .ok (.iload_n 1, 1) := by decide +kernel
theorem dX4_latest_2 : decode cX4_latest 2 = .ok (.invokevirtual 42, 3) := by decide +kernel
theorem dX4_latest_5 : decode cX4_latest 5 = .ok (.astore_n 3, 1) := by decide +kernel
theorem dX4_latest_6 : decode cX4_latest 6 = .ok (.aload_n 0, 1) := by decide +kernel
theorem dX4_latest_7 : decode cX4_latest 7 = .ok (.iload_n 2, 1) := by decide +kernel
theorem dX4_latest_8 : decode cX4_latest 8 = .ok (.invokevirtual 68, 3) := by decide +kernel
theorem dX4_latest_11 : decode cX4_latest 11 = .ok (.astore 4, 2) := by decide +kernel
theorem dX4_latest_13 : decode cX4_latest 13 = .ok (.aload_n 3, 1) := by decide +kernel
theorem dX4_latest_14 : decode cX4_latest 14 = .ok (.ifnull 8, 3) := by decide +kernel
theorem dX4_latest_17 : decode cX4_latest 17 = .ok (.aload 4, 2) := by decide +kernel
theorem dX4_latest_19 : decode cX4_latest 19 = .ok (.ifnonnull 5, 3) := by decide +kernel
theorem dX4_latest_22 : decode cX4_latest 22 = .ok (.lconst 0, 1) := by decide +kernel
theorem dX4_latest_23 : decode cX4_latest 23 = .ok (.lreturn, 1) := by decide +kernel
theorem dX4_latest_24 : decode cX4_latest 24 = .ok (.aload_n 3, 1) := by decide +kernel
theorem dX4_latest_25 : decode cX4_latest 25 = .ok (.aload 4, 2) := by decide +kernel
theorem dX4_latest_27 : decode cX4_latest 27 = .ok (.aload_n 3, 1) := by decide +kernel
theorem dX4_latest_28 : decode cX4_latest 28 = .ok (.getfield 204, 3) := by decide +kernel
theorem dX4_latest_31 : decode cX4_latest 31 = .ok (.invokevirtual 91, 3) := by decide +kernel
theorem dX4_latest_34 : decode cX4_latest 34 = .ok (.lreturn, 1) := by decide +kernel
theorem dX4_sum_0 : decode cX4_sum 0 = .ok (.aload_n 0, 1) := by decide +kernel
theorem dX4_sum_1 : decode cX4_sum 1 = .ok (.iload_n 1, 1) := by decide +kernel
theorem dX4_sum_2 : decode cX4_sum 2 = .ok (.invokevirtual 42, 3) := by decide +kernel
theorem dX4_sum_5 : decode cX4_sum 5 = .ok (.astore 4, 2) := by decide +kernel
theorem dX4_sum_7 : decode cX4_sum 7 = .ok (.aload_n 0, 1) := by decide +kernel
theorem dX4_sum_8 : decode cX4_sum 8 = .ok (.iload_n 2, 1) := by decide +kernel
theorem dX4_sum_9 : decode cX4_sum 9 = .ok (.invokevirtual 95, 3) := by decide +kernel
theorem dX4_sum_12 : decode cX4_sum 12 = .ok (.astore 5, 2) := by decide +kernel
theorem dX4_sum_14 : decode cX4_sum 14 = .ok (.aload 4, 2) := by decide +kernel
theorem dX4_sum_16 : decode cX4_sum 16 = .ok (.ifnull 15, 3) := by decide +kernel
theorem dX4_sum_19 : decode cX4_sum 19 = .ok (.aload 5, 2) := by decide +kernel
theorem dX4_sum_21 : decode cX4_sum 21 = .ok (.ifnull 10, 3) := by decide +kernel
theorem dX4_sum_24 : decode cX4_sum 24 = .ok (.iload_n 3, 1) := by decide +kernel
theorem dX4_sum_25 : decode cX4_sum 25 = .ok (.invokestatic 98, 3) := by decide +kernel
theorem dX4_sum_28 : decode cX4_sum 28 = .ok (.ifCond .ne 5, 3) := by decide +kernel
theorem dX4_sum_31 : decode cX4_sum 31 = .ok (.lconst 0, 1) := by decide +kernel
theorem dX4_sum_32 : decode cX4_sum 32 = .ok (.lreturn, 1) := by decide +kernel
theorem dX4_sum_33 : decode cX4_sum 33 = .ok (.aload 4, 2) := by decide +kernel
theorem dX4_sum_35 : decode cX4_sum 35 = .ok (.aload 5, 2) := by decide +kernel
theorem dX4_sum_37 : decode cX4_sum 37 = .ok (.iload_n 3, 1) := by decide +kernel
theorem dX4_sum_38 : decode cX4_sum 38 = .ok (.invokevirtual 102, 3) := by decide +kernel
theorem dX4_sum_41 : decode cX4_sum 41 = .ok (.aload 4, 2) := by decide +kernel
theorem dX4_sum_43 : decode cX4_sum 43 = .ok (.getfield 204, 3) := by decide +kernel
theorem dX4_sum_46 : decode cX4_sum 46 = .ok (.invokevirtual 109, 3) := by decide +kernel
theorem dX4_sum_49 : decode cX4_sum 49 = .ok (.lreturn, 1) := by decide +kernel
theorem dX4_locked_0 : decode cX4_locked 0 = .ok (.aload_n 0, 1) := by decide +kernel
theorem dX4_locked_1 : decode cX4_locked 1 = .ok (.iload_n 1, 1) := by decide +kernel
theorem dX4_locked_2 : decode cX4_locked 2 = .ok (.invokevirtual 42, 3) := by decide +kernel
theorem dX4_locked_5 : decode cX4_locked 5 = .ok (.astore_n 3, 1) := by decide +kernel
theorem dX4_locked_6 : decode cX4_locked 6 = .ok (.aload_n 0, 1) := by decide +kernel
theorem dX4_locked_7 : decode cX4_locked 7 = .ok (.iload_n 2, 1) := by decide +kernel
theorem dX4_locked_8 : decode cX4_locked 8 = .ok (.invokevirtual 207, 3) := by decide +kernel
theorem dX4_locked_11 : decode cX4_locked 11 = .ok (.astore 4, 2) := by decide +kernel
theorem dX4_locked_13 : decode cX4_locked 13 = .ok (.aload_n 3, 1) := by decide +kernel
theorem dX4_locked_14 : decode cX4_locked 14 = .ok (.ifnull 8, 3) := by decide +kernel
theorem dX4_locked_17 : decode cX4_locked 17 = .ok (.aload 4, 2) := by decide +kernel
theorem dX4_locked_19 : decode cX4_locked 19 = .ok (.ifnonnull 5, 3) := by decide +kernel
theorem dX4_locked_22 : decode cX4_locked 22 = .ok (.iconst (-1), 1) := by decide +kernel
theorem dX4_locked_23 : decode cX4_locked 23 = .ok (.ireturn, 1) := by decide +kernel
theorem dX4_locked_24 : decode cX4_locked 24 = .ok (.aload_n 3, 1) := by decide +kernel
theorem dX4_locked_25 : decode cX4_locked 25 = .ok (.getfield 210, 3) := by decide +kernel
theorem dX4_locked_28 : decode cX4_locked 28 = .ok (.aload 4, 2) := by decide +kernel
theorem dX4_locked_30 : decode cX4_locked 30 = .ok (.getfield 76, 3) := by decide +kernel
theorem dX4_locked_33 : decode cX4_locked 33 = .ok (.iaload, 1) := by decide +kernel
theorem dX4_locked_34 : decode cX4_locked 34 = .ok (.ireturn, 1) := by decide +kernel
theorem dX4_sees_0 : decode cX4_sees 0 = .ok (.aload_n 0, 1) := by decide +kernel
theorem dX4_sees_1 : decode cX4_sees 1 = .ok (.iload_n 1, 1) := by decide +kernel
theorem dX4_sees_2 : decode cX4_sees 2 = .ok (.invokevirtual 64, 3) := by decide +kernel
theorem dX4_sees_5 : decode cX4_sees 5 = .ok (.astore_n 3, 1) := by decide +kernel
theorem dX4_sees_6 : decode cX4_sees 6 = .ok (.aload_n 0, 1) := by decide +kernel
theorem dX4_sees_7 : decode cX4_sees 7 = .ok (.iload_n 2, 1) := by decide +kernel
theorem dX4_sees_8 : decode cX4_sees 8 = .ok (.invokevirtual 64, 3) := by decide +kernel
theorem dX4_sees_11 : decode cX4_sees 11 = .ok (.astore 4, 2) := by decide +kernel
theorem dX4_sees_13 : decode cX4_sees 13 = .ok (.aload_n 3, 1) := by decide +kernel
theorem dX4_sees_14 : decode cX4_sees 14 = .ok (.ifnull 8, 3) := by decide +kernel
theorem dX4_sees_17 : decode cX4_sees 17 = .ok (.aload 4, 2) := by decide +kernel
theorem dX4_sees_19 : decode cX4_sees 19 = .ok (.ifnonnull 5, 3) := by decide +kernel
theorem dX4_sees_22 : decode cX4_sees 22 = .ok (.iconst (-1), 1) := by decide +kernel
theorem dX4_sees_23 : decode cX4_sees 23 = .ok (.ireturn, 1) := by decide +kernel
theorem dX4_sees_24 : decode cX4_sees 24 = .ok (.aload 4, 2) := by decide +kernel
theorem dX4_sees_26 : decode cX4_sees 26 = .ok (.invokevirtual 213, 3) := by decide +kernel
theorem dX4_sees_29 : decode cX4_sees 29 = .ok (.ifCond .ne 6, 3) := by decide +kernel
theorem dX4_sees_32 : decode cX4_sees 32 = .ok (.bipush (-4), 2) := by decide +kernel
theorem dX4_sees_34 : decode cX4_sees 34 = .ok (.ireturn, 1) := by decide +kernel
theorem dX4_sees_35 : decode cX4_sees 35 = .ok (.iload_n 1, 1) := by decide +kernel
theorem dX4_sees_36 : decode cX4_sees 36 = .ok (.iload_n 2, 1) := by decide +kernel
theorem dX4_sees_37 : decode cX4_sees 37 = .ok (.if_icmp .eq 15, 3) := by decide +kernel
theorem dX4_sees_40 : decode cX4_sees 40 = .ok (.aload 4, 2) := by decide +kernel
theorem dX4_sees_42 : decode cX4_sees 42 = .ok (.aload_n 3, 1) := by decide +kernel
theorem dX4_sees_43 : decode cX4_sees 43 = .ok (.getfield 87, 3) := by decide +kernel
theorem dX4_sees_46 : decode cX4_sees 46 = .ok (.invokevirtual 216, 3) := by decide +kernel
theorem dX4_sees_49 : decode cX4_sees 49 = .ok (.ifCond .eq 7, 3) := by decide +kernel
theorem dX4_sees_52 : decode cX4_sees 52 = .ok (.iconst 1, 1) := by decide +kernel
theorem dX4_sees_53 : decode cX4_sees 53 = .ok (.goto 4, 3) := by decide +kernel
theorem dX4_sees_56 : decode cX4_sees 56 = .ok (.iconst 0, 1) := by decide +kernel
theorem dX4_sees_57 : decode cX4_sees 57 = .ok (.invokestatic 185, 3) := by decide +kernel
theorem dX4_sees_60 : decode cX4_sees 60 = .ok (.ireturn, 1) := by decide +kernel
theorem dX4_calm_0 : decode cX4_calm 0 = .ok (.iconst 0, 1) := by decide +kernel
theorem dX4_calm_1 : decode cX4_calm 1 = .ok (.istore_n 1, 1) := by decide +kernel
theorem dX4_calm_2 : decode cX4_calm 2 = .ok (.iload_n 1, 1) := by decide +kernel
theorem dX4_calm_3 : decode cX4_calm 3 = .ok (.aload_n 0, 1) := by decide +kernel
theorem dX4_calm_4 : decode cX4_calm 4 = .ok (.getfield 15, 3) := by decide +kernel
theorem dX4_calm_7 : decode cX4_calm 7 = .ok (.if_icmp .ge 52, 3) := by decide +kernel
theorem dX4_calm_10 : decode cX4_calm 10 = .ok (.iconst 0, 1) := by decide +kernel
theorem dX4_calm_11 : decode cX4_calm 11 = .ok (.istore_n 2, 1) := by decide +kernel
theorem dX4_calm_12 : decode cX4_calm 12 = .ok (.iload_n 2, 1) := by decide +kernel
theorem dX4_calm_13 : decode cX4_calm 13 = .ok (.aload_n 0, 1) := by decide +kernel
theorem dX4_calm_14 : decode cX4_calm 14 = .ok (.getfield 15, 3) := by decide +kernel
theorem dX4_calm_17 : decode cX4_calm 17 = .ok (.if_icmp .ge 36, 3) := by decide +kernel
theorem dX4_calm_20 : decode cX4_calm 20 = .ok (.aload_n 0, 1) := by decide +kernel
theorem dX4_calm_21 : decode cX4_calm 21 = .ok (.getfield 11, 3) := by decide +kernel
theorem dX4_calm_24 : decode cX4_calm 24 = .ok (.iload_n 1, 1) := by decide +kernel
theorem dX4_calm_25 : decode cX4_calm 25 = .ok (.aaload, 1) := by decide +kernel
theorem dX4_calm_26 : decode cX4_calm 26 = .ok (.getfield 204, 3) := by decide +kernel
theorem dX4_calm_29 : decode cX4_calm 29 = .ok (.iload_n 2, 1) := by decide +kernel
theorem dX4_calm_30 : decode cX4_calm 30 = .ok (.iaload, 1) := by decide +kernel
theorem dX4_calm_31 : decode cX4_calm 31 = .ok (.aload_n 0, 1) := by decide +kernel
theorem dX4_calm_32 : decode cX4_calm 32 = .ok (.getfield 11, 3) := by decide +kernel
theorem dX4_calm_35 : decode cX4_calm 35 = .ok (.iload_n 2, 1) := by decide +kernel
theorem dX4_calm_36 : decode cX4_calm 36 = .ok (.aaload, 1) := by decide +kernel
theorem dX4_calm_37 : decode cX4_calm 37 = .ok (.getfield 204, 3) := by decide +kernel
theorem dX4_calm_40 : decode cX4_calm 40 = .ok (.iload_n 2, 1) := by decide +kernel
theorem dX4_calm_41 : decode cX4_calm 41 = .ok (.iaload, 1) := by decide +kernel
theorem dX4_calm_42 : decode cX4_calm 42 = .ok (.if_icmp .eq 5, 3) := by decide +kernel
theorem dX4_calm_45 : decode cX4_calm 45 = .ok (.iconst 0, 1) := by decide +kernel
theorem dX4_calm_46 : decode cX4_calm 46 = .ok (.ireturn, 1) := by decide +kernel
theorem dX4_calm_47 : decode cX4_calm 47 = .ok (.iinc 2 1, 3) := by decide +kernel
theorem dX4_calm_50 : decode cX4_calm 50 = .ok (.goto (-38), 3) := by decide +kernel
theorem dX4_calm_53 : decode cX4_calm 53 = .ok (.iinc 1 1, 3) := by decide +kernel
theorem dX4_calm_56 : decode cX4_calm 56 = .ok (.goto (-54), 3) := by decide +kernel
theorem dX4_calm_59 : decode cX4_calm 59 = .ok (.iconst 1, 1) := by decide +kernel
theorem dX4_calm_60 : decode cX4_calm 60 = .ok (.ireturn, 1) := by decide +kernel
theorem dX4_count_0 : decode cX4_count 0 = .ok (.iload_n 1, 1) := by decide +kernel
theorem dX4_count_1 : decode cX4_count 1 = .ok (.tableswitch 116 0 9 #[55, 60, 65, 73, 81, 89, 95, 101, 106, 111], 55) := by decide +kernel
theorem dX4_count_56 : decode cX4_count 56 = .ok (.aload_n 0, 1) := by decide +kernel
theorem dX4_count_57 : decode cX4_count 57 = .ok (.getfield 15, 3) := by decide +kernel
theorem dX4_count_60 : decode cX4_count 60 = .ok (.ireturn, 1) := by decide +kernel
theorem dX4_count_61 : decode cX4_count 61 = .ok (.aload_n 0, 1) := by decide +kernel
theorem dX4_count_62 : decode cX4_count 62 = .ok (.getfield 19, 3) := by decide +kernel
theorem dX4_count_65 : decode cX4_count 65 = .ok (.ireturn, 1) := by decide +kernel
theorem dX4_count_66 : decode cX4_count 66 = .ok (.aload_n 0, 1) := by decide +kernel
theorem dX4_count_67 : decode cX4_count 67 = .ok (.getfield 25, 3) := by decide +kernel
theorem dX4_count_70 : decode cX4_count 70 = .ok (.invokevirtual 46, 3) := by decide +kernel
theorem dX4_count_73 : decode cX4_count 73 = .ok (.ireturn, 1) := by decide +kernel
theorem dX4_count_74 : decode cX4_count 74 = .ok (.aload_n 0, 1) := by decide +kernel
theorem dX4_count_75 : decode cX4_count 75 = .ok (.getfield 29, 3) := by decide +kernel
theorem dX4_count_78 : decode cX4_count 78 = .ok (.invokevirtual 46, 3) := by decide +kernel
theorem dX4_count_81 : decode cX4_count 81 = .ok (.ireturn, 1) := by decide +kernel
theorem dX4_count_82 : decode cX4_count 82 = .ok (.aload_n 0, 1) := by decide +kernel
theorem dX4_count_83 : decode cX4_count 83 = .ok (.getfield 32, 3) := by decide +kernel
theorem dX4_count_86 : decode cX4_count 86 = .ok (.invokevirtual 46, 3) := by decide +kernel
theorem dX4_count_89 : decode cX4_count 89 = .ok (.ireturn, 1) := by decide +kernel
theorem dX4_count_90 : decode cX4_count 90 = .ok (.aload_n 0, 1) := by decide +kernel
theorem dX4_count_91 : decode cX4_count 91 = .ok (.iconst 2, 1) := by decide +kernel
theorem dX4_count_92 : decode cX4_count 92 = .ok (.invokevirtual 220, 3) := by decide +kernel
theorem dX4_count_95 : decode cX4_count 95 = .ok (.ireturn, 1) := by decide +kernel
theorem dX4_count_96 : decode cX4_count 96 = .ok (.aload_n 0, 1) := by decide +kernel
theorem dX4_count_97 : decode cX4_count 97 = .ok (.iconst 3, 1) := by decide +kernel
theorem dX4_count_98 : decode cX4_count 98 = .ok (.invokevirtual 220, 3) := by decide +kernel
theorem dX4_count_101 : decode cX4_count 101 = .ok (.ireturn, 1) := by decide +kernel
theorem dX4_count_102 : decode cX4_count 102 = .ok (.aload_n 0, 1) := by decide +kernel
theorem dX4_count_103 : decode cX4_count 103 = .ok (.invokevirtual 223, 3) := by decide +kernel
theorem dX4_count_106 : decode cX4_count 106 = .ok (.ireturn, 1) := by decide +kernel
theorem dX4_count_107 : decode cX4_count 107 = .ok (.aload_n 0, 1) := by decide +kernel
theorem dX4_count_108 : decode cX4_count 108 = .ok (.invokevirtual 226, 3) := by decide +kernel
theorem dX4_count_111 : decode cX4_count 111 = .ok (.ireturn, 1) := by decide +kernel
theorem dX4_count_112 : decode cX4_count 112 = .ok (.aload_n 0, 1) := by decide +kernel
theorem dX4_count_113 : decode cX4_count 113 = .ok (.invokevirtual 229, 3) := by decide +kernel
theorem dX4_count_116 : decode cX4_count 116 = .ok (.ireturn, 1) := by decide +kernel
theorem dX4_count_117 : decode cX4_count 117 = .ok (.iconst (-1), 1) := by decide +kernel
theorem dX4_count_118 : decode cX4_count 118 = .ok (.ireturn, 1) := by decide +kernel
theorem dX4_findSite_0 : decode cX4_findSite 0 = .ok (.iload_n 1, 1) := by decide +kernel
theorem dX4_findSite_1 : decode cX4_findSite 1 = .ok (.ifCond .lt 20, 3) := by decide +kernel
theorem dX4_findSite_4 : decode cX4_findSite 4 = .ok (.iload_n 1, 1) := by decide +kernel
theorem dX4_findSite_5 : decode cX4_findSite 5 = .ok (.aload_n 0, 1) := by decide +kernel
theorem dX4_findSite_6 : decode cX4_findSite 6 = .ok (.getfield 15, 3) := by decide +kernel
theorem dX4_findSite_9 : decode cX4_findSite 9 = .ok (.if_icmp .ge 12, 3) := by decide +kernel
theorem dX4_findSite_12 : decode cX4_findSite 12 = .ok (.aload_n 0, 1) := by decide +kernel
theorem dX4_findSite_13 : decode cX4_findSite 13 = .ok (.getfield 11, 3) := by decide +kernel
theorem dX4_findSite_16 : decode cX4_findSite 16 = .ok (.iload_n 1, 1) := by decide +kernel
theorem dX4_findSite_17 : decode cX4_findSite 17 = .ok (.aaload, 1) := by decide +kernel
theorem dX4_findSite_18 : decode cX4_findSite 18 = .ok (.goto 4, 3) := by decide +kernel
theorem dX4_findSite_21 : decode cX4_findSite 21 = .ok (.aconst_null, 1) := by decide +kernel
theorem dX4_findSite_22 : decode cX4_findSite 22 = .ok (.areturn, 1) := by decide +kernel
theorem dX4_findThing_0 : decode cX4_findThing 0 = .ok (.iload_n 1, 1) := by decide +kernel
theorem dX4_findThing_1 : decode cX4_findThing 1 = .ok (.ifCond .lt 28, 3) := by decide +kernel
theorem dX4_findThing_4 : decode cX4_findThing 4 = .ok (.iload_n 1, 1) := by decide +kernel
theorem dX4_findThing_5 : decode cX4_findThing 5 = .ok (.aload_n 0, 1) := by decide +kernel
theorem dX4_findThing_6 : decode cX4_findThing 6 = .ok (.getfield 25, 3) := by decide +kernel
theorem dX4_findThing_9 : decode cX4_findThing 9 = .ok (.invokevirtual 46, 3) := by decide +kernel
theorem dX4_findThing_12 : decode cX4_findThing 12 = .ok (.if_icmp .ge 17, 3) := by decide +kernel
theorem dX4_findThing_15 : decode cX4_findThing 15 = .ok (.aload_n 0, 1) := by decide +kernel
theorem dX4_findThing_16 : decode cX4_findThing 16 = .ok (.getfield 25, 3) := by decide +kernel
theorem dX4_findThing_19 : decode cX4_findThing 19 = .ok (.iload_n 1, 1) := by decide +kernel
theorem dX4_findThing_20 : decode cX4_findThing 20 = .ok (.invokevirtual 232, 3) := by decide +kernel
theorem dX4_findThing_23 : decode cX4_findThing 23 = .ok (.checkcast 50, 3) := by decide +kernel
theorem dX4_findThing_26 : decode cX4_findThing 26 = .ok (.goto 4, 3) := by decide +kernel
theorem dX4_findThing_29 : decode cX4_findThing 29 = .ok (.aconst_null, 1) := by decide +kernel
theorem dX4_findThing_30 : decode cX4_findThing 30 = .ok (.areturn, 1) := by decide +kernel
theorem dX4_findPlain_0 : decode cX4_findPlain 0 = .ok (.aload_n 0, 1) := by decide +kernel
theorem dX4_findPlain_1 : decode cX4_findPlain 1 = .ok (.iload_n 1, 1) := by decide +kernel
theorem dX4_findPlain_2 : decode cX4_findPlain 2 = .ok (.invokevirtual 207, 3) := by decide +kernel
theorem dX4_findPlain_5 : decode cX4_findPlain 5 = .ok (.astore_n 2, 1) := by decide +kernel
theorem dX4_findPlain_6 : decode cX4_findPlain 6 = .ok (.aload_n 2, 1) := by decide +kernel
theorem dX4_findPlain_7 : decode cX4_findPlain 7 = .ok (.ifnull 14, 3) := by decide +kernel
theorem dX4_findPlain_10 : decode cX4_findPlain 10 = .ok (.aload_n 2, 1) := by decide +kernel
theorem dX4_findPlain_11 : decode cX4_findPlain 11 = .ok (.getfield 235, 3) := by decide +kernel
theorem dX4_findPlain_14 : decode cX4_findPlain 14 = .ok (.ifCond .ne 7, 3) := by decide +kernel
theorem dX4_findPlain_17 : decode cX4_findPlain 17 = .ok (.aload_n 2, 1) := by decide +kernel
theorem dX4_findPlain_18 : decode cX4_findPlain 18 = .ok (.goto 4, 3) := by decide +kernel
theorem dX4_findPlain_21 : decode cX4_findPlain 21 = .ok (.aconst_null, 1) := by decide +kernel
theorem dX4_findPlain_22 : decode cX4_findPlain 22 = .ok (.areturn, 1) := by decide +kernel
theorem dX4_findSet_0 : decode cX4_findSet 0 = .ok (.aload_n 0, 1) := by decide +kernel
theorem dX4_findSet_1 : decode cX4_findSet 1 = .ok (.iload_n 1, 1) := by decide +kernel
theorem dX4_findSet_2 : decode cX4_findSet 2 = .ok (.invokevirtual 207, 3) := by decide +kernel
theorem dX4_findSet_5 : decode cX4_findSet 5 = .ok (.astore_n 2, 1) := by decide +kernel
theorem dX4_findSet_6 : decode cX4_findSet 6 = .ok (.aload_n 2, 1) := by decide +kernel
theorem dX4_findSet_7 : decode cX4_findSet 7 = .ok (.ifnull 14, 3) := by decide +kernel
theorem dX4_findSet_10 : decode cX4_findSet 10 = .ok (.aload_n 2, 1) := by decide +kernel
theorem dX4_findSet_11 : decode cX4_findSet 11 = .ok (.getfield 235, 3) := by decide +kernel
theorem dX4_findSet_14 : decode cX4_findSet 14 = .ok (.ifCond .eq 7, 3) := by decide +kernel
theorem dX4_findSet_17 : decode cX4_findSet 17 = .ok (.aload_n 2, 1) := by decide +kernel
theorem dX4_findSet_18 : decode cX4_findSet 18 = .ok (.goto 4, 3) := by decide +kernel
theorem dX4_findSet_21 : decode cX4_findSet 21 = .ok (.aconst_null, 1) := by decide +kernel
theorem dX4_findSet_22 : decode cX4_findSet 22 = .ok (.areturn, 1) := by decide +kernel
theorem dX4_findTransaction_0 : decode cX4_findTransaction 0 = .ok (.iload_n 1, 1) := by decide +kernel
theorem dX4_findTransaction_1 : decode cX4_findTransaction 1 = .ok (.ifCond .lt 28, 3) := by decide +kernel
theorem dX4_findTransaction_4 : decode cX4_findTransaction 4 = .ok (.iload_n 1, 1) := by decide +kernel
theorem dX4_findTransaction_5 : decode cX4_findTransaction 5 = .ok (.aload_n 0, 1) := by decide +kernel
theorem dX4_findTransaction_6 : decode cX4_findTransaction 6 = .ok (.getfield 29, 3) := by decide +kernel
theorem dX4_findTransaction_9 : decode cX4_findTransaction 9 = .ok (.invokevirtual 46, 3) := by decide +kernel
theorem dX4_findTransaction_12 : decode cX4_findTransaction 12 = .ok (.if_icmp .ge 17, 3) := by decide +kernel
theorem dX4_findTransaction_15 : decode cX4_findTransaction 15 = .ok (.aload_n 0, 1) := by decide +kernel
theorem dX4_findTransaction_16 : decode cX4_findTransaction 16 = .ok (.getfield 29, 3) := by decide +kernel
theorem dX4_findTransaction_19 : decode cX4_findTransaction 19 = .ok (.iload_n 1, 1) := by decide +kernel
theorem dX4_findTransaction_20 : decode cX4_findTransaction 20 = .ok (.invokevirtual 232, 3) := by decide +kernel
theorem dX4_findTransaction_23 : decode cX4_findTransaction 23 = .ok (.checkcast 59, 3) := by decide +kernel
theorem dX4_findTransaction_26 : decode cX4_findTransaction 26 = .ok (.goto 4, 3) := by decide +kernel
theorem dX4_findTransaction_29 : decode cX4_findTransaction 29 = .ok (.aconst_null, 1) := by decide +kernel
theorem dX4_findTransaction_30 : decode cX4_findTransaction 30 = .ok (.areturn, 1) := by decide +kernel
theorem dX4_findMessage_0 : decode cX4_findMessage 0 = .ok (.iload_n 1, 1) := by decide +kernel
theorem dX4_findMessage_1 : decode cX4_findMessage 1 = .ok (.ifCond .lt 28, 3) := by decide +kernel
theorem dX4_findMessage_4 : decode cX4_findMessage 4 = .ok (.iload_n 1, 1) := by decide +kernel
theorem dX4_findMessage_5 : decode cX4_findMessage 5 = .ok (.aload_n 0, 1) := by decide +kernel
theorem dX4_findMessage_6 : decode cX4_findMessage 6 = .ok (.getfield 32, 3) := by decide +kernel
theorem dX4_findMessage_9 : decode cX4_findMessage 9 = .ok (.invokevirtual 46, 3) := by decide +kernel
theorem dX4_findMessage_12 : decode cX4_findMessage 12 = .ok (.if_icmp .ge 17, 3) := by decide +kernel
theorem dX4_findMessage_15 : decode cX4_findMessage 15 = .ok (.aload_n 0, 1) := by decide +kernel
theorem dX4_findMessage_16 : decode cX4_findMessage 16 = .ok (.getfield 32, 3) := by decide +kernel
theorem dX4_findMessage_19 : decode cX4_findMessage 19 = .ok (.iload_n 1, 1) := by decide +kernel
theorem dX4_findMessage_20 : decode cX4_findMessage 20 = .ok (.invokevirtual 232, 3) := by decide +kernel
theorem dX4_findMessage_23 : decode cX4_findMessage 23 = .ok (.checkcast 155, 3) := by decide +kernel
theorem dX4_findMessage_26 : decode cX4_findMessage 26 = .ok (.goto 4, 3) := by decide +kernel
theorem dX4_findMessage_29 : decode cX4_findMessage 29 = .ok (.aconst_null, 1) := by decide +kernel
theorem dX4_findMessage_30 : decode cX4_findMessage 30 = .ok (.areturn, 1) := by decide +kernel
theorem dX4_isElement_0 : decode cX4_isElement 0 = .ok (.iload_n 0, 1) := by decide +kernel
theorem dX4_isElement_1 : decode cX4_isElement 1 = .ok (.ifCond .lt 13, 3) := by decide +kernel
theorem dX4_isElement_4 : decode cX4_isElement 4 = .ok (.iload_n 0, 1) := by decide +kernel
theorem dX4_isElement_5 : decode cX4_isElement 5 = .ok (.bipush 8, 2) := by decide +kernel
theorem dX4_isElement_7 : decode cX4_isElement 7 = .ok (.if_icmp .ge 7, 3) := by decide +kernel
theorem dX4_isElement_10 : decode cX4_isElement 10 = .ok (.iconst 1, 1) := by decide +kernel
theorem dX4_isElement_11 : decode cX4_isElement 11 = .ok (.goto 4, 3) := by decide +kernel
theorem dX4_isElement_14 : decode cX4_isElement 14 = .ok (.iconst 0, 1) := by decide +kernel
theorem dX4_isElement_15 : decode cX4_isElement 15 = .ok (.ireturn, 1) := by decide +kernel
theorem dX4_oneIf_0 : decode cX4_oneIf 0 = .ok (.iload_n 0, 1) := by decide +kernel
theorem dX4_oneIf_1 : decode cX4_oneIf 1 = .ok (.ifCond .eq 7, 3) := by decide +kernel
theorem dX4_oneIf_4 : decode cX4_oneIf 4 = .ok (.iconst 1, 1) := by decide +kernel
theorem dX4_oneIf_5 : decode cX4_oneIf 5 = .ok (.goto 4, 3) := by decide +kernel
theorem dX4_oneIf_8 : decode cX4_oneIf 8 = .ok (.iconst 0, 1) := by decide +kernel
theorem dX4_oneIf_9 : decode cX4_oneIf 9 = .ok (.ireturn, 1) := by decide +kernel
theorem dX4_isPlainOf_0 : decode cX4_isPlainOf 0 = .ok (.aload_n 0, 1) := by decide +kernel
theorem dX4_isPlainOf_1 : decode cX4_isPlainOf 1 = .ok (.getfield 72, 3) := by decide +kernel
theorem dX4_isPlainOf_4 : decode cX4_isPlainOf 4 = .ok (.aload_n 1, 1) := by decide +kernel
theorem dX4_isPlainOf_5 : decode cX4_isPlainOf 5 = .ok (.getfield 76, 3) := by decide +kernel
theorem dX4_isPlainOf_8 : decode cX4_isPlainOf 8 = .ok (.baload, 1) := by decide +kernel
theorem dX4_isPlainOf_9 : decode cX4_isPlainOf 9 = .ok (.ifCond .eq 15, 3) := by decide +kernel
theorem dX4_isPlainOf_12 : decode cX4_isPlainOf 12 = .ok (.aload_n 1, 1) := by decide +kernel
theorem dX4_isPlainOf_13 : decode cX4_isPlainOf 13 = .ok (.getfield 239, 3) := by decide +kernel
theorem dX4_isPlainOf_16 : decode cX4_isPlainOf 16 = .ok (.aload_n 2, 1) := by decide +kernel
theorem dX4_isPlainOf_17 : decode cX4_isPlainOf 17 = .ok (.if_acmp .ne 7, 3) := by decide +kernel
theorem dX4_isPlainOf_20 : decode cX4_isPlainOf 20 = .ok (.iconst 1, 1) := by decide +kernel
theorem dX4_isPlainOf_21 : decode cX4_isPlainOf 21 = .ok (.goto 4, 3) := by decide +kernel
theorem dX4_isPlainOf_24 : decode cX4_isPlainOf 24 = .ok (.iconst 0, 1) := by decide +kernel
theorem dX4_isPlainOf_25 : decode cX4_isPlainOf 25 = .ok (.ireturn, 1) := by decide +kernel
theorem dX4_hasHome_0 : decode cX4_hasHome 0 = .ok (.iconst 0, 1) := by decide +kernel
theorem dX4_hasHome_1 : decode cX4_hasHome 1 = .ok (.istore_n 3, 1) := by decide +kernel
theorem dX4_hasHome_2 : decode cX4_hasHome 2 = .ok (.iload_n 3, 1) := by decide +kernel
theorem dX4_hasHome_3 : decode cX4_hasHome 3 = .ok (.aload_n 0, 1) := by decide +kernel
theorem dX4_hasHome_4 : decode cX4_hasHome 4 = .ok (.getfield 25, 3) := by decide +kernel
theorem dX4_hasHome_7 : decode cX4_hasHome 7 = .ok (.invokevirtual 46, 3) := by decide +kernel
theorem dX4_hasHome_10 : decode cX4_hasHome 10 = .ok (.if_icmp .ge 30, 3) := by decide +kernel
theorem dX4_hasHome_13 : decode cX4_hasHome 13 = .ok (.aload_n 1, 1) := by decide +kernel
theorem dX4_hasHome_14 : decode cX4_hasHome 14 = .ok (.aload_n 0, 1) := by decide +kernel
theorem dX4_hasHome_15 : decode cX4_hasHome 15 = .ok (.getfield 25, 3) := by decide +kernel
theorem dX4_hasHome_18 : decode cX4_hasHome 18 = .ok (.iload_n 3, 1) := by decide +kernel
theorem dX4_hasHome_19 : decode cX4_hasHome 19 = .ok (.invokevirtual 232, 3) := by decide +kernel
theorem dX4_hasHome_22 : decode cX4_hasHome 22 = .ok (.checkcast 50, 3) := by decide +kernel
theorem dX4_hasHome_25 : decode cX4_hasHome 25 = .ok (.aload_n 2, 1) := by decide +kernel
theorem dX4_hasHome_26 : decode cX4_hasHome 26 = .ok (.invokestatic 242, 3) := by decide +kernel
theorem dX4_hasHome_29 : decode cX4_hasHome 29 = .ok (.ifCond .eq 5, 3) := by decide +kernel
theorem dX4_hasHome_32 : decode cX4_hasHome 32 = .ok (.iconst 1, 1) := by decide +kernel
theorem dX4_hasHome_33 : decode cX4_hasHome 33 = .ok (.ireturn, 1) := by decide +kernel
theorem dX4_hasHome_34 : decode cX4_hasHome 34 = .ok (.iinc 3 1, 3) := by decide +kernel
theorem dX4_hasHome_37 : decode cX4_hasHome 37 = .ok (.goto (-35), 3) := by decide +kernel
theorem dX4_hasHome_40 : decode cX4_hasHome 40 = .ok (.iconst 0, 1) := by decide +kernel
theorem dX4_hasHome_41 : decode cX4_hasHome 41 = .ok (.ireturn, 1) := by decide +kernel
theorem dX4_hasHomesElsewhere_0 : decode cX4_hasHomesElsewhere 0 = .ok (.iconst 0, 1) := by decide +kernel
theorem dX4_hasHomesElsewhere_1 : decode cX4_hasHomesElsewhere 1 = .ok (.istore_n 2, 1) := by decide +kernel
theorem dX4_hasHomesElsewhere_2 : decode cX4_hasHomesElsewhere 2 = .ok (.iload_n 2, 1) := by decide +kernel
theorem dX4_hasHomesElsewhere_3 : decode cX4_hasHomesElsewhere 3 = .ok (.aload_n 0, 1) := by decide +kernel
theorem dX4_hasHomesElsewhere_4 : decode cX4_hasHomesElsewhere 4 = .ok (.getfield 15, 3) := by decide +kernel
theorem dX4_hasHomesElsewhere_7 : decode cX4_hasHomesElsewhere 7 = .ok (.if_icmp .ge 38, 3) := by decide +kernel
theorem dX4_hasHomesElsewhere_10 : decode cX4_hasHomesElsewhere 10 = .ok (.aload_n 0, 1) := by decide +kernel
theorem dX4_hasHomesElsewhere_11 : decode cX4_hasHomesElsewhere 11 = .ok (.getfield 11, 3) := by decide +kernel
theorem dX4_hasHomesElsewhere_14 : decode cX4_hasHomesElsewhere 14 = .ok (.iload_n 2, 1) := by decide +kernel
theorem dX4_hasHomesElsewhere_15 : decode cX4_hasHomesElsewhere 15 = .ok (.aaload, 1) := by decide +kernel
theorem dX4_hasHomesElsewhere_16 : decode cX4_hasHomesElsewhere 16 = .ok (.aload_n 1, 1) := by decide +kernel
theorem dX4_hasHomesElsewhere_17 : decode cX4_hasHomesElsewhere 17 = .ok (.getfield 83, 3) := by decide +kernel
theorem dX4_hasHomesElsewhere_20 : decode cX4_hasHomesElsewhere 20 = .ok (.if_acmp .eq 19, 3) := by decide +kernel
theorem dX4_hasHomesElsewhere_23 : decode cX4_hasHomesElsewhere 23 = .ok (.aload_n 0, 1) := by decide +kernel
theorem dX4_hasHomesElsewhere_24 : decode cX4_hasHomesElsewhere 24 = .ok (.aload_n 1, 1) := by decide +kernel
theorem dX4_hasHomesElsewhere_25 : decode cX4_hasHomesElsewhere 25 = .ok (.aload_n 0, 1) := by decide +kernel
theorem dX4_hasHomesElsewhere_26 : decode cX4_hasHomesElsewhere 26 = .ok (.getfield 11, 3) := by decide +kernel
theorem dX4_hasHomesElsewhere_29 : decode cX4_hasHomesElsewhere 29 = .ok (.iload_n 2, 1) := by decide +kernel
theorem dX4_hasHomesElsewhere_30 : decode cX4_hasHomesElsewhere 30 = .ok (.aaload, 1) := by decide +kernel
theorem dX4_hasHomesElsewhere_31 : decode cX4_hasHomesElsewhere 31 = .ok (.invokevirtual 246, 3) := by decide +kernel
theorem dX4_hasHomesElsewhere_34 : decode cX4_hasHomesElsewhere 34 = .ok (.ifCond .eq 5, 3) := by decide +kernel
theorem dX4_hasHomesElsewhere_37 : decode cX4_hasHomesElsewhere 37 = .ok (.iconst 1, 1) := by decide +kernel
theorem dX4_hasHomesElsewhere_38 : decode cX4_hasHomesElsewhere 38 = .ok (.ireturn, 1) := by decide +kernel
theorem dX4_hasHomesElsewhere_39 : decode cX4_hasHomesElsewhere 39 = .ok (.iinc 2 1, 3) := by decide +kernel
theorem dX4_hasHomesElsewhere_42 : decode cX4_hasHomesElsewhere 42 = .ok (.goto (-40), 3) := by decide +kernel
theorem dX4_hasHomesElsewhere_45 : decode cX4_hasHomesElsewhere 45 = .ok (.iconst 0, 1) := by decide +kernel
theorem dX4_hasHomesElsewhere_46 : decode cX4_hasHomesElsewhere 46 = .ok (.ireturn, 1) := by decide +kernel
theorem dX4_allFree_0 : decode cX4_allFree 0 = .ok (.iconst 0, 1) := by decide +kernel
theorem dX4_allFree_1 : decode cX4_allFree 1 = .ok (.istore_n 3, 1) := by decide +kernel
theorem dX4_allFree_2 : decode cX4_allFree 2 = .ok (.iload_n 3, 1) := by decide +kernel
theorem dX4_allFree_3 : decode cX4_allFree 3 = .ok (.aload_n 0, 1) := by decide +kernel
theorem dX4_allFree_4 : decode cX4_allFree 4 = .ok (.getfield 25, 3) := by decide +kernel
theorem dX4_allFree_7 : decode cX4_allFree 7 = .ok (.invokevirtual 46, 3) := by decide +kernel
theorem dX4_allFree_10 : decode cX4_allFree 10 = .ok (.if_icmp .ge 44, 3) := by decide +kernel
theorem dX4_allFree_13 : decode cX4_allFree 13 = .ok (.aload_n 0, 1) := by decide +kernel
theorem dX4_allFree_14 : decode cX4_allFree 14 = .ok (.getfield 25, 3) := by decide +kernel
theorem dX4_allFree_17 : decode cX4_allFree 17 = .ok (.iload_n 3, 1) := by decide +kernel
theorem dX4_allFree_18 : decode cX4_allFree 18 = .ok (.invokevirtual 232, 3) := by decide +kernel
theorem dX4_allFree_21 : decode cX4_allFree 21 = .ok (.checkcast 50, 3) := by decide +kernel
theorem dX4_allFree_24 : decode cX4_allFree 24 = .ok (.astore 4, 2) := by decide +kernel
theorem dX4_allFree_26 : decode cX4_allFree 26 = .ok (.aload_n 1, 1) := by decide +kernel
theorem dX4_allFree_27 : decode cX4_allFree 27 = .ok (.aload 4, 2) := by decide +kernel
theorem dX4_allFree_29 : decode cX4_allFree 29 = .ok (.aload_n 2, 1) := by decide +kernel
theorem dX4_allFree_30 : decode cX4_allFree 30 = .ok (.invokestatic 242, 3) := by decide +kernel
theorem dX4_allFree_33 : decode cX4_allFree 33 = .ok (.ifCond .eq 15, 3) := by decide +kernel
theorem dX4_allFree_36 : decode cX4_allFree 36 = .ok (.aload_n 2, 1) := by decide +kernel
theorem dX4_allFree_37 : decode cX4_allFree 37 = .ok (.aload 4, 2) := by decide +kernel
theorem dX4_allFree_39 : decode cX4_allFree 39 = .ok (.aload_n 1, 1) := by decide +kernel
theorem dX4_allFree_40 : decode cX4_allFree 40 = .ok (.invokevirtual 249, 3) := by decide +kernel
theorem dX4_allFree_43 : decode cX4_allFree 43 = .ok (.ifCond .ne 5, 3) := by decide +kernel
theorem dX4_allFree_46 : decode cX4_allFree 46 = .ok (.iconst 0, 1) := by decide +kernel
theorem dX4_allFree_47 : decode cX4_allFree 47 = .ok (.ireturn, 1) := by decide +kernel
theorem dX4_allFree_48 : decode cX4_allFree 48 = .ok (.iinc 3 1, 3) := by decide +kernel
theorem dX4_allFree_51 : decode cX4_allFree 51 = .ok (.goto (-49), 3) := by decide +kernel
theorem dX4_allFree_54 : decode cX4_allFree 54 = .ok (.iconst 1, 1) := by decide +kernel
theorem dX4_allFree_55 : decode cX4_allFree 55 = .ok (.ireturn, 1) := by decide +kernel
theorem dX4_lockThings_0 : decode cX4_lockThings 0 = .ok (.iconst 0, 1) := by decide +kernel
theorem dX4_lockThings_1 : decode cX4_lockThings 1 = .ok (.istore_n 3, 1) := by decide +kernel
theorem dX4_lockThings_2 : decode cX4_lockThings 2 = .ok (.iload_n 3, 1) := by decide +kernel
theorem dX4_lockThings_3 : decode cX4_lockThings 3 = .ok (.aload_n 0, 1) := by decide +kernel
theorem dX4_lockThings_4 : decode cX4_lockThings 4 = .ok (.getfield 25, 3) := by decide +kernel
theorem dX4_lockThings_7 : decode cX4_lockThings 7 = .ok (.invokevirtual 46, 3) := by decide +kernel
theorem dX4_lockThings_10 : decode cX4_lockThings 10 = .ok (.if_icmp .ge 46, 3) := by decide +kernel
theorem dX4_lockThings_13 : decode cX4_lockThings 13 = .ok (.aload_n 0, 1) := by decide +kernel
theorem dX4_lockThings_14 : decode cX4_lockThings 14 = .ok (.getfield 25, 3) := by decide +kernel
theorem dX4_lockThings_17 : decode cX4_lockThings 17 = .ok (.iload_n 3, 1) := by decide +kernel
theorem dX4_lockThings_18 : decode cX4_lockThings 18 = .ok (.invokevirtual 232, 3) := by decide +kernel
theorem dX4_lockThings_21 : decode cX4_lockThings 21 = .ok (.checkcast 50, 3) := by decide +kernel
theorem dX4_lockThings_24 : decode cX4_lockThings 24 = .ok (.astore 4, 2) := by decide +kernel
theorem dX4_lockThings_26 : decode cX4_lockThings 26 = .ok (.aload_n 1, 1) := by decide +kernel
theorem dX4_lockThings_27 : decode cX4_lockThings 27 = .ok (.aload 4, 2) := by decide +kernel
theorem dX4_lockThings_29 : decode cX4_lockThings 29 = .ok (.aload_n 2, 1) := by decide +kernel
theorem dX4_lockThings_30 : decode cX4_lockThings 30 = .ok (.invokestatic 242, 3) := by decide +kernel
theorem dX4_lockThings_33 : decode cX4_lockThings 33 = .ok (.ifCond .eq 17, 3) := by decide +kernel
theorem dX4_lockThings_36 : decode cX4_lockThings 36 = .ok (.aload_n 2, 1) := by decide +kernel
theorem dX4_lockThings_37 : decode cX4_lockThings 37 = .ok (.getfield 210, 3) := by decide +kernel
theorem dX4_lockThings_40 : decode cX4_lockThings 40 = .ok (.aload 4, 2) := by decide +kernel
theorem dX4_lockThings_42 : decode cX4_lockThings 42 = .ok (.getfield 76, 3) := by decide +kernel
theorem dX4_lockThings_45 : decode cX4_lockThings 45 = .ok (.aload_n 1, 1) := by decide +kernel
theorem dX4_lockThings_46 : decode cX4_lockThings 46 = .ok (.getfield 184, 3) := by decide +kernel
theorem dX4_lockThings_49 : decode cX4_lockThings 49 = .ok (.iastore, 1) := by decide +kernel
theorem dX4_lockThings_50 : decode cX4_lockThings 50 = .ok (.iinc 3 1, 3) := by decide +kernel
theorem dX4_lockThings_53 : decode cX4_lockThings 53 = .ok (.goto (-51), 3) := by decide +kernel
theorem dX4_lockThings_56 : decode cX4_lockThings 56 = .ok (.return_, 1) := by decide +kernel
theorem dX4_tellHomes_0 : decode cX4_tellHomes 0 = .ok (.iconst 0, 1) := by decide +kernel
theorem dX4_tellHomes_1 : decode cX4_tellHomes 1 = .ok (.istore_n 3, 1) := by decide +kernel
theorem dX4_tellHomes_2 : decode cX4_tellHomes 2 = .ok (.iconst 0, 1) := by decide +kernel
theorem dX4_tellHomes_3 : decode cX4_tellHomes 3 = .ok (.istore 4, 2) := by decide +kernel
theorem dX4_tellHomes_5 : decode cX4_tellHomes 5 = .ok (.iload 4, 2) := by decide +kernel
theorem dX4_tellHomes_7 : decode cX4_tellHomes 7 = .ok (.aload_n 0, 1) := by decide +kernel
theorem dX4_tellHomes_8 : decode cX4_tellHomes 8 = .ok (.getfield 15, 3) := by decide +kernel
theorem dX4_tellHomes_11 : decode cX4_tellHomes 11 = .ok (.if_icmp .ge 58, 3) := by decide +kernel
theorem dX4_tellHomes_14 : decode cX4_tellHomes 14 = .ok (.aload_n 0, 1) := by decide +kernel
theorem dX4_tellHomes_15 : decode cX4_tellHomes 15 = .ok (.getfield 11, 3) := by decide +kernel
theorem dX4_tellHomes_18 : decode cX4_tellHomes 18 = .ok (.iload 4, 2) := by decide +kernel
theorem dX4_tellHomes_20 : decode cX4_tellHomes 20 = .ok (.aaload, 1) := by decide +kernel
theorem dX4_tellHomes_21 : decode cX4_tellHomes 21 = .ok (.aload_n 1, 1) := by decide +kernel
theorem dX4_tellHomes_22 : decode cX4_tellHomes 22 = .ok (.getfield 83, 3) := by decide +kernel
theorem dX4_tellHomes_25 : decode cX4_tellHomes 25 = .ok (.if_acmp .eq 38, 3) := by decide +kernel
theorem dX4_tellHomes_28 : decode cX4_tellHomes 28 = .ok (.aload_n 0, 1) := by decide +kernel
theorem dX4_tellHomes_29 : decode cX4_tellHomes 29 = .ok (.aload_n 1, 1) := by decide +kernel
theorem dX4_tellHomes_30 : decode cX4_tellHomes 30 = .ok (.aload_n 0, 1) := by decide +kernel
theorem dX4_tellHomes_31 : decode cX4_tellHomes 31 = .ok (.getfield 11, 3) := by decide +kernel
theorem dX4_tellHomes_34 : decode cX4_tellHomes 34 = .ok (.iload 4, 2) := by decide +kernel
theorem dX4_tellHomes_36 : decode cX4_tellHomes 36 = .ok (.aaload, 1) := by decide +kernel
theorem dX4_tellHomes_37 : decode cX4_tellHomes 37 = .ok (.invokevirtual 246, 3) := by decide +kernel
theorem dX4_tellHomes_40 : decode cX4_tellHomes 40 = .ok (.ifCond .eq 23, 3) := by decide +kernel
theorem dX4_tellHomes_43 : decode cX4_tellHomes 43 = .ok (.aload_n 0, 1) := by decide +kernel
theorem dX4_tellHomes_44 : decode cX4_tellHomes 44 = .ok (.iload_n 2, 1) := by decide +kernel
theorem dX4_tellHomes_45 : decode cX4_tellHomes 45 = .ok (.aload_n 1, 1) := by decide +kernel
theorem dX4_tellHomes_46 : decode cX4_tellHomes 46 = .ok (.getfield 83, 3) := by decide +kernel
theorem dX4_tellHomes_49 : decode cX4_tellHomes 49 = .ok (.aload_n 0, 1) := by decide +kernel
theorem dX4_tellHomes_50 : decode cX4_tellHomes 50 = .ok (.getfield 11, 3) := by decide +kernel
theorem dX4_tellHomes_53 : decode cX4_tellHomes 53 = .ok (.iload 4, 2) := by decide +kernel
theorem dX4_tellHomes_55 : decode cX4_tellHomes 55 = .ok (.aaload, 1) := by decide +kernel
theorem dX4_tellHomes_56 : decode cX4_tellHomes 56 = .ok (.aload_n 1, 1) := by decide +kernel
theorem dX4_tellHomes_57 : decode cX4_tellHomes 57 = .ok (.invokevirtual 253, 3) := by decide +kernel
theorem dX4_tellHomes_60 : decode cX4_tellHomes 60 = .ok (.iinc 3 1, 3) := by decide +kernel
theorem dX4_tellHomes_63 : decode cX4_tellHomes 63 = .ok (.iinc 4 1, 3) := by decide +kernel
theorem dX4_tellHomes_66 : decode cX4_tellHomes 66 = .ok (.goto (-61), 3) := by decide +kernel
theorem dX4_tellHomes_69 : decode cX4_tellHomes 69 = .ok (.iload_n 3, 1) := by decide +kernel
theorem dX4_tellHomes_70 : decode cX4_tellHomes 70 = .ok (.ireturn, 1) := by decide +kernel
theorem dX4_tellOthers_0 : decode cX4_tellOthers 0 = .ok (.iconst 0, 1) := by decide +kernel
theorem dX4_tellOthers_1 : decode cX4_tellOthers 1 = .ok (.istore_n 3, 1) := by decide +kernel
theorem dX4_tellOthers_2 : decode cX4_tellOthers 2 = .ok (.iload_n 3, 1) := by decide +kernel
theorem dX4_tellOthers_3 : decode cX4_tellOthers 3 = .ok (.aload_n 0, 1) := by decide +kernel
theorem dX4_tellOthers_4 : decode cX4_tellOthers 4 = .ok (.getfield 15, 3) := by decide +kernel
theorem dX4_tellOthers_7 : decode cX4_tellOthers 7 = .ok (.if_icmp .ge 38, 3) := by decide +kernel
theorem dX4_tellOthers_10 : decode cX4_tellOthers 10 = .ok (.aload_n 0, 1) := by decide +kernel
theorem dX4_tellOthers_11 : decode cX4_tellOthers 11 = .ok (.getfield 11, 3) := by decide +kernel
theorem dX4_tellOthers_14 : decode cX4_tellOthers 14 = .ok (.iload_n 3, 1) := by decide +kernel
theorem dX4_tellOthers_15 : decode cX4_tellOthers 15 = .ok (.aaload, 1) := by decide +kernel
theorem dX4_tellOthers_16 : decode cX4_tellOthers 16 = .ok (.aload_n 1, 1) := by decide +kernel
theorem dX4_tellOthers_17 : decode cX4_tellOthers 17 = .ok (.getfield 83, 3) := by decide +kernel
theorem dX4_tellOthers_20 : decode cX4_tellOthers 20 = .ok (.if_acmp .eq 19, 3) := by decide +kernel
theorem dX4_tellOthers_23 : decode cX4_tellOthers 23 = .ok (.aload_n 0, 1) := by decide +kernel
theorem dX4_tellOthers_24 : decode cX4_tellOthers 24 = .ok (.iload_n 2, 1) := by decide +kernel
theorem dX4_tellOthers_25 : decode cX4_tellOthers 25 = .ok (.aload_n 1, 1) := by decide +kernel
theorem dX4_tellOthers_26 : decode cX4_tellOthers 26 = .ok (.getfield 83, 3) := by decide +kernel
theorem dX4_tellOthers_29 : decode cX4_tellOthers 29 = .ok (.aload_n 0, 1) := by decide +kernel
theorem dX4_tellOthers_30 : decode cX4_tellOthers 30 = .ok (.getfield 11, 3) := by decide +kernel
theorem dX4_tellOthers_33 : decode cX4_tellOthers 33 = .ok (.iload_n 3, 1) := by decide +kernel
theorem dX4_tellOthers_34 : decode cX4_tellOthers 34 = .ok (.aaload, 1) := by decide +kernel
theorem dX4_tellOthers_35 : decode cX4_tellOthers 35 = .ok (.aload_n 1, 1) := by decide +kernel
theorem dX4_tellOthers_36 : decode cX4_tellOthers 36 = .ok (.invokevirtual 253, 3) := by decide +kernel
theorem dX4_tellOthers_39 : decode cX4_tellOthers 39 = .ok (.iinc 3 1, 3) := by decide +kernel
theorem dX4_tellOthers_42 : decode cX4_tellOthers 42 = .ok (.goto (-40), 3) := by decide +kernel
theorem dX4_tellOthers_45 : decode cX4_tellOthers 45 = .ok (.return_, 1) := by decide +kernel
theorem dX4_post_0 : decode cX4_post 0 = .ok (.aload_n 0, 1) := by decide +kernel
theorem dX4_post_1 : decode cX4_post 1 = .ok (.getfield 32, 3) := by decide +kernel
theorem dX4_post_4 : decode cX4_post 4 = .ok (.new 155, 3) := by decide +kernel
theorem dX4_post_7 : decode cX4_post 7 = .ok (.dup, 1) := by decide +kernel
theorem dX4_post_8 : decode cX4_post 8 = .ok (.iload_n 1, 1) := by decide +kernel
theorem dX4_post_9 : decode cX4_post 9 = .ok (.aload_n 2, 1) := by decide +kernel
theorem dX4_post_10 : decode cX4_post 10 = .ok (.aload_n 3, 1) := by decide +kernel
theorem dX4_post_11 : decode cX4_post 11 = .ok (.aload 4, 2) := by decide +kernel
theorem dX4_post_13 : decode cX4_post 13 = .ok (.invokespecial 257, 3) := by decide +kernel
theorem dX4_post_16 : decode cX4_post 16 = .ok (.invokevirtual 55, 3) := by decide +kernel
theorem dX4_post_19 : decode cX4_post 19 = .ok (.pop, 1) := by decide +kernel
theorem dX4_post_20 : decode cX4_post 20 = .ok (.return_, 1) := by decide +kernel
theorem dX4_makeCommitted_0 : decode cX4_makeCommitted 0 = .ok (.aload_n 1, 1) := by decide +kernel
theorem dX4_makeCommitted_1 : decode cX4_makeCommitted 1 = .ok (.iconst 2, 1) := by decide +kernel
theorem dX4_makeCommitted_2 : decode cX4_makeCommitted 2 = .ok (.putfield 113, 3) := by decide +kernel
theorem dX4_makeCommitted_5 : decode cX4_makeCommitted 5 = .ok (.aload_n 1, 1) := by decide +kernel
theorem dX4_makeCommitted_6 : decode cX4_makeCommitted 6 = .ok (.invokevirtual 259, 3) := by decide +kernel
theorem dX4_makeCommitted_9 : decode cX4_makeCommitted 9 = .ok (.ifCond .ne 4, 3) := by decide +kernel
theorem dX4_makeCommitted_12 : decode cX4_makeCommitted 12 = .ok (.return_, 1) := by decide +kernel
theorem dX4_makeCommitted_13 : decode cX4_makeCommitted 13 = .ok (.aload_n 1, 1) := by decide +kernel
theorem dX4_makeCommitted_14 : decode cX4_makeCommitted 14 = .ok (.aload_n 1, 1) := by decide +kernel
theorem dX4_makeCommitted_15 : decode cX4_makeCommitted 15 = .ok (.getfield 83, 3) := by decide +kernel
theorem dX4_makeCommitted_18 : decode cX4_makeCommitted 18 = .ok (.getfield 204, 3) := by decide +kernel
theorem dX4_makeCommitted_21 : decode cX4_makeCommitted 21 = .ok (.aload_n 1, 1) := by decide +kernel
theorem dX4_makeCommitted_22 : decode cX4_makeCommitted 22 = .ok (.getfield 83, 3) := by decide +kernel
theorem dX4_makeCommitted_25 : decode cX4_makeCommitted 25 = .ok (.getfield 176, 3) := by decide +kernel
theorem dX4_makeCommitted_28 : decode cX4_makeCommitted 28 = .ok (.iaload, 1) := by decide +kernel
theorem dX4_makeCommitted_29 : decode cX4_makeCommitted 29 = .ok (.iconst 1, 1) := by decide +kernel
theorem dX4_makeCommitted_30 : decode cX4_makeCommitted 30 = .ok (.iadd, 1) := by decide +kernel
theorem dX4_makeCommitted_31 : decode cX4_makeCommitted 31 = .ok (.putfield 189, 3) := by decide +kernel
theorem dX4_makeCommitted_34 : decode cX4_makeCommitted 34 = .ok (.aload_n 1, 1) := by decide +kernel
theorem dX4_makeCommitted_35 : decode cX4_makeCommitted 35 = .ok (.getfield 83, 3) := by decide +kernel
theorem dX4_makeCommitted_38 : decode cX4_makeCommitted 38 = .ok (.aload_n 1, 1) := by decide +kernel
theorem dX4_makeCommitted_39 : decode cX4_makeCommitted 39 = .ok (.invokevirtual 262, 3) := by decide +kernel
theorem dX4_makeCommitted_42 : decode cX4_makeCommitted 42 = .ok (.aload_n 0, 1) := by decide +kernel
theorem dX4_makeCommitted_43 : decode cX4_makeCommitted 43 = .ok (.aload_n 1, 1) := by decide +kernel
theorem dX4_makeCommitted_44 : decode cX4_makeCommitted 44 = .ok (.iconst 4, 1) := by decide +kernel
theorem dX4_makeCommitted_45 : decode cX4_makeCommitted 45 = .ok (.invokevirtual 265, 3) := by decide +kernel
theorem dX4_makeCommitted_48 : decode cX4_makeCommitted 48 = .ok (.return_, 1) := by decide +kernel
theorem dX4_firstThatCanCome_0 : decode cX4_firstThatCanCome 0 = .ok (.iconst 0, 1) := by decide +kernel
theorem dX4_firstThatCanCome_1 : decode cX4_firstThatCanCome 1 = .ok (.istore_n 1, 1) := by decide +kernel
theorem dX4_firstThatCanCome_2 : decode cX4_firstThatCanCome 2 = .ok (.iload_n 1, 1) := by decide +kernel
theorem dX4_firstThatCanCome_3 : decode cX4_firstThatCanCome 3 = .ok (.aload_n 0, 1) := by decide +kernel
theorem dX4_firstThatCanCome_4 : decode cX4_firstThatCanCome 4 = .ok (.getfield 32, 3) := by decide +kernel
theorem dX4_firstThatCanCome_7 : decode cX4_firstThatCanCome 7 = .ok (.invokevirtual 46, 3) := by decide +kernel
theorem dX4_firstThatCanCome_10 : decode cX4_firstThatCanCome 10 = .ok (.if_icmp .ge 28, 3) := by decide +kernel
theorem dX4_firstThatCanCome_13 : decode cX4_firstThatCanCome 13 = .ok (.aload_n 0, 1) := by decide +kernel
theorem dX4_firstThatCanCome_14 : decode cX4_firstThatCanCome 14 = .ok (.getfield 32, 3) := by decide +kernel
theorem dX4_firstThatCanCome_17 : decode cX4_firstThatCanCome 17 = .ok (.iload_n 1, 1) := by decide +kernel
theorem dX4_firstThatCanCome_18 : decode cX4_firstThatCanCome 18 = .ok (.invokevirtual 232, 3) := by decide +kernel
theorem dX4_firstThatCanCome_21 : decode cX4_firstThatCanCome 21 = .ok (.checkcast 155, 3) := by decide +kernel
theorem dX4_firstThatCanCome_24 : decode cX4_firstThatCanCome 24 = .ok (.invokevirtual 154, 3) := by decide +kernel
theorem dX4_firstThatCanCome_27 : decode cX4_firstThatCanCome 27 = .ok (.ifCond .eq 5, 3) := by decide +kernel
theorem dX4_firstThatCanCome_30 : decode cX4_firstThatCanCome 30 = .ok (.iload_n 1, 1) := by decide +kernel
theorem dX4_firstThatCanCome_31 : decode cX4_firstThatCanCome 31 = .ok (.ireturn, 1) := by decide +kernel
theorem dX4_firstThatCanCome_32 : decode cX4_firstThatCanCome 32 = .ok (.iinc 1 1, 3) := by decide +kernel
theorem dX4_firstThatCanCome_35 : decode cX4_firstThatCanCome 35 = .ok (.goto (-33), 3) := by decide +kernel
theorem dX4_firstThatCanCome_38 : decode cX4_firstThatCanCome 38 = .ok (.bipush (-4), 2) := by decide +kernel
theorem dX4_firstThatCanCome_40 : decode cX4_firstThatCanCome 40 = .ok (.ireturn, 1) := by decide +kernel
theorem dX4_receive_0 : decode cX4_receive 0 = .ok (.aload_n 1, 1) := by decide +kernel
theorem dX4_receive_1 : decode cX4_receive 1 = .ok (.getfield 167, 3) := by decide +kernel
theorem dX4_receive_4 : decode cX4_receive 4 = .ok (.tableswitch 82 0 4 #[36, 44, 55, 66, 74], 36) := by decide +kernel
theorem dX4_receive_40 : decode cX4_receive 40 = .ok (.aload_n 0, 1) := by decide +kernel
theorem dX4_receive_41 : decode cX4_receive 41 = .ok (.aload_n 1, 1) := by decide +kernel
theorem dX4_receive_42 : decode cX4_receive 42 = .ok (.invokevirtual 269, 3) := by decide +kernel
theorem dX4_receive_45 : decode cX4_receive 45 = .ok (.goto 54, 3) := by decide +kernel
theorem dX4_receive_48 : decode cX4_receive 48 = .ok (.aload_n 0, 1) := by decide +kernel
theorem dX4_receive_49 : decode cX4_receive 49 = .ok (.aload_n 1, 1) := by decide +kernel
theorem dX4_receive_50 : decode cX4_receive 50 = .ok (.getfield 180, 3) := by decide +kernel
theorem dX4_receive_53 : decode cX4_receive 53 = .ok (.invokevirtual 272, 3) := by decide +kernel
theorem dX4_receive_56 : decode cX4_receive 56 = .ok (.goto 43, 3) := by decide +kernel
theorem dX4_receive_59 : decode cX4_receive 59 = .ok (.aload_n 0, 1) := by decide +kernel
theorem dX4_receive_60 : decode cX4_receive 60 = .ok (.aload_n 1, 1) := by decide +kernel
theorem dX4_receive_61 : decode cX4_receive 61 = .ok (.getfield 180, 3) := by decide +kernel
theorem dX4_receive_64 : decode cX4_receive 64 = .ok (.invokevirtual 275, 3) := by decide +kernel
theorem dX4_receive_67 : decode cX4_receive 67 = .ok (.goto 32, 3) := by decide +kernel
theorem dX4_receive_70 : decode cX4_receive 70 = .ok (.aload_n 0, 1) := by decide +kernel
theorem dX4_receive_71 : decode cX4_receive 71 = .ok (.aload_n 1, 1) := by decide +kernel
theorem dX4_receive_72 : decode cX4_receive 72 = .ok (.invokevirtual 278, 3) := by decide +kernel
theorem dX4_receive_75 : decode cX4_receive 75 = .ok (.goto 24, 3) := by decide +kernel
theorem dX4_receive_78 : decode cX4_receive 78 = .ok (.aload_n 0, 1) := by decide +kernel
theorem dX4_receive_79 : decode cX4_receive 79 = .ok (.aload_n 1, 1) := by decide +kernel
theorem dX4_receive_80 : decode cX4_receive 80 = .ok (.invokevirtual 281, 3) := by decide +kernel
theorem dX4_receive_83 : decode cX4_receive 83 = .ok (.goto 16, 3) := by decide +kernel
theorem dX4_receive_86 : decode cX4_receive 86 = .ok (.aload_n 1, 1) := by decide +kernel
theorem dX4_receive_87 : decode cX4_receive 87 = .ok (.getfield 180, 3) := by decide +kernel
theorem dX4_receive_90 : decode cX4_receive 90 = .ok (.dup, 1) := by decide +kernel
theorem dX4_receive_91 : decode cX4_receive 91 = .ok (.getfield 192, 3) := by decide +kernel
theorem dX4_receive_94 : decode cX4_receive 94 = .ok (.iconst 1, 1) := by decide +kernel
theorem dX4_receive_95 : decode cX4_receive 95 = .ok (.iadd, 1) := by decide +kernel
theorem dX4_receive_96 : decode cX4_receive 96 = .ok (.putfield 192, 3) := by decide +kernel
theorem dX4_receive_99 : decode cX4_receive 99 = .ok (.return_, 1) := by decide +kernel
theorem dX4_receiveAsk_0 : decode cX4_receiveAsk 0 = .ok (.aload_n 1, 1) := by decide +kernel
theorem dX4_receiveAsk_1 : decode cX4_receiveAsk 1 = .ok (.getfield 180, 3) := by decide +kernel
theorem dX4_receiveAsk_4 : decode cX4_receiveAsk 4 = .ok (.getfield 284, 3) := by decide +kernel
theorem dX4_receiveAsk_7 : decode cX4_receiveAsk 7 = .ok (.aload_n 1, 1) := by decide +kernel
theorem dX4_receiveAsk_8 : decode cX4_receiveAsk 8 = .ok (.getfield 173, 3) := by decide +kernel
theorem dX4_receiveAsk_11 : decode cX4_receiveAsk 11 = .ok (.getfield 176, 3) := by decide +kernel
theorem dX4_receiveAsk_14 : decode cX4_receiveAsk 14 = .ok (.baload, 1) := by decide +kernel
theorem dX4_receiveAsk_15 : decode cX4_receiveAsk 15 = .ok (.ifCond .eq 4, 3) := by decide +kernel
theorem dX4_receiveAsk_18 : decode cX4_receiveAsk 18 = .ok (.return_, 1) := by decide +kernel
theorem dX4_receiveAsk_19 : decode cX4_receiveAsk 19 = .ok (.aload_n 0, 1) := by decide +kernel
theorem dX4_receiveAsk_20 : decode cX4_receiveAsk 20 = .ok (.aload_n 1, 1) := by decide +kernel
theorem dX4_receiveAsk_21 : decode cX4_receiveAsk 21 = .ok (.getfield 180, 3) := by decide +kernel
theorem dX4_receiveAsk_24 : decode cX4_receiveAsk 24 = .ok (.aload_n 1, 1) := by decide +kernel
theorem dX4_receiveAsk_25 : decode cX4_receiveAsk 25 = .ok (.getfield 173, 3) := by decide +kernel
theorem dX4_receiveAsk_28 : decode cX4_receiveAsk 28 = .ok (.invokevirtual 127, 3) := by decide +kernel
theorem dX4_receiveAsk_31 : decode cX4_receiveAsk 31 = .ok (.istore_n 2, 1) := by decide +kernel
theorem dX4_receiveAsk_32 : decode cX4_receiveAsk 32 = .ok (.iload_n 2, 1) := by decide +kernel
theorem dX4_receiveAsk_33 : decode cX4_receiveAsk 33 = .ok (.ifCond .eq 15, 3) := by decide +kernel
theorem dX4_receiveAsk_36 : decode cX4_receiveAsk 36 = .ok (.aload_n 0, 1) := by decide +kernel
theorem dX4_receiveAsk_37 : decode cX4_receiveAsk 37 = .ok (.aload_n 1, 1) := by decide +kernel
theorem dX4_receiveAsk_38 : decode cX4_receiveAsk 38 = .ok (.getfield 180, 3) := by decide +kernel
theorem dX4_receiveAsk_41 : decode cX4_receiveAsk 41 = .ok (.aload_n 1, 1) := by decide +kernel
theorem dX4_receiveAsk_42 : decode cX4_receiveAsk 42 = .ok (.getfield 173, 3) := by decide +kernel
theorem dX4_receiveAsk_45 : decode cX4_receiveAsk 45 = .ok (.invokevirtual 135, 3) := by decide +kernel
theorem dX4_receiveAsk_48 : decode cX4_receiveAsk 48 = .ok (.aload_n 0, 1) := by decide +kernel
theorem dX4_receiveAsk_49 : decode cX4_receiveAsk 49 = .ok (.iload_n 2, 1) := by decide +kernel
theorem dX4_receiveAsk_50 : decode cX4_receiveAsk 50 = .ok (.ifCond .eq 7, 3) := by decide +kernel
theorem dX4_receiveAsk_53 : decode cX4_receiveAsk 53 = .ok (.iconst 1, 1) := by decide +kernel
theorem dX4_receiveAsk_54 : decode cX4_receiveAsk 54 = .ok (.goto 4, 3) := by decide +kernel
theorem dX4_receiveAsk_57 : decode cX4_receiveAsk 57 = .ok (.iconst 2, 1) := by decide +kernel
theorem dX4_receiveAsk_58 : decode cX4_receiveAsk 58 = .ok (.aload_n 1, 1) := by decide +kernel
theorem dX4_receiveAsk_59 : decode cX4_receiveAsk 59 = .ok (.getfield 173, 3) := by decide +kernel
theorem dX4_receiveAsk_62 : decode cX4_receiveAsk 62 = .ok (.aload_n 1, 1) := by decide +kernel
theorem dX4_receiveAsk_63 : decode cX4_receiveAsk 63 = .ok (.getfield 177, 3) := by decide +kernel
theorem dX4_receiveAsk_66 : decode cX4_receiveAsk 66 = .ok (.aload_n 1, 1) := by decide +kernel
theorem dX4_receiveAsk_67 : decode cX4_receiveAsk 67 = .ok (.getfield 180, 3) := by decide +kernel
theorem dX4_receiveAsk_70 : decode cX4_receiveAsk 70 = .ok (.invokevirtual 253, 3) := by decide +kernel
theorem dX4_receiveAsk_73 : decode cX4_receiveAsk 73 = .ok (.return_, 1) := by decide +kernel
theorem dX4_receiveYes_0 : decode cX4_receiveYes 0 = .ok (.aload_n 1, 1) := by decide +kernel
theorem dX4_receiveYes_1 : decode cX4_receiveYes 1 = .ok (.dup, 1) := by decide +kernel
theorem dX4_receiveYes_2 : decode cX4_receiveYes 2 = .ok (.getfield 201, 3) := by decide +kernel
theorem dX4_receiveYes_5 : decode cX4_receiveYes 5 = .ok (.iconst 1, 1) := by decide +kernel
theorem dX4_receiveYes_6 : decode cX4_receiveYes 6 = .ok (.iadd, 1) := by decide +kernel
theorem dX4_receiveYes_7 : decode cX4_receiveYes 7 = .ok (.putfield 201, 3) := by decide +kernel
theorem dX4_receiveYes_10 : decode cX4_receiveYes 10 = .ok (.aload_n 1, 1) := by decide +kernel
theorem dX4_receiveYes_11 : decode cX4_receiveYes 11 = .ok (.getfield 113, 3) := by decide +kernel
theorem dX4_receiveYes_14 : decode cX4_receiveYes 14 = .ok (.iconst 1, 1) := by decide +kernel
theorem dX4_receiveYes_15 : decode cX4_receiveYes 15 = .ok (.if_icmp .ne 19, 3) := by decide +kernel
theorem dX4_receiveYes_18 : decode cX4_receiveYes 18 = .ok (.aload_n 1, 1) := by decide +kernel
theorem dX4_receiveYes_19 : decode cX4_receiveYes 19 = .ok (.getfield 201, 3) := by decide +kernel
theorem dX4_receiveYes_22 : decode cX4_receiveYes 22 = .ok (.aload_n 1, 1) := by decide +kernel
theorem dX4_receiveYes_23 : decode cX4_receiveYes 23 = .ok (.getfield 143, 3) := by decide +kernel
theorem dX4_receiveYes_26 : decode cX4_receiveYes 26 = .ok (.if_icmp .ne 8, 3) := by decide +kernel
theorem dX4_receiveYes_29 : decode cX4_receiveYes 29 = .ok (.aload_n 0, 1) := by decide +kernel
theorem dX4_receiveYes_30 : decode cX4_receiveYes 30 = .ok (.aload_n 1, 1) := by decide +kernel
theorem dX4_receiveYes_31 : decode cX4_receiveYes 31 = .ok (.invokevirtual 146, 3) := by decide +kernel
theorem dX4_receiveYes_34 : decode cX4_receiveYes 34 = .ok (.return_, 1) := by decide +kernel
theorem dX4_receiveNo_0 : decode cX4_receiveNo 0 = .ok (.aload_n 1, 1) := by decide +kernel
theorem dX4_receiveNo_1 : decode cX4_receiveNo 1 = .ok (.getfield 113, 3) := by decide +kernel
theorem dX4_receiveNo_4 : decode cX4_receiveNo 4 = .ok (.iconst 1, 1) := by decide +kernel
theorem dX4_receiveNo_5 : decode cX4_receiveNo 5 = .ok (.if_icmp .eq 4, 3) := by decide +kernel
theorem dX4_receiveNo_8 : decode cX4_receiveNo 8 = .ok (.return_, 1) := by decide +kernel
theorem dX4_receiveNo_9 : decode cX4_receiveNo 9 = .ok (.aload_n 1, 1) := by decide +kernel
theorem dX4_receiveNo_10 : decode cX4_receiveNo 10 = .ok (.iconst 3, 1) := by decide +kernel
theorem dX4_receiveNo_11 : decode cX4_receiveNo 11 = .ok (.putfield 113, 3) := by decide +kernel
theorem dX4_receiveNo_14 : decode cX4_receiveNo 14 = .ok (.aload_n 1, 1) := by decide +kernel
theorem dX4_receiveNo_15 : decode cX4_receiveNo 15 = .ok (.getfield 83, 3) := by decide +kernel
theorem dX4_receiveNo_18 : decode cX4_receiveNo 18 = .ok (.aload_n 1, 1) := by decide +kernel
theorem dX4_receiveNo_19 : decode cX4_receiveNo 19 = .ok (.invokevirtual 287, 3) := by decide +kernel
theorem dX4_receiveNo_22 : decode cX4_receiveNo 22 = .ok (.aload_n 0, 1) := by decide +kernel
theorem dX4_receiveNo_23 : decode cX4_receiveNo 23 = .ok (.aload_n 1, 1) := by decide +kernel
theorem dX4_receiveNo_24 : decode cX4_receiveNo 24 = .ok (.iconst 3, 1) := by decide +kernel
theorem dX4_receiveNo_25 : decode cX4_receiveNo 25 = .ok (.invokevirtual 139, 3) := by decide +kernel
theorem dX4_receiveNo_28 : decode cX4_receiveNo 28 = .ok (.pop, 1) := by decide +kernel
theorem dX4_receiveNo_29 : decode cX4_receiveNo 29 = .ok (.return_, 1) := by decide +kernel
theorem dX4_receiveDrop_0 : decode cX4_receiveDrop 0 = .ok (.aload_n 1, 1) := by decide +kernel
theorem dX4_receiveDrop_1 : decode cX4_receiveDrop 1 = .ok (.getfield 180, 3) := by decide +kernel
theorem dX4_receiveDrop_4 : decode cX4_receiveDrop 4 = .ok (.getfield 284, 3) := by decide +kernel
theorem dX4_receiveDrop_7 : decode cX4_receiveDrop 7 = .ok (.aload_n 1, 1) := by decide +kernel
theorem dX4_receiveDrop_8 : decode cX4_receiveDrop 8 = .ok (.getfield 173, 3) := by decide +kernel
theorem dX4_receiveDrop_11 : decode cX4_receiveDrop 11 = .ok (.getfield 176, 3) := by decide +kernel
theorem dX4_receiveDrop_14 : decode cX4_receiveDrop 14 = .ok (.iconst 1, 1) := by decide +kernel
theorem dX4_receiveDrop_15 : decode cX4_receiveDrop 15 = .ok (.bastore, 1) := by decide +kernel
theorem dX4_receiveDrop_16 : decode cX4_receiveDrop 16 = .ok (.aload_n 1, 1) := by decide +kernel
theorem dX4_receiveDrop_17 : decode cX4_receiveDrop 17 = .ok (.getfield 173, 3) := by decide +kernel
theorem dX4_receiveDrop_20 : decode cX4_receiveDrop 20 = .ok (.aload_n 1, 1) := by decide +kernel
theorem dX4_receiveDrop_21 : decode cX4_receiveDrop 21 = .ok (.getfield 180, 3) := by decide +kernel
theorem dX4_receiveDrop_24 : decode cX4_receiveDrop 24 = .ok (.invokevirtual 287, 3) := by decide +kernel
theorem dX4_receiveDrop_27 : decode cX4_receiveDrop 27 = .ok (.return_, 1) := by decide +kernel
theorem dX4_receiveSend_0 : decode cX4_receiveSend 0 = .ok (.aload_n 1, 1) := by decide +kernel
theorem dX4_receiveSend_1 : decode cX4_receiveSend 1 = .ok (.getfield 173, 3) := by decide +kernel
theorem dX4_receiveSend_4 : decode cX4_receiveSend 4 = .ok (.aload_n 1, 1) := by decide +kernel
theorem dX4_receiveSend_5 : decode cX4_receiveSend 5 = .ok (.getfield 180, 3) := by decide +kernel
theorem dX4_receiveSend_8 : decode cX4_receiveSend 8 = .ok (.invokevirtual 262, 3) := by decide +kernel
theorem dX4_receiveSend_11 : decode cX4_receiveSend 11 = .ok (.aload_n 0, 1) := by decide +kernel
theorem dX4_receiveSend_12 : decode cX4_receiveSend 12 = .ok (.iconst 5, 1) := by decide +kernel
theorem dX4_receiveSend_13 : decode cX4_receiveSend 13 = .ok (.aload_n 1, 1) := by decide +kernel
theorem dX4_receiveSend_14 : decode cX4_receiveSend 14 = .ok (.getfield 173, 3) := by decide +kernel
theorem dX4_receiveSend_17 : decode cX4_receiveSend 17 = .ok (.aload_n 1, 1) := by decide +kernel
theorem dX4_receiveSend_18 : decode cX4_receiveSend 18 = .ok (.getfield 177, 3) := by decide +kernel
theorem dX4_receiveSend_21 : decode cX4_receiveSend 21 = .ok (.aload_n 1, 1) := by decide +kernel
theorem dX4_receiveSend_22 : decode cX4_receiveSend 22 = .ok (.getfield 180, 3) := by decide +kernel
theorem dX4_receiveSend_25 : decode cX4_receiveSend 25 = .ok (.invokevirtual 253, 3) := by decide +kernel
theorem dX4_receiveSend_28 : decode cX4_receiveSend 28 = .ok (.return_, 1) := by decide +kernel
theorem dX4_isSafe_0 : decode cX4_isSafe 0 = .ok (.aload_n 1, 1) := by decide +kernel
theorem dX4_isSafe_1 : decode cX4_isSafe 1 = .ok (.invokevirtual 213, 3) := by decide +kernel
theorem dX4_isSafe_4 : decode cX4_isSafe 4 = .ok (.ifCond .eq 18, 3) := by decide +kernel
theorem dX4_isSafe_7 : decode cX4_isSafe 7 = .ok (.aload_n 1, 1) := by decide +kernel
theorem dX4_isSafe_8 : decode cX4_isSafe 8 = .ok (.getfield 192, 3) := by decide +kernel
theorem dX4_isSafe_11 : decode cX4_isSafe 11 = .ok (.aload_n 0, 1) := by decide +kernel
theorem dX4_isSafe_12 : decode cX4_isSafe 12 = .ok (.getfield 19, 3) := by decide +kernel
theorem dX4_isSafe_15 : decode cX4_isSafe 15 = .ok (.if_icmp .lt 7, 3) := by decide +kernel
theorem dX4_isSafe_18 : decode cX4_isSafe 18 = .ok (.iconst 1, 1) := by decide +kernel
theorem dX4_isSafe_19 : decode cX4_isSafe 19 = .ok (.goto 4, 3) := by decide +kernel
theorem dX4_isSafe_22 : decode cX4_isSafe 22 = .ok (.iconst 0, 1) := by decide +kernel
theorem dX4_isSafe_23 : decode cX4_isSafe 23 = .ok (.ireturn, 1) := by decide +kernel
theorem dX4_isEverywhere_0 : decode cX4_isEverywhere 0 = .ok (.aload_n 1, 1) := by decide +kernel
theorem dX4_isEverywhere_1 : decode cX4_isEverywhere 1 = .ok (.invokevirtual 213, 3) := by decide +kernel
theorem dX4_isEverywhere_4 : decode cX4_isEverywhere 4 = .ok (.ifCond .eq 20, 3) := by decide +kernel
theorem dX4_isEverywhere_7 : decode cX4_isEverywhere 7 = .ok (.aload_n 1, 1) := by decide +kernel
theorem dX4_isEverywhere_8 : decode cX4_isEverywhere 8 = .ok (.getfield 192, 3) := by decide +kernel
theorem dX4_isEverywhere_11 : decode cX4_isEverywhere 11 = .ok (.aload_n 0, 1) := by decide +kernel
theorem dX4_isEverywhere_12 : decode cX4_isEverywhere 12 = .ok (.getfield 15, 3) := by decide +kernel
theorem dX4_isEverywhere_15 : decode cX4_isEverywhere 15 = .ok (.iconst 1, 1) := by decide +kernel
theorem dX4_isEverywhere_16 : decode cX4_isEverywhere 16 = .ok (.isub, 1) := by decide +kernel
theorem dX4_isEverywhere_17 : decode cX4_isEverywhere 17 = .ok (.if_icmp .lt 7, 3) := by decide +kernel
theorem dX4_isEverywhere_20 : decode cX4_isEverywhere 20 = .ok (.iconst 1, 1) := by decide +kernel
theorem dX4_isEverywhere_21 : decode cX4_isEverywhere 21 = .ok (.goto 4, 3) := by decide +kernel
theorem dX4_isEverywhere_24 : decode cX4_isEverywhere 24 = .ok (.iconst 0, 1) := by decide +kernel
theorem dX4_isEverywhere_25 : decode cX4_isEverywhere 25 = .ok (.ireturn, 1) := by decide +kernel
theorem dX4_howManyAre_0 : decode cX4_howManyAre 0 = .ok (.iconst 0, 1) := by decide +kernel
theorem dX4_howManyAre_1 : decode cX4_howManyAre 1 = .ok (.istore_n 2, 1) := by decide +kernel
theorem dX4_howManyAre_2 : decode cX4_howManyAre 2 = .ok (.iconst 0, 1) := by decide +kernel
theorem dX4_howManyAre_3 : decode cX4_howManyAre 3 = .ok (.istore_n 3, 1) := by decide +kernel
theorem dX4_howManyAre_4 : decode cX4_howManyAre 4 = .ok (.iload_n 3, 1) := by decide +kernel
theorem dX4_howManyAre_5 : decode cX4_howManyAre 5 = .ok (.aload_n 0, 1) := by decide +kernel
theorem dX4_howManyAre_6 : decode cX4_howManyAre 6 = .ok (.getfield 29, 3) := by decide +kernel
theorem dX4_howManyAre_9 : decode cX4_howManyAre 9 = .ok (.invokevirtual 46, 3) := by decide +kernel
theorem dX4_howManyAre_12 : decode cX4_howManyAre 12 = .ok (.if_icmp .ge 38, 3) := by decide +kernel
theorem dX4_howManyAre_15 : decode cX4_howManyAre 15 = .ok (.iload_n 2, 1) := by decide +kernel
theorem dX4_howManyAre_16 : decode cX4_howManyAre 16 = .ok (.aload_n 0, 1) := by decide +kernel
theorem dX4_howManyAre_17 : decode cX4_howManyAre 17 = .ok (.getfield 29, 3) := by decide +kernel
theorem dX4_howManyAre_20 : decode cX4_howManyAre 20 = .ok (.iload_n 3, 1) := by decide +kernel
theorem dX4_howManyAre_21 : decode cX4_howManyAre 21 = .ok (.invokevirtual 232, 3) := by decide +kernel
theorem dX4_howManyAre_24 : decode cX4_howManyAre 24 = .ok (.checkcast 59, 3) := by decide +kernel
theorem dX4_howManyAre_27 : decode cX4_howManyAre 27 = .ok (.getfield 113, 3) := by decide +kernel
theorem dX4_howManyAre_30 : decode cX4_howManyAre 30 = .ok (.iload_n 1, 1) := by decide +kernel
theorem dX4_howManyAre_31 : decode cX4_howManyAre 31 = .ok (.if_icmp .ne 7, 3) := by decide +kernel
theorem dX4_howManyAre_34 : decode cX4_howManyAre 34 = .ok (.iconst 1, 1) := by decide +kernel
theorem dX4_howManyAre_35 : decode cX4_howManyAre 35 = .ok (.goto 4, 3) := by decide +kernel
theorem dX4_howManyAre_38 : decode cX4_howManyAre 38 = .ok (.iconst 0, 1) := by decide +kernel
theorem dX4_howManyAre_39 : decode cX4_howManyAre 39 = .ok (.invokestatic 185, 3) := by decide +kernel
theorem dX4_howManyAre_42 : decode cX4_howManyAre 42 = .ok (.iadd, 1) := by decide +kernel
theorem dX4_howManyAre_43 : decode cX4_howManyAre 43 = .ok (.istore_n 2, 1) := by decide +kernel
theorem dX4_howManyAre_44 : decode cX4_howManyAre 44 = .ok (.iinc 3 1, 3) := by decide +kernel
theorem dX4_howManyAre_47 : decode cX4_howManyAre 47 = .ok (.goto (-43), 3) := by decide +kernel
theorem dX4_howManyAre_50 : decode cX4_howManyAre 50 = .ok (.iload_n 2, 1) := by decide +kernel
theorem dX4_howManyAre_51 : decode cX4_howManyAre 51 = .ok (.ireturn, 1) := by decide +kernel
theorem dX4_howManyCommits_0 : decode cX4_howManyCommits 0 = .ok (.iconst 0, 1) := by decide +kernel
theorem dX4_howManyCommits_1 : decode cX4_howManyCommits 1 = .ok (.istore_n 1, 1) := by decide +kernel
theorem dX4_howManyCommits_2 : decode cX4_howManyCommits 2 = .ok (.iconst 0, 1) := by decide +kernel
theorem dX4_howManyCommits_3 : decode cX4_howManyCommits 3 = .ok (.istore_n 2, 1) := by decide +kernel
theorem dX4_howManyCommits_4 : decode cX4_howManyCommits 4 = .ok (.iload_n 2, 1) := by decide +kernel
theorem dX4_howManyCommits_5 : decode cX4_howManyCommits 5 = .ok (.aload_n 0, 1) := by decide +kernel
theorem dX4_howManyCommits_6 : decode cX4_howManyCommits 6 = .ok (.getfield 15, 3) := by decide +kernel
theorem dX4_howManyCommits_9 : decode cX4_howManyCommits 9 = .ok (.if_icmp .ge 23, 3) := by decide +kernel
theorem dX4_howManyCommits_12 : decode cX4_howManyCommits 12 = .ok (.iload_n 1, 1) := by decide +kernel
theorem dX4_howManyCommits_13 : decode cX4_howManyCommits 13 = .ok (.aload_n 0, 1) := by decide +kernel
theorem dX4_howManyCommits_14 : decode cX4_howManyCommits 14 = .ok (.getfield 11, 3) := by decide +kernel
theorem dX4_howManyCommits_17 : decode cX4_howManyCommits 17 = .ok (.iload_n 2, 1) := by decide +kernel
theorem dX4_howManyCommits_18 : decode cX4_howManyCommits 18 = .ok (.aaload, 1) := by decide +kernel
theorem dX4_howManyCommits_19 : decode cX4_howManyCommits 19 = .ok (.getfield 204, 3) := by decide +kernel
theorem dX4_howManyCommits_22 : decode cX4_howManyCommits 22 = .ok (.iload_n 2, 1) := by decide +kernel
theorem dX4_howManyCommits_23 : decode cX4_howManyCommits 23 = .ok (.iaload, 1) := by decide +kernel
theorem dX4_howManyCommits_24 : decode cX4_howManyCommits 24 = .ok (.iadd, 1) := by decide +kernel
theorem dX4_howManyCommits_25 : decode cX4_howManyCommits 25 = .ok (.istore_n 1, 1) := by decide +kernel
theorem dX4_howManyCommits_26 : decode cX4_howManyCommits 26 = .ok (.iinc 2 1, 3) := by decide +kernel
theorem dX4_howManyCommits_29 : decode cX4_howManyCommits 29 = .ok (.goto (-25), 3) := by decide +kernel
theorem dX4_howManyCommits_32 : decode cX4_howManyCommits 32 = .ok (.iload_n 1, 1) := by decide +kernel
theorem dX4_howManyCommits_33 : decode cX4_howManyCommits 33 = .ok (.ireturn, 1) := by decide +kernel
theorem dX4_howManyLocks_0 : decode cX4_howManyLocks 0 = .ok (.iconst 0, 1) := by decide +kernel
theorem dX4_howManyLocks_1 : decode cX4_howManyLocks 1 = .ok (.istore_n 1, 1) := by decide +kernel
theorem dX4_howManyLocks_2 : decode cX4_howManyLocks 2 = .ok (.iconst 0, 1) := by decide +kernel
theorem dX4_howManyLocks_3 : decode cX4_howManyLocks 3 = .ok (.istore_n 2, 1) := by decide +kernel
theorem dX4_howManyLocks_4 : decode cX4_howManyLocks 4 = .ok (.iload_n 2, 1) := by decide +kernel
theorem dX4_howManyLocks_5 : decode cX4_howManyLocks 5 = .ok (.aload_n 0, 1) := by decide +kernel
theorem dX4_howManyLocks_6 : decode cX4_howManyLocks 6 = .ok (.getfield 15, 3) := by decide +kernel
theorem dX4_howManyLocks_9 : decode cX4_howManyLocks 9 = .ok (.if_icmp .ge 21, 3) := by decide +kernel
theorem dX4_howManyLocks_12 : decode cX4_howManyLocks 12 = .ok (.iload_n 1, 1) := by decide +kernel
theorem dX4_howManyLocks_13 : decode cX4_howManyLocks 13 = .ok (.aload_n 0, 1) := by decide +kernel
theorem dX4_howManyLocks_14 : decode cX4_howManyLocks 14 = .ok (.getfield 11, 3) := by decide +kernel
theorem dX4_howManyLocks_17 : decode cX4_howManyLocks 17 = .ok (.iload_n 2, 1) := by decide +kernel
theorem dX4_howManyLocks_18 : decode cX4_howManyLocks 18 = .ok (.aaload, 1) := by decide +kernel
theorem dX4_howManyLocks_19 : decode cX4_howManyLocks 19 = .ok (.invokevirtual 290, 3) := by decide +kernel
theorem dX4_howManyLocks_22 : decode cX4_howManyLocks 22 = .ok (.iadd, 1) := by decide +kernel
theorem dX4_howManyLocks_23 : decode cX4_howManyLocks 23 = .ok (.istore_n 1, 1) := by decide +kernel
theorem dX4_howManyLocks_24 : decode cX4_howManyLocks 24 = .ok (.iinc 2 1, 3) := by decide +kernel
theorem dX4_howManyLocks_27 : decode cX4_howManyLocks 27 = .ok (.goto (-23), 3) := by decide +kernel
theorem dX4_howManyLocks_30 : decode cX4_howManyLocks 30 = .ok (.iload_n 1, 1) := by decide +kernel
theorem dX4_howManyLocks_31 : decode cX4_howManyLocks 31 = .ok (.ireturn, 1) := by decide +kernel
theorem dX4_howManySafe_0 : decode cX4_howManySafe 0 = .ok (.iconst 0, 1) := by decide +kernel
theorem dX4_howManySafe_1 : decode cX4_howManySafe 1 = .ok (.istore_n 1, 1) := by decide +kernel
theorem dX4_howManySafe_2 : decode cX4_howManySafe 2 = .ok (.iconst 0, 1) := by decide +kernel
theorem dX4_howManySafe_3 : decode cX4_howManySafe 3 = .ok (.istore_n 2, 1) := by decide +kernel
theorem dX4_howManySafe_4 : decode cX4_howManySafe 4 = .ok (.iload_n 2, 1) := by decide +kernel
theorem dX4_howManySafe_5 : decode cX4_howManySafe 5 = .ok (.aload_n 0, 1) := by decide +kernel
theorem dX4_howManySafe_6 : decode cX4_howManySafe 6 = .ok (.getfield 29, 3) := by decide +kernel
theorem dX4_howManySafe_9 : decode cX4_howManySafe 9 = .ok (.invokevirtual 46, 3) := by decide +kernel
theorem dX4_howManySafe_12 : decode cX4_howManySafe 12 = .ok (.if_icmp .ge 30, 3) := by decide +kernel
theorem dX4_howManySafe_15 : decode cX4_howManySafe 15 = .ok (.iload_n 1, 1) := by decide +kernel
theorem dX4_howManySafe_16 : decode cX4_howManySafe 16 = .ok (.aload_n 0, 1) := by decide +kernel
theorem dX4_howManySafe_17 : decode cX4_howManySafe 17 = .ok (.aload_n 0, 1) := by decide +kernel
theorem dX4_howManySafe_18 : decode cX4_howManySafe 18 = .ok (.getfield 29, 3) := by decide +kernel
theorem dX4_howManySafe_21 : decode cX4_howManySafe 21 = .ok (.iload_n 2, 1) := by decide +kernel
theorem dX4_howManySafe_22 : decode cX4_howManySafe 22 = .ok (.invokevirtual 232, 3) := by decide +kernel
theorem dX4_howManySafe_25 : decode cX4_howManySafe 25 = .ok (.checkcast 59, 3) := by decide +kernel
theorem dX4_howManySafe_28 : decode cX4_howManySafe 28 = .ok (.invokevirtual 195, 3) := by decide +kernel
theorem dX4_howManySafe_31 : decode cX4_howManySafe 31 = .ok (.invokestatic 185, 3) := by decide +kernel
theorem dX4_howManySafe_34 : decode cX4_howManySafe 34 = .ok (.iadd, 1) := by decide +kernel
theorem dX4_howManySafe_35 : decode cX4_howManySafe 35 = .ok (.istore_n 1, 1) := by decide +kernel
theorem dX4_howManySafe_36 : decode cX4_howManySafe 36 = .ok (.iinc 2 1, 3) := by decide +kernel
theorem dX4_howManySafe_39 : decode cX4_howManySafe 39 = .ok (.goto (-35), 3) := by decide +kernel
theorem dX4_howManySafe_42 : decode cX4_howManySafe 42 = .ok (.iload_n 1, 1) := by decide +kernel
theorem dX4_howManySafe_43 : decode cX4_howManySafe 43 = .ok (.ireturn, 1) := by decide +kernel
end
section
theorem dX5_init_0 : decode cX5_init 0 = .ok (.aload_n 0, 1) := by decide +kernel
theorem dX5_init_1 : decode cX5_init 1 = .ok (.invokespecial 1, 3) := by decide +kernel
theorem dX5_init_4 : decode cX5_init 4 = .ok (.aload_n 0, 1) := by decide +kernel
theorem dX5_init_5 : decode cX5_init 5 = .ok (.iconst 3, 1) := by decide +kernel
theorem dX5_init_6 : decode cX5_init 6 = .ok (.putfield 7, 3) := by decide +kernel
theorem dX5_init_9 : decode cX5_init 9 = .ok (.aload_n 0, 1) := by decide +kernel
theorem dX5_init_10 : decode cX5_init 10 = .ok (.iconst 1, 1) := by decide +kernel
theorem dX5_init_11 : decode cX5_init 11 = .ok (.putfield 13, 3) := by decide +kernel
theorem dX5_init_14 : decode cX5_init 14 = .ok (.aload_n 0, 1) := by decide +kernel
theorem dX5_init_15 : decode cX5_init 15 = .ok (.bipush 12, 2) := by decide +kernel
theorem dX5_init_17 : decode cX5_init 17 = .ok (.newarray .int, 2) := by decide +kernel
theorem dX5_init_19 : decode cX5_init 19 = .ok (.putfield 16, 3) := by decide +kernel
theorem dX5_init_22 : decode cX5_init 22 = .ok (.aload_n 0, 1) := by decide +kernel
theorem dX5_init_23 : decode cX5_init 23 = .ok (.bipush 12, 2) := by decide +kernel
theorem dX5_init_25 : decode cX5_init 25 = .ok (.newarray .boolean, 2) := by decide +kernel
theorem dX5_init_27 : decode cX5_init 27 = .ok (.putfield 20, 3) := by decide +kernel
theorem dX5_init_30 : decode cX5_init 30 = .ok (.aload_n 0, 1) := by decide +kernel
theorem dX5_init_31 : decode cX5_init 31 = .ok (.sipush 150, 3) := by decide +kernel
theorem dX5_init_34 : decode cX5_init 34 = .ok (.newarray .int, 2) := by decide +kernel
theorem dX5_init_36 : decode cX5_init 36 = .ok (.putfield 24, 3) := by decide +kernel
theorem dX5_init_39 : decode cX5_init 39 = .ok (.aload_n 0, 1) := by decide +kernel
theorem dX5_init_40 : decode cX5_init 40 = .ok (.sipush 150, 3) := by decide +kernel
theorem dX5_init_43 : decode cX5_init 43 = .ok (.newarray .int, 2) := by decide +kernel
theorem dX5_init_45 : decode cX5_init 45 = .ok (.putfield 27, 3) := by decide +kernel
theorem dX5_init_48 : decode cX5_init 48 = .ok (.aload_n 0, 1) := by decide +kernel
theorem dX5_init_49 : decode cX5_init 49 = .ok (.sipush 600, 3) := by decide +kernel
theorem dX5_init_52 : decode cX5_init 52 = .ok (.newarray .int, 2) := by decide +kernel
theorem dX5_init_54 : decode cX5_init 54 = .ok (.putfield 30, 3) := by decide +kernel
theorem dX5_init_57 : decode cX5_init 57 = .ok (.aload_n 0, 1) := by decide +kernel
theorem dX5_init_58 : decode cX5_init 58 = .ok (.sipush 150, 3) := by decide +kernel
theorem dX5_init_61 : decode cX5_init 61 = .ok (.newarray .int, 2) := by decide +kernel
theorem dX5_init_63 : decode cX5_init 63 = .ok (.putfield 33, 3) := by decide +kernel
theorem dX5_init_66 : decode cX5_init 66 = .ok (.aload_n 0, 1) := by decide +kernel
theorem dX5_init_67 : decode cX5_init 67 = .ok (.sipush 150, 3) := by decide +kernel
theorem dX5_init_70 : decode cX5_init 70 = .ok (.newarray .int, 2) := by decide +kernel
theorem dX5_init_72 : decode cX5_init 72 = .ok (.putfield 36, 3) := by decide +kernel
theorem dX5_init_75 : decode cX5_init 75 = .ok (.aload_n 0, 1) := by decide +kernel
theorem dX5_init_76 : decode cX5_init 76 = .ok (.sipush 150, 3) := by decide +kernel
theorem dX5_init_79 : decode cX5_init 79 = .ok (.newarray .int, 2) := by decide +kernel
theorem dX5_init_81 : decode cX5_init 81 = .ok (.putfield 39, 3) := by decide +kernel
theorem dX5_init_84 : decode cX5_init 84 = .ok (.aload_n 0, 1) := by decide +kernel
theorem dX5_init_85 : decode cX5_init 85 = .ok (.sipush 150, 3) := by decide +kernel
theorem dX5_init_88 : decode cX5_init 88 = .ok (.newarray .int, 2) := by decide +kernel
theorem dX5_init_90 : decode cX5_init 90 = .ok (.putfield 42, 3) := by decide +kernel
theorem dX5_init_93 : decode cX5_init 93 = .ok (.aload_n 0, 1) := by decide +kernel
theorem dX5_init_94 : decode cX5_init 94 = .ok (.sipush 600, 3) := by decide +kernel
theorem dX5_init_97 : decode cX5_init 97 = .ok (.newarray .boolean, 2) := by decide +kernel
theorem dX5_init_99 : decode cX5_init 99 = .ok (.putfield 45, 3) := by decide +kernel
theorem dX5_init_102 : decode cX5_init 102 = .ok (.aload_n 0, 1) := by decide +kernel
theorem dX5_init_103 : decode cX5_init 103 = .ok (.sipush 1800, 3) := by decide +kernel
theorem dX5_init_106 : decode cX5_init 106 = .ok (.newarray .boolean, 2) := by decide +kernel
theorem dX5_init_108 : decode cX5_init 108 = .ok (.putfield 48, 3) := by decide +kernel
theorem dX5_init_111 : decode cX5_init 111 = .ok (.aload_n 0, 1) := by decide +kernel
theorem dX5_init_112 : decode cX5_init 112 = .ok (.sipush 1800, 3) := by decide +kernel
theorem dX5_init_115 : decode cX5_init 115 = .ok (.newarray .long, 2) := by decide +kernel
theorem dX5_init_117 : decode cX5_init 117 = .ok (.putfield 51, 3) := by decide +kernel
theorem dX5_init_120 : decode cX5_init 120 = .ok (.aload_n 0, 1) := by decide +kernel
theorem dX5_init_121 : decode cX5_init 121 = .ok (.sipush 1800, 3) := by decide +kernel
theorem dX5_init_124 : decode cX5_init 124 = .ok (.newarray .boolean, 2) := by decide +kernel
theorem dX5_init_126 : decode cX5_init 126 = .ok (.putfield 55, 3) := by decide +kernel
theorem dX5_init_129 : decode cX5_init 129 = .ok (.aload_n 0, 1) := by decide +kernel
theorem dX5_init_130 : decode cX5_init 130 = .ok (.sipush 14400, 3) := by decide +kernel
theorem dX5_init_133 : decode cX5_init 133 = .ok (.newarray .long, 2) := by decide +kernel
theorem dX5_init_135 : decode cX5_init 135 = .ok (.putfield 58, 3) := by decide +kernel
theorem dX5_init_138 : decode cX5_init 138 = .ok (.aload_n 0, 1) := by decide +kernel
theorem dX5_init_139 : decode cX5_init 139 = .ok (.bipush 16, 2) := by decide +kernel
theorem dX5_init_141 : decode cX5_init 141 = .ok (.newarray .int, 2) := by decide +kernel
theorem dX5_init_143 : decode cX5_init 143 = .ok (.putfield 61, 3) := by decide +kernel
theorem dX5_init_146 : decode cX5_init 146 = .ok (.aload_n 0, 1) := by decide +kernel
theorem dX5_init_147 : decode cX5_init 147 = .ok (.sipush 600, 3) := by decide +kernel
theorem dX5_init_150 : decode cX5_init 150 = .ok (.newarray .int, 2) := by decide +kernel
theorem dX5_init_152 : decode cX5_init 152 = .ok (.putfield 64, 3) := by decide +kernel
theorem dX5_init_155 : decode cX5_init 155 = .ok (.aload_n 0, 1) := by decide +kernel
theorem dX5_init_156 : decode cX5_init 156 = .ok (.iconst 4, 1) := by decide +kernel
theorem dX5_init_157 : decode cX5_init 157 = .ok (.newarray .int, 2) := by decide +kernel
theorem dX5_init_159 : decode cX5_init 159 = .ok (.putfield 67, 3) := by decide +kernel
theorem dX5_init_162 : decode cX5_init 162 = .ok (.aload_n 0, 1) := by decide +kernel
theorem dX5_init_163 : decode cX5_init 163 = .ok (.bipush 48, 2) := by decide +kernel
theorem dX5_init_165 : decode cX5_init 165 = .ok (.newarray .int, 2) := by decide +kernel
theorem dX5_init_167 : decode cX5_init 167 = .ok (.putfield 70, 3) := by decide +kernel
theorem dX5_init_170 : decode cX5_init 170 = .ok (.aload_n 0, 1) := by decide +kernel
theorem dX5_init_171 : decode cX5_init 171 = .ok (.sipush 2400, 3) := by decide +kernel
theorem dX5_init_174 : decode cX5_init 174 = .ok (.newarray .int, 2) := by decide +kernel
theorem dX5_init_176 : decode cX5_init 176 = .ok (.putfield 73, 3) := by decide +kernel
theorem dX5_init_179 : decode cX5_init 179 = .ok (.aload_n 0, 1) := by decide +kernel
theorem dX5_init_180 : decode cX5_init 180 = .ok (.sipush 2400, 3) := by decide +kernel
theorem dX5_init_183 : decode cX5_init 183 = .ok (.newarray .int, 2) := by decide +kernel
theorem dX5_init_185 : decode cX5_init 185 = .ok (.putfield 76, 3) := by decide +kernel
theorem dX5_init_188 : decode cX5_init 188 = .ok (.aload_n 0, 1) := by decide +kernel
theorem dX5_init_189 : decode cX5_init 189 = .ok (.sipush 2400, 3) := by decide +kernel
theorem dX5_init_192 : decode cX5_init 192 = .ok (.newarray .int, 2) := by decide +kernel
theorem dX5_init_194 : decode cX5_init 194 = .ok (.putfield 79, 3) := by decide +kernel
theorem dX5_init_197 : decode cX5_init 197 = .ok (.aload_n 0, 1) := by decide +kernel
theorem dX5_init_198 : decode cX5_init 198 = .ok (.sipush 2400, 3) := by decide +kernel
theorem dX5_init_201 : decode cX5_init 201 = .ok (.newarray .int, 2) := by decide +kernel
theorem dX5_init_203 : decode cX5_init 203 = .ok (.putfield 82, 3) := by decide +kernel
theorem dX5_init_206 : decode cX5_init 206 = .ok (.iconst 0, 1) := by decide +kernel
theorem dX5_init_207 : decode cX5_init 207 = .ok (.istore_n 1, 1) := by decide +kernel
theorem dX5_init_208 : decode cX5_init 208 = .ok (.iload_n 1, 1) := by decide +kernel
theorem dX5_init_209 : decode cX5_init 209 = .ok (.bipush 48, 2) := by decide +kernel
theorem dX5_init_211 : decode cX5_init 211 = .ok (.if_icmp .ge 17, 3) := by decide +kernel
theorem dX5_init_214 : decode cX5_init 214 = .ok (.aload_n 0, 1) := by decide +kernel
theorem dX5_init_215 : decode cX5_init 215 = .ok (.getfield 70, 3) := by decide +kernel
theorem dX5_init_218 : decode cX5_init 218 = .ok (.iload_n 1, 1) := by decide +kernel
theorem dX5_init_219 : decode cX5_init 219 = .ok (.bipush (-4), 2) := by decide +kernel
theorem dX5_init_221 : decode cX5_init 221 = .ok (.iastore, 1) := by decide +kernel
theorem dX5_init_222 : decode cX5_init 222 = .ok (.iinc 1 1, 3) := by decide +kernel
theorem dX5_init_225 : decode cX5_init 225 = .ok (.goto (-17), 3) := by decide +kernel
theorem dX5_init_228 : decode cX5_init 228 = .ok (.return_, 1) := by decide +kernel
theorem dX5_in_0 : decode cX5_in 0 = .ok (.lload_n 0, 1) := by decide +kernel
theorem dX5_in_1 : decode cX5_in 1 = .ok (.lload_n 2, 1) := by decide +kernel
theorem dX5_in_2 : decode cX5_in 2 = .ok (.lcmp, 1) := by decide +kernel
theorem dX5_in_3 : decode cX5_in 3 = .ok (.ifCond .lt 14, 3) := by decide +kernel
theorem dX5_in_6 : decode cX5_in 6 = .ok (.lload_n 0, 1) := by decide +kernel
theorem dX5_in_7 : decode cX5_in 7 = .ok (.lload 4, 2) := by decide +kernel
theorem dX5_in_9 : decode cX5_in 9 = .ok (.lcmp, 1) := by decide +kernel
theorem dX5_in_10 : decode cX5_in 10 = .ok (.ifCond .gt 7, 3) := by decide +kernel
theorem dX5_in_13 : decode cX5_in 13 = .ok (.iconst 1, 1) := by decide +kernel
theorem dX5_in_14 : decode cX5_in 14 = .ok (.goto 4, 3) := by decide +kernel
theorem dX5_in_17 : decode cX5_in 17 = .ok (.iconst 0, 1) := by decide +kernel
theorem dX5_in_18 : decode cX5_in 18 = .ok (.ireturn, 1) := by decide +kernel
theorem dX5_isSite_0 : decode cX5_isSite 0 = .ok (.iload_n 1, 1) := by decide +kernel
theorem dX5_isSite_1 : decode cX5_isSite 1 = .ok (.i2l, 1) := by decide +kernel
theorem dX5_isSite_2 : decode cX5_isSite 2 = .ok (.lconst 0, 1) := by decide +kernel
theorem dX5_isSite_3 : decode cX5_isSite 3 = .ok (.aload_n 0, 1) := by decide +kernel
theorem dX5_isSite_4 : decode cX5_isSite 4 = .ok (.getfield 7, 3) := by decide +kernel
theorem dX5_isSite_7 : decode cX5_isSite 7 = .ok (.iconst 1, 1) := by decide +kernel
theorem dX5_isSite_8 : decode cX5_isSite 8 = .ok (.isub, 1) := by decide +kernel
theorem dX5_isSite_9 : decode cX5_isSite 9 = .ok (.i2l, 1) := by decide +kernel
theorem dX5_isSite_10 : decode cX5_isSite 10 = .ok (.invokestatic 85, 3) := by decide +kernel
theorem dX5_isSite_13 : decode cX5_isSite 13 = .ok (.ireturn, 1) := by decide +kernel
theorem dX5_isThing_0 : decode cX5_isThing 0 = .ok (.iload_n 1, 1) := by decide +kernel
theorem dX5_isThing_1 : decode cX5_isThing 1 = .ok (.i2l, 1) := by decide +kernel
theorem dX5_isThing_2 : decode cX5_isThing 2 = .ok (.lconst 0, 1) := by decide +kernel
theorem dX5_isThing_3 : decode cX5_isThing 3 = .ok (.aload_n 0, 1) := by decide +kernel
theorem dX5_isThing_4 : decode cX5_isThing 4 = .ok (.getfield 89, 3) := by decide +kernel
theorem dX5_isThing_7 : decode cX5_isThing 7 = .ok (.iconst 1, 1) := by decide +kernel
theorem dX5_isThing_8 : decode cX5_isThing 8 = .ok (.isub, 1) := by decide +kernel
theorem dX5_isThing_9 : decode cX5_isThing 9 = .ok (.i2l, 1) := by decide +kernel
theorem dX5_isThing_10 : decode cX5_isThing 10 = .ok (.invokestatic 85, 3) := by decide +kernel
theorem dX5_isThing_13 : decode cX5_isThing 13 = .ok (.ireturn, 1) := by decide +kernel
theorem dX5_is_0 : decode cX5_is 0 = .ok (.iload_n 1, 1) := by decide +kernel
theorem dX5_is_1 : decode cX5_is 1 = .ok (.i2l, 1) := by decide +kernel
theorem dX5_is_2 : decode cX5_is 2 = .ok (.lconst 0, 1) := by decide +kernel
theorem dX5_is_3 : decode cX5_is 3 = .ok (.aload_n 0, 1) := by decide +kernel
theorem dX5_is_4 : decode cX5_is 4 = .ok (.getfield 92, 3) := by decide +kernel
theorem dX5_is_7 : decode cX5_is 7 = .ok (.iconst 1, 1) := by decide +kernel
theorem dX5_is_8 : decode cX5_is 8 = .ok (.isub, 1) := by decide +kernel
theorem dX5_is_9 : decode cX5_is 9 = .ok (.i2l, 1) := by decide +kernel
theorem dX5_is_10 : decode cX5_is 10 = .ok (.invokestatic 85, 3) := by decide +kernel
theorem dX5_is_13 : decode cX5_is 13 = .ok (.ireturn, 1) := by decide +kernel
theorem dX5_sites_0 : decode cX5_sites 0 = .ok (.iload_n 1, 1) := by decide +kernel
theorem dX5_sites_1 : decode cX5_sites 1 = .ok (.i2l, 1) := by decide +kernel
theorem dX5_sites_2 : decode cX5_sites 2 = .ok (.ldc2_w 95, 3) := by decide +kernel
theorem dX5_sites_5 : decode cX5_sites 5 = .ok (.ldc2_w 97, 3) := by decide +kernel
theorem dX5_sites_8 : decode cX5_sites 8 = .ok (.invokestatic 85, 3) := by decide +kernel
theorem dX5_sites_11 : decode cX5_sites 11 = .ok (.ifCond .eq 16, 3) := by decide +kernel
theorem dX5_sites_14 : decode cX5_sites 14 = .ok (.iload_n 2, 1) := by decide +kernel
theorem dX5_sites_15 : decode cX5_sites 15 = .ok (.i2l, 1) := by decide +kernel
theorem dX5_sites_16 : decode cX5_sites 16 = .ok (.lconst 0, 1) := by decide +kernel
theorem dX5_sites_17 : decode cX5_sites 17 = .ok (.iload_n 1, 1) := by decide +kernel
theorem dX5_sites_18 : decode cX5_sites 18 = .ok (.iconst 1, 1) := by decide +kernel
theorem dX5_sites_19 : decode cX5_sites 19 = .ok (.isub, 1) := by decide +kernel
theorem dX5_sites_20 : decode cX5_sites 20 = .ok (.i2l, 1) := by decide +kernel
theorem dX5_sites_21 : decode cX5_sites 21 = .ok (.invokestatic 85, 3) := by decide +kernel
theorem dX5_sites_24 : decode cX5_sites 24 = .ok (.ifCond .ne 5, 3) := by decide +kernel
theorem dX5_sites_27 : decode cX5_sites 27 = .ok (.iconst (-1), 1) := by decide +kernel
theorem dX5_sites_28 : decode cX5_sites 28 = .ok (.ireturn, 1) := by decide +kernel
theorem dX5_sites_29 : decode cX5_sites 29 = .ok (.aload_n 0, 1) := by decide +kernel
theorem dX5_sites_30 : decode cX5_sites 30 = .ok (.getfield 89, 3) := by decide +kernel
theorem dX5_sites_33 : decode cX5_sites 33 = .ok (.ifCond .gt 10, 3) := by decide +kernel
theorem dX5_sites_36 : decode cX5_sites 36 = .ok (.aload_n 0, 1) := by decide +kernel
theorem dX5_sites_37 : decode cX5_sites 37 = .ok (.getfield 92, 3) := by decide +kernel
theorem dX5_sites_40 : decode cX5_sites 40 = .ok (.ifCond .le 6, 3) := by decide +kernel
theorem dX5_sites_43 : decode cX5_sites 43 = .ok (.bipush (-2), 2) := by decide +kernel
theorem dX5_sites_45 : decode cX5_sites 45 = .ok (.ireturn, 1) := by decide +kernel
theorem dX5_sites_46 : decode cX5_sites 46 = .ok (.aload_n 0, 1) := by decide +kernel
theorem dX5_sites_47 : decode cX5_sites 47 = .ok (.iload_n 1, 1) := by decide +kernel
theorem dX5_sites_48 : decode cX5_sites 48 = .ok (.putfield 7, 3) := by decide +kernel
theorem dX5_sites_51 : decode cX5_sites 51 = .ok (.aload_n 0, 1) := by decide +kernel
theorem dX5_sites_52 : decode cX5_sites 52 = .ok (.iload_n 2, 1) := by decide +kernel
theorem dX5_sites_53 : decode cX5_sites 53 = .ok (.putfield 13, 3) := by decide +kernel
theorem dX5_sites_56 : decode cX5_sites 56 = .ok (.iconst 1, 1) := by decide +kernel
theorem dX5_sites_57 : decode cX5_sites 57 = .ok (.ireturn, 1) := by decide +kernel
theorem dX5_thing_0 : decode cX5_thing 0 = .ok (.aload_n 0, 1) := by decide +kernel
theorem dX5_thing_1 : decode cX5_thing 1 = .ok (.iload_n 1, 1) := by decide +kernel
theorem dX5_thing_2 : decode cX5_thing 2 = .ok (.invokevirtual 99, 3) := by decide +kernel
theorem dX5_thing_5 : decode cX5_thing 5 = .ok (.ifCond .ne 5, 3) := by decide +kernel
theorem dX5_thing_8 : decode cX5_thing 8 = .ok (.iconst (-1), 1) := by decide +kernel
theorem dX5_thing_9 : decode cX5_thing 9 = .ok (.ireturn, 1) := by decide +kernel
theorem dX5_thing_10 : decode cX5_thing 10 = .ok (.aload_n 0, 1) := by decide +kernel
theorem dX5_thing_11 : decode cX5_thing 11 = .ok (.getfield 89, 3) := by decide +kernel
theorem dX5_thing_14 : decode cX5_thing 14 = .ok (.bipush 12, 2) := by decide +kernel
theorem dX5_thing_16 : decode cX5_thing 16 = .ok (.if_icmp .ne 6, 3) := by decide +kernel
theorem dX5_thing_19 : decode cX5_thing 19 = .ok (.bipush (-3), 2) := by decide +kernel
theorem dX5_thing_21 : decode cX5_thing 21 = .ok (.ireturn, 1) := by decide +kernel
theorem dX5_thing_22 : decode cX5_thing 22 = .ok (.aload_n 0, 1) := by decide +kernel
theorem dX5_thing_23 : decode cX5_thing 23 = .ok (.getfield 16, 3) := by decide +kernel
theorem dX5_thing_26 : decode cX5_thing 26 = .ok (.aload_n 0, 1) := by decide +kernel
theorem dX5_thing_27 : decode cX5_thing 27 = .ok (.getfield 89, 3) := by decide +kernel
theorem dX5_thing_30 : decode cX5_thing 30 = .ok (.iload_n 1, 1) := by decide +kernel
theorem dX5_thing_31 : decode cX5_thing 31 = .ok (.iastore, 1) := by decide +kernel
theorem dX5_thing_32 : decode cX5_thing 32 = .ok (.aload_n 0, 1) := by decide +kernel
theorem dX5_thing_33 : decode cX5_thing 33 = .ok (.getfield 20, 3) := by decide +kernel
theorem dX5_thing_36 : decode cX5_thing 36 = .ok (.aload_n 0, 1) := by decide +kernel
theorem dX5_thing_37 : decode cX5_thing 37 = .ok (.getfield 89, 3) := by decide +kernel
theorem dX5_thing_40 : decode cX5_thing 40 = .ok (.iload_n 2, 1) := by decide +kernel
theorem dX5_thing_41 : decode cX5_thing 41 = .ok (.bastore, 1) := by decide +kernel
theorem dX5_thing_42 : decode cX5_thing 42 = .ok (.aload_n 0, 1) := by decide +kernel
theorem dX5_thing_43 : decode cX5_thing 43 = .ok (.dup, 1) := by decide +kernel
theorem dX5_thing_44 : decode cX5_thing 44 = .ok (.getfield 89, 3) := by decide +kernel
theorem dX5_thing_47 : decode cX5_thing 47 = .ok (.iconst 1, 1) := by decide +kernel
theorem dX5_thing_48 : decode cX5_thing 48 = .ok (.iadd, 1) := by decide +kernel
theorem dX5_thing_49 : decode cX5_thing 49 = .ok (.putfield 89, 3) := by decide +kernel
theorem dX5_thing_52 : decode cX5_thing 52 = .ok (.aload_n 0, 1) := by decide +kernel
theorem dX5_thing_53 : decode cX5_thing 53 = .ok (.getfield 89, 3) := by decide +kernel
theorem dX5_thing_56 : decode cX5_thing 56 = .ok (.iconst 1, 1) := by decide +kernel
theorem dX5_thing_57 : decode cX5_thing 57 = .ok (.isub, 1) := by decide +kernel
theorem dX5_thing_58 : decode cX5_thing 58 = .ok (.ireturn, 1) := by decide +kernel
theorem dX5_begin_0 : decode cX5_begin 0 = .ok (.aload_n 0, 1) := by decide +kernel
theorem dX5_begin_1 : decode cX5_begin 1 = .ok (.iload_n 1, 1) := by decide +kernel
theorem dX5_begin_2 : decode cX5_begin 2 = .ok (.invokevirtual 99, 3) := by decide +kernel
theorem dX5_begin_5 : decode cX5_begin 5 = .ok (.ifCond .ne 5, 3) := by decide +kernel
theorem dX5_begin_8 : decode cX5_begin 8 = .ok (.iconst (-1), 1) := by decide +kernel
theorem dX5_begin_9 : decode cX5_begin 9 = .ok (.ireturn, 1) := by decide +kernel
theorem dX5_begin_10 : decode cX5_begin 10 = .ok (.aload_n 0, 1) := by decide +kernel
theorem dX5_begin_11 : decode cX5_begin 11 = .ok (.getfield 92, 3) := by decide +kernel
theorem dX5_begin_14 : decode cX5_begin 14 = .ok (.sipush 150, 3) := by decide +kernel
theorem dX5_begin_17 : decode cX5_begin 17 = .ok (.if_icmp .ne 6, 3) := by decide +kernel
theorem dX5_begin_20 : decode cX5_begin 20 = .ok (.bipush (-3), 2) := by decide +kernel
theorem dX5_begin_22 : decode cX5_begin 22 = .ok (.ireturn, 1) := by decide +kernel
theorem dX5_begin_23 : decode cX5_begin 23 = .ok (.aload_n 0, 1) := by decide +kernel
theorem dX5_begin_24 : decode cX5_begin 24 = .ok (.getfield 24, 3) := by decide +kernel
theorem dX5_begin_27 : decode cX5_begin 27 = .ok (.aload_n 0, 1) := by decide +kernel
theorem dX5_begin_28 : decode cX5_begin 28 = .ok (.getfield 92, 3) := by decide +kernel
theorem dX5_begin_31 : decode cX5_begin 31 = .ok (.iload_n 1, 1) := by decide +kernel
theorem dX5_begin_32 : decode cX5_begin 32 = .ok (.iastore, 1) := by decide +kernel
theorem dX5_begin_33 : decode cX5_begin 33 = .ok (.iconst 0, 1) := by decide +kernel
theorem dX5_begin_34 : decode cX5_begin 34 = .ok (.istore_n 2, 1) := by decide +kernel
theorem dX5_begin_35 : decode cX5_begin 35 = .ok (.iload_n 2, 1) := by decide +kernel
theorem dX5_begin_36 : decode cX5_begin 36 = .ok (.iconst 4, 1) := by decide +kernel
theorem dX5_begin_37 : decode cX5_begin 37 = .ok (.if_icmp .ge 32, 3) := by decide +kernel
theorem dX5_begin_40 : decode cX5_begin 40 = .ok (.aload_n 0, 1) := by decide +kernel
theorem dX5_begin_41 : decode cX5_begin 41 = .ok (.getfield 30, 3) := by decide +kernel
theorem dX5_begin_44 : decode cX5_begin 44 = .ok (.iconst 4, 1) := by decide +kernel
theorem dX5_begin_45 : decode cX5_begin 45 = .ok (.aload_n 0, 1) := by decide +kernel
theorem dX5_begin_46 : decode cX5_begin 46 = .ok (.getfield 92, 3) := by decide +kernel
theorem dX5_begin_49 : decode cX5_begin 49 = .ok (.imul, 1) := by decide +kernel
theorem dX5_begin_50 : decode cX5_begin 50 = .ok (.iload_n 2, 1) := by decide +kernel
theorem dX5_begin_51 : decode cX5_begin 51 = .ok (.iadd, 1) := by decide +kernel
theorem dX5_begin_52 : decode cX5_begin 52 = .ok (.aload_n 0, 1) := by decide +kernel
theorem dX5_begin_53 : decode cX5_begin 53 = .ok (.getfield 61, 3) := by decide +kernel
theorem dX5_begin_56 : decode cX5_begin 56 = .ok (.iconst 4, 1) := by decide +kernel
theorem dX5_begin_57 : decode cX5_begin 57 = .ok (.iload_n 1, 1) := by decide +kernel
theorem dX5_begin_58 : decode cX5_begin 58 = .ok (.imul, 1) := by decide +kernel
theorem dX5_begin_59 : decode cX5_begin 59 = .ok (.iload_n 2, 1) := by decide +kernel
theorem dX5_begin_60 : decode cX5_begin 60 = .ok (.iadd, 1) := by decide +kernel
theorem dX5_begin_61 : decode cX5_begin 61 = .ok (.iaload, 1) := by decide +kernel
theorem dX5_begin_62 : decode cX5_begin 62 = .ok (.iastore, 1) := by decide +kernel
theorem dX5_begin_63 : decode cX5_begin 63 = .ok (.iinc 2 1, 3) := by decide +kernel
theorem dX5_begin_66 : decode cX5_begin 66 = .ok (.goto (-31), 3) := by decide +kernel
theorem dX5_begin_69 : decode cX5_begin 69 = .ok (.aload_n 0, 1) := by decide +kernel
theorem dX5_begin_70 : decode cX5_begin 70 = .ok (.dup, 1) := by decide +kernel
theorem dX5_begin_71 : decode cX5_begin 71 = .ok (.getfield 92, 3) := by decide +kernel
theorem dX5_begin_74 : decode cX5_begin 74 = .ok (.iconst 1, 1) := by decide +kernel
theorem dX5_begin_75 : decode cX5_begin 75 = .ok (.iadd, 1) := by decide +kernel
theorem dX5_begin_76 : decode cX5_begin 76 = .ok (.putfield 92, 3) := by decide +kernel
theorem dX5_begin_79 : decode cX5_begin 79 = .ok (.aload_n 0, 1) := by decide +kernel
theorem dX5_begin_80 : decode cX5_begin 80 = .ok (.getfield 92, 3) := by decide +kernel
theorem dX5_begin_83 : decode cX5_begin 83 = .ok (.iconst 1, 1) := by decide +kernel
theorem dX5_begin_84 : decode cX5_begin 84 = .ok (.isub, 1) := by decide +kernel
theorem dX5_begin_85 : decode cX5_begin 85 = .ok (.ireturn, 1) := by decide +kernel
theorem dX5_has_0 : decode cX5_has 0 = .ok (.aload_n 0, 1) := by decide +kernel
theorem dX5_has_1 : decode cX5_has 1 = .ok (.getfield 33, 3) := by decide +kernel
theorem dX5_has_4 : decode cX5_has 4 = .ok (.iload_n 2, 1) := by decide +kernel
theorem dX5_has_5 : decode cX5_has 5 = .ok (.iaload, 1) := by decide +kernel
theorem dX5_has_6 : decode cX5_has 6 = .ok (.ifCond .le 31, 3) := by decide +kernel
theorem dX5_has_9 : decode cX5_has 9 = .ok (.aload_n 0, 1) := by decide +kernel
theorem dX5_has_10 : decode cX5_has 10 = .ok (.getfield 33, 3) := by decide +kernel
theorem dX5_has_13 : decode cX5_has 13 = .ok (.iload_n 2, 1) := by decide +kernel
theorem dX5_has_14 : decode cX5_has 14 = .ok (.iaload, 1) := by decide +kernel
theorem dX5_has_15 : decode cX5_has 15 = .ok (.aload_n 0, 1) := by decide +kernel
theorem dX5_has_16 : decode cX5_has 16 = .ok (.getfield 30, 3) := by decide +kernel
theorem dX5_has_19 : decode cX5_has 19 = .ok (.iconst 4, 1) := by decide +kernel
theorem dX5_has_20 : decode cX5_has 20 = .ok (.iload_n 1, 1) := by decide +kernel
theorem dX5_has_21 : decode cX5_has 21 = .ok (.imul, 1) := by decide +kernel
theorem dX5_has_22 : decode cX5_has 22 = .ok (.aload_n 0, 1) := by decide +kernel
theorem dX5_has_23 : decode cX5_has 23 = .ok (.getfield 24, 3) := by decide +kernel
theorem dX5_has_26 : decode cX5_has 26 = .ok (.iload_n 2, 1) := by decide +kernel
theorem dX5_has_27 : decode cX5_has 27 = .ok (.iaload, 1) := by decide +kernel
theorem dX5_has_28 : decode cX5_has 28 = .ok (.iadd, 1) := by decide +kernel
theorem dX5_has_29 : decode cX5_has 29 = .ok (.iaload, 1) := by decide +kernel
theorem dX5_has_30 : decode cX5_has 30 = .ok (.if_icmp .gt 7, 3) := by decide +kernel
theorem dX5_has_33 : decode cX5_has 33 = .ok (.iconst 1, 1) := by decide +kernel
theorem dX5_has_34 : decode cX5_has 34 = .ok (.goto 4, 3) := by decide +kernel
theorem dX5_has_37 : decode cX5_has 37 = .ok (.iconst 0, 1) := by decide +kernel
theorem dX5_has_38 : decode cX5_has 38 = .ok (.ireturn, 1) := by decide +kernel
theorem dX5_read_0 : decode cX5_read 0 = .ok (.aload_n 0, 1) := by decide +kernel
theorem dX5_read_1 : decode cX5_read 1 = .ok (.iload_n 1, 1) := by decide +kernel
theorem dX5_read_2 : decode cX5_read 2 = .ok (.invokevirtual 103, 3) := by decide +kernel
theorem dX5_read_5 : decode cX5_read 5 = .ok (.ifCond .eq 20, 3) := by decide +kernel
theorem dX5_read_8 : decode cX5_read 8 = .ok (.aload_n 0, 1) := by decide +kernel
theorem dX5_read_9 : decode cX5_read 9 = .ok (.iload_n 2, 1) := by decide +kernel
theorem dX5_read_10 : decode cX5_read 10 = .ok (.invokevirtual 106, 3) := by decide +kernel
theorem dX5_read_13 : decode cX5_read 13 = .ok (.ifCond .eq 12, 3) := by decide +kernel
theorem dX5_read_16 : decode cX5_read 16 = .ok (.aload_n 0, 1) := by decide +kernel
theorem dX5_read_17 : decode cX5_read 17 = .ok (.getfield 20, 3) := by decide +kernel
theorem dX5_read_20 : decode cX5_read 20 = .ok (.iload_n 2, 1) := by decide +kernel
theorem dX5_read_21 : decode cX5_read 21 = .ok (.baload, 1) := by decide +kernel
theorem dX5_read_22 : decode cX5_read 22 = .ok (.ifCond .eq 5, 3) := by decide +kernel
theorem dX5_read_25 : decode cX5_read 25 = .ok (.lconst 0, 1) := by decide +kernel
theorem dX5_read_26 : decode cX5_read 26 = .ok (.lreturn, 1) := by decide +kernel
theorem dX5_read_27 : decode cX5_read 27 = .ok (.aload_n 0, 1) := by decide +kernel
theorem dX5_read_28 : decode cX5_read 28 = .ok (.getfield 48, 3) := by decide +kernel
theorem dX5_read_31 : decode cX5_read 31 = .ok (.bipush 12, 2) := by decide +kernel
theorem dX5_read_33 : decode cX5_read 33 = .ok (.iload_n 1, 1) := by decide +kernel
theorem dX5_read_34 : decode cX5_read 34 = .ok (.imul, 1) := by decide +kernel
theorem dX5_read_35 : decode cX5_read 35 = .ok (.iload_n 2, 1) := by decide +kernel
theorem dX5_read_36 : decode cX5_read 36 = .ok (.iadd, 1) := by decide +kernel
theorem dX5_read_37 : decode cX5_read 37 = .ok (.baload, 1) := by decide +kernel
theorem dX5_read_38 : decode cX5_read 38 = .ok (.ifCond .eq 15, 3) := by decide +kernel
theorem dX5_read_41 : decode cX5_read 41 = .ok (.aload_n 0, 1) := by decide +kernel
theorem dX5_read_42 : decode cX5_read 42 = .ok (.getfield 51, 3) := by decide +kernel
theorem dX5_read_45 : decode cX5_read 45 = .ok (.bipush 12, 2) := by decide +kernel
theorem dX5_read_47 : decode cX5_read 47 = .ok (.iload_n 1, 1) := by decide +kernel
theorem dX5_read_48 : decode cX5_read 48 = .ok (.imul, 1) := by decide +kernel
theorem dX5_read_49 : decode cX5_read 49 = .ok (.iload_n 2, 1) := by decide +kernel
theorem dX5_read_50 : decode cX5_read 50 = .ok (.iadd, 1) := by decide +kernel
theorem dX5_read_51 : decode cX5_read 51 = .ok (.laload, 1) := by decide +kernel
theorem dX5_read_52 : decode cX5_read 52 = .ok (.lreturn, 1) := by decide +kernel
theorem dX5_read_53 : decode cX5_read 53 = .ok (.aload_n 0, 1) := by decide +kernel
theorem dX5_read_54 : decode cX5_read 54 = .ok (.getfield 24, 3) := by decide +kernel
theorem dX5_read_57 : decode cX5_read 57 = .ok (.iload_n 1, 1) := by decide +kernel
theorem dX5_read_58 : decode cX5_read 58 = .ok (.iaload, 1) := by decide +kernel
theorem dX5_read_59 : decode cX5_read 59 = .ok (.istore_n 3, 1) := by decide +kernel
theorem dX5_read_60 : decode cX5_read 60 = .ok (.aload_n 0, 1) := by decide +kernel
theorem dX5_read_61 : decode cX5_read 61 = .ok (.getfield 67, 3) := by decide +kernel
theorem dX5_read_64 : decode cX5_read 64 = .ok (.iload_n 3, 1) := by decide +kernel
theorem dX5_read_65 : decode cX5_read 65 = .ok (.iaload, 1) := by decide +kernel
theorem dX5_read_66 : decode cX5_read 66 = .ok (.iconst 1, 1) := by decide +kernel
theorem dX5_read_67 : decode cX5_read 67 = .ok (.isub, 1) := by decide +kernel
theorem dX5_read_68 : decode cX5_read 68 = .ok (.istore 4, 2) := by decide +kernel
theorem dX5_read_70 : decode cX5_read 70 = .ok (.iload 4, 2) := by decide +kernel
theorem dX5_read_72 : decode cX5_read 72 = .ok (.ifCond .lt 62, 3) := by decide +kernel
theorem dX5_read_75 : decode cX5_read 75 = .ok (.aload_n 0, 1) := by decide +kernel
theorem dX5_read_76 : decode cX5_read 76 = .ok (.getfield 64, 3) := by decide +kernel
theorem dX5_read_79 : decode cX5_read 79 = .ok (.sipush 150, 3) := by decide +kernel
theorem dX5_read_82 : decode cX5_read 82 = .ok (.iload_n 3, 1) := by decide +kernel
theorem dX5_read_83 : decode cX5_read 83 = .ok (.imul, 1) := by decide +kernel
theorem dX5_read_84 : decode cX5_read 84 = .ok (.iload 4, 2) := by decide +kernel
theorem dX5_read_86 : decode cX5_read 86 = .ok (.iadd, 1) := by decide +kernel
theorem dX5_read_87 : decode cX5_read 87 = .ok (.iaload, 1) := by decide +kernel
theorem dX5_read_88 : decode cX5_read 88 = .ok (.istore 5, 2) := by decide +kernel
theorem dX5_read_90 : decode cX5_read 90 = .ok (.aload_n 0, 1) := by decide +kernel
theorem dX5_read_91 : decode cX5_read 91 = .ok (.getfield 48, 3) := by decide +kernel
theorem dX5_read_94 : decode cX5_read 94 = .ok (.bipush 12, 2) := by decide +kernel
theorem dX5_read_96 : decode cX5_read 96 = .ok (.iload 5, 2) := by decide +kernel
theorem dX5_read_98 : decode cX5_read 98 = .ok (.imul, 1) := by decide +kernel
theorem dX5_read_99 : decode cX5_read 99 = .ok (.iload_n 2, 1) := by decide +kernel
theorem dX5_read_100 : decode cX5_read 100 = .ok (.iadd, 1) := by decide +kernel
theorem dX5_read_101 : decode cX5_read 101 = .ok (.baload, 1) := by decide +kernel
theorem dX5_read_102 : decode cX5_read 102 = .ok (.ifCond .eq 26, 3) := by decide +kernel
theorem dX5_read_105 : decode cX5_read 105 = .ok (.aload_n 0, 1) := by decide +kernel
theorem dX5_read_106 : decode cX5_read 106 = .ok (.iload_n 1, 1) := by decide +kernel
theorem dX5_read_107 : decode cX5_read 107 = .ok (.iload 5, 2) := by decide +kernel
theorem dX5_read_109 : decode cX5_read 109 = .ok (.invokevirtual 109, 3) := by decide +kernel
theorem dX5_read_112 : decode cX5_read 112 = .ok (.ifCond .eq 16, 3) := by decide +kernel
theorem dX5_read_115 : decode cX5_read 115 = .ok (.aload_n 0, 1) := by decide +kernel
theorem dX5_read_116 : decode cX5_read 116 = .ok (.getfield 51, 3) := by decide +kernel
theorem dX5_read_119 : decode cX5_read 119 = .ok (.bipush 12, 2) := by decide +kernel
theorem dX5_read_121 : decode cX5_read 121 = .ok (.iload 5, 2) := by decide +kernel
theorem dX5_read_123 : decode cX5_read 123 = .ok (.imul, 1) := by decide +kernel
theorem dX5_read_124 : decode cX5_read 124 = .ok (.iload_n 2, 1) := by decide +kernel
theorem dX5_read_125 : decode cX5_read 125 = .ok (.iadd, 1) := by decide +kernel
theorem dX5_read_126 : decode cX5_read 126 = .ok (.laload, 1) := by decide +kernel
theorem dX5_read_127 : decode cX5_read 127 = .ok (.lreturn, 1) := by decide +kernel
theorem dX5_read_128 : decode cX5_read 128 = .ok (.iinc 4 (-1), 3) := by decide +kernel
theorem dX5_read_131 : decode cX5_read 131 = .ok (.goto (-61), 3) := by decide +kernel
theorem dX5_read_134 : decode cX5_read 134 = .ok (.lconst 0, 1) := by decide +kernel
theorem dX5_read_135 : decode cX5_read 135 = .ok (.lreturn, 1) := by decide +kernel
theorem dX5_isElement_0 : decode cX5_isElement 0 = .ok (.iload_n 0, 1) := by decide +kernel
theorem dX5_isElement_1 : decode cX5_isElement 1 = .ok (.i2l, 1) := by decide +kernel
theorem dX5_isElement_2 : decode cX5_isElement 2 = .ok (.lconst 0, 1) := by decide +kernel
theorem dX5_isElement_3 : decode cX5_isElement 3 = .ok (.ldc2_w 113, 3) := by decide +kernel
theorem dX5_isElement_6 : decode cX5_isElement 6 = .ok (.invokestatic 85, 3) := by decide +kernel
theorem dX5_isElement_9 : decode cX5_isElement 9 = .ok (.ireturn, 1) := by decide +kernel
theorem dX5_counted_0 : decode cX5_counted 0 = .ok (.aload_n 0, 1) := by decide +kernel
theorem dX5_counted_1 : decode cX5_counted 1 = .ok (.iload_n 1, 1) := by decide +kernel
theorem dX5_counted_2 : decode cX5_counted 2 = .ok (.invokevirtual 103, 3) := by decide +kernel
theorem dX5_counted_5 : decode cX5_counted 5 = .ok (.ifCond .eq 27, 3) := by decide +kernel
theorem dX5_counted_8 : decode cX5_counted 8 = .ok (.aload_n 0, 1) := by decide +kernel
theorem dX5_counted_9 : decode cX5_counted 9 = .ok (.iload_n 2, 1) := by decide +kernel
theorem dX5_counted_10 : decode cX5_counted 10 = .ok (.invokevirtual 106, 3) := by decide +kernel
theorem dX5_counted_13 : decode cX5_counted 13 = .ok (.ifCond .eq 19, 3) := by decide +kernel
theorem dX5_counted_16 : decode cX5_counted 16 = .ok (.aload_n 0, 1) := by decide +kernel
theorem dX5_counted_17 : decode cX5_counted 17 = .ok (.getfield 20, 3) := by decide +kernel
theorem dX5_counted_20 : decode cX5_counted 20 = .ok (.iload_n 2, 1) := by decide +kernel
theorem dX5_counted_21 : decode cX5_counted 21 = .ok (.baload, 1) := by decide +kernel
theorem dX5_counted_22 : decode cX5_counted 22 = .ok (.ifCond .eq 10, 3) := by decide +kernel
theorem dX5_counted_25 : decode cX5_counted 25 = .ok (.iload_n 3, 1) := by decide +kernel
theorem dX5_counted_26 : decode cX5_counted 26 = .ok (.invokestatic 115, 3) := by decide +kernel
theorem dX5_counted_29 : decode cX5_counted 29 = .ok (.ifCond .ne 5, 3) := by decide +kernel
theorem dX5_counted_32 : decode cX5_counted 32 = .ok (.lconst 0, 1) := by decide +kernel
theorem dX5_counted_33 : decode cX5_counted 33 = .ok (.lreturn, 1) := by decide +kernel
theorem dX5_counted_34 : decode cX5_counted 34 = .ok (.aload_n 0, 1) := by decide +kernel
theorem dX5_counted_35 : decode cX5_counted 35 = .ok (.getfield 58, 3) := by decide +kernel
theorem dX5_counted_38 : decode cX5_counted 38 = .ok (.bipush 96, 2) := by decide +kernel
theorem dX5_counted_40 : decode cX5_counted 40 = .ok (.iload_n 1, 1) := by decide +kernel
theorem dX5_counted_41 : decode cX5_counted 41 = .ok (.imul, 1) := by decide +kernel
theorem dX5_counted_42 : decode cX5_counted 42 = .ok (.bipush 8, 2) := by decide +kernel
theorem dX5_counted_44 : decode cX5_counted 44 = .ok (.iload_n 2, 1) := by decide +kernel
theorem dX5_counted_45 : decode cX5_counted 45 = .ok (.imul, 1) := by decide +kernel
theorem dX5_counted_46 : decode cX5_counted 46 = .ok (.iadd, 1) := by decide +kernel
theorem dX5_counted_47 : decode cX5_counted 47 = .ok (.iload_n 3, 1) := by decide +kernel
theorem dX5_counted_48 : decode cX5_counted 48 = .ok (.iadd, 1) := by decide +kernel
theorem dX5_counted_49 : decode cX5_counted 49 = .ok (.laload, 1) := by decide +kernel
theorem dX5_counted_50 : decode cX5_counted 50 = .ok (.lstore 4, 2) := by decide +kernel
theorem dX5_counted_52 : decode cX5_counted 52 = .ok (.aload_n 0, 1) := by decide +kernel
theorem dX5_counted_53 : decode cX5_counted 53 = .ok (.getfield 24, 3) := by decide +kernel
theorem dX5_counted_56 : decode cX5_counted 56 = .ok (.iload_n 1, 1) := by decide +kernel
theorem dX5_counted_57 : decode cX5_counted 57 = .ok (.iaload, 1) := by decide +kernel
theorem dX5_counted_58 : decode cX5_counted 58 = .ok (.istore 6, 2) := by decide +kernel
theorem dX5_counted_60 : decode cX5_counted 60 = .ok (.iconst 0, 1) := by decide +kernel
theorem dX5_counted_61 : decode cX5_counted 61 = .ok (.istore 7, 2) := by decide +kernel
theorem dX5_counted_63 : decode cX5_counted 63 = .ok (.iload 7, 2) := by decide +kernel
theorem dX5_counted_65 : decode cX5_counted 65 = .ok (.aload_n 0, 1) := by decide +kernel
theorem dX5_counted_66 : decode cX5_counted 66 = .ok (.getfield 67, 3) := by decide +kernel
theorem dX5_counted_69 : decode cX5_counted 69 = .ok (.iload 6, 2) := by decide +kernel
theorem dX5_counted_71 : decode cX5_counted 71 = .ok (.iaload, 1) := by decide +kernel
theorem dX5_counted_72 : decode cX5_counted 72 = .ok (.if_icmp .ge 61, 3) := by decide +kernel
theorem dX5_counted_75 : decode cX5_counted 75 = .ok (.aload_n 0, 1) := by decide +kernel
theorem dX5_counted_76 : decode cX5_counted 76 = .ok (.getfield 64, 3) := by decide +kernel
theorem dX5_counted_79 : decode cX5_counted 79 = .ok (.sipush 150, 3) := by decide +kernel
theorem dX5_counted_82 : decode cX5_counted 82 = .ok (.iload 6, 2) := by decide +kernel
theorem dX5_counted_84 : decode cX5_counted 84 = .ok (.imul, 1) := by decide +kernel
theorem dX5_counted_85 : decode cX5_counted 85 = .ok (.iload 7, 2) := by decide +kernel
theorem dX5_counted_87 : decode cX5_counted 87 = .ok (.iadd, 1) := by decide +kernel
theorem dX5_counted_88 : decode cX5_counted 88 = .ok (.iaload, 1) := by decide +kernel
theorem dX5_counted_89 : decode cX5_counted 89 = .ok (.istore 8, 2) := by decide +kernel
theorem dX5_counted_91 : decode cX5_counted 91 = .ok (.lload 4, 2) := by decide +kernel
theorem dX5_counted_93 : decode cX5_counted 93 = .ok (.aload_n 0, 1) := by decide +kernel
theorem dX5_counted_94 : decode cX5_counted 94 = .ok (.iload_n 1, 1) := by decide +kernel
theorem dX5_counted_95 : decode cX5_counted 95 = .ok (.iload 8, 2) := by decide +kernel
theorem dX5_counted_97 : decode cX5_counted 97 = .ok (.invokevirtual 109, 3) := by decide +kernel
theorem dX5_counted_100 : decode cX5_counted 100 = .ok (.ifCond .eq 23, 3) := by decide +kernel
theorem dX5_counted_103 : decode cX5_counted 103 = .ok (.aload_n 0, 1) := by decide +kernel
theorem dX5_counted_104 : decode cX5_counted 104 = .ok (.getfield 58, 3) := by decide +kernel
theorem dX5_counted_107 : decode cX5_counted 107 = .ok (.bipush 96, 2) := by decide +kernel
theorem dX5_counted_109 : decode cX5_counted 109 = .ok (.iload 8, 2) := by decide +kernel
theorem dX5_counted_111 : decode cX5_counted 111 = .ok (.imul, 1) := by decide +kernel
theorem dX5_counted_112 : decode cX5_counted 112 = .ok (.bipush 8, 2) := by decide +kernel
theorem dX5_counted_114 : decode cX5_counted 114 = .ok (.iload_n 2, 1) := by decide +kernel
theorem dX5_counted_115 : decode cX5_counted 115 = .ok (.imul, 1) := by decide +kernel
theorem dX5_counted_116 : decode cX5_counted 116 = .ok (.iadd, 1) := by decide +kernel
theorem dX5_counted_117 : decode cX5_counted 117 = .ok (.iload_n 3, 1) := by decide +kernel
theorem dX5_counted_118 : decode cX5_counted 118 = .ok (.iadd, 1) := by decide +kernel
theorem dX5_counted_119 : decode cX5_counted 119 = .ok (.laload, 1) := by decide +kernel
theorem dX5_counted_120 : decode cX5_counted 120 = .ok (.goto 4, 3) := by decide +kernel
theorem dX5_counted_123 : decode cX5_counted 123 = .ok (.lconst 0, 1) := by decide +kernel
theorem dX5_counted_124 : decode cX5_counted 124 = .ok (.ladd, 1) := by decide +kernel
theorem dX5_counted_125 : decode cX5_counted 125 = .ok (.lstore 4, 2) := by decide +kernel
theorem dX5_counted_127 : decode cX5_counted 127 = .ok (.iinc 7 1, 3) := by decide +kernel
theorem dX5_counted_130 : decode cX5_counted 130 = .ok (.goto (-67), 3) := by decide +kernel
theorem dX5_counted_133 : decode cX5_counted 133 = .ok (.lload 4, 2) := by decide +kernel
theorem dX5_counted_135 : decode cX5_counted 135 = .ok (.lreturn, 1) := by decide +kernel
theorem dX5_latest_0 : decode cX5_latest 0 = .ok (.aload_n 0, 1) := by decide +kernel
theorem dX5_latest_1 : decode cX5_latest 1 = .ok (.iload_n 1, 1) := by decide +kernel
theorem dX5_latest_2 : decode cX5_latest 2 = .ok (.invokevirtual 99, 3) := by decide +kernel
theorem dX5_latest_5 : decode cX5_latest 5 = .ok (.ifCond .eq 20, 3) := by decide +kernel
theorem dX5_latest_8 : decode cX5_latest 8 = .ok (.aload_n 0, 1) := by decide +kernel
theorem dX5_latest_9 : decode cX5_latest 9 = .ok (.iload_n 2, 1) := by decide +kernel
theorem dX5_latest_10 : decode cX5_latest 10 = .ok (.invokevirtual 106, 3) := by decide +kernel
theorem dX5_latest_13 : decode cX5_latest 13 = .ok (.ifCond .eq 12, 3) := by decide +kernel
theorem dX5_latest_16 : decode cX5_latest 16 = .ok (.aload_n 0, 1) := by decide +kernel
theorem dX5_latest_17 : decode cX5_latest 17 = .ok (.getfield 20, 3) := by decide +kernel
theorem dX5_latest_20 : decode cX5_latest 20 = .ok (.iload_n 2, 1) := by decide +kernel
theorem dX5_latest_21 : decode cX5_latest 21 = .ok (.baload, 1) := by decide +kernel
theorem dX5_latest_22 : decode cX5_latest 22 = .ok (.ifCond .eq 5, 3) := by decide +kernel
theorem dX5_latest_25 : decode cX5_latest 25 = .ok (.lconst 0, 1) := by decide +kernel
theorem dX5_latest_26 : decode cX5_latest 26 = .ok (.lreturn, 1) := by decide +kernel
theorem dX5_latest_27 : decode cX5_latest 27 = .ok (.aload_n 0, 1) := by decide +kernel
theorem dX5_latest_28 : decode cX5_latest 28 = .ok (.getfield 67, 3) := by decide +kernel
theorem dX5_latest_31 : decode cX5_latest 31 = .ok (.iload_n 1, 1) := by decide +kernel
theorem dX5_latest_32 : decode cX5_latest 32 = .ok (.iaload, 1) := by decide +kernel
theorem dX5_latest_33 : decode cX5_latest 33 = .ok (.iconst 1, 1) := by decide +kernel
theorem dX5_latest_34 : decode cX5_latest 34 = .ok (.isub, 1) := by decide +kernel
theorem dX5_latest_35 : decode cX5_latest 35 = .ok (.istore_n 3, 1) := by decide +kernel
theorem dX5_latest_36 : decode cX5_latest 36 = .ok (.iload_n 3, 1) := by decide +kernel
theorem dX5_latest_37 : decode cX5_latest 37 = .ok (.ifCond .lt 51, 3) := by decide +kernel
theorem dX5_latest_40 : decode cX5_latest 40 = .ok (.aload_n 0, 1) := by decide +kernel
theorem dX5_latest_41 : decode cX5_latest 41 = .ok (.getfield 64, 3) := by decide +kernel
theorem dX5_latest_44 : decode cX5_latest 44 = .ok (.sipush 150, 3) := by decide +kernel
theorem dX5_latest_47 : decode cX5_latest 47 = .ok (.iload_n 1, 1) := by decide +kernel
theorem dX5_latest_48 : decode cX5_latest 48 = .ok (.imul, 1) := by decide +kernel
theorem dX5_latest_49 : decode cX5_latest 49 = .ok (.iload_n 3, 1) := by decide +kernel
theorem dX5_latest_50 : decode cX5_latest 50 = .ok (.iadd, 1) := by decide +kernel
theorem dX5_latest_51 : decode cX5_latest 51 = .ok (.iaload, 1) := by decide +kernel
theorem dX5_latest_52 : decode cX5_latest 52 = .ok (.istore 4, 2) := by decide +kernel
theorem dX5_latest_54 : decode cX5_latest 54 = .ok (.aload_n 0, 1) := by decide +kernel
theorem dX5_latest_55 : decode cX5_latest 55 = .ok (.getfield 48, 3) := by decide +kernel
theorem dX5_latest_58 : decode cX5_latest 58 = .ok (.bipush 12, 2) := by decide +kernel
theorem dX5_latest_60 : decode cX5_latest 60 = .ok (.iload 4, 2) := by decide +kernel
theorem dX5_latest_62 : decode cX5_latest 62 = .ok (.imul, 1) := by decide +kernel
theorem dX5_latest_63 : decode cX5_latest 63 = .ok (.iload_n 2, 1) := by decide +kernel
theorem dX5_latest_64 : decode cX5_latest 64 = .ok (.iadd, 1) := by decide +kernel
theorem dX5_latest_65 : decode cX5_latest 65 = .ok (.baload, 1) := by decide +kernel
theorem dX5_latest_66 : decode cX5_latest 66 = .ok (.ifCond .eq 16, 3) := by decide +kernel
theorem dX5_latest_69 : decode cX5_latest 69 = .ok (.aload_n 0, 1) := by decide +kernel
theorem dX5_latest_70 : decode cX5_latest 70 = .ok (.getfield 51, 3) := by decide +kernel
theorem dX5_latest_73 : decode cX5_latest 73 = .ok (.bipush 12, 2) := by decide +kernel
theorem dX5_latest_75 : decode cX5_latest 75 = .ok (.iload 4, 2) := by decide +kernel
theorem dX5_latest_77 : decode cX5_latest 77 = .ok (.imul, 1) := by decide +kernel
theorem dX5_latest_78 : decode cX5_latest 78 = .ok (.iload_n 2, 1) := by decide +kernel
theorem dX5_latest_79 : decode cX5_latest 79 = .ok (.iadd, 1) := by decide +kernel
theorem dX5_latest_80 : decode cX5_latest 80 = .ok (.laload, 1) := by decide +kernel
theorem dX5_latest_81 : decode cX5_latest 81 = .ok (.lreturn, 1) := by decide +kernel
theorem dX5_latest_82 : decode cX5_latest 82 = .ok (.iinc 3 (-1), 3) := by decide +kernel
theorem dX5_latest_85 : decode cX5_latest 85 = .ok (.goto (-49), 3) := by decide +kernel
theorem dX5_latest_88 : decode cX5_latest 88 = .ok (.lconst 0, 1) := by decide +kernel
theorem dX5_latest_89 : decode cX5_latest 89 = .ok (.lreturn, 1) := by decide +kernel
theorem dX5_sum_0 : decode cX5_sum 0 = .ok (.aload_n 0, 1) := by decide +kernel
theorem dX5_sum_1 : decode cX5_sum 1 = .ok (.iload_n 1, 1) := by decide +kernel
theorem dX5_sum_2 : decode cX5_sum 2 = .ok (.invokevirtual 99, 3) := by decide +kernel
theorem dX5_sum_5 : decode cX5_sum 5 = .ok (.ifCond .eq 27, 3) := by decide +kernel
theorem dX5_sum_8 : decode cX5_sum 8 = .ok (.aload_n 0, 1) := by decide +kernel
theorem dX5_sum_9 : decode cX5_sum 9 = .ok (.iload_n 2, 1) := by decide +kernel
theorem dX5_sum_10 : decode cX5_sum 10 = .ok (.invokevirtual 106, 3) := by decide +kernel
theorem dX5_sum_13 : decode cX5_sum 13 = .ok (.ifCond .eq 19, 3) := by decide +kernel
theorem dX5_sum_16 : decode cX5_sum 16 = .ok (.aload_n 0, 1) := by decide +kernel
theorem dX5_sum_17 : decode cX5_sum 17 = .ok (.getfield 20, 3) := by decide +kernel
theorem dX5_sum_20 : decode cX5_sum 20 = .ok (.iload_n 2, 1) := by decide +kernel
theorem dX5_sum_21 : decode cX5_sum 21 = .ok (.baload, 1) := by decide +kernel
theorem dX5_sum_22 : decode cX5_sum 22 = .ok (.ifCond .eq 10, 3) := by decide +kernel
theorem dX5_sum_25 : decode cX5_sum 25 = .ok (.iload_n 3, 1) := by decide +kernel
theorem dX5_sum_26 : decode cX5_sum 26 = .ok (.invokestatic 115, 3) := by decide +kernel
theorem dX5_sum_29 : decode cX5_sum 29 = .ok (.ifCond .ne 5, 3) := by decide +kernel
theorem dX5_sum_32 : decode cX5_sum 32 = .ok (.lconst 0, 1) := by decide +kernel
theorem dX5_sum_33 : decode cX5_sum 33 = .ok (.lreturn, 1) := by decide +kernel
theorem dX5_sum_34 : decode cX5_sum 34 = .ok (.lconst 0, 1) := by decide +kernel
theorem dX5_sum_35 : decode cX5_sum 35 = .ok (.lstore 4, 2) := by decide +kernel
theorem dX5_sum_37 : decode cX5_sum 37 = .ok (.iconst 0, 1) := by decide +kernel
theorem dX5_sum_38 : decode cX5_sum 38 = .ok (.istore 6, 2) := by decide +kernel
theorem dX5_sum_40 : decode cX5_sum 40 = .ok (.iload 6, 2) := by decide +kernel
theorem dX5_sum_42 : decode cX5_sum 42 = .ok (.aload_n 0, 1) := by decide +kernel
theorem dX5_sum_43 : decode cX5_sum 43 = .ok (.getfield 67, 3) := by decide +kernel
theorem dX5_sum_46 : decode cX5_sum 46 = .ok (.iload_n 1, 1) := by decide +kernel
theorem dX5_sum_47 : decode cX5_sum 47 = .ok (.iaload, 1) := by decide +kernel
theorem dX5_sum_48 : decode cX5_sum 48 = .ok (.if_icmp .ge 42, 3) := by decide +kernel
theorem dX5_sum_51 : decode cX5_sum 51 = .ok (.lload 4, 2) := by decide +kernel
theorem dX5_sum_53 : decode cX5_sum 53 = .ok (.aload_n 0, 1) := by decide +kernel
theorem dX5_sum_54 : decode cX5_sum 54 = .ok (.getfield 58, 3) := by decide +kernel
theorem dX5_sum_57 : decode cX5_sum 57 = .ok (.bipush 96, 2) := by decide +kernel
theorem dX5_sum_59 : decode cX5_sum 59 = .ok (.aload_n 0, 1) := by decide +kernel
theorem dX5_sum_60 : decode cX5_sum 60 = .ok (.getfield 64, 3) := by decide +kernel
theorem dX5_sum_63 : decode cX5_sum 63 = .ok (.sipush 150, 3) := by decide +kernel
theorem dX5_sum_66 : decode cX5_sum 66 = .ok (.iload_n 1, 1) := by decide +kernel
theorem dX5_sum_67 : decode cX5_sum 67 = .ok (.imul, 1) := by decide +kernel
theorem dX5_sum_68 : decode cX5_sum 68 = .ok (.iload 6, 2) := by decide +kernel
theorem dX5_sum_70 : decode cX5_sum 70 = .ok (.iadd, 1) := by decide +kernel
theorem dX5_sum_71 : decode cX5_sum 71 = .ok (.iaload, 1) := by decide +kernel
theorem dX5_sum_72 : decode cX5_sum 72 = .ok (.imul, 1) := by decide +kernel
theorem dX5_sum_73 : decode cX5_sum 73 = .ok (.bipush 8, 2) := by decide +kernel
theorem dX5_sum_75 : decode cX5_sum 75 = .ok (.iload_n 2, 1) := by decide +kernel
theorem dX5_sum_76 : decode cX5_sum 76 = .ok (.imul, 1) := by decide +kernel
theorem dX5_sum_77 : decode cX5_sum 77 = .ok (.iadd, 1) := by decide +kernel
theorem dX5_sum_78 : decode cX5_sum 78 = .ok (.iload_n 3, 1) := by decide +kernel
theorem dX5_sum_79 : decode cX5_sum 79 = .ok (.iadd, 1) := by decide +kernel
theorem dX5_sum_80 : decode cX5_sum 80 = .ok (.laload, 1) := by decide +kernel
theorem dX5_sum_81 : decode cX5_sum 81 = .ok (.ladd, 1) := by decide +kernel
theorem dX5_sum_82 : decode cX5_sum 82 = .ok (.lstore 4, 2) := by decide +kernel
theorem dX5_sum_84 : decode cX5_sum 84 = .ok (.iinc 6 1, 3) := by decide +kernel
theorem dX5_sum_87 : decode cX5_sum 87 = .ok (.goto (-47), 3) := by decide +kernel
theorem dX5_sum_90 : decode cX5_sum 90 = .ok (.lload 4, 2) := by decide +kernel
theorem dX5_sum_92 : decode cX5_sum 92 = .ok (.lreturn, 1) := by decide +kernel
theorem dX5_plain_0 : decode cX5_plain 0 = .ok (.iconst 0, 1) := by decide +kernel
theorem dX5_plain_1 : decode cX5_plain 1 = .ok (.istore_n 2, 1) := by decide +kernel
theorem dX5_plain_2 : decode cX5_plain 2 = .ok (.iconst 0, 1) := by decide +kernel
theorem dX5_plain_3 : decode cX5_plain 3 = .ok (.istore_n 3, 1) := by decide +kernel
theorem dX5_plain_4 : decode cX5_plain 4 = .ok (.iload_n 3, 1) := by decide +kernel
theorem dX5_plain_5 : decode cX5_plain 5 = .ok (.aload_n 0, 1) := by decide +kernel
theorem dX5_plain_6 : decode cX5_plain 6 = .ok (.getfield 89, 3) := by decide +kernel
theorem dX5_plain_9 : decode cX5_plain 9 = .ok (.if_icmp .ge 31, 3) := by decide +kernel
theorem dX5_plain_12 : decode cX5_plain 12 = .ok (.iload_n 2, 1) := by decide +kernel
theorem dX5_plain_13 : decode cX5_plain 13 = .ok (.aload_n 0, 1) := by decide +kernel
theorem dX5_plain_14 : decode cX5_plain 14 = .ok (.getfield 48, 3) := by decide +kernel
theorem dX5_plain_17 : decode cX5_plain 17 = .ok (.bipush 12, 2) := by decide +kernel
theorem dX5_plain_19 : decode cX5_plain 19 = .ok (.iload_n 1, 1) := by decide +kernel
theorem dX5_plain_20 : decode cX5_plain 20 = .ok (.imul, 1) := by decide +kernel
theorem dX5_plain_21 : decode cX5_plain 21 = .ok (.iload_n 3, 1) := by decide +kernel
theorem dX5_plain_22 : decode cX5_plain 22 = .ok (.iadd, 1) := by decide +kernel
theorem dX5_plain_23 : decode cX5_plain 23 = .ok (.baload, 1) := by decide +kernel
theorem dX5_plain_24 : decode cX5_plain 24 = .ok (.ifCond .eq 7, 3) := by decide +kernel
theorem dX5_plain_27 : decode cX5_plain 27 = .ok (.iconst 1, 1) := by decide +kernel
theorem dX5_plain_28 : decode cX5_plain 28 = .ok (.goto 4, 3) := by decide +kernel
theorem dX5_plain_31 : decode cX5_plain 31 = .ok (.iconst 0, 1) := by decide +kernel
theorem dX5_plain_32 : decode cX5_plain 32 = .ok (.iadd, 1) := by decide +kernel
theorem dX5_plain_33 : decode cX5_plain 33 = .ok (.istore_n 2, 1) := by decide +kernel
theorem dX5_plain_34 : decode cX5_plain 34 = .ok (.iinc 3 1, 3) := by decide +kernel
theorem dX5_plain_37 : decode cX5_plain 37 = .ok (.goto (-33), 3) := by decide +kernel
theorem dX5_plain_40 : decode cX5_plain 40 = .ok (.iload_n 2, 1) := by decide +kernel
theorem dX5_plain_41 : decode cX5_plain 41 = .ok (.ireturn, 1) := by decide +kernel
theorem dX5_write_0 : decode cX5_write 0 = .ok (.aload_n 0, 1) := by decide +kernel
theorem dX5_write_1 : decode cX5_write 1 = .ok (.iload_n 1, 1) := by decide +kernel
theorem dX5_write_2 : decode cX5_write 2 = .ok (.invokevirtual 103, 3) := by decide +kernel
theorem dX5_write_5 : decode cX5_write 5 = .ok (.ifCond .eq 20, 3) := by decide +kernel
theorem dX5_write_8 : decode cX5_write 8 = .ok (.aload_n 0, 1) := by decide +kernel
theorem dX5_write_9 : decode cX5_write 9 = .ok (.iload_n 2, 1) := by decide +kernel
theorem dX5_write_10 : decode cX5_write 10 = .ok (.invokevirtual 106, 3) := by decide +kernel
theorem dX5_write_13 : decode cX5_write 13 = .ok (.ifCond .eq 12, 3) := by decide +kernel
theorem dX5_write_16 : decode cX5_write 16 = .ok (.aload_n 0, 1) := by decide +kernel
theorem dX5_write_17 : decode cX5_write 17 = .ok (.getfield 20, 3) := by decide +kernel
theorem dX5_write_20 : decode cX5_write 20 = .ok (.iload_n 2, 1) := by decide +kernel
theorem dX5_write_21 : decode cX5_write 21 = .ok (.baload, 1) := by decide +kernel
theorem dX5_write_22 : decode cX5_write 22 = .ok (.ifCond .eq 5, 3) := by decide +kernel
theorem dX5_write_25 : decode cX5_write 25 = .ok (.iconst (-1), 1) := by decide +kernel
theorem dX5_write_26 : decode cX5_write 26 = .ok (.ireturn, 1) := by decide +kernel
theorem dX5_write_27 : decode cX5_write 27 = .ok (.aload_n 0, 1) := by decide +kernel
theorem dX5_write_28 : decode cX5_write 28 = .ok (.getfield 27, 3) := by decide +kernel
theorem dX5_write_31 : decode cX5_write 31 = .ok (.iload_n 1, 1) := by decide +kernel
theorem dX5_write_32 : decode cX5_write 32 = .ok (.iaload, 1) := by decide +kernel
theorem dX5_write_33 : decode cX5_write 33 = .ok (.ifCond .eq 6, 3) := by decide +kernel
theorem dX5_write_36 : decode cX5_write 36 = .ok (.bipush (-2), 2) := by decide +kernel
theorem dX5_write_38 : decode cX5_write 38 = .ok (.ireturn, 1) := by decide +kernel
theorem dX5_write_39 : decode cX5_write 39 = .ok (.aload_n 0, 1) := by decide +kernel
theorem dX5_write_40 : decode cX5_write 40 = .ok (.getfield 48, 3) := by decide +kernel
theorem dX5_write_43 : decode cX5_write 43 = .ok (.bipush 12, 2) := by decide +kernel
theorem dX5_write_45 : decode cX5_write 45 = .ok (.iload_n 1, 1) := by decide +kernel
theorem dX5_write_46 : decode cX5_write 46 = .ok (.imul, 1) := by decide +kernel
theorem dX5_write_47 : decode cX5_write 47 = .ok (.iload_n 2, 1) := by decide +kernel
theorem dX5_write_48 : decode cX5_write 48 = .ok (.iadd, 1) := by decide +kernel
theorem dX5_write_49 : decode cX5_write 49 = .ok (.iconst 1, 1) := by decide +kernel
theorem dX5_write_50 : decode cX5_write 50 = .ok (.bastore, 1) := by decide +kernel
theorem dX5_write_51 : decode cX5_write 51 = .ok (.aload_n 0, 1) := by decide +kernel
theorem dX5_write_52 : decode cX5_write 52 = .ok (.getfield 51, 3) := by decide +kernel
theorem dX5_write_55 : decode cX5_write 55 = .ok (.bipush 12, 2) := by decide +kernel
theorem dX5_write_57 : decode cX5_write 57 = .ok (.iload_n 1, 1) := by decide +kernel
theorem dX5_write_58 : decode cX5_write 58 = .ok (.imul, 1) := by decide +kernel
theorem dX5_write_59 : decode cX5_write 59 = .ok (.iload_n 2, 1) := by decide +kernel
theorem dX5_write_60 : decode cX5_write 60 = .ok (.iadd, 1) := by decide +kernel
theorem dX5_write_61 : decode cX5_write 61 = .ok (.lload_n 3, 1) := by decide +kernel
theorem dX5_write_62 : decode cX5_write 62 = .ok (.lastore, 1) := by decide +kernel
theorem dX5_write_63 : decode cX5_write 63 = .ok (.aload_n 0, 1) := by decide +kernel
theorem dX5_write_64 : decode cX5_write 64 = .ok (.iload_n 1, 1) := by decide +kernel
theorem dX5_write_65 : decode cX5_write 65 = .ok (.invokevirtual 118, 3) := by decide +kernel
theorem dX5_write_68 : decode cX5_write 68 = .ok (.ireturn, 1) := by decide +kernel
theorem dX5_add_0 : decode cX5_add 0 = .ok (.aload_n 0, 1) := by decide +kernel
theorem dX5_add_1 : decode cX5_add 1 = .ok (.iload_n 1, 1) := by decide +kernel
theorem dX5_add_2 : decode cX5_add 2 = .ok (.invokevirtual 103, 3) := by decide +kernel
theorem dX5_add_5 : decode cX5_add 5 = .ok (.ifCond .eq 27, 3) := by decide +kernel
theorem dX5_add_8 : decode cX5_add 8 = .ok (.aload_n 0, 1) := by decide +kernel
theorem dX5_add_9 : decode cX5_add 9 = .ok (.iload_n 2, 1) := by decide +kernel
theorem dX5_add_10 : decode cX5_add 10 = .ok (.invokevirtual 106, 3) := by decide +kernel
theorem dX5_add_13 : decode cX5_add 13 = .ok (.ifCond .eq 19, 3) := by decide +kernel
theorem dX5_add_16 : decode cX5_add 16 = .ok (.aload_n 0, 1) := by decide +kernel
theorem dX5_add_17 : decode cX5_add 17 = .ok (.getfield 20, 3) := by decide +kernel
theorem dX5_add_20 : decode cX5_add 20 = .ok (.iload_n 2, 1) := by decide +kernel
theorem dX5_add_21 : decode cX5_add 21 = .ok (.baload, 1) := by decide +kernel
theorem dX5_add_22 : decode cX5_add 22 = .ok (.ifCond .eq 10, 3) := by decide +kernel
theorem dX5_add_25 : decode cX5_add 25 = .ok (.iload_n 3, 1) := by decide +kernel
theorem dX5_add_26 : decode cX5_add 26 = .ok (.invokestatic 115, 3) := by decide +kernel
theorem dX5_add_29 : decode cX5_add 29 = .ok (.ifCond .ne 5, 3) := by decide +kernel
theorem dX5_add_32 : decode cX5_add 32 = .ok (.iconst (-1), 1) := by decide +kernel
theorem dX5_add_33 : decode cX5_add 33 = .ok (.ireturn, 1) := by decide +kernel
theorem dX5_add_34 : decode cX5_add 34 = .ok (.aload_n 0, 1) := by decide +kernel
theorem dX5_add_35 : decode cX5_add 35 = .ok (.getfield 27, 3) := by decide +kernel
theorem dX5_add_38 : decode cX5_add 38 = .ok (.iload_n 1, 1) := by decide +kernel
theorem dX5_add_39 : decode cX5_add 39 = .ok (.iaload, 1) := by decide +kernel
theorem dX5_add_40 : decode cX5_add 40 = .ok (.ifCond .eq 6, 3) := by decide +kernel
theorem dX5_add_43 : decode cX5_add 43 = .ok (.bipush (-2), 2) := by decide +kernel
theorem dX5_add_45 : decode cX5_add 45 = .ok (.ireturn, 1) := by decide +kernel
theorem dX5_add_46 : decode cX5_add 46 = .ok (.aload_n 0, 1) := by decide +kernel
theorem dX5_add_47 : decode cX5_add 47 = .ok (.getfield 55, 3) := by decide +kernel
theorem dX5_add_50 : decode cX5_add 50 = .ok (.bipush 12, 2) := by decide +kernel
theorem dX5_add_52 : decode cX5_add 52 = .ok (.iload_n 1, 1) := by decide +kernel
theorem dX5_add_53 : decode cX5_add 53 = .ok (.imul, 1) := by decide +kernel
theorem dX5_add_54 : decode cX5_add 54 = .ok (.iload_n 2, 1) := by decide +kernel
theorem dX5_add_55 : decode cX5_add 55 = .ok (.iadd, 1) := by decide +kernel
theorem dX5_add_56 : decode cX5_add 56 = .ok (.iconst 1, 1) := by decide +kernel
theorem dX5_add_57 : decode cX5_add 57 = .ok (.bastore, 1) := by decide +kernel
theorem dX5_add_58 : decode cX5_add 58 = .ok (.aload_n 0, 1) := by decide +kernel
theorem dX5_add_59 : decode cX5_add 59 = .ok (.getfield 58, 3) := by decide +kernel
theorem dX5_add_62 : decode cX5_add 62 = .ok (.bipush 96, 2) := by decide +kernel
theorem dX5_add_64 : decode cX5_add 64 = .ok (.iload_n 1, 1) := by decide +kernel
theorem dX5_add_65 : decode cX5_add 65 = .ok (.imul, 1) := by decide +kernel
theorem dX5_add_66 : decode cX5_add 66 = .ok (.bipush 8, 2) := by decide +kernel
theorem dX5_add_68 : decode cX5_add 68 = .ok (.iload_n 2, 1) := by decide +kernel
theorem dX5_add_69 : decode cX5_add 69 = .ok (.imul, 1) := by decide +kernel
theorem dX5_add_70 : decode cX5_add 70 = .ok (.iadd, 1) := by decide +kernel
theorem dX5_add_71 : decode cX5_add 71 = .ok (.iload_n 3, 1) := by decide +kernel
theorem dX5_add_72 : decode cX5_add 72 = .ok (.iadd, 1) := by decide +kernel
theorem dX5_add_73 : decode cX5_add 73 = .ok (.dup2, 1) := by decide +kernel
theorem dX5_add_74 : decode cX5_add 74 = .ok (.laload, 1) := by decide +kernel
theorem dX5_add_75 : decode cX5_add 75 = .ok (.iload 4, 2) := by decide +kernel
theorem dX5_add_77 : decode cX5_add 77 = .ok (.i2l, 1) := by decide +kernel
theorem dX5_add_78 : decode cX5_add 78 = .ok (.ladd, 1) := by decide +kernel
theorem dX5_add_79 : decode cX5_add 79 = .ok (.lastore, 1) := by decide +kernel
theorem dX5_add_80 : decode cX5_add 80 = .ok (.iconst 1, 1) := by decide +kernel
theorem dX5_add_81 : decode cX5_add 81 = .ok (.ireturn, 1) := by decide +kernel
theorem dX5_send_0 : decode cX5_send 0 = .ok (.aload_n 0, 1) := by decide +kernel
theorem dX5_send_1 : decode cX5_send 1 = .ok (.getfield 73, 3) := by decide +kernel
theorem dX5_send_4 : decode cX5_send 4 = .ok (.aload_n 0, 1) := by decide +kernel
theorem dX5_send_5 : decode cX5_send 5 = .ok (.getfield 122, 3) := by decide +kernel
theorem dX5_send_8 : decode cX5_send 8 = .ok (.iload_n 1, 1) := by decide +kernel
theorem dX5_send_9 : decode cX5_send 9 = .ok (.iastore, 1) := by decide +kernel
theorem dX5_send_10 : decode cX5_send 10 = .ok (.aload_n 0, 1) := by decide +kernel
theorem dX5_send_11 : decode cX5_send 11 = .ok (.getfield 76, 3) := by decide +kernel
theorem dX5_send_14 : decode cX5_send 14 = .ok (.aload_n 0, 1) := by decide +kernel
theorem dX5_send_15 : decode cX5_send 15 = .ok (.getfield 122, 3) := by decide +kernel
theorem dX5_send_18 : decode cX5_send 18 = .ok (.iload_n 2, 1) := by decide +kernel
theorem dX5_send_19 : decode cX5_send 19 = .ok (.iastore, 1) := by decide +kernel
theorem dX5_send_20 : decode cX5_send 20 = .ok (.aload_n 0, 1) := by decide +kernel
theorem dX5_send_21 : decode cX5_send 21 = .ok (.getfield 79, 3) := by decide +kernel
theorem dX5_send_24 : decode cX5_send 24 = .ok (.aload_n 0, 1) := by decide +kernel
theorem dX5_send_25 : decode cX5_send 25 = .ok (.getfield 122, 3) := by decide +kernel
theorem dX5_send_28 : decode cX5_send 28 = .ok (.iload_n 3, 1) := by decide +kernel
theorem dX5_send_29 : decode cX5_send 29 = .ok (.iastore, 1) := by decide +kernel
theorem dX5_send_30 : decode cX5_send 30 = .ok (.aload_n 0, 1) := by decide +kernel
theorem dX5_send_31 : decode cX5_send 31 = .ok (.getfield 82, 3) := by decide +kernel
theorem dX5_send_34 : decode cX5_send 34 = .ok (.aload_n 0, 1) := by decide +kernel
theorem dX5_send_35 : decode cX5_send 35 = .ok (.getfield 122, 3) := by decide +kernel
theorem dX5_send_38 : decode cX5_send 38 = .ok (.iload 4, 2) := by decide +kernel
theorem dX5_send_40 : decode cX5_send 40 = .ok (.iastore, 1) := by decide +kernel
theorem dX5_send_41 : decode cX5_send 41 = .ok (.aload_n 0, 1) := by decide +kernel
theorem dX5_send_42 : decode cX5_send 42 = .ok (.dup, 1) := by decide +kernel
theorem dX5_send_43 : decode cX5_send 43 = .ok (.getfield 122, 3) := by decide +kernel
theorem dX5_send_46 : decode cX5_send 46 = .ok (.iconst 1, 1) := by decide +kernel
theorem dX5_send_47 : decode cX5_send 47 = .ok (.iadd, 1) := by decide +kernel
theorem dX5_send_48 : decode cX5_send 48 = .ok (.putfield 122, 3) := by decide +kernel
theorem dX5_send_51 : decode cX5_send 51 = .ok (.return_, 1) := by decide +kernel
theorem dX5_isFree_0 : decode cX5_isFree 0 = .ok (.aload_n 0, 1) := by decide +kernel
theorem dX5_isFree_1 : decode cX5_isFree 1 = .ok (.getfield 70, 3) := by decide +kernel
theorem dX5_isFree_4 : decode cX5_isFree 4 = .ok (.bipush 12, 2) := by decide +kernel
theorem dX5_isFree_6 : decode cX5_isFree 6 = .ok (.iload_n 3, 1) := by decide +kernel
theorem dX5_isFree_7 : decode cX5_isFree 7 = .ok (.imul, 1) := by decide +kernel
theorem dX5_isFree_8 : decode cX5_isFree 8 = .ok (.iload_n 2, 1) := by decide +kernel
theorem dX5_isFree_9 : decode cX5_isFree 9 = .ok (.iadd, 1) := by decide +kernel
theorem dX5_isFree_10 : decode cX5_isFree 10 = .ok (.iaload, 1) := by decide +kernel
theorem dX5_isFree_11 : decode cX5_isFree 11 = .ok (.bipush (-4), 2) := by decide +kernel
theorem dX5_isFree_13 : decode cX5_isFree 13 = .ok (.if_icmp .ne 7, 3) := by decide +kernel
theorem dX5_isFree_16 : decode cX5_isFree 16 = .ok (.iconst 1, 1) := by decide +kernel
theorem dX5_isFree_17 : decode cX5_isFree 17 = .ok (.goto 4, 3) := by decide +kernel
theorem dX5_isFree_20 : decode cX5_isFree 20 = .ok (.iconst 0, 1) := by decide +kernel
theorem dX5_isFree_21 : decode cX5_isFree 21 = .ok (.istore 4, 2) := by decide +kernel
theorem dX5_isFree_23 : decode cX5_isFree 23 = .ok (.iconst 0, 1) := by decide +kernel
theorem dX5_isFree_24 : decode cX5_isFree 24 = .ok (.istore 5, 2) := by decide +kernel
theorem dX5_isFree_26 : decode cX5_isFree 26 = .ok (.iload 5, 2) := by decide +kernel
theorem dX5_isFree_28 : decode cX5_isFree 28 = .ok (.aload_n 0, 1) := by decide +kernel
theorem dX5_isFree_29 : decode cX5_isFree 29 = .ok (.getfield 67, 3) := by decide +kernel
theorem dX5_isFree_32 : decode cX5_isFree 32 = .ok (.iload_n 3, 1) := by decide +kernel
theorem dX5_isFree_33 : decode cX5_isFree 33 = .ok (.iaload, 1) := by decide +kernel
theorem dX5_isFree_34 : decode cX5_isFree 34 = .ok (.if_icmp .ge 61, 3) := by decide +kernel
theorem dX5_isFree_37 : decode cX5_isFree 37 = .ok (.aload_n 0, 1) := by decide +kernel
theorem dX5_isFree_38 : decode cX5_isFree 38 = .ok (.getfield 64, 3) := by decide +kernel
theorem dX5_isFree_41 : decode cX5_isFree 41 = .ok (.sipush 150, 3) := by decide +kernel
theorem dX5_isFree_44 : decode cX5_isFree 44 = .ok (.iload_n 3, 1) := by decide +kernel
theorem dX5_isFree_45 : decode cX5_isFree 45 = .ok (.imul, 1) := by decide +kernel
theorem dX5_isFree_46 : decode cX5_isFree 46 = .ok (.iload 5, 2) := by decide +kernel
theorem dX5_isFree_48 : decode cX5_isFree 48 = .ok (.iadd, 1) := by decide +kernel
theorem dX5_isFree_49 : decode cX5_isFree 49 = .ok (.iaload, 1) := by decide +kernel
theorem dX5_isFree_50 : decode cX5_isFree 50 = .ok (.istore 6, 2) := by decide +kernel
theorem dX5_isFree_52 : decode cX5_isFree 52 = .ok (.iload 4, 2) := by decide +kernel
theorem dX5_isFree_54 : decode cX5_isFree 54 = .ok (.ifCond .eq 32, 3) := by decide +kernel
theorem dX5_isFree_57 : decode cX5_isFree 57 = .ok (.aload_n 0, 1) := by decide +kernel
theorem dX5_isFree_58 : decode cX5_isFree 58 = .ok (.getfield 48, 3) := by decide +kernel
theorem dX5_isFree_61 : decode cX5_isFree 61 = .ok (.bipush 12, 2) := by decide +kernel
theorem dX5_isFree_63 : decode cX5_isFree 63 = .ok (.iload 6, 2) := by decide +kernel
theorem dX5_isFree_65 : decode cX5_isFree 65 = .ok (.imul, 1) := by decide +kernel
theorem dX5_isFree_66 : decode cX5_isFree 66 = .ok (.iload_n 2, 1) := by decide +kernel
theorem dX5_isFree_67 : decode cX5_isFree 67 = .ok (.iadd, 1) := by decide +kernel
theorem dX5_isFree_68 : decode cX5_isFree 68 = .ok (.baload, 1) := by decide +kernel
theorem dX5_isFree_69 : decode cX5_isFree 69 = .ok (.ifCond .eq 13, 3) := by decide +kernel
theorem dX5_isFree_72 : decode cX5_isFree 72 = .ok (.aload_n 0, 1) := by decide +kernel
theorem dX5_isFree_73 : decode cX5_isFree 73 = .ok (.iload_n 1, 1) := by decide +kernel
theorem dX5_isFree_74 : decode cX5_isFree 74 = .ok (.iload 6, 2) := by decide +kernel
theorem dX5_isFree_76 : decode cX5_isFree 76 = .ok (.invokevirtual 109, 3) := by decide +kernel
theorem dX5_isFree_79 : decode cX5_isFree 79 = .ok (.ifCond .eq 7, 3) := by decide +kernel
theorem dX5_isFree_82 : decode cX5_isFree 82 = .ok (.iconst 1, 1) := by decide +kernel
theorem dX5_isFree_83 : decode cX5_isFree 83 = .ok (.goto 4, 3) := by decide +kernel
theorem dX5_isFree_86 : decode cX5_isFree 86 = .ok (.iconst 0, 1) := by decide +kernel
theorem dX5_isFree_87 : decode cX5_isFree 87 = .ok (.istore 4, 2) := by decide +kernel
theorem dX5_isFree_89 : decode cX5_isFree 89 = .ok (.iinc 5 1, 3) := by decide +kernel
theorem dX5_isFree_92 : decode cX5_isFree 92 = .ok (.goto (-66), 3) := by decide +kernel
theorem dX5_isFree_95 : decode cX5_isFree 95 = .ok (.iload 4, 2) := by decide +kernel
theorem dX5_isFree_97 : decode cX5_isFree 97 = .ok (.ireturn, 1) := by decide +kernel
theorem dX5_areFree_0 : decode cX5_areFree 0 = .ok (.iconst 1, 1) := by decide +kernel
theorem dX5_areFree_1 : decode cX5_areFree 1 = .ok (.istore_n 3, 1) := by decide +kernel
theorem dX5_areFree_2 : decode cX5_areFree 2 = .ok (.iconst 0, 1) := by decide +kernel
theorem dX5_areFree_3 : decode cX5_areFree 3 = .ok (.istore 4, 2) := by decide +kernel
theorem dX5_areFree_5 : decode cX5_areFree 5 = .ok (.iload 4, 2) := by decide +kernel
theorem dX5_areFree_7 : decode cX5_areFree 7 = .ok (.aload_n 0, 1) := by decide +kernel
theorem dX5_areFree_8 : decode cX5_areFree 8 = .ok (.getfield 89, 3) := by decide +kernel
theorem dX5_areFree_11 : decode cX5_areFree 11 = .ok (.if_icmp .ge 56, 3) := by decide +kernel
theorem dX5_areFree_14 : decode cX5_areFree 14 = .ok (.iload_n 3, 1) := by decide +kernel
theorem dX5_areFree_15 : decode cX5_areFree 15 = .ok (.ifCond .eq 44, 3) := by decide +kernel
theorem dX5_areFree_18 : decode cX5_areFree 18 = .ok (.aload_n 0, 1) := by decide +kernel
theorem dX5_areFree_19 : decode cX5_areFree 19 = .ok (.getfield 48, 3) := by decide +kernel
theorem dX5_areFree_22 : decode cX5_areFree 22 = .ok (.bipush 12, 2) := by decide +kernel
theorem dX5_areFree_24 : decode cX5_areFree 24 = .ok (.iload_n 1, 1) := by decide +kernel
theorem dX5_areFree_25 : decode cX5_areFree 25 = .ok (.imul, 1) := by decide +kernel
theorem dX5_areFree_26 : decode cX5_areFree 26 = .ok (.iload 4, 2) := by decide +kernel
theorem dX5_areFree_28 : decode cX5_areFree 28 = .ok (.iadd, 1) := by decide +kernel
theorem dX5_areFree_29 : decode cX5_areFree 29 = .ok (.baload, 1) := by decide +kernel
theorem dX5_areFree_30 : decode cX5_areFree 30 = .ok (.ifCond .eq 25, 3) := by decide +kernel
theorem dX5_areFree_33 : decode cX5_areFree 33 = .ok (.aload_n 0, 1) := by decide +kernel
theorem dX5_areFree_34 : decode cX5_areFree 34 = .ok (.getfield 16, 3) := by decide +kernel
theorem dX5_areFree_37 : decode cX5_areFree 37 = .ok (.iload 4, 2) := by decide +kernel
theorem dX5_areFree_39 : decode cX5_areFree 39 = .ok (.iaload, 1) := by decide +kernel
theorem dX5_areFree_40 : decode cX5_areFree 40 = .ok (.iload_n 2, 1) := by decide +kernel
theorem dX5_areFree_41 : decode cX5_areFree 41 = .ok (.if_icmp .ne 14, 3) := by decide +kernel
theorem dX5_areFree_44 : decode cX5_areFree 44 = .ok (.aload_n 0, 1) := by decide +kernel
theorem dX5_areFree_45 : decode cX5_areFree 45 = .ok (.iload_n 1, 1) := by decide +kernel
theorem dX5_areFree_46 : decode cX5_areFree 46 = .ok (.iload 4, 2) := by decide +kernel
theorem dX5_areFree_48 : decode cX5_areFree 48 = .ok (.iload_n 2, 1) := by decide +kernel
theorem dX5_areFree_49 : decode cX5_areFree 49 = .ok (.invokevirtual 125, 3) := by decide +kernel
theorem dX5_areFree_52 : decode cX5_areFree 52 = .ok (.ifCond .eq 7, 3) := by decide +kernel
theorem dX5_areFree_55 : decode cX5_areFree 55 = .ok (.iconst 1, 1) := by decide +kernel
theorem dX5_areFree_56 : decode cX5_areFree 56 = .ok (.goto 4, 3) := by decide +kernel
theorem dX5_areFree_59 : decode cX5_areFree 59 = .ok (.iconst 0, 1) := by decide +kernel
theorem dX5_areFree_60 : decode cX5_areFree 60 = .ok (.istore_n 3, 1) := by decide +kernel
theorem dX5_areFree_61 : decode cX5_areFree 61 = .ok (.iinc 4 1, 3) := by decide +kernel
theorem dX5_areFree_64 : decode cX5_areFree 64 = .ok (.goto (-59), 3) := by decide +kernel
theorem dX5_areFree_67 : decode cX5_areFree 67 = .ok (.iload_n 3, 1) := by decide +kernel
theorem dX5_areFree_68 : decode cX5_areFree 68 = .ok (.ireturn, 1) := by decide +kernel
theorem dX5_lock_0 : decode cX5_lock 0 = .ok (.iconst 0, 1) := by decide +kernel
theorem dX5_lock_1 : decode cX5_lock 1 = .ok (.istore_n 3, 1) := by decide +kernel
theorem dX5_lock_2 : decode cX5_lock 2 = .ok (.iload_n 3, 1) := by decide +kernel
theorem dX5_lock_3 : decode cX5_lock 3 = .ok (.aload_n 0, 1) := by decide +kernel
theorem dX5_lock_4 : decode cX5_lock 4 = .ok (.getfield 89, 3) := by decide +kernel
theorem dX5_lock_7 : decode cX5_lock 7 = .ok (.if_icmp .ge 45, 3) := by decide +kernel
theorem dX5_lock_10 : decode cX5_lock 10 = .ok (.aload_n 0, 1) := by decide +kernel
theorem dX5_lock_11 : decode cX5_lock 11 = .ok (.getfield 48, 3) := by decide +kernel
theorem dX5_lock_14 : decode cX5_lock 14 = .ok (.bipush 12, 2) := by decide +kernel
theorem dX5_lock_16 : decode cX5_lock 16 = .ok (.iload_n 1, 1) := by decide +kernel
theorem dX5_lock_17 : decode cX5_lock 17 = .ok (.imul, 1) := by decide +kernel
theorem dX5_lock_18 : decode cX5_lock 18 = .ok (.iload_n 3, 1) := by decide +kernel
theorem dX5_lock_19 : decode cX5_lock 19 = .ok (.iadd, 1) := by decide +kernel
theorem dX5_lock_20 : decode cX5_lock 20 = .ok (.baload, 1) := by decide +kernel
theorem dX5_lock_21 : decode cX5_lock 21 = .ok (.ifCond .eq 25, 3) := by decide +kernel
theorem dX5_lock_24 : decode cX5_lock 24 = .ok (.aload_n 0, 1) := by decide +kernel
theorem dX5_lock_25 : decode cX5_lock 25 = .ok (.getfield 16, 3) := by decide +kernel
theorem dX5_lock_28 : decode cX5_lock 28 = .ok (.iload_n 3, 1) := by decide +kernel
theorem dX5_lock_29 : decode cX5_lock 29 = .ok (.iaload, 1) := by decide +kernel
theorem dX5_lock_30 : decode cX5_lock 30 = .ok (.iload_n 2, 1) := by decide +kernel
theorem dX5_lock_31 : decode cX5_lock 31 = .ok (.if_icmp .ne 15, 3) := by decide +kernel
theorem dX5_lock_34 : decode cX5_lock 34 = .ok (.aload_n 0, 1) := by decide +kernel
theorem dX5_lock_35 : decode cX5_lock 35 = .ok (.getfield 70, 3) := by decide +kernel
theorem dX5_lock_38 : decode cX5_lock 38 = .ok (.bipush 12, 2) := by decide +kernel
theorem dX5_lock_40 : decode cX5_lock 40 = .ok (.iload_n 2, 1) := by decide +kernel
theorem dX5_lock_41 : decode cX5_lock 41 = .ok (.imul, 1) := by decide +kernel
theorem dX5_lock_42 : decode cX5_lock 42 = .ok (.iload_n 3, 1) := by decide +kernel
theorem dX5_lock_43 : decode cX5_lock 43 = .ok (.iadd, 1) := by decide +kernel
theorem dX5_lock_44 : decode cX5_lock 44 = .ok (.iload_n 1, 1) := by decide +kernel
theorem dX5_lock_45 : decode cX5_lock 45 = .ok (.iastore, 1) := by decide +kernel
theorem dX5_lock_46 : decode cX5_lock 46 = .ok (.iinc 3 1, 3) := by decide +kernel
theorem dX5_lock_49 : decode cX5_lock 49 = .ok (.goto (-47), 3) := by decide +kernel
theorem dX5_lock_52 : decode cX5_lock 52 = .ok (.return_, 1) := by decide +kernel
theorem dX5_unlock_0 : decode cX5_unlock 0 = .ok (.iconst 0, 1) := by decide +kernel
theorem dX5_unlock_1 : decode cX5_unlock 1 = .ok (.istore_n 3, 1) := by decide +kernel
theorem dX5_unlock_2 : decode cX5_unlock 2 = .ok (.iload_n 3, 1) := by decide +kernel
theorem dX5_unlock_3 : decode cX5_unlock 3 = .ok (.aload_n 0, 1) := by decide +kernel
theorem dX5_unlock_4 : decode cX5_unlock 4 = .ok (.getfield 89, 3) := by decide +kernel
theorem dX5_unlock_7 : decode cX5_unlock 7 = .ok (.if_icmp .ge 37, 3) := by decide +kernel
theorem dX5_unlock_10 : decode cX5_unlock 10 = .ok (.aload_n 0, 1) := by decide +kernel
theorem dX5_unlock_11 : decode cX5_unlock 11 = .ok (.getfield 70, 3) := by decide +kernel
theorem dX5_unlock_14 : decode cX5_unlock 14 = .ok (.bipush 12, 2) := by decide +kernel
theorem dX5_unlock_16 : decode cX5_unlock 16 = .ok (.iload_n 2, 1) := by decide +kernel
theorem dX5_unlock_17 : decode cX5_unlock 17 = .ok (.imul, 1) := by decide +kernel
theorem dX5_unlock_18 : decode cX5_unlock 18 = .ok (.iload_n 3, 1) := by decide +kernel
theorem dX5_unlock_19 : decode cX5_unlock 19 = .ok (.iadd, 1) := by decide +kernel
theorem dX5_unlock_20 : decode cX5_unlock 20 = .ok (.iaload, 1) := by decide +kernel
theorem dX5_unlock_21 : decode cX5_unlock 21 = .ok (.iload_n 1, 1) := by decide +kernel
theorem dX5_unlock_22 : decode cX5_unlock 22 = .ok (.if_icmp .ne 16, 3) := by decide +kernel
theorem dX5_unlock_25 : decode cX5_unlock 25 = .ok (.aload_n 0, 1) := by decide +kernel
theorem dX5_unlock_26 : decode cX5_unlock 26 = .ok (.getfield 70, 3) := by decide +kernel
theorem dX5_unlock_29 : decode cX5_unlock 29 = .ok (.bipush 12, 2) := by decide +kernel
theorem dX5_unlock_31 : decode cX5_unlock 31 = .ok (.iload_n 2, 1) := by decide +kernel
theorem dX5_unlock_32 : decode cX5_unlock 32 = .ok (.imul, 1) := by decide +kernel
theorem dX5_unlock_33 : decode cX5_unlock 33 = .ok (.iload_n 3, 1) := by decide +kernel
theorem dX5_unlock_34 : decode cX5_unlock 34 = .ok (.iadd, 1) := by decide +kernel
theorem dX5_unlock_35 : decode cX5_unlock 35 = .ok (.bipush (-4), 2) := by decide +kernel
theorem dX5_unlock_37 : decode cX5_unlock 37 = .ok (.iastore, 1) := by decide +kernel
theorem dX5_unlock_38 : decode cX5_unlock 38 = .ok (.iinc 3 1, 3) := by decide +kernel
theorem dX5_unlock_41 : decode cX5_unlock 41 = .ok (.goto (-39), 3) := by decide +kernel
theorem dX5_unlock_44 : decode cX5_unlock 44 = .ok (.return_, 1) := by decide +kernel
theorem dX5_writesAt_0 : decode cX5_writesAt 0 = .ok (.iconst 0, 1) := by decide +kernel
theorem dX5_writesAt_1 : decode cX5_writesAt 1 = .ok (.istore_n 3, 1) := by decide +kernel
theorem dX5_writesAt_2 : decode cX5_writesAt 2 = .ok (.iconst 0, 1) := by decide +kernel
theorem dX5_writesAt_3 : decode cX5_writesAt 3 = .ok (.istore 4, 2) := by decide +kernel
theorem dX5_writesAt_5 : decode cX5_writesAt 5 = .ok (.iload 4, 2) := by decide +kernel
theorem dX5_writesAt_7 : decode cX5_writesAt 7 = .ok (.aload_n 0, 1) := by decide +kernel
theorem dX5_writesAt_8 : decode cX5_writesAt 8 = .ok (.getfield 89, 3) := by decide +kernel
theorem dX5_writesAt_11 : decode cX5_writesAt 11 = .ok (.if_icmp .ge 45, 3) := by decide +kernel
theorem dX5_writesAt_14 : decode cX5_writesAt 14 = .ok (.iload_n 3, 1) := by decide +kernel
theorem dX5_writesAt_15 : decode cX5_writesAt 15 = .ok (.ifCond .ne 29, 3) := by decide +kernel
theorem dX5_writesAt_18 : decode cX5_writesAt 18 = .ok (.aload_n 0, 1) := by decide +kernel
theorem dX5_writesAt_19 : decode cX5_writesAt 19 = .ok (.getfield 48, 3) := by decide +kernel
theorem dX5_writesAt_22 : decode cX5_writesAt 22 = .ok (.bipush 12, 2) := by decide +kernel
theorem dX5_writesAt_24 : decode cX5_writesAt 24 = .ok (.iload_n 1, 1) := by decide +kernel
theorem dX5_writesAt_25 : decode cX5_writesAt 25 = .ok (.imul, 1) := by decide +kernel
theorem dX5_writesAt_26 : decode cX5_writesAt 26 = .ok (.iload 4, 2) := by decide +kernel
theorem dX5_writesAt_28 : decode cX5_writesAt 28 = .ok (.iadd, 1) := by decide +kernel
theorem dX5_writesAt_29 : decode cX5_writesAt 29 = .ok (.baload, 1) := by decide +kernel
theorem dX5_writesAt_30 : decode cX5_writesAt 30 = .ok (.ifCond .eq 18, 3) := by decide +kernel
theorem dX5_writesAt_33 : decode cX5_writesAt 33 = .ok (.aload_n 0, 1) := by decide +kernel
theorem dX5_writesAt_34 : decode cX5_writesAt 34 = .ok (.getfield 16, 3) := by decide +kernel
theorem dX5_writesAt_37 : decode cX5_writesAt 37 = .ok (.iload 4, 2) := by decide +kernel
theorem dX5_writesAt_39 : decode cX5_writesAt 39 = .ok (.iaload, 1) := by decide +kernel
theorem dX5_writesAt_40 : decode cX5_writesAt 40 = .ok (.iload_n 2, 1) := by decide +kernel
theorem dX5_writesAt_41 : decode cX5_writesAt 41 = .ok (.if_icmp .ne 7, 3) := by decide +kernel
theorem dX5_writesAt_44 : decode cX5_writesAt 44 = .ok (.iconst 1, 1) := by decide +kernel
theorem dX5_writesAt_45 : decode cX5_writesAt 45 = .ok (.goto 4, 3) := by decide +kernel
theorem dX5_writesAt_48 : decode cX5_writesAt 48 = .ok (.iconst 0, 1) := by decide +kernel
theorem dX5_writesAt_49 : decode cX5_writesAt 49 = .ok (.istore_n 3, 1) := by decide +kernel
theorem dX5_writesAt_50 : decode cX5_writesAt 50 = .ok (.iinc 4 1, 3) := by decide +kernel
theorem dX5_writesAt_53 : decode cX5_writesAt 53 = .ok (.goto (-48), 3) := by decide +kernel
theorem dX5_writesAt_56 : decode cX5_writesAt 56 = .ok (.iload_n 3, 1) := by decide +kernel
theorem dX5_writesAt_57 : decode cX5_writesAt 57 = .ok (.ireturn, 1) := by decide +kernel
theorem dX5_comes_0 : decode cX5_comes 0 = .ok (.aload_n 0, 1) := by decide +kernel
theorem dX5_comes_1 : decode cX5_comes 1 = .ok (.getfield 61, 3) := by decide +kernel
theorem dX5_comes_4 : decode cX5_comes 4 = .ok (.iconst 4, 1) := by decide +kernel
theorem dX5_comes_5 : decode cX5_comes 5 = .ok (.iload_n 1, 1) := by decide +kernel
theorem dX5_comes_6 : decode cX5_comes 6 = .ok (.imul, 1) := by decide +kernel
theorem dX5_comes_7 : decode cX5_comes 7 = .ok (.aload_n 0, 1) := by decide +kernel
theorem dX5_comes_8 : decode cX5_comes 8 = .ok (.getfield 24, 3) := by decide +kernel
theorem dX5_comes_11 : decode cX5_comes 11 = .ok (.iload_n 2, 1) := by decide +kernel
theorem dX5_comes_12 : decode cX5_comes 12 = .ok (.iaload, 1) := by decide +kernel
theorem dX5_comes_13 : decode cX5_comes 13 = .ok (.iadd, 1) := by decide +kernel
theorem dX5_comes_14 : decode cX5_comes 14 = .ok (.dup2, 1) := by decide +kernel
theorem dX5_comes_15 : decode cX5_comes 15 = .ok (.iaload, 1) := by decide +kernel
theorem dX5_comes_16 : decode cX5_comes 16 = .ok (.iconst 1, 1) := by decide +kernel
theorem dX5_comes_17 : decode cX5_comes 17 = .ok (.iadd, 1) := by decide +kernel
theorem dX5_comes_18 : decode cX5_comes 18 = .ok (.iastore, 1) := by decide +kernel
theorem dX5_comes_19 : decode cX5_comes 19 = .ok (.aload_n 0, 1) := by decide +kernel
theorem dX5_comes_20 : decode cX5_comes 20 = .ok (.getfield 64, 3) := by decide +kernel
theorem dX5_comes_23 : decode cX5_comes 23 = .ok (.sipush 150, 3) := by decide +kernel
theorem dX5_comes_26 : decode cX5_comes 26 = .ok (.iload_n 1, 1) := by decide +kernel
theorem dX5_comes_27 : decode cX5_comes 27 = .ok (.imul, 1) := by decide +kernel
theorem dX5_comes_28 : decode cX5_comes 28 = .ok (.aload_n 0, 1) := by decide +kernel
theorem dX5_comes_29 : decode cX5_comes 29 = .ok (.getfield 67, 3) := by decide +kernel
theorem dX5_comes_32 : decode cX5_comes 32 = .ok (.iload_n 1, 1) := by decide +kernel
theorem dX5_comes_33 : decode cX5_comes 33 = .ok (.iaload, 1) := by decide +kernel
theorem dX5_comes_34 : decode cX5_comes 34 = .ok (.iadd, 1) := by decide +kernel
theorem dX5_comes_35 : decode cX5_comes 35 = .ok (.iload_n 2, 1) := by decide +kernel
theorem dX5_comes_36 : decode cX5_comes 36 = .ok (.iastore, 1) := by decide +kernel
theorem dX5_comes_37 : decode cX5_comes 37 = .ok (.aload_n 0, 1) := by decide +kernel
theorem dX5_comes_38 : decode cX5_comes 38 = .ok (.getfield 67, 3) := by decide +kernel
theorem dX5_comes_41 : decode cX5_comes 41 = .ok (.iload_n 1, 1) := by decide +kernel
theorem dX5_comes_42 : decode cX5_comes 42 = .ok (.dup2, 1) := by decide +kernel
theorem dX5_comes_43 : decode cX5_comes 43 = .ok (.iaload, 1) := by decide +kernel
theorem dX5_comes_44 : decode cX5_comes 44 = .ok (.iconst 1, 1) := by decide +kernel
theorem dX5_comes_45 : decode cX5_comes 45 = .ok (.iadd, 1) := by decide +kernel
theorem dX5_comes_46 : decode cX5_comes 46 = .ok (.iastore, 1) := by decide +kernel
theorem dX5_comes_47 : decode cX5_comes 47 = .ok (.aload_n 0, 1) := by decide +kernel
theorem dX5_comes_48 : decode cX5_comes 48 = .ok (.iload_n 2, 1) := by decide +kernel
theorem dX5_comes_49 : decode cX5_comes 49 = .ok (.iload_n 1, 1) := by decide +kernel
theorem dX5_comes_50 : decode cX5_comes 50 = .ok (.invokevirtual 129, 3) := by decide +kernel
theorem dX5_comes_53 : decode cX5_comes 53 = .ok (.iload_n 3, 1) := by decide +kernel
theorem dX5_comes_54 : decode cX5_comes 54 = .ok (.ifCond .ne 16, 3) := by decide +kernel
theorem dX5_comes_57 : decode cX5_comes 57 = .ok (.aload_n 0, 1) := by decide +kernel
theorem dX5_comes_58 : decode cX5_comes 58 = .ok (.iconst 5, 1) := by decide +kernel
theorem dX5_comes_59 : decode cX5_comes 59 = .ok (.aload_n 0, 1) := by decide +kernel
theorem dX5_comes_60 : decode cX5_comes 60 = .ok (.getfield 24, 3) := by decide +kernel
theorem dX5_comes_63 : decode cX5_comes 63 = .ok (.iload_n 2, 1) := by decide +kernel
theorem dX5_comes_64 : decode cX5_comes 64 = .ok (.iaload, 1) := by decide +kernel
theorem dX5_comes_65 : decode cX5_comes 65 = .ok (.iload_n 1, 1) := by decide +kernel
theorem dX5_comes_66 : decode cX5_comes 66 = .ok (.iload_n 2, 1) := by decide +kernel
theorem dX5_comes_67 : decode cX5_comes 67 = .ok (.invokevirtual 133, 3) := by decide +kernel
theorem dX5_comes_70 : decode cX5_comes 70 = .ok (.return_, 1) := by decide +kernel
theorem dX5_becomes_0 : decode cX5_becomes 0 = .ok (.aload_n 0, 1) := by decide +kernel
theorem dX5_becomes_1 : decode cX5_becomes 1 = .ok (.getfield 24, 3) := by decide +kernel
theorem dX5_becomes_4 : decode cX5_becomes 4 = .ok (.iload_n 1, 1) := by decide +kernel
theorem dX5_becomes_5 : decode cX5_becomes 5 = .ok (.iaload, 1) := by decide +kernel
theorem dX5_becomes_6 : decode cX5_becomes 6 = .ok (.istore_n 2, 1) := by decide +kernel
theorem dX5_becomes_7 : decode cX5_becomes 7 = .ok (.aload_n 0, 1) := by decide +kernel
theorem dX5_becomes_8 : decode cX5_becomes 8 = .ok (.getfield 27, 3) := by decide +kernel
theorem dX5_becomes_11 : decode cX5_becomes 11 = .ok (.iload_n 1, 1) := by decide +kernel
theorem dX5_becomes_12 : decode cX5_becomes 12 = .ok (.iconst 2, 1) := by decide +kernel
theorem dX5_becomes_13 : decode cX5_becomes 13 = .ok (.iastore, 1) := by decide +kernel
theorem dX5_becomes_14 : decode cX5_becomes 14 = .ok (.aload_n 0, 1) := by decide +kernel
theorem dX5_becomes_15 : decode cX5_becomes 15 = .ok (.getfield 33, 3) := by decide +kernel
theorem dX5_becomes_18 : decode cX5_becomes 18 = .ok (.iload_n 1, 1) := by decide +kernel
theorem dX5_becomes_19 : decode cX5_becomes 19 = .ok (.aload_n 0, 1) := by decide +kernel
theorem dX5_becomes_20 : decode cX5_becomes 20 = .ok (.getfield 61, 3) := by decide +kernel
theorem dX5_becomes_23 : decode cX5_becomes 23 = .ok (.iconst 4, 1) := by decide +kernel
theorem dX5_becomes_24 : decode cX5_becomes 24 = .ok (.iload_n 2, 1) := by decide +kernel
theorem dX5_becomes_25 : decode cX5_becomes 25 = .ok (.imul, 1) := by decide +kernel
theorem dX5_becomes_26 : decode cX5_becomes 26 = .ok (.iload_n 2, 1) := by decide +kernel
theorem dX5_becomes_27 : decode cX5_becomes 27 = .ok (.iadd, 1) := by decide +kernel
theorem dX5_becomes_28 : decode cX5_becomes 28 = .ok (.iaload, 1) := by decide +kernel
theorem dX5_becomes_29 : decode cX5_becomes 29 = .ok (.iconst 1, 1) := by decide +kernel
theorem dX5_becomes_30 : decode cX5_becomes 30 = .ok (.iadd, 1) := by decide +kernel
theorem dX5_becomes_31 : decode cX5_becomes 31 = .ok (.iastore, 1) := by decide +kernel
theorem dX5_becomes_32 : decode cX5_becomes 32 = .ok (.aload_n 0, 1) := by decide +kernel
theorem dX5_becomes_33 : decode cX5_becomes 33 = .ok (.iload_n 2, 1) := by decide +kernel
theorem dX5_becomes_34 : decode cX5_becomes 34 = .ok (.iload_n 1, 1) := by decide +kernel
theorem dX5_becomes_35 : decode cX5_becomes 35 = .ok (.iconst 1, 1) := by decide +kernel
theorem dX5_becomes_36 : decode cX5_becomes 36 = .ok (.invokevirtual 137, 3) := by decide +kernel
theorem dX5_becomes_39 : decode cX5_becomes 39 = .ok (.iconst 0, 1) := by decide +kernel
theorem dX5_becomes_40 : decode cX5_becomes 40 = .ok (.istore_n 3, 1) := by decide +kernel
theorem dX5_becomes_41 : decode cX5_becomes 41 = .ok (.iload_n 3, 1) := by decide +kernel
theorem dX5_becomes_42 : decode cX5_becomes 42 = .ok (.aload_n 0, 1) := by decide +kernel
theorem dX5_becomes_43 : decode cX5_becomes 43 = .ok (.getfield 7, 3) := by decide +kernel
theorem dX5_becomes_46 : decode cX5_becomes 46 = .ok (.if_icmp .ge 22, 3) := by decide +kernel
theorem dX5_becomes_49 : decode cX5_becomes 49 = .ok (.iload_n 3, 1) := by decide +kernel
theorem dX5_becomes_50 : decode cX5_becomes 50 = .ok (.iload_n 2, 1) := by decide +kernel
theorem dX5_becomes_51 : decode cX5_becomes 51 = .ok (.if_icmp .eq 11, 3) := by decide +kernel
theorem dX5_becomes_54 : decode cX5_becomes 54 = .ok (.aload_n 0, 1) := by decide +kernel
theorem dX5_becomes_55 : decode cX5_becomes 55 = .ok (.iconst 4, 1) := by decide +kernel
theorem dX5_becomes_56 : decode cX5_becomes 56 = .ok (.iload_n 3, 1) := by decide +kernel
theorem dX5_becomes_57 : decode cX5_becomes 57 = .ok (.iload_n 2, 1) := by decide +kernel
theorem dX5_becomes_58 : decode cX5_becomes 58 = .ok (.iload_n 1, 1) := by decide +kernel
theorem dX5_becomes_59 : decode cX5_becomes 59 = .ok (.invokevirtual 133, 3) := by decide +kernel
theorem dX5_becomes_62 : decode cX5_becomes 62 = .ok (.iinc 3 1, 3) := by decide +kernel
theorem dX5_becomes_65 : decode cX5_becomes 65 = .ok (.goto (-24), 3) := by decide +kernel
theorem dX5_becomes_68 : decode cX5_becomes 68 = .ok (.return_, 1) := by decide +kernel
theorem dX5_commit_0 : decode cX5_commit 0 = .ok (.aload_n 0, 1) := by decide +kernel
theorem dX5_commit_1 : decode cX5_commit 1 = .ok (.iload_n 1, 1) := by decide +kernel
theorem dX5_commit_2 : decode cX5_commit 2 = .ok (.invokevirtual 103, 3) := by decide +kernel
theorem dX5_commit_5 : decode cX5_commit 5 = .ok (.ifCond .ne 5, 3) := by decide +kernel
theorem dX5_commit_8 : decode cX5_commit 8 = .ok (.iconst (-1), 1) := by decide +kernel
theorem dX5_commit_9 : decode cX5_commit 9 = .ok (.ireturn, 1) := by decide +kernel
theorem dX5_commit_10 : decode cX5_commit 10 = .ok (.aload_n 0, 1) := by decide +kernel
theorem dX5_commit_11 : decode cX5_commit 11 = .ok (.getfield 27, 3) := by decide +kernel
theorem dX5_commit_14 : decode cX5_commit 14 = .ok (.iload_n 1, 1) := by decide +kernel
theorem dX5_commit_15 : decode cX5_commit 15 = .ok (.iaload, 1) := by decide +kernel
theorem dX5_commit_16 : decode cX5_commit 16 = .ok (.ifCond .eq 6, 3) := by decide +kernel
theorem dX5_commit_19 : decode cX5_commit 19 = .ok (.bipush (-2), 2) := by decide +kernel
theorem dX5_commit_21 : decode cX5_commit 21 = .ok (.ireturn, 1) := by decide +kernel
theorem dX5_commit_22 : decode cX5_commit 22 = .ok (.aload_n 0, 1) := by decide +kernel
theorem dX5_commit_23 : decode cX5_commit 23 = .ok (.getfield 24, 3) := by decide +kernel
theorem dX5_commit_26 : decode cX5_commit 26 = .ok (.iload_n 1, 1) := by decide +kernel
theorem dX5_commit_27 : decode cX5_commit 27 = .ok (.iaload, 1) := by decide +kernel
theorem dX5_commit_28 : decode cX5_commit 28 = .ok (.istore_n 2, 1) := by decide +kernel
theorem dX5_commit_29 : decode cX5_commit 29 = .ok (.aload_n 0, 1) := by decide +kernel
theorem dX5_commit_30 : decode cX5_commit 30 = .ok (.iload_n 1, 1) := by decide +kernel
theorem dX5_commit_31 : decode cX5_commit 31 = .ok (.invokevirtual 118, 3) := by decide +kernel
theorem dX5_commit_34 : decode cX5_commit 34 = .ok (.ifCond .le 7, 3) := by decide +kernel
theorem dX5_commit_37 : decode cX5_commit 37 = .ok (.iconst 1, 1) := by decide +kernel
theorem dX5_commit_38 : decode cX5_commit 38 = .ok (.goto 4, 3) := by decide +kernel
theorem dX5_commit_41 : decode cX5_commit 41 = .ok (.iconst 0, 1) := by decide +kernel
theorem dX5_commit_42 : decode cX5_commit 42 = .ok (.istore_n 3, 1) := by decide +kernel
theorem dX5_commit_43 : decode cX5_commit 43 = .ok (.iconst 0, 1) := by decide +kernel
theorem dX5_commit_44 : decode cX5_commit 44 = .ok (.istore 4, 2) := by decide +kernel
theorem dX5_commit_46 : decode cX5_commit 46 = .ok (.iconst 0, 1) := by decide +kernel
theorem dX5_commit_47 : decode cX5_commit 47 = .ok (.istore 5, 2) := by decide +kernel
theorem dX5_commit_49 : decode cX5_commit 49 = .ok (.iload 5, 2) := by decide +kernel
theorem dX5_commit_51 : decode cX5_commit 51 = .ok (.aload_n 0, 1) := by decide +kernel
theorem dX5_commit_52 : decode cX5_commit 52 = .ok (.getfield 89, 3) := by decide +kernel
theorem dX5_commit_55 : decode cX5_commit 55 = .ok (.if_icmp .ge 72, 3) := by decide +kernel
theorem dX5_commit_58 : decode cX5_commit 58 = .ok (.iload_n 3, 1) := by decide +kernel
theorem dX5_commit_59 : decode cX5_commit 59 = .ok (.ifCond .ne 18, 3) := by decide +kernel
theorem dX5_commit_62 : decode cX5_commit 62 = .ok (.aload_n 0, 1) := by decide +kernel
theorem dX5_commit_63 : decode cX5_commit 63 = .ok (.getfield 55, 3) := by decide +kernel
theorem dX5_commit_66 : decode cX5_commit 66 = .ok (.bipush 12, 2) := by decide +kernel
theorem dX5_commit_68 : decode cX5_commit 68 = .ok (.iload_n 1, 1) := by decide +kernel
theorem dX5_commit_69 : decode cX5_commit 69 = .ok (.imul, 1) := by decide +kernel
theorem dX5_commit_70 : decode cX5_commit 70 = .ok (.iload 5, 2) := by decide +kernel
theorem dX5_commit_72 : decode cX5_commit 72 = .ok (.iadd, 1) := by decide +kernel
theorem dX5_commit_73 : decode cX5_commit 73 = .ok (.baload, 1) := by decide +kernel
theorem dX5_commit_74 : decode cX5_commit 74 = .ok (.ifCond .eq 7, 3) := by decide +kernel
theorem dX5_commit_77 : decode cX5_commit 77 = .ok (.iconst 1, 1) := by decide +kernel
theorem dX5_commit_78 : decode cX5_commit 78 = .ok (.goto 4, 3) := by decide +kernel
theorem dX5_commit_81 : decode cX5_commit 81 = .ok (.iconst 0, 1) := by decide +kernel
theorem dX5_commit_82 : decode cX5_commit 82 = .ok (.istore_n 3, 1) := by decide +kernel
theorem dX5_commit_83 : decode cX5_commit 83 = .ok (.iload 4, 2) := by decide +kernel
theorem dX5_commit_85 : decode cX5_commit 85 = .ok (.ifCond .ne 29, 3) := by decide +kernel
theorem dX5_commit_88 : decode cX5_commit 88 = .ok (.aload_n 0, 1) := by decide +kernel
theorem dX5_commit_89 : decode cX5_commit 89 = .ok (.getfield 48, 3) := by decide +kernel
theorem dX5_commit_92 : decode cX5_commit 92 = .ok (.bipush 12, 2) := by decide +kernel
theorem dX5_commit_94 : decode cX5_commit 94 = .ok (.iload_n 1, 1) := by decide +kernel
theorem dX5_commit_95 : decode cX5_commit 95 = .ok (.imul, 1) := by decide +kernel
theorem dX5_commit_96 : decode cX5_commit 96 = .ok (.iload 5, 2) := by decide +kernel
theorem dX5_commit_98 : decode cX5_commit 98 = .ok (.iadd, 1) := by decide +kernel
theorem dX5_commit_99 : decode cX5_commit 99 = .ok (.baload, 1) := by decide +kernel
theorem dX5_commit_100 : decode cX5_commit 100 = .ok (.ifCond .eq 18, 3) := by decide +kernel
theorem dX5_commit_103 : decode cX5_commit 103 = .ok (.aload_n 0, 1) := by decide +kernel
theorem dX5_commit_104 : decode cX5_commit 104 = .ok (.getfield 16, 3) := by decide +kernel
theorem dX5_commit_107 : decode cX5_commit 107 = .ok (.iload 5, 2) := by decide +kernel
theorem dX5_commit_109 : decode cX5_commit 109 = .ok (.iaload, 1) := by decide +kernel
theorem dX5_commit_110 : decode cX5_commit 110 = .ok (.iload_n 2, 1) := by decide +kernel
theorem dX5_commit_111 : decode cX5_commit 111 = .ok (.if_icmp .eq 7, 3) := by decide +kernel
theorem dX5_commit_114 : decode cX5_commit 114 = .ok (.iconst 1, 1) := by decide +kernel
theorem dX5_commit_115 : decode cX5_commit 115 = .ok (.goto 4, 3) := by decide +kernel
theorem dX5_commit_118 : decode cX5_commit 118 = .ok (.iconst 0, 1) := by decide +kernel
theorem dX5_commit_119 : decode cX5_commit 119 = .ok (.istore 4, 2) := by decide +kernel
theorem dX5_commit_121 : decode cX5_commit 121 = .ok (.iinc 5 1, 3) := by decide +kernel
theorem dX5_commit_124 : decode cX5_commit 124 = .ok (.goto (-75), 3) := by decide +kernel
theorem dX5_commit_127 : decode cX5_commit 127 = .ok (.iload_n 3, 1) := by decide +kernel
theorem dX5_commit_128 : decode cX5_commit 128 = .ok (.ifCond .ne 13, 3) := by decide +kernel
theorem dX5_commit_131 : decode cX5_commit 131 = .ok (.aload_n 0, 1) := by decide +kernel
theorem dX5_commit_132 : decode cX5_commit 132 = .ok (.getfield 27, 3) := by decide +kernel
theorem dX5_commit_135 : decode cX5_commit 135 = .ok (.iload_n 1, 1) := by decide +kernel
theorem dX5_commit_136 : decode cX5_commit 136 = .ok (.iconst 2, 1) := by decide +kernel
theorem dX5_commit_137 : decode cX5_commit 137 = .ok (.iastore, 1) := by decide +kernel
theorem dX5_commit_138 : decode cX5_commit 138 = .ok (.goto 101, 3) := by decide +kernel
theorem dX5_commit_141 : decode cX5_commit 141 = .ok (.aload_n 0, 1) := by decide +kernel
theorem dX5_commit_142 : decode cX5_commit 142 = .ok (.iload_n 1, 1) := by decide +kernel
theorem dX5_commit_143 : decode cX5_commit 143 = .ok (.iload_n 2, 1) := by decide +kernel
theorem dX5_commit_144 : decode cX5_commit 144 = .ok (.invokevirtual 141, 3) := by decide +kernel
theorem dX5_commit_147 : decode cX5_commit 147 = .ok (.ifCond .ne 13, 3) := by decide +kernel
theorem dX5_commit_150 : decode cX5_commit 150 = .ok (.aload_n 0, 1) := by decide +kernel
theorem dX5_commit_151 : decode cX5_commit 151 = .ok (.getfield 27, 3) := by decide +kernel
theorem dX5_commit_154 : decode cX5_commit 154 = .ok (.iload_n 1, 1) := by decide +kernel
theorem dX5_commit_155 : decode cX5_commit 155 = .ok (.iconst 3, 1) := by decide +kernel
theorem dX5_commit_156 : decode cX5_commit 156 = .ok (.iastore, 1) := by decide +kernel
theorem dX5_commit_157 : decode cX5_commit 157 = .ok (.goto 82, 3) := by decide +kernel
theorem dX5_commit_160 : decode cX5_commit 160 = .ok (.iload 4, 2) := by decide +kernel
theorem dX5_commit_162 : decode cX5_commit 162 = .ok (.ifCond .ne 11, 3) := by decide +kernel
theorem dX5_commit_165 : decode cX5_commit 165 = .ok (.aload_n 0, 1) := by decide +kernel
theorem dX5_commit_166 : decode cX5_commit 166 = .ok (.iload_n 1, 1) := by decide +kernel
theorem dX5_commit_167 : decode cX5_commit 167 = .ok (.invokevirtual 144, 3) := by decide +kernel
theorem dX5_commit_170 : decode cX5_commit 170 = .ok (.goto 69, 3) := by decide +kernel
theorem dX5_commit_173 : decode cX5_commit 173 = .ok (.aload_n 0, 1) := by decide +kernel
theorem dX5_commit_174 : decode cX5_commit 174 = .ok (.iload_n 1, 1) := by decide +kernel
theorem dX5_commit_175 : decode cX5_commit 175 = .ok (.iload_n 2, 1) := by decide +kernel
theorem dX5_commit_176 : decode cX5_commit 176 = .ok (.invokevirtual 148, 3) := by decide +kernel
theorem dX5_commit_179 : decode cX5_commit 179 = .ok (.aload_n 0, 1) := by decide +kernel
theorem dX5_commit_180 : decode cX5_commit 180 = .ok (.getfield 27, 3) := by decide +kernel
theorem dX5_commit_183 : decode cX5_commit 183 = .ok (.iload_n 1, 1) := by decide +kernel
theorem dX5_commit_184 : decode cX5_commit 184 = .ok (.iconst 1, 1) := by decide +kernel
theorem dX5_commit_185 : decode cX5_commit 185 = .ok (.iastore, 1) := by decide +kernel
theorem dX5_commit_186 : decode cX5_commit 186 = .ok (.iconst 0, 1) := by decide +kernel
theorem dX5_commit_187 : decode cX5_commit 187 = .ok (.istore 5, 2) := by decide +kernel
theorem dX5_commit_189 : decode cX5_commit 189 = .ok (.iload 5, 2) := by decide +kernel
theorem dX5_commit_191 : decode cX5_commit 191 = .ok (.aload_n 0, 1) := by decide +kernel
theorem dX5_commit_192 : decode cX5_commit 192 = .ok (.getfield 7, 3) := by decide +kernel
theorem dX5_commit_195 : decode cX5_commit 195 = .ok (.if_icmp .ge 44, 3) := by decide +kernel
theorem dX5_commit_198 : decode cX5_commit 198 = .ok (.iload 5, 2) := by decide +kernel
theorem dX5_commit_200 : decode cX5_commit 200 = .ok (.iload_n 2, 1) := by decide +kernel
theorem dX5_commit_201 : decode cX5_commit 201 = .ok (.if_icmp .eq 32, 3) := by decide +kernel
theorem dX5_commit_204 : decode cX5_commit 204 = .ok (.aload_n 0, 1) := by decide +kernel
theorem dX5_commit_205 : decode cX5_commit 205 = .ok (.iload_n 1, 1) := by decide +kernel
theorem dX5_commit_206 : decode cX5_commit 206 = .ok (.iload 5, 2) := by decide +kernel
theorem dX5_commit_208 : decode cX5_commit 208 = .ok (.invokevirtual 151, 3) := by decide +kernel
theorem dX5_commit_211 : decode cX5_commit 211 = .ok (.ifCond .eq 22, 3) := by decide +kernel
theorem dX5_commit_214 : decode cX5_commit 214 = .ok (.aload_n 0, 1) := by decide +kernel
theorem dX5_commit_215 : decode cX5_commit 215 = .ok (.iconst 0, 1) := by decide +kernel
theorem dX5_commit_216 : decode cX5_commit 216 = .ok (.iload 5, 2) := by decide +kernel
theorem dX5_commit_218 : decode cX5_commit 218 = .ok (.iload_n 2, 1) := by decide +kernel
theorem dX5_commit_219 : decode cX5_commit 219 = .ok (.iload_n 1, 1) := by decide +kernel
theorem dX5_commit_220 : decode cX5_commit 220 = .ok (.invokevirtual 133, 3) := by decide +kernel
theorem dX5_commit_223 : decode cX5_commit 223 = .ok (.aload_n 0, 1) := by decide +kernel
theorem dX5_commit_224 : decode cX5_commit 224 = .ok (.getfield 42, 3) := by decide +kernel
theorem dX5_commit_227 : decode cX5_commit 227 = .ok (.iload_n 1, 1) := by decide +kernel
theorem dX5_commit_228 : decode cX5_commit 228 = .ok (.dup2, 1) := by decide +kernel
theorem dX5_commit_229 : decode cX5_commit 229 = .ok (.iaload, 1) := by decide +kernel
theorem dX5_commit_230 : decode cX5_commit 230 = .ok (.iconst 1, 1) := by decide +kernel
theorem dX5_commit_231 : decode cX5_commit 231 = .ok (.iadd, 1) := by decide +kernel
theorem dX5_commit_232 : decode cX5_commit 232 = .ok (.iastore, 1) := by decide +kernel
theorem dX5_commit_233 : decode cX5_commit 233 = .ok (.iinc 5 1, 3) := by decide +kernel
theorem dX5_commit_236 : decode cX5_commit 236 = .ok (.goto (-47), 3) := by decide +kernel
theorem dX5_commit_239 : decode cX5_commit 239 = .ok (.aload_n 0, 1) := by decide +kernel
theorem dX5_commit_240 : decode cX5_commit 240 = .ok (.getfield 27, 3) := by decide +kernel
theorem dX5_commit_243 : decode cX5_commit 243 = .ok (.iload_n 1, 1) := by decide +kernel
theorem dX5_commit_244 : decode cX5_commit 244 = .ok (.iaload, 1) := by decide +kernel
theorem dX5_commit_245 : decode cX5_commit 245 = .ok (.ireturn, 1) := by decide +kernel
theorem dX5_abort_0 : decode cX5_abort 0 = .ok (.aload_n 0, 1) := by decide +kernel
theorem dX5_abort_1 : decode cX5_abort 1 = .ok (.iload_n 1, 1) := by decide +kernel
theorem dX5_abort_2 : decode cX5_abort 2 = .ok (.invokevirtual 103, 3) := by decide +kernel
theorem dX5_abort_5 : decode cX5_abort 5 = .ok (.ifCond .ne 5, 3) := by decide +kernel
theorem dX5_abort_8 : decode cX5_abort 8 = .ok (.iconst (-1), 1) := by decide +kernel
theorem dX5_abort_9 : decode cX5_abort 9 = .ok (.ireturn, 1) := by decide +kernel
theorem dX5_abort_10 : decode cX5_abort 10 = .ok (.aload_n 0, 1) := by decide +kernel
theorem dX5_abort_11 : decode cX5_abort 11 = .ok (.getfield 27, 3) := by decide +kernel
theorem dX5_abort_14 : decode cX5_abort 14 = .ok (.iload_n 1, 1) := by decide +kernel
theorem dX5_abort_15 : decode cX5_abort 15 = .ok (.iaload, 1) := by decide +kernel
theorem dX5_abort_16 : decode cX5_abort 16 = .ok (.ifCond .eq 6, 3) := by decide +kernel
theorem dX5_abort_19 : decode cX5_abort 19 = .ok (.bipush (-2), 2) := by decide +kernel
theorem dX5_abort_21 : decode cX5_abort 21 = .ok (.ireturn, 1) := by decide +kernel
theorem dX5_abort_22 : decode cX5_abort 22 = .ok (.aload_n 0, 1) := by decide +kernel
theorem dX5_abort_23 : decode cX5_abort 23 = .ok (.getfield 27, 3) := by decide +kernel
theorem dX5_abort_26 : decode cX5_abort 26 = .ok (.iload_n 1, 1) := by decide +kernel
theorem dX5_abort_27 : decode cX5_abort 27 = .ok (.iconst 3, 1) := by decide +kernel
theorem dX5_abort_28 : decode cX5_abort 28 = .ok (.iastore, 1) := by decide +kernel
theorem dX5_abort_29 : decode cX5_abort 29 = .ok (.iconst 1, 1) := by decide +kernel
theorem dX5_abort_30 : decode cX5_abort 30 = .ok (.ireturn, 1) := by decide +kernel
theorem dX5_isMessage_0 : decode cX5_isMessage 0 = .ok (.iload_n 1, 1) := by decide +kernel
theorem dX5_isMessage_1 : decode cX5_isMessage 1 = .ok (.i2l, 1) := by decide +kernel
theorem dX5_isMessage_2 : decode cX5_isMessage 2 = .ok (.lconst 0, 1) := by decide +kernel
theorem dX5_isMessage_3 : decode cX5_isMessage 3 = .ok (.aload_n 0, 1) := by decide +kernel
theorem dX5_isMessage_4 : decode cX5_isMessage 4 = .ok (.getfield 122, 3) := by decide +kernel
theorem dX5_isMessage_7 : decode cX5_isMessage 7 = .ok (.iconst 1, 1) := by decide +kernel
theorem dX5_isMessage_8 : decode cX5_isMessage 8 = .ok (.isub, 1) := by decide +kernel
theorem dX5_isMessage_9 : decode cX5_isMessage 9 = .ok (.i2l, 1) := by decide +kernel
theorem dX5_isMessage_10 : decode cX5_isMessage 10 = .ok (.invokestatic 85, 3) := by decide +kernel
theorem dX5_isMessage_13 : decode cX5_isMessage 13 = .ok (.ireturn, 1) := by decide +kernel
theorem dX5_canCome_0 : decode cX5_canCome 0 = .ok (.aload_n 0, 1) := by decide +kernel
theorem dX5_canCome_1 : decode cX5_canCome 1 = .ok (.getfield 73, 3) := by decide +kernel
theorem dX5_canCome_4 : decode cX5_canCome 4 = .ok (.iload_n 1, 1) := by decide +kernel
theorem dX5_canCome_5 : decode cX5_canCome 5 = .ok (.iaload, 1) := by decide +kernel
theorem dX5_canCome_6 : decode cX5_canCome 6 = .ok (.iconst 4, 1) := by decide +kernel
theorem dX5_canCome_7 : decode cX5_canCome 7 = .ok (.if_icmp .eq 5, 3) := by decide +kernel
theorem dX5_canCome_10 : decode cX5_canCome 10 = .ok (.iconst 1, 1) := by decide +kernel
theorem dX5_canCome_11 : decode cX5_canCome 11 = .ok (.ireturn, 1) := by decide +kernel
theorem dX5_canCome_12 : decode cX5_canCome 12 = .ok (.aload_n 0, 1) := by decide +kernel
theorem dX5_canCome_13 : decode cX5_canCome 13 = .ok (.getfield 76, 3) := by decide +kernel
theorem dX5_canCome_16 : decode cX5_canCome 16 = .ok (.iload_n 1, 1) := by decide +kernel
theorem dX5_canCome_17 : decode cX5_canCome 17 = .ok (.iaload, 1) := by decide +kernel
theorem dX5_canCome_18 : decode cX5_canCome 18 = .ok (.istore_n 2, 1) := by decide +kernel
theorem dX5_canCome_19 : decode cX5_canCome 19 = .ok (.aload_n 0, 1) := by decide +kernel
theorem dX5_canCome_20 : decode cX5_canCome 20 = .ok (.getfield 82, 3) := by decide +kernel
theorem dX5_canCome_23 : decode cX5_canCome 23 = .ok (.iload_n 1, 1) := by decide +kernel
theorem dX5_canCome_24 : decode cX5_canCome 24 = .ok (.iaload, 1) := by decide +kernel
theorem dX5_canCome_25 : decode cX5_canCome 25 = .ok (.istore_n 3, 1) := by decide +kernel
theorem dX5_canCome_26 : decode cX5_canCome 26 = .ok (.aload_n 0, 1) := by decide +kernel
theorem dX5_canCome_27 : decode cX5_canCome 27 = .ok (.getfield 61, 3) := by decide +kernel
theorem dX5_canCome_30 : decode cX5_canCome 30 = .ok (.iconst 4, 1) := by decide +kernel
theorem dX5_canCome_31 : decode cX5_canCome 31 = .ok (.iload_n 2, 1) := by decide +kernel
theorem dX5_canCome_32 : decode cX5_canCome 32 = .ok (.imul, 1) := by decide +kernel
theorem dX5_canCome_33 : decode cX5_canCome 33 = .ok (.aload_n 0, 1) := by decide +kernel
theorem dX5_canCome_34 : decode cX5_canCome 34 = .ok (.getfield 24, 3) := by decide +kernel
theorem dX5_canCome_37 : decode cX5_canCome 37 = .ok (.iload_n 3, 1) := by decide +kernel
theorem dX5_canCome_38 : decode cX5_canCome 38 = .ok (.iaload, 1) := by decide +kernel
theorem dX5_canCome_39 : decode cX5_canCome 39 = .ok (.iadd, 1) := by decide +kernel
theorem dX5_canCome_40 : decode cX5_canCome 40 = .ok (.iaload, 1) := by decide +kernel
theorem dX5_canCome_41 : decode cX5_canCome 41 = .ok (.aload_n 0, 1) := by decide +kernel
theorem dX5_canCome_42 : decode cX5_canCome 42 = .ok (.getfield 33, 3) := by decide +kernel
theorem dX5_canCome_45 : decode cX5_canCome 45 = .ok (.iload_n 3, 1) := by decide +kernel
theorem dX5_canCome_46 : decode cX5_canCome 46 = .ok (.iaload, 1) := by decide +kernel
theorem dX5_canCome_47 : decode cX5_canCome 47 = .ok (.iconst 1, 1) := by decide +kernel
theorem dX5_canCome_48 : decode cX5_canCome 48 = .ok (.isub, 1) := by decide +kernel
theorem dX5_canCome_49 : decode cX5_canCome 49 = .ok (.if_icmp .ne 7, 3) := by decide +kernel
theorem dX5_canCome_52 : decode cX5_canCome 52 = .ok (.iconst 1, 1) := by decide +kernel
theorem dX5_canCome_53 : decode cX5_canCome 53 = .ok (.goto 4, 3) := by decide +kernel
theorem dX5_canCome_56 : decode cX5_canCome 56 = .ok (.iconst 0, 1) := by decide +kernel
theorem dX5_canCome_57 : decode cX5_canCome 57 = .ok (.istore 4, 2) := by decide +kernel
theorem dX5_canCome_59 : decode cX5_canCome 59 = .ok (.iconst 0, 1) := by decide +kernel
theorem dX5_canCome_60 : decode cX5_canCome 60 = .ok (.istore 5, 2) := by decide +kernel
theorem dX5_canCome_62 : decode cX5_canCome 62 = .ok (.iload 5, 2) := by decide +kernel
theorem dX5_canCome_64 : decode cX5_canCome 64 = .ok (.aload_n 0, 1) := by decide +kernel
theorem dX5_canCome_65 : decode cX5_canCome 65 = .ok (.getfield 7, 3) := by decide +kernel
theorem dX5_canCome_68 : decode cX5_canCome 68 = .ok (.if_icmp .ge 46, 3) := by decide +kernel
theorem dX5_canCome_71 : decode cX5_canCome 71 = .ok (.iload 4, 2) := by decide +kernel
theorem dX5_canCome_73 : decode cX5_canCome 73 = .ok (.ifCond .eq 32, 3) := by decide +kernel
theorem dX5_canCome_76 : decode cX5_canCome 76 = .ok (.aload_n 0, 1) := by decide +kernel
theorem dX5_canCome_77 : decode cX5_canCome 77 = .ok (.getfield 61, 3) := by decide +kernel
theorem dX5_canCome_80 : decode cX5_canCome 80 = .ok (.iconst 4, 1) := by decide +kernel
theorem dX5_canCome_81 : decode cX5_canCome 81 = .ok (.iload_n 2, 1) := by decide +kernel
theorem dX5_canCome_82 : decode cX5_canCome 82 = .ok (.imul, 1) := by decide +kernel
theorem dX5_canCome_83 : decode cX5_canCome 83 = .ok (.iload 5, 2) := by decide +kernel
theorem dX5_canCome_85 : decode cX5_canCome 85 = .ok (.iadd, 1) := by decide +kernel
theorem dX5_canCome_86 : decode cX5_canCome 86 = .ok (.iaload, 1) := by decide +kernel
theorem dX5_canCome_87 : decode cX5_canCome 87 = .ok (.aload_n 0, 1) := by decide +kernel
theorem dX5_canCome_88 : decode cX5_canCome 88 = .ok (.getfield 30, 3) := by decide +kernel
theorem dX5_canCome_91 : decode cX5_canCome 91 = .ok (.iconst 4, 1) := by decide +kernel
theorem dX5_canCome_92 : decode cX5_canCome 92 = .ok (.iload_n 3, 1) := by decide +kernel
theorem dX5_canCome_93 : decode cX5_canCome 93 = .ok (.imul, 1) := by decide +kernel
theorem dX5_canCome_94 : decode cX5_canCome 94 = .ok (.iload 5, 2) := by decide +kernel
theorem dX5_canCome_96 : decode cX5_canCome 96 = .ok (.iadd, 1) := by decide +kernel
theorem dX5_canCome_97 : decode cX5_canCome 97 = .ok (.iaload, 1) := by decide +kernel
theorem dX5_canCome_98 : decode cX5_canCome 98 = .ok (.if_icmp .lt 7, 3) := by decide +kernel
theorem dX5_canCome_101 : decode cX5_canCome 101 = .ok (.iconst 1, 1) := by decide +kernel
theorem dX5_canCome_102 : decode cX5_canCome 102 = .ok (.goto 4, 3) := by decide +kernel
theorem dX5_canCome_105 : decode cX5_canCome 105 = .ok (.iconst 0, 1) := by decide +kernel
theorem dX5_canCome_106 : decode cX5_canCome 106 = .ok (.istore 4, 2) := by decide +kernel
theorem dX5_canCome_108 : decode cX5_canCome 108 = .ok (.iinc 5 1, 3) := by decide +kernel
theorem dX5_canCome_111 : decode cX5_canCome 111 = .ok (.goto (-49), 3) := by decide +kernel
theorem dX5_canCome_114 : decode cX5_canCome 114 = .ok (.iload 4, 2) := by decide +kernel
theorem dX5_canCome_116 : decode cX5_canCome 116 = .ok (.ireturn, 1) := by decide +kernel
theorem dX5_comesNow_0 : decode cX5_comesNow 0 = .ok (.aload_n 0, 1) := by decide +kernel
theorem dX5_comesNow_1 : decode cX5_comesNow 1 = .ok (.getfield 73, 3) := by decide +kernel
theorem dX5_comesNow_4 : decode cX5_comesNow 4 = .ok (.iload_n 1, 1) := by decide +kernel
theorem dX5_comesNow_5 : decode cX5_comesNow 5 = .ok (.iaload, 1) := by decide +kernel
theorem dX5_comesNow_6 : decode cX5_comesNow 6 = .ok (.istore_n 2, 1) := by decide +kernel
theorem dX5_comesNow_7 : decode cX5_comesNow 7 = .ok (.aload_n 0, 1) := by decide +kernel
theorem dX5_comesNow_8 : decode cX5_comesNow 8 = .ok (.getfield 76, 3) := by decide +kernel
theorem dX5_comesNow_11 : decode cX5_comesNow 11 = .ok (.iload_n 1, 1) := by decide +kernel
theorem dX5_comesNow_12 : decode cX5_comesNow 12 = .ok (.iaload, 1) := by decide +kernel
theorem dX5_comesNow_13 : decode cX5_comesNow 13 = .ok (.istore_n 3, 1) := by decide +kernel
theorem dX5_comesNow_14 : decode cX5_comesNow 14 = .ok (.aload_n 0, 1) := by decide +kernel
theorem dX5_comesNow_15 : decode cX5_comesNow 15 = .ok (.getfield 79, 3) := by decide +kernel
theorem dX5_comesNow_18 : decode cX5_comesNow 18 = .ok (.iload_n 1, 1) := by decide +kernel
theorem dX5_comesNow_19 : decode cX5_comesNow 19 = .ok (.iaload, 1) := by decide +kernel
theorem dX5_comesNow_20 : decode cX5_comesNow 20 = .ok (.istore 4, 2) := by decide +kernel
theorem dX5_comesNow_22 : decode cX5_comesNow 22 = .ok (.aload_n 0, 1) := by decide +kernel
theorem dX5_comesNow_23 : decode cX5_comesNow 23 = .ok (.getfield 82, 3) := by decide +kernel
theorem dX5_comesNow_26 : decode cX5_comesNow 26 = .ok (.iload_n 1, 1) := by decide +kernel
theorem dX5_comesNow_27 : decode cX5_comesNow 27 = .ok (.iaload, 1) := by decide +kernel
theorem dX5_comesNow_28 : decode cX5_comesNow 28 = .ok (.istore 5, 2) := by decide +kernel
theorem dX5_comesNow_30 : decode cX5_comesNow 30 = .ok (.aload_n 0, 1) := by decide +kernel
theorem dX5_comesNow_31 : decode cX5_comesNow 31 = .ok (.dup, 1) := by decide +kernel
theorem dX5_comesNow_32 : decode cX5_comesNow 32 = .ok (.getfield 122, 3) := by decide +kernel
theorem dX5_comesNow_35 : decode cX5_comesNow 35 = .ok (.iconst 1, 1) := by decide +kernel
theorem dX5_comesNow_36 : decode cX5_comesNow 36 = .ok (.isub, 1) := by decide +kernel
theorem dX5_comesNow_37 : decode cX5_comesNow 37 = .ok (.putfield 122, 3) := by decide +kernel
theorem dX5_comesNow_40 : decode cX5_comesNow 40 = .ok (.iload_n 1, 1) := by decide +kernel
theorem dX5_comesNow_41 : decode cX5_comesNow 41 = .ok (.istore 6, 2) := by decide +kernel
theorem dX5_comesNow_43 : decode cX5_comesNow 43 = .ok (.iload 6, 2) := by decide +kernel
theorem dX5_comesNow_45 : decode cX5_comesNow 45 = .ok (.aload_n 0, 1) := by decide +kernel
theorem dX5_comesNow_46 : decode cX5_comesNow 46 = .ok (.getfield 122, 3) := by decide +kernel
theorem dX5_comesNow_49 : decode cX5_comesNow 49 = .ok (.if_icmp .ge 73, 3) := by decide +kernel
theorem dX5_comesNow_52 : decode cX5_comesNow 52 = .ok (.aload_n 0, 1) := by decide +kernel
theorem dX5_comesNow_53 : decode cX5_comesNow 53 = .ok (.getfield 73, 3) := by decide +kernel
theorem dX5_comesNow_56 : decode cX5_comesNow 56 = .ok (.iload 6, 2) := by decide +kernel
theorem dX5_comesNow_58 : decode cX5_comesNow 58 = .ok (.aload_n 0, 1) := by decide +kernel
theorem dX5_comesNow_59 : decode cX5_comesNow 59 = .ok (.getfield 73, 3) := by decide +kernel
theorem dX5_comesNow_62 : decode cX5_comesNow 62 = .ok (.iload 6, 2) := by decide +kernel
theorem dX5_comesNow_64 : decode cX5_comesNow 64 = .ok (.iconst 1, 1) := by decide +kernel
theorem dX5_comesNow_65 : decode cX5_comesNow 65 = .ok (.iadd, 1) := by decide +kernel
theorem dX5_comesNow_66 : decode cX5_comesNow 66 = .ok (.iaload, 1) := by decide +kernel
theorem dX5_comesNow_67 : decode cX5_comesNow 67 = .ok (.iastore, 1) := by decide +kernel
theorem dX5_comesNow_68 : decode cX5_comesNow 68 = .ok (.aload_n 0, 1) := by decide +kernel
theorem dX5_comesNow_69 : decode cX5_comesNow 69 = .ok (.getfield 76, 3) := by decide +kernel
theorem dX5_comesNow_72 : decode cX5_comesNow 72 = .ok (.iload 6, 2) := by decide +kernel
theorem dX5_comesNow_74 : decode cX5_comesNow 74 = .ok (.aload_n 0, 1) := by decide +kernel
theorem dX5_comesNow_75 : decode cX5_comesNow 75 = .ok (.getfield 76, 3) := by decide +kernel
theorem dX5_comesNow_78 : decode cX5_comesNow 78 = .ok (.iload 6, 2) := by decide +kernel
theorem dX5_comesNow_80 : decode cX5_comesNow 80 = .ok (.iconst 1, 1) := by decide +kernel
theorem dX5_comesNow_81 : decode cX5_comesNow 81 = .ok (.iadd, 1) := by decide +kernel
theorem dX5_comesNow_82 : decode cX5_comesNow 82 = .ok (.iaload, 1) := by decide +kernel
theorem dX5_comesNow_83 : decode cX5_comesNow 83 = .ok (.iastore, 1) := by decide +kernel
theorem dX5_comesNow_84 : decode cX5_comesNow 84 = .ok (.aload_n 0, 1) := by decide +kernel
theorem dX5_comesNow_85 : decode cX5_comesNow 85 = .ok (.getfield 79, 3) := by decide +kernel
theorem dX5_comesNow_88 : decode cX5_comesNow 88 = .ok (.iload 6, 2) := by decide +kernel
theorem dX5_comesNow_90 : decode cX5_comesNow 90 = .ok (.aload_n 0, 1) := by decide +kernel
theorem dX5_comesNow_91 : decode cX5_comesNow 91 = .ok (.getfield 79, 3) := by decide +kernel
theorem dX5_comesNow_94 : decode cX5_comesNow 94 = .ok (.iload 6, 2) := by decide +kernel
theorem dX5_comesNow_96 : decode cX5_comesNow 96 = .ok (.iconst 1, 1) := by decide +kernel
theorem dX5_comesNow_97 : decode cX5_comesNow 97 = .ok (.iadd, 1) := by decide +kernel
theorem dX5_comesNow_98 : decode cX5_comesNow 98 = .ok (.iaload, 1) := by decide +kernel
theorem dX5_comesNow_99 : decode cX5_comesNow 99 = .ok (.iastore, 1) := by decide +kernel
theorem dX5_comesNow_100 : decode cX5_comesNow 100 = .ok (.aload_n 0, 1) := by decide +kernel
theorem dX5_comesNow_101 : decode cX5_comesNow 101 = .ok (.getfield 82, 3) := by decide +kernel
theorem dX5_comesNow_104 : decode cX5_comesNow 104 = .ok (.iload 6, 2) := by decide +kernel
theorem dX5_comesNow_106 : decode cX5_comesNow 106 = .ok (.aload_n 0, 1) := by decide +kernel
theorem dX5_comesNow_107 : decode cX5_comesNow 107 = .ok (.getfield 82, 3) := by decide +kernel
theorem dX5_comesNow_110 : decode cX5_comesNow 110 = .ok (.iload 6, 2) := by decide +kernel
theorem dX5_comesNow_112 : decode cX5_comesNow 112 = .ok (.iconst 1, 1) := by decide +kernel
theorem dX5_comesNow_113 : decode cX5_comesNow 113 = .ok (.iadd, 1) := by decide +kernel
theorem dX5_comesNow_114 : decode cX5_comesNow 114 = .ok (.iaload, 1) := by decide +kernel
theorem dX5_comesNow_115 : decode cX5_comesNow 115 = .ok (.iastore, 1) := by decide +kernel
theorem dX5_comesNow_116 : decode cX5_comesNow 116 = .ok (.iinc 6 1, 3) := by decide +kernel
theorem dX5_comesNow_119 : decode cX5_comesNow 119 = .ok (.goto (-76), 3) := by decide +kernel
theorem dX5_comesNow_122 : decode cX5_comesNow 122 = .ok (.iload_n 2, 1) := by decide +kernel
theorem dX5_comesNow_123 : decode cX5_comesNow 123 = .ok (.tableswitch 180 0 4 #[33, 90, 138, 147, 169], 33) := by decide +kernel
theorem dX5_comesNow_156 : decode cX5_comesNow 156 = .ok (.aload_n 0, 1) := by decide +kernel
theorem dX5_comesNow_157 : decode cX5_comesNow 157 = .ok (.getfield 45, 3) := by decide +kernel
theorem dX5_comesNow_160 : decode cX5_comesNow 160 = .ok (.iconst 4, 1) := by decide +kernel
theorem dX5_comesNow_161 : decode cX5_comesNow 161 = .ok (.iload 5, 2) := by decide +kernel
theorem dX5_comesNow_163 : decode cX5_comesNow 163 = .ok (.imul, 1) := by decide +kernel
theorem dX5_comesNow_164 : decode cX5_comesNow 164 = .ok (.iload_n 3, 1) := by decide +kernel
theorem dX5_comesNow_165 : decode cX5_comesNow 165 = .ok (.iadd, 1) := by decide +kernel
theorem dX5_comesNow_166 : decode cX5_comesNow 166 = .ok (.baload, 1) := by decide +kernel
theorem dX5_comesNow_167 : decode cX5_comesNow 167 = .ok (.ifCond .ne 147, 3) := by decide +kernel
theorem dX5_comesNow_170 : decode cX5_comesNow 170 = .ok (.aload_n 0, 1) := by decide +kernel
theorem dX5_comesNow_171 : decode cX5_comesNow 171 = .ok (.iload 5, 2) := by decide +kernel
theorem dX5_comesNow_173 : decode cX5_comesNow 173 = .ok (.iload_n 3, 1) := by decide +kernel
theorem dX5_comesNow_174 : decode cX5_comesNow 174 = .ok (.invokevirtual 141, 3) := by decide +kernel
theorem dX5_comesNow_177 : decode cX5_comesNow 177 = .ok (.istore 6, 2) := by decide +kernel
theorem dX5_comesNow_179 : decode cX5_comesNow 179 = .ok (.iload 6, 2) := by decide +kernel
theorem dX5_comesNow_181 : decode cX5_comesNow 181 = .ok (.ifCond .eq 10, 3) := by decide +kernel
theorem dX5_comesNow_184 : decode cX5_comesNow 184 = .ok (.aload_n 0, 1) := by decide +kernel
theorem dX5_comesNow_185 : decode cX5_comesNow 185 = .ok (.iload 5, 2) := by decide +kernel
theorem dX5_comesNow_187 : decode cX5_comesNow 187 = .ok (.iload_n 3, 1) := by decide +kernel
theorem dX5_comesNow_188 : decode cX5_comesNow 188 = .ok (.invokevirtual 148, 3) := by decide +kernel
theorem dX5_comesNow_191 : decode cX5_comesNow 191 = .ok (.aload_n 0, 1) := by decide +kernel
theorem dX5_comesNow_192 : decode cX5_comesNow 192 = .ok (.iload 6, 2) := by decide +kernel
theorem dX5_comesNow_194 : decode cX5_comesNow 194 = .ok (.ifCond .eq 7, 3) := by decide +kernel
theorem dX5_comesNow_197 : decode cX5_comesNow 197 = .ok (.iconst 1, 1) := by decide +kernel
theorem dX5_comesNow_198 : decode cX5_comesNow 198 = .ok (.goto 4, 3) := by decide +kernel
theorem dX5_comesNow_201 : decode cX5_comesNow 201 = .ok (.iconst 2, 1) := by decide +kernel
theorem dX5_comesNow_202 : decode cX5_comesNow 202 = .ok (.iload 4, 2) := by decide +kernel
theorem dX5_comesNow_204 : decode cX5_comesNow 204 = .ok (.iload_n 3, 1) := by decide +kernel
theorem dX5_comesNow_205 : decode cX5_comesNow 205 = .ok (.iload 5, 2) := by decide +kernel
theorem dX5_comesNow_207 : decode cX5_comesNow 207 = .ok (.invokevirtual 133, 3) := by decide +kernel
theorem dX5_comesNow_210 : decode cX5_comesNow 210 = .ok (.goto 104, 3) := by decide +kernel
theorem dX5_comesNow_213 : decode cX5_comesNow 213 = .ok (.aload_n 0, 1) := by decide +kernel
theorem dX5_comesNow_214 : decode cX5_comesNow 214 = .ok (.getfield 39, 3) := by decide +kernel
theorem dX5_comesNow_217 : decode cX5_comesNow 217 = .ok (.iload 5, 2) := by decide +kernel
theorem dX5_comesNow_219 : decode cX5_comesNow 219 = .ok (.dup2, 1) := by decide +kernel
theorem dX5_comesNow_220 : decode cX5_comesNow 220 = .ok (.iaload, 1) := by decide +kernel
theorem dX5_comesNow_221 : decode cX5_comesNow 221 = .ok (.iconst 1, 1) := by decide +kernel
theorem dX5_comesNow_222 : decode cX5_comesNow 222 = .ok (.iadd, 1) := by decide +kernel
theorem dX5_comesNow_223 : decode cX5_comesNow 223 = .ok (.iastore, 1) := by decide +kernel
theorem dX5_comesNow_224 : decode cX5_comesNow 224 = .ok (.aload_n 0, 1) := by decide +kernel
theorem dX5_comesNow_225 : decode cX5_comesNow 225 = .ok (.getfield 27, 3) := by decide +kernel
theorem dX5_comesNow_228 : decode cX5_comesNow 228 = .ok (.iload 5, 2) := by decide +kernel
theorem dX5_comesNow_230 : decode cX5_comesNow 230 = .ok (.iaload, 1) := by decide +kernel
theorem dX5_comesNow_231 : decode cX5_comesNow 231 = .ok (.iconst 1, 1) := by decide +kernel
theorem dX5_comesNow_232 : decode cX5_comesNow 232 = .ok (.if_icmp .ne 82, 3) := by decide +kernel
theorem dX5_comesNow_235 : decode cX5_comesNow 235 = .ok (.aload_n 0, 1) := by decide +kernel
theorem dX5_comesNow_236 : decode cX5_comesNow 236 = .ok (.getfield 39, 3) := by decide +kernel
theorem dX5_comesNow_239 : decode cX5_comesNow 239 = .ok (.iload 5, 2) := by decide +kernel
theorem dX5_comesNow_241 : decode cX5_comesNow 241 = .ok (.iaload, 1) := by decide +kernel
theorem dX5_comesNow_242 : decode cX5_comesNow 242 = .ok (.aload_n 0, 1) := by decide +kernel
theorem dX5_comesNow_243 : decode cX5_comesNow 243 = .ok (.getfield 42, 3) := by decide +kernel
theorem dX5_comesNow_246 : decode cX5_comesNow 246 = .ok (.iload 5, 2) := by decide +kernel
theorem dX5_comesNow_248 : decode cX5_comesNow 248 = .ok (.iaload, 1) := by decide +kernel
theorem dX5_comesNow_249 : decode cX5_comesNow 249 = .ok (.if_icmp .ne 65, 3) := by decide +kernel
theorem dX5_comesNow_252 : decode cX5_comesNow 252 = .ok (.aload_n 0, 1) := by decide +kernel
theorem dX5_comesNow_253 : decode cX5_comesNow 253 = .ok (.iload 5, 2) := by decide +kernel
theorem dX5_comesNow_255 : decode cX5_comesNow 255 = .ok (.invokevirtual 144, 3) := by decide +kernel
theorem dX5_comesNow_258 : decode cX5_comesNow 258 = .ok (.goto 56, 3) := by decide +kernel
theorem dX5_comesNow_261 : decode cX5_comesNow 261 = .ok (.aload_n 0, 1) := by decide +kernel
theorem dX5_comesNow_262 : decode cX5_comesNow 262 = .ok (.iload 5, 2) := by decide +kernel
theorem dX5_comesNow_264 : decode cX5_comesNow 264 = .ok (.invokevirtual 154, 3) := by decide +kernel
theorem dX5_comesNow_267 : decode cX5_comesNow 267 = .ok (.goto 47, 3) := by decide +kernel
theorem dX5_comesNow_270 : decode cX5_comesNow 270 = .ok (.aload_n 0, 1) := by decide +kernel
theorem dX5_comesNow_271 : decode cX5_comesNow 271 = .ok (.getfield 45, 3) := by decide +kernel
theorem dX5_comesNow_274 : decode cX5_comesNow 274 = .ok (.iconst 4, 1) := by decide +kernel
theorem dX5_comesNow_275 : decode cX5_comesNow 275 = .ok (.iload 5, 2) := by decide +kernel
theorem dX5_comesNow_277 : decode cX5_comesNow 277 = .ok (.imul, 1) := by decide +kernel
theorem dX5_comesNow_278 : decode cX5_comesNow 278 = .ok (.iload_n 3, 1) := by decide +kernel
theorem dX5_comesNow_279 : decode cX5_comesNow 279 = .ok (.iadd, 1) := by decide +kernel
theorem dX5_comesNow_280 : decode cX5_comesNow 280 = .ok (.iconst 1, 1) := by decide +kernel
theorem dX5_comesNow_281 : decode cX5_comesNow 281 = .ok (.bastore, 1) := by decide +kernel
theorem dX5_comesNow_282 : decode cX5_comesNow 282 = .ok (.aload_n 0, 1) := by decide +kernel
theorem dX5_comesNow_283 : decode cX5_comesNow 283 = .ok (.iload 5, 2) := by decide +kernel
theorem dX5_comesNow_285 : decode cX5_comesNow 285 = .ok (.iload_n 3, 1) := by decide +kernel
theorem dX5_comesNow_286 : decode cX5_comesNow 286 = .ok (.invokevirtual 129, 3) := by decide +kernel
theorem dX5_comesNow_289 : decode cX5_comesNow 289 = .ok (.goto 25, 3) := by decide +kernel
theorem dX5_comesNow_292 : decode cX5_comesNow 292 = .ok (.aload_n 0, 1) := by decide +kernel
theorem dX5_comesNow_293 : decode cX5_comesNow 293 = .ok (.iload_n 3, 1) := by decide +kernel
theorem dX5_comesNow_294 : decode cX5_comesNow 294 = .ok (.iload 5, 2) := by decide +kernel
theorem dX5_comesNow_296 : decode cX5_comesNow 296 = .ok (.iconst 0, 1) := by decide +kernel
theorem dX5_comesNow_297 : decode cX5_comesNow 297 = .ok (.invokevirtual 137, 3) := by decide +kernel
theorem dX5_comesNow_300 : decode cX5_comesNow 300 = .ok (.goto 14, 3) := by decide +kernel
theorem dX5_comesNow_303 : decode cX5_comesNow 303 = .ok (.aload_n 0, 1) := by decide +kernel
theorem dX5_comesNow_304 : decode cX5_comesNow 304 = .ok (.getfield 36, 3) := by decide +kernel
theorem dX5_comesNow_307 : decode cX5_comesNow 307 = .ok (.iload 5, 2) := by decide +kernel
theorem dX5_comesNow_309 : decode cX5_comesNow 309 = .ok (.dup2, 1) := by decide +kernel
theorem dX5_comesNow_310 : decode cX5_comesNow 310 = .ok (.iaload, 1) := by decide +kernel
theorem dX5_comesNow_311 : decode cX5_comesNow 311 = .ok (.iconst 1, 1) := by decide +kernel
theorem dX5_comesNow_312 : decode cX5_comesNow 312 = .ok (.iadd, 1) := by decide +kernel
theorem dX5_comesNow_313 : decode cX5_comesNow 313 = .ok (.iastore, 1) := by decide +kernel
theorem dX5_comesNow_314 : decode cX5_comesNow 314 = .ok (.iload_n 2, 1) := by decide +kernel
theorem dX5_comesNow_315 : decode cX5_comesNow 315 = .ok (.ireturn, 1) := by decide +kernel
theorem dX5_refused_0 : decode cX5_refused 0 = .ok (.aload_n 0, 1) := by decide +kernel
theorem dX5_refused_1 : decode cX5_refused 1 = .ok (.getfield 27, 3) := by decide +kernel
theorem dX5_refused_4 : decode cX5_refused 4 = .ok (.iload_n 1, 1) := by decide +kernel
theorem dX5_refused_5 : decode cX5_refused 5 = .ok (.iaload, 1) := by decide +kernel
theorem dX5_refused_6 : decode cX5_refused 6 = .ok (.iconst 1, 1) := by decide +kernel
theorem dX5_refused_7 : decode cX5_refused 7 = .ok (.if_icmp .ne 69, 3) := by decide +kernel
theorem dX5_refused_10 : decode cX5_refused 10 = .ok (.aload_n 0, 1) := by decide +kernel
theorem dX5_refused_11 : decode cX5_refused 11 = .ok (.getfield 27, 3) := by decide +kernel
theorem dX5_refused_14 : decode cX5_refused 14 = .ok (.iload_n 1, 1) := by decide +kernel
theorem dX5_refused_15 : decode cX5_refused 15 = .ok (.iconst 3, 1) := by decide +kernel
theorem dX5_refused_16 : decode cX5_refused 16 = .ok (.iastore, 1) := by decide +kernel
theorem dX5_refused_17 : decode cX5_refused 17 = .ok (.aload_n 0, 1) := by decide +kernel
theorem dX5_refused_18 : decode cX5_refused 18 = .ok (.iload_n 1, 1) := by decide +kernel
theorem dX5_refused_19 : decode cX5_refused 19 = .ok (.aload_n 0, 1) := by decide +kernel
theorem dX5_refused_20 : decode cX5_refused 20 = .ok (.getfield 24, 3) := by decide +kernel
theorem dX5_refused_23 : decode cX5_refused 23 = .ok (.iload_n 1, 1) := by decide +kernel
theorem dX5_refused_24 : decode cX5_refused 24 = .ok (.iaload, 1) := by decide +kernel
theorem dX5_refused_25 : decode cX5_refused 25 = .ok (.invokevirtual 129, 3) := by decide +kernel
theorem dX5_refused_28 : decode cX5_refused 28 = .ok (.iconst 0, 1) := by decide +kernel
theorem dX5_refused_29 : decode cX5_refused 29 = .ok (.istore_n 2, 1) := by decide +kernel
theorem dX5_refused_30 : decode cX5_refused 30 = .ok (.iload_n 2, 1) := by decide +kernel
theorem dX5_refused_31 : decode cX5_refused 31 = .ok (.aload_n 0, 1) := by decide +kernel
theorem dX5_refused_32 : decode cX5_refused 32 = .ok (.getfield 7, 3) := by decide +kernel
theorem dX5_refused_35 : decode cX5_refused 35 = .ok (.if_icmp .ge 41, 3) := by decide +kernel
theorem dX5_refused_38 : decode cX5_refused 38 = .ok (.iload_n 2, 1) := by decide +kernel
theorem dX5_refused_39 : decode cX5_refused 39 = .ok (.aload_n 0, 1) := by decide +kernel
theorem dX5_refused_40 : decode cX5_refused 40 = .ok (.getfield 24, 3) := by decide +kernel
theorem dX5_refused_43 : decode cX5_refused 43 = .ok (.iload_n 1, 1) := by decide +kernel
theorem dX5_refused_44 : decode cX5_refused 44 = .ok (.iaload, 1) := by decide +kernel
theorem dX5_refused_45 : decode cX5_refused 45 = .ok (.if_icmp .eq 25, 3) := by decide +kernel
theorem dX5_refused_48 : decode cX5_refused 48 = .ok (.aload_n 0, 1) := by decide +kernel
theorem dX5_refused_49 : decode cX5_refused 49 = .ok (.iload_n 1, 1) := by decide +kernel
theorem dX5_refused_50 : decode cX5_refused 50 = .ok (.iload_n 2, 1) := by decide +kernel
theorem dX5_refused_51 : decode cX5_refused 51 = .ok (.invokevirtual 151, 3) := by decide +kernel
theorem dX5_refused_54 : decode cX5_refused 54 = .ok (.ifCond .eq 16, 3) := by decide +kernel
theorem dX5_refused_57 : decode cX5_refused 57 = .ok (.aload_n 0, 1) := by decide +kernel
theorem dX5_refused_58 : decode cX5_refused 58 = .ok (.iconst 3, 1) := by decide +kernel
theorem dX5_refused_59 : decode cX5_refused 59 = .ok (.iload_n 2, 1) := by decide +kernel
theorem dX5_refused_60 : decode cX5_refused 60 = .ok (.aload_n 0, 1) := by decide +kernel
theorem dX5_refused_61 : decode cX5_refused 61 = .ok (.getfield 24, 3) := by decide +kernel
theorem dX5_refused_64 : decode cX5_refused 64 = .ok (.iload_n 1, 1) := by decide +kernel
theorem dX5_refused_65 : decode cX5_refused 65 = .ok (.iaload, 1) := by decide +kernel
theorem dX5_refused_66 : decode cX5_refused 66 = .ok (.iload_n 1, 1) := by decide +kernel
theorem dX5_refused_67 : decode cX5_refused 67 = .ok (.invokevirtual 133, 3) := by decide +kernel
theorem dX5_refused_70 : decode cX5_refused 70 = .ok (.iinc 2 1, 3) := by decide +kernel
theorem dX5_refused_73 : decode cX5_refused 73 = .ok (.goto (-43), 3) := by decide +kernel
theorem dX5_refused_76 : decode cX5_refused 76 = .ok (.return_, 1) := by decide +kernel
theorem dX5_deliver_0 : decode cX5_deliver 0 = .ok (.aload_n 0, 1) := by decide +kernel
theorem dX5_deliver_1 : decode cX5_deliver 1 = .ok (.iload_n 1, 1) := by decide +kernel
theorem dX5_deliver_2 : decode cX5_deliver 2 = .ok (.invokevirtual 157, 3) := by decide +kernel
theorem dX5_deliver_5 : decode cX5_deliver 5 = .ok (.ifCond .ne 5, 3) := by decide +kernel
theorem dX5_deliver_8 : decode cX5_deliver 8 = .ok (.iconst (-1), 1) := by decide +kernel
theorem dX5_deliver_9 : decode cX5_deliver 9 = .ok (.ireturn, 1) := by decide +kernel
theorem dX5_deliver_10 : decode cX5_deliver 10 = .ok (.aload_n 0, 1) := by decide +kernel
theorem dX5_deliver_11 : decode cX5_deliver 11 = .ok (.iload_n 1, 1) := by decide +kernel
theorem dX5_deliver_12 : decode cX5_deliver 12 = .ok (.invokevirtual 160, 3) := by decide +kernel
theorem dX5_deliver_15 : decode cX5_deliver 15 = .ok (.ifCond .eq 11, 3) := by decide +kernel
theorem dX5_deliver_18 : decode cX5_deliver 18 = .ok (.aload_n 0, 1) := by decide +kernel
theorem dX5_deliver_19 : decode cX5_deliver 19 = .ok (.iload_n 1, 1) := by decide +kernel
theorem dX5_deliver_20 : decode cX5_deliver 20 = .ok (.invokevirtual 163, 3) := by decide +kernel
theorem dX5_deliver_23 : decode cX5_deliver 23 = .ok (.goto 5, 3) := by decide +kernel
theorem dX5_deliver_26 : decode cX5_deliver 26 = .ok (.bipush (-2), 2) := by decide +kernel
theorem dX5_deliver_28 : decode cX5_deliver 28 = .ok (.ireturn, 1) := by decide +kernel
theorem dX5_all_0 : decode cX5_all 0 = .ok (.iload_n 1, 1) := by decide +kernel
theorem dX5_all_1 : decode cX5_all 1 = .ok (.i2l, 1) := by decide +kernel
theorem dX5_all_2 : decode cX5_all 2 = .ok (.lconst 0, 1) := by decide +kernel
theorem dX5_all_3 : decode cX5_all 3 = .ok (.ldc2_w 166, 3) := by decide +kernel
theorem dX5_all_6 : decode cX5_all 6 = .ok (.invokestatic 85, 3) := by decide +kernel
theorem dX5_all_9 : decode cX5_all 9 = .ok (.ifCond .ne 5, 3) := by decide +kernel
theorem dX5_all_12 : decode cX5_all 12 = .ok (.iconst (-1), 1) := by decide +kernel
theorem dX5_all_13 : decode cX5_all 13 = .ok (.ireturn, 1) := by decide +kernel
theorem dX5_all_14 : decode cX5_all 14 = .ok (.iconst 0, 1) := by decide +kernel
theorem dX5_all_15 : decode cX5_all 15 = .ok (.istore_n 2, 1) := by decide +kernel
theorem dX5_all_16 : decode cX5_all 16 = .ok (.iconst 1, 1) := by decide +kernel
theorem dX5_all_17 : decode cX5_all 17 = .ok (.istore_n 3, 1) := by decide +kernel
theorem dX5_all_18 : decode cX5_all 18 = .ok (.iload_n 3, 1) := by decide +kernel
theorem dX5_all_19 : decode cX5_all 19 = .ok (.ifCond .eq 67, 3) := by decide +kernel
theorem dX5_all_22 : decode cX5_all 22 = .ok (.iload_n 2, 1) := by decide +kernel
theorem dX5_all_23 : decode cX5_all 23 = .ok (.iload_n 1, 1) := by decide +kernel
theorem dX5_all_24 : decode cX5_all 24 = .ok (.if_icmp .ge 62, 3) := by decide +kernel
theorem dX5_all_27 : decode cX5_all 27 = .ok (.iconst 0, 1) := by decide +kernel
theorem dX5_all_28 : decode cX5_all 28 = .ok (.istore 4, 2) := by decide +kernel
theorem dX5_all_30 : decode cX5_all 30 = .ok (.iload 4, 2) := by decide +kernel
theorem dX5_all_32 : decode cX5_all 32 = .ok (.aload_n 0, 1) := by decide +kernel
theorem dX5_all_33 : decode cX5_all 33 = .ok (.getfield 122, 3) := by decide +kernel
theorem dX5_all_36 : decode cX5_all 36 = .ok (.if_icmp .ge 18, 3) := by decide +kernel
theorem dX5_all_39 : decode cX5_all 39 = .ok (.aload_n 0, 1) := by decide +kernel
theorem dX5_all_40 : decode cX5_all 40 = .ok (.iload 4, 2) := by decide +kernel
theorem dX5_all_42 : decode cX5_all 42 = .ok (.invokevirtual 160, 3) := by decide +kernel
theorem dX5_all_45 : decode cX5_all 45 = .ok (.ifCond .ne 9, 3) := by decide +kernel
theorem dX5_all_48 : decode cX5_all 48 = .ok (.iinc 4 1, 3) := by decide +kernel
theorem dX5_all_51 : decode cX5_all 51 = .ok (.goto (-21), 3) := by decide +kernel
theorem dX5_all_54 : decode cX5_all 54 = .ok (.iload 4, 2) := by decide +kernel
theorem dX5_all_56 : decode cX5_all 56 = .ok (.aload_n 0, 1) := by decide +kernel
theorem dX5_all_57 : decode cX5_all 57 = .ok (.getfield 122, 3) := by decide +kernel
theorem dX5_all_60 : decode cX5_all 60 = .ok (.if_icmp .ge 7, 3) := by decide +kernel
theorem dX5_all_63 : decode cX5_all 63 = .ok (.iconst 1, 1) := by decide +kernel
theorem dX5_all_64 : decode cX5_all 64 = .ok (.goto 4, 3) := by decide +kernel
theorem dX5_all_67 : decode cX5_all 67 = .ok (.iconst 0, 1) := by decide +kernel
theorem dX5_all_68 : decode cX5_all 68 = .ok (.istore_n 3, 1) := by decide +kernel
theorem dX5_all_69 : decode cX5_all 69 = .ok (.iload_n 3, 1) := by decide +kernel
theorem dX5_all_70 : decode cX5_all 70 = .ok (.ifCond .eq 13, 3) := by decide +kernel
theorem dX5_all_73 : decode cX5_all 73 = .ok (.aload_n 0, 1) := by decide +kernel
theorem dX5_all_74 : decode cX5_all 74 = .ok (.iload 4, 2) := by decide +kernel
theorem dX5_all_76 : decode cX5_all 76 = .ok (.invokevirtual 163, 3) := by decide +kernel
theorem dX5_all_79 : decode cX5_all 79 = .ok (.pop, 1) := by decide +kernel
theorem dX5_all_80 : decode cX5_all 80 = .ok (.iinc 2 1, 3) := by decide +kernel
theorem dX5_all_83 : decode cX5_all 83 = .ok (.goto (-65), 3) := by decide +kernel
theorem dX5_all_86 : decode cX5_all 86 = .ok (.iload_n 2, 1) := by decide +kernel
theorem dX5_all_87 : decode cX5_all 87 = .ok (.ireturn, 1) := by decide +kernel
theorem dX5_message_0 : decode cX5_message 0 = .ok (.aload_n 0, 1) := by decide +kernel
theorem dX5_message_1 : decode cX5_message 1 = .ok (.iload_n 1, 1) := by decide +kernel
theorem dX5_message_2 : decode cX5_message 2 = .ok (.invokevirtual 157, 3) := by decide +kernel
theorem dX5_message_5 : decode cX5_message 5 = .ok (.ifCond .ne 5, 3) := by decide +kernel
theorem dX5_message_8 : decode cX5_message 8 = .ok (.iconst (-1), 1) := by decide +kernel
theorem dX5_message_9 : decode cX5_message 9 = .ok (.ireturn, 1) := by decide +kernel
theorem dX5_message_10 : decode cX5_message 10 = .ok (.iload_n 2, 1) := by decide +kernel
theorem dX5_message_11 : decode cX5_message 11 = .ok (.tableswitch 75 0 4 #[33, 40, 47, 54, 61], 33) := by decide +kernel
theorem dX5_message_44 : decode cX5_message 44 = .ok (.aload_n 0, 1) := by decide +kernel
theorem dX5_message_45 : decode cX5_message 45 = .ok (.getfield 73, 3) := by decide +kernel
theorem dX5_message_48 : decode cX5_message 48 = .ok (.iload_n 1, 1) := by decide +kernel
theorem dX5_message_49 : decode cX5_message 49 = .ok (.iaload, 1) := by decide +kernel
theorem dX5_message_50 : decode cX5_message 50 = .ok (.ireturn, 1) := by decide +kernel
theorem dX5_message_51 : decode cX5_message 51 = .ok (.aload_n 0, 1) := by decide +kernel
theorem dX5_message_52 : decode cX5_message 52 = .ok (.getfield 76, 3) := by decide +kernel
theorem dX5_message_55 : decode cX5_message 55 = .ok (.iload_n 1, 1) := by decide +kernel
theorem dX5_message_56 : decode cX5_message 56 = .ok (.iaload, 1) := by decide +kernel
theorem dX5_message_57 : decode cX5_message 57 = .ok (.ireturn, 1) := by decide +kernel
theorem dX5_message_58 : decode cX5_message 58 = .ok (.aload_n 0, 1) := by decide +kernel
theorem dX5_message_59 : decode cX5_message 59 = .ok (.getfield 79, 3) := by decide +kernel
theorem dX5_message_62 : decode cX5_message 62 = .ok (.iload_n 1, 1) := by decide +kernel
theorem dX5_message_63 : decode cX5_message 63 = .ok (.iaload, 1) := by decide +kernel
theorem dX5_message_64 : decode cX5_message 64 = .ok (.ireturn, 1) := by decide +kernel
theorem dX5_message_65 : decode cX5_message 65 = .ok (.aload_n 0, 1) := by decide +kernel
theorem dX5_message_66 : decode cX5_message 66 = .ok (.getfield 82, 3) := by decide +kernel
theorem dX5_message_69 : decode cX5_message 69 = .ok (.iload_n 1, 1) := by decide +kernel
theorem dX5_message_70 : decode cX5_message 70 = .ok (.iaload, 1) := by decide +kernel
theorem dX5_message_71 : decode cX5_message 71 = .ok (.ireturn, 1) := by decide +kernel
theorem dX5_message_72 : decode cX5_message 72 = .ok (.aload_n 0, 1) := by decide +kernel
theorem dX5_message_73 : decode cX5_message 73 = .ok (.iload_n 1, 1) := by decide +kernel
theorem dX5_message_74 : decode cX5_message 74 = .ok (.invokevirtual 160, 3) := by decide +kernel
theorem dX5_message_77 : decode cX5_message 77 = .ok (.ifCond .eq 7, 3) := by decide +kernel
theorem dX5_message_80 : decode cX5_message 80 = .ok (.iconst 1, 1) := by decide +kernel
theorem dX5_message_81 : decode cX5_message 81 = .ok (.goto 4, 3) := by decide +kernel
theorem dX5_message_84 : decode cX5_message 84 = .ok (.iconst 0, 1) := by decide +kernel
theorem dX5_message_85 : decode cX5_message 85 = .ok (.ireturn, 1) := by decide +kernel
theorem dX5_message_86 : decode cX5_message 86 = .ok (.iconst (-1), 1) := by decide +kernel
theorem dX5_message_87 : decode cX5_message 87 = .ok (.ireturn, 1) := by decide +kernel
theorem dX5_isSafe_0 : decode cX5_isSafe 0 = .ok (.aload_n 0, 1) := by decide +kernel
theorem dX5_isSafe_1 : decode cX5_isSafe 1 = .ok (.getfield 33, 3) := by decide +kernel
theorem dX5_isSafe_4 : decode cX5_isSafe 4 = .ok (.iload_n 1, 1) := by decide +kernel
theorem dX5_isSafe_5 : decode cX5_isSafe 5 = .ok (.iaload, 1) := by decide +kernel
theorem dX5_isSafe_6 : decode cX5_isSafe 6 = .ok (.ifCond .le 20, 3) := by decide +kernel
theorem dX5_isSafe_9 : decode cX5_isSafe 9 = .ok (.aload_n 0, 1) := by decide +kernel
theorem dX5_isSafe_10 : decode cX5_isSafe 10 = .ok (.getfield 36, 3) := by decide +kernel
theorem dX5_isSafe_13 : decode cX5_isSafe 13 = .ok (.iload_n 1, 1) := by decide +kernel
theorem dX5_isSafe_14 : decode cX5_isSafe 14 = .ok (.iaload, 1) := by decide +kernel
theorem dX5_isSafe_15 : decode cX5_isSafe 15 = .ok (.aload_n 0, 1) := by decide +kernel
theorem dX5_isSafe_16 : decode cX5_isSafe 16 = .ok (.getfield 13, 3) := by decide +kernel
theorem dX5_isSafe_19 : decode cX5_isSafe 19 = .ok (.if_icmp .lt 7, 3) := by decide +kernel
theorem dX5_isSafe_22 : decode cX5_isSafe 22 = .ok (.iconst 1, 1) := by decide +kernel
theorem dX5_isSafe_23 : decode cX5_isSafe 23 = .ok (.goto 4, 3) := by decide +kernel
theorem dX5_isSafe_26 : decode cX5_isSafe 26 = .ok (.iconst 0, 1) := by decide +kernel
theorem dX5_isSafe_27 : decode cX5_isSafe 27 = .ok (.ireturn, 1) := by decide +kernel
theorem dX5_told_0 : decode cX5_told 0 = .ok (.aload_n 0, 1) := by decide +kernel
theorem dX5_told_1 : decode cX5_told 1 = .ok (.iload_n 1, 1) := by decide +kernel
theorem dX5_told_2 : decode cX5_told 2 = .ok (.invokevirtual 103, 3) := by decide +kernel
theorem dX5_told_5 : decode cX5_told 5 = .ok (.ifCond .ne 5, 3) := by decide +kernel
theorem dX5_told_8 : decode cX5_told 8 = .ok (.iconst (-1), 1) := by decide +kernel
theorem dX5_told_9 : decode cX5_told 9 = .ok (.ireturn, 1) := by decide +kernel
theorem dX5_told_10 : decode cX5_told 10 = .ok (.iload_n 2, 1) := by decide +kernel
theorem dX5_told_11 : decode cX5_told 11 = .ok (.tableswitch 141 0 8 #[49, 56, 63, 70, 77, 91, 121, 127, 134], 49) := by decide +kernel
theorem dX5_told_60 : decode cX5_told 60 = .ok (.aload_n 0, 1) := by decide +kernel
theorem dX5_told_61 : decode cX5_told 61 = .ok (.getfield 27, 3) := by decide +kernel
theorem dX5_told_64 : decode cX5_told 64 = .ok (.iload_n 1, 1) := by decide +kernel
theorem dX5_told_65 : decode cX5_told 65 = .ok (.iaload, 1) := by decide +kernel
theorem dX5_told_66 : decode cX5_told 66 = .ok (.ireturn, 1) := by decide +kernel
theorem dX5_told_67 : decode cX5_told 67 = .ok (.aload_n 0, 1) := by decide +kernel
theorem dX5_told_68 : decode cX5_told 68 = .ok (.getfield 24, 3) := by decide +kernel
theorem dX5_told_71 : decode cX5_told 71 = .ok (.iload_n 1, 1) := by decide +kernel
theorem dX5_told_72 : decode cX5_told 72 = .ok (.iaload, 1) := by decide +kernel
theorem dX5_told_73 : decode cX5_told 73 = .ok (.ireturn, 1) := by decide +kernel
theorem dX5_told_74 : decode cX5_told 74 = .ok (.aload_n 0, 1) := by decide +kernel
theorem dX5_told_75 : decode cX5_told 75 = .ok (.getfield 33, 3) := by decide +kernel
theorem dX5_told_78 : decode cX5_told 78 = .ok (.iload_n 1, 1) := by decide +kernel
theorem dX5_told_79 : decode cX5_told 79 = .ok (.iaload, 1) := by decide +kernel
theorem dX5_told_80 : decode cX5_told 80 = .ok (.ireturn, 1) := by decide +kernel
theorem dX5_told_81 : decode cX5_told 81 = .ok (.aload_n 0, 1) := by decide +kernel
theorem dX5_told_82 : decode cX5_told 82 = .ok (.getfield 36, 3) := by decide +kernel
theorem dX5_told_85 : decode cX5_told 85 = .ok (.iload_n 1, 1) := by decide +kernel
theorem dX5_told_86 : decode cX5_told 86 = .ok (.iaload, 1) := by decide +kernel
theorem dX5_told_87 : decode cX5_told 87 = .ok (.ireturn, 1) := by decide +kernel
theorem dX5_told_88 : decode cX5_told 88 = .ok (.aload_n 0, 1) := by decide +kernel
theorem dX5_told_89 : decode cX5_told 89 = .ok (.iload_n 1, 1) := by decide +kernel
theorem dX5_told_90 : decode cX5_told 90 = .ok (.invokevirtual 168, 3) := by decide +kernel
theorem dX5_told_93 : decode cX5_told 93 = .ok (.ifCond .eq 7, 3) := by decide +kernel
theorem dX5_told_96 : decode cX5_told 96 = .ok (.iconst 1, 1) := by decide +kernel
theorem dX5_told_97 : decode cX5_told 97 = .ok (.goto 4, 3) := by decide +kernel
theorem dX5_told_100 : decode cX5_told 100 = .ok (.iconst 0, 1) := by decide +kernel
theorem dX5_told_101 : decode cX5_told 101 = .ok (.ireturn, 1) := by decide +kernel
theorem dX5_told_102 : decode cX5_told 102 = .ok (.aload_n 0, 1) := by decide +kernel
theorem dX5_told_103 : decode cX5_told 103 = .ok (.getfield 33, 3) := by decide +kernel
theorem dX5_told_106 : decode cX5_told 106 = .ok (.iload_n 1, 1) := by decide +kernel
theorem dX5_told_107 : decode cX5_told 107 = .ok (.iaload, 1) := by decide +kernel
theorem dX5_told_108 : decode cX5_told 108 = .ok (.ifCond .le 22, 3) := by decide +kernel
theorem dX5_told_111 : decode cX5_told 111 = .ok (.aload_n 0, 1) := by decide +kernel
theorem dX5_told_112 : decode cX5_told 112 = .ok (.getfield 36, 3) := by decide +kernel
theorem dX5_told_115 : decode cX5_told 115 = .ok (.iload_n 1, 1) := by decide +kernel
theorem dX5_told_116 : decode cX5_told 116 = .ok (.iaload, 1) := by decide +kernel
theorem dX5_told_117 : decode cX5_told 117 = .ok (.aload_n 0, 1) := by decide +kernel
theorem dX5_told_118 : decode cX5_told 118 = .ok (.getfield 7, 3) := by decide +kernel
theorem dX5_told_121 : decode cX5_told 121 = .ok (.iconst 1, 1) := by decide +kernel
theorem dX5_told_122 : decode cX5_told 122 = .ok (.isub, 1) := by decide +kernel
theorem dX5_told_123 : decode cX5_told 123 = .ok (.if_icmp .ne 7, 3) := by decide +kernel
theorem dX5_told_126 : decode cX5_told 126 = .ok (.iconst 1, 1) := by decide +kernel
theorem dX5_told_127 : decode cX5_told 127 = .ok (.goto 4, 3) := by decide +kernel
theorem dX5_told_130 : decode cX5_told 130 = .ok (.iconst 0, 1) := by decide +kernel
theorem dX5_told_131 : decode cX5_told 131 = .ok (.ireturn, 1) := by decide +kernel
theorem dX5_told_132 : decode cX5_told 132 = .ok (.aload_n 0, 1) := by decide +kernel
theorem dX5_told_133 : decode cX5_told 133 = .ok (.iload_n 1, 1) := by decide +kernel
theorem dX5_told_134 : decode cX5_told 134 = .ok (.invokevirtual 118, 3) := by decide +kernel
theorem dX5_told_137 : decode cX5_told 137 = .ok (.ireturn, 1) := by decide +kernel
theorem dX5_told_138 : decode cX5_told 138 = .ok (.aload_n 0, 1) := by decide +kernel
theorem dX5_told_139 : decode cX5_told 139 = .ok (.getfield 39, 3) := by decide +kernel
theorem dX5_told_142 : decode cX5_told 142 = .ok (.iload_n 1, 1) := by decide +kernel
theorem dX5_told_143 : decode cX5_told 143 = .ok (.iaload, 1) := by decide +kernel
theorem dX5_told_144 : decode cX5_told 144 = .ok (.ireturn, 1) := by decide +kernel
theorem dX5_told_145 : decode cX5_told 145 = .ok (.aload_n 0, 1) := by decide +kernel
theorem dX5_told_146 : decode cX5_told 146 = .ok (.getfield 42, 3) := by decide +kernel
theorem dX5_told_149 : decode cX5_told 149 = .ok (.iload_n 1, 1) := by decide +kernel
theorem dX5_told_150 : decode cX5_told 150 = .ok (.iaload, 1) := by decide +kernel
theorem dX5_told_151 : decode cX5_told 151 = .ok (.ireturn, 1) := by decide +kernel
theorem dX5_told_152 : decode cX5_told 152 = .ok (.iconst (-1), 1) := by decide +kernel
theorem dX5_told_153 : decode cX5_told 153 = .ok (.ireturn, 1) := by decide +kernel
theorem dX5_start_0 : decode cX5_start 0 = .ok (.aload_n 0, 1) := by decide +kernel
theorem dX5_start_1 : decode cX5_start 1 = .ok (.iload_n 1, 1) := by decide +kernel
theorem dX5_start_2 : decode cX5_start 2 = .ok (.invokevirtual 103, 3) := by decide +kernel
theorem dX5_start_5 : decode cX5_start 5 = .ok (.ifCond .eq 24, 3) := by decide +kernel
theorem dX5_start_8 : decode cX5_start 8 = .ok (.aload_n 0, 1) := by decide +kernel
theorem dX5_start_9 : decode cX5_start 9 = .ok (.iload_n 2, 1) := by decide +kernel
theorem dX5_start_10 : decode cX5_start 10 = .ok (.invokevirtual 99, 3) := by decide +kernel
theorem dX5_start_13 : decode cX5_start 13 = .ok (.ifCond .eq 16, 3) := by decide +kernel
theorem dX5_start_16 : decode cX5_start 16 = .ok (.aload_n 0, 1) := by decide +kernel
theorem dX5_start_17 : decode cX5_start 17 = .ok (.getfield 30, 3) := by decide +kernel
theorem dX5_start_20 : decode cX5_start 20 = .ok (.iconst 4, 1) := by decide +kernel
theorem dX5_start_21 : decode cX5_start 21 = .ok (.iload_n 1, 1) := by decide +kernel
theorem dX5_start_22 : decode cX5_start 22 = .ok (.imul, 1) := by decide +kernel
theorem dX5_start_23 : decode cX5_start 23 = .ok (.iload_n 2, 1) := by decide +kernel
theorem dX5_start_24 : decode cX5_start 24 = .ok (.iadd, 1) := by decide +kernel
theorem dX5_start_25 : decode cX5_start 25 = .ok (.iaload, 1) := by decide +kernel
theorem dX5_start_26 : decode cX5_start 26 = .ok (.goto 4, 3) := by decide +kernel
theorem dX5_start_29 : decode cX5_start 29 = .ok (.iconst (-1), 1) := by decide +kernel
theorem dX5_start_30 : decode cX5_start 30 = .ok (.ireturn, 1) := by decide +kernel
theorem dX5_had_0 : decode cX5_had 0 = .ok (.aload_n 0, 1) := by decide +kernel
theorem dX5_had_1 : decode cX5_had 1 = .ok (.iload_n 1, 1) := by decide +kernel
theorem dX5_had_2 : decode cX5_had 2 = .ok (.invokevirtual 99, 3) := by decide +kernel
theorem dX5_had_5 : decode cX5_had 5 = .ok (.ifCond .eq 24, 3) := by decide +kernel
theorem dX5_had_8 : decode cX5_had 8 = .ok (.aload_n 0, 1) := by decide +kernel
theorem dX5_had_9 : decode cX5_had 9 = .ok (.iload_n 2, 1) := by decide +kernel
theorem dX5_had_10 : decode cX5_had 10 = .ok (.invokevirtual 99, 3) := by decide +kernel
theorem dX5_had_13 : decode cX5_had 13 = .ok (.ifCond .eq 16, 3) := by decide +kernel
theorem dX5_had_16 : decode cX5_had 16 = .ok (.aload_n 0, 1) := by decide +kernel
theorem dX5_had_17 : decode cX5_had 17 = .ok (.getfield 61, 3) := by decide +kernel
theorem dX5_had_20 : decode cX5_had 20 = .ok (.iconst 4, 1) := by decide +kernel
theorem dX5_had_21 : decode cX5_had 21 = .ok (.iload_n 1, 1) := by decide +kernel
theorem dX5_had_22 : decode cX5_had 22 = .ok (.imul, 1) := by decide +kernel
theorem dX5_had_23 : decode cX5_had 23 = .ok (.iload_n 2, 1) := by decide +kernel
theorem dX5_had_24 : decode cX5_had 24 = .ok (.iadd, 1) := by decide +kernel
theorem dX5_had_25 : decode cX5_had 25 = .ok (.iaload, 1) := by decide +kernel
theorem dX5_had_26 : decode cX5_had 26 = .ok (.goto 4, 3) := by decide +kernel
theorem dX5_had_29 : decode cX5_had 29 = .ok (.iconst (-1), 1) := by decide +kernel
theorem dX5_had_30 : decode cX5_had 30 = .ok (.ireturn, 1) := by decide +kernel
theorem dX5_locked_0 : decode cX5_locked 0 = .ok (.aload_n 0, 1) := by decide +kernel
theorem dX5_locked_1 : decode cX5_locked 1 = .ok (.iload_n 1, 1) := by decide +kernel
theorem dX5_locked_2 : decode cX5_locked 2 = .ok (.invokevirtual 99, 3) := by decide +kernel
theorem dX5_locked_5 : decode cX5_locked 5 = .ok (.ifCond .eq 25, 3) := by decide +kernel
theorem dX5_locked_8 : decode cX5_locked 8 = .ok (.aload_n 0, 1) := by decide +kernel
theorem dX5_locked_9 : decode cX5_locked 9 = .ok (.iload_n 2, 1) := by decide +kernel
theorem dX5_locked_10 : decode cX5_locked 10 = .ok (.invokevirtual 106, 3) := by decide +kernel
theorem dX5_locked_13 : decode cX5_locked 13 = .ok (.ifCond .eq 17, 3) := by decide +kernel
theorem dX5_locked_16 : decode cX5_locked 16 = .ok (.aload_n 0, 1) := by decide +kernel
theorem dX5_locked_17 : decode cX5_locked 17 = .ok (.getfield 70, 3) := by decide +kernel
theorem dX5_locked_20 : decode cX5_locked 20 = .ok (.bipush 12, 2) := by decide +kernel
theorem dX5_locked_22 : decode cX5_locked 22 = .ok (.iload_n 1, 1) := by decide +kernel
theorem dX5_locked_23 : decode cX5_locked 23 = .ok (.imul, 1) := by decide +kernel
theorem dX5_locked_24 : decode cX5_locked 24 = .ok (.iload_n 2, 1) := by decide +kernel
theorem dX5_locked_25 : decode cX5_locked 25 = .ok (.iadd, 1) := by decide +kernel
theorem dX5_locked_26 : decode cX5_locked 26 = .ok (.iaload, 1) := by decide +kernel
theorem dX5_locked_27 : decode cX5_locked 27 = .ok (.goto 4, 3) := by decide +kernel
theorem dX5_locked_30 : decode cX5_locked 30 = .ok (.iconst (-1), 1) := by decide +kernel
theorem dX5_locked_31 : decode cX5_locked 31 = .ok (.ireturn, 1) := by decide +kernel
theorem dX5_sees_0 : decode cX5_sees 0 = .ok (.aload_n 0, 1) := by decide +kernel
theorem dX5_sees_1 : decode cX5_sees 1 = .ok (.iload_n 1, 1) := by decide +kernel
theorem dX5_sees_2 : decode cX5_sees 2 = .ok (.invokevirtual 103, 3) := by decide +kernel
theorem dX5_sees_5 : decode cX5_sees 5 = .ok (.ifCond .eq 11, 3) := by decide +kernel
theorem dX5_sees_8 : decode cX5_sees 8 = .ok (.aload_n 0, 1) := by decide +kernel
theorem dX5_sees_9 : decode cX5_sees 9 = .ok (.iload_n 2, 1) := by decide +kernel
theorem dX5_sees_10 : decode cX5_sees 10 = .ok (.invokevirtual 103, 3) := by decide +kernel
theorem dX5_sees_13 : decode cX5_sees 13 = .ok (.ifCond .ne 5, 3) := by decide +kernel
theorem dX5_sees_16 : decode cX5_sees 16 = .ok (.iconst (-1), 1) := by decide +kernel
theorem dX5_sees_17 : decode cX5_sees 17 = .ok (.ireturn, 1) := by decide +kernel
theorem dX5_sees_18 : decode cX5_sees 18 = .ok (.aload_n 0, 1) := by decide +kernel
theorem dX5_sees_19 : decode cX5_sees 19 = .ok (.getfield 33, 3) := by decide +kernel
theorem dX5_sees_22 : decode cX5_sees 22 = .ok (.iload_n 2, 1) := by decide +kernel
theorem dX5_sees_23 : decode cX5_sees 23 = .ok (.iaload, 1) := by decide +kernel
theorem dX5_sees_24 : decode cX5_sees 24 = .ok (.ifCond .ne 6, 3) := by decide +kernel
theorem dX5_sees_27 : decode cX5_sees 27 = .ok (.bipush (-4), 2) := by decide +kernel
theorem dX5_sees_29 : decode cX5_sees 29 = .ok (.ireturn, 1) := by decide +kernel
theorem dX5_sees_30 : decode cX5_sees 30 = .ok (.iload_n 1, 1) := by decide +kernel
theorem dX5_sees_31 : decode cX5_sees 31 = .ok (.iload_n 2, 1) := by decide +kernel
theorem dX5_sees_32 : decode cX5_sees 32 = .ok (.if_icmp .eq 12, 3) := by decide +kernel
theorem dX5_sees_35 : decode cX5_sees 35 = .ok (.aload_n 0, 1) := by decide +kernel
theorem dX5_sees_36 : decode cX5_sees 36 = .ok (.iload_n 1, 1) := by decide +kernel
theorem dX5_sees_37 : decode cX5_sees 37 = .ok (.iload_n 2, 1) := by decide +kernel
theorem dX5_sees_38 : decode cX5_sees 38 = .ok (.invokevirtual 109, 3) := by decide +kernel
theorem dX5_sees_41 : decode cX5_sees 41 = .ok (.ifCond .eq 7, 3) := by decide +kernel
theorem dX5_sees_44 : decode cX5_sees 44 = .ok (.iconst 1, 1) := by decide +kernel
theorem dX5_sees_45 : decode cX5_sees 45 = .ok (.goto 4, 3) := by decide +kernel
theorem dX5_sees_48 : decode cX5_sees 48 = .ok (.iconst 0, 1) := by decide +kernel
theorem dX5_sees_49 : decode cX5_sees 49 = .ok (.ireturn, 1) := by decide +kernel
theorem dX5_calm_0 : decode cX5_calm 0 = .ok (.iconst 1, 1) := by decide +kernel
theorem dX5_calm_1 : decode cX5_calm 1 = .ok (.istore_n 1, 1) := by decide +kernel
theorem dX5_calm_2 : decode cX5_calm 2 = .ok (.iconst 0, 1) := by decide +kernel
theorem dX5_calm_3 : decode cX5_calm 3 = .ok (.istore_n 2, 1) := by decide +kernel
theorem dX5_calm_4 : decode cX5_calm 4 = .ok (.iload_n 2, 1) := by decide +kernel
theorem dX5_calm_5 : decode cX5_calm 5 = .ok (.aload_n 0, 1) := by decide +kernel
theorem dX5_calm_6 : decode cX5_calm 6 = .ok (.getfield 7, 3) := by decide +kernel
theorem dX5_calm_9 : decode cX5_calm 9 = .ok (.if_icmp .ge 58, 3) := by decide +kernel
theorem dX5_calm_12 : decode cX5_calm 12 = .ok (.iconst 0, 1) := by decide +kernel
theorem dX5_calm_13 : decode cX5_calm 13 = .ok (.istore_n 3, 1) := by decide +kernel
theorem dX5_calm_14 : decode cX5_calm 14 = .ok (.iload_n 3, 1) := by decide +kernel
theorem dX5_calm_15 : decode cX5_calm 15 = .ok (.aload_n 0, 1) := by decide +kernel
theorem dX5_calm_16 : decode cX5_calm 16 = .ok (.getfield 7, 3) := by decide +kernel
theorem dX5_calm_19 : decode cX5_calm 19 = .ok (.if_icmp .ge 42, 3) := by decide +kernel
theorem dX5_calm_22 : decode cX5_calm 22 = .ok (.iload_n 1, 1) := by decide +kernel
theorem dX5_calm_23 : decode cX5_calm 23 = .ok (.ifCond .eq 30, 3) := by decide +kernel
theorem dX5_calm_26 : decode cX5_calm 26 = .ok (.aload_n 0, 1) := by decide +kernel
theorem dX5_calm_27 : decode cX5_calm 27 = .ok (.getfield 61, 3) := by decide +kernel
theorem dX5_calm_30 : decode cX5_calm 30 = .ok (.iconst 4, 1) := by decide +kernel
theorem dX5_calm_31 : decode cX5_calm 31 = .ok (.iload_n 2, 1) := by decide +kernel
theorem dX5_calm_32 : decode cX5_calm 32 = .ok (.imul, 1) := by decide +kernel
theorem dX5_calm_33 : decode cX5_calm 33 = .ok (.iload_n 3, 1) := by decide +kernel
theorem dX5_calm_34 : decode cX5_calm 34 = .ok (.iadd, 1) := by decide +kernel
theorem dX5_calm_35 : decode cX5_calm 35 = .ok (.iaload, 1) := by decide +kernel
theorem dX5_calm_36 : decode cX5_calm 36 = .ok (.aload_n 0, 1) := by decide +kernel
theorem dX5_calm_37 : decode cX5_calm 37 = .ok (.getfield 61, 3) := by decide +kernel
theorem dX5_calm_40 : decode cX5_calm 40 = .ok (.iconst 4, 1) := by decide +kernel
theorem dX5_calm_41 : decode cX5_calm 41 = .ok (.iload_n 3, 1) := by decide +kernel
theorem dX5_calm_42 : decode cX5_calm 42 = .ok (.imul, 1) := by decide +kernel
theorem dX5_calm_43 : decode cX5_calm 43 = .ok (.iload_n 3, 1) := by decide +kernel
theorem dX5_calm_44 : decode cX5_calm 44 = .ok (.iadd, 1) := by decide +kernel
theorem dX5_calm_45 : decode cX5_calm 45 = .ok (.iaload, 1) := by decide +kernel
theorem dX5_calm_46 : decode cX5_calm 46 = .ok (.if_icmp .ne 7, 3) := by decide +kernel
theorem dX5_calm_49 : decode cX5_calm 49 = .ok (.iconst 1, 1) := by decide +kernel
theorem dX5_calm_50 : decode cX5_calm 50 = .ok (.goto 4, 3) := by decide +kernel
theorem dX5_calm_53 : decode cX5_calm 53 = .ok (.iconst 0, 1) := by decide +kernel
theorem dX5_calm_54 : decode cX5_calm 54 = .ok (.istore_n 1, 1) := by decide +kernel
theorem dX5_calm_55 : decode cX5_calm 55 = .ok (.iinc 3 1, 3) := by decide +kernel
theorem dX5_calm_58 : decode cX5_calm 58 = .ok (.goto (-44), 3) := by decide +kernel
theorem dX5_calm_61 : decode cX5_calm 61 = .ok (.iinc 2 1, 3) := by decide +kernel
theorem dX5_calm_64 : decode cX5_calm 64 = .ok (.goto (-60), 3) := by decide +kernel
theorem dX5_calm_67 : decode cX5_calm 67 = .ok (.iload_n 1, 1) := by decide +kernel
theorem dX5_calm_68 : decode cX5_calm 68 = .ok (.ifCond .eq 7, 3) := by decide +kernel
theorem dX5_calm_71 : decode cX5_calm 71 = .ok (.iconst 1, 1) := by decide +kernel
theorem dX5_calm_72 : decode cX5_calm 72 = .ok (.goto 4, 3) := by decide +kernel
theorem dX5_calm_75 : decode cX5_calm 75 = .ok (.iconst 0, 1) := by decide +kernel
theorem dX5_calm_76 : decode cX5_calm 76 = .ok (.ireturn, 1) := by decide +kernel
theorem dX5_count_0 : decode cX5_count 0 = .ok (.iconst 0, 1) := by decide +kernel
theorem dX5_count_1 : decode cX5_count 1 = .ok (.istore_n 2, 1) := by decide +kernel
theorem dX5_count_2 : decode cX5_count 2 = .ok (.iconst 0, 1) := by decide +kernel
theorem dX5_count_3 : decode cX5_count 3 = .ok (.istore_n 3, 1) := by decide +kernel
theorem dX5_count_4 : decode cX5_count 4 = .ok (.iconst 0, 1) := by decide +kernel
theorem dX5_count_5 : decode cX5_count 5 = .ok (.istore 4, 2) := by decide +kernel
theorem dX5_count_7 : decode cX5_count 7 = .ok (.iconst 0, 1) := by decide +kernel
theorem dX5_count_8 : decode cX5_count 8 = .ok (.istore 5, 2) := by decide +kernel
theorem dX5_count_10 : decode cX5_count 10 = .ok (.iconst 0, 1) := by decide +kernel
theorem dX5_count_11 : decode cX5_count 11 = .ok (.istore 6, 2) := by decide +kernel
theorem dX5_count_13 : decode cX5_count 13 = .ok (.iload 6, 2) := by decide +kernel
theorem dX5_count_15 : decode cX5_count 15 = .ok (.aload_n 0, 1) := by decide +kernel
theorem dX5_count_16 : decode cX5_count 16 = .ok (.getfield 92, 3) := by decide +kernel
theorem dX5_count_19 : decode cX5_count 19 = .ok (.if_icmp .ge 86, 3) := by decide +kernel
theorem dX5_count_22 : decode cX5_count 22 = .ok (.iload_n 2, 1) := by decide +kernel
theorem dX5_count_23 : decode cX5_count 23 = .ok (.aload_n 0, 1) := by decide +kernel
theorem dX5_count_24 : decode cX5_count 24 = .ok (.getfield 27, 3) := by decide +kernel
theorem dX5_count_27 : decode cX5_count 27 = .ok (.iload 6, 2) := by decide +kernel
theorem dX5_count_29 : decode cX5_count 29 = .ok (.iaload, 1) := by decide +kernel
theorem dX5_count_30 : decode cX5_count 30 = .ok (.iconst 2, 1) := by decide +kernel
theorem dX5_count_31 : decode cX5_count 31 = .ok (.if_icmp .ne 7, 3) := by decide +kernel
theorem dX5_count_34 : decode cX5_count 34 = .ok (.iconst 1, 1) := by decide +kernel
theorem dX5_count_35 : decode cX5_count 35 = .ok (.goto 4, 3) := by decide +kernel
theorem dX5_count_38 : decode cX5_count 38 = .ok (.iconst 0, 1) := by decide +kernel
theorem dX5_count_39 : decode cX5_count 39 = .ok (.iadd, 1) := by decide +kernel
theorem dX5_count_40 : decode cX5_count 40 = .ok (.istore_n 2, 1) := by decide +kernel
theorem dX5_count_41 : decode cX5_count 41 = .ok (.iload_n 3, 1) := by decide +kernel
theorem dX5_count_42 : decode cX5_count 42 = .ok (.aload_n 0, 1) := by decide +kernel
theorem dX5_count_43 : decode cX5_count 43 = .ok (.getfield 27, 3) := by decide +kernel
theorem dX5_count_46 : decode cX5_count 46 = .ok (.iload 6, 2) := by decide +kernel
theorem dX5_count_48 : decode cX5_count 48 = .ok (.iaload, 1) := by decide +kernel
theorem dX5_count_49 : decode cX5_count 49 = .ok (.iconst 3, 1) := by decide +kernel
theorem dX5_count_50 : decode cX5_count 50 = .ok (.if_icmp .ne 7, 3) := by decide +kernel
theorem dX5_count_53 : decode cX5_count 53 = .ok (.iconst 1, 1) := by decide +kernel
theorem dX5_count_54 : decode cX5_count 54 = .ok (.goto 4, 3) := by decide +kernel
theorem dX5_count_57 : decode cX5_count 57 = .ok (.iconst 0, 1) := by decide +kernel
theorem dX5_count_58 : decode cX5_count 58 = .ok (.iadd, 1) := by decide +kernel
theorem dX5_count_59 : decode cX5_count 59 = .ok (.istore_n 3, 1) := by decide +kernel
theorem dX5_count_60 : decode cX5_count 60 = .ok (.iload 4, 2) := by decide +kernel
theorem dX5_count_62 : decode cX5_count 62 = .ok (.aload_n 0, 1) := by decide +kernel
theorem dX5_count_63 : decode cX5_count 63 = .ok (.getfield 33, 3) := by decide +kernel
theorem dX5_count_66 : decode cX5_count 66 = .ok (.iload 6, 2) := by decide +kernel
theorem dX5_count_68 : decode cX5_count 68 = .ok (.iaload, 1) := by decide +kernel
theorem dX5_count_69 : decode cX5_count 69 = .ok (.ifCond .le 7, 3) := by decide +kernel
theorem dX5_count_72 : decode cX5_count 72 = .ok (.iconst 1, 1) := by decide +kernel
theorem dX5_count_73 : decode cX5_count 73 = .ok (.goto 4, 3) := by decide +kernel
theorem dX5_count_76 : decode cX5_count 76 = .ok (.iconst 0, 1) := by decide +kernel
theorem dX5_count_77 : decode cX5_count 77 = .ok (.iadd, 1) := by decide +kernel
theorem dX5_count_78 : decode cX5_count 78 = .ok (.istore 4, 2) := by decide +kernel
theorem dX5_count_80 : decode cX5_count 80 = .ok (.iload 5, 2) := by decide +kernel
theorem dX5_count_82 : decode cX5_count 82 = .ok (.aload_n 0, 1) := by decide +kernel
theorem dX5_count_83 : decode cX5_count 83 = .ok (.iload 6, 2) := by decide +kernel
theorem dX5_count_85 : decode cX5_count 85 = .ok (.invokevirtual 168, 3) := by decide +kernel
theorem dX5_count_88 : decode cX5_count 88 = .ok (.ifCond .eq 7, 3) := by decide +kernel
theorem dX5_count_91 : decode cX5_count 91 = .ok (.iconst 1, 1) := by decide +kernel
theorem dX5_count_92 : decode cX5_count 92 = .ok (.goto 4, 3) := by decide +kernel
theorem dX5_count_95 : decode cX5_count 95 = .ok (.iconst 0, 1) := by decide +kernel
theorem dX5_count_96 : decode cX5_count 96 = .ok (.iadd, 1) := by decide +kernel
theorem dX5_count_97 : decode cX5_count 97 = .ok (.istore 5, 2) := by decide +kernel
theorem dX5_count_99 : decode cX5_count 99 = .ok (.iinc 6 1, 3) := by decide +kernel
theorem dX5_count_102 : decode cX5_count 102 = .ok (.goto (-89), 3) := by decide +kernel
theorem dX5_count_105 : decode cX5_count 105 = .ok (.iconst 0, 1) := by decide +kernel
theorem dX5_count_106 : decode cX5_count 106 = .ok (.istore 6, 2) := by decide +kernel
theorem dX5_count_108 : decode cX5_count 108 = .ok (.iconst 0, 1) := by decide +kernel
theorem dX5_count_109 : decode cX5_count 109 = .ok (.istore 7, 2) := by decide +kernel
theorem dX5_count_111 : decode cX5_count 111 = .ok (.iload 7, 2) := by decide +kernel
theorem dX5_count_113 : decode cX5_count 113 = .ok (.bipush 48, 2) := by decide +kernel
theorem dX5_count_115 : decode cX5_count 115 = .ok (.if_icmp .ge 31, 3) := by decide +kernel
theorem dX5_count_118 : decode cX5_count 118 = .ok (.iload 6, 2) := by decide +kernel
theorem dX5_count_120 : decode cX5_count 120 = .ok (.aload_n 0, 1) := by decide +kernel
theorem dX5_count_121 : decode cX5_count 121 = .ok (.getfield 70, 3) := by decide +kernel
theorem dX5_count_124 : decode cX5_count 124 = .ok (.iload 7, 2) := by decide +kernel
theorem dX5_count_126 : decode cX5_count 126 = .ok (.iaload, 1) := by decide +kernel
theorem dX5_count_127 : decode cX5_count 127 = .ok (.bipush (-4), 2) := by decide +kernel
theorem dX5_count_129 : decode cX5_count 129 = .ok (.if_icmp .eq 7, 3) := by decide +kernel
theorem dX5_count_132 : decode cX5_count 132 = .ok (.iconst 1, 1) := by decide +kernel
theorem dX5_count_133 : decode cX5_count 133 = .ok (.goto 4, 3) := by decide +kernel
theorem dX5_count_136 : decode cX5_count 136 = .ok (.iconst 0, 1) := by decide +kernel
theorem dX5_count_137 : decode cX5_count 137 = .ok (.iadd, 1) := by decide +kernel
theorem dX5_count_138 : decode cX5_count 138 = .ok (.istore 6, 2) := by decide +kernel
theorem dX5_count_140 : decode cX5_count 140 = .ok (.iinc 7 1, 3) := by decide +kernel
theorem dX5_count_143 : decode cX5_count 143 = .ok (.goto (-32), 3) := by decide +kernel
theorem dX5_count_146 : decode cX5_count 146 = .ok (.iload_n 1, 1) := by decide +kernel
theorem dX5_count_147 : decode cX5_count 147 = .ok (.tableswitch 91 0 9 #[53, 58, 63, 68, 73, 78, 80, 82, 85, 88], 53) := by decide +kernel
theorem dX5_count_200 : decode cX5_count 200 = .ok (.aload_n 0, 1) := by decide +kernel
theorem dX5_count_201 : decode cX5_count 201 = .ok (.getfield 7, 3) := by decide +kernel
theorem dX5_count_204 : decode cX5_count 204 = .ok (.ireturn, 1) := by decide +kernel
theorem dX5_count_205 : decode cX5_count 205 = .ok (.aload_n 0, 1) := by decide +kernel
theorem dX5_count_206 : decode cX5_count 206 = .ok (.getfield 13, 3) := by decide +kernel
theorem dX5_count_209 : decode cX5_count 209 = .ok (.ireturn, 1) := by decide +kernel
theorem dX5_count_210 : decode cX5_count 210 = .ok (.aload_n 0, 1) := by decide +kernel
theorem dX5_count_211 : decode cX5_count 211 = .ok (.getfield 89, 3) := by decide +kernel
theorem dX5_count_214 : decode cX5_count 214 = .ok (.ireturn, 1) := by decide +kernel
theorem dX5_count_215 : decode cX5_count 215 = .ok (.aload_n 0, 1) := by decide +kernel
theorem dX5_count_216 : decode cX5_count 216 = .ok (.getfield 92, 3) := by decide +kernel
theorem dX5_count_219 : decode cX5_count 219 = .ok (.ireturn, 1) := by decide +kernel
theorem dX5_count_220 : decode cX5_count 220 = .ok (.aload_n 0, 1) := by decide +kernel
theorem dX5_count_221 : decode cX5_count 221 = .ok (.getfield 122, 3) := by decide +kernel
theorem dX5_count_224 : decode cX5_count 224 = .ok (.ireturn, 1) := by decide +kernel
theorem dX5_count_225 : decode cX5_count 225 = .ok (.iload_n 2, 1) := by decide +kernel
theorem dX5_count_226 : decode cX5_count 226 = .ok (.ireturn, 1) := by decide +kernel
theorem dX5_count_227 : decode cX5_count 227 = .ok (.iload_n 3, 1) := by decide +kernel
theorem dX5_count_228 : decode cX5_count 228 = .ok (.ireturn, 1) := by decide +kernel
theorem dX5_count_229 : decode cX5_count 229 = .ok (.iload 4, 2) := by decide +kernel
theorem dX5_count_231 : decode cX5_count 231 = .ok (.ireturn, 1) := by decide +kernel
theorem dX5_count_232 : decode cX5_count 232 = .ok (.iload 6, 2) := by decide +kernel
theorem dX5_count_234 : decode cX5_count 234 = .ok (.ireturn, 1) := by decide +kernel
theorem dX5_count_235 : decode cX5_count 235 = .ok (.iload 5, 2) := by decide +kernel
theorem dX5_count_237 : decode cX5_count 237 = .ok (.ireturn, 1) := by decide +kernel
theorem dX5_count_238 : decode cX5_count 238 = .ok (.iconst (-1), 1) := by decide +kernel
theorem dX5_count_239 : decode cX5_count 239 = .ok (.ireturn, 1) := by decide +kernel
end
section
theorem dJ9_max_7cf53_0 : decode cJ9_max_7cf53 0 = .ok (.iload_n 0, 1) := by decide +kernel
theorem dJ9_max_7cf53_1 : decode cJ9_max_7cf53 1 = .ok (.iload_n 1, 1) := by decide +kernel
theorem dJ9_max_7cf53_2 : decode cJ9_max_7cf53 2 = .ok (.if_icmp .lt 7, 3) := by decide +kernel
theorem dJ9_max_7cf53_5 : decode cJ9_max_7cf53 5 = .ok (.iload_n 0, 1) := by decide +kernel
theorem dJ9_max_7cf53_6 : decode cJ9_max_7cf53 6 = .ok (.goto 4, 3) := by decide +kernel
theorem dJ9_max_7cf53_9 : decode cJ9_max_7cf53 9 = .ok (.iload_n 1, 1) := by decide +kernel
theorem dJ9_max_7cf53_10 : decode cJ9_max_7cf53 10 = .ok (.ireturn, 1) := by decide +kernel
theorem dJ9_min_7cf53_0 : decode cJ9_min_7cf53 0 = .ok (.iload_n 0, 1) := by decide +kernel
theorem dJ9_min_7cf53_1 : decode cJ9_min_7cf53 1 = .ok (.iload_n 1, 1) := by decide +kernel
theorem dJ9_min_7cf53_2 : decode cJ9_min_7cf53 2 = .ok (.if_icmp .gt 7, 3) := by decide +kernel
theorem dJ9_min_7cf53_5 : decode cJ9_min_7cf53 5 = .ok (.iload_n 0, 1) := by decide +kernel
theorem dJ9_min_7cf53_6 : decode cJ9_min_7cf53 6 = .ok (.goto 4, 3) := by decide +kernel
theorem dJ9_min_7cf53_9 : decode cJ9_min_7cf53 9 = .ok (.iload_n 1, 1) := by decide +kernel
theorem dJ9_min_7cf53_10 : decode cJ9_min_7cf53 10 = .ok (.ireturn, 1) := by decide +kernel
theorem dJxa1e45_init_da8c8_0 : decode cJxa1e45_init_da8c8 0 = .ok (.aload_n 0, 1) := by decide +kernel
theorem dJxa1e45_init_da8c8_1 : decode cJxa1e45_init_da8c8 1 = .ok (.invokespecial 1, 3) := by decide +kernel
theorem dJxa1e45_init_da8c8_4 : decode cJxa1e45_init_da8c8 4 = .ok (.return_, 1) := by decide +kernel
theorem dJxc12de_init_da8c8_0 : decode cJxc12de_init_da8c8 0 = .ok (.aload_n 0, 1) := by decide +kernel
theorem dJxc12de_init_da8c8_1 : decode cJxc12de_init_da8c8 1 = .ok (.invokespecial 1, 3) := by decide +kernel
theorem dJxc12de_init_da8c8_4 : decode cJxc12de_init_da8c8 4 = .ok (.aload_n 0, 1) := by decide +kernel
theorem dJxc12de_init_da8c8_5 : decode cJxc12de_init_da8c8 5 = .ok (.iconst 0, 1) := by decide +kernel
theorem dJxc12de_init_da8c8_6 : decode cJxc12de_init_da8c8 6 = .ok (.putfield 7, 3) := by decide +kernel
theorem dJxc12de_init_da8c8_9 : decode cJxc12de_init_da8c8 9 = .ok (.return_, 1) := by decide +kernel
theorem dJx4a65c_init_da8c8_0 : decode cJx4a65c_init_da8c8 0 = .ok (.aload_n 0, 1) := by decide +kernel
theorem dJx4a65c_init_da8c8_1 : decode cJx4a65c_init_da8c8 1 = .ok (.invokespecial 1, 3) := by decide +kernel
theorem dJx4a65c_init_da8c8_4 : decode cJx4a65c_init_da8c8 4 = .ok (.aload_n 0, 1) := by decide +kernel
theorem dJx4a65c_init_da8c8_5 : decode cJx4a65c_init_da8c8 5 = .ok (.getstatic 39, 3) := by decide +kernel
theorem dJx4a65c_init_da8c8_8 : decode cJx4a65c_init_da8c8 8 = .ok (.putfield 9, 3) := by decide +kernel
theorem dJx4a65c_init_da8c8_11 : decode cJx4a65c_init_da8c8 11 = .ok (.return_, 1) := by decide +kernel
theorem dJx4a65c_grow_92f84_0 : decode cJx4a65c_grow_92f84 0 = .ok (.aload_n 0, 1) := by decide +kernel
theorem dJx4a65c_grow_92f84_1 : decode cJx4a65c_grow_92f84 1 = .ok (.getfield 9, 3) := by decide +kernel
theorem dJx4a65c_grow_92f84_4 : decode cJx4a65c_grow_92f84 4 = .ok (.arraylength, 1) := by decide +kernel
theorem dJx4a65c_grow_92f84_5 : decode cJx4a65c_grow_92f84 5 = .ok (.istore_n 2, 1) := by decide +kernel
theorem dJx4a65c_grow_92f84_6 : decode cJx4a65c_grow_92f84 6 = .ok (.iload_n 2, 1) := by decide +kernel
theorem dJx4a65c_grow_92f84_7 : decode cJx4a65c_grow_92f84 7 = .ok (.ifCond .gt 13, 3) := by decide +kernel
theorem dJx4a65c_grow_92f84_10 : decode cJx4a65c_grow_92f84 10 = .ok (.aload_n 0, 1) := by decide +kernel
theorem dJx4a65c_grow_92f84_11 : decode cJx4a65c_grow_92f84 11 = .ok (.getfield 9, 3) := by decide +kernel
theorem dJx4a65c_grow_92f84_14 : decode cJx4a65c_grow_92f84 14 = .ok (.getstatic 39, 3) := by decide +kernel
theorem dJx4a65c_grow_92f84_17 : decode cJx4a65c_grow_92f84 17 = .ok (.if_acmp .eq 28, 3) := by decide +kernel
theorem dJx4a65c_grow_92f84_20 : decode cJx4a65c_grow_92f84 20 = .ok (.iload_n 2, 1) := by decide +kernel
theorem dJx4a65c_grow_92f84_21 : decode cJx4a65c_grow_92f84 21 = .ok (.iload_n 1, 1) := by decide +kernel
theorem dJx4a65c_grow_92f84_22 : decode cJx4a65c_grow_92f84 22 = .ok (.iload_n 2, 1) := by decide +kernel
theorem dJx4a65c_grow_92f84_23 : decode cJx4a65c_grow_92f84 23 = .ok (.isub, 1) := by decide +kernel
theorem dJx4a65c_grow_92f84_24 : decode cJx4a65c_grow_92f84 24 = .ok (.iload_n 2, 1) := by decide +kernel
theorem dJx4a65c_grow_92f84_25 : decode cJx4a65c_grow_92f84 25 = .ok (.iconst 1, 1) := by decide +kernel
theorem dJx4a65c_grow_92f84_26 : decode cJx4a65c_grow_92f84 26 = .ok (.ishr, 1) := by decide +kernel
theorem dJx4a65c_grow_92f84_27 : decode cJx4a65c_grow_92f84 27 = .ok (.invokestatic 73, 3) := by decide +kernel
theorem dJx4a65c_grow_92f84_30 : decode cJx4a65c_grow_92f84 30 = .ok (.istore_n 3, 1) := by decide +kernel
theorem dJx4a65c_grow_92f84_31 : decode cJx4a65c_grow_92f84 31 = .ok (.aload_n 0, 1) := by decide +kernel
theorem dJx4a65c_grow_92f84_32 : decode cJx4a65c_grow_92f84 32 = .ok (.aload_n 0, 1) := by decide +kernel
theorem dJx4a65c_grow_92f84_33 : decode cJx4a65c_grow_92f84 33 = .ok (.getfield 9, 3) := by decide +kernel
theorem dJx4a65c_grow_92f84_36 : decode cJx4a65c_grow_92f84 36 = .ok (.iload_n 3, 1) := by decide +kernel
theorem dJx4a65c_grow_92f84_37 : decode cJx4a65c_grow_92f84 37 = .ok (.invokestatic 66, 3) := by decide +kernel
theorem dJx4a65c_grow_92f84_40 : decode cJx4a65c_grow_92f84 40 = .ok (.dup_x1, 1) := by decide +kernel
theorem dJx4a65c_grow_92f84_41 : decode cJx4a65c_grow_92f84 41 = .ok (.putfield 9, 3) := by decide +kernel
theorem dJx4a65c_grow_92f84_44 : decode cJx4a65c_grow_92f84 44 = .ok (.areturn, 1) := by decide +kernel
theorem dJx4a65c_grow_92f84_45 : decode cJx4a65c_grow_92f84 45 = .ok (.aload_n 0, 1) := by decide +kernel
theorem dJx4a65c_grow_92f84_46 : decode cJx4a65c_grow_92f84 46 = .ok (.bipush 10, 2) := by decide +kernel
theorem dJx4a65c_grow_92f84_48 : decode cJx4a65c_grow_92f84 48 = .ok (.iload_n 1, 1) := by decide +kernel
theorem dJx4a65c_grow_92f84_49 : decode cJx4a65c_grow_92f84 49 = .ok (.invokestatic 79, 3) := by decide +kernel
theorem dJx4a65c_grow_92f84_52 : decode cJx4a65c_grow_92f84 52 = .ok (.anewarray 7, 3) := by decide +kernel
theorem dJx4a65c_grow_92f84_55 : decode cJx4a65c_grow_92f84 55 = .ok (.dup_x1, 1) := by decide +kernel
theorem dJx4a65c_grow_92f84_56 : decode cJx4a65c_grow_92f84 56 = .ok (.putfield 9, 3) := by decide +kernel
theorem dJx4a65c_grow_92f84_59 : decode cJx4a65c_grow_92f84 59 = .ok (.areturn, 1) := by decide +kernel
theorem dJx4a65c_grow_d5877_0 : decode cJx4a65c_grow_d5877 0 = .ok (.aload_n 0, 1) := by decide +kernel
theorem dJx4a65c_grow_d5877_1 : decode cJx4a65c_grow_d5877 1 = .ok (.aload_n 0, 1) := by decide +kernel
theorem dJx4a65c_grow_d5877_2 : decode cJx4a65c_grow_d5877 2 = .ok (.getfield 48, 3) := by decide +kernel
theorem dJx4a65c_grow_d5877_5 : decode cJx4a65c_grow_d5877 5 = .ok (.iconst 1, 1) := by decide +kernel
theorem dJx4a65c_grow_d5877_6 : decode cJx4a65c_grow_d5877 6 = .ok (.iadd, 1) := by decide +kernel
theorem dJx4a65c_grow_d5877_7 : decode cJx4a65c_grow_d5877 7 = .ok (.invokevirtual 69, 3) := by decide +kernel
theorem dJx4a65c_grow_d5877_10 : decode cJx4a65c_grow_d5877 10 = .ok (.areturn, 1) := by decide +kernel
theorem dJx4a65c_size_8abf5_0 : decode cJx4a65c_size_8abf5 0 = .ok (.aload_n 0, 1) := by decide +kernel
theorem dJx4a65c_size_8abf5_1 : decode cJx4a65c_size_8abf5 1 = .ok (.getfield 48, 3) := by decide +kernel
theorem dJx4a65c_size_8abf5_4 : decode cJx4a65c_size_8abf5 4 = .ok (.ireturn, 1) := by decide +kernel
theorem dJx4a65c_isEmpty_aae02_0 : decode cJx4a65c_isEmpty_aae02 0 = .ok (.aload_n 0, 1) := by decide +kernel
theorem dJx4a65c_isEmpty_aae02_1 : decode cJx4a65c_isEmpty_aae02 1 = .ok (.getfield 48, 3) := by decide +kernel
theorem dJx4a65c_isEmpty_aae02_4 : decode cJx4a65c_isEmpty_aae02 4 = .ok (.ifCond .ne 7, 3) := by decide +kernel
theorem dJx4a65c_isEmpty_aae02_7 : decode cJx4a65c_isEmpty_aae02 7 = .ok (.iconst 1, 1) := by decide +kernel
theorem dJx4a65c_isEmpty_aae02_8 : decode cJx4a65c_isEmpty_aae02 8 = .ok (.goto 4, 3) := by decide +kernel
theorem dJx4a65c_isEmpty_aae02_11 : decode cJx4a65c_isEmpty_aae02 11 = .ok (.iconst 0, 1) := by decide +kernel
theorem dJx4a65c_isEmpty_aae02_12 : decode cJx4a65c_isEmpty_aae02 12 = .ok (.ireturn, 1) := by decide +kernel
theorem dJx4a65c_elementData_915e3_0 : decode cJx4a65c_elementData_915e3 0 = .ok (.aload_n 0, 1) := by decide +kernel
theorem dJx4a65c_elementData_915e3_1 : decode cJx4a65c_elementData_915e3 1 = .ok (.getfield 9, 3) := by decide +kernel
theorem dJx4a65c_elementData_915e3_4 : decode cJx4a65c_elementData_915e3 4 = .ok (.iload_n 1, 1) := by decide +kernel
theorem dJx4a65c_elementData_915e3_5 : decode cJx4a65c_elementData_915e3 5 = .ok (.aaload, 1) := by decide +kernel
theorem dJx4a65c_elementData_915e3_6 : decode cJx4a65c_elementData_915e3 6 = .ok (.areturn, 1) := by decide +kernel
theorem dJx4a65c_get_915e3_0 : decode cJx4a65c_get_915e3 0 = .ok (.iload_n 1, 1) := by decide +kernel
theorem dJx4a65c_get_915e3_1 : decode cJx4a65c_get_915e3 1 = .ok (.aload_n 0, 1) := by decide +kernel
theorem dJx4a65c_get_915e3_2 : decode cJx4a65c_get_915e3 2 = .ok (.getfield 48, 3) := by decide +kernel
theorem dJx4a65c_get_915e3_5 : decode cJx4a65c_get_915e3 5 = .ok (.invokestatic 118, 3) := by decide +kernel
theorem dJx4a65c_get_915e3_8 : decode cJx4a65c_get_915e3 8 = .ok (.pop, 1) := by decide +kernel
theorem dJx4a65c_get_915e3_9 : decode cJx4a65c_get_915e3 9 = .ok (.aload_n 0, 1) := by decide +kernel
theorem dJx4a65c_get_915e3_10 : decode cJx4a65c_get_915e3 10 = .ok (.iload_n 1, 1) := by decide +kernel
theorem dJx4a65c_get_915e3_11 : decode cJx4a65c_get_915e3 11 = .ok (.invokevirtual 123, 3) := by decide +kernel
theorem dJx4a65c_get_915e3_14 : decode cJx4a65c_get_915e3 14 = .ok (.areturn, 1) := by decide +kernel
theorem dJx4a65c_add_72be8_0 : decode cJx4a65c_add_72be8 0 = .ok (.iload_n 3, 1) := by decide +kernel
theorem dJx4a65c_add_72be8_1 : decode cJx4a65c_add_72be8 1 = .ok (.aload_n 2, 1) := by decide +kernel
theorem dJx4a65c_add_72be8_2 : decode cJx4a65c_add_72be8 2 = .ok (.arraylength, 1) := by decide +kernel
theorem dJx4a65c_add_72be8_3 : decode cJx4a65c_add_72be8 3 = .ok (.if_icmp .ne 8, 3) := by decide +kernel
theorem dJx4a65c_add_72be8_6 : decode cJx4a65c_add_72be8 6 = .ok (.aload_n 0, 1) := by decide +kernel
theorem dJx4a65c_add_72be8_7 : decode cJx4a65c_add_72be8 7 = .ok (.invokevirtual 129, 3) := by decide +kernel
theorem dJx4a65c_add_72be8_10 : decode cJx4a65c_add_72be8 10 = .ok (.astore_n 2, 1) := by decide +kernel
theorem dJx4a65c_add_72be8_11 : decode cJx4a65c_add_72be8 11 = .ok (.aload_n 2, 1) := by decide +kernel
theorem dJx4a65c_add_72be8_12 : decode cJx4a65c_add_72be8 12 = .ok (.iload_n 3, 1) := by decide +kernel
theorem dJx4a65c_add_72be8_13 : decode cJx4a65c_add_72be8 13 = .ok (.aload_n 1, 1) := by decide +kernel
theorem dJx4a65c_add_72be8_14 : decode cJx4a65c_add_72be8 14 = .ok (.aastore, 1) := by decide +kernel
theorem dJx4a65c_add_72be8_15 : decode cJx4a65c_add_72be8 15 = .ok (.aload_n 0, 1) := by decide +kernel
theorem dJx4a65c_add_72be8_16 : decode cJx4a65c_add_72be8 16 = .ok (.iload_n 3, 1) := by decide +kernel
theorem dJx4a65c_add_72be8_17 : decode cJx4a65c_add_72be8 17 = .ok (.iconst 1, 1) := by decide +kernel
theorem dJx4a65c_add_72be8_18 : decode cJx4a65c_add_72be8 18 = .ok (.iadd, 1) := by decide +kernel
theorem dJx4a65c_add_72be8_19 : decode cJx4a65c_add_72be8 19 = .ok (.putfield 48, 3) := by decide +kernel
theorem dJx4a65c_add_72be8_22 : decode cJx4a65c_add_72be8 22 = .ok (.return_, 1) := by decide +kernel
theorem dJx4a65c_add_9ea2d_0 : decode cJx4a65c_add_9ea2d 0 = .ok (.aload_n 0, 1) := by decide +kernel
theorem dJx4a65c_add_9ea2d_1 : decode cJx4a65c_add_9ea2d 1 = .ok (.dup, 1) := by decide +kernel
theorem dJx4a65c_add_9ea2d_2 : decode cJx4a65c_add_9ea2d 2 = .ok (.getfield 63, 3) := by decide +kernel
theorem dJx4a65c_add_9ea2d_5 : decode cJx4a65c_add_9ea2d 5 = .ok (.iconst 1, 1) := by decide +kernel
theorem dJx4a65c_add_9ea2d_6 : decode cJx4a65c_add_9ea2d 6 = .ok (.iadd, 1) := by decide +kernel
theorem dJx4a65c_add_9ea2d_7 : decode cJx4a65c_add_9ea2d 7 = .ok (.putfield 63, 3) := by decide +kernel
theorem dJx4a65c_add_9ea2d_10 : decode cJx4a65c_add_9ea2d 10 = .ok (.aload_n 0, 1) := by decide +kernel
theorem dJx4a65c_add_9ea2d_11 : decode cJx4a65c_add_9ea2d 11 = .ok (.aload_n 1, 1) := by decide +kernel
theorem dJx4a65c_add_9ea2d_12 : decode cJx4a65c_add_9ea2d 12 = .ok (.aload_n 0, 1) := by decide +kernel
theorem dJx4a65c_add_9ea2d_13 : decode cJx4a65c_add_9ea2d 13 = .ok (.getfield 9, 3) := by decide +kernel
theorem dJx4a65c_add_9ea2d_16 : decode cJx4a65c_add_9ea2d 16 = .ok (.aload_n 0, 1) := by decide +kernel
theorem dJx4a65c_add_9ea2d_17 : decode cJx4a65c_add_9ea2d 17 = .ok (.getfield 48, 3) := by decide +kernel
theorem dJx4a65c_add_9ea2d_20 : decode cJx4a65c_add_9ea2d 20 = .ok (.invokevirtual 131, 3) := by decide +kernel
theorem dJx4a65c_add_9ea2d_23 : decode cJx4a65c_add_9ea2d 23 = .ok (.iconst 1, 1) := by decide +kernel
theorem dJx4a65c_add_9ea2d_24 : decode cJx4a65c_add_9ea2d 24 = .ok (.ireturn, 1) := by decide +kernel
theorem dJx4a65c_remove_915e3_0 : decode cJx4a65c_remove_915e3 0 = .ok (.iload_n 1, 1) := by decide +kernel
theorem dJx4a65c_remove_915e3_1 : decode cJx4a65c_remove_915e3 1 = .ok (.aload_n 0, 1) := by decide +kernel
theorem dJx4a65c_remove_915e3_2 : decode cJx4a65c_remove_915e3 2 = .ok (.getfield 48, 3) := by decide +kernel
theorem dJx4a65c_remove_915e3_5 : decode cJx4a65c_remove_915e3 5 = .ok (.invokestatic 118, 3) := by decide +kernel
theorem dJx4a65c_remove_915e3_8 : decode cJx4a65c_remove_915e3 8 = .ok (.pop, 1) := by decide +kernel
theorem dJx4a65c_remove_915e3_9 : decode cJx4a65c_remove_915e3 9 = .ok (.aload_n 0, 1) := by decide +kernel
theorem dJx4a65c_remove_915e3_10 : decode cJx4a65c_remove_915e3 10 = .ok (.getfield 9, 3) := by decide +kernel
theorem dJx4a65c_remove_915e3_13 : decode cJx4a65c_remove_915e3 13 = .ok (.astore_n 2, 1) := by decide +kernel
theorem dJx4a65c_remove_915e3_14 : decode cJx4a65c_remove_915e3 14 = .ok (.aload_n 2, 1) := by decide +kernel
theorem dJx4a65c_remove_915e3_15 : decode cJx4a65c_remove_915e3 15 = .ok (.iload_n 1, 1) := by decide +kernel
theorem dJx4a65c_remove_915e3_16 : decode cJx4a65c_remove_915e3 16 = .ok (.aaload, 1) := by decide +kernel
theorem dJx4a65c_remove_915e3_17 : decode cJx4a65c_remove_915e3 17 = .ok (.astore_n 3, 1) := by decide +kernel
theorem dJx4a65c_remove_915e3_18 : decode cJx4a65c_remove_915e3 18 = .ok (.aload_n 0, 1) := by decide +kernel
theorem dJx4a65c_remove_915e3_19 : decode cJx4a65c_remove_915e3 19 = .ok (.aload_n 2, 1) := by decide +kernel
theorem dJx4a65c_remove_915e3_20 : decode cJx4a65c_remove_915e3 20 = .ok (.iload_n 1, 1) := by decide +kernel
theorem dJx4a65c_remove_915e3_21 : decode cJx4a65c_remove_915e3 21 = .ok (.invokevirtual 144, 3) := by decide +kernel
theorem dJx4a65c_remove_915e3_24 : decode cJx4a65c_remove_915e3 24 = .ok (.aload_n 3, 1) := by decide +kernel
theorem dJx4a65c_remove_915e3_25 : decode cJx4a65c_remove_915e3 25 = .ok (.areturn, 1) := by decide +kernel
theorem dJx4a65c_fastRemove_b59b0_0 : decode cJx4a65c_fastRemove_b59b0 0 = .ok (.aload_n 0, 1) := by decide +kernel
theorem dJx4a65c_fastRemove_b59b0_1 : decode cJx4a65c_fastRemove_b59b0 1 = .ok (.dup, 1) := by decide +kernel
theorem dJx4a65c_fastRemove_b59b0_2 : decode cJx4a65c_fastRemove_b59b0 2 = .ok (.getfield 63, 3) := by decide +kernel
theorem dJx4a65c_fastRemove_b59b0_5 : decode cJx4a65c_fastRemove_b59b0 5 = .ok (.iconst 1, 1) := by decide +kernel
theorem dJx4a65c_fastRemove_b59b0_6 : decode cJx4a65c_fastRemove_b59b0 6 = .ok (.iadd, 1) := by decide +kernel
theorem dJx4a65c_fastRemove_b59b0_7 : decode cJx4a65c_fastRemove_b59b0 7 = .ok (.putfield 63, 3) := by decide +kernel
theorem dJx4a65c_fastRemove_b59b0_10 : decode cJx4a65c_fastRemove_b59b0 10 = .ok (.aload_n 0, 1) := by decide +kernel
theorem dJx4a65c_fastRemove_b59b0_11 : decode cJx4a65c_fastRemove_b59b0 11 = .ok (.getfield 48, 3) := by decide +kernel
theorem dJx4a65c_fastRemove_b59b0_14 : decode cJx4a65c_fastRemove_b59b0 14 = .ok (.iconst 1, 1) := by decide +kernel
theorem dJx4a65c_fastRemove_b59b0_15 : decode cJx4a65c_fastRemove_b59b0 15 = .ok (.isub, 1) := by decide +kernel
theorem dJx4a65c_fastRemove_b59b0_16 : decode cJx4a65c_fastRemove_b59b0 16 = .ok (.dup, 1) := by decide +kernel
theorem dJx4a65c_fastRemove_b59b0_17 : decode cJx4a65c_fastRemove_b59b0 17 = .ok (.istore_n 3, 1) := by decide +kernel
theorem dJx4a65c_fastRemove_b59b0_18 : decode cJx4a65c_fastRemove_b59b0 18 = .ok (.iload_n 2, 1) := by decide +kernel
theorem dJx4a65c_fastRemove_b59b0_19 : decode cJx4a65c_fastRemove_b59b0 19 = .ok (.if_icmp .le 15, 3) := by decide +kernel
theorem dJx4a65c_fastRemove_b59b0_22 : decode cJx4a65c_fastRemove_b59b0 22 = .ok (.aload_n 1, 1) := by decide +kernel
theorem dJx4a65c_fastRemove_b59b0_23 : decode cJx4a65c_fastRemove_b59b0 23 = .ok (.iload_n 2, 1) := by decide +kernel
theorem dJx4a65c_fastRemove_b59b0_24 : decode cJx4a65c_fastRemove_b59b0 24 = .ok (.iconst 1, 1) := by decide +kernel
theorem dJx4a65c_fastRemove_b59b0_25 : decode cJx4a65c_fastRemove_b59b0 25 = .ok (.iadd, 1) := by decide +kernel
theorem dJx4a65c_fastRemove_b59b0_26 : decode cJx4a65c_fastRemove_b59b0 26 = .ok (.aload_n 1, 1) := by decide +kernel
theorem dJx4a65c_fastRemove_b59b0_27 : decode cJx4a65c_fastRemove_b59b0 27 = .ok (.iload_n 2, 1) := by decide +kernel
theorem dJx4a65c_fastRemove_b59b0_28 : decode cJx4a65c_fastRemove_b59b0 28 = .ok (.iload_n 3, 1) := by decide +kernel
theorem dJx4a65c_fastRemove_b59b0_29 : decode cJx4a65c_fastRemove_b59b0 29 = .ok (.iload_n 2, 1) := by decide +kernel
theorem dJx4a65c_fastRemove_b59b0_30 : decode cJx4a65c_fastRemove_b59b0 30 = .ok (.isub, 1) := by decide +kernel
theorem dJx4a65c_fastRemove_b59b0_31 : decode cJx4a65c_fastRemove_b59b0 31 = .ok (.invokestatic 112, 3) := by decide +kernel
theorem dJx4a65c_fastRemove_b59b0_34 : decode cJx4a65c_fastRemove_b59b0 34 = .ok (.aload_n 1, 1) := by decide +kernel
theorem dJx4a65c_fastRemove_b59b0_35 : decode cJx4a65c_fastRemove_b59b0 35 = .ok (.aload_n 0, 1) := by decide +kernel
theorem dJx4a65c_fastRemove_b59b0_36 : decode cJx4a65c_fastRemove_b59b0 36 = .ok (.iload_n 3, 1) := by decide +kernel
theorem dJx4a65c_fastRemove_b59b0_37 : decode cJx4a65c_fastRemove_b59b0 37 = .ok (.dup_x1, 1) := by decide +kernel
theorem dJx4a65c_fastRemove_b59b0_38 : decode cJx4a65c_fastRemove_b59b0 38 = .ok (.putfield 48, 3) := by decide +kernel
theorem dJx4a65c_fastRemove_b59b0_41 : decode cJx4a65c_fastRemove_b59b0 41 = .ok (.aconst_null, 1) := by decide +kernel
theorem dJx4a65c_fastRemove_b59b0_42 : decode cJx4a65c_fastRemove_b59b0 42 = .ok (.aastore, 1) := by decide +kernel
theorem dJx4a65c_fastRemove_b59b0_43 : decode cJx4a65c_fastRemove_b59b0 43 = .ok (.return_, 1) := by decide +kernel
theorem dJ7_fill_53178_0 : decode cJ7_fill_53178 0 = .ok (.iconst 0, 1) := by decide +kernel
theorem dJ7_fill_53178_1 : decode cJ7_fill_53178 1 = .ok (.istore_n 2, 1) := by decide +kernel
theorem dJ7_fill_53178_2 : decode cJ7_fill_53178 2 = .ok (.aload_n 0, 1) := by decide +kernel
theorem dJ7_fill_53178_3 : decode cJ7_fill_53178 3 = .ok (.arraylength, 1) := by decide +kernel
theorem dJ7_fill_53178_4 : decode cJ7_fill_53178 4 = .ok (.istore_n 3, 1) := by decide +kernel
theorem dJ7_fill_53178_5 : decode cJ7_fill_53178 5 = .ok (.iload_n 2, 1) := by decide +kernel
theorem dJ7_fill_53178_6 : decode cJ7_fill_53178 6 = .ok (.iload_n 3, 1) := by decide +kernel
theorem dJ7_fill_53178_7 : decode cJ7_fill_53178 7 = .ok (.if_icmp .ge 13, 3) := by decide +kernel
theorem dJ7_fill_53178_10 : decode cJ7_fill_53178 10 = .ok (.aload_n 0, 1) := by decide +kernel
theorem dJ7_fill_53178_11 : decode cJ7_fill_53178 11 = .ok (.iload_n 2, 1) := by decide +kernel
theorem dJ7_fill_53178_12 : decode cJ7_fill_53178 12 = .ok (.iload_n 1, 1) := by decide +kernel
theorem dJ7_fill_53178_13 : decode cJ7_fill_53178 13 = .ok (.iastore, 1) := by decide +kernel
theorem dJ7_fill_53178_14 : decode cJ7_fill_53178 14 = .ok (.iinc 2 1, 3) := by decide +kernel
theorem dJ7_fill_53178_17 : decode cJ7_fill_53178 17 = .ok (.goto (-12), 3) := by decide +kernel
theorem dJ7_fill_53178_20 : decode cJ7_fill_53178 20 = .ok (.return_, 1) := by decide +kernel
theorem dJ7_copyOf_1904c_0 : decode cJ7_copyOf_1904c 0 = .ok (.aload_n 0, 1) := by decide +kernel
theorem dJ7_copyOf_1904c_1 : decode cJ7_copyOf_1904c 1 = .ok (.iload_n 1, 1) := by decide +kernel
theorem dJ7_copyOf_1904c_2 : decode cJ7_copyOf_1904c 2 = .ok (.aload_n 0, 1) := by decide +kernel
theorem dJ7_copyOf_1904c_3 : decode cJ7_copyOf_1904c 3 = .ok (.invokevirtual 86, 3) := by decide +kernel
theorem dJ7_copyOf_1904c_6 : decode cJ7_copyOf_1904c 6 = .ok (.invokestatic 300, 3) := by decide +kernel
theorem dJ7_copyOf_1904c_9 : decode cJ7_copyOf_1904c 9 = .ok (.areturn, 1) := by decide +kernel
theorem dJ7_copyOf_6403c_0 : decode cJ7_copyOf_6403c 0 = .ok (.aload_n 2, 1) := by decide +kernel
theorem dJ7_copyOf_6403c_1 : decode cJ7_copyOf_6403c 1 = .ok (.ldc 110, 2) := by decide +kernel
theorem dJ7_copyOf_6403c_3 : decode cJ7_copyOf_6403c 3 = .ok (.if_acmp .ne 10, 3) := by decide +kernel
theorem dJ7_copyOf_6403c_6 : decode cJ7_copyOf_6403c 6 = .ok (.iload_n 1, 1) := by decide +kernel
theorem dJ7_copyOf_6403c_7 : decode cJ7_copyOf_6403c 7 = .ok (.anewarray 2, 3) := by decide +kernel
theorem dJ7_copyOf_6403c_10 : decode cJ7_copyOf_6403c 10 = .ok (.goto 14, 3) := by decide +kernel
theorem dJ7_copyOf_6403c_13 : decode cJ7_copyOf_6403c 13 = .ok (.aload_n 2, 1) := by decide +kernel
theorem dJ7_copyOf_6403c_14 : decode cJ7_copyOf_6403c 14 = .ok (.invokevirtual 90, 3) := by decide +kernel
theorem dJ7_copyOf_6403c_17 : decode cJ7_copyOf_6403c 17 = .ok (.iload_n 1, 1) := by decide +kernel
theorem dJ7_copyOf_6403c_18 : decode cJ7_copyOf_6403c 18 = .ok (.invokestatic 95, 3) := by decide +kernel
theorem dJ7_copyOf_6403c_21 : decode cJ7_copyOf_6403c 21 = .ok (.checkcast 110, 3) := by decide +kernel
theorem dJ7_copyOf_6403c_24 : decode cJ7_copyOf_6403c 24 = .ok (.astore_n 3, 1) := by decide +kernel
theorem dJ7_copyOf_6403c_25 : decode cJ7_copyOf_6403c 25 = .ok (.aload_n 0, 1) := by decide +kernel
theorem dJ7_copyOf_6403c_26 : decode cJ7_copyOf_6403c 26 = .ok (.iconst 0, 1) := by decide +kernel
theorem dJ7_copyOf_6403c_27 : decode cJ7_copyOf_6403c 27 = .ok (.aload_n 3, 1) := by decide +kernel
theorem dJ7_copyOf_6403c_28 : decode cJ7_copyOf_6403c 28 = .ok (.iconst 0, 1) := by decide +kernel
theorem dJ7_copyOf_6403c_29 : decode cJ7_copyOf_6403c 29 = .ok (.aload_n 0, 1) := by decide +kernel
theorem dJ7_copyOf_6403c_30 : decode cJ7_copyOf_6403c 30 = .ok (.arraylength, 1) := by decide +kernel
theorem dJ7_copyOf_6403c_31 : decode cJ7_copyOf_6403c 31 = .ok (.iload_n 1, 1) := by decide +kernel
theorem dJ7_copyOf_6403c_32 : decode cJ7_copyOf_6403c 32 = .ok (.invokestatic 304, 3) := by decide +kernel
theorem dJ7_copyOf_6403c_35 : decode cJ7_copyOf_6403c 35 = .ok (.invokestatic 150, 3) := by decide +kernel
theorem dJ7_copyOf_6403c_38 : decode cJ7_copyOf_6403c 38 = .ok (.aload_n 3, 1) := by decide +kernel
theorem dJ7_copyOf_6403c_39 : decode cJ7_copyOf_6403c 39 = .ok (.areturn, 1) := by decide +kernel
theorem dJ15_checkIndex_7cf53_0 : decode cJ15_checkIndex_7cf53 0 = .ok (.iload_n 0, 1) := by decide +kernel
theorem dJ15_checkIndex_7cf53_1 : decode cJ15_checkIndex_7cf53 1 = .ok (.iload_n 1, 1) := by decide +kernel
theorem dJ15_checkIndex_7cf53_2 : decode cJ15_checkIndex_7cf53 2 = .ok (.aconst_null, 1) := by decide +kernel
theorem dJ15_checkIndex_7cf53_3 : decode cJ15_checkIndex_7cf53 3 = .ok (.invokestatic 105, 3) := by decide +kernel
theorem dJ15_checkIndex_7cf53_6 : decode cJ15_checkIndex_7cf53 6 = .ok (.ireturn, 1) := by decide +kernel
theorem dJ8_newLength_cabcc_0 : decode cJ8_newLength_cabcc 0 = .ok (.iload_n 0, 1) := by decide +kernel
theorem dJ8_newLength_cabcc_1 : decode cJ8_newLength_cabcc 1 = .ok (.iload_n 1, 1) := by decide +kernel
theorem dJ8_newLength_cabcc_2 : decode cJ8_newLength_cabcc 2 = .ok (.iload_n 2, 1) := by decide +kernel
theorem dJ8_newLength_cabcc_3 : decode cJ8_newLength_cabcc 3 = .ok (.invokestatic 194, 3) := by decide +kernel
theorem dJ8_newLength_cabcc_6 : decode cJ8_newLength_cabcc 6 = .ok (.iadd, 1) := by decide +kernel
theorem dJ8_newLength_cabcc_7 : decode cJ8_newLength_cabcc 7 = .ok (.istore_n 3, 1) := by decide +kernel
theorem dJ8_newLength_cabcc_8 : decode cJ8_newLength_cabcc 8 = .ok (.iconst 0, 1) := by decide +kernel
theorem dJ8_newLength_cabcc_9 : decode cJ8_newLength_cabcc 9 = .ok (.iload_n 3, 1) := by decide +kernel
theorem dJ8_newLength_cabcc_10 : decode cJ8_newLength_cabcc 10 = .ok (.if_icmp .ge 11, 3) := by decide +kernel
theorem dJ8_newLength_cabcc_13 : decode cJ8_newLength_cabcc 13 = .ok (.iload_n 3, 1) := by decide +kernel
theorem dJ8_newLength_cabcc_14 : decode cJ8_newLength_cabcc 14 = .ok (.ldc 200, 2) := by decide +kernel
theorem dJ8_newLength_cabcc_16 : decode cJ8_newLength_cabcc 16 = .ok (.if_icmp .gt 5, 3) := by decide +kernel
theorem dJ8_newLength_cabcc_19 : decode cJ8_newLength_cabcc 19 = .ok (.iload_n 3, 1) := by decide +kernel
theorem dJ8_newLength_cabcc_20 : decode cJ8_newLength_cabcc 20 = .ok (.ireturn, 1) := by decide +kernel
theorem dJ8_newLength_cabcc_21 : decode cJ8_newLength_cabcc 21 = .ok (.iload_n 0, 1) := by decide +kernel
theorem dJ8_newLength_cabcc_22 : decode cJ8_newLength_cabcc 22 = .ok (.iload_n 1, 1) := by decide +kernel
theorem dJ8_newLength_cabcc_23 : decode cJ8_newLength_cabcc 23 = .ok (.invokestatic 201, 3) := by decide +kernel
theorem dJ8_newLength_cabcc_26 : decode cJ8_newLength_cabcc 26 = .ok (.ireturn, 1) := by decide +kernel
theorem dJ8_hugeLength_7cf53_0 : decode cJ8_hugeLength_7cf53 0 = .ok (.iload_n 0, 1) := by decide +kernel
theorem dJ8_hugeLength_7cf53_1 : decode cJ8_hugeLength_7cf53 1 = .ok (.iload_n 1, 1) := by decide +kernel
theorem dJ8_hugeLength_7cf53_2 : decode cJ8_hugeLength_7cf53 2 = .ok (.iadd, 1) := by decide +kernel
theorem dJ8_hugeLength_7cf53_3 : decode cJ8_hugeLength_7cf53 3 = .ok (.istore_n 2, 1) := by decide +kernel
theorem dJ8_hugeLength_7cf53_4 : decode cJ8_hugeLength_7cf53 4 = .ok (.iload_n 2, 1) := by decide +kernel
theorem dJ8_hugeLength_7cf53_5 : decode cJ8_hugeLength_7cf53 5 = .ok (.ifCond .ge 44, 3) := by decide +kernel
theorem dJ8_hugeLength_7cf53_8 : decode cJ8_hugeLength_7cf53 8 = .ok (.new 204, 3) := by decide +kernel
theorem dJ8_hugeLength_7cf53_11 : decode cJ8_hugeLength_7cf53 11 = .ok (.dup, 1) := by decide +kernel
theorem dJ8_hugeLength_7cf53_12 : decode cJ8_hugeLength_7cf53 12 = .ok (.new 89, 3) := by decide +kernel
theorem dJ8_hugeLength_7cf53_15 : decode cJ8_hugeLength_7cf53 15 = .ok (.dup, 1) := by decide +kernel
theorem dJ8_hugeLength_7cf53_16 : decode cJ8_hugeLength_7cf53 16 = .ok (.invokespecial 91, 3) := by decide +kernel
theorem dJ8_hugeLength_7cf53_19 : decode cJ8_hugeLength_7cf53 19 = .ok (.ldc 206, 2) := by decide +kernel
theorem dJ8_hugeLength_7cf53_21 : decode cJ8_hugeLength_7cf53 21 = .ok (.invokevirtual 94, 3) := by decide +kernel
theorem dJ8_hugeLength_7cf53_24 : decode cJ8_hugeLength_7cf53 24 = .ok (.iload_n 0, 1) := by decide +kernel
theorem dJ8_hugeLength_7cf53_25 : decode cJ8_hugeLength_7cf53 25 = .ok (.invokevirtual 98, 3) := by decide +kernel
theorem dJ8_hugeLength_7cf53_28 : decode cJ8_hugeLength_7cf53 28 = .ok (.ldc 208, 2) := by decide +kernel
theorem dJ8_hugeLength_7cf53_30 : decode cJ8_hugeLength_7cf53 30 = .ok (.invokevirtual 94, 3) := by decide +kernel
theorem dJ8_hugeLength_7cf53_33 : decode cJ8_hugeLength_7cf53 33 = .ok (.iload_n 1, 1) := by decide +kernel
theorem dJ8_hugeLength_7cf53_34 : decode cJ8_hugeLength_7cf53 34 = .ok (.invokevirtual 98, 3) := by decide +kernel
theorem dJ8_hugeLength_7cf53_37 : decode cJ8_hugeLength_7cf53 37 = .ok (.ldc 210, 2) := by decide +kernel
theorem dJ8_hugeLength_7cf53_39 : decode cJ8_hugeLength_7cf53 39 = .ok (.invokevirtual 94, 3) := by decide +kernel
theorem dJ8_hugeLength_7cf53_42 : decode cJ8_hugeLength_7cf53 42 = .ok (.invokevirtual 101, 3) := by decide +kernel
theorem dJ8_hugeLength_7cf53_45 : decode cJ8_hugeLength_7cf53 45 = .ok (.invokespecial 212, 3) := by decide +kernel
theorem dJ8_hugeLength_7cf53_48 : decode cJ8_hugeLength_7cf53 48 = .ok (.athrow, 1) := by decide +kernel
theorem dJ8_hugeLength_7cf53_49 : decode cJ8_hugeLength_7cf53 49 = .ok (.iload_n 2, 1) := by decide +kernel
theorem dJ8_hugeLength_7cf53_50 : decode cJ8_hugeLength_7cf53 50 = .ok (.ldc 200, 2) := by decide +kernel
theorem dJ8_hugeLength_7cf53_52 : decode cJ8_hugeLength_7cf53 52 = .ok (.if_icmp .gt 6, 3) := by decide +kernel
theorem dJ8_hugeLength_7cf53_55 : decode cJ8_hugeLength_7cf53 55 = .ok (.ldc 200, 2) := by decide +kernel
theorem dJ8_hugeLength_7cf53_57 : decode cJ8_hugeLength_7cf53 57 = .ok (.ireturn, 1) := by decide +kernel
theorem dJ8_hugeLength_7cf53_58 : decode cJ8_hugeLength_7cf53 58 = .ok (.iload_n 2, 1) := by decide +kernel
theorem dJ8_hugeLength_7cf53_59 : decode cJ8_hugeLength_7cf53 59 = .ok (.ireturn, 1) := by decide +kernel
theorem dJ3_checkIndex_8e157_0 : decode cJ3_checkIndex_8e157 0 = .ok (.iload_n 0, 1) := by decide +kernel
theorem dJ3_checkIndex_8e157_1 : decode cJ3_checkIndex_8e157 1 = .ok (.ifCond .lt 8, 3) := by decide +kernel
theorem dJ3_checkIndex_8e157_4 : decode cJ3_checkIndex_8e157 4 = .ok (.iload_n 0, 1) := by decide +kernel
theorem dJ3_checkIndex_8e157_5 : decode cJ3_checkIndex_8e157 5 = .ok (.iload_n 1, 1) := by decide +kernel
theorem dJ3_checkIndex_8e157_6 : decode cJ3_checkIndex_8e157 6 = .ok (.if_icmp .lt 10, 3) := by decide +kernel
theorem dJ3_checkIndex_8e157_9 : decode cJ3_checkIndex_8e157 9 = .ok (.aload_n 2, 1) := by decide +kernel
theorem dJ3_checkIndex_8e157_10 : decode cJ3_checkIndex_8e157 10 = .ok (.iload_n 0, 1) := by decide +kernel
theorem dJ3_checkIndex_8e157_11 : decode cJ3_checkIndex_8e157 11 = .ok (.iload_n 1, 1) := by decide +kernel
theorem dJ3_checkIndex_8e157_12 : decode cJ3_checkIndex_8e157 12 = .ok (.invokestatic 95, 3) := by decide +kernel
theorem dJ3_checkIndex_8e157_15 : decode cJ3_checkIndex_8e157 15 = .ok (.athrow, 1) := by decide +kernel
theorem dJ3_checkIndex_8e157_16 : decode cJ3_checkIndex_8e157 16 = .ok (.iload_n 0, 1) := by decide +kernel
theorem dJ3_checkIndex_8e157_17 : decode cJ3_checkIndex_8e157 17 = .ok (.ireturn, 1) := by decide +kernel
theorem dL_law_0 : decode cL_law 0 = .ok (.new 7, 3) := by decide +kernel
theorem dL_law_3 : decode cL_law 3 = .ok (.dup, 1) := by decide +kernel
theorem dL_law_4 : decode cL_law 4 = .ok (.invokespecial 9, 3) := by decide +kernel
theorem dL_law_7 : decode cL_law 7 = .ok (.astore_n 1, 1) := by decide +kernel
theorem dL_law_8 : decode cL_law 8 = .ok (.new 10, 3) := by decide +kernel
theorem dL_law_11 : decode cL_law 11 = .ok (.dup, 1) := by decide +kernel
theorem dL_law_12 : decode cL_law 12 = .ok (.invokespecial 12, 3) := by decide +kernel
theorem dL_law_15 : decode cL_law 15 = .ok (.astore_n 2, 1) := by decide +kernel
theorem dL_law_16 : decode cL_law 16 = .ok (.iconst 0, 1) := by decide +kernel
theorem dL_law_17 : decode cL_law 17 = .ok (.istore_n 3, 1) := by decide +kernel
theorem dL_law_18 : decode cL_law 18 = .ok (.iload_n 3, 1) := by decide +kernel
theorem dL_law_19 : decode cL_law 19 = .ok (.aload_n 0, 1) := by decide +kernel
theorem dL_law_20 : decode cL_law 20 = .ok (.arraylength, 1) := by decide +kernel
theorem dL_law_21 : decode cL_law 21 = .ok (.iconst 5, 1) := by decide +kernel
theorem dL_law_22 : decode cL_law 22 = .ok (.isub, 1) := by decide +kernel
theorem dL_law_23 : decode cL_law 23 = .ok (.if_icmp .gt 828, 3) := by decide +kernel
theorem dL_law_26 : decode cL_law 26 = .ok (.aload_n 0, 1) := by decide +kernel
theorem dL_law_27 : decode cL_law 27 = .ok (.iload_n 3, 1) := by decide +kernel
theorem dL_law_28 : decode cL_law 28 = .ok (.iaload, 1) := by decide +kernel
theorem dL_law_29 : decode cL_law 29 = .ok (.bipush 31, 2) := by decide +kernel
theorem dL_law_31 : decode cL_law 31 = .ok (.iand, 1) := by decide +kernel
theorem dL_law_32 : decode cL_law 32 = .ok (.tableswitch 813 0 20 #[100, 133, 182, 205, 239, 283, 356, 409, 432, 455, 478, 501, 534, 567, 600, 633, 667, 711, 744, 777, 790], 100) := by decide +kernel
theorem dL_law_132 : decode cL_law 132 = .ok (.aload_n 1, 1) := by decide +kernel
theorem dL_law_133 : decode cL_law 133 = .ok (.aload_n 0, 1) := by decide +kernel
theorem dL_law_134 : decode cL_law 134 = .ok (.iload_n 3, 1) := by decide +kernel
theorem dL_law_135 : decode cL_law 135 = .ok (.iconst 1, 1) := by decide +kernel
theorem dL_law_136 : decode cL_law 136 = .ok (.iadd, 1) := by decide +kernel
theorem dL_law_137 : decode cL_law 137 = .ok (.iaload, 1) := by decide +kernel
theorem dL_law_138 : decode cL_law 138 = .ok (.aload_n 0, 1) := by decide +kernel
theorem dL_law_139 : decode cL_law 139 = .ok (.iload_n 3, 1) := by decide +kernel
theorem dL_law_140 : decode cL_law 140 = .ok (.iconst 2, 1) := by decide +kernel
theorem dL_law_141 : decode cL_law 141 = .ok (.iadd, 1) := by decide +kernel
theorem dL_law_142 : decode cL_law 142 = .ok (.iaload, 1) := by decide +kernel
theorem dL_law_143 : decode cL_law 143 = .ok (.invokevirtual 13, 3) := by decide +kernel
theorem dL_law_146 : decode cL_law 146 = .ok (.aload_n 2, 1) := by decide +kernel
theorem dL_law_147 : decode cL_law 147 = .ok (.aload_n 0, 1) := by decide +kernel
theorem dL_law_148 : decode cL_law 148 = .ok (.iload_n 3, 1) := by decide +kernel
theorem dL_law_149 : decode cL_law 149 = .ok (.iconst 1, 1) := by decide +kernel
theorem dL_law_150 : decode cL_law 150 = .ok (.iadd, 1) := by decide +kernel
theorem dL_law_151 : decode cL_law 151 = .ok (.iaload, 1) := by decide +kernel
theorem dL_law_152 : decode cL_law 152 = .ok (.aload_n 0, 1) := by decide +kernel
theorem dL_law_153 : decode cL_law 153 = .ok (.iload_n 3, 1) := by decide +kernel
theorem dL_law_154 : decode cL_law 154 = .ok (.iconst 2, 1) := by decide +kernel
theorem dL_law_155 : decode cL_law 155 = .ok (.iadd, 1) := by decide +kernel
theorem dL_law_156 : decode cL_law 156 = .ok (.iaload, 1) := by decide +kernel
theorem dL_law_157 : decode cL_law 157 = .ok (.invokevirtual 17, 3) := by decide +kernel
theorem dL_law_160 : decode cL_law 160 = .ok (.if_icmp .eq 685, 3) := by decide +kernel
theorem dL_law_163 : decode cL_law 163 = .ok (.iconst 0, 1) := by decide +kernel
theorem dL_law_164 : decode cL_law 164 = .ok (.ireturn, 1) := by decide +kernel
theorem dL_law_165 : decode cL_law 165 = .ok (.aload_n 1, 1) := by decide +kernel
theorem dL_law_166 : decode cL_law 166 = .ok (.aload_n 0, 1) := by decide +kernel
theorem dL_law_167 : decode cL_law 167 = .ok (.iload_n 3, 1) := by decide +kernel
theorem dL_law_168 : decode cL_law 168 = .ok (.iconst 1, 1) := by decide +kernel
theorem dL_law_169 : decode cL_law 169 = .ok (.iadd, 1) := by decide +kernel
theorem dL_law_170 : decode cL_law 170 = .ok (.iaload, 1) := by decide +kernel
theorem dL_law_171 : decode cL_law 171 = .ok (.aload_n 0, 1) := by decide +kernel
theorem dL_law_172 : decode cL_law 172 = .ok (.iload_n 3, 1) := by decide +kernel
theorem dL_law_173 : decode cL_law 173 = .ok (.iconst 2, 1) := by decide +kernel
theorem dL_law_174 : decode cL_law 174 = .ok (.iadd, 1) := by decide +kernel
theorem dL_law_175 : decode cL_law 175 = .ok (.iaload, 1) := by decide +kernel
theorem dL_law_176 : decode cL_law 176 = .ok (.ifCond .eq 7, 3) := by decide +kernel
theorem dL_law_179 : decode cL_law 179 = .ok (.iconst 1, 1) := by decide +kernel
theorem dL_law_180 : decode cL_law 180 = .ok (.goto 4, 3) := by decide +kernel
theorem dL_law_183 : decode cL_law 183 = .ok (.iconst 0, 1) := by decide +kernel
theorem dL_law_184 : decode cL_law 184 = .ok (.invokevirtual 18, 3) := by decide +kernel
theorem dL_law_187 : decode cL_law 187 = .ok (.aload_n 2, 1) := by decide +kernel
theorem dL_law_188 : decode cL_law 188 = .ok (.aload_n 0, 1) := by decide +kernel
theorem dL_law_189 : decode cL_law 189 = .ok (.iload_n 3, 1) := by decide +kernel
theorem dL_law_190 : decode cL_law 190 = .ok (.iconst 1, 1) := by decide +kernel
theorem dL_law_191 : decode cL_law 191 = .ok (.iadd, 1) := by decide +kernel
theorem dL_law_192 : decode cL_law 192 = .ok (.iaload, 1) := by decide +kernel
theorem dL_law_193 : decode cL_law 193 = .ok (.aload_n 0, 1) := by decide +kernel
theorem dL_law_194 : decode cL_law 194 = .ok (.iload_n 3, 1) := by decide +kernel
theorem dL_law_195 : decode cL_law 195 = .ok (.iconst 2, 1) := by decide +kernel
theorem dL_law_196 : decode cL_law 196 = .ok (.iadd, 1) := by decide +kernel
theorem dL_law_197 : decode cL_law 197 = .ok (.iaload, 1) := by decide +kernel
theorem dL_law_198 : decode cL_law 198 = .ok (.ifCond .eq 7, 3) := by decide +kernel
theorem dL_law_201 : decode cL_law 201 = .ok (.iconst 1, 1) := by decide +kernel
theorem dL_law_202 : decode cL_law 202 = .ok (.goto 4, 3) := by decide +kernel
theorem dL_law_205 : decode cL_law 205 = .ok (.iconst 0, 1) := by decide +kernel
theorem dL_law_206 : decode cL_law 206 = .ok (.invokevirtual 22, 3) := by decide +kernel
theorem dL_law_209 : decode cL_law 209 = .ok (.if_icmp .eq 636, 3) := by decide +kernel
theorem dL_law_212 : decode cL_law 212 = .ok (.iconst 0, 1) := by decide +kernel
theorem dL_law_213 : decode cL_law 213 = .ok (.ireturn, 1) := by decide +kernel
theorem dL_law_214 : decode cL_law 214 = .ok (.aload_n 1, 1) := by decide +kernel
theorem dL_law_215 : decode cL_law 215 = .ok (.aload_n 0, 1) := by decide +kernel
theorem dL_law_216 : decode cL_law 216 = .ok (.iload_n 3, 1) := by decide +kernel
theorem dL_law_217 : decode cL_law 217 = .ok (.iconst 1, 1) := by decide +kernel
theorem dL_law_218 : decode cL_law 218 = .ok (.iadd, 1) := by decide +kernel
theorem dL_law_219 : decode cL_law 219 = .ok (.iaload, 1) := by decide +kernel
theorem dL_law_220 : decode cL_law 220 = .ok (.invokevirtual 23, 3) := by decide +kernel
theorem dL_law_223 : decode cL_law 223 = .ok (.aload_n 2, 1) := by decide +kernel
theorem dL_law_224 : decode cL_law 224 = .ok (.aload_n 0, 1) := by decide +kernel
theorem dL_law_225 : decode cL_law 225 = .ok (.iload_n 3, 1) := by decide +kernel
theorem dL_law_226 : decode cL_law 226 = .ok (.iconst 1, 1) := by decide +kernel
theorem dL_law_227 : decode cL_law 227 = .ok (.iadd, 1) := by decide +kernel
theorem dL_law_228 : decode cL_law 228 = .ok (.iaload, 1) := by decide +kernel
theorem dL_law_229 : decode cL_law 229 = .ok (.invokevirtual 27, 3) := by decide +kernel
theorem dL_law_232 : decode cL_law 232 = .ok (.if_icmp .eq 613, 3) := by decide +kernel
theorem dL_law_235 : decode cL_law 235 = .ok (.iconst 0, 1) := by decide +kernel
theorem dL_law_236 : decode cL_law 236 = .ok (.ireturn, 1) := by decide +kernel
theorem dL_law_237 : decode cL_law 237 = .ok (.aload_n 1, 1) := by decide +kernel
theorem dL_law_238 : decode cL_law 238 = .ok (.aload_n 0, 1) := by decide +kernel
theorem dL_law_239 : decode cL_law 239 = .ok (.iload_n 3, 1) := by decide +kernel
theorem dL_law_240 : decode cL_law 240 = .ok (.iconst 1, 1) := by decide +kernel
theorem dL_law_241 : decode cL_law 241 = .ok (.iadd, 1) := by decide +kernel
theorem dL_law_242 : decode cL_law 242 = .ok (.iaload, 1) := by decide +kernel
theorem dL_law_243 : decode cL_law 243 = .ok (.aload_n 0, 1) := by decide +kernel
theorem dL_law_244 : decode cL_law 244 = .ok (.iload_n 3, 1) := by decide +kernel
theorem dL_law_245 : decode cL_law 245 = .ok (.iconst 2, 1) := by decide +kernel
theorem dL_law_246 : decode cL_law 246 = .ok (.iadd, 1) := by decide +kernel
theorem dL_law_247 : decode cL_law 247 = .ok (.iaload, 1) := by decide +kernel
theorem dL_law_248 : decode cL_law 248 = .ok (.invokevirtual 28, 3) := by decide +kernel
theorem dL_law_251 : decode cL_law 251 = .ok (.aload_n 2, 1) := by decide +kernel
theorem dL_law_252 : decode cL_law 252 = .ok (.aload_n 0, 1) := by decide +kernel
theorem dL_law_253 : decode cL_law 253 = .ok (.iload_n 3, 1) := by decide +kernel
theorem dL_law_254 : decode cL_law 254 = .ok (.iconst 1, 1) := by decide +kernel
theorem dL_law_255 : decode cL_law 255 = .ok (.iadd, 1) := by decide +kernel
theorem dL_law_256 : decode cL_law 256 = .ok (.iaload, 1) := by decide +kernel
theorem dL_law_257 : decode cL_law 257 = .ok (.aload_n 0, 1) := by decide +kernel
theorem dL_law_258 : decode cL_law 258 = .ok (.iload_n 3, 1) := by decide +kernel
theorem dL_law_259 : decode cL_law 259 = .ok (.iconst 2, 1) := by decide +kernel
theorem dL_law_260 : decode cL_law 260 = .ok (.iadd, 1) := by decide +kernel
theorem dL_law_261 : decode cL_law 261 = .ok (.iaload, 1) := by decide +kernel
theorem dL_law_262 : decode cL_law 262 = .ok (.invokevirtual 32, 3) := by decide +kernel
theorem dL_law_265 : decode cL_law 265 = .ok (.lcmp, 1) := by decide +kernel
theorem dL_law_266 : decode cL_law 266 = .ok (.ifCond .eq 579, 3) := by decide +kernel
theorem dL_law_269 : decode cL_law 269 = .ok (.iconst 0, 1) := by decide +kernel
theorem dL_law_270 : decode cL_law 270 = .ok (.ireturn, 1) := by decide +kernel
theorem dL_law_271 : decode cL_law 271 = .ok (.aload_n 1, 1) := by decide +kernel
theorem dL_law_272 : decode cL_law 272 = .ok (.aload_n 0, 1) := by decide +kernel
theorem dL_law_273 : decode cL_law 273 = .ok (.iload_n 3, 1) := by decide +kernel
theorem dL_law_274 : decode cL_law 274 = .ok (.iconst 1, 1) := by decide +kernel
theorem dL_law_275 : decode cL_law 275 = .ok (.iadd, 1) := by decide +kernel
theorem dL_law_276 : decode cL_law 276 = .ok (.iaload, 1) := by decide +kernel
theorem dL_law_277 : decode cL_law 277 = .ok (.aload_n 0, 1) := by decide +kernel
theorem dL_law_278 : decode cL_law 278 = .ok (.iload_n 3, 1) := by decide +kernel
theorem dL_law_279 : decode cL_law 279 = .ok (.iconst 2, 1) := by decide +kernel
theorem dL_law_280 : decode cL_law 280 = .ok (.iadd, 1) := by decide +kernel
theorem dL_law_281 : decode cL_law 281 = .ok (.iaload, 1) := by decide +kernel
theorem dL_law_282 : decode cL_law 282 = .ok (.aload_n 0, 1) := by decide +kernel
theorem dL_law_283 : decode cL_law 283 = .ok (.iload_n 3, 1) := by decide +kernel
theorem dL_law_284 : decode cL_law 284 = .ok (.iconst 3, 1) := by decide +kernel
theorem dL_law_285 : decode cL_law 285 = .ok (.iadd, 1) := by decide +kernel
theorem dL_law_286 : decode cL_law 286 = .ok (.iaload, 1) := by decide +kernel
theorem dL_law_287 : decode cL_law 287 = .ok (.invokevirtual 33, 3) := by decide +kernel
theorem dL_law_290 : decode cL_law 290 = .ok (.aload_n 2, 1) := by decide +kernel
theorem dL_law_291 : decode cL_law 291 = .ok (.aload_n 0, 1) := by decide +kernel
theorem dL_law_292 : decode cL_law 292 = .ok (.iload_n 3, 1) := by decide +kernel
theorem dL_law_293 : decode cL_law 293 = .ok (.iconst 1, 1) := by decide +kernel
theorem dL_law_294 : decode cL_law 294 = .ok (.iadd, 1) := by decide +kernel
theorem dL_law_295 : decode cL_law 295 = .ok (.iaload, 1) := by decide +kernel
theorem dL_law_296 : decode cL_law 296 = .ok (.aload_n 0, 1) := by decide +kernel
theorem dL_law_297 : decode cL_law 297 = .ok (.iload_n 3, 1) := by decide +kernel
theorem dL_law_298 : decode cL_law 298 = .ok (.iconst 2, 1) := by decide +kernel
theorem dL_law_299 : decode cL_law 299 = .ok (.iadd, 1) := by decide +kernel
theorem dL_law_300 : decode cL_law 300 = .ok (.iaload, 1) := by decide +kernel
theorem dL_law_301 : decode cL_law 301 = .ok (.aload_n 0, 1) := by decide +kernel
theorem dL_law_302 : decode cL_law 302 = .ok (.iload_n 3, 1) := by decide +kernel
theorem dL_law_303 : decode cL_law 303 = .ok (.iconst 3, 1) := by decide +kernel
theorem dL_law_304 : decode cL_law 304 = .ok (.iadd, 1) := by decide +kernel
theorem dL_law_305 : decode cL_law 305 = .ok (.iaload, 1) := by decide +kernel
theorem dL_law_306 : decode cL_law 306 = .ok (.invokevirtual 37, 3) := by decide +kernel
theorem dL_law_309 : decode cL_law 309 = .ok (.lcmp, 1) := by decide +kernel
theorem dL_law_310 : decode cL_law 310 = .ok (.ifCond .eq 535, 3) := by decide +kernel
theorem dL_law_313 : decode cL_law 313 = .ok (.iconst 0, 1) := by decide +kernel
theorem dL_law_314 : decode cL_law 314 = .ok (.ireturn, 1) := by decide +kernel
theorem dL_law_315 : decode cL_law 315 = .ok (.aload_n 1, 1) := by decide +kernel
theorem dL_law_316 : decode cL_law 316 = .ok (.aload_n 0, 1) := by decide +kernel
theorem dL_law_317 : decode cL_law 317 = .ok (.iload_n 3, 1) := by decide +kernel
theorem dL_law_318 : decode cL_law 318 = .ok (.iconst 1, 1) := by decide +kernel
theorem dL_law_319 : decode cL_law 319 = .ok (.iadd, 1) := by decide +kernel
theorem dL_law_320 : decode cL_law 320 = .ok (.iaload, 1) := by decide +kernel
theorem dL_law_321 : decode cL_law 321 = .ok (.aload_n 0, 1) := by decide +kernel
theorem dL_law_322 : decode cL_law 322 = .ok (.iload_n 3, 1) := by decide +kernel
theorem dL_law_323 : decode cL_law 323 = .ok (.iconst 2, 1) := by decide +kernel
theorem dL_law_324 : decode cL_law 324 = .ok (.iadd, 1) := by decide +kernel
theorem dL_law_325 : decode cL_law 325 = .ok (.iaload, 1) := by decide +kernel
theorem dL_law_326 : decode cL_law 326 = .ok (.aload_n 0, 1) := by decide +kernel
theorem dL_law_327 : decode cL_law 327 = .ok (.iload_n 3, 1) := by decide +kernel
theorem dL_law_328 : decode cL_law 328 = .ok (.iconst 3, 1) := by decide +kernel
theorem dL_law_329 : decode cL_law 329 = .ok (.iadd, 1) := by decide +kernel
theorem dL_law_330 : decode cL_law 330 = .ok (.iaload, 1) := by decide +kernel
theorem dL_law_331 : decode cL_law 331 = .ok (.i2l, 1) := by decide +kernel
theorem dL_law_332 : decode cL_law 332 = .ok (.bipush 32, 2) := by decide +kernel
theorem dL_law_334 : decode cL_law 334 = .ok (.lshl, 1) := by decide +kernel
theorem dL_law_335 : decode cL_law 335 = .ok (.aload_n 0, 1) := by decide +kernel
theorem dL_law_336 : decode cL_law 336 = .ok (.iload_n 3, 1) := by decide +kernel
theorem dL_law_337 : decode cL_law 337 = .ok (.iconst 4, 1) := by decide +kernel
theorem dL_law_338 : decode cL_law 338 = .ok (.iadd, 1) := by decide +kernel
theorem dL_law_339 : decode cL_law 339 = .ok (.iaload, 1) := by decide +kernel
theorem dL_law_340 : decode cL_law 340 = .ok (.i2l, 1) := by decide +kernel
theorem dL_law_341 : decode cL_law 341 = .ok (.ldc2_w 38, 3) := by decide +kernel
theorem dL_law_344 : decode cL_law 344 = .ok (.land, 1) := by decide +kernel
theorem dL_law_345 : decode cL_law 345 = .ok (.lor, 1) := by decide +kernel
theorem dL_law_346 : decode cL_law 346 = .ok (.invokevirtual 40, 3) := by decide +kernel
theorem dL_law_349 : decode cL_law 349 = .ok (.aload_n 2, 1) := by decide +kernel
theorem dL_law_350 : decode cL_law 350 = .ok (.aload_n 0, 1) := by decide +kernel
theorem dL_law_351 : decode cL_law 351 = .ok (.iload_n 3, 1) := by decide +kernel
theorem dL_law_352 : decode cL_law 352 = .ok (.iconst 1, 1) := by decide +kernel
theorem dL_law_353 : decode cL_law 353 = .ok (.iadd, 1) := by decide +kernel
theorem dL_law_354 : decode cL_law 354 = .ok (.iaload, 1) := by decide +kernel
theorem dL_law_355 : decode cL_law 355 = .ok (.aload_n 0, 1) := by decide +kernel
theorem dL_law_356 : decode cL_law 356 = .ok (.iload_n 3, 1) := by decide +kernel
theorem dL_law_357 : decode cL_law 357 = .ok (.iconst 2, 1) := by decide +kernel
theorem dL_law_358 : decode cL_law 358 = .ok (.iadd, 1) := by decide +kernel
theorem dL_law_359 : decode cL_law 359 = .ok (.iaload, 1) := by decide +kernel
theorem dL_law_360 : decode cL_law 360 = .ok (.aload_n 0, 1) := by decide +kernel
theorem dL_law_361 : decode cL_law 361 = .ok (.iload_n 3, 1) := by decide +kernel
theorem dL_law_362 : decode cL_law 362 = .ok (.iconst 3, 1) := by decide +kernel
theorem dL_law_363 : decode cL_law 363 = .ok (.iadd, 1) := by decide +kernel
theorem dL_law_364 : decode cL_law 364 = .ok (.iaload, 1) := by decide +kernel
theorem dL_law_365 : decode cL_law 365 = .ok (.i2l, 1) := by decide +kernel
theorem dL_law_366 : decode cL_law 366 = .ok (.bipush 32, 2) := by decide +kernel
theorem dL_law_368 : decode cL_law 368 = .ok (.lshl, 1) := by decide +kernel
theorem dL_law_369 : decode cL_law 369 = .ok (.aload_n 0, 1) := by decide +kernel
theorem dL_law_370 : decode cL_law 370 = .ok (.iload_n 3, 1) := by decide +kernel
theorem dL_law_371 : decode cL_law 371 = .ok (.iconst 4, 1) := by decide +kernel
theorem dL_law_372 : decode cL_law 372 = .ok (.iadd, 1) := by decide +kernel
theorem dL_law_373 : decode cL_law 373 = .ok (.iaload, 1) := by decide +kernel
theorem dL_law_374 : decode cL_law 374 = .ok (.i2l, 1) := by decide +kernel
theorem dL_law_375 : decode cL_law 375 = .ok (.ldc2_w 38, 3) := by decide +kernel
theorem dL_law_378 : decode cL_law 378 = .ok (.land, 1) := by decide +kernel
theorem dL_law_379 : decode cL_law 379 = .ok (.lor, 1) := by decide +kernel
theorem dL_law_380 : decode cL_law 380 = .ok (.invokevirtual 44, 3) := by decide +kernel
theorem dL_law_383 : decode cL_law 383 = .ok (.if_icmp .eq 462, 3) := by decide +kernel
theorem dL_law_386 : decode cL_law 386 = .ok (.iconst 0, 1) := by decide +kernel
theorem dL_law_387 : decode cL_law 387 = .ok (.ireturn, 1) := by decide +kernel
theorem dL_law_388 : decode cL_law 388 = .ok (.aload_n 1, 1) := by decide +kernel
theorem dL_law_389 : decode cL_law 389 = .ok (.aload_n 0, 1) := by decide +kernel
theorem dL_law_390 : decode cL_law 390 = .ok (.iload_n 3, 1) := by decide +kernel
theorem dL_law_391 : decode cL_law 391 = .ok (.iconst 1, 1) := by decide +kernel
theorem dL_law_392 : decode cL_law 392 = .ok (.iadd, 1) := by decide +kernel
theorem dL_law_393 : decode cL_law 393 = .ok (.iaload, 1) := by decide +kernel
theorem dL_law_394 : decode cL_law 394 = .ok (.aload_n 0, 1) := by decide +kernel
theorem dL_law_395 : decode cL_law 395 = .ok (.iload_n 3, 1) := by decide +kernel
theorem dL_law_396 : decode cL_law 396 = .ok (.iconst 2, 1) := by decide +kernel
theorem dL_law_397 : decode cL_law 397 = .ok (.iadd, 1) := by decide +kernel
theorem dL_law_398 : decode cL_law 398 = .ok (.iaload, 1) := by decide +kernel
theorem dL_law_399 : decode cL_law 399 = .ok (.aload_n 0, 1) := by decide +kernel
theorem dL_law_400 : decode cL_law 400 = .ok (.iload_n 3, 1) := by decide +kernel
theorem dL_law_401 : decode cL_law 401 = .ok (.iconst 3, 1) := by decide +kernel
theorem dL_law_402 : decode cL_law 402 = .ok (.iadd, 1) := by decide +kernel
theorem dL_law_403 : decode cL_law 403 = .ok (.iaload, 1) := by decide +kernel
theorem dL_law_404 : decode cL_law 404 = .ok (.aload_n 0, 1) := by decide +kernel
theorem dL_law_405 : decode cL_law 405 = .ok (.iload_n 3, 1) := by decide +kernel
theorem dL_law_406 : decode cL_law 406 = .ok (.iconst 4, 1) := by decide +kernel
theorem dL_law_407 : decode cL_law 407 = .ok (.iadd, 1) := by decide +kernel
theorem dL_law_408 : decode cL_law 408 = .ok (.iaload, 1) := by decide +kernel
theorem dL_law_409 : decode cL_law 409 = .ok (.invokevirtual 45, 3) := by decide +kernel
theorem dL_law_412 : decode cL_law 412 = .ok (.aload_n 2, 1) := by decide +kernel
theorem dL_law_413 : decode cL_law 413 = .ok (.aload_n 0, 1) := by decide +kernel
theorem dL_law_414 : decode cL_law 414 = .ok (.iload_n 3, 1) := by decide +kernel
theorem dL_law_415 : decode cL_law 415 = .ok (.iconst 1, 1) := by decide +kernel
theorem dL_law_416 : decode cL_law 416 = .ok (.iadd, 1) := by decide +kernel
theorem dL_law_417 : decode cL_law 417 = .ok (.iaload, 1) := by decide +kernel
theorem dL_law_418 : decode cL_law 418 = .ok (.aload_n 0, 1) := by decide +kernel
theorem dL_law_419 : decode cL_law 419 = .ok (.iload_n 3, 1) := by decide +kernel
theorem dL_law_420 : decode cL_law 420 = .ok (.iconst 2, 1) := by decide +kernel
theorem dL_law_421 : decode cL_law 421 = .ok (.iadd, 1) := by decide +kernel
theorem dL_law_422 : decode cL_law 422 = .ok (.iaload, 1) := by decide +kernel
theorem dL_law_423 : decode cL_law 423 = .ok (.aload_n 0, 1) := by decide +kernel
theorem dL_law_424 : decode cL_law 424 = .ok (.iload_n 3, 1) := by decide +kernel
theorem dL_law_425 : decode cL_law 425 = .ok (.iconst 3, 1) := by decide +kernel
theorem dL_law_426 : decode cL_law 426 = .ok (.iadd, 1) := by decide +kernel
theorem dL_law_427 : decode cL_law 427 = .ok (.iaload, 1) := by decide +kernel
theorem dL_law_428 : decode cL_law 428 = .ok (.aload_n 0, 1) := by decide +kernel
theorem dL_law_429 : decode cL_law 429 = .ok (.iload_n 3, 1) := by decide +kernel
theorem dL_law_430 : decode cL_law 430 = .ok (.iconst 4, 1) := by decide +kernel
theorem dL_law_431 : decode cL_law 431 = .ok (.iadd, 1) := by decide +kernel
theorem dL_law_432 : decode cL_law 432 = .ok (.iaload, 1) := by decide +kernel
theorem dL_law_433 : decode cL_law 433 = .ok (.invokevirtual 49, 3) := by decide +kernel
theorem dL_law_436 : decode cL_law 436 = .ok (.if_icmp .eq 409, 3) := by decide +kernel
theorem dL_law_439 : decode cL_law 439 = .ok (.iconst 0, 1) := by decide +kernel
theorem dL_law_440 : decode cL_law 440 = .ok (.ireturn, 1) := by decide +kernel
theorem dL_law_441 : decode cL_law 441 = .ok (.aload_n 1, 1) := by decide +kernel
theorem dL_law_442 : decode cL_law 442 = .ok (.aload_n 0, 1) := by decide +kernel
theorem dL_law_443 : decode cL_law 443 = .ok (.iload_n 3, 1) := by decide +kernel
theorem dL_law_444 : decode cL_law 444 = .ok (.iconst 1, 1) := by decide +kernel
theorem dL_law_445 : decode cL_law 445 = .ok (.iadd, 1) := by decide +kernel
theorem dL_law_446 : decode cL_law 446 = .ok (.iaload, 1) := by decide +kernel
theorem dL_law_447 : decode cL_law 447 = .ok (.invokevirtual 50, 3) := by decide +kernel
theorem dL_law_450 : decode cL_law 450 = .ok (.aload_n 2, 1) := by decide +kernel
theorem dL_law_451 : decode cL_law 451 = .ok (.aload_n 0, 1) := by decide +kernel
theorem dL_law_452 : decode cL_law 452 = .ok (.iload_n 3, 1) := by decide +kernel
theorem dL_law_453 : decode cL_law 453 = .ok (.iconst 1, 1) := by decide +kernel
theorem dL_law_454 : decode cL_law 454 = .ok (.iadd, 1) := by decide +kernel
theorem dL_law_455 : decode cL_law 455 = .ok (.iaload, 1) := by decide +kernel
theorem dL_law_456 : decode cL_law 456 = .ok (.invokevirtual 53, 3) := by decide +kernel
theorem dL_law_459 : decode cL_law 459 = .ok (.if_icmp .eq 386, 3) := by decide +kernel
theorem dL_law_462 : decode cL_law 462 = .ok (.iconst 0, 1) := by decide +kernel
theorem dL_law_463 : decode cL_law 463 = .ok (.ireturn, 1) := by decide +kernel
theorem dL_law_464 : decode cL_law 464 = .ok (.aload_n 1, 1) := by decide +kernel
theorem dL_law_465 : decode cL_law 465 = .ok (.aload_n 0, 1) := by decide +kernel
theorem dL_law_466 : decode cL_law 466 = .ok (.iload_n 3, 1) := by decide +kernel
theorem dL_law_467 : decode cL_law 467 = .ok (.iconst 1, 1) := by decide +kernel
theorem dL_law_468 : decode cL_law 468 = .ok (.iadd, 1) := by decide +kernel
theorem dL_law_469 : decode cL_law 469 = .ok (.iaload, 1) := by decide +kernel
theorem dL_law_470 : decode cL_law 470 = .ok (.invokevirtual 54, 3) := by decide +kernel
theorem dL_law_473 : decode cL_law 473 = .ok (.aload_n 2, 1) := by decide +kernel
theorem dL_law_474 : decode cL_law 474 = .ok (.aload_n 0, 1) := by decide +kernel
theorem dL_law_475 : decode cL_law 475 = .ok (.iload_n 3, 1) := by decide +kernel
theorem dL_law_476 : decode cL_law 476 = .ok (.iconst 1, 1) := by decide +kernel
theorem dL_law_477 : decode cL_law 477 = .ok (.iadd, 1) := by decide +kernel
theorem dL_law_478 : decode cL_law 478 = .ok (.iaload, 1) := by decide +kernel
theorem dL_law_479 : decode cL_law 479 = .ok (.invokevirtual 57, 3) := by decide +kernel
theorem dL_law_482 : decode cL_law 482 = .ok (.if_icmp .eq 363, 3) := by decide +kernel
theorem dL_law_485 : decode cL_law 485 = .ok (.iconst 0, 1) := by decide +kernel
theorem dL_law_486 : decode cL_law 486 = .ok (.ireturn, 1) := by decide +kernel
theorem dL_law_487 : decode cL_law 487 = .ok (.aload_n 1, 1) := by decide +kernel
theorem dL_law_488 : decode cL_law 488 = .ok (.aload_n 0, 1) := by decide +kernel
theorem dL_law_489 : decode cL_law 489 = .ok (.iload_n 3, 1) := by decide +kernel
theorem dL_law_490 : decode cL_law 490 = .ok (.iconst 1, 1) := by decide +kernel
theorem dL_law_491 : decode cL_law 491 = .ok (.iadd, 1) := by decide +kernel
theorem dL_law_492 : decode cL_law 492 = .ok (.iaload, 1) := by decide +kernel
theorem dL_law_493 : decode cL_law 493 = .ok (.invokevirtual 58, 3) := by decide +kernel
theorem dL_law_496 : decode cL_law 496 = .ok (.aload_n 2, 1) := by decide +kernel
theorem dL_law_497 : decode cL_law 497 = .ok (.aload_n 0, 1) := by decide +kernel
theorem dL_law_498 : decode cL_law 498 = .ok (.iload_n 3, 1) := by decide +kernel
theorem dL_law_499 : decode cL_law 499 = .ok (.iconst 1, 1) := by decide +kernel
theorem dL_law_500 : decode cL_law 500 = .ok (.iadd, 1) := by decide +kernel
theorem dL_law_501 : decode cL_law 501 = .ok (.iaload, 1) := by decide +kernel
theorem dL_law_502 : decode cL_law 502 = .ok (.invokevirtual 61, 3) := by decide +kernel
theorem dL_law_505 : decode cL_law 505 = .ok (.if_icmp .eq 340, 3) := by decide +kernel
theorem dL_law_508 : decode cL_law 508 = .ok (.iconst 0, 1) := by decide +kernel
theorem dL_law_509 : decode cL_law 509 = .ok (.ireturn, 1) := by decide +kernel
theorem dL_law_510 : decode cL_law 510 = .ok (.aload_n 1, 1) := by decide +kernel
theorem dL_law_511 : decode cL_law 511 = .ok (.aload_n 0, 1) := by decide +kernel
theorem dL_law_512 : decode cL_law 512 = .ok (.iload_n 3, 1) := by decide +kernel
theorem dL_law_513 : decode cL_law 513 = .ok (.iconst 1, 1) := by decide +kernel
theorem dL_law_514 : decode cL_law 514 = .ok (.iadd, 1) := by decide +kernel
theorem dL_law_515 : decode cL_law 515 = .ok (.iaload, 1) := by decide +kernel
theorem dL_law_516 : decode cL_law 516 = .ok (.invokevirtual 62, 3) := by decide +kernel
theorem dL_law_519 : decode cL_law 519 = .ok (.aload_n 2, 1) := by decide +kernel
theorem dL_law_520 : decode cL_law 520 = .ok (.aload_n 0, 1) := by decide +kernel
theorem dL_law_521 : decode cL_law 521 = .ok (.iload_n 3, 1) := by decide +kernel
theorem dL_law_522 : decode cL_law 522 = .ok (.iconst 1, 1) := by decide +kernel
theorem dL_law_523 : decode cL_law 523 = .ok (.iadd, 1) := by decide +kernel
theorem dL_law_524 : decode cL_law 524 = .ok (.iaload, 1) := by decide +kernel
theorem dL_law_525 : decode cL_law 525 = .ok (.invokevirtual 65, 3) := by decide +kernel
theorem dL_law_528 : decode cL_law 528 = .ok (.if_icmp .eq 317, 3) := by decide +kernel
theorem dL_law_531 : decode cL_law 531 = .ok (.iconst 0, 1) := by decide +kernel
theorem dL_law_532 : decode cL_law 532 = .ok (.ireturn, 1) := by decide +kernel
theorem dL_law_533 : decode cL_law 533 = .ok (.aload_n 1, 1) := by decide +kernel
theorem dL_law_534 : decode cL_law 534 = .ok (.aload_n 0, 1) := by decide +kernel
theorem dL_law_535 : decode cL_law 535 = .ok (.iload_n 3, 1) := by decide +kernel
theorem dL_law_536 : decode cL_law 536 = .ok (.iconst 1, 1) := by decide +kernel
theorem dL_law_537 : decode cL_law 537 = .ok (.iadd, 1) := by decide +kernel
theorem dL_law_538 : decode cL_law 538 = .ok (.iaload, 1) := by decide +kernel
theorem dL_law_539 : decode cL_law 539 = .ok (.aload_n 0, 1) := by decide +kernel
theorem dL_law_540 : decode cL_law 540 = .ok (.iload_n 3, 1) := by decide +kernel
theorem dL_law_541 : decode cL_law 541 = .ok (.iconst 2, 1) := by decide +kernel
theorem dL_law_542 : decode cL_law 542 = .ok (.iadd, 1) := by decide +kernel
theorem dL_law_543 : decode cL_law 543 = .ok (.iaload, 1) := by decide +kernel
theorem dL_law_544 : decode cL_law 544 = .ok (.invokevirtual 66, 3) := by decide +kernel
theorem dL_law_547 : decode cL_law 547 = .ok (.aload_n 2, 1) := by decide +kernel
theorem dL_law_548 : decode cL_law 548 = .ok (.aload_n 0, 1) := by decide +kernel
theorem dL_law_549 : decode cL_law 549 = .ok (.iload_n 3, 1) := by decide +kernel
theorem dL_law_550 : decode cL_law 550 = .ok (.iconst 1, 1) := by decide +kernel
theorem dL_law_551 : decode cL_law 551 = .ok (.iadd, 1) := by decide +kernel
theorem dL_law_552 : decode cL_law 552 = .ok (.iaload, 1) := by decide +kernel
theorem dL_law_553 : decode cL_law 553 = .ok (.aload_n 0, 1) := by decide +kernel
theorem dL_law_554 : decode cL_law 554 = .ok (.iload_n 3, 1) := by decide +kernel
theorem dL_law_555 : decode cL_law 555 = .ok (.iconst 2, 1) := by decide +kernel
theorem dL_law_556 : decode cL_law 556 = .ok (.iadd, 1) := by decide +kernel
theorem dL_law_557 : decode cL_law 557 = .ok (.iaload, 1) := by decide +kernel
theorem dL_law_558 : decode cL_law 558 = .ok (.invokevirtual 69, 3) := by decide +kernel
theorem dL_law_561 : decode cL_law 561 = .ok (.if_icmp .eq 284, 3) := by decide +kernel
theorem dL_law_564 : decode cL_law 564 = .ok (.iconst 0, 1) := by decide +kernel
theorem dL_law_565 : decode cL_law 565 = .ok (.ireturn, 1) := by decide +kernel
theorem dL_law_566 : decode cL_law 566 = .ok (.aload_n 1, 1) := by decide +kernel
theorem dL_law_567 : decode cL_law 567 = .ok (.aload_n 0, 1) := by decide +kernel
theorem dL_law_568 : decode cL_law 568 = .ok (.iload_n 3, 1) := by decide +kernel
theorem dL_law_569 : decode cL_law 569 = .ok (.iconst 1, 1) := by decide +kernel
theorem dL_law_570 : decode cL_law 570 = .ok (.iadd, 1) := by decide +kernel
theorem dL_law_571 : decode cL_law 571 = .ok (.iaload, 1) := by decide +kernel
theorem dL_law_572 : decode cL_law 572 = .ok (.aload_n 0, 1) := by decide +kernel
theorem dL_law_573 : decode cL_law 573 = .ok (.iload_n 3, 1) := by decide +kernel
theorem dL_law_574 : decode cL_law 574 = .ok (.iconst 2, 1) := by decide +kernel
theorem dL_law_575 : decode cL_law 575 = .ok (.iadd, 1) := by decide +kernel
theorem dL_law_576 : decode cL_law 576 = .ok (.iaload, 1) := by decide +kernel
theorem dL_law_577 : decode cL_law 577 = .ok (.invokevirtual 70, 3) := by decide +kernel
theorem dL_law_580 : decode cL_law 580 = .ok (.aload_n 2, 1) := by decide +kernel
theorem dL_law_581 : decode cL_law 581 = .ok (.aload_n 0, 1) := by decide +kernel
theorem dL_law_582 : decode cL_law 582 = .ok (.iload_n 3, 1) := by decide +kernel
theorem dL_law_583 : decode cL_law 583 = .ok (.iconst 1, 1) := by decide +kernel
theorem dL_law_584 : decode cL_law 584 = .ok (.iadd, 1) := by decide +kernel
theorem dL_law_585 : decode cL_law 585 = .ok (.iaload, 1) := by decide +kernel
theorem dL_law_586 : decode cL_law 586 = .ok (.aload_n 0, 1) := by decide +kernel
theorem dL_law_587 : decode cL_law 587 = .ok (.iload_n 3, 1) := by decide +kernel
theorem dL_law_588 : decode cL_law 588 = .ok (.iconst 2, 1) := by decide +kernel
theorem dL_law_589 : decode cL_law 589 = .ok (.iadd, 1) := by decide +kernel
theorem dL_law_590 : decode cL_law 590 = .ok (.iaload, 1) := by decide +kernel
theorem dL_law_591 : decode cL_law 591 = .ok (.invokevirtual 73, 3) := by decide +kernel
theorem dL_law_594 : decode cL_law 594 = .ok (.if_icmp .eq 251, 3) := by decide +kernel
theorem dL_law_597 : decode cL_law 597 = .ok (.iconst 0, 1) := by decide +kernel
theorem dL_law_598 : decode cL_law 598 = .ok (.ireturn, 1) := by decide +kernel
theorem dL_law_599 : decode cL_law 599 = .ok (.aload_n 1, 1) := by decide +kernel
theorem dL_law_600 : decode cL_law 600 = .ok (.aload_n 0, 1) := by decide +kernel
theorem dL_law_601 : decode cL_law 601 = .ok (.iload_n 3, 1) := by decide +kernel
theorem dL_law_602 : decode cL_law 602 = .ok (.iconst 1, 1) := by decide +kernel
theorem dL_law_603 : decode cL_law 603 = .ok (.iadd, 1) := by decide +kernel
theorem dL_law_604 : decode cL_law 604 = .ok (.iaload, 1) := by decide +kernel
theorem dL_law_605 : decode cL_law 605 = .ok (.aload_n 0, 1) := by decide +kernel
theorem dL_law_606 : decode cL_law 606 = .ok (.iload_n 3, 1) := by decide +kernel
theorem dL_law_607 : decode cL_law 607 = .ok (.iconst 2, 1) := by decide +kernel
theorem dL_law_608 : decode cL_law 608 = .ok (.iadd, 1) := by decide +kernel
theorem dL_law_609 : decode cL_law 609 = .ok (.iaload, 1) := by decide +kernel
theorem dL_law_610 : decode cL_law 610 = .ok (.invokevirtual 74, 3) := by decide +kernel
theorem dL_law_613 : decode cL_law 613 = .ok (.aload_n 2, 1) := by decide +kernel
theorem dL_law_614 : decode cL_law 614 = .ok (.aload_n 0, 1) := by decide +kernel
theorem dL_law_615 : decode cL_law 615 = .ok (.iload_n 3, 1) := by decide +kernel
theorem dL_law_616 : decode cL_law 616 = .ok (.iconst 1, 1) := by decide +kernel
theorem dL_law_617 : decode cL_law 617 = .ok (.iadd, 1) := by decide +kernel
theorem dL_law_618 : decode cL_law 618 = .ok (.iaload, 1) := by decide +kernel
theorem dL_law_619 : decode cL_law 619 = .ok (.aload_n 0, 1) := by decide +kernel
theorem dL_law_620 : decode cL_law 620 = .ok (.iload_n 3, 1) := by decide +kernel
theorem dL_law_621 : decode cL_law 621 = .ok (.iconst 2, 1) := by decide +kernel
theorem dL_law_622 : decode cL_law 622 = .ok (.iadd, 1) := by decide +kernel
theorem dL_law_623 : decode cL_law 623 = .ok (.iaload, 1) := by decide +kernel
theorem dL_law_624 : decode cL_law 624 = .ok (.invokevirtual 77, 3) := by decide +kernel
theorem dL_law_627 : decode cL_law 627 = .ok (.if_icmp .eq 218, 3) := by decide +kernel
theorem dL_law_630 : decode cL_law 630 = .ok (.iconst 0, 1) := by decide +kernel
theorem dL_law_631 : decode cL_law 631 = .ok (.ireturn, 1) := by decide +kernel
theorem dL_law_632 : decode cL_law 632 = .ok (.aload_n 1, 1) := by decide +kernel
theorem dL_law_633 : decode cL_law 633 = .ok (.aload_n 0, 1) := by decide +kernel
theorem dL_law_634 : decode cL_law 634 = .ok (.iload_n 3, 1) := by decide +kernel
theorem dL_law_635 : decode cL_law 635 = .ok (.iconst 1, 1) := by decide +kernel
theorem dL_law_636 : decode cL_law 636 = .ok (.iadd, 1) := by decide +kernel
theorem dL_law_637 : decode cL_law 637 = .ok (.iaload, 1) := by decide +kernel
theorem dL_law_638 : decode cL_law 638 = .ok (.aload_n 0, 1) := by decide +kernel
theorem dL_law_639 : decode cL_law 639 = .ok (.iload_n 3, 1) := by decide +kernel
theorem dL_law_640 : decode cL_law 640 = .ok (.iconst 2, 1) := by decide +kernel
theorem dL_law_641 : decode cL_law 641 = .ok (.iadd, 1) := by decide +kernel
theorem dL_law_642 : decode cL_law 642 = .ok (.iaload, 1) := by decide +kernel
theorem dL_law_643 : decode cL_law 643 = .ok (.invokevirtual 78, 3) := by decide +kernel
theorem dL_law_646 : decode cL_law 646 = .ok (.aload_n 2, 1) := by decide +kernel
theorem dL_law_647 : decode cL_law 647 = .ok (.aload_n 0, 1) := by decide +kernel
theorem dL_law_648 : decode cL_law 648 = .ok (.iload_n 3, 1) := by decide +kernel
theorem dL_law_649 : decode cL_law 649 = .ok (.iconst 1, 1) := by decide +kernel
theorem dL_law_650 : decode cL_law 650 = .ok (.iadd, 1) := by decide +kernel
theorem dL_law_651 : decode cL_law 651 = .ok (.iaload, 1) := by decide +kernel
theorem dL_law_652 : decode cL_law 652 = .ok (.aload_n 0, 1) := by decide +kernel
theorem dL_law_653 : decode cL_law 653 = .ok (.iload_n 3, 1) := by decide +kernel
theorem dL_law_654 : decode cL_law 654 = .ok (.iconst 2, 1) := by decide +kernel
theorem dL_law_655 : decode cL_law 655 = .ok (.iadd, 1) := by decide +kernel
theorem dL_law_656 : decode cL_law 656 = .ok (.iaload, 1) := by decide +kernel
theorem dL_law_657 : decode cL_law 657 = .ok (.invokevirtual 81, 3) := by decide +kernel
theorem dL_law_660 : decode cL_law 660 = .ok (.if_icmp .eq 185, 3) := by decide +kernel
theorem dL_law_663 : decode cL_law 663 = .ok (.iconst 0, 1) := by decide +kernel
theorem dL_law_664 : decode cL_law 664 = .ok (.ireturn, 1) := by decide +kernel
theorem dL_law_665 : decode cL_law 665 = .ok (.aload_n 1, 1) := by decide +kernel
theorem dL_law_666 : decode cL_law 666 = .ok (.aload_n 0, 1) := by decide +kernel
theorem dL_law_667 : decode cL_law 667 = .ok (.iload_n 3, 1) := by decide +kernel
theorem dL_law_668 : decode cL_law 668 = .ok (.iconst 1, 1) := by decide +kernel
theorem dL_law_669 : decode cL_law 669 = .ok (.iadd, 1) := by decide +kernel
theorem dL_law_670 : decode cL_law 670 = .ok (.iaload, 1) := by decide +kernel
theorem dL_law_671 : decode cL_law 671 = .ok (.aload_n 0, 1) := by decide +kernel
theorem dL_law_672 : decode cL_law 672 = .ok (.iload_n 3, 1) := by decide +kernel
theorem dL_law_673 : decode cL_law 673 = .ok (.iconst 2, 1) := by decide +kernel
theorem dL_law_674 : decode cL_law 674 = .ok (.iadd, 1) := by decide +kernel
theorem dL_law_675 : decode cL_law 675 = .ok (.iaload, 1) := by decide +kernel
theorem dL_law_676 : decode cL_law 676 = .ok (.invokevirtual 82, 3) := by decide +kernel
theorem dL_law_679 : decode cL_law 679 = .ok (.aload_n 2, 1) := by decide +kernel
theorem dL_law_680 : decode cL_law 680 = .ok (.aload_n 0, 1) := by decide +kernel
theorem dL_law_681 : decode cL_law 681 = .ok (.iload_n 3, 1) := by decide +kernel
theorem dL_law_682 : decode cL_law 682 = .ok (.iconst 1, 1) := by decide +kernel
theorem dL_law_683 : decode cL_law 683 = .ok (.iadd, 1) := by decide +kernel
theorem dL_law_684 : decode cL_law 684 = .ok (.iaload, 1) := by decide +kernel
theorem dL_law_685 : decode cL_law 685 = .ok (.aload_n 0, 1) := by decide +kernel
theorem dL_law_686 : decode cL_law 686 = .ok (.iload_n 3, 1) := by decide +kernel
theorem dL_law_687 : decode cL_law 687 = .ok (.iconst 2, 1) := by decide +kernel
theorem dL_law_688 : decode cL_law 688 = .ok (.iadd, 1) := by decide +kernel
theorem dL_law_689 : decode cL_law 689 = .ok (.iaload, 1) := by decide +kernel
theorem dL_law_690 : decode cL_law 690 = .ok (.invokevirtual 85, 3) := by decide +kernel
theorem dL_law_693 : decode cL_law 693 = .ok (.lcmp, 1) := by decide +kernel
theorem dL_law_694 : decode cL_law 694 = .ok (.ifCond .eq 151, 3) := by decide +kernel
theorem dL_law_697 : decode cL_law 697 = .ok (.iconst 0, 1) := by decide +kernel
theorem dL_law_698 : decode cL_law 698 = .ok (.ireturn, 1) := by decide +kernel
theorem dL_law_699 : decode cL_law 699 = .ok (.aload_n 1, 1) := by decide +kernel
theorem dL_law_700 : decode cL_law 700 = .ok (.aload_n 0, 1) := by decide +kernel
theorem dL_law_701 : decode cL_law 701 = .ok (.iload_n 3, 1) := by decide +kernel
theorem dL_law_702 : decode cL_law 702 = .ok (.iconst 1, 1) := by decide +kernel
theorem dL_law_703 : decode cL_law 703 = .ok (.iadd, 1) := by decide +kernel
theorem dL_law_704 : decode cL_law 704 = .ok (.iaload, 1) := by decide +kernel
theorem dL_law_705 : decode cL_law 705 = .ok (.aload_n 0, 1) := by decide +kernel
theorem dL_law_706 : decode cL_law 706 = .ok (.iload_n 3, 1) := by decide +kernel
theorem dL_law_707 : decode cL_law 707 = .ok (.iconst 2, 1) := by decide +kernel
theorem dL_law_708 : decode cL_law 708 = .ok (.iadd, 1) := by decide +kernel
theorem dL_law_709 : decode cL_law 709 = .ok (.iaload, 1) := by decide +kernel
theorem dL_law_710 : decode cL_law 710 = .ok (.aload_n 0, 1) := by decide +kernel
theorem dL_law_711 : decode cL_law 711 = .ok (.iload_n 3, 1) := by decide +kernel
theorem dL_law_712 : decode cL_law 712 = .ok (.iconst 3, 1) := by decide +kernel
theorem dL_law_713 : decode cL_law 713 = .ok (.iadd, 1) := by decide +kernel
theorem dL_law_714 : decode cL_law 714 = .ok (.iaload, 1) := by decide +kernel
theorem dL_law_715 : decode cL_law 715 = .ok (.invokevirtual 86, 3) := by decide +kernel
theorem dL_law_718 : decode cL_law 718 = .ok (.aload_n 2, 1) := by decide +kernel
theorem dL_law_719 : decode cL_law 719 = .ok (.aload_n 0, 1) := by decide +kernel
theorem dL_law_720 : decode cL_law 720 = .ok (.iload_n 3, 1) := by decide +kernel
theorem dL_law_721 : decode cL_law 721 = .ok (.iconst 1, 1) := by decide +kernel
theorem dL_law_722 : decode cL_law 722 = .ok (.iadd, 1) := by decide +kernel
theorem dL_law_723 : decode cL_law 723 = .ok (.iaload, 1) := by decide +kernel
theorem dL_law_724 : decode cL_law 724 = .ok (.aload_n 0, 1) := by decide +kernel
theorem dL_law_725 : decode cL_law 725 = .ok (.iload_n 3, 1) := by decide +kernel
theorem dL_law_726 : decode cL_law 726 = .ok (.iconst 2, 1) := by decide +kernel
theorem dL_law_727 : decode cL_law 727 = .ok (.iadd, 1) := by decide +kernel
theorem dL_law_728 : decode cL_law 728 = .ok (.iaload, 1) := by decide +kernel
theorem dL_law_729 : decode cL_law 729 = .ok (.aload_n 0, 1) := by decide +kernel
theorem dL_law_730 : decode cL_law 730 = .ok (.iload_n 3, 1) := by decide +kernel
theorem dL_law_731 : decode cL_law 731 = .ok (.iconst 3, 1) := by decide +kernel
theorem dL_law_732 : decode cL_law 732 = .ok (.iadd, 1) := by decide +kernel
theorem dL_law_733 : decode cL_law 733 = .ok (.iaload, 1) := by decide +kernel
theorem dL_law_734 : decode cL_law 734 = .ok (.invokevirtual 89, 3) := by decide +kernel
theorem dL_law_737 : decode cL_law 737 = .ok (.lcmp, 1) := by decide +kernel
theorem dL_law_738 : decode cL_law 738 = .ok (.ifCond .eq 107, 3) := by decide +kernel
theorem dL_law_741 : decode cL_law 741 = .ok (.iconst 0, 1) := by decide +kernel
theorem dL_law_742 : decode cL_law 742 = .ok (.ireturn, 1) := by decide +kernel
theorem dL_law_743 : decode cL_law 743 = .ok (.aload_n 1, 1) := by decide +kernel
theorem dL_law_744 : decode cL_law 744 = .ok (.aload_n 0, 1) := by decide +kernel
theorem dL_law_745 : decode cL_law 745 = .ok (.iload_n 3, 1) := by decide +kernel
theorem dL_law_746 : decode cL_law 746 = .ok (.iconst 1, 1) := by decide +kernel
theorem dL_law_747 : decode cL_law 747 = .ok (.iadd, 1) := by decide +kernel
theorem dL_law_748 : decode cL_law 748 = .ok (.iaload, 1) := by decide +kernel
theorem dL_law_749 : decode cL_law 749 = .ok (.aload_n 0, 1) := by decide +kernel
theorem dL_law_750 : decode cL_law 750 = .ok (.iload_n 3, 1) := by decide +kernel
theorem dL_law_751 : decode cL_law 751 = .ok (.iconst 2, 1) := by decide +kernel
theorem dL_law_752 : decode cL_law 752 = .ok (.iadd, 1) := by decide +kernel
theorem dL_law_753 : decode cL_law 753 = .ok (.iaload, 1) := by decide +kernel
theorem dL_law_754 : decode cL_law 754 = .ok (.invokevirtual 90, 3) := by decide +kernel
theorem dL_law_757 : decode cL_law 757 = .ok (.aload_n 2, 1) := by decide +kernel
theorem dL_law_758 : decode cL_law 758 = .ok (.aload_n 0, 1) := by decide +kernel
theorem dL_law_759 : decode cL_law 759 = .ok (.iload_n 3, 1) := by decide +kernel
theorem dL_law_760 : decode cL_law 760 = .ok (.iconst 1, 1) := by decide +kernel
theorem dL_law_761 : decode cL_law 761 = .ok (.iadd, 1) := by decide +kernel
theorem dL_law_762 : decode cL_law 762 = .ok (.iaload, 1) := by decide +kernel
theorem dL_law_763 : decode cL_law 763 = .ok (.aload_n 0, 1) := by decide +kernel
theorem dL_law_764 : decode cL_law 764 = .ok (.iload_n 3, 1) := by decide +kernel
theorem dL_law_765 : decode cL_law 765 = .ok (.iconst 2, 1) := by decide +kernel
theorem dL_law_766 : decode cL_law 766 = .ok (.iadd, 1) := by decide +kernel
theorem dL_law_767 : decode cL_law 767 = .ok (.iaload, 1) := by decide +kernel
theorem dL_law_768 : decode cL_law 768 = .ok (.invokevirtual 93, 3) := by decide +kernel
theorem dL_law_771 : decode cL_law 771 = .ok (.if_icmp .eq 74, 3) := by decide +kernel
theorem dL_law_774 : decode cL_law 774 = .ok (.iconst 0, 1) := by decide +kernel
theorem dL_law_775 : decode cL_law 775 = .ok (.ireturn, 1) := by decide +kernel
theorem dL_law_776 : decode cL_law 776 = .ok (.aload_n 1, 1) := by decide +kernel
theorem dL_law_777 : decode cL_law 777 = .ok (.aload_n 0, 1) := by decide +kernel
theorem dL_law_778 : decode cL_law 778 = .ok (.iload_n 3, 1) := by decide +kernel
theorem dL_law_779 : decode cL_law 779 = .ok (.iconst 1, 1) := by decide +kernel
theorem dL_law_780 : decode cL_law 780 = .ok (.iadd, 1) := by decide +kernel
theorem dL_law_781 : decode cL_law 781 = .ok (.iaload, 1) := by decide +kernel
theorem dL_law_782 : decode cL_law 782 = .ok (.aload_n 0, 1) := by decide +kernel
theorem dL_law_783 : decode cL_law 783 = .ok (.iload_n 3, 1) := by decide +kernel
theorem dL_law_784 : decode cL_law 784 = .ok (.iconst 2, 1) := by decide +kernel
theorem dL_law_785 : decode cL_law 785 = .ok (.iadd, 1) := by decide +kernel
theorem dL_law_786 : decode cL_law 786 = .ok (.iaload, 1) := by decide +kernel
theorem dL_law_787 : decode cL_law 787 = .ok (.invokevirtual 94, 3) := by decide +kernel
theorem dL_law_790 : decode cL_law 790 = .ok (.aload_n 2, 1) := by decide +kernel
theorem dL_law_791 : decode cL_law 791 = .ok (.aload_n 0, 1) := by decide +kernel
theorem dL_law_792 : decode cL_law 792 = .ok (.iload_n 3, 1) := by decide +kernel
theorem dL_law_793 : decode cL_law 793 = .ok (.iconst 1, 1) := by decide +kernel
theorem dL_law_794 : decode cL_law 794 = .ok (.iadd, 1) := by decide +kernel
theorem dL_law_795 : decode cL_law 795 = .ok (.iaload, 1) := by decide +kernel
theorem dL_law_796 : decode cL_law 796 = .ok (.aload_n 0, 1) := by decide +kernel
theorem dL_law_797 : decode cL_law 797 = .ok (.iload_n 3, 1) := by decide +kernel
theorem dL_law_798 : decode cL_law 798 = .ok (.iconst 2, 1) := by decide +kernel
theorem dL_law_799 : decode cL_law 799 = .ok (.iadd, 1) := by decide +kernel
theorem dL_law_800 : decode cL_law 800 = .ok (.iaload, 1) := by decide +kernel
theorem dL_law_801 : decode cL_law 801 = .ok (.invokevirtual 97, 3) := by decide +kernel
theorem dL_law_804 : decode cL_law 804 = .ok (.if_icmp .eq 41, 3) := by decide +kernel
theorem dL_law_807 : decode cL_law 807 = .ok (.iconst 0, 1) := by decide +kernel
theorem dL_law_808 : decode cL_law 808 = .ok (.ireturn, 1) := by decide +kernel
theorem dL_law_809 : decode cL_law 809 = .ok (.aload_n 1, 1) := by decide +kernel
theorem dL_law_810 : decode cL_law 810 = .ok (.invokevirtual 98, 3) := by decide +kernel
theorem dL_law_813 : decode cL_law 813 = .ok (.aload_n 2, 1) := by decide +kernel
theorem dL_law_814 : decode cL_law 814 = .ok (.invokevirtual 102, 3) := by decide +kernel
theorem dL_law_817 : decode cL_law 817 = .ok (.if_icmp .eq 28, 3) := by decide +kernel
theorem dL_law_820 : decode cL_law 820 = .ok (.iconst 0, 1) := by decide +kernel
theorem dL_law_821 : decode cL_law 821 = .ok (.ireturn, 1) := by decide +kernel
theorem dL_law_822 : decode cL_law 822 = .ok (.aload_n 1, 1) := by decide +kernel
theorem dL_law_823 : decode cL_law 823 = .ok (.aload_n 0, 1) := by decide +kernel
theorem dL_law_824 : decode cL_law 824 = .ok (.iload_n 3, 1) := by decide +kernel
theorem dL_law_825 : decode cL_law 825 = .ok (.iconst 1, 1) := by decide +kernel
theorem dL_law_826 : decode cL_law 826 = .ok (.iadd, 1) := by decide +kernel
theorem dL_law_827 : decode cL_law 827 = .ok (.iaload, 1) := by decide +kernel
theorem dL_law_828 : decode cL_law 828 = .ok (.invokevirtual 103, 3) := by decide +kernel
theorem dL_law_831 : decode cL_law 831 = .ok (.aload_n 2, 1) := by decide +kernel
theorem dL_law_832 : decode cL_law 832 = .ok (.aload_n 0, 1) := by decide +kernel
theorem dL_law_833 : decode cL_law 833 = .ok (.iload_n 3, 1) := by decide +kernel
theorem dL_law_834 : decode cL_law 834 = .ok (.iconst 1, 1) := by decide +kernel
theorem dL_law_835 : decode cL_law 835 = .ok (.iadd, 1) := by decide +kernel
theorem dL_law_836 : decode cL_law 836 = .ok (.iaload, 1) := by decide +kernel
theorem dL_law_837 : decode cL_law 837 = .ok (.invokevirtual 106, 3) := by decide +kernel
theorem dL_law_840 : decode cL_law 840 = .ok (.if_icmp .eq 5, 3) := by decide +kernel
theorem dL_law_843 : decode cL_law 843 = .ok (.iconst 0, 1) := by decide +kernel
theorem dL_law_844 : decode cL_law 844 = .ok (.ireturn, 1) := by decide +kernel
theorem dL_law_845 : decode cL_law 845 = .ok (.iinc 3 5, 3) := by decide +kernel
theorem dL_law_848 : decode cL_law 848 = .ok (.goto (-830), 3) := by decide +kernel
theorem dL_law_851 : decode cL_law 851 = .ok (.iconst 1, 1) := by decide +kernel
theorem dL_law_852 : decode cL_law 852 = .ok (.ireturn, 1) := by decide +kernel
end
section
/-! the words that every method takes as given: those of the tables that stay under a call -/
def wk : Cond → Bool
  | .arrayClass _ => true
  | .arrayOver (.object _) => true
  | .fieldLinkNest .. => true
  | .methodLinkNest .. => true
  | .castable .. => true
  | w => w.onTables && w.keeps
def TT : List Cond := lw_tbl.filter wk
def Tb (U : State) : Prop := ∀ w ∈ TT, ∀ a : Array Value, w.before a U = true
theorem Tb.warm {s U : State} (hW : s.WarmedH U.vm) (h : Tb s) : Tb U := by
  intro w hw a
  have hk : wk w = true := (List.mem_filter.mp hw).2
  have h0 := h w hw #[]
  cases w
  case arrayClass ty => exact word_at hW (Or.inr ⟨ty, rfl⟩) h0
  case fieldLinkNest => exact va_Nw.use rfl (va_Nw.warmF hW h0)
  case methodLinkNest => exact va_Nw.use rfl (va_Nw.warmM hW h0)
  case castable => exact va_Nw.use rfl (va_Nw.warmC hW h0)
  case arrayOver ty =>
    cases ty
    case object C => exact va_AO.use (va_AO.moved hW.alike (va_AO.of h0))
    all_goals exact word_at hW (Or.inl hk) h0
  all_goals exact word_at hW (Or.inl hk) h0
/-! the state: physical part (keys that live, address of a key, capacity and modCount of lists, elements), logical part (naturals, booleans, raw ints, longs) -/
abbrev Ph := List (Nat × Nat) × (Nat → Nat → Nat) × (Nat → Nat → Nat) × (Nat → Nat → Option Nat)
abbrev Lg := (Nat → Nat → Nat → Nat) × (Nat → Nat → Nat → Bool) × (Nat → Nat → Nat → Int32) × (Nat → Nat → Nat → Int64)
abbrev St := Ph × Lg × Lg
abbrev Ev := va_G × (Nat → ClassId) × Nat
def sK (u : St) : List (Nat × Nat) := u.1.1
def sA (u : St) : Nat → Nat → Nat := u.1.2.1
def sM (u : St) : Nat → Nat → Nat := u.1.2.2.1
def sE (u : St) : Nat → Nat → Option Nat := u.1.2.2.2
def gN (g : Lg) : Nat → Nat → Nat → Nat := g.1
def gB (g : Lg) : Nat → Nat → Nat → Bool := g.2.1
def gI (g : Lg) : Nat → Nat → Nat → Int32 := g.2.2.1
def gJ (g : Lg) : Nat → Nat → Nat → Int64 := g.2.2.2
def up3 {α : Type} (F : Nat → Nat → Nat → α) (f i j : Nat) (v : α) : Nat → Nat → Nat → α := fun f' => if f' = f then (fun i' j' => if i' = i ∧ j' = j then v else F f i' j') else F f'
def uN (g : Lg) (f i j : Nat) (v : Nat) : Lg := (up3 (gN g) f i j v, gB g, gI g, gJ g)
def uB (g : Lg) (f i j : Nat) (v : Bool) : Lg := (gN g, up3 (gB g) f i j v, gI g, gJ g)
def uI (g : Lg) (f i j : Nat) (v : Int32) : Lg := (gN g, gB g, up3 (gI g) f i j v, gJ g)
def uJ (g : Lg) (f i j : Nat) (v : Int64) : Lg := (gN g, gB g, gI g, up3 (gJ g) f i j v)
def b2i (b : Bool) : Int32 := if b then 1 else 0
def tyL (env : Ev) : List (ClassId × FieldType) := [(env.2.1 0, .int), (env.2.1 1, .long), (env.2.1 2, .boolean), (env.2.1 3, .object "FarStore$Site"), (env.2.1 4, .object "java/lang/Object")]
/-- a key lives, at this address -/
def At (u : St) (k i a : Nat) : Prop := (k, i) ∈ sK u ∧ sA u k i = a
set_option maxRecDepth 100000 in
def cn (env : Ev) (u : St) (k i : Nat) : va_E := match k with
  | 0 => .inr (5, [.ref (sA u 1 0), .int (nI (gN u.2.1 0 i 0)), .int (nI (gN u.2.1 1 i 0)), .ref (sA u 2 0), .ref (sA u 2 1), .ref (sA u 2 2)])
  | 1 => .inl (env.2.1 3, 4, .inr (.inr (.inr (.inr (fun j => some (sA u 5 j))))))
  | 2 => .inr (0, [.int (nI (sM u 1 i)), .ref (sA u 3 i), .int (nI (gN u.2.1 3 i 0))])
  | 3 => .inl (env.2.1 4, sM u 0 i, .inr (.inr (.inr (.inr (sE u i)))))
  | 4 => .inr (3, [.int (nI i), .ref (sA u 5 (gN u.2.1 25 i 0)), .int (b2i (gB u.2.1 4 i 0))])
  | 5 => .inr (2, [.int (nI i), .ref (sA u 6 i), .ref (sA u 2 (3 + i)), .ref (sA u 7 i)])
  | 6 => .inl (env.2.1 0, 4, .inl (fun j => nI (gN u.2.1 6 i j)))
  | 7 => .inl (env.2.1 0, 12, .inl (fun j => gI u.2.1 7 i j))
  | 8 => .inr (4, [.int (nI i), .ref (sA u 5 (gN u.2.1 26 i 0)), .ref (sA u 9 i), .ref (sA u 10 i), .ref (sA u 11 i), .ref (sA u 12 i), .ref (sA u 13 i), .int (b2i (gB u.2.1 14 i 0)), .int (nI (gN u.2.1 15 i 0)), .int (nI (gN u.2.1 16 i 0)), .int (nI (gN u.2.1 17 i 0)), .int (nI (gN u.2.1 18 i 0)), .int (nI (gN u.2.1 19 i 0)), .int (nI (gN u.2.1 20 i 0))])
  | 9 => .inl (env.2.1 0, 4, .inl (fun j => nI (gN u.2.1 9 i j)))
  | 10 => .inl (env.2.1 2, 12, .inl (fun j => b2i (gB u.2.1 10 i j)))
  | 11 => .inl (env.2.1 1, 12, .inr (.inl (fun j => gJ u.2.1 11 i j)))
  | 12 => .inl (env.2.1 1, 96, .inr (.inl (fun j => gJ u.2.1 12 i j)))
  | 13 => .inl (env.2.1 2, 4, .inl (fun j => b2i (gB u.2.1 13 i j)))
  | 14 => .inr (1, [.int (nI (gN u.2.1 21 i 0)), .ref (sA u 5 (gN u.2.1 22 i 0)), .ref (sA u 5 (gN u.2.1 23 i 0)), .ref (sA u 8 (gN u.2.1 24 i 0))])
  | 20 => .inr (6, [.int (nI (gN u.2.2 50 i 0)), .int (nI (gN u.2.2 51 i 0)), .int (nI (gN u.2.2 52 i 0)), .ref (sA u 24 0), .ref (sA u 25 0), .int (nI (gN u.2.2 55 i 0)), .ref (sA u 27 0), .ref (sA u 28 0), .ref (sA u 29 0), .ref (sA u 30 0), .ref (sA u 31 0), .ref (sA u 32 0), .ref (sA u 33 0), .ref (sA u 34 0), .ref (sA u 35 0), .ref (sA u 36 0), .ref (sA u 37 0), .ref (sA u 38 0), .ref (sA u 39 0), .ref (sA u 40 0), .ref (sA u 41 0), .ref (sA u 42 0), .int (nI (gN u.2.2 72 i 0)), .ref (sA u 44 0), .ref (sA u 45 0), .ref (sA u 46 0), .ref (sA u 47 0)])
  | 24 => .inl (env.2.1 0, 12, .inl (fun j => nI (gN u.2.2 53 i j)))
  | 25 => .inl (env.2.1 2, 12, .inl (fun j => b2i (gB u.2.2 54 i j)))
  | 27 => .inl (env.2.1 0, 150, .inl (fun j => nI (gN u.2.2 56 i j)))
  | 28 => .inl (env.2.1 0, 150, .inl (fun j => nI (gN u.2.2 57 i j)))
  | 29 => .inl (env.2.1 0, 600, .inl (fun j => nI (gN u.2.2 58 i j)))
  | 30 => .inl (env.2.1 0, 150, .inl (fun j => nI (gN u.2.2 59 i j)))
  | 31 => .inl (env.2.1 0, 150, .inl (fun j => nI (gN u.2.2 60 i j)))
  | 32 => .inl (env.2.1 0, 150, .inl (fun j => nI (gN u.2.2 61 i j)))
  | 33 => .inl (env.2.1 0, 150, .inl (fun j => nI (gN u.2.2 62 i j)))
  | 34 => .inl (env.2.1 2, 600, .inl (fun j => b2i (gB u.2.2 63 i j)))
  | 35 => .inl (env.2.1 2, 1800, .inl (fun j => b2i (gB u.2.2 64 i j)))
  | 36 => .inl (env.2.1 1, 1800, .inr (.inl (fun j => gJ u.2.2 65 i j)))
  | 37 => .inl (env.2.1 2, 1800, .inl (fun j => b2i (gB u.2.2 66 i j)))
  | 38 => .inl (env.2.1 1, 14400, .inr (.inl (fun j => gJ u.2.2 67 i j)))
  | 39 => .inl (env.2.1 0, 16, .inl (fun j => nI (gN u.2.2 68 i j)))
  | 40 => .inl (env.2.1 0, 600, .inl (fun j => nI (gN u.2.2 69 i j)))
  | 41 => .inl (env.2.1 0, 4, .inl (fun j => nI (gN u.2.2 70 i j)))
  | 42 => .inl (env.2.1 0, 48, .inl (fun j => gI u.2.2 71 i j))
  | 44 => .inl (env.2.1 0, 2400, .inl (fun j => nI (gN u.2.2 73 i j)))
  | 45 => .inl (env.2.1 0, 2400, .inl (fun j => nI (gN u.2.2 74 i j)))
  | 46 => .inl (env.2.1 0, 2400, .inl (fun j => nI (gN u.2.2 75 i j)))
  | 47 => .inl (env.2.1 0, 2400, .inl (fun j => nI (gN u.2.2 76 i j)))
  | _ => .inr (0, [])
theorem cn_0 (env : Ev) (u : St) (i : Nat) : cn env u 0 i = .inr (5, [.ref (sA u 1 0), .int (nI (gN u.2.1 0 i 0)), .int (nI (gN u.2.1 1 i 0)), .ref (sA u 2 0), .ref (sA u 2 1), .ref (sA u 2 2)]) := rfl
theorem cn_1 (env : Ev) (u : St) (i : Nat) : cn env u 1 i = .inl (env.2.1 3, 4, .inr (.inr (.inr (.inr (fun j => some (sA u 5 j)))))) := rfl
theorem cn_2 (env : Ev) (u : St) (i : Nat) : cn env u 2 i = .inr (0, [.int (nI (sM u 1 i)), .ref (sA u 3 i), .int (nI (gN u.2.1 3 i 0))]) := rfl
theorem cn_3 (env : Ev) (u : St) (i : Nat) : cn env u 3 i = .inl (env.2.1 4, sM u 0 i, .inr (.inr (.inr (.inr (sE u i))))) := rfl
theorem cn_4 (env : Ev) (u : St) (i : Nat) : cn env u 4 i = .inr (3, [.int (nI i), .ref (sA u 5 (gN u.2.1 25 i 0)), .int (b2i (gB u.2.1 4 i 0))]) := rfl
theorem cn_5 (env : Ev) (u : St) (i : Nat) : cn env u 5 i = .inr (2, [.int (nI i), .ref (sA u 6 i), .ref (sA u 2 (3 + i)), .ref (sA u 7 i)]) := rfl
theorem cn_6 (env : Ev) (u : St) (i : Nat) : cn env u 6 i = .inl (env.2.1 0, 4, .inl (fun j => nI (gN u.2.1 6 i j))) := rfl
theorem cn_7 (env : Ev) (u : St) (i : Nat) : cn env u 7 i = .inl (env.2.1 0, 12, .inl (fun j => gI u.2.1 7 i j)) := rfl
theorem cn_8 (env : Ev) (u : St) (i : Nat) : cn env u 8 i = .inr (4, [.int (nI i), .ref (sA u 5 (gN u.2.1 26 i 0)), .ref (sA u 9 i), .ref (sA u 10 i), .ref (sA u 11 i), .ref (sA u 12 i), .ref (sA u 13 i), .int (b2i (gB u.2.1 14 i 0)), .int (nI (gN u.2.1 15 i 0)), .int (nI (gN u.2.1 16 i 0)), .int (nI (gN u.2.1 17 i 0)), .int (nI (gN u.2.1 18 i 0)), .int (nI (gN u.2.1 19 i 0)), .int (nI (gN u.2.1 20 i 0))]) := rfl
theorem cn_9 (env : Ev) (u : St) (i : Nat) : cn env u 9 i = .inl (env.2.1 0, 4, .inl (fun j => nI (gN u.2.1 9 i j))) := rfl
theorem cn_10 (env : Ev) (u : St) (i : Nat) : cn env u 10 i = .inl (env.2.1 2, 12, .inl (fun j => b2i (gB u.2.1 10 i j))) := rfl
theorem cn_11 (env : Ev) (u : St) (i : Nat) : cn env u 11 i = .inl (env.2.1 1, 12, .inr (.inl (fun j => gJ u.2.1 11 i j))) := rfl
theorem cn_12 (env : Ev) (u : St) (i : Nat) : cn env u 12 i = .inl (env.2.1 1, 96, .inr (.inl (fun j => gJ u.2.1 12 i j))) := rfl
theorem cn_13 (env : Ev) (u : St) (i : Nat) : cn env u 13 i = .inl (env.2.1 2, 4, .inl (fun j => b2i (gB u.2.1 13 i j))) := rfl
theorem cn_14 (env : Ev) (u : St) (i : Nat) : cn env u 14 i = .inr (1, [.int (nI (gN u.2.1 21 i 0)), .ref (sA u 5 (gN u.2.1 22 i 0)), .ref (sA u 5 (gN u.2.1 23 i 0)), .ref (sA u 8 (gN u.2.1 24 i 0))]) := rfl
theorem cn_20 (env : Ev) (u : St) (i : Nat) : cn env u 20 i = .inr (6, [.int (nI (gN u.2.2 50 i 0)), .int (nI (gN u.2.2 51 i 0)), .int (nI (gN u.2.2 52 i 0)), .ref (sA u 24 0), .ref (sA u 25 0), .int (nI (gN u.2.2 55 i 0)), .ref (sA u 27 0), .ref (sA u 28 0), .ref (sA u 29 0), .ref (sA u 30 0), .ref (sA u 31 0), .ref (sA u 32 0), .ref (sA u 33 0), .ref (sA u 34 0), .ref (sA u 35 0), .ref (sA u 36 0), .ref (sA u 37 0), .ref (sA u 38 0), .ref (sA u 39 0), .ref (sA u 40 0), .ref (sA u 41 0), .ref (sA u 42 0), .int (nI (gN u.2.2 72 i 0)), .ref (sA u 44 0), .ref (sA u 45 0), .ref (sA u 46 0), .ref (sA u 47 0)]) := rfl
theorem cn_24 (env : Ev) (u : St) (i : Nat) : cn env u 24 i = .inl (env.2.1 0, 12, .inl (fun j => nI (gN u.2.2 53 i j))) := rfl
theorem cn_25 (env : Ev) (u : St) (i : Nat) : cn env u 25 i = .inl (env.2.1 2, 12, .inl (fun j => b2i (gB u.2.2 54 i j))) := rfl
theorem cn_27 (env : Ev) (u : St) (i : Nat) : cn env u 27 i = .inl (env.2.1 0, 150, .inl (fun j => nI (gN u.2.2 56 i j))) := rfl
theorem cn_28 (env : Ev) (u : St) (i : Nat) : cn env u 28 i = .inl (env.2.1 0, 150, .inl (fun j => nI (gN u.2.2 57 i j))) := rfl
theorem cn_29 (env : Ev) (u : St) (i : Nat) : cn env u 29 i = .inl (env.2.1 0, 600, .inl (fun j => nI (gN u.2.2 58 i j))) := rfl
theorem cn_30 (env : Ev) (u : St) (i : Nat) : cn env u 30 i = .inl (env.2.1 0, 150, .inl (fun j => nI (gN u.2.2 59 i j))) := rfl
theorem cn_31 (env : Ev) (u : St) (i : Nat) : cn env u 31 i = .inl (env.2.1 0, 150, .inl (fun j => nI (gN u.2.2 60 i j))) := rfl
theorem cn_32 (env : Ev) (u : St) (i : Nat) : cn env u 32 i = .inl (env.2.1 0, 150, .inl (fun j => nI (gN u.2.2 61 i j))) := rfl
theorem cn_33 (env : Ev) (u : St) (i : Nat) : cn env u 33 i = .inl (env.2.1 0, 150, .inl (fun j => nI (gN u.2.2 62 i j))) := rfl
theorem cn_34 (env : Ev) (u : St) (i : Nat) : cn env u 34 i = .inl (env.2.1 2, 600, .inl (fun j => b2i (gB u.2.2 63 i j))) := rfl
theorem cn_35 (env : Ev) (u : St) (i : Nat) : cn env u 35 i = .inl (env.2.1 2, 1800, .inl (fun j => b2i (gB u.2.2 64 i j))) := rfl
theorem cn_36 (env : Ev) (u : St) (i : Nat) : cn env u 36 i = .inl (env.2.1 1, 1800, .inr (.inl (fun j => gJ u.2.2 65 i j))) := rfl
theorem cn_37 (env : Ev) (u : St) (i : Nat) : cn env u 37 i = .inl (env.2.1 2, 1800, .inl (fun j => b2i (gB u.2.2 66 i j))) := rfl
theorem cn_38 (env : Ev) (u : St) (i : Nat) : cn env u 38 i = .inl (env.2.1 1, 14400, .inr (.inl (fun j => gJ u.2.2 67 i j))) := rfl
theorem cn_39 (env : Ev) (u : St) (i : Nat) : cn env u 39 i = .inl (env.2.1 0, 16, .inl (fun j => nI (gN u.2.2 68 i j))) := rfl
theorem cn_40 (env : Ev) (u : St) (i : Nat) : cn env u 40 i = .inl (env.2.1 0, 600, .inl (fun j => nI (gN u.2.2 69 i j))) := rfl
theorem cn_41 (env : Ev) (u : St) (i : Nat) : cn env u 41 i = .inl (env.2.1 0, 4, .inl (fun j => nI (gN u.2.2 70 i j))) := rfl
theorem cn_42 (env : Ev) (u : St) (i : Nat) : cn env u 42 i = .inl (env.2.1 0, 48, .inl (fun j => gI u.2.2 71 i j)) := rfl
theorem cn_44 (env : Ev) (u : St) (i : Nat) : cn env u 44 i = .inl (env.2.1 0, 2400, .inl (fun j => nI (gN u.2.2 73 i j))) := rfl
theorem cn_45 (env : Ev) (u : St) (i : Nat) : cn env u 45 i = .inl (env.2.1 0, 2400, .inl (fun j => nI (gN u.2.2 74 i j))) := rfl
theorem cn_46 (env : Ev) (u : St) (i : Nat) : cn env u 46 i = .inl (env.2.1 0, 2400, .inl (fun j => nI (gN u.2.2 75 i j))) := rfl
theorem cn_47 (env : Ev) (u : St) (i : Nat) : cn env u 47 i = .inl (env.2.1 0, 2400, .inl (fun j => nI (gN u.2.2 76 i j))) := rfl
def pool (env : Ev) (u : St) : va_W := (sK u).map (fun q => (sA u q.1 q.2, cn env u q.1 q.2))
theorem pool_at {env : Ev} {X : va_W} {u : St} {k i a : Nat} (h : At u k i a) : ∃ n : Nat, (X ++ pool env u)[n]? = some (a, cn env u k i) := by
  obtain ⟨hk, rfl⟩ := h
  exact List.getElem?_of_mem (List.mem_append_right _ (List.mem_map.mpr ⟨(k, i), hk, rfl⟩))
theorem pool_set {env : Ev} {A : Nat → Prop} {X : va_W} {u u' : St} {k i n a : Nat} {e0 e : va_E} (hD : va_D A (X ++ pool env u)) (hk : At u k i a) (hn : (X ++ pool env u)[n]? = some (a, e0)) (hs : sK u' = sK u) (ha : sA u' = sA u) (hc : ∀ k' i', cn env u' k' i' = if k' = k ∧ i' = i then e else cn env u k' i') : (X ++ pool env u).set n (a, e) = X ++ pool env u' := by
  obtain ⟨hk, rfl⟩ := hk
  obtain ⟨w, hw⟩ := List.getElem?_of_mem hk
  have hwl := (List.getElem?_eq_some_iff.mp hw).1
  have h1 : (pool env u)[w]? = some (sA u k i, cn env u k i) := by simp [pool, hw]
  have h2 : (X ++ pool env u)[X.length + w]? = some (sA u k i, cn env u k i) := by
    rw [List.getElem?_append_right (by omega), Nat.add_sub_cancel_left]
    exact h1
  have hnw := hD.1 n (X.length + w) _ _ hn h2 rfl
  subst hnw
  rw [List.set_append_right _ _ (by omega), Nat.add_sub_cancel_left]
  refine congrArg (fun l => X ++ l) ?_
  apply List.ext_getElem?
  intro j
  by_cases hj : j = w
  · subst hj
    rw [List.getElem?_set_self (by simp [pool]; exact hwl)]
    simp [pool, hs, ha, hw, hc]
  · rw [List.getElem?_set_ne (Ne.symm hj)]
    simp only [pool, hs, ha, List.getElem?_map]
    cases hq : (sK u)[j]? with
    | none => rfl
    | some q =>
      have hne : ¬ (q.1 = k ∧ q.2 = i) := fun hh => by
        have hq1 : q = (k, i) := Prod.ext hh.1 hh.2
        have h3 : (X ++ pool env u)[X.length + j]? = some (sA u k i, cn env u k i) := by
          rw [List.getElem?_append_right (by omega), Nat.add_sub_cancel_left]
          simp [pool, hq, hq1]
        have := hD.1 (X.length + j) (X.length + w) _ _ h3 h2 rfl
        omega
      simp [hc, hne]
/-- the world at a state -/
def Wd (env : Ev) (s0 : Nat) (X : va_W) (u : St) (U : State) (H : Heap) : Prop := va_P env.1 vwCl (X ++ pool env u) H ∧ va_K env.1 vwCl (tyL env) U ∧ va_D (fun q => s0 ≤ q) (X ++ pool env u)
def Zs (env : Ev) (s0 : Nat) (U : State) (H : Heap) : Prop := va_Z "java/util/ArrayList" "DEFAULTCAPACITY_EMPTY_ELEMENTDATA" "[Ljava/lang/Object;" (.ref env.2.2) (fun q => s0 ≤ q) U H ∧ va_T (.object "java/lang/Object") env.2.2 0 (fun _ => .null) (fun q => s0 ≤ q) U H
def Pr (env : Ev) (s0 : Nat) (X : va_W) (u : St) (U : State) : Prop := Wd env s0 X u U U.heap ∧ Tb U ∧ Zs env s0 U U.heap ∧ s0 ≤ U.heap.size
def Po (env : Ev) (s0 : Nat) (X : va_W) (u : St) (t : State) : Prop := Wd env s0 X u t t.heap
def Bd (env : Ev) (s0 : Nat) (X : va_W) (u : St) (s : State) (H : Heap) (locs : List Loc) : Prop := Wd env s0 X u s H ∧ va_S (fun q => s0 ≤ q) s.heap H locs ∧ Tb s ∧ Zs env s0 s s.heap ∧ s0 ≤ s.heap.size
theorem Bd.entry {env : Ev} {s0 : Nat} {X : va_W} {u : St} {s : State} (h : Pr env s0 X u s) : Bd env s0 X u s s.heap [] := ⟨h.1, va_S.rf, h.2.1, h.2.2⟩
theorem Wd.moved {env : Ev} {s0 : Nat} {X : va_W} {u : St} {s U : State} {H : Heap} (hv : s.vm.Alike U.vm) (h : Wd env s0 X u s H) : Wd env s0 X u U H := ⟨h.1, va_K.moved hv h.2.1, h.2.2⟩
theorem Bd.pr {env : Ev} {s0 : Nat} {X : va_W} {u : St} {s U : State} {H : Heap} {locs : List Loc} (h : Bd env s0 X u s H locs) (hU : U.heap = H) (hW : s.WarmedH U.vm) : Pr env s0 X u U := by
  subst hU
  exact ⟨h.1.moved hW.alike, h.2.2.1.warm hW, ⟨va_Z.moved hW.alike (va_Z.kept h.2.2.2.1.1 h.2.1.2.1), va_T.moved hW.alike (va_T.kept h.2.2.2.1.2 h.2.1.2.1)⟩, Nat.le_trans h.2.2.2.2 h.2.1.1⟩
theorem Pr.blind {env : Ev} {s0 : Nat} {X : va_W} {u : St} {av : List Value} : FrameBlind (va_Pc av (Pr env s0 X u)) := by
  intro a U g mk h
  refine ⟨h.1, ?_⟩
  exact ⟨h.2.1.moved (Vm.Alike.refl U.vm), h.2.2.1.warm (s := U) (U := U.calling g mk a) (State.WarmedH.refl U), ⟨va_Z.moved (u := U) (U := U.calling g mk a) (Vm.Alike.refl U.vm) h.2.2.2.1.1, va_T.moved (u := U) (U := U.calling g mk a) (Vm.Alike.refl U.vm) h.2.2.2.1.2⟩, h.2.2.2.2⟩
theorem Bd.back {env : Ev} {s0 : Nat} {X : va_W} {u u' : St} {s t : State} {H H1 : Heap} {locs locs1 : List Loc} (h : Bd env s0 X u s H locs) (ht : t.heap = H1) (hv : s.vm.Alike t.vm) (hB : Po env s0 X u' t) (hS : va_S (fun q => s0 ≤ q) s.heap H1 locs1) : Bd env s0 X u' s H1 locs1 := by
  subst ht
  exact ⟨Wd.moved hv.symm hB, hS, h.2.2⟩
theorem Bd.po {env : Ev} {s0 : Nat} {X : va_W} {u : St} {s t : State} {H : Heap} {locs : List Loc} (h : Bd env s0 X u s H locs) (ht : t.heap = H) (hW : s.WarmedH t.vm) : Po env s0 X u t ∧ va_F (fun q => s0 ≤ q) s t := by
  subst ht
  exact ⟨h.1.moved hW.alike, h.2.1.F rfl⟩
theorem Bd.recv {env : Ev} {s0 : Nat} {X : va_W} {u : St} {s : State} {H : Heap} {locs : List Loc} {k i a ci : Nat} {fs : List Value} {q : vw_C} (h : Bd env s0 X u s H locs) (ha : At u k i a) (he : cn env u k i = .inr (ci, fs)) (hc : vwCl[ci]? = some q) : ∃ cell : Cell, H[a]? = some cell ∧ cell.vm.isStatics = false ∧ s.vm.findClass q.1 = some cell.cls := by
  obtain ⟨n, hn⟩ := pool_at (env := env) (X := X) ha
  rw [he] at hn
  exact va_recv h.1.2.1 h.1.1 hc hn
end
section
section RW
variable {p : Program} {l : Launch} {e : Env} {R : Room} {s : State} {m : MethodId} {args : Array Value} {below : List Frame} {meth : Method} {c : Code} {H : Heap} {locs : List Loc} {cells slots : Nat} {Q : State → Prop} {cc : ByteArray} {nL : Nat} {own : String} {pc : Nat} {ls : Array Slot} {rest : List Value} {env : Ev} {s0 : Nat} {X : va_W} {u : St} {k i a : Nat}
theorem w_get (hF : CallFix p m c cc nL s args TT own) (hB : Bd env s0 X u s H locs) (ha : At u k i a) {ci N fk index : Nat} {fs : List Value} {C ref : String} {T : u_T} (he : cn env u k i = .inr (ci, fs)) (hc : vwCl[ci]? = some (C, T, N)) (hin : ∀ w ∈ u_ws C T N, w ∈ TT) (hfk : fk < N) (hl : Cond.fieldLink own index ref (T fk).2.1 (T fk).2.2.1 ∈ TT) (hsame : (T fk).1 = ref) {v : Value} (hv : fs[fk]? = some v) (hdg : decode cc pc = .ok (.getfield index, 3)) (kk : W p l e R s m args below meth c H locs cells slots Q (F0 m (pc + 3) ls (v :: rest))) : W p l e R s m args below meth c H locs cells slots Q (F0 m pc ls (.ref a :: rest)) := by
  obtain ⟨n, hn⟩ := pool_at (env := env) (X := X) ha
  rw [he] at hn
  exact va_get hF.1 hF.2.1 hF.2.2.2.2 hin hF.2.2.2.1 hB.1.2.1 hB.1.1 n hn hc fk hfk (hF.2.2.2.2 _ hl) (fun x h => by rw [← hsame]; exact h) hv hdg kk
theorem w_getN (hF : CallFix p m c cc nL s args TT own) (hB : Bd env s0 X u s H locs) (ha : At u k i a) {ci N fk index : Nat} {fs : List Value} {C ref : String} {host : String} {T : u_T} (he : cn env u k i = .inr (ci, fs)) (hc : vwCl[ci]? = some (C, T, N)) (hin : ∀ w ∈ u_ws C T N, w ∈ TT) (hfk : fk < N) (hl : Cond.fieldLinkNest own index ref (T fk).2.1 (T fk).2.2.1 host ∈ TT) (hsame : (T fk).1 = ref) {v : Value} (hv : fs[fk]? = some v) (hdg : decode cc pc = .ok (.getfield index, 3)) (kk : W p l e R s m args below meth c H locs cells slots Q (F0 m (pc + 3) ls (v :: rest))) : W p l e R s m args below meth c H locs cells slots Q (F0 m pc ls (.ref a :: rest)) := by
  obtain ⟨n, hn⟩ := pool_at (env := env) (X := X) ha
  rw [he] at hn
  exact va_getN hF.1 hF.2.1 hF.2.2.2.2 hin hF.2.2.2.1 hB.1.2.1 hB.1.1 n hn hc fk hfk (hF.2.2.2.2 _ hl) (fun x h => by rw [← hsame]; exact h) hv hdg kk
theorem w_getM (hF : CallFix p m c cc nL s args TT own) (hB : Bd env s0 X u s H locs) (ha : At u k i a) {ci N fk index : Nat} {fs : List Value} {C ref : String} {T : u_T} (he : cn env u k i = .inr (ci, fs)) (hc : vwCl[ci]? = some (C, T, N)) (hin : ∀ w ∈ u_ws C T N, w ∈ TT) (hfk : fk < N) (hl : Cond.fieldLink own index ref (T fk).2.1 (T fk).2.2.1 ∈ TT) (hsame : ∀ x, s.fieldFound? (T fk).1 (T fk).2.1 (T fk).2.2.1 = some x → s.fieldFound? ref (T fk).2.1 (T fk).2.2.1 = some x) {v : Value} (hv : fs[fk]? = some v) (hdg : decode cc pc = .ok (.getfield index, 3)) (kk : W p l e R s m args below meth c H locs cells slots Q (F0 m (pc + 3) ls (v :: rest))) : W p l e R s m args below meth c H locs cells slots Q (F0 m pc ls (.ref a :: rest)) := by
  obtain ⟨n, hn⟩ := pool_at (env := env) (X := X) ha
  rw [he] at hn
  exact va_get hF.1 hF.2.1 hF.2.2.2.2 hin hF.2.2.2.1 hB.1.2.1 hB.1.1 n hn hc fk hfk (hF.2.2.2.2 _ hl) hsame hv hdg kk
theorem w_put (hF : CallFix p m c cc nL s args TT own) (hB : Bd env s0 X u s H locs) (ha : At u k i a) {ci N fk index : Nat} {fs : List Value} {C ref : String} {T : u_T} (u' : St) (he : cn env u k i = .inr (ci, fs)) (hc : vwCl[ci]? = some (C, T, N)) (hin : ∀ w ∈ u_ws C T N, w ∈ TT) (ty0 : Nat → FieldType) (hty : ∀ k, k < N → parseFieldDescriptor (T k).2.2.1 = some (ty0 k)) (hnm : ∀ a, a < N → ∀ b, b < N → a ≠ b → (T a).2.1 ≠ (T b).2.1) (hfk : fk < N) (hl : Cond.fieldLink own index ref (T fk).2.1 (T fk).2.2.1 ∈ TT) (hsame : (T fk).1 = ref) (hfin : (T fk).2.2.2 = false) {ty : FieldType} {v : Value} (hd : parseFieldDescriptor (T fk).2.2.1 = some ty) (hnr : narrow ty v = v) (hfit : fits ty v = true) (hlen : fk < fs.length) (hs : sK u' = sK u) (hA : sA u' = sA u) (hcu : ∀ k' i', cn env u' k' i' = if k' = k ∧ i' = i then .inr (ci, fs.set fk v) else cn env u k' i') (hdg : decode cc pc = .ok (.putfield index, 3)) (kk : ∀ H locs, Bd env s0 X u' s H locs → W p l e R s m args below meth c H locs cells slots Q (F0 m (pc + 3) ls (rest))) : W p l e R s m args below meth c H locs cells slots Q (F0 m pc ls (v :: .ref a :: rest)) := by
  obtain ⟨n, hn⟩ := pool_at (env := env) (X := X) ha
  have hn0 := hn
  rw [he] at hn
  refine va_put hF.1 hF.2.1 hF.2.2.2.2 hin ty0 hty hnm hF.2.2.2.1 hB.1.2.1 hB.1.1 hB.1.2.2 hB.2.1 n hn hc fk hfk (hF.2.2.2.2 _ hl) (fun x h => by rw [← hsame]; exact h) hfin hd hnr hfit hlen hdg (fun H1 locs1 hP hD hS => ?_)
  rw [pool_set hB.1.2.2 ha hn0 hs hA hcu] at hP hD
  exact kk H1 locs1 ⟨⟨hP, hB.1.2.1, hD⟩, hS, hB.2.2⟩
theorem w_putN (hF : CallFix p m c cc nL s args TT own) (hB : Bd env s0 X u s H locs) (ha : At u k i a) {ci N fk index : Nat} {fs : List Value} {C ref : String} {host : String} {T : u_T} (u' : St) (he : cn env u k i = .inr (ci, fs)) (hc : vwCl[ci]? = some (C, T, N)) (hin : ∀ w ∈ u_ws C T N, w ∈ TT) (ty0 : Nat → FieldType) (hty : ∀ k, k < N → parseFieldDescriptor (T k).2.2.1 = some (ty0 k)) (hnm : ∀ a, a < N → ∀ b, b < N → a ≠ b → (T a).2.1 ≠ (T b).2.1) (hfk : fk < N) (hl : Cond.fieldLinkNest own index ref (T fk).2.1 (T fk).2.2.1 host ∈ TT) (hsame : (T fk).1 = ref) (hfin : (T fk).2.2.2 = false) {ty : FieldType} {v : Value} (hd : parseFieldDescriptor (T fk).2.2.1 = some ty) (hnr : narrow ty v = v) (hfit : fits ty v = true) (hlen : fk < fs.length) (hs : sK u' = sK u) (hA : sA u' = sA u) (hcu : ∀ k' i', cn env u' k' i' = if k' = k ∧ i' = i then .inr (ci, fs.set fk v) else cn env u k' i') (hdg : decode cc pc = .ok (.putfield index, 3)) (kk : ∀ H locs, Bd env s0 X u' s H locs → W p l e R s m args below meth c H locs cells slots Q (F0 m (pc + 3) ls (rest))) : W p l e R s m args below meth c H locs cells slots Q (F0 m pc ls (v :: .ref a :: rest)) := by
  obtain ⟨n, hn⟩ := pool_at (env := env) (X := X) ha
  have hn0 := hn
  rw [he] at hn
  refine va_putN hF.1 hF.2.1 hF.2.2.2.2 hin ty0 hty hnm hF.2.2.2.1 hB.1.2.1 hB.1.1 hB.1.2.2 hB.2.1 n hn hc fk hfk (hF.2.2.2.2 _ hl) (fun x h => by rw [← hsame]; exact h) hfin hd hnr hfit hlen hdg (fun H1 locs1 hP hD hS => ?_)
  rw [pool_set hB.1.2.2 ha hn0 hs hA hcu] at hP hD
  exact kk H1 locs1 ⟨⟨hP, hB.1.2.1, hD⟩, hS, hB.2.2⟩
theorem w_iald (hF : CallFix p m c cc nL s args TT own) (hB : Bd env s0 X u s H locs) (ha : At u k i a) {n j : Nat} {f : Nat → Int32} {v : Value} (he : cn env u k i = .inl (env.2.1 0, n, .inl f)) (hj : j < n) (hv : .int (f j) = v) (hn2 : n < 2 ^ 31) (hdg : decode cc pc = .ok (.iaload, 1)) (kk : W p l e R s m args below meth c H locs cells slots Q (F0 m (pc + 1) ls (v :: rest))) : W p l e R s m args below meth c H locs cells slots Q (F0 m pc ls (.int (nI j) :: .ref a :: rest)) := by
  obtain ⟨n0, hn⟩ := pool_at (env := env) (X := X) ha
  rw [he] at hn
  refine va_iald hF.1 hF.2.1 hB.1.2.1 hB.1.1 n0 0 hn rfl (vp_in_nI hj hn2) hdg ?_
  rw [nI_clamp (by omega), hv]
  exact kk
theorem w_zald (hF : CallFix p m c cc nL s args TT own) (hB : Bd env s0 X u s H locs) (ha : At u k i a) {n j : Nat} {f : Nat → Int32} {v : Value} (he : cn env u k i = .inl (env.2.1 2, n, .inl f)) (hj : j < n) (hv : .int (f j) = v) (hn2 : n < 2 ^ 31) (hdg : decode cc pc = .ok (.baload, 1)) (kk : W p l e R s m args below meth c H locs cells slots Q (F0 m (pc + 1) ls (v :: rest))) : W p l e R s m args below meth c H locs cells slots Q (F0 m pc ls (.int (nI j) :: .ref a :: rest)) := by
  obtain ⟨n0, hn⟩ := pool_at (env := env) (X := X) ha
  rw [he] at hn
  refine va_zald hF.1 hF.2.1 hB.1.2.1 hB.1.1 n0 2 hn rfl (vp_in_nI hj hn2) hdg ?_
  rw [nI_clamp (by omega), hv]
  exact kk
theorem w_lald (hF : CallFix p m c cc nL s args TT own) (hB : Bd env s0 X u s H locs) (ha : At u k i a) {n j : Nat} {f : Nat → Int64} {v : Value} (he : cn env u k i = .inl (env.2.1 1, n, .inr (.inl f))) (hj : j < n) (hv : .long (f j) = v) (hn2 : n < 2 ^ 31) (hdg : decode cc pc = .ok (.laload, 1)) (kk : W p l e R s m args below meth c H locs cells slots Q (F0 m (pc + 1) ls (v :: rest))) : W p l e R s m args below meth c H locs cells slots Q (F0 m pc ls (.int (nI j) :: .ref a :: rest)) := by
  obtain ⟨n0, hn⟩ := pool_at (env := env) (X := X) ha
  rw [he] at hn
  refine va_lald hF.1 hF.2.1 hB.1.2.1 hB.1.1 n0 1 hn rfl (vp_in_nI hj hn2) hdg ?_
  rw [nI_clamp (by omega), hv]
  exact kk
theorem w_aldS (hF : CallFix p m c cc nL s args TT own) (hB : Bd env s0 X u s H locs) (ha : At u k i a) {n j : Nat} {f : Nat → Option Nat} {v : Value} (he : cn env u k i = .inl (env.2.1 3, n, .inr (.inr (.inr (.inr f))))) (hj : j < n) (hv : va_rf (f j) = v) (hn2 : n < 2 ^ 31) (hdg : decode cc pc = .ok (.aaload, 1)) (kk : W p l e R s m args below meth c H locs cells slots Q (F0 m (pc + 1) ls (v :: rest))) : W p l e R s m args below meth c H locs cells slots Q (F0 m pc ls (.int (nI j) :: .ref a :: rest)) := by
  obtain ⟨n0, hn⟩ := pool_at (env := env) (X := X) ha
  rw [he] at hn
  refine va_aldq hF.1 hF.2.1 hB.1.2.1 hB.1.1 n0 3 hn rfl (vp_in_nI hj hn2) hdg ?_
  rw [nI_clamp (by omega), hv]
  exact kk
theorem w_aldO (hF : CallFix p m c cc nL s args TT own) (hB : Bd env s0 X u s H locs) (ha : At u k i a) {n j : Nat} {f : Nat → Option Nat} {v : Value} (he : cn env u k i = .inl (env.2.1 4, n, .inr (.inr (.inr (.inr f))))) (hj : j < n) (hv : va_rf (f j) = v) (hn2 : n < 2 ^ 31) (hdg : decode cc pc = .ok (.aaload, 1)) (kk : W p l e R s m args below meth c H locs cells slots Q (F0 m (pc + 1) ls (v :: rest))) : W p l e R s m args below meth c H locs cells slots Q (F0 m pc ls (.int (nI j) :: .ref a :: rest)) := by
  obtain ⟨n0, hn⟩ := pool_at (env := env) (X := X) ha
  rw [he] at hn
  refine va_aldq hF.1 hF.2.1 hB.1.2.1 hB.1.1 n0 4 hn rfl (vp_in_nI hj hn2) hdg ?_
  rw [nI_clamp (by omega), hv]
  exact kk
theorem w_iast (hF : CallFix p m c cc nL s args TT own) (hB : Bd env s0 X u s H locs) (ha : At u k i a) {n j : Nat} {f : Nat → Int32} {x : Int32} (u' : St) (he : cn env u k i = .inl (env.2.1 0, n, .inl f)) (hj : j < n) (hn2 : n < 2 ^ 31) (hs : sK u' = sK u) (hA : sA u' = sA u) (hcu : ∀ k' i', cn env u' k' i' = if k' = k ∧ i' = i then .inl (env.2.1 0, n, .inl (upd f j x)) else cn env u k' i') (hdg : decode cc pc = .ok (.iastore, 1)) (kk : ∀ H locs, Bd env s0 X u' s H locs → W p l e R s m args below meth c H locs cells slots Q (F0 m (pc + 1) ls (rest))) : W p l e R s m args below meth c H locs cells slots Q (F0 m pc ls (.int x :: .int (nI j) :: .ref a :: rest)) := by
  obtain ⟨n0, hn⟩ := pool_at (env := env) (X := X) ha
  have hn0 := hn
  rw [he] at hn
  refine va_iast hF.1 hF.2.1 hB.1.2.1 hB.1.1 hB.1.2.2 hB.2.1 n0 0 hn rfl (vp_in_nI hj hn2) hdg (fun H1 locs1 hP hD hS => ?_)
  rw [nI_clamp (by omega)] at hP hD
  rw [pool_set hB.1.2.2 ha hn0 hs hA hcu] at hP hD
  exact kk H1 locs1 ⟨⟨hP, hB.1.2.1, hD⟩, hS, hB.2.2⟩
theorem w_zast (hF : CallFix p m c cc nL s args TT own) (hB : Bd env s0 X u s H locs) (ha : At u k i a) {n j : Nat} {f : Nat → Int32} {x : Int32} (u' : St) (he : cn env u k i = .inl (env.2.1 2, n, .inl f)) (hj : j < n) (hn2 : n < 2 ^ 31) (hz : vp_nar .boolean x = x) (hs : sK u' = sK u) (hA : sA u' = sA u) (hcu : ∀ k' i', cn env u' k' i' = if k' = k ∧ i' = i then .inl (env.2.1 2, n, .inl (upd f j x)) else cn env u k' i') (hdg : decode cc pc = .ok (.bastore, 1)) (kk : ∀ H locs, Bd env s0 X u' s H locs → W p l e R s m args below meth c H locs cells slots Q (F0 m (pc + 1) ls (rest))) : W p l e R s m args below meth c H locs cells slots Q (F0 m pc ls (.int x :: .int (nI j) :: .ref a :: rest)) := by
  obtain ⟨n0, hn⟩ := pool_at (env := env) (X := X) ha
  have hn0 := hn
  rw [he] at hn
  refine va_zast hF.1 hF.2.1 hB.1.2.1 hB.1.1 hB.1.2.2 hB.2.1 n0 2 hn rfl (vp_in_nI hj hn2) hdg (fun H1 locs1 hP hD hS => ?_)
  rw [nI_clamp (by omega), hz] at hP hD
  rw [pool_set hB.1.2.2 ha hn0 hs hA hcu] at hP hD
  exact kk H1 locs1 ⟨⟨hP, hB.1.2.1, hD⟩, hS, hB.2.2⟩
theorem w_last (hF : CallFix p m c cc nL s args TT own) (hB : Bd env s0 X u s H locs) (ha : At u k i a) {n j : Nat} {f : Nat → Int64} {x : Int64} (u' : St) (he : cn env u k i = .inl (env.2.1 1, n, .inr (.inl f))) (hj : j < n) (hn2 : n < 2 ^ 31) (hs : sK u' = sK u) (hA : sA u' = sA u) (hcu : ∀ k' i', cn env u' k' i' = if k' = k ∧ i' = i then .inl (env.2.1 1, n, .inr (.inl (vp_updL f j x))) else cn env u k' i') (hdg : decode cc pc = .ok (.lastore, 1)) (kk : ∀ H locs, Bd env s0 X u' s H locs → W p l e R s m args below meth c H locs cells slots Q (F0 m (pc + 1) ls (rest))) : W p l e R s m args below meth c H locs cells slots Q (F0 m pc ls (.long x :: .int (nI j) :: .ref a :: rest)) := by
  obtain ⟨n0, hn⟩ := pool_at (env := env) (X := X) ha
  have hn0 := hn
  rw [he] at hn
  refine va_last hF.1 hF.2.1 hB.1.2.1 hB.1.1 hB.1.2.2 hB.2.1 n0 1 hn rfl (vp_in_nI hj hn2) hdg (fun H1 locs1 hP hD hS => ?_)
  rw [nI_clamp (by omega)] at hP hD
  rw [pool_set hB.1.2.2 ha hn0 hs hA hcu] at hP hD
  exact kk H1 locs1 ⟨⟨hP, hB.1.2.1, hD⟩, hS, hB.2.2⟩
end RW
end
section
/-- what a callee brings along -/
def Cp (y : MethodName) (bytes : ByteArray) (maxL : Nat) (ret : Option FieldType) (n : Nat) : Prop := Cond.code y bytes maxL ret ∈ TT ∧ Cond.initialized y.cls ∈ TT ∧ (y.cls ≠ "java/lang/invoke/MethodHandle" ∧ y.cls ≠ "java/lang/invoke/VarHandle" ∧ (parseMethodDescriptor y.desc).map (fun d => d.parameters.length) = some n)
def Cv (y : MethodName) (bytes : ByteArray) (maxL : Nat) (ret : Option FieldType) (n : Nat) : Prop := Cp y bytes maxL ret n ∧ Cond.instanceMethod y ∈ TT ∧ Cond.selects y.cls y y ∈ TT
def Cs (y : MethodName) (bytes : ByteArray) (maxL : Nat) (ret : Option FieldType) (n : Nat) : Prop := Cp y bytes maxL ret n ∧ Cond.static y ∈ TT
def Ci (y : MethodName) (bytes : ByteArray) (maxL : Nat) (n : Nat) : Prop := Cp y bytes maxL none n ∧ Cond.instanceMethod y ∈ TT ∧ y.name = "<init>"
section CW
variable {p : Program} {l : Launch} {e : Env} {R : Room} {s : State} {m : MethodId} {args : Array Value} {below : List Frame} {meth : Method} {c : Code} {H : Heap} {locs : List Loc} {cells slots : Nat} {Q : State → Prop} {cc : ByteArray} {nL : Nat} {own : String} {pc : Nat} {ls : Array Slot} {rest st0 As : List Value} {env : Ev} {s0 : Nat} {X : va_W} {u : St} {k i a b : Nat}
variable {y : MethodName} {bytes : ByteArray} {maxL mc ms n index : Nat} {ret : Option FieldType} {rm : Room} {Qc : Array Value → State → Outcome → State → Prop} {free : Addr → Prop}
theorem good1 (h : Cond.code y bytes maxL ret ∈ TT) : GoodIn TT [Cond.code y bytes maxL ret] := fun w hw => by
  rw [List.mem_singleton.mp hw]
  exact ⟨h, good_of_word rfl⟩
theorem cB (hF : CallFix p m c cc nL s args TT own) (hp : Cp y bytes maxL ret n) (hl : Cond.methodLink own index y ∈ TT) (hR : rm.cells = mc ∧ rm.slots = ms ∧ rm.frames + 1 ≤ R.frames ∧ 8 + (maxL + 11) + rm.locals ≤ R.locals) : CallB R s args own index y bytes maxL ret [Cond.code y bytes maxL ret] rm mc ms n :=
  callB_of n hF.2.2.2.2 (good1 hp.1) rfl hR.1 hR.2.1 (hF.2.2.2.2 _ hp.2.1) (hF.2.2.2.2 _ hl) hp.2.2 hR.2.2
theorem cBN {host : String} (hF : CallFix p m c cc nL s args TT own) (hp : Cp y bytes maxL ret n) (hl : Cond.methodLinkNest own index y host ∈ TT) (hR : rm.cells = mc ∧ rm.slots = ms ∧ rm.frames + 1 ≤ R.frames ∧ 8 + (maxL + 11) + rm.locals ≤ R.locals) : va_CN R s args own index y host bytes maxL ret [Cond.code y bytes maxL ret] rm mc ms n :=
  va_cnB n hF.2.2.2.2 (good1 hp.1) rfl hR.1 hR.2.1 (va_Nw.of rfl (hF.2.2.2.2 _ hl)) (hF.2.2.2.2 _ hp.2.1) hp.2.2 hR.2.2
theorem r_V (hF : CallFix p m c cc nL s args TT own) (hB : Bd env s0 X u s H locs) (hM : Met l y [Cond.code y bytes maxL ret] rm (va_Pc (.ref b :: As) (Pr env s0 X u)) Qc mc ms free) (hp : Cv y bytes maxL ret n) (hl : Cond.methodLink own index y ∈ TT) (hR : rm.cells = mc ∧ rm.slots = ms ∧ rm.frames + 1 ≤ R.frames ∧ 8 + (maxL + 11) + rm.locals ≤ R.locals) (hrec : ∃ cell : Cell, H[b]? = some cell ∧ cell.vm.isStatics = false ∧ s.vm.findClass y.cls = some cell.cls) (hn : As.length = n) (hsize : ls.size = nL) (hstack : st0 = As.reverse ++ .ref b :: rest) (hW : 2 * (F0 m pc ls st0).monitorRoom + (rest.map fun v => v.category).sum ≤ 8) (hdg : decode cc pc = .ok (.invokevirtual index, 3)) (hf : cells + mc ≤ R.cells ∧ slots + ms ≤ R.slots) : va_Run p l e R s m args below meth c H locs cells slots mc ms (F0 m pc ls st0) rest (Qc (Value.ref b :: As).toArray) free :=
  va_runV hF hM ⟨cB hF hp.1 hl hR, hF.2.2.2.2 _ hp.2.1, hF.2.2.2.2 _ hp.2.2⟩ ⟨Pr.blind, hrec, fun U hU hW => ⟨rfl, hB.pr hU hW⟩⟩ rfl hn hsize hstack hW hdg hf
theorem r_VN {host : String} (hF : CallFix p m c cc nL s args TT own) (hB : Bd env s0 X u s H locs) (hM : Met l y [Cond.code y bytes maxL ret] rm (va_Pc (.ref b :: As) (Pr env s0 X u)) Qc mc ms free) (hp : Cv y bytes maxL ret n) (hl : Cond.methodLinkNest own index y host ∈ TT) (hR : rm.cells = mc ∧ rm.slots = ms ∧ rm.frames + 1 ≤ R.frames ∧ 8 + (maxL + 11) + rm.locals ≤ R.locals) (hrec : ∃ cell : Cell, H[b]? = some cell ∧ cell.vm.isStatics = false ∧ s.vm.findClass y.cls = some cell.cls) (hn : As.length = n) (hsize : ls.size = nL) (hstack : st0 = As.reverse ++ .ref b :: rest) (hW : 2 * (F0 m pc ls st0).monitorRoom + (rest.map fun v => v.category).sum ≤ 8) (hdg : decode cc pc = .ok (.invokevirtual index, 3)) (hf : cells + mc ≤ R.cells ∧ slots + ms ≤ R.slots) : va_Run p l e R s m args below meth c H locs cells slots mc ms (F0 m pc ls st0) rest (Qc (Value.ref b :: As).toArray) free :=
  va_runVN hF hM ⟨cBN hF hp.1 hl hR, hF.2.2.2.2 _ hp.2.1, hF.2.2.2.2 _ hp.2.2⟩ ⟨Pr.blind, hrec, fun U hU hW => ⟨rfl, hB.pr hU hW⟩⟩ rfl hn hsize hstack hW hdg hf
theorem r_S (hF : CallFix p m c cc nL s args TT own) (hB : Bd env s0 X u s H locs) (hM : Met l y [Cond.code y bytes maxL ret] rm (va_Pc (As) (Pr env s0 X u)) Qc mc ms free) (hp : Cs y bytes maxL ret n) (hl : Cond.methodLink own index y ∈ TT) (hR : rm.cells = mc ∧ rm.slots = ms ∧ rm.frames + 1 ≤ R.frames ∧ 8 + (maxL + 11) + rm.locals ≤ R.locals) (hn : As.length = n) (hsize : ls.size = nL) (hstack : st0 = As.reverse ++ rest) (hW : 2 * (F0 m pc ls st0).monitorRoom + (rest.map fun v => v.category).sum ≤ 8) (hdg : decode cc pc = .ok (.invokestatic index, 3)) (hf : cells + mc ≤ R.cells ∧ slots + ms ≤ R.slots) : va_Run p l e R s m args below meth c H locs cells slots mc ms (F0 m pc ls st0) rest (Qc (As).toArray) free :=
  va_runS hF hM ⟨cB hF hp.1 hl hR, hF.2.2.2.2 _ hp.2⟩ ⟨Pr.blind, fun U hU hW => ⟨rfl, hB.pr hU hW⟩⟩ rfl hn hsize hstack hW hdg hf
theorem r_SN {host : String} (hF : CallFix p m c cc nL s args TT own) (hB : Bd env s0 X u s H locs) (hM : Met l y [Cond.code y bytes maxL ret] rm (va_Pc (As) (Pr env s0 X u)) Qc mc ms free) (hp : Cs y bytes maxL ret n) (hl : Cond.methodLinkNest own index y host ∈ TT) (hR : rm.cells = mc ∧ rm.slots = ms ∧ rm.frames + 1 ≤ R.frames ∧ 8 + (maxL + 11) + rm.locals ≤ R.locals) (hn : As.length = n) (hsize : ls.size = nL) (hstack : st0 = As.reverse ++ rest) (hW : 2 * (F0 m pc ls st0).monitorRoom + (rest.map fun v => v.category).sum ≤ 8) (hdg : decode cc pc = .ok (.invokestatic index, 3)) (hf : cells + mc ≤ R.cells ∧ slots + ms ≤ R.slots) : va_Run p l e R s m args below meth c H locs cells slots mc ms (F0 m pc ls st0) rest (Qc (As).toArray) free :=
  va_runSN hF hM ⟨cBN hF hp.1 hl hR, hF.2.2.2.2 _ hp.2, trivial⟩ ⟨Pr.blind, fun U hU hW => ⟨rfl, hB.pr hU hW⟩⟩ rfl hn hsize hstack hW hdg hf
theorem r_I (hF : CallFix p m c cc nL s args TT own) (hB : Bd env s0 X u s H locs) (hM : Met l y [Cond.code y bytes maxL none] rm (va_Pc (.ref b :: As) (Pr env s0 X u)) Qc mc ms free) (hp : Ci y bytes maxL n) (hl : Cond.methodLink own index y ∈ TT) (hR : rm.cells = mc ∧ rm.slots = ms ∧ rm.frames + 1 ≤ R.frames ∧ 8 + (maxL + 11) + rm.locals ≤ R.locals) (hn : As.length = n) (hsize : ls.size = nL) (hstack : st0 = As.reverse ++ .ref b :: rest) (hW : 2 * (F0 m pc ls st0).monitorRoom + (rest.map fun v => v.category).sum ≤ 8) (hdg : decode cc pc = .ok (.invokespecial index, 3)) (hf : cells + mc ≤ R.cells ∧ slots + ms ≤ R.slots) : va_Run p l e R s m args below meth c H locs cells slots mc ms (F0 m pc ls st0) rest (Qc (Value.ref b :: As).toArray) free :=
  va_runI hF hM ⟨cB hF hp.1 hl hR, hp.2.2, hF.2.2.2.2 _ hp.2.1⟩ ⟨Pr.blind, fun U hU hW => ⟨rfl, hB.pr hU hW⟩⟩ rfl hn hsize hstack hW hdg hf
theorem r_IN {host : String} (hF : CallFix p m c cc nL s args TT own) (hB : Bd env s0 X u s H locs) (hM : Met l y [Cond.code y bytes maxL none] rm (va_Pc (.ref b :: As) (Pr env s0 X u)) Qc mc ms free) (hp : Ci y bytes maxL n) (hl : Cond.methodLinkNest own index y host ∈ TT) (hR : rm.cells = mc ∧ rm.slots = ms ∧ rm.frames + 1 ≤ R.frames ∧ 8 + (maxL + 11) + rm.locals ≤ R.locals) (hn : As.length = n) (hsize : ls.size = nL) (hstack : st0 = As.reverse ++ .ref b :: rest) (hW : 2 * (F0 m pc ls st0).monitorRoom + (rest.map fun v => v.category).sum ≤ 8) (hdg : decode cc pc = .ok (.invokespecial index, 3)) (hf : cells + mc ≤ R.cells ∧ slots + ms ≤ R.slots) : va_Run p l e R s m args below meth c H locs cells slots mc ms (F0 m pc ls st0) rest (Qc (Value.ref b :: As).toArray) free :=
  va_runIN hF hM ⟨cBN hF hp.1 hl hR, hp.2.2, hF.2.2.2.2 _ hp.2.1⟩ ⟨Pr.blind, fun U hU hW => ⟨rfl, hB.pr hU hW⟩⟩ rfl hn hsize hstack hW hdg hf
theorem w_ci {post : Int32 → St → Prop} {av : Array Value} {X1 : va_W} (hr : va_Run p l e R s m args below meth c H locs cells slots mc ms (F0 m pc ls st0) rest (va_Qi post (Po env s0 X1) (fun q => s0 ≤ q) av) (fun q => s0 ≤ q)) (hB : Bd env s0 X u s H locs) (kk : ∀ (r : Int32) (u1 : St) (H : Heap) (locs : List Loc), post r u1 → Bd env s0 X1 u1 s H locs → W p l e R s m args below meth c H locs (cells + mc) (slots + ms) Q (F0 m (pc + 3) ls (.int r :: rest))) : W p l e R s m args below meth c H locs cells slots Q (F0 m pc ls st0) :=
  va_calli hr hB.2.1 (fun _ _ h => h) (fun _ h => h) (fun r u1 t H1 locs1 ht hv hq hb _ _ hS => kk r u1 H1 locs1 hq ⟨Wd.moved hv.symm (ht ▸ hb), hS, hB.2.2⟩)
theorem w_cl {post : Int64 → St → Prop} {av : Array Value} {X1 : va_W} (hr : va_Run p l e R s m args below meth c H locs cells slots mc ms (F0 m pc ls st0) rest (va_Ql post (Po env s0 X1) (fun q => s0 ≤ q) av) (fun q => s0 ≤ q)) (hB : Bd env s0 X u s H locs) (kk : ∀ (r : Int64) (u1 : St) (H : Heap) (locs : List Loc), post r u1 → Bd env s0 X1 u1 s H locs → W p l e R s m args below meth c H locs (cells + mc) (slots + ms) Q (F0 m (pc + 3) ls (.long r :: rest))) : W p l e R s m args below meth c H locs cells slots Q (F0 m pc ls st0) :=
  va_calll hr hB.2.1 (fun _ _ h => h) (fun _ h => h) (fun r u1 t H1 locs1 ht hv hq hb _ _ hS => kk r u1 H1 locs1 hq ⟨Wd.moved hv.symm (ht ▸ hb), hS, hB.2.2⟩)
theorem w_cq {post : Option Nat → St → Prop} {av : Array Value} {X1 : va_W} (hr : va_Run p l e R s m args below meth c H locs cells slots mc ms (F0 m pc ls st0) rest (va_Qq post (Po env s0 X1) (fun q => s0 ≤ q) av) (fun q => s0 ≤ q)) (hB : Bd env s0 X u s H locs) (kk : ∀ (r : Option Nat) (u1 : St) (H : Heap) (locs : List Loc), post r u1 → Bd env s0 X1 u1 s H locs → W p l e R s m args below meth c H locs (cells + mc) (slots + ms) Q (F0 m (pc + 3) ls (va_rf r :: rest))) : W p l e R s m args below meth c H locs cells slots Q (F0 m pc ls st0) :=
  va_callq hr hB.2.1 (fun _ _ h => h) (fun _ h => h) (fun r u1 t H1 locs1 ht hv hq hb _ _ hS => kk r u1 H1 locs1 hq ⟨Wd.moved hv.symm (ht ▸ hb), hS, hB.2.2⟩)
theorem w_cv {post : St → Prop} {av : Array Value} {X1 : va_W} (hr : va_Run p l e R s m args below meth c H locs cells slots mc ms (F0 m pc ls st0) rest (va_Qv post (Po env s0 X1) (fun q => s0 ≤ q) av) (fun q => s0 ≤ q)) (hB : Bd env s0 X u s H locs) (kk : ∀ (u1 : St) (H : Heap) (locs : List Loc), post u1 → Bd env s0 X1 u1 s H locs → W p l e R s m args below meth c H locs (cells + mc) (slots + ms) Q (F0 m (pc + 3) ls (rest))) : W p l e R s m args below meth c H locs cells slots Q (F0 m pc ls st0) :=
  va_callv hr hB.2.1 (fun _ _ h => h) (fun _ h => h) (fun u1 t H1 locs1 ht hv hq hb _ _ hS => kk u1 H1 locs1 hq ⟨Wd.moved hv.symm (ht ▸ hb), hS, hB.2.2⟩)
theorem w_iret {post : Int32 → St → Prop} {v : Int32} (hF : CallFix p m c cc nL s args TT own) (hr : meth.sig.returnType = some .int) (hlk : meth.locks = false) (hB : Bd env s0 X u s H locs) (hq : post v u) (hdg : decode cc pc = .ok (.ireturn, 1)) : W p l e R s m args below meth c H locs cells slots (MQ below (va_Qi post (Po env s0 X) (fun q => s0 ≤ q)) args s cells slots (fun q => s0 ≤ q)) (F0 m pc ls [.int v]) :=
  W.iret (v := v) hF.1 hF.2.1 hr (fun t ht hW => ⟨⟨v, u, rfl, hq, (hB.po ht hW).1⟩, (hB.po ht hW).2⟩) hB.2.1.2.2 hdg hlk
theorem w_zret {post : Int32 → St → Prop} {v : Int32} (hF : CallFix p m c cc nL s args TT own) (hr : meth.sig.returnType = some .boolean) (hnr : narrow .boolean (.int v) = .int v) (hlk : meth.locks = false) (hB : Bd env s0 X u s H locs) (hq : post v u) (hdg : decode cc pc = .ok (.ireturn, 1)) : W p l e R s m args below meth c H locs cells slots (MQ below (va_Qi post (Po env s0 X) (fun q => s0 ≤ q)) args s cells slots (fun q => s0 ≤ q)) (F0 m pc ls [.int v]) :=
  W.zret (v := v) hF.1 hF.2.1 hr hnr (fun t ht hW => ⟨⟨v, u, rfl, hq, (hB.po ht hW).1⟩, (hB.po ht hW).2⟩) hB.2.1.2.2 hdg hlk
theorem w_lret {post : Int64 → St → Prop} {v : Int64} (hF : CallFix p m c cc nL s args TT own) (hr : meth.sig.returnType = some .long) (hlk : meth.locks = false) (hB : Bd env s0 X u s H locs) (hq : post v u) (hdg : decode cc pc = .ok (.lreturn, 1)) : W p l e R s m args below meth c H locs cells slots (MQ below (va_Ql post (Po env s0 X) (fun q => s0 ≤ q)) args s cells slots (fun q => s0 ≤ q)) (F0 m pc ls [.long v]) :=
  W.lret (v := v) hF.1 hF.2.1 hr (fun t ht hW => ⟨⟨v, u, rfl, hq, (hB.po ht hW).1⟩, (hB.po ht hW).2⟩) hB.2.1.2.2 hdg hlk
theorem w_vret {post : St → Prop} (hF : CallFix p m c cc nL s args TT own) (hr : meth.sig.returnType = none) (hlk : meth.locks = false) (hB : Bd env s0 X u s H locs) (hq : post u) (hdg : decode cc pc = .ok (.return_, 1)) : W p l e R s m args below meth c H locs cells slots (MQ below (va_Qv post (Po env s0 X) (fun q => s0 ≤ q)) args s cells slots (fun q => s0 ≤ q)) (F0 m pc ls []) :=
  W.vret hF.1 hF.2.1 hr (fun t ht hW => ⟨⟨u, rfl, hq, (hB.po ht hW).1⟩, (hB.po ht hW).2⟩) hB.2.1.2.2 hdg hlk
theorem w_aret {post : Option Nat → St → Prop} {r : Option Nat} {rt : FieldType} {v : Value} (hv0 : va_rf r = v) (hF : CallFix p m c cc nL s args TT own) (hr : meth.sig.returnType = some rt) (hrt : (∃ n, rt = .object n) ∨ ∃ t, rt = .array t) (hlk : meth.locks = false) (hB : Bd env s0 X u s H locs) (hq : post r u) (hdg : decode cc pc = .ok (.areturn, 1)) : W p l e R s m args below meth c H locs cells slots (MQ below (va_Qq post (Po env s0 X) (fun q => s0 ≤ q)) args s cells slots (fun q => s0 ≤ q)) (F0 m pc ls [v]) := by
  subst hv0
  exact W.aret (v := va_rf r) hF.1 hF.2.1 hr hrt (by cases r with | none => exact Or.inl rfl | some x => exact Or.inr ⟨x, rfl⟩) (fun t ht hW => ⟨⟨r, u, rfl, hq, (hB.po ht hW).1⟩, (hB.po ht hW).2⟩) hB.2.1.2.2 hdg hlk
end CW
end
section
theorem mT0 {w : Cond} (h : w ∈ k2_sels lw_privs) (hk : wk w = true) : w ∈ TT := List.mem_filter.mpr ⟨List.mem_append_left _ h, hk⟩
theorem mT1 {w : Cond} (h : w ∈ tables_1_1) (hk : wk w = true) : w ∈ TT := List.mem_filter.mpr ⟨List.mem_append_right _ (List.mem_append_left _ h), hk⟩
theorem mT2 {w : Cond} (h : w ∈ tables_1_2) (hk : wk w = true) : w ∈ TT := List.mem_filter.mpr ⟨List.mem_append_right _ (List.mem_append_right _ (List.mem_append_left _ h)), hk⟩
theorem mT3 {w : Cond} (h : w ∈ tables_1_3) (hk : wk w = true) : w ∈ TT := List.mem_filter.mpr ⟨List.mem_append_right _ (List.mem_append_right _ (List.mem_append_right _ (List.mem_append_left _ h))), hk⟩
theorem mT4 {w : Cond} (h : w ∈ tables_1_4) (hk : wk w = true) : w ∈ TT := List.mem_filter.mpr ⟨List.mem_append_right _ (List.mem_append_right _ (List.mem_append_right _ (List.mem_append_right _ h))), hk⟩
theorem mP {q : MethodName × Nat} (h : q ∈ lw_privs) : Cond.selects q.1.cls q.1 q.1 ∈ TT := mT0 (List.mem_map.mpr ⟨q, h, rfl⟩) rfl
theorem tw_1_0 : (Jvm.Cond.initialized "FarStoreLaw") ∈ TT := mT1 (List.mem_of_getElem? (i := 0) (by decide +kernel)) rfl
theorem tw_1_1 : (Jvm.Cond.initialized "FarStore") ∈ TT := mT1 (List.mem_of_getElem? (i := 1) (by decide +kernel)) rfl
theorem tw_1_2 : (Jvm.Cond.initialized "java/util/AbstractCollection") ∈ TT := mT1 (List.mem_of_getElem? (i := 2) (by decide +kernel)) rfl
theorem tw_1_3 : (Jvm.Cond.initialized "java/util/AbstractList") ∈ TT := mT1 (List.mem_of_getElem? (i := 3) (by decide +kernel)) rfl
theorem tw_1_4 : (Jvm.Cond.initialized "java/util/ArrayList") ∈ TT := mT1 (List.mem_of_getElem? (i := 4) (by decide +kernel)) rfl
theorem tw_1_5 : (Jvm.Cond.initialized "FarStore$Site") ∈ TT := mT1 (List.mem_of_getElem? (i := 5) (by decide +kernel)) rfl
theorem tw_1_6 : (Jvm.Cond.initialized "java/util/Arrays") ∈ TT := mT1 (List.mem_of_getElem? (i := 6) (by decide +kernel)) rfl
theorem tw_1_7 : (Jvm.Cond.initialized "FarStoreModel") ∈ TT := mT1 (List.mem_of_getElem? (i := 7) (by decide +kernel)) rfl
theorem tw_1_8 : (Jvm.Cond.initialized "FarStore$Thing") ∈ TT := mT1 (List.mem_of_getElem? (i := 8) (by decide +kernel)) rfl
theorem tw_1_9 : (Jvm.Cond.initialized "jdk/internal/util/ArraysSupport") ∈ TT := mT1 (List.mem_of_getElem? (i := 9) (by decide +kernel)) rfl
theorem tw_1_10 : (Jvm.Cond.initialized "java/lang/Math") ∈ TT := mT1 (List.mem_of_getElem? (i := 10) (by decide +kernel)) rfl
theorem tw_1_11 : (Jvm.Cond.initialized "java/lang/System") ∈ TT := mT1 (List.mem_of_getElem? (i := 11) (by decide +kernel)) rfl
theorem tw_1_12 : (Jvm.Cond.initialized "FarStore$Transaction") ∈ TT := mT1 (List.mem_of_getElem? (i := 12) (by decide +kernel)) rfl
theorem tw_1_13 : (Jvm.Cond.initialized "java/util/Objects") ∈ TT := mT1 (List.mem_of_getElem? (i := 13) (by decide +kernel)) rfl
theorem tw_1_14 : (Jvm.Cond.initialized "jdk/internal/util/Preconditions") ∈ TT := mT1 (List.mem_of_getElem? (i := 14) (by decide +kernel)) rfl
theorem tw_1_15 : (Jvm.Cond.initialized "FarStore$Message") ∈ TT := mT1 (List.mem_of_getElem? (i := 15) (by decide +kernel)) rfl
theorem tw_1_16 : (Jvm.Cond.classLink "FarStoreLaw" (7 : Nat) "FarStore") ∈ TT := mT1 (List.mem_of_getElem? (i := 16) (by decide +kernel)) rfl
theorem tw_1_17 : (Jvm.Cond.instantiable "FarStore" (6 : Nat)) ∈ TT := mT1 (List.mem_of_getElem? (i := 17) (by decide +kernel)) rfl
theorem tw_1_18 : (Jvm.Cond.methodLink "FarStoreLaw" (9 : Nat) ({ cls := "FarStore", name := "<init>", desc := "()V" } : Jvm.MethodName)) ∈ TT := mT1 (List.mem_of_getElem? (i := 18) (by decide +kernel)) rfl
theorem tw_1_19 : (Jvm.Cond.instanceMethod ({ cls := "FarStore", name := "<init>", desc := "()V" } : Jvm.MethodName)) ∈ TT := mT1 (List.mem_of_getElem? (i := 19) (by decide +kernel)) rfl
theorem tw_1_20 : (Jvm.Cond.code ({ cls := "FarStore", name := "<init>", desc := "()V" } : Jvm.MethodName) prog_1_method_1_code (2 : Nat) (Option.none : Option Jvm.ClassFile.FieldType)) ∈ TT := mT1 (List.mem_of_getElem? (i := 20) (by decide +kernel)) rfl
theorem tw_1_21 : (Jvm.Cond.methodLink "FarStore" (1 : Nat) ({ cls := "java/lang/Object", name := "<init>", desc := "()V" } : Jvm.MethodName)) ∈ TT := mT1 (List.mem_of_getElem? (i := 21) (by decide +kernel)) rfl
theorem tw_1_22 : (Jvm.Cond.instanceMethod ({ cls := "java/lang/Object", name := "<init>", desc := "()V" } : Jvm.MethodName)) ∈ TT := mT1 (List.mem_of_getElem? (i := 22) (by decide +kernel)) rfl
theorem tw_1_23 : (Jvm.Cond.code ({ cls := "java/lang/Object", name := "<init>", desc := "()V" } : Jvm.MethodName) object_method_1_code (1 : Nat) (Option.none : Option Jvm.ClassFile.FieldType)) ∈ TT := mT1 (List.mem_of_getElem? (i := 23) (by decide +kernel)) rfl
theorem tw_1_24 : (Jvm.Cond.classLink "FarStore" (9 : Nat) "FarStore$Site") ∈ TT := mT1 (List.mem_of_getElem? (i := 24) (by decide +kernel)) rfl
theorem tw_1_25 : (Jvm.Cond.arrayOver (Jvm.ClassFile.FieldType.object "FarStore$Site")) ∈ TT := mT1 (List.mem_of_getElem? (i := 25) (by decide +kernel)) rfl
theorem tw_1_26 : (Jvm.Cond.classLink "FarStore" (22 : Nat) "java/util/ArrayList") ∈ TT := mT1 (List.mem_of_getElem? (i := 26) (by decide +kernel)) rfl
theorem tw_1_27 : (Jvm.Cond.instantiable "java/util/ArrayList" (3 : Nat)) ∈ TT := mT1 (List.mem_of_getElem? (i := 27) (by decide +kernel)) rfl
theorem tw_1_28 : (Jvm.Cond.methodLink "FarStore" (24 : Nat) ({ cls := "java/util/ArrayList", name := "<init>", desc := "()V" } : Jvm.MethodName)) ∈ TT := mT1 (List.mem_of_getElem? (i := 28) (by decide +kernel)) rfl
theorem tw_1_29 : (Jvm.Cond.instanceMethod ({ cls := "java/util/ArrayList", name := "<init>", desc := "()V" } : Jvm.MethodName)) ∈ TT := mT1 (List.mem_of_getElem? (i := 29) (by decide +kernel)) rfl
theorem tw_1_30 : (Jvm.Cond.code ({ cls := "java/util/ArrayList", name := "<init>", desc := "()V" } : Jvm.MethodName) prog_15_method_2_code (1 : Nat) (Option.none : Option Jvm.ClassFile.FieldType)) ∈ TT := mT1 (List.mem_of_getElem? (i := 30) (by decide +kernel)) rfl
theorem tw_1_31 : (Jvm.Cond.methodLink "java/util/ArrayList" (1 : Nat) ({ cls := "java/util/AbstractList", name := "<init>", desc := "()V" } : Jvm.MethodName)) ∈ TT := mT1 (List.mem_of_getElem? (i := 31) (by decide +kernel)) rfl
theorem tw_1_32 : (Jvm.Cond.instanceMethod ({ cls := "java/util/AbstractList", name := "<init>", desc := "()V" } : Jvm.MethodName)) ∈ TT := mT1 (List.mem_of_getElem? (i := 32) (by decide +kernel)) rfl
theorem tw_1_33 : (Jvm.Cond.code ({ cls := "java/util/AbstractList", name := "<init>", desc := "()V" } : Jvm.MethodName) prog_14_method_1_code (1 : Nat) (Option.none : Option Jvm.ClassFile.FieldType)) ∈ TT := mT1 (List.mem_of_getElem? (i := 33) (by decide +kernel)) rfl
theorem tw_1_34 : (Jvm.Cond.methodLink "java/util/AbstractList" (1 : Nat) ({ cls := "java/util/AbstractCollection", name := "<init>", desc := "()V" } : Jvm.MethodName)) ∈ TT := mT1 (List.mem_of_getElem? (i := 34) (by decide +kernel)) rfl
theorem tw_1_35 : (Jvm.Cond.instanceMethod ({ cls := "java/util/AbstractCollection", name := "<init>", desc := "()V" } : Jvm.MethodName)) ∈ TT := mT1 (List.mem_of_getElem? (i := 35) (by decide +kernel)) rfl
theorem tw_1_36 : (Jvm.Cond.code ({ cls := "java/util/AbstractCollection", name := "<init>", desc := "()V" } : Jvm.MethodName) prog_13_method_1_code (1 : Nat) (Option.none : Option Jvm.ClassFile.FieldType)) ∈ TT := mT1 (List.mem_of_getElem? (i := 36) (by decide +kernel)) rfl
theorem tw_1_37 : (Jvm.Cond.methodLink "java/util/AbstractCollection" (1 : Nat) ({ cls := "java/lang/Object", name := "<init>", desc := "()V" } : Jvm.MethodName)) ∈ TT := mT1 (List.mem_of_getElem? (i := 37) (by decide +kernel)) rfl
theorem tw_1_38 : (Jvm.Cond.fieldLink "java/util/ArrayList" (39 : Nat) "java/util/ArrayList" "DEFAULTCAPACITY_EMPTY_ELEMENTDATA" "[Ljava/lang/Object;") ∈ TT := mT1 (List.mem_of_getElem? (i := 38) (by decide +kernel)) rfl
theorem tw_1_40 : (Jvm.Cond.fieldLink "java/util/ArrayList" (9 : Nat) "java/util/ArrayList" "elementData" "[Ljava/lang/Object;") ∈ TT := mT1 (List.mem_of_getElem? (i := 40) (by decide +kernel)) rfl
theorem tw_1_41 : (Jvm.Cond.fieldLink "java/util/ArrayList" (48 : Nat) "java/util/ArrayList" "size" "I") ∈ TT := mT1 (List.mem_of_getElem? (i := 41) (by decide +kernel)) rfl
theorem tw_1_42 : (Jvm.Cond.fieldLink "java/util/AbstractList" (7 : Nat) "java/util/AbstractList" "modCount" "I") ∈ TT := mT1 (List.mem_of_getElem? (i := 42) (by decide +kernel)) rfl
theorem tw_1_43 : (Jvm.Cond.fieldLink "java/util/ArrayList" (63 : Nat) "java/util/ArrayList" "modCount" "I") ∈ TT := mT1 (List.mem_of_getElem? (i := 43) (by decide +kernel)) rfl
theorem tw_1_44 : (Jvm.Cond.sameField "java/util/ArrayList" "java/util/AbstractList" "modCount" "I") ∈ TT := mT1 (List.mem_of_getElem? (i := 44) (by decide +kernel)) rfl
theorem tw_1_45 : (Jvm.Cond.lays "java/util/ArrayList" "java/util/ArrayList" "elementData" "[Ljava/lang/Object;") ∈ TT := mT1 (List.mem_of_getElem? (i := 45) (by decide +kernel)) rfl
theorem tw_1_47 : (Jvm.Cond.lays "java/util/ArrayList" "java/util/ArrayList" "size" "I") ∈ TT := mT1 (List.mem_of_getElem? (i := 47) (by decide +kernel)) rfl
theorem tw_1_49 : (Jvm.Cond.lays "java/util/ArrayList" "java/util/AbstractList" "modCount" "I") ∈ TT := mT1 (List.mem_of_getElem? (i := 49) (by decide +kernel)) rfl
theorem tw_1_52 : (Jvm.Cond.instantiable "FarStore$Site" (4 : Nat)) ∈ TT := mT1 (List.mem_of_getElem? (i := 52) (by decide +kernel)) rfl
theorem tw_1_53 : (Jvm.Cond.methodLinkNest "FarStore" (35 : Nat) ({ cls := "FarStore$Site", name := "<init>", desc := "(I)V" } : Jvm.MethodName) "FarStore") ∈ TT := mT1 (List.mem_of_getElem? (i := 53) (by decide +kernel)) rfl
theorem tw_1_54 : (Jvm.Cond.instanceMethod ({ cls := "FarStore$Site", name := "<init>", desc := "(I)V" } : Jvm.MethodName)) ∈ TT := mT1 (List.mem_of_getElem? (i := 54) (by decide +kernel)) rfl
theorem tw_1_55 : (Jvm.Cond.code ({ cls := "FarStore$Site", name := "<init>", desc := "(I)V" } : Jvm.MethodName) prog_3_method_1_code (2 : Nat) (Option.none : Option Jvm.ClassFile.FieldType)) ∈ TT := mT1 (List.mem_of_getElem? (i := 55) (by decide +kernel)) rfl
theorem tw_1_56 : (Jvm.Cond.methodLink "FarStore$Site" (3 : Nat) ({ cls := "java/lang/Object", name := "<init>", desc := "()V" } : Jvm.MethodName)) ∈ TT := mT1 (List.mem_of_getElem? (i := 56) (by decide +kernel)) rfl
theorem tw_1_57 : (Jvm.Cond.classLink "FarStore$Site" (15 : Nat) "java/util/ArrayList") ∈ TT := mT1 (List.mem_of_getElem? (i := 57) (by decide +kernel)) rfl
theorem tw_1_58 : (Jvm.Cond.methodLink "FarStore$Site" (17 : Nat) ({ cls := "java/util/ArrayList", name := "<init>", desc := "()V" } : Jvm.MethodName)) ∈ TT := mT1 (List.mem_of_getElem? (i := 58) (by decide +kernel)) rfl
theorem tw_1_59 : (Jvm.Cond.methodLink "FarStore$Site" (29 : Nat) ({ cls := "java/util/Arrays", name := "fill", desc := "([II)V" } : Jvm.MethodName)) ∈ TT := mT1 (List.mem_of_getElem? (i := 59) (by decide +kernel)) rfl
theorem tw_1_60 : (Jvm.Cond.static ({ cls := "java/util/Arrays", name := "fill", desc := "([II)V" } : Jvm.MethodName)) ∈ TT := mT1 (List.mem_of_getElem? (i := 60) (by decide +kernel)) rfl
theorem tw_1_61 : (Jvm.Cond.code ({ cls := "java/util/Arrays", name := "fill", desc := "([II)V" } : Jvm.MethodName) prog_16_method_103_code (4 : Nat) (Option.none : Option Jvm.ClassFile.FieldType)) ∈ TT := mT1 (List.mem_of_getElem? (i := 61) (by decide +kernel)) rfl
theorem tw_1_62 : (Jvm.Cond.fieldLink "FarStore$Site" (25 : Nat) "FarStore$Site" "number" "I") ∈ TT := mT1 (List.mem_of_getElem? (i := 62) (by decide +kernel)) rfl
theorem tw_1_63 : (Jvm.Cond.fieldLinkNest "FarStore$Transaction" (67 : Nat) "FarStore$Site" "number" "I" "FarStore") ∈ TT := mT1 (List.mem_of_getElem? (i := 63) (by decide +kernel)) rfl
theorem tw_1_64 : (Jvm.Cond.fieldLinkNest "FarStore" (176 : Nat) "FarStore$Site" "number" "I" "FarStore") ∈ TT := mT1 (List.mem_of_getElem? (i := 64) (by decide +kernel)) rfl
theorem tw_1_65 : (Jvm.Cond.fieldLink "FarStore$Site" (9 : Nat) "FarStore$Site" "taken" "[I") ∈ TT := mT1 (List.mem_of_getElem? (i := 65) (by decide +kernel)) rfl
theorem tw_1_66 : (Jvm.Cond.fieldLinkNest "FarStore$Transaction" (36 : Nat) "FarStore$Site" "taken" "[I" "FarStore") ∈ TT := mT1 (List.mem_of_getElem? (i := 66) (by decide +kernel)) rfl
theorem tw_1_67 : (Jvm.Cond.fieldLinkNest "FarStore" (204 : Nat) "FarStore$Site" "taken" "[I" "FarStore") ∈ TT := mT1 (List.mem_of_getElem? (i := 67) (by decide +kernel)) rfl
theorem tw_1_68 : (Jvm.Cond.fieldLink "FarStore$Site" (18 : Nat) "FarStore$Site" "inOrder" "Ljava/util/ArrayList;") ∈ TT := mT1 (List.mem_of_getElem? (i := 68) (by decide +kernel)) rfl
theorem tw_1_69 : (Jvm.Cond.fieldLink "FarStore$Site" (22 : Nat) "FarStore$Site" "holders" "[I") ∈ TT := mT1 (List.mem_of_getElem? (i := 69) (by decide +kernel)) rfl
theorem tw_1_70 : (Jvm.Cond.fieldLinkNest "FarStore" (210 : Nat) "FarStore$Site" "holders" "[I" "FarStore") ∈ TT := mT1 (List.mem_of_getElem? (i := 70) (by decide +kernel)) rfl
theorem tw_1_71 : (Jvm.Cond.laysFinal "FarStore$Site" "FarStore$Site" "number" "I") ∈ TT := mT1 (List.mem_of_getElem? (i := 71) (by decide +kernel)) rfl
theorem tw_1_73 : (Jvm.Cond.laysFinal "FarStore$Site" "FarStore$Site" "taken" "[I") ∈ TT := mT1 (List.mem_of_getElem? (i := 73) (by decide +kernel)) rfl
theorem tw_1_75 : (Jvm.Cond.laysFinal "FarStore$Site" "FarStore$Site" "inOrder" "Ljava/util/ArrayList;") ∈ TT := mT1 (List.mem_of_getElem? (i := 75) (by decide +kernel)) rfl
theorem tw_1_77 : (Jvm.Cond.laysFinal "FarStore$Site" "FarStore$Site" "holders" "[I") ∈ TT := mT1 (List.mem_of_getElem? (i := 77) (by decide +kernel)) rfl
theorem tw_1_80 : (Jvm.Cond.arrayClass Jvm.ClassFile.FieldType.int) ∈ TT := mT1 (List.mem_of_getElem? (i := 80) (by decide +kernel)) rfl
theorem tw_1_81 : (Jvm.Cond.fieldLink "FarStore" (11 : Nat) "FarStore" "places" "[LFarStore$Site;") ∈ TT := mT1 (List.mem_of_getElem? (i := 81) (by decide +kernel)) rfl
theorem tw_1_82 : (Jvm.Cond.fieldLink "FarStore" (15 : Nat) "FarStore" "siteCount" "I") ∈ TT := mT1 (List.mem_of_getElem? (i := 82) (by decide +kernel)) rfl
theorem tw_1_83 : (Jvm.Cond.fieldLink "FarStore" (19 : Nat) "FarStore" "acksForSafe" "I") ∈ TT := mT1 (List.mem_of_getElem? (i := 83) (by decide +kernel)) rfl
theorem tw_1_84 : (Jvm.Cond.fieldLink "FarStore" (25 : Nat) "FarStore" "things" "Ljava/util/ArrayList;") ∈ TT := mT1 (List.mem_of_getElem? (i := 84) (by decide +kernel)) rfl
theorem tw_1_85 : (Jvm.Cond.fieldLink "FarStore" (29 : Nat) "FarStore" "transactions" "Ljava/util/ArrayList;") ∈ TT := mT1 (List.mem_of_getElem? (i := 85) (by decide +kernel)) rfl
theorem tw_1_86 : (Jvm.Cond.fieldLink "FarStore" (32 : Nat) "FarStore" "underWay" "Ljava/util/ArrayList;") ∈ TT := mT1 (List.mem_of_getElem? (i := 86) (by decide +kernel)) rfl
theorem tw_1_87 : (Jvm.Cond.laysFinal "FarStore" "FarStore" "places" "[LFarStore$Site;") ∈ TT := mT1 (List.mem_of_getElem? (i := 87) (by decide +kernel)) rfl
theorem tw_1_89 : (Jvm.Cond.lays "FarStore" "FarStore" "siteCount" "I") ∈ TT := mT1 (List.mem_of_getElem? (i := 89) (by decide +kernel)) rfl
theorem tw_1_91 : (Jvm.Cond.lays "FarStore" "FarStore" "acksForSafe" "I") ∈ TT := mT1 (List.mem_of_getElem? (i := 91) (by decide +kernel)) rfl
theorem tw_1_93 : (Jvm.Cond.laysFinal "FarStore" "FarStore" "things" "Ljava/util/ArrayList;") ∈ TT := mT1 (List.mem_of_getElem? (i := 93) (by decide +kernel)) rfl
theorem tw_1_95 : (Jvm.Cond.laysFinal "FarStore" "FarStore" "transactions" "Ljava/util/ArrayList;") ∈ TT := mT1 (List.mem_of_getElem? (i := 95) (by decide +kernel)) rfl
theorem tw_1_97 : (Jvm.Cond.laysFinal "FarStore" "FarStore" "underWay" "Ljava/util/ArrayList;") ∈ TT := mT1 (List.mem_of_getElem? (i := 97) (by decide +kernel)) rfl
theorem tw_1_100 : (Jvm.Cond.methodLink "FarStoreLaw" (13 : Nat) ({ cls := "FarStore", name := "sites", desc := "(II)I" } : Jvm.MethodName)) ∈ TT := mT1 (List.mem_of_getElem? (i := 100) (by decide +kernel)) rfl
theorem tw_1_101 : (Jvm.Cond.instanceMethod ({ cls := "FarStore", name := "sites", desc := "(II)I" } : Jvm.MethodName)) ∈ TT := mT1 (List.mem_of_getElem? (i := 101) (by decide +kernel)) rfl
theorem tw_1_102 : (Jvm.Cond.selects "FarStore" ({ cls := "FarStore", name := "sites", desc := "(II)I" } : Jvm.MethodName) ({ cls := "FarStore", name := "sites", desc := "(II)I" } : Jvm.MethodName)) ∈ TT := mT1 (List.mem_of_getElem? (i := 102) (by decide +kernel)) rfl
theorem tw_1_103 : (Jvm.Cond.code ({ cls := "FarStore", name := "sites", desc := "(II)I" } : Jvm.MethodName) prog_1_method_2_code (3 : Nat) (Option.some Jvm.ClassFile.FieldType.int)) ∈ TT := mT1 (List.mem_of_getElem? (i := 103) (by decide +kernel)) rfl
theorem tw_1_104 : (Jvm.Cond.methodLink "FarStore" (38 : Nat) ({ cls := "java/util/ArrayList", name := "isEmpty", desc := "()Z" } : Jvm.MethodName)) ∈ TT := mT1 (List.mem_of_getElem? (i := 104) (by decide +kernel)) rfl
theorem tw_1_105 : (Jvm.Cond.instanceMethod ({ cls := "java/util/ArrayList", name := "isEmpty", desc := "()Z" } : Jvm.MethodName)) ∈ TT := mT1 (List.mem_of_getElem? (i := 105) (by decide +kernel)) rfl
theorem tw_1_106 : (Jvm.Cond.selects "java/util/ArrayList" ({ cls := "java/util/ArrayList", name := "isEmpty", desc := "()Z" } : Jvm.MethodName) ({ cls := "java/util/ArrayList", name := "isEmpty", desc := "()Z" } : Jvm.MethodName)) ∈ TT := mT1 (List.mem_of_getElem? (i := 106) (by decide +kernel)) rfl
theorem tw_1_107 : (Jvm.Cond.code ({ cls := "java/util/ArrayList", name := "isEmpty", desc := "()Z" } : Jvm.MethodName) prog_15_method_9_code (1 : Nat) (Option.some Jvm.ClassFile.FieldType.boolean)) ∈ TT := mT1 (List.mem_of_getElem? (i := 107) (by decide +kernel)) rfl
theorem tw_1_108 : (Jvm.Cond.methodLink "FarStoreLaw" (18 : Nat) ({ cls := "FarStore", name := "thing", desc := "(IZ)I" } : Jvm.MethodName)) ∈ TT := mT1 (List.mem_of_getElem? (i := 108) (by decide +kernel)) rfl
theorem tw_1_109 : (Jvm.Cond.instanceMethod ({ cls := "FarStore", name := "thing", desc := "(IZ)I" } : Jvm.MethodName)) ∈ TT := mT1 (List.mem_of_getElem? (i := 109) (by decide +kernel)) rfl
theorem tw_1_110 : (Jvm.Cond.selects "FarStore" ({ cls := "FarStore", name := "thing", desc := "(IZ)I" } : Jvm.MethodName) ({ cls := "FarStore", name := "thing", desc := "(IZ)I" } : Jvm.MethodName)) ∈ TT := mT1 (List.mem_of_getElem? (i := 110) (by decide +kernel)) rfl
theorem tw_1_111 : (Jvm.Cond.code ({ cls := "FarStore", name := "thing", desc := "(IZ)I" } : Jvm.MethodName) prog_1_method_3_code (5 : Nat) (Option.some Jvm.ClassFile.FieldType.int)) ∈ TT := mT1 (List.mem_of_getElem? (i := 111) (by decide +kernel)) rfl
theorem tw_1_112 : (Jvm.Cond.methodLink "FarStore" (42 : Nat) ({ cls := "FarStore", name := "findSite", desc := "(I)LFarStore$Site;" } : Jvm.MethodName)) ∈ TT := mT1 (List.mem_of_getElem? (i := 112) (by decide +kernel)) rfl
theorem tw_1_114 : (Jvm.Cond.instanceMethod ({ cls := "FarStore", name := "findSite", desc := "(I)LFarStore$Site;" } : Jvm.MethodName)) ∈ TT := mT1 (List.mem_of_getElem? (i := 114) (by decide +kernel)) rfl
theorem tw_1_115 : (Jvm.Cond.code ({ cls := "FarStore", name := "findSite", desc := "(I)LFarStore$Site;" } : Jvm.MethodName) prog_1_method_23_code (2 : Nat) (Option.some (Jvm.ClassFile.FieldType.object "FarStore$Site"))) ∈ TT := mT1 (List.mem_of_getElem? (i := 115) (by decide +kernel)) rfl
theorem tw_1_116 : (Jvm.Cond.methodLink "FarStore" (46 : Nat) ({ cls := "java/util/ArrayList", name := "size", desc := "()I" } : Jvm.MethodName)) ∈ TT := mT1 (List.mem_of_getElem? (i := 116) (by decide +kernel)) rfl
theorem tw_1_117 : (Jvm.Cond.instanceMethod ({ cls := "java/util/ArrayList", name := "size", desc := "()I" } : Jvm.MethodName)) ∈ TT := mT1 (List.mem_of_getElem? (i := 117) (by decide +kernel)) rfl
theorem tw_1_118 : (Jvm.Cond.selects "java/util/ArrayList" ({ cls := "java/util/ArrayList", name := "size", desc := "()I" } : Jvm.MethodName) ({ cls := "java/util/ArrayList", name := "size", desc := "()I" } : Jvm.MethodName)) ∈ TT := mT1 (List.mem_of_getElem? (i := 118) (by decide +kernel)) rfl
theorem tw_1_119 : (Jvm.Cond.code ({ cls := "java/util/ArrayList", name := "size", desc := "()I" } : Jvm.MethodName) prog_15_method_8_code (1 : Nat) (Option.some Jvm.ClassFile.FieldType.int)) ∈ TT := mT1 (List.mem_of_getElem? (i := 119) (by decide +kernel)) rfl
theorem tw_1_120 : (Jvm.Cond.classLink "FarStore" (50 : Nat) "FarStore$Thing") ∈ TT := mT1 (List.mem_of_getElem? (i := 120) (by decide +kernel)) rfl
theorem tw_1_121 : (Jvm.Cond.instantiable "FarStore$Thing" (3 : Nat)) ∈ TT := mT1 (List.mem_of_getElem? (i := 121) (by decide +kernel)) rfl
theorem tw_1_122 : (Jvm.Cond.methodLinkNest "FarStore" (52 : Nat) ({ cls := "FarStore$Thing", name := "<init>", desc := "(ILFarStore$Site;Z)V" } : Jvm.MethodName) "FarStore") ∈ TT := mT1 (List.mem_of_getElem? (i := 122) (by decide +kernel)) rfl
theorem tw_1_123 : (Jvm.Cond.instanceMethod ({ cls := "FarStore$Thing", name := "<init>", desc := "(ILFarStore$Site;Z)V" } : Jvm.MethodName)) ∈ TT := mT1 (List.mem_of_getElem? (i := 123) (by decide +kernel)) rfl
theorem tw_1_124 : (Jvm.Cond.code ({ cls := "FarStore$Thing", name := "<init>", desc := "(ILFarStore$Site;Z)V" } : Jvm.MethodName) prog_4_method_1_code (4 : Nat) (Option.none : Option Jvm.ClassFile.FieldType)) ∈ TT := mT1 (List.mem_of_getElem? (i := 124) (by decide +kernel)) rfl
theorem tw_1_125 : (Jvm.Cond.methodLink "FarStore$Thing" (3 : Nat) ({ cls := "java/lang/Object", name := "<init>", desc := "()V" } : Jvm.MethodName)) ∈ TT := mT1 (List.mem_of_getElem? (i := 125) (by decide +kernel)) rfl
theorem tw_1_126 : (Jvm.Cond.fieldLink "FarStore$Thing" (9 : Nat) "FarStore$Thing" "number" "I") ∈ TT := mT1 (List.mem_of_getElem? (i := 126) (by decide +kernel)) rfl
theorem tw_1_127 : (Jvm.Cond.fieldLinkNest "FarStore$Transaction" (50 : Nat) "FarStore$Thing" "number" "I" "FarStore") ∈ TT := mT1 (List.mem_of_getElem? (i := 127) (by decide +kernel)) rfl
theorem tw_1_128 : (Jvm.Cond.fieldLinkNest "FarStore$Site" (35 : Nat) "FarStore$Thing" "number" "I" "FarStore") ∈ TT := mT1 (List.mem_of_getElem? (i := 128) (by decide +kernel)) rfl
theorem tw_1_129 : (Jvm.Cond.fieldLinkNest "FarStore" (76 : Nat) "FarStore$Thing" "number" "I" "FarStore") ∈ TT := mT1 (List.mem_of_getElem? (i := 129) (by decide +kernel)) rfl
theorem tw_1_130 : (Jvm.Cond.fieldLink "FarStore$Thing" (15 : Nat) "FarStore$Thing" "home" "LFarStore$Site;") ∈ TT := mT1 (List.mem_of_getElem? (i := 130) (by decide +kernel)) rfl
theorem tw_1_131 : (Jvm.Cond.fieldLinkNest "FarStore" (239 : Nat) "FarStore$Thing" "home" "LFarStore$Site;" "FarStore") ∈ TT := mT1 (List.mem_of_getElem? (i := 131) (by decide +kernel)) rfl
theorem tw_1_132 : (Jvm.Cond.fieldLink "FarStore$Thing" (19 : Nat) "FarStore$Thing" "set" "Z") ∈ TT := mT1 (List.mem_of_getElem? (i := 132) (by decide +kernel)) rfl
theorem tw_1_133 : (Jvm.Cond.fieldLinkNest "FarStore" (235 : Nat) "FarStore$Thing" "set" "Z" "FarStore") ∈ TT := mT1 (List.mem_of_getElem? (i := 133) (by decide +kernel)) rfl
theorem tw_1_134 : (Jvm.Cond.laysFinal "FarStore$Thing" "FarStore$Thing" "number" "I") ∈ TT := mT1 (List.mem_of_getElem? (i := 134) (by decide +kernel)) rfl
theorem tw_1_136 : (Jvm.Cond.laysFinal "FarStore$Thing" "FarStore$Thing" "home" "LFarStore$Site;") ∈ TT := mT1 (List.mem_of_getElem? (i := 136) (by decide +kernel)) rfl
theorem tw_1_138 : (Jvm.Cond.laysFinal "FarStore$Thing" "FarStore$Thing" "set" "Z") ∈ TT := mT1 (List.mem_of_getElem? (i := 138) (by decide +kernel)) rfl
theorem tw_1_141 : (Jvm.Cond.methodLink "FarStore" (55 : Nat) ({ cls := "java/util/ArrayList", name := "add", desc := "(Ljava/lang/Object;)Z" } : Jvm.MethodName)) ∈ TT := mT1 (List.mem_of_getElem? (i := 141) (by decide +kernel)) rfl
theorem tw_1_142 : (Jvm.Cond.instanceMethod ({ cls := "java/util/ArrayList", name := "add", desc := "(Ljava/lang/Object;)Z" } : Jvm.MethodName)) ∈ TT := mT1 (List.mem_of_getElem? (i := 142) (by decide +kernel)) rfl
theorem tw_1_143 : (Jvm.Cond.selects "java/util/ArrayList" ({ cls := "java/util/ArrayList", name := "add", desc := "(Ljava/lang/Object;)Z" } : Jvm.MethodName) ({ cls := "java/util/ArrayList", name := "add", desc := "(Ljava/lang/Object;)Z" } : Jvm.MethodName)) ∈ TT := mT1 (List.mem_of_getElem? (i := 143) (by decide +kernel)) rfl
theorem tw_1_144 : (Jvm.Cond.code ({ cls := "java/util/ArrayList", name := "add", desc := "(Ljava/lang/Object;)Z" } : Jvm.MethodName) prog_15_method_25_code (2 : Nat) (Option.some Jvm.ClassFile.FieldType.boolean)) ∈ TT := mT1 (List.mem_of_getElem? (i := 144) (by decide +kernel)) rfl
theorem tw_1_145 : (Jvm.Cond.methodLink "java/util/ArrayList" (131 : Nat) ({ cls := "java/util/ArrayList", name := "add", desc := "(Ljava/lang/Object;[Ljava/lang/Object;I)V" } : Jvm.MethodName)) ∈ TT := mT1 (List.mem_of_getElem? (i := 145) (by decide +kernel)) rfl
theorem tw_1_147 : (Jvm.Cond.instanceMethod ({ cls := "java/util/ArrayList", name := "add", desc := "(Ljava/lang/Object;[Ljava/lang/Object;I)V" } : Jvm.MethodName)) ∈ TT := mT1 (List.mem_of_getElem? (i := 147) (by decide +kernel)) rfl
theorem tw_1_148 : (Jvm.Cond.code ({ cls := "java/util/ArrayList", name := "add", desc := "(Ljava/lang/Object;[Ljava/lang/Object;I)V" } : Jvm.MethodName) prog_15_method_24_code (4 : Nat) (Option.none : Option Jvm.ClassFile.FieldType)) ∈ TT := mT1 (List.mem_of_getElem? (i := 148) (by decide +kernel)) rfl
theorem tw_1_149 : (Jvm.Cond.methodLink "java/util/ArrayList" (129 : Nat) ({ cls := "java/util/ArrayList", name := "grow", desc := "()[Ljava/lang/Object;" } : Jvm.MethodName)) ∈ TT := mT1 (List.mem_of_getElem? (i := 149) (by decide +kernel)) rfl
theorem tw_1_151 : (Jvm.Cond.instanceMethod ({ cls := "java/util/ArrayList", name := "grow", desc := "()[Ljava/lang/Object;" } : Jvm.MethodName)) ∈ TT := mT1 (List.mem_of_getElem? (i := 151) (by decide +kernel)) rfl
theorem tw_1_152 : (Jvm.Cond.code ({ cls := "java/util/ArrayList", name := "grow", desc := "()[Ljava/lang/Object;" } : Jvm.MethodName) prog_15_method_7_code (1 : Nat) (Option.some (Jvm.ClassFile.FieldType.array (Jvm.ClassFile.FieldType.object "java/lang/Object")))) ∈ TT := mT1 (List.mem_of_getElem? (i := 152) (by decide +kernel)) rfl
theorem tw_1_153 : (Jvm.Cond.methodLink "java/util/ArrayList" (69 : Nat) ({ cls := "java/util/ArrayList", name := "grow", desc := "(I)[Ljava/lang/Object;" } : Jvm.MethodName)) ∈ TT := mT1 (List.mem_of_getElem? (i := 153) (by decide +kernel)) rfl
theorem tw_1_155 : (Jvm.Cond.instanceMethod ({ cls := "java/util/ArrayList", name := "grow", desc := "(I)[Ljava/lang/Object;" } : Jvm.MethodName)) ∈ TT := mT1 (List.mem_of_getElem? (i := 155) (by decide +kernel)) rfl
theorem tw_1_156 : (Jvm.Cond.code ({ cls := "java/util/ArrayList", name := "grow", desc := "(I)[Ljava/lang/Object;" } : Jvm.MethodName) prog_15_method_6_code (4 : Nat) (Option.some (Jvm.ClassFile.FieldType.array (Jvm.ClassFile.FieldType.object "java/lang/Object")))) ∈ TT := mT1 (List.mem_of_getElem? (i := 156) (by decide +kernel)) rfl
theorem tw_1_157 : (Jvm.Cond.methodLink "java/util/ArrayList" (73 : Nat) ({ cls := "jdk/internal/util/ArraysSupport", name := "newLength", desc := "(III)I" } : Jvm.MethodName)) ∈ TT := mT1 (List.mem_of_getElem? (i := 157) (by decide +kernel)) rfl
theorem tw_1_158 : (Jvm.Cond.static ({ cls := "jdk/internal/util/ArraysSupport", name := "newLength", desc := "(III)I" } : Jvm.MethodName)) ∈ TT := mT1 (List.mem_of_getElem? (i := 158) (by decide +kernel)) rfl
theorem tw_1_159 : (Jvm.Cond.code ({ cls := "jdk/internal/util/ArraysSupport", name := "newLength", desc := "(III)I" } : Jvm.MethodName) prog_22_method_27_code (4 : Nat) (Option.some Jvm.ClassFile.FieldType.int)) ∈ TT := mT1 (List.mem_of_getElem? (i := 159) (by decide +kernel)) rfl
theorem tw_1_160 : (Jvm.Cond.methodLink "jdk/internal/util/ArraysSupport" (194 : Nat) ({ cls := "java/lang/Math", name := "max", desc := "(II)I" } : Jvm.MethodName)) ∈ TT := mT1 (List.mem_of_getElem? (i := 160) (by decide +kernel)) rfl
theorem tw_1_161 : (Jvm.Cond.static ({ cls := "java/lang/Math", name := "max", desc := "(II)I" } : Jvm.MethodName)) ∈ TT := mT1 (List.mem_of_getElem? (i := 161) (by decide +kernel)) rfl
theorem tw_1_162 : (Jvm.Cond.code ({ cls := "java/lang/Math", name := "max", desc := "(II)I" } : Jvm.MethodName) prog_11_method_65_code (2 : Nat) (Option.some Jvm.ClassFile.FieldType.int)) ∈ TT := mT1 (List.mem_of_getElem? (i := 162) (by decide +kernel)) rfl
theorem tw_1_163 : (Jvm.Cond.constant "jdk/internal/util/ArraysSupport" (200 : Nat) (2147483639 : Int32)) ∈ TT := mT1 (List.mem_of_getElem? (i := 163) (by decide +kernel)) rfl
theorem tw_1_164 : (Jvm.Cond.methodLink "jdk/internal/util/ArraysSupport" (201 : Nat) ({ cls := "jdk/internal/util/ArraysSupport", name := "hugeLength", desc := "(II)I" } : Jvm.MethodName)) ∈ TT := mT1 (List.mem_of_getElem? (i := 164) (by decide +kernel)) rfl
theorem tw_1_165 : (Jvm.Cond.static ({ cls := "jdk/internal/util/ArraysSupport", name := "hugeLength", desc := "(II)I" } : Jvm.MethodName)) ∈ TT := mT1 (List.mem_of_getElem? (i := 165) (by decide +kernel)) rfl
theorem tw_1_166 : (Jvm.Cond.code ({ cls := "jdk/internal/util/ArraysSupport", name := "hugeLength", desc := "(II)I" } : Jvm.MethodName) prog_22_method_28_code (3 : Nat) (Option.some Jvm.ClassFile.FieldType.int)) ∈ TT := mT1 (List.mem_of_getElem? (i := 166) (by decide +kernel)) rfl
theorem tw_1_167 : (Jvm.Cond.methodLink "java/util/ArrayList" (66 : Nat) ({ cls := "java/util/Arrays", name := "copyOf", desc := "([Ljava/lang/Object;I)[Ljava/lang/Object;" } : Jvm.MethodName)) ∈ TT := mT1 (List.mem_of_getElem? (i := 167) (by decide +kernel)) rfl
theorem tw_1_168 : (Jvm.Cond.static ({ cls := "java/util/Arrays", name := "copyOf", desc := "([Ljava/lang/Object;I)[Ljava/lang/Object;" } : Jvm.MethodName)) ∈ TT := mT1 (List.mem_of_getElem? (i := 168) (by decide +kernel)) rfl
theorem tw_1_169 : (Jvm.Cond.code ({ cls := "java/util/Arrays", name := "copyOf", desc := "([Ljava/lang/Object;I)[Ljava/lang/Object;" } : Jvm.MethodName) prog_16_method_119_code (2 : Nat) (Option.some (Jvm.ClassFile.FieldType.array (Jvm.ClassFile.FieldType.object "java/lang/Object")))) ∈ TT := mT1 (List.mem_of_getElem? (i := 169) (by decide +kernel)) rfl
theorem tw_1_170 : (Jvm.Cond.methodLink "java/util/Arrays" (86 : Nat) ({ cls := "java/lang/Object", name := "getClass", desc := "()Ljava/lang/Class;" } : Jvm.MethodName)) ∈ TT := mT1 (List.mem_of_getElem? (i := 170) (by decide +kernel)) rfl
theorem tw_1_171 : (Jvm.Cond.instanceMethod ({ cls := "java/lang/Object", name := "getClass", desc := "()Ljava/lang/Class;" } : Jvm.MethodName)) ∈ TT := mT1 (List.mem_of_getElem? (i := 171) (by decide +kernel)) rfl
theorem tw_1_172 : (Jvm.Cond.sameMethod "java/lang/Object" "java/lang/Object" "getClass" "()Ljava/lang/Class;") ∈ TT := mT1 (List.mem_of_getElem? (i := 172) (by decide +kernel)) rfl
theorem tw_1_173 : (Jvm.Cond.selects "FarStore" ({ cls := "java/lang/Object", name := "getClass", desc := "()Ljava/lang/Class;" } : Jvm.MethodName) ({ cls := "java/lang/Object", name := "getClass", desc := "()Ljava/lang/Class;" } : Jvm.MethodName)) ∈ TT := mT1 (List.mem_of_getElem? (i := 173) (by decide +kernel)) rfl
theorem tw_1_174 : (Jvm.Cond.selects "FarStore$Message" ({ cls := "java/lang/Object", name := "getClass", desc := "()Ljava/lang/Class;" } : Jvm.MethodName) ({ cls := "java/lang/Object", name := "getClass", desc := "()Ljava/lang/Class;" } : Jvm.MethodName)) ∈ TT := mT1 (List.mem_of_getElem? (i := 174) (by decide +kernel)) rfl
theorem tw_1_175 : (Jvm.Cond.selects "FarStore$Site" ({ cls := "java/lang/Object", name := "getClass", desc := "()Ljava/lang/Class;" } : Jvm.MethodName) ({ cls := "java/lang/Object", name := "getClass", desc := "()Ljava/lang/Class;" } : Jvm.MethodName)) ∈ TT := mT1 (List.mem_of_getElem? (i := 175) (by decide +kernel)) rfl
theorem tw_1_176 : (Jvm.Cond.selects "FarStore$Thing" ({ cls := "java/lang/Object", name := "getClass", desc := "()Ljava/lang/Class;" } : Jvm.MethodName) ({ cls := "java/lang/Object", name := "getClass", desc := "()Ljava/lang/Class;" } : Jvm.MethodName)) ∈ TT := mT1 (List.mem_of_getElem? (i := 176) (by decide +kernel)) rfl
theorem tw_1_177 : (Jvm.Cond.selects "FarStore$Transaction" ({ cls := "java/lang/Object", name := "getClass", desc := "()Ljava/lang/Class;" } : Jvm.MethodName) ({ cls := "java/lang/Object", name := "getClass", desc := "()Ljava/lang/Class;" } : Jvm.MethodName)) ∈ TT := mT1 (List.mem_of_getElem? (i := 177) (by decide +kernel)) rfl
theorem tw_1_178 : (Jvm.Cond.selects "FarStoreModel" ({ cls := "java/lang/Object", name := "getClass", desc := "()Ljava/lang/Class;" } : Jvm.MethodName) ({ cls := "java/lang/Object", name := "getClass", desc := "()Ljava/lang/Class;" } : Jvm.MethodName)) ∈ TT := mT1 (List.mem_of_getElem? (i := 178) (by decide +kernel)) rfl
theorem tw_1_179 : (Jvm.Cond.selects "java/util/ArrayList" ({ cls := "java/lang/Object", name := "getClass", desc := "()Ljava/lang/Class;" } : Jvm.MethodName) ({ cls := "java/lang/Object", name := "getClass", desc := "()Ljava/lang/Class;" } : Jvm.MethodName)) ∈ TT := mT1 (List.mem_of_getElem? (i := 179) (by decide +kernel)) rfl
theorem tw_1_180 : (Jvm.Cond.native ({ cls := "java/lang/Object", name := "getClass", desc := "()Ljava/lang/Class;" } : Jvm.MethodName)) ∈ TT := mT1 (List.mem_of_getElem? (i := 180) (by decide +kernel)) rfl
theorem tw_1_181 : (Jvm.Cond.methodLink "java/util/Arrays" (300 : Nat) ({ cls := "java/util/Arrays", name := "copyOf", desc := "([Ljava/lang/Object;ILjava/lang/Class;)[Ljava/lang/Object;" } : Jvm.MethodName)) ∈ TT := mT1 (List.mem_of_getElem? (i := 181) (by decide +kernel)) rfl
theorem tw_1_182 : (Jvm.Cond.static ({ cls := "java/util/Arrays", name := "copyOf", desc := "([Ljava/lang/Object;ILjava/lang/Class;)[Ljava/lang/Object;" } : Jvm.MethodName)) ∈ TT := mT1 (List.mem_of_getElem? (i := 182) (by decide +kernel)) rfl
theorem tw_1_183 : (Jvm.Cond.code ({ cls := "java/util/Arrays", name := "copyOf", desc := "([Ljava/lang/Object;ILjava/lang/Class;)[Ljava/lang/Object;" } : Jvm.MethodName) prog_16_method_120_code (4 : Nat) (Option.some (Jvm.ClassFile.FieldType.array (Jvm.ClassFile.FieldType.object "java/lang/Object")))) ∈ TT := mT1 (List.mem_of_getElem? (i := 183) (by decide +kernel)) rfl
theorem tw_1_184 : (Jvm.Cond.classLink "java/util/Arrays" (110 : Nat) "[Ljava/lang/Object;") ∈ TT := mT1 (List.mem_of_getElem? (i := 184) (by decide +kernel)) rfl
theorem tw_1_185 : (Jvm.Cond.arrayOver (Jvm.ClassFile.FieldType.object "java/lang/Object")) ∈ TT := mT1 (List.mem_of_getElem? (i := 185) (by decide +kernel)) rfl
theorem tw_1_186 : (Jvm.Cond.classLink "java/util/Arrays" (2 : Nat) "java/lang/Object") ∈ TT := mT1 (List.mem_of_getElem? (i := 186) (by decide +kernel)) rfl
theorem tw_1_187 : (Jvm.Cond.methodLink "java/util/Arrays" (304 : Nat) ({ cls := "java/lang/Math", name := "min", desc := "(II)I" } : Jvm.MethodName)) ∈ TT := mT1 (List.mem_of_getElem? (i := 187) (by decide +kernel)) rfl
theorem tw_1_188 : (Jvm.Cond.static ({ cls := "java/lang/Math", name := "min", desc := "(II)I" } : Jvm.MethodName)) ∈ TT := mT1 (List.mem_of_getElem? (i := 188) (by decide +kernel)) rfl
theorem tw_1_189 : (Jvm.Cond.code ({ cls := "java/lang/Math", name := "min", desc := "(II)I" } : Jvm.MethodName) prog_11_method_69_code (2 : Nat) (Option.some Jvm.ClassFile.FieldType.int)) ∈ TT := mT1 (List.mem_of_getElem? (i := 189) (by decide +kernel)) rfl
theorem tw_1_190 : (Jvm.Cond.methodLink "java/util/Arrays" (150 : Nat) ({ cls := "java/lang/System", name := "arraycopy", desc := "(Ljava/lang/Object;ILjava/lang/Object;II)V" } : Jvm.MethodName)) ∈ TT := mT1 (List.mem_of_getElem? (i := 190) (by decide +kernel)) rfl
theorem tw_1_191 : (Jvm.Cond.static ({ cls := "java/lang/System", name := "arraycopy", desc := "(Ljava/lang/Object;ILjava/lang/Object;II)V" } : Jvm.MethodName)) ∈ TT := mT1 (List.mem_of_getElem? (i := 191) (by decide +kernel)) rfl
theorem tw_1_192 : (Jvm.Cond.native ({ cls := "java/lang/System", name := "arraycopy", desc := "(Ljava/lang/Object;ILjava/lang/Object;II)V" } : Jvm.MethodName)) ∈ TT := mT1 (List.mem_of_getElem? (i := 192) (by decide +kernel)) rfl
theorem tw_1_193 : (Jvm.Cond.methodLink "java/util/ArrayList" (79 : Nat) ({ cls := "java/lang/Math", name := "max", desc := "(II)I" } : Jvm.MethodName)) ∈ TT := mT1 (List.mem_of_getElem? (i := 193) (by decide +kernel)) rfl
theorem tw_1_194 : (Jvm.Cond.classLink "java/util/ArrayList" (7 : Nat) "java/lang/Object") ∈ TT := mT1 (List.mem_of_getElem? (i := 194) (by decide +kernel)) rfl
theorem tw_1_195 : (Jvm.Cond.methodLink "FarStoreLaw" (23 : Nat) ({ cls := "FarStore", name := "begin", desc := "(I)I" } : Jvm.MethodName)) ∈ TT := mT1 (List.mem_of_getElem? (i := 195) (by decide +kernel)) rfl
theorem tw_1_196 : (Jvm.Cond.instanceMethod ({ cls := "FarStore", name := "begin", desc := "(I)I" } : Jvm.MethodName)) ∈ TT := mT1 (List.mem_of_getElem? (i := 196) (by decide +kernel)) rfl
theorem tw_1_197 : (Jvm.Cond.selects "FarStore" ({ cls := "FarStore", name := "begin", desc := "(I)I" } : Jvm.MethodName) ({ cls := "FarStore", name := "begin", desc := "(I)I" } : Jvm.MethodName)) ∈ TT := mT1 (List.mem_of_getElem? (i := 197) (by decide +kernel)) rfl
theorem tw_1_198 : (Jvm.Cond.code ({ cls := "FarStore", name := "begin", desc := "(I)I" } : Jvm.MethodName) prog_1_method_4_code (4 : Nat) (Option.some Jvm.ClassFile.FieldType.int)) ∈ TT := mT1 (List.mem_of_getElem? (i := 198) (by decide +kernel)) rfl
theorem tw_1_199 : (Jvm.Cond.classLink "FarStore" (59 : Nat) "FarStore$Transaction") ∈ TT := mT1 (List.mem_of_getElem? (i := 199) (by decide +kernel)) rfl
theorem tw_1_200 : (Jvm.Cond.instantiable "FarStore$Transaction" (14 : Nat)) ∈ TT := mT1 (List.mem_of_getElem? (i := 200) (by decide +kernel)) rfl
theorem tw_1_201 : (Jvm.Cond.methodLinkNest "FarStore" (61 : Nat) ({ cls := "FarStore$Transaction", name := "<init>", desc := "(ILFarStore$Site;)V" } : Jvm.MethodName) "FarStore") ∈ TT := mT1 (List.mem_of_getElem? (i := 201) (by decide +kernel)) rfl
theorem tw_1_202 : (Jvm.Cond.instanceMethod ({ cls := "FarStore$Transaction", name := "<init>", desc := "(ILFarStore$Site;)V" } : Jvm.MethodName)) ∈ TT := mT1 (List.mem_of_getElem? (i := 202) (by decide +kernel)) rfl
theorem tw_1_203 : (Jvm.Cond.code ({ cls := "FarStore$Transaction", name := "<init>", desc := "(ILFarStore$Site;)V" } : Jvm.MethodName) prog_5_method_1_code (3 : Nat) (Option.none : Option Jvm.ClassFile.FieldType)) ∈ TT := mT1 (List.mem_of_getElem? (i := 203) (by decide +kernel)) rfl
theorem tw_1_204 : (Jvm.Cond.methodLink "FarStore$Transaction" (3 : Nat) ({ cls := "java/lang/Object", name := "<init>", desc := "()V" } : Jvm.MethodName)) ∈ TT := mT1 (List.mem_of_getElem? (i := 204) (by decide +kernel)) rfl
theorem tw_1_205 : (Jvm.Cond.methodLink "FarStore$Transaction" (42 : Nat) ({ cls := "[I", name := "clone", desc := "()Ljava/lang/Object;" } : Jvm.MethodName)) ∈ TT := mT1 (List.mem_of_getElem? (i := 205) (by decide +kernel)) rfl
theorem tw_1_206 : (Jvm.Cond.sameMethod "[I" "java/lang/Object" "clone" "()Ljava/lang/Object;") ∈ TT := mT1 (List.mem_of_getElem? (i := 206) (by decide +kernel)) rfl
theorem tw_1_207 : (Jvm.Cond.native ({ cls := "java/lang/Object", name := "clone", desc := "()Ljava/lang/Object;" } : Jvm.MethodName)) ∈ TT := mT1 (List.mem_of_getElem? (i := 207) (by decide +kernel)) rfl
theorem tw_1_208 : (Jvm.Cond.instanceMethod ({ cls := "java/lang/Object", name := "clone", desc := "()Ljava/lang/Object;" } : Jvm.MethodName)) ∈ TT := mT1 (List.mem_of_getElem? (i := 208) (by decide +kernel)) rfl
theorem tw_1_209 : (Jvm.Cond.selects "[I" ({ cls := "[I", name := "clone", desc := "()Ljava/lang/Object;" } : Jvm.MethodName) ({ cls := "java/lang/Object", name := "clone", desc := "()Ljava/lang/Object;" } : Jvm.MethodName)) ∈ TT := mT1 (List.mem_of_getElem? (i := 209) (by decide +kernel)) rfl
theorem tw_1_210 : (Jvm.Cond.castable "[I" "java/lang/Cloneable") ∈ TT := mT1 (List.mem_of_getElem? (i := 210) (by decide +kernel)) rfl
theorem tw_1_211 : (Jvm.Cond.classLink "FarStore$Transaction" (43 : Nat) "[I") ∈ TT := mT1 (List.mem_of_getElem? (i := 211) (by decide +kernel)) rfl
theorem tw_1_212 : (Jvm.Cond.fieldLink "FarStore$Transaction" (29 : Nat) "FarStore$Transaction" "number" "I") ∈ TT := mT1 (List.mem_of_getElem? (i := 212) (by decide +kernel)) rfl
theorem tw_1_213 : (Jvm.Cond.fieldLinkNest "FarStore$Site" (81 : Nat) "FarStore$Transaction" "number" "I" "FarStore") ∈ TT := mT1 (List.mem_of_getElem? (i := 213) (by decide +kernel)) rfl
theorem tw_1_214 : (Jvm.Cond.fieldLinkNest "FarStore" (184 : Nat) "FarStore$Transaction" "number" "I" "FarStore") ∈ TT := mT1 (List.mem_of_getElem? (i := 214) (by decide +kernel)) rfl
theorem tw_1_215 : (Jvm.Cond.fieldLink "FarStore$Transaction" (32 : Nat) "FarStore$Transaction" "site" "LFarStore$Site;") ∈ TT := mT1 (List.mem_of_getElem? (i := 215) (by decide +kernel)) rfl
theorem tw_1_216 : (Jvm.Cond.fieldLinkNest "FarStore$Site" (66 : Nat) "FarStore$Transaction" "site" "LFarStore$Site;" "FarStore") ∈ TT := mT1 (List.mem_of_getElem? (i := 216) (by decide +kernel)) rfl
theorem tw_1_217 : (Jvm.Cond.fieldLinkNest "FarStore" (83 : Nat) "FarStore$Transaction" "site" "LFarStore$Site;" "FarStore") ∈ TT := mT1 (List.mem_of_getElem? (i := 217) (by decide +kernel)) rfl
theorem tw_1_218 : (Jvm.Cond.fieldLink "FarStore$Transaction" (47 : Nat) "FarStore$Transaction" "seen" "[I") ∈ TT := mT1 (List.mem_of_getElem? (i := 218) (by decide +kernel)) rfl
theorem tw_1_219 : (Jvm.Cond.fieldLinkNest "FarStore$Site" (52 : Nat) "FarStore$Transaction" "seen" "[I" "FarStore") ∈ TT := mT1 (List.mem_of_getElem? (i := 219) (by decide +kernel)) rfl
theorem tw_1_220 : (Jvm.Cond.fieldLinkNest "FarStore" (87 : Nat) "FarStore$Transaction" "seen" "[I" "FarStore") ∈ TT := mT1 (List.mem_of_getElem? (i := 220) (by decide +kernel)) rfl
theorem tw_1_221 : (Jvm.Cond.fieldLink "FarStore$Transaction" (9 : Nat) "FarStore$Transaction" "wrote" "[Z") ∈ TT := mT1 (List.mem_of_getElem? (i := 221) (by decide +kernel)) rfl
theorem tw_1_222 : (Jvm.Cond.fieldLinkNest "FarStore$Site" (48 : Nat) "FarStore$Transaction" "wrote" "[Z" "FarStore") ∈ TT := mT1 (List.mem_of_getElem? (i := 222) (by decide +kernel)) rfl
theorem tw_1_223 : (Jvm.Cond.fieldLinkNest "FarStore" (72 : Nat) "FarStore$Transaction" "wrote" "[Z" "FarStore") ∈ TT := mT1 (List.mem_of_getElem? (i := 223) (by decide +kernel)) rfl
theorem tw_1_224 : (Jvm.Cond.fieldLink "FarStore$Transaction" (15 : Nat) "FarStore$Transaction" "values" "[J") ∈ TT := mT1 (List.mem_of_getElem? (i := 224) (by decide +kernel)) rfl
theorem tw_1_225 : (Jvm.Cond.fieldLinkNest "FarStore$Site" (59 : Nat) "FarStore$Transaction" "values" "[J" "FarStore") ∈ TT := mT1 (List.mem_of_getElem? (i := 225) (by decide +kernel)) rfl
theorem tw_1_226 : (Jvm.Cond.fieldLinkNest "FarStore" (79 : Nat) "FarStore$Transaction" "values" "[J" "FarStore") ∈ TT := mT1 (List.mem_of_getElem? (i := 226) (by decide +kernel)) rfl
theorem tw_1_227 : (Jvm.Cond.fieldLink "FarStore$Transaction" (19 : Nat) "FarStore$Transaction" "added" "[J") ∈ TT := mT1 (List.mem_of_getElem? (i := 227) (by decide +kernel)) rfl
theorem tw_1_228 : (Jvm.Cond.fieldLinkNest "FarStore$Site" (63 : Nat) "FarStore$Transaction" "added" "[J" "FarStore") ∈ TT := mT1 (List.mem_of_getElem? (i := 228) (by decide +kernel)) rfl
theorem tw_1_229 : (Jvm.Cond.fieldLinkNest "FarStore" (106 : Nat) "FarStore$Transaction" "added" "[J" "FarStore") ∈ TT := mT1 (List.mem_of_getElem? (i := 229) (by decide +kernel)) rfl
theorem tw_1_230 : (Jvm.Cond.fieldLink "FarStore$Transaction" (22 : Nat) "FarStore$Transaction" "dropped" "[Z") ∈ TT := mT1 (List.mem_of_getElem? (i := 230) (by decide +kernel)) rfl
theorem tw_1_231 : (Jvm.Cond.fieldLinkNest "FarStore" (284 : Nat) "FarStore$Transaction" "dropped" "[Z" "FarStore") ∈ TT := mT1 (List.mem_of_getElem? (i := 231) (by decide +kernel)) rfl
theorem tw_1_232 : (Jvm.Cond.fieldLink "FarStore$Transaction" (56 : Nat) "FarStore$Transaction" "addedAnything" "Z") ∈ TT := mT1 (List.mem_of_getElem? (i := 232) (by decide +kernel)) rfl
theorem tw_1_233 : (Jvm.Cond.fieldLink "FarStore$Transaction" (53 : Nat) "FarStore$Transaction" "plainWritten" "I") ∈ TT := mT1 (List.mem_of_getElem? (i := 233) (by decide +kernel)) rfl
theorem tw_1_234 : (Jvm.Cond.fieldLinkNest "FarStore" (120 : Nat) "FarStore$Transaction" "plainWritten" "I" "FarStore") ∈ TT := mT1 (List.mem_of_getElem? (i := 234) (by decide +kernel)) rfl
theorem tw_1_235 : (Jvm.Cond.fieldLink "FarStore$Transaction" (25 : Nat) "FarStore$Transaction" "state" "I") ∈ TT := mT1 (List.mem_of_getElem? (i := 235) (by decide +kernel)) rfl
theorem tw_1_236 : (Jvm.Cond.fieldLinkNest "FarStore" (113 : Nat) "FarStore$Transaction" "state" "I" "FarStore") ∈ TT := mT1 (List.mem_of_getElem? (i := 236) (by decide +kernel)) rfl
theorem tw_1_237 : (Jvm.Cond.fieldLink "FarStore$Transaction" (60 : Nat) "FarStore$Transaction" "commitNumber" "I") ∈ TT := mT1 (List.mem_of_getElem? (i := 237) (by decide +kernel)) rfl
theorem tw_1_238 : (Jvm.Cond.fieldLinkNest "FarStore$Site" (70 : Nat) "FarStore$Transaction" "commitNumber" "I" "FarStore") ∈ TT := mT1 (List.mem_of_getElem? (i := 238) (by decide +kernel)) rfl
theorem tw_1_239 : (Jvm.Cond.fieldLinkNest "FarStore" (189 : Nat) "FarStore$Transaction" "commitNumber" "I" "FarStore") ∈ TT := mT1 (List.mem_of_getElem? (i := 239) (by decide +kernel)) rfl
theorem tw_2_0 : (Jvm.Cond.fieldLinkNest "FarStore" (143 : Nat) "FarStore$Transaction" "asks" "I" "FarStore") ∈ TT := mT2 (List.mem_of_getElem? (i := 0) (by decide +kernel)) rfl
theorem tw_2_1 : (Jvm.Cond.fieldLinkNest "FarStore" (201 : Nat) "FarStore$Transaction" "yeses" "I" "FarStore") ∈ TT := mT2 (List.mem_of_getElem? (i := 1) (by decide +kernel)) rfl
theorem tw_2_2 : (Jvm.Cond.fieldLinkNest "FarStore" (192 : Nat) "FarStore$Transaction" "acks" "I" "FarStore") ∈ TT := mT2 (List.mem_of_getElem? (i := 2) (by decide +kernel)) rfl
theorem tw_2_3 : (Jvm.Cond.laysFinal "FarStore$Transaction" "FarStore$Transaction" "number" "I") ∈ TT := mT2 (List.mem_of_getElem? (i := 3) (by decide +kernel)) rfl
theorem tw_2_5 : (Jvm.Cond.laysFinal "FarStore$Transaction" "FarStore$Transaction" "site" "LFarStore$Site;") ∈ TT := mT2 (List.mem_of_getElem? (i := 5) (by decide +kernel)) rfl
theorem tw_2_7 : (Jvm.Cond.laysFinal "FarStore$Transaction" "FarStore$Transaction" "seen" "[I") ∈ TT := mT2 (List.mem_of_getElem? (i := 7) (by decide +kernel)) rfl
theorem tw_2_9 : (Jvm.Cond.laysFinal "FarStore$Transaction" "FarStore$Transaction" "wrote" "[Z") ∈ TT := mT2 (List.mem_of_getElem? (i := 9) (by decide +kernel)) rfl
theorem tw_2_11 : (Jvm.Cond.laysFinal "FarStore$Transaction" "FarStore$Transaction" "values" "[J") ∈ TT := mT2 (List.mem_of_getElem? (i := 11) (by decide +kernel)) rfl
theorem tw_2_13 : (Jvm.Cond.laysFinal "FarStore$Transaction" "FarStore$Transaction" "added" "[J") ∈ TT := mT2 (List.mem_of_getElem? (i := 13) (by decide +kernel)) rfl
theorem tw_2_15 : (Jvm.Cond.laysFinal "FarStore$Transaction" "FarStore$Transaction" "dropped" "[Z") ∈ TT := mT2 (List.mem_of_getElem? (i := 15) (by decide +kernel)) rfl
theorem tw_2_17 : (Jvm.Cond.lays "FarStore$Transaction" "FarStore$Transaction" "addedAnything" "Z") ∈ TT := mT2 (List.mem_of_getElem? (i := 17) (by decide +kernel)) rfl
theorem tw_2_19 : (Jvm.Cond.lays "FarStore$Transaction" "FarStore$Transaction" "plainWritten" "I") ∈ TT := mT2 (List.mem_of_getElem? (i := 19) (by decide +kernel)) rfl
theorem tw_2_21 : (Jvm.Cond.lays "FarStore$Transaction" "FarStore$Transaction" "state" "I") ∈ TT := mT2 (List.mem_of_getElem? (i := 21) (by decide +kernel)) rfl
theorem tw_2_23 : (Jvm.Cond.lays "FarStore$Transaction" "FarStore$Transaction" "commitNumber" "I") ∈ TT := mT2 (List.mem_of_getElem? (i := 23) (by decide +kernel)) rfl
theorem tw_2_25 : (Jvm.Cond.lays "FarStore$Transaction" "FarStore$Transaction" "asks" "I") ∈ TT := mT2 (List.mem_of_getElem? (i := 25) (by decide +kernel)) rfl
theorem tw_2_27 : (Jvm.Cond.lays "FarStore$Transaction" "FarStore$Transaction" "yeses" "I") ∈ TT := mT2 (List.mem_of_getElem? (i := 27) (by decide +kernel)) rfl
theorem tw_2_29 : (Jvm.Cond.lays "FarStore$Transaction" "FarStore$Transaction" "acks" "I") ∈ TT := mT2 (List.mem_of_getElem? (i := 29) (by decide +kernel)) rfl
theorem tw_2_32 : (Jvm.Cond.arrayClass Jvm.ClassFile.FieldType.boolean) ∈ TT := mT2 (List.mem_of_getElem? (i := 32) (by decide +kernel)) rfl
theorem tw_2_33 : (Jvm.Cond.arrayClass Jvm.ClassFile.FieldType.long) ∈ TT := mT2 (List.mem_of_getElem? (i := 33) (by decide +kernel)) rfl
theorem tw_2_34 : (Jvm.Cond.methodLink "FarStoreLaw" (28 : Nat) ({ cls := "FarStore", name := "read", desc := "(II)J" } : Jvm.MethodName)) ∈ TT := mT2 (List.mem_of_getElem? (i := 34) (by decide +kernel)) rfl
theorem tw_2_35 : (Jvm.Cond.instanceMethod ({ cls := "FarStore", name := "read", desc := "(II)J" } : Jvm.MethodName)) ∈ TT := mT2 (List.mem_of_getElem? (i := 35) (by decide +kernel)) rfl
theorem tw_2_36 : (Jvm.Cond.selects "FarStore" ({ cls := "FarStore", name := "read", desc := "(II)J" } : Jvm.MethodName) ({ cls := "FarStore", name := "read", desc := "(II)J" } : Jvm.MethodName)) ∈ TT := mT2 (List.mem_of_getElem? (i := 36) (by decide +kernel)) rfl
theorem tw_2_37 : (Jvm.Cond.code ({ cls := "FarStore", name := "read", desc := "(II)J" } : Jvm.MethodName) prog_1_method_5_code (5 : Nat) (Option.some Jvm.ClassFile.FieldType.long)) ∈ TT := mT2 (List.mem_of_getElem? (i := 37) (by decide +kernel)) rfl
theorem tw_2_38 : (Jvm.Cond.methodLink "FarStore" (64 : Nat) ({ cls := "FarStore", name := "findTransaction", desc := "(I)LFarStore$Transaction;" } : Jvm.MethodName)) ∈ TT := mT2 (List.mem_of_getElem? (i := 38) (by decide +kernel)) rfl
theorem tw_2_40 : (Jvm.Cond.instanceMethod ({ cls := "FarStore", name := "findTransaction", desc := "(I)LFarStore$Transaction;" } : Jvm.MethodName)) ∈ TT := mT2 (List.mem_of_getElem? (i := 40) (by decide +kernel)) rfl
theorem tw_2_41 : (Jvm.Cond.code ({ cls := "FarStore", name := "findTransaction", desc := "(I)LFarStore$Transaction;" } : Jvm.MethodName) prog_1_method_27_code (2 : Nat) (Option.some (Jvm.ClassFile.FieldType.object "FarStore$Transaction"))) ∈ TT := mT2 (List.mem_of_getElem? (i := 41) (by decide +kernel)) rfl
theorem tw_2_42 : (Jvm.Cond.methodLink "FarStore" (232 : Nat) ({ cls := "java/util/ArrayList", name := "get", desc := "(I)Ljava/lang/Object;" } : Jvm.MethodName)) ∈ TT := mT2 (List.mem_of_getElem? (i := 42) (by decide +kernel)) rfl
theorem tw_2_43 : (Jvm.Cond.instanceMethod ({ cls := "java/util/ArrayList", name := "get", desc := "(I)Ljava/lang/Object;" } : Jvm.MethodName)) ∈ TT := mT2 (List.mem_of_getElem? (i := 43) (by decide +kernel)) rfl
theorem tw_2_44 : (Jvm.Cond.selects "java/util/ArrayList" ({ cls := "java/util/ArrayList", name := "get", desc := "(I)Ljava/lang/Object;" } : Jvm.MethodName) ({ cls := "java/util/ArrayList", name := "get", desc := "(I)Ljava/lang/Object;" } : Jvm.MethodName)) ∈ TT := mT2 (List.mem_of_getElem? (i := 44) (by decide +kernel)) rfl
theorem tw_2_45 : (Jvm.Cond.code ({ cls := "java/util/ArrayList", name := "get", desc := "(I)Ljava/lang/Object;" } : Jvm.MethodName) prog_15_method_20_code (2 : Nat) (Option.some (Jvm.ClassFile.FieldType.object "java/lang/Object"))) ∈ TT := mT2 (List.mem_of_getElem? (i := 45) (by decide +kernel)) rfl
theorem tw_2_46 : (Jvm.Cond.methodLink "java/util/ArrayList" (118 : Nat) ({ cls := "java/util/Objects", name := "checkIndex", desc := "(II)I" } : Jvm.MethodName)) ∈ TT := mT2 (List.mem_of_getElem? (i := 46) (by decide +kernel)) rfl
theorem tw_2_47 : (Jvm.Cond.static ({ cls := "java/util/Objects", name := "checkIndex", desc := "(II)I" } : Jvm.MethodName)) ∈ TT := mT2 (List.mem_of_getElem? (i := 47) (by decide +kernel)) rfl
theorem tw_2_48 : (Jvm.Cond.code ({ cls := "java/util/Objects", name := "checkIndex", desc := "(II)I" } : Jvm.MethodName) prog_19_method_17_code (2 : Nat) (Option.some Jvm.ClassFile.FieldType.int)) ∈ TT := mT2 (List.mem_of_getElem? (i := 48) (by decide +kernel)) rfl
theorem tw_2_49 : (Jvm.Cond.methodLink "java/util/Objects" (105 : Nat) ({ cls := "jdk/internal/util/Preconditions", name := "checkIndex", desc := "(IILjava/util/function/BiFunction;)I" } : Jvm.MethodName)) ∈ TT := mT2 (List.mem_of_getElem? (i := 49) (by decide +kernel)) rfl
theorem tw_2_50 : (Jvm.Cond.static ({ cls := "jdk/internal/util/Preconditions", name := "checkIndex", desc := "(IILjava/util/function/BiFunction;)I" } : Jvm.MethodName)) ∈ TT := mT2 (List.mem_of_getElem? (i := 50) (by decide +kernel)) rfl
theorem tw_2_51 : (Jvm.Cond.code ({ cls := "jdk/internal/util/Preconditions", name := "checkIndex", desc := "(IILjava/util/function/BiFunction;)I" } : Jvm.MethodName) prog_23_method_11_code (3 : Nat) (Option.some Jvm.ClassFile.FieldType.int)) ∈ TT := mT2 (List.mem_of_getElem? (i := 51) (by decide +kernel)) rfl
theorem tw_2_52 : (Jvm.Cond.methodLink "java/util/ArrayList" (123 : Nat) ({ cls := "java/util/ArrayList", name := "elementData", desc := "(I)Ljava/lang/Object;" } : Jvm.MethodName)) ∈ TT := mT2 (List.mem_of_getElem? (i := 52) (by decide +kernel)) rfl
theorem tw_2_53 : (Jvm.Cond.instanceMethod ({ cls := "java/util/ArrayList", name := "elementData", desc := "(I)Ljava/lang/Object;" } : Jvm.MethodName)) ∈ TT := mT2 (List.mem_of_getElem? (i := 53) (by decide +kernel)) rfl
theorem tw_2_54 : (Jvm.Cond.selects "java/util/ArrayList" ({ cls := "java/util/ArrayList", name := "elementData", desc := "(I)Ljava/lang/Object;" } : Jvm.MethodName) ({ cls := "java/util/ArrayList", name := "elementData", desc := "(I)Ljava/lang/Object;" } : Jvm.MethodName)) ∈ TT := mT2 (List.mem_of_getElem? (i := 54) (by decide +kernel)) rfl
theorem tw_2_55 : (Jvm.Cond.code ({ cls := "java/util/ArrayList", name := "elementData", desc := "(I)Ljava/lang/Object;" } : Jvm.MethodName) prog_15_method_18_code (2 : Nat) (Option.some (Jvm.ClassFile.FieldType.object "java/lang/Object"))) ∈ TT := mT2 (List.mem_of_getElem? (i := 55) (by decide +kernel)) rfl
theorem tw_2_56 : (Jvm.Cond.methodLink "FarStore" (68 : Nat) ({ cls := "FarStore", name := "findPlain", desc := "(I)LFarStore$Thing;" } : Jvm.MethodName)) ∈ TT := mT2 (List.mem_of_getElem? (i := 56) (by decide +kernel)) rfl
theorem tw_2_58 : (Jvm.Cond.instanceMethod ({ cls := "FarStore", name := "findPlain", desc := "(I)LFarStore$Thing;" } : Jvm.MethodName)) ∈ TT := mT2 (List.mem_of_getElem? (i := 58) (by decide +kernel)) rfl
theorem tw_2_59 : (Jvm.Cond.code ({ cls := "FarStore", name := "findPlain", desc := "(I)LFarStore$Thing;" } : Jvm.MethodName) prog_1_method_25_code (3 : Nat) (Option.some (Jvm.ClassFile.FieldType.object "FarStore$Thing"))) ∈ TT := mT2 (List.mem_of_getElem? (i := 59) (by decide +kernel)) rfl
theorem tw_2_60 : (Jvm.Cond.methodLink "FarStore" (207 : Nat) ({ cls := "FarStore", name := "findThing", desc := "(I)LFarStore$Thing;" } : Jvm.MethodName)) ∈ TT := mT2 (List.mem_of_getElem? (i := 60) (by decide +kernel)) rfl
theorem tw_2_62 : (Jvm.Cond.instanceMethod ({ cls := "FarStore", name := "findThing", desc := "(I)LFarStore$Thing;" } : Jvm.MethodName)) ∈ TT := mT2 (List.mem_of_getElem? (i := 62) (by decide +kernel)) rfl
theorem tw_2_63 : (Jvm.Cond.code ({ cls := "FarStore", name := "findThing", desc := "(I)LFarStore$Thing;" } : Jvm.MethodName) prog_1_method_24_code (2 : Nat) (Option.some (Jvm.ClassFile.FieldType.object "FarStore$Thing"))) ∈ TT := mT2 (List.mem_of_getElem? (i := 63) (by decide +kernel)) rfl
theorem tw_2_64 : (Jvm.Cond.methodLinkNest "FarStore" (91 : Nat) ({ cls := "FarStore$Site", name := "valueOf", desc := "(LFarStore$Thing;[I)J" } : Jvm.MethodName) "FarStore") ∈ TT := mT2 (List.mem_of_getElem? (i := 64) (by decide +kernel)) rfl
theorem tw_2_66 : (Jvm.Cond.instanceMethod ({ cls := "FarStore$Site", name := "valueOf", desc := "(LFarStore$Thing;[I)J" } : Jvm.MethodName)) ∈ TT := mT2 (List.mem_of_getElem? (i := 66) (by decide +kernel)) rfl
theorem tw_2_67 : (Jvm.Cond.code ({ cls := "FarStore$Site", name := "valueOf", desc := "(LFarStore$Thing;[I)J" } : Jvm.MethodName) prog_3_method_3_code (5 : Nat) (Option.some Jvm.ClassFile.FieldType.long)) ∈ TT := mT2 (List.mem_of_getElem? (i := 67) (by decide +kernel)) rfl
theorem tw_2_68 : (Jvm.Cond.methodLink "FarStore$Site" (38 : Nat) ({ cls := "java/util/ArrayList", name := "size", desc := "()I" } : Jvm.MethodName)) ∈ TT := mT2 (List.mem_of_getElem? (i := 68) (by decide +kernel)) rfl
theorem tw_2_69 : (Jvm.Cond.methodLink "FarStore$Site" (42 : Nat) ({ cls := "java/util/ArrayList", name := "get", desc := "(I)Ljava/lang/Object;" } : Jvm.MethodName)) ∈ TT := mT2 (List.mem_of_getElem? (i := 69) (by decide +kernel)) rfl
theorem tw_2_70 : (Jvm.Cond.classLink "FarStore$Site" (46 : Nat) "FarStore$Transaction") ∈ TT := mT2 (List.mem_of_getElem? (i := 70) (by decide +kernel)) rfl
theorem tw_2_71 : (Jvm.Cond.methodLinkNest "FarStore$Site" (55 : Nat) ({ cls := "FarStore$Transaction", name := "isWithin", desc := "([I)Z" } : Jvm.MethodName) "FarStore") ∈ TT := mT2 (List.mem_of_getElem? (i := 71) (by decide +kernel)) rfl
theorem tw_2_73 : (Jvm.Cond.instanceMethod ({ cls := "FarStore$Transaction", name := "isWithin", desc := "([I)Z" } : Jvm.MethodName)) ∈ TT := mT2 (List.mem_of_getElem? (i := 73) (by decide +kernel)) rfl
theorem tw_2_74 : (Jvm.Cond.code ({ cls := "FarStore$Transaction", name := "isWithin", desc := "([I)Z" } : Jvm.MethodName) prog_5_method_6_code (2 : Nat) (Option.some Jvm.ClassFile.FieldType.boolean)) ∈ TT := mT2 (List.mem_of_getElem? (i := 74) (by decide +kernel)) rfl
theorem tw_2_75 : (Jvm.Cond.methodLink "FarStore$Transaction" (63 : Nat) ({ cls := "FarStore$Transaction", name := "hasCommit", desc := "()Z" } : Jvm.MethodName)) ∈ TT := mT2 (List.mem_of_getElem? (i := 75) (by decide +kernel)) rfl
theorem tw_2_77 : (Jvm.Cond.instanceMethod ({ cls := "FarStore$Transaction", name := "hasCommit", desc := "()Z" } : Jvm.MethodName)) ∈ TT := mT2 (List.mem_of_getElem? (i := 77) (by decide +kernel)) rfl
theorem tw_2_78 : (Jvm.Cond.code ({ cls := "FarStore$Transaction", name := "hasCommit", desc := "()Z" } : Jvm.MethodName) prog_5_method_5_code (1 : Nat) (Option.some Jvm.ClassFile.FieldType.boolean)) ∈ TT := mT2 (List.mem_of_getElem? (i := 78) (by decide +kernel)) rfl
theorem tw_2_79 : (Jvm.Cond.methodLink "FarStoreLaw" (33 : Nat) ({ cls := "FarStore", name := "counted", desc := "(III)J" } : Jvm.MethodName)) ∈ TT := mT2 (List.mem_of_getElem? (i := 79) (by decide +kernel)) rfl
theorem tw_2_80 : (Jvm.Cond.instanceMethod ({ cls := "FarStore", name := "counted", desc := "(III)J" } : Jvm.MethodName)) ∈ TT := mT2 (List.mem_of_getElem? (i := 80) (by decide +kernel)) rfl
theorem tw_2_81 : (Jvm.Cond.selects "FarStore" ({ cls := "FarStore", name := "counted", desc := "(III)J" } : Jvm.MethodName) ({ cls := "FarStore", name := "counted", desc := "(III)J" } : Jvm.MethodName)) ∈ TT := mT2 (List.mem_of_getElem? (i := 81) (by decide +kernel)) rfl
theorem tw_2_82 : (Jvm.Cond.code ({ cls := "FarStore", name := "counted", desc := "(III)J" } : Jvm.MethodName) prog_1_method_6_code (7 : Nat) (Option.some Jvm.ClassFile.FieldType.long)) ∈ TT := mT2 (List.mem_of_getElem? (i := 82) (by decide +kernel)) rfl
theorem tw_2_83 : (Jvm.Cond.methodLink "FarStore" (95 : Nat) ({ cls := "FarStore", name := "findSet", desc := "(I)LFarStore$Thing;" } : Jvm.MethodName)) ∈ TT := mT2 (List.mem_of_getElem? (i := 83) (by decide +kernel)) rfl
theorem tw_2_85 : (Jvm.Cond.instanceMethod ({ cls := "FarStore", name := "findSet", desc := "(I)LFarStore$Thing;" } : Jvm.MethodName)) ∈ TT := mT2 (List.mem_of_getElem? (i := 85) (by decide +kernel)) rfl
theorem tw_2_86 : (Jvm.Cond.code ({ cls := "FarStore", name := "findSet", desc := "(I)LFarStore$Thing;" } : Jvm.MethodName) prog_1_method_26_code (3 : Nat) (Option.some (Jvm.ClassFile.FieldType.object "FarStore$Thing"))) ∈ TT := mT2 (List.mem_of_getElem? (i := 86) (by decide +kernel)) rfl
theorem tw_2_87 : (Jvm.Cond.methodLink "FarStore" (98 : Nat) ({ cls := "FarStore", name := "isElement", desc := "(I)Z" } : Jvm.MethodName)) ∈ TT := mT2 (List.mem_of_getElem? (i := 87) (by decide +kernel)) rfl
theorem tw_2_88 : (Jvm.Cond.static ({ cls := "FarStore", name := "isElement", desc := "(I)Z" } : Jvm.MethodName)) ∈ TT := mT2 (List.mem_of_getElem? (i := 88) (by decide +kernel)) rfl
theorem tw_2_89 : (Jvm.Cond.code ({ cls := "FarStore", name := "isElement", desc := "(I)Z" } : Jvm.MethodName) prog_1_method_29_code (1 : Nat) (Option.some Jvm.ClassFile.FieldType.boolean)) ∈ TT := mT2 (List.mem_of_getElem? (i := 89) (by decide +kernel)) rfl
theorem tw_2_90 : (Jvm.Cond.methodLinkNest "FarStore" (102 : Nat) ({ cls := "FarStore$Thing", name := "slotOf", desc := "(I)I" } : Jvm.MethodName) "FarStore") ∈ TT := mT2 (List.mem_of_getElem? (i := 90) (by decide +kernel)) rfl
theorem tw_2_92 : (Jvm.Cond.instanceMethod ({ cls := "FarStore$Thing", name := "slotOf", desc := "(I)I" } : Jvm.MethodName)) ∈ TT := mT2 (List.mem_of_getElem? (i := 92) (by decide +kernel)) rfl
theorem tw_2_93 : (Jvm.Cond.code ({ cls := "FarStore$Thing", name := "slotOf", desc := "(I)I" } : Jvm.MethodName) prog_4_method_2_code (2 : Nat) (Option.some Jvm.ClassFile.FieldType.int)) ∈ TT := mT2 (List.mem_of_getElem? (i := 93) (by decide +kernel)) rfl
theorem tw_2_94 : (Jvm.Cond.methodLinkNest "FarStore" (109 : Nat) ({ cls := "FarStore$Site", name := "countOf", desc := "(I[I)J" } : Jvm.MethodName) "FarStore") ∈ TT := mT2 (List.mem_of_getElem? (i := 94) (by decide +kernel)) rfl
theorem tw_2_96 : (Jvm.Cond.instanceMethod ({ cls := "FarStore$Site", name := "countOf", desc := "(I[I)J" } : Jvm.MethodName)) ∈ TT := mT2 (List.mem_of_getElem? (i := 96) (by decide +kernel)) rfl
theorem tw_2_97 : (Jvm.Cond.code ({ cls := "FarStore$Site", name := "countOf", desc := "(I[I)J" } : Jvm.MethodName) prog_3_method_4_code (7 : Nat) (Option.some Jvm.ClassFile.FieldType.long)) ∈ TT := mT2 (List.mem_of_getElem? (i := 97) (by decide +kernel)) rfl
theorem tw_2_98 : (Jvm.Cond.methodLink "FarStoreLaw" (40 : Nat) ({ cls := "FarStore", name := "write", desc := "(IIJ)I" } : Jvm.MethodName)) ∈ TT := mT2 (List.mem_of_getElem? (i := 98) (by decide +kernel)) rfl
theorem tw_2_99 : (Jvm.Cond.instanceMethod ({ cls := "FarStore", name := "write", desc := "(IIJ)I" } : Jvm.MethodName)) ∈ TT := mT2 (List.mem_of_getElem? (i := 99) (by decide +kernel)) rfl
theorem tw_2_100 : (Jvm.Cond.selects "FarStore" ({ cls := "FarStore", name := "write", desc := "(IIJ)I" } : Jvm.MethodName) ({ cls := "FarStore", name := "write", desc := "(IIJ)I" } : Jvm.MethodName)) ∈ TT := mT2 (List.mem_of_getElem? (i := 100) (by decide +kernel)) rfl
theorem tw_2_101 : (Jvm.Cond.code ({ cls := "FarStore", name := "write", desc := "(IIJ)I" } : Jvm.MethodName) prog_1_method_7_code (7 : Nat) (Option.some Jvm.ClassFile.FieldType.int)) ∈ TT := mT2 (List.mem_of_getElem? (i := 101) (by decide +kernel)) rfl
theorem tw_2_102 : (Jvm.Cond.methodLinkNest "FarStore" (116 : Nat) ({ cls := "FarStore$Transaction", name := "put", desc := "(LFarStore$Thing;J)V" } : Jvm.MethodName) "FarStore") ∈ TT := mT2 (List.mem_of_getElem? (i := 102) (by decide +kernel)) rfl
theorem tw_2_104 : (Jvm.Cond.instanceMethod ({ cls := "FarStore$Transaction", name := "put", desc := "(LFarStore$Thing;J)V" } : Jvm.MethodName)) ∈ TT := mT2 (List.mem_of_getElem? (i := 104) (by decide +kernel)) rfl
theorem tw_2_105 : (Jvm.Cond.code ({ cls := "FarStore$Transaction", name := "put", desc := "(LFarStore$Thing;J)V" } : Jvm.MethodName) prog_5_method_2_code (4 : Nat) (Option.none : Option Jvm.ClassFile.FieldType)) ∈ TT := mT2 (List.mem_of_getElem? (i := 105) (by decide +kernel)) rfl
theorem tw_2_106 : (Jvm.Cond.methodLink "FarStoreLaw" (45 : Nat) ({ cls := "FarStore", name := "add", desc := "(IIII)I" } : Jvm.MethodName)) ∈ TT := mT2 (List.mem_of_getElem? (i := 106) (by decide +kernel)) rfl
theorem tw_2_107 : (Jvm.Cond.instanceMethod ({ cls := "FarStore", name := "add", desc := "(IIII)I" } : Jvm.MethodName)) ∈ TT := mT2 (List.mem_of_getElem? (i := 107) (by decide +kernel)) rfl
theorem tw_2_108 : (Jvm.Cond.selects "FarStore" ({ cls := "FarStore", name := "add", desc := "(IIII)I" } : Jvm.MethodName) ({ cls := "FarStore", name := "add", desc := "(IIII)I" } : Jvm.MethodName)) ∈ TT := mT2 (List.mem_of_getElem? (i := 108) (by decide +kernel)) rfl
theorem tw_2_109 : (Jvm.Cond.code ({ cls := "FarStore", name := "add", desc := "(IIII)I" } : Jvm.MethodName) prog_1_method_8_code (7 : Nat) (Option.some Jvm.ClassFile.FieldType.int)) ∈ TT := mT2 (List.mem_of_getElem? (i := 109) (by decide +kernel)) rfl
theorem tw_2_110 : (Jvm.Cond.methodLinkNest "FarStore" (123 : Nat) ({ cls := "FarStore$Transaction", name := "addTo", desc := "(II)V" } : Jvm.MethodName) "FarStore") ∈ TT := mT2 (List.mem_of_getElem? (i := 110) (by decide +kernel)) rfl
theorem tw_2_112 : (Jvm.Cond.instanceMethod ({ cls := "FarStore$Transaction", name := "addTo", desc := "(II)V" } : Jvm.MethodName)) ∈ TT := mT2 (List.mem_of_getElem? (i := 112) (by decide +kernel)) rfl
theorem tw_2_113 : (Jvm.Cond.code ({ cls := "FarStore$Transaction", name := "addTo", desc := "(II)V" } : Jvm.MethodName) prog_5_method_3_code (3 : Nat) (Option.none : Option Jvm.ClassFile.FieldType)) ∈ TT := mT2 (List.mem_of_getElem? (i := 113) (by decide +kernel)) rfl
theorem tw_2_114 : (Jvm.Cond.methodLink "FarStoreLaw" (50 : Nat) ({ cls := "FarStore", name := "commit", desc := "(I)I" } : Jvm.MethodName)) ∈ TT := mT2 (List.mem_of_getElem? (i := 114) (by decide +kernel)) rfl
theorem tw_2_115 : (Jvm.Cond.instanceMethod ({ cls := "FarStore", name := "commit", desc := "(I)I" } : Jvm.MethodName)) ∈ TT := mT2 (List.mem_of_getElem? (i := 115) (by decide +kernel)) rfl
theorem tw_2_116 : (Jvm.Cond.selects "FarStore" ({ cls := "FarStore", name := "commit", desc := "(I)I" } : Jvm.MethodName) ({ cls := "FarStore", name := "commit", desc := "(I)I" } : Jvm.MethodName)) ∈ TT := mT2 (List.mem_of_getElem? (i := 116) (by decide +kernel)) rfl
theorem tw_2_117 : (Jvm.Cond.code ({ cls := "FarStore", name := "commit", desc := "(I)I" } : Jvm.MethodName) prog_1_method_9_code (3 : Nat) (Option.some Jvm.ClassFile.FieldType.int)) ∈ TT := mT2 (List.mem_of_getElem? (i := 117) (by decide +kernel)) rfl
theorem tw_2_118 : (Jvm.Cond.methodLink "FarStore" (127 : Nat) ({ cls := "FarStore", name := "allFree", desc := "(LFarStore$Transaction;LFarStore$Site;)Z" } : Jvm.MethodName)) ∈ TT := mT2 (List.mem_of_getElem? (i := 118) (by decide +kernel)) rfl
theorem tw_2_120 : (Jvm.Cond.instanceMethod ({ cls := "FarStore", name := "allFree", desc := "(LFarStore$Transaction;LFarStore$Site;)Z" } : Jvm.MethodName)) ∈ TT := mT2 (List.mem_of_getElem? (i := 120) (by decide +kernel)) rfl
theorem tw_2_121 : (Jvm.Cond.code ({ cls := "FarStore", name := "allFree", desc := "(LFarStore$Transaction;LFarStore$Site;)Z" } : Jvm.MethodName) prog_1_method_34_code (5 : Nat) (Option.some Jvm.ClassFile.FieldType.boolean)) ∈ TT := mT2 (List.mem_of_getElem? (i := 121) (by decide +kernel)) rfl
theorem tw_2_122 : (Jvm.Cond.methodLink "FarStore" (242 : Nat) ({ cls := "FarStore", name := "isPlainOf", desc := "(LFarStore$Transaction;LFarStore$Thing;LFarStore$Site;)Z" } : Jvm.MethodName)) ∈ TT := mT2 (List.mem_of_getElem? (i := 122) (by decide +kernel)) rfl
theorem tw_2_123 : (Jvm.Cond.static ({ cls := "FarStore", name := "isPlainOf", desc := "(LFarStore$Transaction;LFarStore$Thing;LFarStore$Site;)Z" } : Jvm.MethodName)) ∈ TT := mT2 (List.mem_of_getElem? (i := 123) (by decide +kernel)) rfl
theorem tw_2_124 : (Jvm.Cond.code ({ cls := "FarStore", name := "isPlainOf", desc := "(LFarStore$Transaction;LFarStore$Thing;LFarStore$Site;)Z" } : Jvm.MethodName) prog_1_method_31_code (3 : Nat) (Option.some Jvm.ClassFile.FieldType.boolean)) ∈ TT := mT2 (List.mem_of_getElem? (i := 124) (by decide +kernel)) rfl
theorem tw_2_125 : (Jvm.Cond.methodLinkNest "FarStore" (249 : Nat) ({ cls := "FarStore$Site", name := "isFree", desc := "(LFarStore$Thing;LFarStore$Transaction;)Z" } : Jvm.MethodName) "FarStore") ∈ TT := mT2 (List.mem_of_getElem? (i := 125) (by decide +kernel)) rfl
theorem tw_2_127 : (Jvm.Cond.instanceMethod ({ cls := "FarStore$Site", name := "isFree", desc := "(LFarStore$Thing;LFarStore$Transaction;)Z" } : Jvm.MethodName)) ∈ TT := mT2 (List.mem_of_getElem? (i := 127) (by decide +kernel)) rfl
theorem tw_2_128 : (Jvm.Cond.code ({ cls := "FarStore$Site", name := "isFree", desc := "(LFarStore$Thing;LFarStore$Transaction;)Z" } : Jvm.MethodName) prog_3_method_2_code (5 : Nat) (Option.some Jvm.ClassFile.FieldType.boolean)) ∈ TT := mT2 (List.mem_of_getElem? (i := 128) (by decide +kernel)) rfl
theorem tw_2_129 : (Jvm.Cond.methodLink "FarStore" (131 : Nat) ({ cls := "FarStore", name := "hasHomesElsewhere", desc := "(LFarStore$Transaction;)Z" } : Jvm.MethodName)) ∈ TT := mT2 (List.mem_of_getElem? (i := 129) (by decide +kernel)) rfl
theorem tw_2_131 : (Jvm.Cond.instanceMethod ({ cls := "FarStore", name := "hasHomesElsewhere", desc := "(LFarStore$Transaction;)Z" } : Jvm.MethodName)) ∈ TT := mT2 (List.mem_of_getElem? (i := 131) (by decide +kernel)) rfl
theorem tw_2_132 : (Jvm.Cond.code ({ cls := "FarStore", name := "hasHomesElsewhere", desc := "(LFarStore$Transaction;)Z" } : Jvm.MethodName) prog_1_method_33_code (3 : Nat) (Option.some Jvm.ClassFile.FieldType.boolean)) ∈ TT := mT2 (List.mem_of_getElem? (i := 132) (by decide +kernel)) rfl
theorem tw_2_133 : (Jvm.Cond.methodLink "FarStore" (246 : Nat) ({ cls := "FarStore", name := "hasHome", desc := "(LFarStore$Transaction;LFarStore$Site;)Z" } : Jvm.MethodName)) ∈ TT := mT2 (List.mem_of_getElem? (i := 133) (by decide +kernel)) rfl
theorem tw_2_135 : (Jvm.Cond.instanceMethod ({ cls := "FarStore", name := "hasHome", desc := "(LFarStore$Transaction;LFarStore$Site;)Z" } : Jvm.MethodName)) ∈ TT := mT2 (List.mem_of_getElem? (i := 135) (by decide +kernel)) rfl
theorem tw_2_136 : (Jvm.Cond.code ({ cls := "FarStore", name := "hasHome", desc := "(LFarStore$Transaction;LFarStore$Site;)Z" } : Jvm.MethodName) prog_1_method_32_code (4 : Nat) (Option.some Jvm.ClassFile.FieldType.boolean)) ∈ TT := mT2 (List.mem_of_getElem? (i := 136) (by decide +kernel)) rfl
theorem tw_2_137 : (Jvm.Cond.methodLink "FarStore" (135 : Nat) ({ cls := "FarStore", name := "lockThings", desc := "(LFarStore$Transaction;LFarStore$Site;)V" } : Jvm.MethodName)) ∈ TT := mT2 (List.mem_of_getElem? (i := 137) (by decide +kernel)) rfl
theorem tw_2_139 : (Jvm.Cond.instanceMethod ({ cls := "FarStore", name := "lockThings", desc := "(LFarStore$Transaction;LFarStore$Site;)V" } : Jvm.MethodName)) ∈ TT := mT2 (List.mem_of_getElem? (i := 139) (by decide +kernel)) rfl
theorem tw_2_140 : (Jvm.Cond.code ({ cls := "FarStore", name := "lockThings", desc := "(LFarStore$Transaction;LFarStore$Site;)V" } : Jvm.MethodName) prog_1_method_35_code (5 : Nat) (Option.none : Option Jvm.ClassFile.FieldType)) ∈ TT := mT2 (List.mem_of_getElem? (i := 140) (by decide +kernel)) rfl
theorem tw_2_141 : (Jvm.Cond.methodLink "FarStore" (139 : Nat) ({ cls := "FarStore", name := "tellHomes", desc := "(LFarStore$Transaction;I)I" } : Jvm.MethodName)) ∈ TT := mT2 (List.mem_of_getElem? (i := 141) (by decide +kernel)) rfl
theorem tw_2_143 : (Jvm.Cond.instanceMethod ({ cls := "FarStore", name := "tellHomes", desc := "(LFarStore$Transaction;I)I" } : Jvm.MethodName)) ∈ TT := mT2 (List.mem_of_getElem? (i := 143) (by decide +kernel)) rfl
theorem tw_2_144 : (Jvm.Cond.code ({ cls := "FarStore", name := "tellHomes", desc := "(LFarStore$Transaction;I)I" } : Jvm.MethodName) prog_1_method_36_code (5 : Nat) (Option.some Jvm.ClassFile.FieldType.int)) ∈ TT := mT2 (List.mem_of_getElem? (i := 144) (by decide +kernel)) rfl
theorem tw_2_145 : (Jvm.Cond.methodLink "FarStore" (253 : Nat) ({ cls := "FarStore", name := "post", desc := "(ILFarStore$Site;LFarStore$Site;LFarStore$Transaction;)V" } : Jvm.MethodName)) ∈ TT := mT2 (List.mem_of_getElem? (i := 145) (by decide +kernel)) rfl
theorem tw_2_147 : (Jvm.Cond.instanceMethod ({ cls := "FarStore", name := "post", desc := "(ILFarStore$Site;LFarStore$Site;LFarStore$Transaction;)V" } : Jvm.MethodName)) ∈ TT := mT2 (List.mem_of_getElem? (i := 147) (by decide +kernel)) rfl
theorem tw_2_148 : (Jvm.Cond.code ({ cls := "FarStore", name := "post", desc := "(ILFarStore$Site;LFarStore$Site;LFarStore$Transaction;)V" } : Jvm.MethodName) prog_1_method_38_code (5 : Nat) (Option.none : Option Jvm.ClassFile.FieldType)) ∈ TT := mT2 (List.mem_of_getElem? (i := 148) (by decide +kernel)) rfl
theorem tw_2_149 : (Jvm.Cond.classLink "FarStore" (155 : Nat) "FarStore$Message") ∈ TT := mT2 (List.mem_of_getElem? (i := 149) (by decide +kernel)) rfl
theorem tw_2_150 : (Jvm.Cond.instantiable "FarStore$Message" (4 : Nat)) ∈ TT := mT2 (List.mem_of_getElem? (i := 150) (by decide +kernel)) rfl
theorem tw_2_151 : (Jvm.Cond.methodLinkNest "FarStore" (257 : Nat) ({ cls := "FarStore$Message", name := "<init>", desc := "(ILFarStore$Site;LFarStore$Site;LFarStore$Transaction;)V" } : Jvm.MethodName) "FarStore") ∈ TT := mT2 (List.mem_of_getElem? (i := 151) (by decide +kernel)) rfl
theorem tw_2_152 : (Jvm.Cond.instanceMethod ({ cls := "FarStore$Message", name := "<init>", desc := "(ILFarStore$Site;LFarStore$Site;LFarStore$Transaction;)V" } : Jvm.MethodName)) ∈ TT := mT2 (List.mem_of_getElem? (i := 152) (by decide +kernel)) rfl
theorem tw_2_153 : (Jvm.Cond.code ({ cls := "FarStore$Message", name := "<init>", desc := "(ILFarStore$Site;LFarStore$Site;LFarStore$Transaction;)V" } : Jvm.MethodName) prog_2_method_1_code (5 : Nat) (Option.none : Option Jvm.ClassFile.FieldType)) ∈ TT := mT2 (List.mem_of_getElem? (i := 153) (by decide +kernel)) rfl
theorem tw_2_154 : (Jvm.Cond.methodLink "FarStore$Message" (3 : Nat) ({ cls := "java/lang/Object", name := "<init>", desc := "()V" } : Jvm.MethodName)) ∈ TT := mT2 (List.mem_of_getElem? (i := 154) (by decide +kernel)) rfl
theorem tw_2_155 : (Jvm.Cond.fieldLink "FarStore$Message" (9 : Nat) "FarStore$Message" "what" "I") ∈ TT := mT2 (List.mem_of_getElem? (i := 155) (by decide +kernel)) rfl
theorem tw_2_156 : (Jvm.Cond.fieldLinkNest "FarStore" (167 : Nat) "FarStore$Message" "what" "I" "FarStore") ∈ TT := mT2 (List.mem_of_getElem? (i := 156) (by decide +kernel)) rfl
theorem tw_2_157 : (Jvm.Cond.fieldLink "FarStore$Message" (15 : Nat) "FarStore$Message" "from" "LFarStore$Site;") ∈ TT := mT2 (List.mem_of_getElem? (i := 157) (by decide +kernel)) rfl
theorem tw_2_158 : (Jvm.Cond.fieldLinkNest "FarStore" (177 : Nat) "FarStore$Message" "from" "LFarStore$Site;" "FarStore") ∈ TT := mT2 (List.mem_of_getElem? (i := 158) (by decide +kernel)) rfl
theorem tw_2_159 : (Jvm.Cond.fieldLink "FarStore$Message" (19 : Nat) "FarStore$Message" "to" "LFarStore$Site;") ∈ TT := mT2 (List.mem_of_getElem? (i := 159) (by decide +kernel)) rfl
theorem tw_2_160 : (Jvm.Cond.fieldLinkNest "FarStore" (173 : Nat) "FarStore$Message" "to" "LFarStore$Site;" "FarStore") ∈ TT := mT2 (List.mem_of_getElem? (i := 160) (by decide +kernel)) rfl
theorem tw_2_161 : (Jvm.Cond.fieldLink "FarStore$Message" (22 : Nat) "FarStore$Message" "about" "LFarStore$Transaction;") ∈ TT := mT2 (List.mem_of_getElem? (i := 161) (by decide +kernel)) rfl
theorem tw_2_162 : (Jvm.Cond.fieldLinkNest "FarStore" (180 : Nat) "FarStore$Message" "about" "LFarStore$Transaction;" "FarStore") ∈ TT := mT2 (List.mem_of_getElem? (i := 162) (by decide +kernel)) rfl
theorem tw_2_163 : (Jvm.Cond.laysFinal "FarStore$Message" "FarStore$Message" "what" "I") ∈ TT := mT2 (List.mem_of_getElem? (i := 163) (by decide +kernel)) rfl
theorem tw_2_165 : (Jvm.Cond.laysFinal "FarStore$Message" "FarStore$Message" "from" "LFarStore$Site;") ∈ TT := mT2 (List.mem_of_getElem? (i := 165) (by decide +kernel)) rfl
theorem tw_2_167 : (Jvm.Cond.laysFinal "FarStore$Message" "FarStore$Message" "to" "LFarStore$Site;") ∈ TT := mT2 (List.mem_of_getElem? (i := 167) (by decide +kernel)) rfl
theorem tw_2_169 : (Jvm.Cond.laysFinal "FarStore$Message" "FarStore$Message" "about" "LFarStore$Transaction;") ∈ TT := mT2 (List.mem_of_getElem? (i := 169) (by decide +kernel)) rfl
theorem tw_2_172 : (Jvm.Cond.methodLink "FarStore" (146 : Nat) ({ cls := "FarStore", name := "makeCommitted", desc := "(LFarStore$Transaction;)V" } : Jvm.MethodName)) ∈ TT := mT2 (List.mem_of_getElem? (i := 172) (by decide +kernel)) rfl
theorem tw_2_174 : (Jvm.Cond.instanceMethod ({ cls := "FarStore", name := "makeCommitted", desc := "(LFarStore$Transaction;)V" } : Jvm.MethodName)) ∈ TT := mT2 (List.mem_of_getElem? (i := 174) (by decide +kernel)) rfl
theorem tw_2_175 : (Jvm.Cond.code ({ cls := "FarStore", name := "makeCommitted", desc := "(LFarStore$Transaction;)V" } : Jvm.MethodName) prog_1_method_39_code (2 : Nat) (Option.none : Option Jvm.ClassFile.FieldType)) ∈ TT := mT2 (List.mem_of_getElem? (i := 175) (by decide +kernel)) rfl
theorem tw_2_176 : (Jvm.Cond.methodLinkNest "FarStore" (259 : Nat) ({ cls := "FarStore$Transaction", name := "wroteAnything", desc := "()Z" } : Jvm.MethodName) "FarStore") ∈ TT := mT2 (List.mem_of_getElem? (i := 176) (by decide +kernel)) rfl
theorem tw_2_178 : (Jvm.Cond.instanceMethod ({ cls := "FarStore$Transaction", name := "wroteAnything", desc := "()Z" } : Jvm.MethodName)) ∈ TT := mT2 (List.mem_of_getElem? (i := 178) (by decide +kernel)) rfl
theorem tw_2_179 : (Jvm.Cond.code ({ cls := "FarStore$Transaction", name := "wroteAnything", desc := "()Z" } : Jvm.MethodName) prog_5_method_4_code (1 : Nat) (Option.some Jvm.ClassFile.FieldType.boolean)) ∈ TT := mT2 (List.mem_of_getElem? (i := 179) (by decide +kernel)) rfl
theorem tw_2_180 : (Jvm.Cond.methodLinkNest "FarStore" (262 : Nat) ({ cls := "FarStore$Site", name := "take", desc := "(LFarStore$Transaction;)V" } : Jvm.MethodName) "FarStore") ∈ TT := mT2 (List.mem_of_getElem? (i := 180) (by decide +kernel)) rfl
theorem tw_2_182 : (Jvm.Cond.instanceMethod ({ cls := "FarStore$Site", name := "take", desc := "(LFarStore$Transaction;)V" } : Jvm.MethodName)) ∈ TT := mT2 (List.mem_of_getElem? (i := 182) (by decide +kernel)) rfl
theorem tw_2_183 : (Jvm.Cond.code ({ cls := "FarStore$Site", name := "take", desc := "(LFarStore$Transaction;)V" } : Jvm.MethodName) prog_3_method_6_code (2 : Nat) (Option.none : Option Jvm.ClassFile.FieldType)) ∈ TT := mT2 (List.mem_of_getElem? (i := 183) (by decide +kernel)) rfl
theorem tw_2_184 : (Jvm.Cond.methodLink "FarStore$Site" (73 : Nat) ({ cls := "java/util/ArrayList", name := "add", desc := "(Ljava/lang/Object;)Z" } : Jvm.MethodName)) ∈ TT := mT2 (List.mem_of_getElem? (i := 184) (by decide +kernel)) rfl
theorem tw_2_185 : (Jvm.Cond.methodLink "FarStore$Site" (77 : Nat) ({ cls := "FarStore$Site", name := "unlock", desc := "(LFarStore$Transaction;)V" } : Jvm.MethodName)) ∈ TT := mT2 (List.mem_of_getElem? (i := 185) (by decide +kernel)) rfl
theorem tw_2_187 : (Jvm.Cond.instanceMethod ({ cls := "FarStore$Site", name := "unlock", desc := "(LFarStore$Transaction;)V" } : Jvm.MethodName)) ∈ TT := mT2 (List.mem_of_getElem? (i := 187) (by decide +kernel)) rfl
theorem tw_2_188 : (Jvm.Cond.code ({ cls := "FarStore$Site", name := "unlock", desc := "(LFarStore$Transaction;)V" } : Jvm.MethodName) prog_3_method_7_code (3 : Nat) (Option.none : Option Jvm.ClassFile.FieldType)) ∈ TT := mT2 (List.mem_of_getElem? (i := 188) (by decide +kernel)) rfl
theorem tw_2_189 : (Jvm.Cond.methodLink "FarStore" (265 : Nat) ({ cls := "FarStore", name := "tellOthers", desc := "(LFarStore$Transaction;I)V" } : Jvm.MethodName)) ∈ TT := mT2 (List.mem_of_getElem? (i := 189) (by decide +kernel)) rfl
theorem tw_2_191 : (Jvm.Cond.instanceMethod ({ cls := "FarStore", name := "tellOthers", desc := "(LFarStore$Transaction;I)V" } : Jvm.MethodName)) ∈ TT := mT2 (List.mem_of_getElem? (i := 191) (by decide +kernel)) rfl
theorem tw_2_192 : (Jvm.Cond.code ({ cls := "FarStore", name := "tellOthers", desc := "(LFarStore$Transaction;I)V" } : Jvm.MethodName) prog_1_method_37_code (4 : Nat) (Option.none : Option Jvm.ClassFile.FieldType)) ∈ TT := mT2 (List.mem_of_getElem? (i := 192) (by decide +kernel)) rfl
theorem tw_2_193 : (Jvm.Cond.methodLink "FarStoreLaw" (54 : Nat) ({ cls := "FarStore", name := "abort", desc := "(I)I" } : Jvm.MethodName)) ∈ TT := mT2 (List.mem_of_getElem? (i := 193) (by decide +kernel)) rfl
theorem tw_2_194 : (Jvm.Cond.instanceMethod ({ cls := "FarStore", name := "abort", desc := "(I)I" } : Jvm.MethodName)) ∈ TT := mT2 (List.mem_of_getElem? (i := 194) (by decide +kernel)) rfl
theorem tw_2_195 : (Jvm.Cond.selects "FarStore" ({ cls := "FarStore", name := "abort", desc := "(I)I" } : Jvm.MethodName) ({ cls := "FarStore", name := "abort", desc := "(I)I" } : Jvm.MethodName)) ∈ TT := mT2 (List.mem_of_getElem? (i := 195) (by decide +kernel)) rfl
theorem tw_2_196 : (Jvm.Cond.code ({ cls := "FarStore", name := "abort", desc := "(I)I" } : Jvm.MethodName) prog_1_method_10_code (3 : Nat) (Option.some Jvm.ClassFile.FieldType.int)) ∈ TT := mT2 (List.mem_of_getElem? (i := 196) (by decide +kernel)) rfl
theorem tw_2_197 : (Jvm.Cond.methodLink "FarStoreLaw" (58 : Nat) ({ cls := "FarStore", name := "deliver", desc := "(I)I" } : Jvm.MethodName)) ∈ TT := mT2 (List.mem_of_getElem? (i := 197) (by decide +kernel)) rfl
theorem tw_2_198 : (Jvm.Cond.instanceMethod ({ cls := "FarStore", name := "deliver", desc := "(I)I" } : Jvm.MethodName)) ∈ TT := mT2 (List.mem_of_getElem? (i := 198) (by decide +kernel)) rfl
theorem tw_2_199 : (Jvm.Cond.selects "FarStore" ({ cls := "FarStore", name := "deliver", desc := "(I)I" } : Jvm.MethodName) ({ cls := "FarStore", name := "deliver", desc := "(I)I" } : Jvm.MethodName)) ∈ TT := mT2 (List.mem_of_getElem? (i := 199) (by decide +kernel)) rfl
theorem tw_2_200 : (Jvm.Cond.code ({ cls := "FarStore", name := "deliver", desc := "(I)I" } : Jvm.MethodName) prog_1_method_11_code (3 : Nat) (Option.some Jvm.ClassFile.FieldType.int)) ∈ TT := mT2 (List.mem_of_getElem? (i := 200) (by decide +kernel)) rfl
theorem tw_2_201 : (Jvm.Cond.methodLink "FarStore" (150 : Nat) ({ cls := "FarStore", name := "findMessage", desc := "(I)LFarStore$Message;" } : Jvm.MethodName)) ∈ TT := mT2 (List.mem_of_getElem? (i := 201) (by decide +kernel)) rfl
theorem tw_2_203 : (Jvm.Cond.instanceMethod ({ cls := "FarStore", name := "findMessage", desc := "(I)LFarStore$Message;" } : Jvm.MethodName)) ∈ TT := mT2 (List.mem_of_getElem? (i := 203) (by decide +kernel)) rfl
theorem tw_2_204 : (Jvm.Cond.code ({ cls := "FarStore", name := "findMessage", desc := "(I)LFarStore$Message;" } : Jvm.MethodName) prog_1_method_28_code (2 : Nat) (Option.some (Jvm.ClassFile.FieldType.object "FarStore$Message"))) ∈ TT := mT2 (List.mem_of_getElem? (i := 204) (by decide +kernel)) rfl
theorem tw_2_205 : (Jvm.Cond.methodLinkNest "FarStore" (154 : Nat) ({ cls := "FarStore$Message", name := "canCome", desc := "()Z" } : Jvm.MethodName) "FarStore") ∈ TT := mT2 (List.mem_of_getElem? (i := 205) (by decide +kernel)) rfl
theorem tw_2_207 : (Jvm.Cond.instanceMethod ({ cls := "FarStore$Message", name := "canCome", desc := "()Z" } : Jvm.MethodName)) ∈ TT := mT2 (List.mem_of_getElem? (i := 207) (by decide +kernel)) rfl
theorem tw_2_208 : (Jvm.Cond.code ({ cls := "FarStore$Message", name := "canCome", desc := "()Z" } : Jvm.MethodName) prog_2_method_2_code (1 : Nat) (Option.some Jvm.ClassFile.FieldType.boolean)) ∈ TT := mT2 (List.mem_of_getElem? (i := 208) (by decide +kernel)) rfl
theorem tw_2_209 : (Jvm.Cond.methodLinkNest "FarStore$Message" (26 : Nat) ({ cls := "FarStore$Site", name := "canTake", desc := "(LFarStore$Transaction;)Z" } : Jvm.MethodName) "FarStore") ∈ TT := mT2 (List.mem_of_getElem? (i := 209) (by decide +kernel)) rfl
theorem tw_2_211 : (Jvm.Cond.instanceMethod ({ cls := "FarStore$Site", name := "canTake", desc := "(LFarStore$Transaction;)Z" } : Jvm.MethodName)) ∈ TT := mT2 (List.mem_of_getElem? (i := 211) (by decide +kernel)) rfl
theorem tw_2_212 : (Jvm.Cond.code ({ cls := "FarStore$Site", name := "canTake", desc := "(LFarStore$Transaction;)Z" } : Jvm.MethodName) prog_3_method_5_code (3 : Nat) (Option.some Jvm.ClassFile.FieldType.boolean)) ∈ TT := mT2 (List.mem_of_getElem? (i := 212) (by decide +kernel)) rfl
theorem tw_2_213 : (Jvm.Cond.methodLink "FarStore" (159 : Nat) ({ cls := "java/util/ArrayList", name := "remove", desc := "(I)Ljava/lang/Object;" } : Jvm.MethodName)) ∈ TT := mT2 (List.mem_of_getElem? (i := 213) (by decide +kernel)) rfl
theorem tw_2_214 : (Jvm.Cond.instanceMethod ({ cls := "java/util/ArrayList", name := "remove", desc := "(I)Ljava/lang/Object;" } : Jvm.MethodName)) ∈ TT := mT2 (List.mem_of_getElem? (i := 214) (by decide +kernel)) rfl
theorem tw_2_215 : (Jvm.Cond.selects "java/util/ArrayList" ({ cls := "java/util/ArrayList", name := "remove", desc := "(I)Ljava/lang/Object;" } : Jvm.MethodName) ({ cls := "java/util/ArrayList", name := "remove", desc := "(I)Ljava/lang/Object;" } : Jvm.MethodName)) ∈ TT := mT2 (List.mem_of_getElem? (i := 215) (by decide +kernel)) rfl
theorem tw_2_216 : (Jvm.Cond.code ({ cls := "java/util/ArrayList", name := "remove", desc := "(I)Ljava/lang/Object;" } : Jvm.MethodName) prog_15_method_29_code (4 : Nat) (Option.some (Jvm.ClassFile.FieldType.object "java/lang/Object"))) ∈ TT := mT2 (List.mem_of_getElem? (i := 216) (by decide +kernel)) rfl
theorem tw_2_217 : (Jvm.Cond.methodLink "java/util/ArrayList" (144 : Nat) ({ cls := "java/util/ArrayList", name := "fastRemove", desc := "([Ljava/lang/Object;I)V" } : Jvm.MethodName)) ∈ TT := mT2 (List.mem_of_getElem? (i := 217) (by decide +kernel)) rfl
theorem tw_2_219 : (Jvm.Cond.instanceMethod ({ cls := "java/util/ArrayList", name := "fastRemove", desc := "([Ljava/lang/Object;I)V" } : Jvm.MethodName)) ∈ TT := mT2 (List.mem_of_getElem? (i := 219) (by decide +kernel)) rfl
theorem tw_2_220 : (Jvm.Cond.code ({ cls := "java/util/ArrayList", name := "fastRemove", desc := "([Ljava/lang/Object;I)V" } : Jvm.MethodName) prog_15_method_39_code (4 : Nat) (Option.none : Option Jvm.ClassFile.FieldType)) ∈ TT := mT2 (List.mem_of_getElem? (i := 220) (by decide +kernel)) rfl
theorem tw_2_221 : (Jvm.Cond.methodLink "java/util/ArrayList" (112 : Nat) ({ cls := "java/lang/System", name := "arraycopy", desc := "(Ljava/lang/Object;ILjava/lang/Object;II)V" } : Jvm.MethodName)) ∈ TT := mT2 (List.mem_of_getElem? (i := 221) (by decide +kernel)) rfl
theorem tw_2_222 : (Jvm.Cond.methodLink "FarStore" (163 : Nat) ({ cls := "FarStore", name := "receive", desc := "(LFarStore$Message;)V" } : Jvm.MethodName)) ∈ TT := mT2 (List.mem_of_getElem? (i := 222) (by decide +kernel)) rfl
theorem tw_2_224 : (Jvm.Cond.instanceMethod ({ cls := "FarStore", name := "receive", desc := "(LFarStore$Message;)V" } : Jvm.MethodName)) ∈ TT := mT2 (List.mem_of_getElem? (i := 224) (by decide +kernel)) rfl
theorem tw_2_225 : (Jvm.Cond.code ({ cls := "FarStore", name := "receive", desc := "(LFarStore$Message;)V" } : Jvm.MethodName) prog_1_method_41_code (2 : Nat) (Option.none : Option Jvm.ClassFile.FieldType)) ∈ TT := mT2 (List.mem_of_getElem? (i := 225) (by decide +kernel)) rfl
theorem tw_2_226 : (Jvm.Cond.methodLink "FarStore" (269 : Nat) ({ cls := "FarStore", name := "receiveAsk", desc := "(LFarStore$Message;)V" } : Jvm.MethodName)) ∈ TT := mT2 (List.mem_of_getElem? (i := 226) (by decide +kernel)) rfl
theorem tw_2_228 : (Jvm.Cond.instanceMethod ({ cls := "FarStore", name := "receiveAsk", desc := "(LFarStore$Message;)V" } : Jvm.MethodName)) ∈ TT := mT2 (List.mem_of_getElem? (i := 228) (by decide +kernel)) rfl
theorem tw_2_229 : (Jvm.Cond.code ({ cls := "FarStore", name := "receiveAsk", desc := "(LFarStore$Message;)V" } : Jvm.MethodName) prog_1_method_42_code (3 : Nat) (Option.none : Option Jvm.ClassFile.FieldType)) ∈ TT := mT2 (List.mem_of_getElem? (i := 229) (by decide +kernel)) rfl
theorem tw_2_230 : (Jvm.Cond.methodLink "FarStore" (272 : Nat) ({ cls := "FarStore", name := "receiveYes", desc := "(LFarStore$Transaction;)V" } : Jvm.MethodName)) ∈ TT := mT2 (List.mem_of_getElem? (i := 230) (by decide +kernel)) rfl
theorem tw_2_232 : (Jvm.Cond.instanceMethod ({ cls := "FarStore", name := "receiveYes", desc := "(LFarStore$Transaction;)V" } : Jvm.MethodName)) ∈ TT := mT2 (List.mem_of_getElem? (i := 232) (by decide +kernel)) rfl
theorem tw_2_233 : (Jvm.Cond.code ({ cls := "FarStore", name := "receiveYes", desc := "(LFarStore$Transaction;)V" } : Jvm.MethodName) prog_1_method_43_code (2 : Nat) (Option.none : Option Jvm.ClassFile.FieldType)) ∈ TT := mT2 (List.mem_of_getElem? (i := 233) (by decide +kernel)) rfl
theorem tw_2_234 : (Jvm.Cond.methodLink "FarStore" (275 : Nat) ({ cls := "FarStore", name := "receiveNo", desc := "(LFarStore$Transaction;)V" } : Jvm.MethodName)) ∈ TT := mT2 (List.mem_of_getElem? (i := 234) (by decide +kernel)) rfl
theorem tw_2_236 : (Jvm.Cond.instanceMethod ({ cls := "FarStore", name := "receiveNo", desc := "(LFarStore$Transaction;)V" } : Jvm.MethodName)) ∈ TT := mT2 (List.mem_of_getElem? (i := 236) (by decide +kernel)) rfl
theorem tw_2_237 : (Jvm.Cond.code ({ cls := "FarStore", name := "receiveNo", desc := "(LFarStore$Transaction;)V" } : Jvm.MethodName) prog_1_method_44_code (2 : Nat) (Option.none : Option Jvm.ClassFile.FieldType)) ∈ TT := mT2 (List.mem_of_getElem? (i := 237) (by decide +kernel)) rfl
theorem tw_2_238 : (Jvm.Cond.methodLinkNest "FarStore" (287 : Nat) ({ cls := "FarStore$Site", name := "unlock", desc := "(LFarStore$Transaction;)V" } : Jvm.MethodName) "FarStore") ∈ TT := mT2 (List.mem_of_getElem? (i := 238) (by decide +kernel)) rfl
theorem tw_2_239 : (Jvm.Cond.methodLink "FarStore" (278 : Nat) ({ cls := "FarStore", name := "receiveDrop", desc := "(LFarStore$Message;)V" } : Jvm.MethodName)) ∈ TT := mT2 (List.mem_of_getElem? (i := 239) (by decide +kernel)) rfl
theorem tw_3_1 : (Jvm.Cond.instanceMethod ({ cls := "FarStore", name := "receiveDrop", desc := "(LFarStore$Message;)V" } : Jvm.MethodName)) ∈ TT := mT3 (List.mem_of_getElem? (i := 1) (by decide +kernel)) rfl
theorem tw_3_2 : (Jvm.Cond.code ({ cls := "FarStore", name := "receiveDrop", desc := "(LFarStore$Message;)V" } : Jvm.MethodName) prog_1_method_45_code (2 : Nat) (Option.none : Option Jvm.ClassFile.FieldType)) ∈ TT := mT3 (List.mem_of_getElem? (i := 2) (by decide +kernel)) rfl
theorem tw_3_3 : (Jvm.Cond.methodLink "FarStore" (281 : Nat) ({ cls := "FarStore", name := "receiveSend", desc := "(LFarStore$Message;)V" } : Jvm.MethodName)) ∈ TT := mT3 (List.mem_of_getElem? (i := 3) (by decide +kernel)) rfl
theorem tw_3_5 : (Jvm.Cond.instanceMethod ({ cls := "FarStore", name := "receiveSend", desc := "(LFarStore$Message;)V" } : Jvm.MethodName)) ∈ TT := mT3 (List.mem_of_getElem? (i := 5) (by decide +kernel)) rfl
theorem tw_3_6 : (Jvm.Cond.code ({ cls := "FarStore", name := "receiveSend", desc := "(LFarStore$Message;)V" } : Jvm.MethodName) prog_1_method_46_code (2 : Nat) (Option.none : Option Jvm.ClassFile.FieldType)) ∈ TT := mT3 (List.mem_of_getElem? (i := 6) (by decide +kernel)) rfl
theorem tw_3_7 : (Jvm.Cond.methodLink "FarStoreLaw" (62 : Nat) ({ cls := "FarStore", name := "all", desc := "(I)I" } : Jvm.MethodName)) ∈ TT := mT3 (List.mem_of_getElem? (i := 7) (by decide +kernel)) rfl
theorem tw_3_8 : (Jvm.Cond.instanceMethod ({ cls := "FarStore", name := "all", desc := "(I)I" } : Jvm.MethodName)) ∈ TT := mT3 (List.mem_of_getElem? (i := 8) (by decide +kernel)) rfl
theorem tw_3_9 : (Jvm.Cond.selects "FarStore" ({ cls := "FarStore", name := "all", desc := "(I)I" } : Jvm.MethodName) ({ cls := "FarStore", name := "all", desc := "(I)I" } : Jvm.MethodName)) ∈ TT := mT3 (List.mem_of_getElem? (i := 9) (by decide +kernel)) rfl
theorem tw_3_10 : (Jvm.Cond.code ({ cls := "FarStore", name := "all", desc := "(I)I" } : Jvm.MethodName) prog_1_method_12_code (5 : Nat) (Option.some Jvm.ClassFile.FieldType.int)) ∈ TT := mT3 (List.mem_of_getElem? (i := 10) (by decide +kernel)) rfl
theorem tw_3_11 : (Jvm.Cond.methodLink "FarStore" (170 : Nat) ({ cls := "FarStore", name := "firstThatCanCome", desc := "()I" } : Jvm.MethodName)) ∈ TT := mT3 (List.mem_of_getElem? (i := 11) (by decide +kernel)) rfl
theorem tw_3_13 : (Jvm.Cond.instanceMethod ({ cls := "FarStore", name := "firstThatCanCome", desc := "()I" } : Jvm.MethodName)) ∈ TT := mT3 (List.mem_of_getElem? (i := 13) (by decide +kernel)) rfl
theorem tw_3_14 : (Jvm.Cond.code ({ cls := "FarStore", name := "firstThatCanCome", desc := "()I" } : Jvm.MethodName) prog_1_method_40_code (2 : Nat) (Option.some Jvm.ClassFile.FieldType.int)) ∈ TT := mT3 (List.mem_of_getElem? (i := 14) (by decide +kernel)) rfl
theorem tw_3_15 : (Jvm.Cond.methodLink "FarStoreLaw" (66 : Nat) ({ cls := "FarStore", name := "message", desc := "(II)I" } : Jvm.MethodName)) ∈ TT := mT3 (List.mem_of_getElem? (i := 15) (by decide +kernel)) rfl
theorem tw_3_16 : (Jvm.Cond.instanceMethod ({ cls := "FarStore", name := "message", desc := "(II)I" } : Jvm.MethodName)) ∈ TT := mT3 (List.mem_of_getElem? (i := 16) (by decide +kernel)) rfl
theorem tw_3_17 : (Jvm.Cond.selects "FarStore" ({ cls := "FarStore", name := "message", desc := "(II)I" } : Jvm.MethodName) ({ cls := "FarStore", name := "message", desc := "(II)I" } : Jvm.MethodName)) ∈ TT := mT3 (List.mem_of_getElem? (i := 17) (by decide +kernel)) rfl
theorem tw_3_18 : (Jvm.Cond.code ({ cls := "FarStore", name := "message", desc := "(II)I" } : Jvm.MethodName) prog_1_method_13_code (4 : Nat) (Option.some Jvm.ClassFile.FieldType.int)) ∈ TT := mT3 (List.mem_of_getElem? (i := 18) (by decide +kernel)) rfl
theorem tw_3_19 : (Jvm.Cond.methodLink "FarStore" (185 : Nat) ({ cls := "FarStore", name := "oneIf", desc := "(Z)I" } : Jvm.MethodName)) ∈ TT := mT3 (List.mem_of_getElem? (i := 19) (by decide +kernel)) rfl
theorem tw_3_20 : (Jvm.Cond.static ({ cls := "FarStore", name := "oneIf", desc := "(Z)I" } : Jvm.MethodName)) ∈ TT := mT3 (List.mem_of_getElem? (i := 20) (by decide +kernel)) rfl
theorem tw_3_21 : (Jvm.Cond.code ({ cls := "FarStore", name := "oneIf", desc := "(Z)I" } : Jvm.MethodName) prog_1_method_30_code (1 : Nat) (Option.some Jvm.ClassFile.FieldType.int)) ∈ TT := mT3 (List.mem_of_getElem? (i := 21) (by decide +kernel)) rfl
theorem tw_3_22 : (Jvm.Cond.methodLink "FarStoreLaw" (70 : Nat) ({ cls := "FarStore", name := "told", desc := "(II)I" } : Jvm.MethodName)) ∈ TT := mT3 (List.mem_of_getElem? (i := 22) (by decide +kernel)) rfl
theorem tw_3_23 : (Jvm.Cond.instanceMethod ({ cls := "FarStore", name := "told", desc := "(II)I" } : Jvm.MethodName)) ∈ TT := mT3 (List.mem_of_getElem? (i := 23) (by decide +kernel)) rfl
theorem tw_3_24 : (Jvm.Cond.selects "FarStore" ({ cls := "FarStore", name := "told", desc := "(II)I" } : Jvm.MethodName) ({ cls := "FarStore", name := "told", desc := "(II)I" } : Jvm.MethodName)) ∈ TT := mT3 (List.mem_of_getElem? (i := 24) (by decide +kernel)) rfl
theorem tw_3_25 : (Jvm.Cond.code ({ cls := "FarStore", name := "told", desc := "(II)I" } : Jvm.MethodName) prog_1_method_14_code (4 : Nat) (Option.some Jvm.ClassFile.FieldType.int)) ∈ TT := mT3 (List.mem_of_getElem? (i := 25) (by decide +kernel)) rfl
theorem tw_3_26 : (Jvm.Cond.methodLink "FarStore" (195 : Nat) ({ cls := "FarStore", name := "isSafe", desc := "(LFarStore$Transaction;)Z" } : Jvm.MethodName)) ∈ TT := mT3 (List.mem_of_getElem? (i := 26) (by decide +kernel)) rfl
theorem tw_3_28 : (Jvm.Cond.instanceMethod ({ cls := "FarStore", name := "isSafe", desc := "(LFarStore$Transaction;)Z" } : Jvm.MethodName)) ∈ TT := mT3 (List.mem_of_getElem? (i := 28) (by decide +kernel)) rfl
theorem tw_3_29 : (Jvm.Cond.code ({ cls := "FarStore", name := "isSafe", desc := "(LFarStore$Transaction;)Z" } : Jvm.MethodName) prog_1_method_47_code (2 : Nat) (Option.some Jvm.ClassFile.FieldType.boolean)) ∈ TT := mT3 (List.mem_of_getElem? (i := 29) (by decide +kernel)) rfl
theorem tw_3_30 : (Jvm.Cond.methodLinkNest "FarStore" (213 : Nat) ({ cls := "FarStore$Transaction", name := "hasCommit", desc := "()Z" } : Jvm.MethodName) "FarStore") ∈ TT := mT3 (List.mem_of_getElem? (i := 30) (by decide +kernel)) rfl
theorem tw_3_31 : (Jvm.Cond.methodLink "FarStore" (198 : Nat) ({ cls := "FarStore", name := "isEverywhere", desc := "(LFarStore$Transaction;)Z" } : Jvm.MethodName)) ∈ TT := mT3 (List.mem_of_getElem? (i := 31) (by decide +kernel)) rfl
theorem tw_3_33 : (Jvm.Cond.instanceMethod ({ cls := "FarStore", name := "isEverywhere", desc := "(LFarStore$Transaction;)Z" } : Jvm.MethodName)) ∈ TT := mT3 (List.mem_of_getElem? (i := 33) (by decide +kernel)) rfl
theorem tw_3_34 : (Jvm.Cond.code ({ cls := "FarStore", name := "isEverywhere", desc := "(LFarStore$Transaction;)Z" } : Jvm.MethodName) prog_1_method_48_code (2 : Nat) (Option.some Jvm.ClassFile.FieldType.boolean)) ∈ TT := mT3 (List.mem_of_getElem? (i := 34) (by decide +kernel)) rfl
theorem tw_3_35 : (Jvm.Cond.methodLink "FarStoreLaw" (74 : Nat) ({ cls := "FarStore", name := "start", desc := "(II)I" } : Jvm.MethodName)) ∈ TT := mT3 (List.mem_of_getElem? (i := 35) (by decide +kernel)) rfl
theorem tw_3_36 : (Jvm.Cond.instanceMethod ({ cls := "FarStore", name := "start", desc := "(II)I" } : Jvm.MethodName)) ∈ TT := mT3 (List.mem_of_getElem? (i := 36) (by decide +kernel)) rfl
theorem tw_3_37 : (Jvm.Cond.selects "FarStore" ({ cls := "FarStore", name := "start", desc := "(II)I" } : Jvm.MethodName) ({ cls := "FarStore", name := "start", desc := "(II)I" } : Jvm.MethodName)) ∈ TT := mT3 (List.mem_of_getElem? (i := 37) (by decide +kernel)) rfl
theorem tw_3_38 : (Jvm.Cond.code ({ cls := "FarStore", name := "start", desc := "(II)I" } : Jvm.MethodName) prog_1_method_15_code (5 : Nat) (Option.some Jvm.ClassFile.FieldType.int)) ∈ TT := mT3 (List.mem_of_getElem? (i := 38) (by decide +kernel)) rfl
theorem tw_3_39 : (Jvm.Cond.methodLink "FarStoreLaw" (78 : Nat) ({ cls := "FarStore", name := "had", desc := "(II)I" } : Jvm.MethodName)) ∈ TT := mT3 (List.mem_of_getElem? (i := 39) (by decide +kernel)) rfl
theorem tw_3_40 : (Jvm.Cond.instanceMethod ({ cls := "FarStore", name := "had", desc := "(II)I" } : Jvm.MethodName)) ∈ TT := mT3 (List.mem_of_getElem? (i := 40) (by decide +kernel)) rfl
theorem tw_3_41 : (Jvm.Cond.selects "FarStore" ({ cls := "FarStore", name := "had", desc := "(II)I" } : Jvm.MethodName) ({ cls := "FarStore", name := "had", desc := "(II)I" } : Jvm.MethodName)) ∈ TT := mT3 (List.mem_of_getElem? (i := 41) (by decide +kernel)) rfl
theorem tw_3_42 : (Jvm.Cond.code ({ cls := "FarStore", name := "had", desc := "(II)I" } : Jvm.MethodName) prog_1_method_16_code (5 : Nat) (Option.some Jvm.ClassFile.FieldType.int)) ∈ TT := mT3 (List.mem_of_getElem? (i := 42) (by decide +kernel)) rfl
theorem tw_3_43 : (Jvm.Cond.methodLink "FarStoreLaw" (82 : Nat) ({ cls := "FarStore", name := "latest", desc := "(II)J" } : Jvm.MethodName)) ∈ TT := mT3 (List.mem_of_getElem? (i := 43) (by decide +kernel)) rfl
theorem tw_3_44 : (Jvm.Cond.instanceMethod ({ cls := "FarStore", name := "latest", desc := "(II)J" } : Jvm.MethodName)) ∈ TT := mT3 (List.mem_of_getElem? (i := 44) (by decide +kernel)) rfl
theorem tw_3_45 : (Jvm.Cond.selects "FarStore" ({ cls := "FarStore", name := "latest", desc := "(II)J" } : Jvm.MethodName) ({ cls := "FarStore", name := "latest", desc := "(II)J" } : Jvm.MethodName)) ∈ TT := mT3 (List.mem_of_getElem? (i := 45) (by decide +kernel)) rfl
theorem tw_3_46 : (Jvm.Cond.code ({ cls := "FarStore", name := "latest", desc := "(II)J" } : Jvm.MethodName) prog_1_method_17_code (5 : Nat) (Option.some Jvm.ClassFile.FieldType.long)) ∈ TT := mT3 (List.mem_of_getElem? (i := 46) (by decide +kernel)) rfl
theorem tw_3_47 : (Jvm.Cond.methodLink "FarStoreLaw" (86 : Nat) ({ cls := "FarStore", name := "sum", desc := "(III)J" } : Jvm.MethodName)) ∈ TT := mT3 (List.mem_of_getElem? (i := 47) (by decide +kernel)) rfl
theorem tw_3_48 : (Jvm.Cond.instanceMethod ({ cls := "FarStore", name := "sum", desc := "(III)J" } : Jvm.MethodName)) ∈ TT := mT3 (List.mem_of_getElem? (i := 48) (by decide +kernel)) rfl
theorem tw_3_49 : (Jvm.Cond.selects "FarStore" ({ cls := "FarStore", name := "sum", desc := "(III)J" } : Jvm.MethodName) ({ cls := "FarStore", name := "sum", desc := "(III)J" } : Jvm.MethodName)) ∈ TT := mT3 (List.mem_of_getElem? (i := 49) (by decide +kernel)) rfl
theorem tw_3_50 : (Jvm.Cond.code ({ cls := "FarStore", name := "sum", desc := "(III)J" } : Jvm.MethodName) prog_1_method_18_code (6 : Nat) (Option.some Jvm.ClassFile.FieldType.long)) ∈ TT := mT3 (List.mem_of_getElem? (i := 50) (by decide +kernel)) rfl
theorem tw_3_51 : (Jvm.Cond.methodLink "FarStoreLaw" (90 : Nat) ({ cls := "FarStore", name := "locked", desc := "(II)I" } : Jvm.MethodName)) ∈ TT := mT3 (List.mem_of_getElem? (i := 51) (by decide +kernel)) rfl
theorem tw_3_52 : (Jvm.Cond.instanceMethod ({ cls := "FarStore", name := "locked", desc := "(II)I" } : Jvm.MethodName)) ∈ TT := mT3 (List.mem_of_getElem? (i := 52) (by decide +kernel)) rfl
theorem tw_3_53 : (Jvm.Cond.selects "FarStore" ({ cls := "FarStore", name := "locked", desc := "(II)I" } : Jvm.MethodName) ({ cls := "FarStore", name := "locked", desc := "(II)I" } : Jvm.MethodName)) ∈ TT := mT3 (List.mem_of_getElem? (i := 53) (by decide +kernel)) rfl
theorem tw_3_54 : (Jvm.Cond.code ({ cls := "FarStore", name := "locked", desc := "(II)I" } : Jvm.MethodName) prog_1_method_19_code (5 : Nat) (Option.some Jvm.ClassFile.FieldType.int)) ∈ TT := mT3 (List.mem_of_getElem? (i := 54) (by decide +kernel)) rfl
theorem tw_3_55 : (Jvm.Cond.methodLink "FarStoreLaw" (94 : Nat) ({ cls := "FarStore", name := "sees", desc := "(II)I" } : Jvm.MethodName)) ∈ TT := mT3 (List.mem_of_getElem? (i := 55) (by decide +kernel)) rfl
theorem tw_3_56 : (Jvm.Cond.instanceMethod ({ cls := "FarStore", name := "sees", desc := "(II)I" } : Jvm.MethodName)) ∈ TT := mT3 (List.mem_of_getElem? (i := 56) (by decide +kernel)) rfl
theorem tw_3_57 : (Jvm.Cond.selects "FarStore" ({ cls := "FarStore", name := "sees", desc := "(II)I" } : Jvm.MethodName) ({ cls := "FarStore", name := "sees", desc := "(II)I" } : Jvm.MethodName)) ∈ TT := mT3 (List.mem_of_getElem? (i := 57) (by decide +kernel)) rfl
theorem tw_3_58 : (Jvm.Cond.code ({ cls := "FarStore", name := "sees", desc := "(II)I" } : Jvm.MethodName) prog_1_method_20_code (5 : Nat) (Option.some Jvm.ClassFile.FieldType.int)) ∈ TT := mT3 (List.mem_of_getElem? (i := 58) (by decide +kernel)) rfl
theorem tw_3_59 : (Jvm.Cond.methodLinkNest "FarStore" (216 : Nat) ({ cls := "FarStore$Transaction", name := "isWithin", desc := "([I)Z" } : Jvm.MethodName) "FarStore") ∈ TT := mT3 (List.mem_of_getElem? (i := 59) (by decide +kernel)) rfl
theorem tw_3_60 : (Jvm.Cond.methodLink "FarStoreLaw" (98 : Nat) ({ cls := "FarStore", name := "calm", desc := "()I" } : Jvm.MethodName)) ∈ TT := mT3 (List.mem_of_getElem? (i := 60) (by decide +kernel)) rfl
theorem tw_3_61 : (Jvm.Cond.instanceMethod ({ cls := "FarStore", name := "calm", desc := "()I" } : Jvm.MethodName)) ∈ TT := mT3 (List.mem_of_getElem? (i := 61) (by decide +kernel)) rfl
theorem tw_3_62 : (Jvm.Cond.selects "FarStore" ({ cls := "FarStore", name := "calm", desc := "()I" } : Jvm.MethodName) ({ cls := "FarStore", name := "calm", desc := "()I" } : Jvm.MethodName)) ∈ TT := mT3 (List.mem_of_getElem? (i := 62) (by decide +kernel)) rfl
theorem tw_3_63 : (Jvm.Cond.code ({ cls := "FarStore", name := "calm", desc := "()I" } : Jvm.MethodName) prog_1_method_21_code (3 : Nat) (Option.some Jvm.ClassFile.FieldType.int)) ∈ TT := mT3 (List.mem_of_getElem? (i := 63) (by decide +kernel)) rfl
theorem tw_3_64 : (Jvm.Cond.methodLink "FarStoreLaw" (103 : Nat) ({ cls := "FarStore", name := "count", desc := "(I)I" } : Jvm.MethodName)) ∈ TT := mT3 (List.mem_of_getElem? (i := 64) (by decide +kernel)) rfl
theorem tw_3_65 : (Jvm.Cond.instanceMethod ({ cls := "FarStore", name := "count", desc := "(I)I" } : Jvm.MethodName)) ∈ TT := mT3 (List.mem_of_getElem? (i := 65) (by decide +kernel)) rfl
theorem tw_3_66 : (Jvm.Cond.selects "FarStore" ({ cls := "FarStore", name := "count", desc := "(I)I" } : Jvm.MethodName) ({ cls := "FarStore", name := "count", desc := "(I)I" } : Jvm.MethodName)) ∈ TT := mT3 (List.mem_of_getElem? (i := 66) (by decide +kernel)) rfl
theorem tw_3_67 : (Jvm.Cond.code ({ cls := "FarStore", name := "count", desc := "(I)I" } : Jvm.MethodName) prog_1_method_22_code (2 : Nat) (Option.some Jvm.ClassFile.FieldType.int)) ∈ TT := mT3 (List.mem_of_getElem? (i := 67) (by decide +kernel)) rfl
theorem tw_3_68 : (Jvm.Cond.methodLink "FarStore" (220 : Nat) ({ cls := "FarStore", name := "howManyAre", desc := "(I)I" } : Jvm.MethodName)) ∈ TT := mT3 (List.mem_of_getElem? (i := 68) (by decide +kernel)) rfl
theorem tw_3_70 : (Jvm.Cond.instanceMethod ({ cls := "FarStore", name := "howManyAre", desc := "(I)I" } : Jvm.MethodName)) ∈ TT := mT3 (List.mem_of_getElem? (i := 70) (by decide +kernel)) rfl
theorem tw_3_71 : (Jvm.Cond.code ({ cls := "FarStore", name := "howManyAre", desc := "(I)I" } : Jvm.MethodName) prog_1_method_49_code (4 : Nat) (Option.some Jvm.ClassFile.FieldType.int)) ∈ TT := mT3 (List.mem_of_getElem? (i := 71) (by decide +kernel)) rfl
theorem tw_3_72 : (Jvm.Cond.methodLink "FarStore" (223 : Nat) ({ cls := "FarStore", name := "howManyCommits", desc := "()I" } : Jvm.MethodName)) ∈ TT := mT3 (List.mem_of_getElem? (i := 72) (by decide +kernel)) rfl
theorem tw_3_74 : (Jvm.Cond.instanceMethod ({ cls := "FarStore", name := "howManyCommits", desc := "()I" } : Jvm.MethodName)) ∈ TT := mT3 (List.mem_of_getElem? (i := 74) (by decide +kernel)) rfl
theorem tw_3_75 : (Jvm.Cond.code ({ cls := "FarStore", name := "howManyCommits", desc := "()I" } : Jvm.MethodName) prog_1_method_50_code (3 : Nat) (Option.some Jvm.ClassFile.FieldType.int)) ∈ TT := mT3 (List.mem_of_getElem? (i := 75) (by decide +kernel)) rfl
theorem tw_3_76 : (Jvm.Cond.methodLink "FarStore" (226 : Nat) ({ cls := "FarStore", name := "howManyLocks", desc := "()I" } : Jvm.MethodName)) ∈ TT := mT3 (List.mem_of_getElem? (i := 76) (by decide +kernel)) rfl
theorem tw_3_78 : (Jvm.Cond.instanceMethod ({ cls := "FarStore", name := "howManyLocks", desc := "()I" } : Jvm.MethodName)) ∈ TT := mT3 (List.mem_of_getElem? (i := 78) (by decide +kernel)) rfl
theorem tw_3_79 : (Jvm.Cond.code ({ cls := "FarStore", name := "howManyLocks", desc := "()I" } : Jvm.MethodName) prog_1_method_51_code (3 : Nat) (Option.some Jvm.ClassFile.FieldType.int)) ∈ TT := mT3 (List.mem_of_getElem? (i := 79) (by decide +kernel)) rfl
theorem tw_3_80 : (Jvm.Cond.methodLinkNest "FarStore" (290 : Nat) ({ cls := "FarStore$Site", name := "howManyLocked", desc := "()I" } : Jvm.MethodName) "FarStore") ∈ TT := mT3 (List.mem_of_getElem? (i := 80) (by decide +kernel)) rfl
theorem tw_3_82 : (Jvm.Cond.instanceMethod ({ cls := "FarStore$Site", name := "howManyLocked", desc := "()I" } : Jvm.MethodName)) ∈ TT := mT3 (List.mem_of_getElem? (i := 82) (by decide +kernel)) rfl
theorem tw_3_83 : (Jvm.Cond.code ({ cls := "FarStore$Site", name := "howManyLocked", desc := "()I" } : Jvm.MethodName) prog_3_method_8_code (3 : Nat) (Option.some Jvm.ClassFile.FieldType.int)) ∈ TT := mT3 (List.mem_of_getElem? (i := 83) (by decide +kernel)) rfl
theorem tw_3_84 : (Jvm.Cond.methodLinkNest "FarStore$Site" (82 : Nat) ({ cls := "FarStore", name := "oneIf", desc := "(Z)I" } : Jvm.MethodName) "FarStore") ∈ TT := mT3 (List.mem_of_getElem? (i := 84) (by decide +kernel)) rfl
theorem tw_3_85 : (Jvm.Cond.methodLink "FarStore" (229 : Nat) ({ cls := "FarStore", name := "howManySafe", desc := "()I" } : Jvm.MethodName)) ∈ TT := mT3 (List.mem_of_getElem? (i := 85) (by decide +kernel)) rfl
theorem tw_3_87 : (Jvm.Cond.instanceMethod ({ cls := "FarStore", name := "howManySafe", desc := "()I" } : Jvm.MethodName)) ∈ TT := mT3 (List.mem_of_getElem? (i := 87) (by decide +kernel)) rfl
theorem tw_3_88 : (Jvm.Cond.code ({ cls := "FarStore", name := "howManySafe", desc := "()I" } : Jvm.MethodName) prog_1_method_52_code (3 : Nat) (Option.some Jvm.ClassFile.FieldType.int)) ∈ TT := mT3 (List.mem_of_getElem? (i := 88) (by decide +kernel)) rfl
theorem tw_3_89 : (Jvm.Cond.classLink "FarStoreLaw" (10 : Nat) "FarStoreModel") ∈ TT := mT3 (List.mem_of_getElem? (i := 89) (by decide +kernel)) rfl
theorem tw_3_90 : (Jvm.Cond.instantiable "FarStoreModel" (27 : Nat)) ∈ TT := mT3 (List.mem_of_getElem? (i := 90) (by decide +kernel)) rfl
theorem tw_3_91 : (Jvm.Cond.methodLink "FarStoreLaw" (12 : Nat) ({ cls := "FarStoreModel", name := "<init>", desc := "()V" } : Jvm.MethodName)) ∈ TT := mT3 (List.mem_of_getElem? (i := 91) (by decide +kernel)) rfl
theorem tw_3_92 : (Jvm.Cond.instanceMethod ({ cls := "FarStoreModel", name := "<init>", desc := "()V" } : Jvm.MethodName)) ∈ TT := mT3 (List.mem_of_getElem? (i := 92) (by decide +kernel)) rfl
theorem tw_3_93 : (Jvm.Cond.code ({ cls := "FarStoreModel", name := "<init>", desc := "()V" } : Jvm.MethodName) prog_7_method_1_code (2 : Nat) (Option.none : Option Jvm.ClassFile.FieldType)) ∈ TT := mT3 (List.mem_of_getElem? (i := 93) (by decide +kernel)) rfl
theorem tw_3_94 : (Jvm.Cond.methodLink "FarStoreModel" (1 : Nat) ({ cls := "java/lang/Object", name := "<init>", desc := "()V" } : Jvm.MethodName)) ∈ TT := mT3 (List.mem_of_getElem? (i := 94) (by decide +kernel)) rfl
theorem tw_3_95 : (Jvm.Cond.fieldLink "FarStoreModel" (7 : Nat) "FarStoreModel" "n" "I") ∈ TT := mT3 (List.mem_of_getElem? (i := 95) (by decide +kernel)) rfl
theorem tw_3_96 : (Jvm.Cond.fieldLink "FarStoreModel" (13 : Nat) "FarStoreModel" "f" "I") ∈ TT := mT3 (List.mem_of_getElem? (i := 96) (by decide +kernel)) rfl
theorem tw_3_97 : (Jvm.Cond.fieldLink "FarStoreModel" (89 : Nat) "FarStoreModel" "things" "I") ∈ TT := mT3 (List.mem_of_getElem? (i := 97) (by decide +kernel)) rfl
theorem tw_3_98 : (Jvm.Cond.fieldLink "FarStoreModel" (16 : Nat) "FarStoreModel" "homes" "[I") ∈ TT := mT3 (List.mem_of_getElem? (i := 98) (by decide +kernel)) rfl
theorem tw_3_99 : (Jvm.Cond.fieldLink "FarStoreModel" (20 : Nat) "FarStoreModel" "sets" "[Z") ∈ TT := mT3 (List.mem_of_getElem? (i := 99) (by decide +kernel)) rfl
theorem tw_3_100 : (Jvm.Cond.fieldLink "FarStoreModel" (92 : Nat) "FarStoreModel" "many" "I") ∈ TT := mT3 (List.mem_of_getElem? (i := 100) (by decide +kernel)) rfl
theorem tw_3_101 : (Jvm.Cond.fieldLink "FarStoreModel" (24 : Nat) "FarStoreModel" "sites" "[I") ∈ TT := mT3 (List.mem_of_getElem? (i := 101) (by decide +kernel)) rfl
theorem tw_3_102 : (Jvm.Cond.fieldLink "FarStoreModel" (27 : Nat) "FarStoreModel" "states" "[I") ∈ TT := mT3 (List.mem_of_getElem? (i := 102) (by decide +kernel)) rfl
theorem tw_3_103 : (Jvm.Cond.fieldLink "FarStoreModel" (30 : Nat) "FarStoreModel" "starts" "[I") ∈ TT := mT3 (List.mem_of_getElem? (i := 103) (by decide +kernel)) rfl
theorem tw_3_104 : (Jvm.Cond.fieldLink "FarStoreModel" (33 : Nat) "FarStoreModel" "commits" "[I") ∈ TT := mT3 (List.mem_of_getElem? (i := 104) (by decide +kernel)) rfl
theorem tw_3_105 : (Jvm.Cond.fieldLink "FarStoreModel" (36 : Nat) "FarStoreModel" "acks" "[I") ∈ TT := mT3 (List.mem_of_getElem? (i := 105) (by decide +kernel)) rfl
theorem tw_3_106 : (Jvm.Cond.fieldLink "FarStoreModel" (39 : Nat) "FarStoreModel" "yes" "[I") ∈ TT := mT3 (List.mem_of_getElem? (i := 106) (by decide +kernel)) rfl
theorem tw_3_107 : (Jvm.Cond.fieldLink "FarStoreModel" (42 : Nat) "FarStoreModel" "asks" "[I") ∈ TT := mT3 (List.mem_of_getElem? (i := 107) (by decide +kernel)) rfl
theorem tw_3_108 : (Jvm.Cond.fieldLink "FarStoreModel" (45 : Nat) "FarStoreModel" "dropped" "[Z") ∈ TT := mT3 (List.mem_of_getElem? (i := 108) (by decide +kernel)) rfl
theorem tw_3_109 : (Jvm.Cond.fieldLink "FarStoreModel" (48 : Nat) "FarStoreModel" "wrote" "[Z") ∈ TT := mT3 (List.mem_of_getElem? (i := 109) (by decide +kernel)) rfl
theorem tw_3_110 : (Jvm.Cond.fieldLink "FarStoreModel" (51 : Nat) "FarStoreModel" "written" "[J") ∈ TT := mT3 (List.mem_of_getElem? (i := 110) (by decide +kernel)) rfl
theorem tw_3_111 : (Jvm.Cond.fieldLink "FarStoreModel" (55 : Nat) "FarStoreModel" "added" "[Z") ∈ TT := mT3 (List.mem_of_getElem? (i := 111) (by decide +kernel)) rfl
theorem tw_3_112 : (Jvm.Cond.fieldLink "FarStoreModel" (58 : Nat) "FarStoreModel" "more" "[J") ∈ TT := mT3 (List.mem_of_getElem? (i := 112) (by decide +kernel)) rfl
theorem tw_3_113 : (Jvm.Cond.fieldLink "FarStoreModel" (61 : Nat) "FarStoreModel" "hads" "[I") ∈ TT := mT3 (List.mem_of_getElem? (i := 113) (by decide +kernel)) rfl
theorem tw_3_114 : (Jvm.Cond.fieldLink "FarStoreModel" (64 : Nat) "FarStoreModel" "came" "[I") ∈ TT := mT3 (List.mem_of_getElem? (i := 114) (by decide +kernel)) rfl
theorem tw_3_115 : (Jvm.Cond.fieldLink "FarStoreModel" (67 : Nat) "FarStoreModel" "cameMany" "[I") ∈ TT := mT3 (List.mem_of_getElem? (i := 115) (by decide +kernel)) rfl
theorem tw_3_116 : (Jvm.Cond.fieldLink "FarStoreModel" (70 : Nat) "FarStoreModel" "locks" "[I") ∈ TT := mT3 (List.mem_of_getElem? (i := 116) (by decide +kernel)) rfl
theorem tw_3_117 : (Jvm.Cond.fieldLink "FarStoreModel" (122 : Nat) "FarStoreModel" "messages" "I") ∈ TT := mT3 (List.mem_of_getElem? (i := 117) (by decide +kernel)) rfl
theorem tw_3_118 : (Jvm.Cond.fieldLink "FarStoreModel" (73 : Nat) "FarStoreModel" "mKind" "[I") ∈ TT := mT3 (List.mem_of_getElem? (i := 118) (by decide +kernel)) rfl
theorem tw_3_119 : (Jvm.Cond.fieldLink "FarStoreModel" (76 : Nat) "FarStoreModel" "mTo" "[I") ∈ TT := mT3 (List.mem_of_getElem? (i := 119) (by decide +kernel)) rfl
theorem tw_3_120 : (Jvm.Cond.fieldLink "FarStoreModel" (79 : Nat) "FarStoreModel" "mFrom" "[I") ∈ TT := mT3 (List.mem_of_getElem? (i := 120) (by decide +kernel)) rfl
theorem tw_3_121 : (Jvm.Cond.fieldLink "FarStoreModel" (82 : Nat) "FarStoreModel" "mOf" "[I") ∈ TT := mT3 (List.mem_of_getElem? (i := 121) (by decide +kernel)) rfl
theorem tw_3_122 : (Jvm.Cond.lays "FarStoreModel" "FarStoreModel" "n" "I") ∈ TT := mT3 (List.mem_of_getElem? (i := 122) (by decide +kernel)) rfl
theorem tw_3_124 : (Jvm.Cond.lays "FarStoreModel" "FarStoreModel" "f" "I") ∈ TT := mT3 (List.mem_of_getElem? (i := 124) (by decide +kernel)) rfl
theorem tw_3_126 : (Jvm.Cond.lays "FarStoreModel" "FarStoreModel" "things" "I") ∈ TT := mT3 (List.mem_of_getElem? (i := 126) (by decide +kernel)) rfl
theorem tw_3_128 : (Jvm.Cond.laysFinal "FarStoreModel" "FarStoreModel" "homes" "[I") ∈ TT := mT3 (List.mem_of_getElem? (i := 128) (by decide +kernel)) rfl
theorem tw_3_130 : (Jvm.Cond.laysFinal "FarStoreModel" "FarStoreModel" "sets" "[Z") ∈ TT := mT3 (List.mem_of_getElem? (i := 130) (by decide +kernel)) rfl
theorem tw_3_132 : (Jvm.Cond.lays "FarStoreModel" "FarStoreModel" "many" "I") ∈ TT := mT3 (List.mem_of_getElem? (i := 132) (by decide +kernel)) rfl
theorem tw_3_134 : (Jvm.Cond.laysFinal "FarStoreModel" "FarStoreModel" "sites" "[I") ∈ TT := mT3 (List.mem_of_getElem? (i := 134) (by decide +kernel)) rfl
theorem tw_3_136 : (Jvm.Cond.laysFinal "FarStoreModel" "FarStoreModel" "states" "[I") ∈ TT := mT3 (List.mem_of_getElem? (i := 136) (by decide +kernel)) rfl
theorem tw_3_138 : (Jvm.Cond.laysFinal "FarStoreModel" "FarStoreModel" "starts" "[I") ∈ TT := mT3 (List.mem_of_getElem? (i := 138) (by decide +kernel)) rfl
theorem tw_3_140 : (Jvm.Cond.laysFinal "FarStoreModel" "FarStoreModel" "commits" "[I") ∈ TT := mT3 (List.mem_of_getElem? (i := 140) (by decide +kernel)) rfl
theorem tw_3_142 : (Jvm.Cond.laysFinal "FarStoreModel" "FarStoreModel" "acks" "[I") ∈ TT := mT3 (List.mem_of_getElem? (i := 142) (by decide +kernel)) rfl
theorem tw_3_144 : (Jvm.Cond.laysFinal "FarStoreModel" "FarStoreModel" "yes" "[I") ∈ TT := mT3 (List.mem_of_getElem? (i := 144) (by decide +kernel)) rfl
theorem tw_3_146 : (Jvm.Cond.laysFinal "FarStoreModel" "FarStoreModel" "asks" "[I") ∈ TT := mT3 (List.mem_of_getElem? (i := 146) (by decide +kernel)) rfl
theorem tw_3_148 : (Jvm.Cond.laysFinal "FarStoreModel" "FarStoreModel" "dropped" "[Z") ∈ TT := mT3 (List.mem_of_getElem? (i := 148) (by decide +kernel)) rfl
theorem tw_3_150 : (Jvm.Cond.laysFinal "FarStoreModel" "FarStoreModel" "wrote" "[Z") ∈ TT := mT3 (List.mem_of_getElem? (i := 150) (by decide +kernel)) rfl
theorem tw_3_152 : (Jvm.Cond.laysFinal "FarStoreModel" "FarStoreModel" "written" "[J") ∈ TT := mT3 (List.mem_of_getElem? (i := 152) (by decide +kernel)) rfl
theorem tw_3_154 : (Jvm.Cond.laysFinal "FarStoreModel" "FarStoreModel" "added" "[Z") ∈ TT := mT3 (List.mem_of_getElem? (i := 154) (by decide +kernel)) rfl
theorem tw_3_156 : (Jvm.Cond.laysFinal "FarStoreModel" "FarStoreModel" "more" "[J") ∈ TT := mT3 (List.mem_of_getElem? (i := 156) (by decide +kernel)) rfl
theorem tw_3_158 : (Jvm.Cond.laysFinal "FarStoreModel" "FarStoreModel" "hads" "[I") ∈ TT := mT3 (List.mem_of_getElem? (i := 158) (by decide +kernel)) rfl
theorem tw_3_160 : (Jvm.Cond.laysFinal "FarStoreModel" "FarStoreModel" "came" "[I") ∈ TT := mT3 (List.mem_of_getElem? (i := 160) (by decide +kernel)) rfl
theorem tw_3_162 : (Jvm.Cond.laysFinal "FarStoreModel" "FarStoreModel" "cameMany" "[I") ∈ TT := mT3 (List.mem_of_getElem? (i := 162) (by decide +kernel)) rfl
theorem tw_3_164 : (Jvm.Cond.laysFinal "FarStoreModel" "FarStoreModel" "locks" "[I") ∈ TT := mT3 (List.mem_of_getElem? (i := 164) (by decide +kernel)) rfl
theorem tw_3_166 : (Jvm.Cond.lays "FarStoreModel" "FarStoreModel" "messages" "I") ∈ TT := mT3 (List.mem_of_getElem? (i := 166) (by decide +kernel)) rfl
theorem tw_3_168 : (Jvm.Cond.laysFinal "FarStoreModel" "FarStoreModel" "mKind" "[I") ∈ TT := mT3 (List.mem_of_getElem? (i := 168) (by decide +kernel)) rfl
theorem tw_3_170 : (Jvm.Cond.laysFinal "FarStoreModel" "FarStoreModel" "mTo" "[I") ∈ TT := mT3 (List.mem_of_getElem? (i := 170) (by decide +kernel)) rfl
theorem tw_3_172 : (Jvm.Cond.laysFinal "FarStoreModel" "FarStoreModel" "mFrom" "[I") ∈ TT := mT3 (List.mem_of_getElem? (i := 172) (by decide +kernel)) rfl
theorem tw_3_174 : (Jvm.Cond.laysFinal "FarStoreModel" "FarStoreModel" "mOf" "[I") ∈ TT := mT3 (List.mem_of_getElem? (i := 174) (by decide +kernel)) rfl
theorem tw_3_177 : (Jvm.Cond.methodLink "FarStoreLaw" (17 : Nat) ({ cls := "FarStoreModel", name := "sites", desc := "(II)I" } : Jvm.MethodName)) ∈ TT := mT3 (List.mem_of_getElem? (i := 177) (by decide +kernel)) rfl
theorem tw_3_178 : (Jvm.Cond.instanceMethod ({ cls := "FarStoreModel", name := "sites", desc := "(II)I" } : Jvm.MethodName)) ∈ TT := mT3 (List.mem_of_getElem? (i := 178) (by decide +kernel)) rfl
theorem tw_3_179 : (Jvm.Cond.selects "FarStoreModel" ({ cls := "FarStoreModel", name := "sites", desc := "(II)I" } : Jvm.MethodName) ({ cls := "FarStoreModel", name := "sites", desc := "(II)I" } : Jvm.MethodName)) ∈ TT := mT3 (List.mem_of_getElem? (i := 179) (by decide +kernel)) rfl
theorem tw_3_180 : (Jvm.Cond.code ({ cls := "FarStoreModel", name := "sites", desc := "(II)I" } : Jvm.MethodName) prog_7_method_7_code (3 : Nat) (Option.some Jvm.ClassFile.FieldType.int)) ∈ TT := mT3 (List.mem_of_getElem? (i := 180) (by decide +kernel)) rfl
theorem tw_3_181 : (Jvm.Cond.constantLong "FarStoreModel" (95 : Nat) (2 : Int64)) ∈ TT := mT3 (List.mem_of_getElem? (i := 181) (by decide +kernel)) rfl
theorem tw_3_182 : (Jvm.Cond.constantLong "FarStoreModel" (97 : Nat) (4 : Int64)) ∈ TT := mT3 (List.mem_of_getElem? (i := 182) (by decide +kernel)) rfl
theorem tw_3_183 : (Jvm.Cond.methodLink "FarStoreModel" (85 : Nat) ({ cls := "FarStoreModel", name := "in", desc := "(JJJ)Z" } : Jvm.MethodName)) ∈ TT := mT3 (List.mem_of_getElem? (i := 183) (by decide +kernel)) rfl
theorem tw_3_184 : (Jvm.Cond.static ({ cls := "FarStoreModel", name := "in", desc := "(JJJ)Z" } : Jvm.MethodName)) ∈ TT := mT3 (List.mem_of_getElem? (i := 184) (by decide +kernel)) rfl
theorem tw_3_185 : (Jvm.Cond.code ({ cls := "FarStoreModel", name := "in", desc := "(JJJ)Z" } : Jvm.MethodName) prog_7_method_3_code (6 : Nat) (Option.some Jvm.ClassFile.FieldType.boolean)) ∈ TT := mT3 (List.mem_of_getElem? (i := 185) (by decide +kernel)) rfl
theorem tw_3_186 : (Jvm.Cond.methodLink "FarStoreLaw" (22 : Nat) ({ cls := "FarStoreModel", name := "thing", desc := "(IZ)I" } : Jvm.MethodName)) ∈ TT := mT3 (List.mem_of_getElem? (i := 186) (by decide +kernel)) rfl
theorem tw_3_187 : (Jvm.Cond.instanceMethod ({ cls := "FarStoreModel", name := "thing", desc := "(IZ)I" } : Jvm.MethodName)) ∈ TT := mT3 (List.mem_of_getElem? (i := 187) (by decide +kernel)) rfl
theorem tw_3_188 : (Jvm.Cond.selects "FarStoreModel" ({ cls := "FarStoreModel", name := "thing", desc := "(IZ)I" } : Jvm.MethodName) ({ cls := "FarStoreModel", name := "thing", desc := "(IZ)I" } : Jvm.MethodName)) ∈ TT := mT3 (List.mem_of_getElem? (i := 188) (by decide +kernel)) rfl
theorem tw_3_189 : (Jvm.Cond.code ({ cls := "FarStoreModel", name := "thing", desc := "(IZ)I" } : Jvm.MethodName) prog_7_method_8_code (3 : Nat) (Option.some Jvm.ClassFile.FieldType.int)) ∈ TT := mT3 (List.mem_of_getElem? (i := 189) (by decide +kernel)) rfl
theorem tw_3_190 : (Jvm.Cond.methodLink "FarStoreModel" (99 : Nat) ({ cls := "FarStoreModel", name := "isSite", desc := "(I)Z" } : Jvm.MethodName)) ∈ TT := mT3 (List.mem_of_getElem? (i := 190) (by decide +kernel)) rfl
theorem tw_3_192 : (Jvm.Cond.instanceMethod ({ cls := "FarStoreModel", name := "isSite", desc := "(I)Z" } : Jvm.MethodName)) ∈ TT := mT3 (List.mem_of_getElem? (i := 192) (by decide +kernel)) rfl
theorem tw_3_193 : (Jvm.Cond.code ({ cls := "FarStoreModel", name := "isSite", desc := "(I)Z" } : Jvm.MethodName) prog_7_method_4_code (2 : Nat) (Option.some Jvm.ClassFile.FieldType.boolean)) ∈ TT := mT3 (List.mem_of_getElem? (i := 193) (by decide +kernel)) rfl
theorem tw_3_194 : (Jvm.Cond.methodLink "FarStoreLaw" (27 : Nat) ({ cls := "FarStoreModel", name := "begin", desc := "(I)I" } : Jvm.MethodName)) ∈ TT := mT3 (List.mem_of_getElem? (i := 194) (by decide +kernel)) rfl
theorem tw_3_195 : (Jvm.Cond.instanceMethod ({ cls := "FarStoreModel", name := "begin", desc := "(I)I" } : Jvm.MethodName)) ∈ TT := mT3 (List.mem_of_getElem? (i := 195) (by decide +kernel)) rfl
theorem tw_3_196 : (Jvm.Cond.selects "FarStoreModel" ({ cls := "FarStoreModel", name := "begin", desc := "(I)I" } : Jvm.MethodName) ({ cls := "FarStoreModel", name := "begin", desc := "(I)I" } : Jvm.MethodName)) ∈ TT := mT3 (List.mem_of_getElem? (i := 196) (by decide +kernel)) rfl
theorem tw_3_197 : (Jvm.Cond.code ({ cls := "FarStoreModel", name := "begin", desc := "(I)I" } : Jvm.MethodName) prog_7_method_9_code (3 : Nat) (Option.some Jvm.ClassFile.FieldType.int)) ∈ TT := mT3 (List.mem_of_getElem? (i := 197) (by decide +kernel)) rfl
theorem tw_3_198 : (Jvm.Cond.methodLink "FarStoreLaw" (32 : Nat) ({ cls := "FarStoreModel", name := "read", desc := "(II)J" } : Jvm.MethodName)) ∈ TT := mT3 (List.mem_of_getElem? (i := 198) (by decide +kernel)) rfl
theorem tw_3_199 : (Jvm.Cond.instanceMethod ({ cls := "FarStoreModel", name := "read", desc := "(II)J" } : Jvm.MethodName)) ∈ TT := mT3 (List.mem_of_getElem? (i := 199) (by decide +kernel)) rfl
theorem tw_3_200 : (Jvm.Cond.selects "FarStoreModel" ({ cls := "FarStoreModel", name := "read", desc := "(II)J" } : Jvm.MethodName) ({ cls := "FarStoreModel", name := "read", desc := "(II)J" } : Jvm.MethodName)) ∈ TT := mT3 (List.mem_of_getElem? (i := 200) (by decide +kernel)) rfl
theorem tw_3_201 : (Jvm.Cond.code ({ cls := "FarStoreModel", name := "read", desc := "(II)J" } : Jvm.MethodName) prog_7_method_11_code (6 : Nat) (Option.some Jvm.ClassFile.FieldType.long)) ∈ TT := mT3 (List.mem_of_getElem? (i := 201) (by decide +kernel)) rfl
theorem tw_3_202 : (Jvm.Cond.methodLink "FarStoreModel" (103 : Nat) ({ cls := "FarStoreModel", name := "is", desc := "(I)Z" } : Jvm.MethodName)) ∈ TT := mT3 (List.mem_of_getElem? (i := 202) (by decide +kernel)) rfl
theorem tw_3_204 : (Jvm.Cond.instanceMethod ({ cls := "FarStoreModel", name := "is", desc := "(I)Z" } : Jvm.MethodName)) ∈ TT := mT3 (List.mem_of_getElem? (i := 204) (by decide +kernel)) rfl
theorem tw_3_205 : (Jvm.Cond.code ({ cls := "FarStoreModel", name := "is", desc := "(I)Z" } : Jvm.MethodName) prog_7_method_6_code (2 : Nat) (Option.some Jvm.ClassFile.FieldType.boolean)) ∈ TT := mT3 (List.mem_of_getElem? (i := 205) (by decide +kernel)) rfl
theorem tw_3_206 : (Jvm.Cond.methodLink "FarStoreModel" (106 : Nat) ({ cls := "FarStoreModel", name := "isThing", desc := "(I)Z" } : Jvm.MethodName)) ∈ TT := mT3 (List.mem_of_getElem? (i := 206) (by decide +kernel)) rfl
theorem tw_3_208 : (Jvm.Cond.instanceMethod ({ cls := "FarStoreModel", name := "isThing", desc := "(I)Z" } : Jvm.MethodName)) ∈ TT := mT3 (List.mem_of_getElem? (i := 208) (by decide +kernel)) rfl
theorem tw_3_209 : (Jvm.Cond.code ({ cls := "FarStoreModel", name := "isThing", desc := "(I)Z" } : Jvm.MethodName) prog_7_method_5_code (2 : Nat) (Option.some Jvm.ClassFile.FieldType.boolean)) ∈ TT := mT3 (List.mem_of_getElem? (i := 209) (by decide +kernel)) rfl
theorem tw_3_210 : (Jvm.Cond.methodLink "FarStoreModel" (109 : Nat) ({ cls := "FarStoreModel", name := "has", desc := "(II)Z" } : Jvm.MethodName)) ∈ TT := mT3 (List.mem_of_getElem? (i := 210) (by decide +kernel)) rfl
theorem tw_3_212 : (Jvm.Cond.instanceMethod ({ cls := "FarStoreModel", name := "has", desc := "(II)Z" } : Jvm.MethodName)) ∈ TT := mT3 (List.mem_of_getElem? (i := 212) (by decide +kernel)) rfl
theorem tw_3_213 : (Jvm.Cond.code ({ cls := "FarStoreModel", name := "has", desc := "(II)Z" } : Jvm.MethodName) prog_7_method_10_code (3 : Nat) (Option.some Jvm.ClassFile.FieldType.boolean)) ∈ TT := mT3 (List.mem_of_getElem? (i := 213) (by decide +kernel)) rfl
theorem tw_3_214 : (Jvm.Cond.methodLink "FarStoreLaw" (37 : Nat) ({ cls := "FarStoreModel", name := "counted", desc := "(III)J" } : Jvm.MethodName)) ∈ TT := mT3 (List.mem_of_getElem? (i := 214) (by decide +kernel)) rfl
theorem tw_3_215 : (Jvm.Cond.instanceMethod ({ cls := "FarStoreModel", name := "counted", desc := "(III)J" } : Jvm.MethodName)) ∈ TT := mT3 (List.mem_of_getElem? (i := 215) (by decide +kernel)) rfl
theorem tw_3_216 : (Jvm.Cond.selects "FarStoreModel" ({ cls := "FarStoreModel", name := "counted", desc := "(III)J" } : Jvm.MethodName) ({ cls := "FarStoreModel", name := "counted", desc := "(III)J" } : Jvm.MethodName)) ∈ TT := mT3 (List.mem_of_getElem? (i := 216) (by decide +kernel)) rfl
theorem tw_3_217 : (Jvm.Cond.code ({ cls := "FarStoreModel", name := "counted", desc := "(III)J" } : Jvm.MethodName) prog_7_method_13_code (9 : Nat) (Option.some Jvm.ClassFile.FieldType.long)) ∈ TT := mT3 (List.mem_of_getElem? (i := 217) (by decide +kernel)) rfl
theorem tw_3_218 : (Jvm.Cond.methodLink "FarStoreModel" (115 : Nat) ({ cls := "FarStoreModel", name := "isElement", desc := "(I)Z" } : Jvm.MethodName)) ∈ TT := mT3 (List.mem_of_getElem? (i := 218) (by decide +kernel)) rfl
theorem tw_3_219 : (Jvm.Cond.static ({ cls := "FarStoreModel", name := "isElement", desc := "(I)Z" } : Jvm.MethodName)) ∈ TT := mT3 (List.mem_of_getElem? (i := 219) (by decide +kernel)) rfl
theorem tw_3_220 : (Jvm.Cond.code ({ cls := "FarStoreModel", name := "isElement", desc := "(I)Z" } : Jvm.MethodName) prog_7_method_12_code (1 : Nat) (Option.some Jvm.ClassFile.FieldType.boolean)) ∈ TT := mT3 (List.mem_of_getElem? (i := 220) (by decide +kernel)) rfl
theorem tw_3_221 : (Jvm.Cond.constantLong "FarStoreModel" (113 : Nat) (7 : Int64)) ∈ TT := mT3 (List.mem_of_getElem? (i := 221) (by decide +kernel)) rfl
theorem tw_3_222 : (Jvm.Cond.methodLink "FarStoreLaw" (85 : Nat) ({ cls := "FarStoreModel", name := "latest", desc := "(II)J" } : Jvm.MethodName)) ∈ TT := mT3 (List.mem_of_getElem? (i := 222) (by decide +kernel)) rfl
theorem tw_3_223 : (Jvm.Cond.instanceMethod ({ cls := "FarStoreModel", name := "latest", desc := "(II)J" } : Jvm.MethodName)) ∈ TT := mT3 (List.mem_of_getElem? (i := 223) (by decide +kernel)) rfl
theorem tw_3_224 : (Jvm.Cond.selects "FarStoreModel" ({ cls := "FarStoreModel", name := "latest", desc := "(II)J" } : Jvm.MethodName) ({ cls := "FarStoreModel", name := "latest", desc := "(II)J" } : Jvm.MethodName)) ∈ TT := mT3 (List.mem_of_getElem? (i := 224) (by decide +kernel)) rfl
theorem tw_3_225 : (Jvm.Cond.code ({ cls := "FarStoreModel", name := "latest", desc := "(II)J" } : Jvm.MethodName) prog_7_method_14_code (5 : Nat) (Option.some Jvm.ClassFile.FieldType.long)) ∈ TT := mT3 (List.mem_of_getElem? (i := 225) (by decide +kernel)) rfl
theorem tw_3_226 : (Jvm.Cond.methodLink "FarStoreLaw" (89 : Nat) ({ cls := "FarStoreModel", name := "sum", desc := "(III)J" } : Jvm.MethodName)) ∈ TT := mT3 (List.mem_of_getElem? (i := 226) (by decide +kernel)) rfl
theorem tw_3_227 : (Jvm.Cond.instanceMethod ({ cls := "FarStoreModel", name := "sum", desc := "(III)J" } : Jvm.MethodName)) ∈ TT := mT3 (List.mem_of_getElem? (i := 227) (by decide +kernel)) rfl
theorem tw_3_228 : (Jvm.Cond.selects "FarStoreModel" ({ cls := "FarStoreModel", name := "sum", desc := "(III)J" } : Jvm.MethodName) ({ cls := "FarStoreModel", name := "sum", desc := "(III)J" } : Jvm.MethodName)) ∈ TT := mT3 (List.mem_of_getElem? (i := 228) (by decide +kernel)) rfl
theorem tw_3_229 : (Jvm.Cond.code ({ cls := "FarStoreModel", name := "sum", desc := "(III)J" } : Jvm.MethodName) prog_7_method_15_code (7 : Nat) (Option.some Jvm.ClassFile.FieldType.long)) ∈ TT := mT3 (List.mem_of_getElem? (i := 229) (by decide +kernel)) rfl
theorem tw_3_230 : (Jvm.Cond.methodLink "FarStoreLaw" (44 : Nat) ({ cls := "FarStoreModel", name := "write", desc := "(IIJ)I" } : Jvm.MethodName)) ∈ TT := mT3 (List.mem_of_getElem? (i := 230) (by decide +kernel)) rfl
theorem tw_3_231 : (Jvm.Cond.instanceMethod ({ cls := "FarStoreModel", name := "write", desc := "(IIJ)I" } : Jvm.MethodName)) ∈ TT := mT3 (List.mem_of_getElem? (i := 231) (by decide +kernel)) rfl
theorem tw_3_232 : (Jvm.Cond.selects "FarStoreModel" ({ cls := "FarStoreModel", name := "write", desc := "(IIJ)I" } : Jvm.MethodName) ({ cls := "FarStoreModel", name := "write", desc := "(IIJ)I" } : Jvm.MethodName)) ∈ TT := mT3 (List.mem_of_getElem? (i := 232) (by decide +kernel)) rfl
theorem tw_3_233 : (Jvm.Cond.code ({ cls := "FarStoreModel", name := "write", desc := "(IIJ)I" } : Jvm.MethodName) prog_7_method_17_code (5 : Nat) (Option.some Jvm.ClassFile.FieldType.int)) ∈ TT := mT3 (List.mem_of_getElem? (i := 233) (by decide +kernel)) rfl
theorem tw_3_234 : (Jvm.Cond.methodLink "FarStoreModel" (118 : Nat) ({ cls := "FarStoreModel", name := "plain", desc := "(I)I" } : Jvm.MethodName)) ∈ TT := mT3 (List.mem_of_getElem? (i := 234) (by decide +kernel)) rfl
theorem tw_3_236 : (Jvm.Cond.instanceMethod ({ cls := "FarStoreModel", name := "plain", desc := "(I)I" } : Jvm.MethodName)) ∈ TT := mT3 (List.mem_of_getElem? (i := 236) (by decide +kernel)) rfl
theorem tw_3_237 : (Jvm.Cond.code ({ cls := "FarStoreModel", name := "plain", desc := "(I)I" } : Jvm.MethodName) prog_7_method_16_code (4 : Nat) (Option.some Jvm.ClassFile.FieldType.int)) ∈ TT := mT3 (List.mem_of_getElem? (i := 237) (by decide +kernel)) rfl
theorem tw_3_238 : (Jvm.Cond.methodLink "FarStoreLaw" (49 : Nat) ({ cls := "FarStoreModel", name := "add", desc := "(IIII)I" } : Jvm.MethodName)) ∈ TT := mT3 (List.mem_of_getElem? (i := 238) (by decide +kernel)) rfl
theorem tw_3_239 : (Jvm.Cond.instanceMethod ({ cls := "FarStoreModel", name := "add", desc := "(IIII)I" } : Jvm.MethodName)) ∈ TT := mT3 (List.mem_of_getElem? (i := 239) (by decide +kernel)) rfl
theorem tw_4_0 : (Jvm.Cond.selects "FarStoreModel" ({ cls := "FarStoreModel", name := "add", desc := "(IIII)I" } : Jvm.MethodName) ({ cls := "FarStoreModel", name := "add", desc := "(IIII)I" } : Jvm.MethodName)) ∈ TT := mT4 (List.mem_of_getElem? (i := 0) (by decide +kernel)) rfl
theorem tw_4_1 : (Jvm.Cond.code ({ cls := "FarStoreModel", name := "add", desc := "(IIII)I" } : Jvm.MethodName) prog_7_method_18_code (5 : Nat) (Option.some Jvm.ClassFile.FieldType.int)) ∈ TT := mT4 (List.mem_of_getElem? (i := 1) (by decide +kernel)) rfl
theorem tw_4_2 : (Jvm.Cond.methodLink "FarStoreLaw" (53 : Nat) ({ cls := "FarStoreModel", name := "commit", desc := "(I)I" } : Jvm.MethodName)) ∈ TT := mT4 (List.mem_of_getElem? (i := 2) (by decide +kernel)) rfl
theorem tw_4_3 : (Jvm.Cond.instanceMethod ({ cls := "FarStoreModel", name := "commit", desc := "(I)I" } : Jvm.MethodName)) ∈ TT := mT4 (List.mem_of_getElem? (i := 3) (by decide +kernel)) rfl
theorem tw_4_4 : (Jvm.Cond.selects "FarStoreModel" ({ cls := "FarStoreModel", name := "commit", desc := "(I)I" } : Jvm.MethodName) ({ cls := "FarStoreModel", name := "commit", desc := "(I)I" } : Jvm.MethodName)) ∈ TT := mT4 (List.mem_of_getElem? (i := 4) (by decide +kernel)) rfl
theorem tw_4_5 : (Jvm.Cond.code ({ cls := "FarStoreModel", name := "commit", desc := "(I)I" } : Jvm.MethodName) prog_7_method_27_code (6 : Nat) (Option.some Jvm.ClassFile.FieldType.int)) ∈ TT := mT4 (List.mem_of_getElem? (i := 5) (by decide +kernel)) rfl
theorem tw_4_6 : (Jvm.Cond.methodLink "FarStoreModel" (141 : Nat) ({ cls := "FarStoreModel", name := "areFree", desc := "(II)Z" } : Jvm.MethodName)) ∈ TT := mT4 (List.mem_of_getElem? (i := 6) (by decide +kernel)) rfl
theorem tw_4_8 : (Jvm.Cond.instanceMethod ({ cls := "FarStoreModel", name := "areFree", desc := "(II)Z" } : Jvm.MethodName)) ∈ TT := mT4 (List.mem_of_getElem? (i := 8) (by decide +kernel)) rfl
theorem tw_4_9 : (Jvm.Cond.code ({ cls := "FarStoreModel", name := "areFree", desc := "(II)Z" } : Jvm.MethodName) prog_7_method_21_code (5 : Nat) (Option.some Jvm.ClassFile.FieldType.boolean)) ∈ TT := mT4 (List.mem_of_getElem? (i := 9) (by decide +kernel)) rfl
theorem tw_4_10 : (Jvm.Cond.methodLink "FarStoreModel" (125 : Nat) ({ cls := "FarStoreModel", name := "isFree", desc := "(III)Z" } : Jvm.MethodName)) ∈ TT := mT4 (List.mem_of_getElem? (i := 10) (by decide +kernel)) rfl
theorem tw_4_12 : (Jvm.Cond.instanceMethod ({ cls := "FarStoreModel", name := "isFree", desc := "(III)Z" } : Jvm.MethodName)) ∈ TT := mT4 (List.mem_of_getElem? (i := 12) (by decide +kernel)) rfl
theorem tw_4_13 : (Jvm.Cond.code ({ cls := "FarStoreModel", name := "isFree", desc := "(III)Z" } : Jvm.MethodName) prog_7_method_20_code (7 : Nat) (Option.some Jvm.ClassFile.FieldType.boolean)) ∈ TT := mT4 (List.mem_of_getElem? (i := 13) (by decide +kernel)) rfl
theorem tw_4_14 : (Jvm.Cond.methodLink "FarStoreModel" (144 : Nat) ({ cls := "FarStoreModel", name := "becomes", desc := "(I)V" } : Jvm.MethodName)) ∈ TT := mT4 (List.mem_of_getElem? (i := 14) (by decide +kernel)) rfl
theorem tw_4_16 : (Jvm.Cond.instanceMethod ({ cls := "FarStoreModel", name := "becomes", desc := "(I)V" } : Jvm.MethodName)) ∈ TT := mT4 (List.mem_of_getElem? (i := 16) (by decide +kernel)) rfl
theorem tw_4_17 : (Jvm.Cond.code ({ cls := "FarStoreModel", name := "becomes", desc := "(I)V" } : Jvm.MethodName) prog_7_method_26_code (4 : Nat) (Option.none : Option Jvm.ClassFile.FieldType)) ∈ TT := mT4 (List.mem_of_getElem? (i := 17) (by decide +kernel)) rfl
theorem tw_4_18 : (Jvm.Cond.methodLink "FarStoreModel" (137 : Nat) ({ cls := "FarStoreModel", name := "comes", desc := "(IIZ)V" } : Jvm.MethodName)) ∈ TT := mT4 (List.mem_of_getElem? (i := 18) (by decide +kernel)) rfl
theorem tw_4_20 : (Jvm.Cond.instanceMethod ({ cls := "FarStoreModel", name := "comes", desc := "(IIZ)V" } : Jvm.MethodName)) ∈ TT := mT4 (List.mem_of_getElem? (i := 20) (by decide +kernel)) rfl
theorem tw_4_21 : (Jvm.Cond.code ({ cls := "FarStoreModel", name := "comes", desc := "(IIZ)V" } : Jvm.MethodName) prog_7_method_25_code (4 : Nat) (Option.none : Option Jvm.ClassFile.FieldType)) ∈ TT := mT4 (List.mem_of_getElem? (i := 21) (by decide +kernel)) rfl
theorem tw_4_22 : (Jvm.Cond.methodLink "FarStoreModel" (129 : Nat) ({ cls := "FarStoreModel", name := "unlock", desc := "(II)V" } : Jvm.MethodName)) ∈ TT := mT4 (List.mem_of_getElem? (i := 22) (by decide +kernel)) rfl
theorem tw_4_24 : (Jvm.Cond.instanceMethod ({ cls := "FarStoreModel", name := "unlock", desc := "(II)V" } : Jvm.MethodName)) ∈ TT := mT4 (List.mem_of_getElem? (i := 24) (by decide +kernel)) rfl
theorem tw_4_25 : (Jvm.Cond.code ({ cls := "FarStoreModel", name := "unlock", desc := "(II)V" } : Jvm.MethodName) prog_7_method_23_code (4 : Nat) (Option.none : Option Jvm.ClassFile.FieldType)) ∈ TT := mT4 (List.mem_of_getElem? (i := 25) (by decide +kernel)) rfl
theorem tw_4_26 : (Jvm.Cond.methodLink "FarStoreModel" (133 : Nat) ({ cls := "FarStoreModel", name := "send", desc := "(IIII)V" } : Jvm.MethodName)) ∈ TT := mT4 (List.mem_of_getElem? (i := 26) (by decide +kernel)) rfl
theorem tw_4_28 : (Jvm.Cond.instanceMethod ({ cls := "FarStoreModel", name := "send", desc := "(IIII)V" } : Jvm.MethodName)) ∈ TT := mT4 (List.mem_of_getElem? (i := 28) (by decide +kernel)) rfl
theorem tw_4_29 : (Jvm.Cond.code ({ cls := "FarStoreModel", name := "send", desc := "(IIII)V" } : Jvm.MethodName) prog_7_method_19_code (5 : Nat) (Option.none : Option Jvm.ClassFile.FieldType)) ∈ TT := mT4 (List.mem_of_getElem? (i := 29) (by decide +kernel)) rfl
theorem tw_4_30 : (Jvm.Cond.methodLink "FarStoreModel" (148 : Nat) ({ cls := "FarStoreModel", name := "lock", desc := "(II)V" } : Jvm.MethodName)) ∈ TT := mT4 (List.mem_of_getElem? (i := 30) (by decide +kernel)) rfl
theorem tw_4_32 : (Jvm.Cond.instanceMethod ({ cls := "FarStoreModel", name := "lock", desc := "(II)V" } : Jvm.MethodName)) ∈ TT := mT4 (List.mem_of_getElem? (i := 32) (by decide +kernel)) rfl
theorem tw_4_33 : (Jvm.Cond.code ({ cls := "FarStoreModel", name := "lock", desc := "(II)V" } : Jvm.MethodName) prog_7_method_22_code (4 : Nat) (Option.none : Option Jvm.ClassFile.FieldType)) ∈ TT := mT4 (List.mem_of_getElem? (i := 33) (by decide +kernel)) rfl
theorem tw_4_34 : (Jvm.Cond.methodLink "FarStoreModel" (151 : Nat) ({ cls := "FarStoreModel", name := "writesAt", desc := "(II)Z" } : Jvm.MethodName)) ∈ TT := mT4 (List.mem_of_getElem? (i := 34) (by decide +kernel)) rfl
theorem tw_4_36 : (Jvm.Cond.instanceMethod ({ cls := "FarStoreModel", name := "writesAt", desc := "(II)Z" } : Jvm.MethodName)) ∈ TT := mT4 (List.mem_of_getElem? (i := 36) (by decide +kernel)) rfl
theorem tw_4_37 : (Jvm.Cond.code ({ cls := "FarStoreModel", name := "writesAt", desc := "(II)Z" } : Jvm.MethodName) prog_7_method_24_code (5 : Nat) (Option.some Jvm.ClassFile.FieldType.boolean)) ∈ TT := mT4 (List.mem_of_getElem? (i := 37) (by decide +kernel)) rfl
theorem tw_4_38 : (Jvm.Cond.methodLink "FarStoreLaw" (57 : Nat) ({ cls := "FarStoreModel", name := "abort", desc := "(I)I" } : Jvm.MethodName)) ∈ TT := mT4 (List.mem_of_getElem? (i := 38) (by decide +kernel)) rfl
theorem tw_4_39 : (Jvm.Cond.instanceMethod ({ cls := "FarStoreModel", name := "abort", desc := "(I)I" } : Jvm.MethodName)) ∈ TT := mT4 (List.mem_of_getElem? (i := 39) (by decide +kernel)) rfl
theorem tw_4_40 : (Jvm.Cond.selects "FarStoreModel" ({ cls := "FarStoreModel", name := "abort", desc := "(I)I" } : Jvm.MethodName) ({ cls := "FarStoreModel", name := "abort", desc := "(I)I" } : Jvm.MethodName)) ∈ TT := mT4 (List.mem_of_getElem? (i := 40) (by decide +kernel)) rfl
theorem tw_4_41 : (Jvm.Cond.code ({ cls := "FarStoreModel", name := "abort", desc := "(I)I" } : Jvm.MethodName) prog_7_method_28_code (2 : Nat) (Option.some Jvm.ClassFile.FieldType.int)) ∈ TT := mT4 (List.mem_of_getElem? (i := 41) (by decide +kernel)) rfl
theorem tw_4_42 : (Jvm.Cond.methodLink "FarStoreLaw" (61 : Nat) ({ cls := "FarStoreModel", name := "deliver", desc := "(I)I" } : Jvm.MethodName)) ∈ TT := mT4 (List.mem_of_getElem? (i := 42) (by decide +kernel)) rfl
theorem tw_4_43 : (Jvm.Cond.instanceMethod ({ cls := "FarStoreModel", name := "deliver", desc := "(I)I" } : Jvm.MethodName)) ∈ TT := mT4 (List.mem_of_getElem? (i := 43) (by decide +kernel)) rfl
theorem tw_4_44 : (Jvm.Cond.selects "FarStoreModel" ({ cls := "FarStoreModel", name := "deliver", desc := "(I)I" } : Jvm.MethodName) ({ cls := "FarStoreModel", name := "deliver", desc := "(I)I" } : Jvm.MethodName)) ∈ TT := mT4 (List.mem_of_getElem? (i := 44) (by decide +kernel)) rfl
theorem tw_4_45 : (Jvm.Cond.code ({ cls := "FarStoreModel", name := "deliver", desc := "(I)I" } : Jvm.MethodName) prog_7_method_33_code (2 : Nat) (Option.some Jvm.ClassFile.FieldType.int)) ∈ TT := mT4 (List.mem_of_getElem? (i := 45) (by decide +kernel)) rfl
theorem tw_4_46 : (Jvm.Cond.methodLink "FarStoreModel" (157 : Nat) ({ cls := "FarStoreModel", name := "isMessage", desc := "(I)Z" } : Jvm.MethodName)) ∈ TT := mT4 (List.mem_of_getElem? (i := 46) (by decide +kernel)) rfl
theorem tw_4_48 : (Jvm.Cond.instanceMethod ({ cls := "FarStoreModel", name := "isMessage", desc := "(I)Z" } : Jvm.MethodName)) ∈ TT := mT4 (List.mem_of_getElem? (i := 48) (by decide +kernel)) rfl
theorem tw_4_49 : (Jvm.Cond.code ({ cls := "FarStoreModel", name := "isMessage", desc := "(I)Z" } : Jvm.MethodName) prog_7_method_29_code (2 : Nat) (Option.some Jvm.ClassFile.FieldType.boolean)) ∈ TT := mT4 (List.mem_of_getElem? (i := 49) (by decide +kernel)) rfl
theorem tw_4_50 : (Jvm.Cond.methodLink "FarStoreModel" (160 : Nat) ({ cls := "FarStoreModel", name := "canCome", desc := "(I)Z" } : Jvm.MethodName)) ∈ TT := mT4 (List.mem_of_getElem? (i := 50) (by decide +kernel)) rfl
theorem tw_4_52 : (Jvm.Cond.instanceMethod ({ cls := "FarStoreModel", name := "canCome", desc := "(I)Z" } : Jvm.MethodName)) ∈ TT := mT4 (List.mem_of_getElem? (i := 52) (by decide +kernel)) rfl
theorem tw_4_53 : (Jvm.Cond.code ({ cls := "FarStoreModel", name := "canCome", desc := "(I)Z" } : Jvm.MethodName) prog_7_method_30_code (6 : Nat) (Option.some Jvm.ClassFile.FieldType.boolean)) ∈ TT := mT4 (List.mem_of_getElem? (i := 53) (by decide +kernel)) rfl
theorem tw_4_54 : (Jvm.Cond.methodLink "FarStoreModel" (163 : Nat) ({ cls := "FarStoreModel", name := "comesNow", desc := "(I)I" } : Jvm.MethodName)) ∈ TT := mT4 (List.mem_of_getElem? (i := 54) (by decide +kernel)) rfl
theorem tw_4_56 : (Jvm.Cond.instanceMethod ({ cls := "FarStoreModel", name := "comesNow", desc := "(I)I" } : Jvm.MethodName)) ∈ TT := mT4 (List.mem_of_getElem? (i := 56) (by decide +kernel)) rfl
theorem tw_4_57 : (Jvm.Cond.code ({ cls := "FarStoreModel", name := "comesNow", desc := "(I)I" } : Jvm.MethodName) prog_7_method_31_code (7 : Nat) (Option.some Jvm.ClassFile.FieldType.int)) ∈ TT := mT4 (List.mem_of_getElem? (i := 57) (by decide +kernel)) rfl
theorem tw_4_58 : (Jvm.Cond.methodLink "FarStoreModel" (154 : Nat) ({ cls := "FarStoreModel", name := "refused", desc := "(I)V" } : Jvm.MethodName)) ∈ TT := mT4 (List.mem_of_getElem? (i := 58) (by decide +kernel)) rfl
theorem tw_4_60 : (Jvm.Cond.instanceMethod ({ cls := "FarStoreModel", name := "refused", desc := "(I)V" } : Jvm.MethodName)) ∈ TT := mT4 (List.mem_of_getElem? (i := 60) (by decide +kernel)) rfl
theorem tw_4_61 : (Jvm.Cond.code ({ cls := "FarStoreModel", name := "refused", desc := "(I)V" } : Jvm.MethodName) prog_7_method_32_code (3 : Nat) (Option.none : Option Jvm.ClassFile.FieldType)) ∈ TT := mT4 (List.mem_of_getElem? (i := 61) (by decide +kernel)) rfl
theorem tw_4_62 : (Jvm.Cond.methodLink "FarStoreLaw" (65 : Nat) ({ cls := "FarStoreModel", name := "all", desc := "(I)I" } : Jvm.MethodName)) ∈ TT := mT4 (List.mem_of_getElem? (i := 62) (by decide +kernel)) rfl
theorem tw_4_63 : (Jvm.Cond.instanceMethod ({ cls := "FarStoreModel", name := "all", desc := "(I)I" } : Jvm.MethodName)) ∈ TT := mT4 (List.mem_of_getElem? (i := 63) (by decide +kernel)) rfl
theorem tw_4_64 : (Jvm.Cond.selects "FarStoreModel" ({ cls := "FarStoreModel", name := "all", desc := "(I)I" } : Jvm.MethodName) ({ cls := "FarStoreModel", name := "all", desc := "(I)I" } : Jvm.MethodName)) ∈ TT := mT4 (List.mem_of_getElem? (i := 64) (by decide +kernel)) rfl
theorem tw_4_65 : (Jvm.Cond.code ({ cls := "FarStoreModel", name := "all", desc := "(I)I" } : Jvm.MethodName) prog_7_method_34_code (5 : Nat) (Option.some Jvm.ClassFile.FieldType.int)) ∈ TT := mT4 (List.mem_of_getElem? (i := 65) (by decide +kernel)) rfl
theorem tw_4_66 : (Jvm.Cond.constantLong "FarStoreModel" (166 : Nat) (500 : Int64)) ∈ TT := mT4 (List.mem_of_getElem? (i := 66) (by decide +kernel)) rfl
theorem tw_4_67 : (Jvm.Cond.methodLink "FarStoreLaw" (69 : Nat) ({ cls := "FarStoreModel", name := "message", desc := "(II)I" } : Jvm.MethodName)) ∈ TT := mT4 (List.mem_of_getElem? (i := 67) (by decide +kernel)) rfl
theorem tw_4_68 : (Jvm.Cond.instanceMethod ({ cls := "FarStoreModel", name := "message", desc := "(II)I" } : Jvm.MethodName)) ∈ TT := mT4 (List.mem_of_getElem? (i := 68) (by decide +kernel)) rfl
theorem tw_4_69 : (Jvm.Cond.selects "FarStoreModel" ({ cls := "FarStoreModel", name := "message", desc := "(II)I" } : Jvm.MethodName) ({ cls := "FarStoreModel", name := "message", desc := "(II)I" } : Jvm.MethodName)) ∈ TT := mT4 (List.mem_of_getElem? (i := 69) (by decide +kernel)) rfl
theorem tw_4_70 : (Jvm.Cond.code ({ cls := "FarStoreModel", name := "message", desc := "(II)I" } : Jvm.MethodName) prog_7_method_35_code (3 : Nat) (Option.some Jvm.ClassFile.FieldType.int)) ∈ TT := mT4 (List.mem_of_getElem? (i := 70) (by decide +kernel)) rfl
theorem tw_4_71 : (Jvm.Cond.methodLink "FarStoreLaw" (73 : Nat) ({ cls := "FarStoreModel", name := "told", desc := "(II)I" } : Jvm.MethodName)) ∈ TT := mT4 (List.mem_of_getElem? (i := 71) (by decide +kernel)) rfl
theorem tw_4_72 : (Jvm.Cond.instanceMethod ({ cls := "FarStoreModel", name := "told", desc := "(II)I" } : Jvm.MethodName)) ∈ TT := mT4 (List.mem_of_getElem? (i := 72) (by decide +kernel)) rfl
theorem tw_4_73 : (Jvm.Cond.selects "FarStoreModel" ({ cls := "FarStoreModel", name := "told", desc := "(II)I" } : Jvm.MethodName) ({ cls := "FarStoreModel", name := "told", desc := "(II)I" } : Jvm.MethodName)) ∈ TT := mT4 (List.mem_of_getElem? (i := 73) (by decide +kernel)) rfl
theorem tw_4_74 : (Jvm.Cond.code ({ cls := "FarStoreModel", name := "told", desc := "(II)I" } : Jvm.MethodName) prog_7_method_37_code (3 : Nat) (Option.some Jvm.ClassFile.FieldType.int)) ∈ TT := mT4 (List.mem_of_getElem? (i := 74) (by decide +kernel)) rfl
theorem tw_4_75 : (Jvm.Cond.methodLink "FarStoreModel" (168 : Nat) ({ cls := "FarStoreModel", name := "isSafe", desc := "(I)Z" } : Jvm.MethodName)) ∈ TT := mT4 (List.mem_of_getElem? (i := 75) (by decide +kernel)) rfl
theorem tw_4_77 : (Jvm.Cond.instanceMethod ({ cls := "FarStoreModel", name := "isSafe", desc := "(I)Z" } : Jvm.MethodName)) ∈ TT := mT4 (List.mem_of_getElem? (i := 77) (by decide +kernel)) rfl
theorem tw_4_78 : (Jvm.Cond.code ({ cls := "FarStoreModel", name := "isSafe", desc := "(I)Z" } : Jvm.MethodName) prog_7_method_36_code (2 : Nat) (Option.some Jvm.ClassFile.FieldType.boolean)) ∈ TT := mT4 (List.mem_of_getElem? (i := 78) (by decide +kernel)) rfl
theorem tw_4_79 : (Jvm.Cond.methodLink "FarStoreLaw" (77 : Nat) ({ cls := "FarStoreModel", name := "start", desc := "(II)I" } : Jvm.MethodName)) ∈ TT := mT4 (List.mem_of_getElem? (i := 79) (by decide +kernel)) rfl
theorem tw_4_80 : (Jvm.Cond.instanceMethod ({ cls := "FarStoreModel", name := "start", desc := "(II)I" } : Jvm.MethodName)) ∈ TT := mT4 (List.mem_of_getElem? (i := 80) (by decide +kernel)) rfl
theorem tw_4_81 : (Jvm.Cond.selects "FarStoreModel" ({ cls := "FarStoreModel", name := "start", desc := "(II)I" } : Jvm.MethodName) ({ cls := "FarStoreModel", name := "start", desc := "(II)I" } : Jvm.MethodName)) ∈ TT := mT4 (List.mem_of_getElem? (i := 81) (by decide +kernel)) rfl
theorem tw_4_82 : (Jvm.Cond.code ({ cls := "FarStoreModel", name := "start", desc := "(II)I" } : Jvm.MethodName) prog_7_method_38_code (3 : Nat) (Option.some Jvm.ClassFile.FieldType.int)) ∈ TT := mT4 (List.mem_of_getElem? (i := 82) (by decide +kernel)) rfl
theorem tw_4_83 : (Jvm.Cond.methodLink "FarStoreLaw" (81 : Nat) ({ cls := "FarStoreModel", name := "had", desc := "(II)I" } : Jvm.MethodName)) ∈ TT := mT4 (List.mem_of_getElem? (i := 83) (by decide +kernel)) rfl
theorem tw_4_84 : (Jvm.Cond.instanceMethod ({ cls := "FarStoreModel", name := "had", desc := "(II)I" } : Jvm.MethodName)) ∈ TT := mT4 (List.mem_of_getElem? (i := 84) (by decide +kernel)) rfl
theorem tw_4_85 : (Jvm.Cond.selects "FarStoreModel" ({ cls := "FarStoreModel", name := "had", desc := "(II)I" } : Jvm.MethodName) ({ cls := "FarStoreModel", name := "had", desc := "(II)I" } : Jvm.MethodName)) ∈ TT := mT4 (List.mem_of_getElem? (i := 85) (by decide +kernel)) rfl
theorem tw_4_86 : (Jvm.Cond.code ({ cls := "FarStoreModel", name := "had", desc := "(II)I" } : Jvm.MethodName) prog_7_method_39_code (3 : Nat) (Option.some Jvm.ClassFile.FieldType.int)) ∈ TT := mT4 (List.mem_of_getElem? (i := 86) (by decide +kernel)) rfl
theorem tw_4_87 : (Jvm.Cond.methodLink "FarStoreLaw" (93 : Nat) ({ cls := "FarStoreModel", name := "locked", desc := "(II)I" } : Jvm.MethodName)) ∈ TT := mT4 (List.mem_of_getElem? (i := 87) (by decide +kernel)) rfl
theorem tw_4_88 : (Jvm.Cond.instanceMethod ({ cls := "FarStoreModel", name := "locked", desc := "(II)I" } : Jvm.MethodName)) ∈ TT := mT4 (List.mem_of_getElem? (i := 88) (by decide +kernel)) rfl
theorem tw_4_89 : (Jvm.Cond.selects "FarStoreModel" ({ cls := "FarStoreModel", name := "locked", desc := "(II)I" } : Jvm.MethodName) ({ cls := "FarStoreModel", name := "locked", desc := "(II)I" } : Jvm.MethodName)) ∈ TT := mT4 (List.mem_of_getElem? (i := 89) (by decide +kernel)) rfl
theorem tw_4_90 : (Jvm.Cond.code ({ cls := "FarStoreModel", name := "locked", desc := "(II)I" } : Jvm.MethodName) prog_7_method_40_code (3 : Nat) (Option.some Jvm.ClassFile.FieldType.int)) ∈ TT := mT4 (List.mem_of_getElem? (i := 90) (by decide +kernel)) rfl
theorem tw_4_91 : (Jvm.Cond.methodLink "FarStoreLaw" (97 : Nat) ({ cls := "FarStoreModel", name := "sees", desc := "(II)I" } : Jvm.MethodName)) ∈ TT := mT4 (List.mem_of_getElem? (i := 91) (by decide +kernel)) rfl
theorem tw_4_92 : (Jvm.Cond.instanceMethod ({ cls := "FarStoreModel", name := "sees", desc := "(II)I" } : Jvm.MethodName)) ∈ TT := mT4 (List.mem_of_getElem? (i := 92) (by decide +kernel)) rfl
theorem tw_4_93 : (Jvm.Cond.selects "FarStoreModel" ({ cls := "FarStoreModel", name := "sees", desc := "(II)I" } : Jvm.MethodName) ({ cls := "FarStoreModel", name := "sees", desc := "(II)I" } : Jvm.MethodName)) ∈ TT := mT4 (List.mem_of_getElem? (i := 93) (by decide +kernel)) rfl
theorem tw_4_94 : (Jvm.Cond.code ({ cls := "FarStoreModel", name := "sees", desc := "(II)I" } : Jvm.MethodName) prog_7_method_41_code (3 : Nat) (Option.some Jvm.ClassFile.FieldType.int)) ∈ TT := mT4 (List.mem_of_getElem? (i := 94) (by decide +kernel)) rfl
theorem tw_4_95 : (Jvm.Cond.methodLink "FarStoreLaw" (102 : Nat) ({ cls := "FarStoreModel", name := "calm", desc := "()I" } : Jvm.MethodName)) ∈ TT := mT4 (List.mem_of_getElem? (i := 95) (by decide +kernel)) rfl
theorem tw_4_96 : (Jvm.Cond.instanceMethod ({ cls := "FarStoreModel", name := "calm", desc := "()I" } : Jvm.MethodName)) ∈ TT := mT4 (List.mem_of_getElem? (i := 96) (by decide +kernel)) rfl
theorem tw_4_97 : (Jvm.Cond.selects "FarStoreModel" ({ cls := "FarStoreModel", name := "calm", desc := "()I" } : Jvm.MethodName) ({ cls := "FarStoreModel", name := "calm", desc := "()I" } : Jvm.MethodName)) ∈ TT := mT4 (List.mem_of_getElem? (i := 97) (by decide +kernel)) rfl
theorem tw_4_98 : (Jvm.Cond.code ({ cls := "FarStoreModel", name := "calm", desc := "()I" } : Jvm.MethodName) prog_7_method_42_code (4 : Nat) (Option.some Jvm.ClassFile.FieldType.int)) ∈ TT := mT4 (List.mem_of_getElem? (i := 98) (by decide +kernel)) rfl
theorem tw_4_99 : (Jvm.Cond.methodLink "FarStoreLaw" (106 : Nat) ({ cls := "FarStoreModel", name := "count", desc := "(I)I" } : Jvm.MethodName)) ∈ TT := mT4 (List.mem_of_getElem? (i := 99) (by decide +kernel)) rfl
theorem tw_4_100 : (Jvm.Cond.instanceMethod ({ cls := "FarStoreModel", name := "count", desc := "(I)I" } : Jvm.MethodName)) ∈ TT := mT4 (List.mem_of_getElem? (i := 100) (by decide +kernel)) rfl
theorem tw_4_101 : (Jvm.Cond.selects "FarStoreModel" ({ cls := "FarStoreModel", name := "count", desc := "(I)I" } : Jvm.MethodName) ({ cls := "FarStoreModel", name := "count", desc := "(I)I" } : Jvm.MethodName)) ∈ TT := mT4 (List.mem_of_getElem? (i := 101) (by decide +kernel)) rfl
theorem tw_4_102 : (Jvm.Cond.code ({ cls := "FarStoreModel", name := "count", desc := "(I)I" } : Jvm.MethodName) prog_7_method_43_code (8 : Nat) (Option.some Jvm.ClassFile.FieldType.int)) ∈ TT := mT4 (List.mem_of_getElem? (i := 102) (by decide +kernel)) rfl
theorem tw_4_103 : (Jvm.Cond.constantLong "FarStoreLaw" (38 : Nat) (4294967295 : Int64)) ∈ TT := mT4 (List.mem_of_getElem? (i := 103) (by decide +kernel)) rfl
theorem tw_4_104 : (Jvm.Cond.castable "FarStore$Transaction" "FarStore$Transaction") ∈ TT := mT4 (List.mem_of_getElem? (i := 104) (by decide +kernel)) rfl
theorem tw_4_105 : (Jvm.Cond.castable "FarStore$Thing" "FarStore$Thing") ∈ TT := mT4 (List.mem_of_getElem? (i := 105) (by decide +kernel)) rfl
theorem tw_4_106 : (Jvm.Cond.castable "FarStore$Message" "FarStore$Message") ∈ TT := mT4 (List.mem_of_getElem? (i := 106) (by decide +kernel)) rfl
theorem tw_4_107 : (Jvm.Cond.sameMethod "[Ljava/lang/Object;" "java/lang/Object" "getClass" "()Ljava/lang/Class;") ∈ TT := mT4 (List.mem_of_getElem? (i := 107) (by decide +kernel)) rfl
theorem tw_4_108 : (Jvm.Cond.selects "[Ljava/lang/Object;" ({ cls := "java/lang/Object", name := "getClass", desc := "()Ljava/lang/Class;" } : Jvm.MethodName) ({ cls := "java/lang/Object", name := "getClass", desc := "()Ljava/lang/Class;" } : Jvm.MethodName)) ∈ TT := mT4 (List.mem_of_getElem? (i := 108) (by decide +kernel)) rfl
theorem tw_4_110 : (Jvm.Cond.castable "FarStore" "java/lang/Object") ∈ TT := mT4 (List.mem_of_getElem? (i := 110) (by decide +kernel)) rfl
theorem tw_4_111 : (Jvm.Cond.castable "FarStore$Site" "java/lang/Object") ∈ TT := mT4 (List.mem_of_getElem? (i := 111) (by decide +kernel)) rfl
theorem tw_4_112 : (Jvm.Cond.castable "FarStoreModel" "java/lang/Object") ∈ TT := mT4 (List.mem_of_getElem? (i := 112) (by decide +kernel)) rfl
theorem tw_4_113 : (Jvm.Cond.castable "FarStore$Thing" "java/lang/Object") ∈ TT := mT4 (List.mem_of_getElem? (i := 113) (by decide +kernel)) rfl
theorem tw_4_114 : (Jvm.Cond.castable "FarStore$Transaction" "java/lang/Object") ∈ TT := mT4 (List.mem_of_getElem? (i := 114) (by decide +kernel)) rfl
theorem tw_4_115 : (Jvm.Cond.castable "FarStore$Message" "java/lang/Object") ∈ TT := mT4 (List.mem_of_getElem? (i := 115) (by decide +kernel)) rfl
theorem tp_1_0 : Cond.selects "FarStore" ⟨"FarStore", "findSite", "(I)LFarStore$Site;"⟩ ⟨"FarStore", "findSite", "(I)LFarStore$Site;"⟩ ∈ TT := mP (q := (⟨"FarStore", "findSite", "(I)LFarStore$Site;"⟩, 6)) (List.mem_append_left _ (List.mem_of_getElem? (i := 0) (by decide +kernel)))
theorem tp_1_1 : Cond.selects "java/util/ArrayList" ⟨"java/util/ArrayList", "add", "(Ljava/lang/Object;[Ljava/lang/Object;I)V"⟩ ⟨"java/util/ArrayList", "add", "(Ljava/lang/Object;[Ljava/lang/Object;I)V"⟩ ∈ TT := mP (q := (⟨"java/util/ArrayList", "add", "(Ljava/lang/Object;[Ljava/lang/Object;I)V"⟩, 3)) (List.mem_append_left _ (List.mem_of_getElem? (i := 1) (by decide +kernel)))
theorem tp_1_2 : Cond.selects "java/util/ArrayList" ⟨"java/util/ArrayList", "grow", "()[Ljava/lang/Object;"⟩ ⟨"java/util/ArrayList", "grow", "()[Ljava/lang/Object;"⟩ ∈ TT := mP (q := (⟨"java/util/ArrayList", "grow", "()[Ljava/lang/Object;"⟩, 3)) (List.mem_append_left _ (List.mem_of_getElem? (i := 2) (by decide +kernel)))
theorem tp_1_3 : Cond.selects "java/util/ArrayList" ⟨"java/util/ArrayList", "grow", "(I)[Ljava/lang/Object;"⟩ ⟨"java/util/ArrayList", "grow", "(I)[Ljava/lang/Object;"⟩ ∈ TT := mP (q := (⟨"java/util/ArrayList", "grow", "(I)[Ljava/lang/Object;"⟩, 3)) (List.mem_append_left _ (List.mem_of_getElem? (i := 3) (by decide +kernel)))
theorem tp_1_4 : Cond.selects "FarStore" ⟨"FarStore", "findTransaction", "(I)LFarStore$Transaction;"⟩ ⟨"FarStore", "findTransaction", "(I)LFarStore$Transaction;"⟩ ∈ TT := mP (q := (⟨"FarStore", "findTransaction", "(I)LFarStore$Transaction;"⟩, 6)) (List.mem_append_left _ (List.mem_of_getElem? (i := 4) (by decide +kernel)))
theorem tp_1_5 : Cond.selects "FarStore" ⟨"FarStore", "findPlain", "(I)LFarStore$Thing;"⟩ ⟨"FarStore", "findPlain", "(I)LFarStore$Thing;"⟩ ∈ TT := mP (q := (⟨"FarStore", "findPlain", "(I)LFarStore$Thing;"⟩, 6)) (List.mem_append_left _ (List.mem_of_getElem? (i := 5) (by decide +kernel)))
theorem tp_1_6 : Cond.selects "FarStore" ⟨"FarStore", "findThing", "(I)LFarStore$Thing;"⟩ ⟨"FarStore", "findThing", "(I)LFarStore$Thing;"⟩ ∈ TT := mP (q := (⟨"FarStore", "findThing", "(I)LFarStore$Thing;"⟩, 6)) (List.mem_append_left _ (List.mem_of_getElem? (i := 6) (by decide +kernel)))
theorem tp_1_7 : Cond.selects "FarStore$Site" ⟨"FarStore$Site", "valueOf", "(LFarStore$Thing;[I)J"⟩ ⟨"FarStore$Site", "valueOf", "(LFarStore$Thing;[I)J"⟩ ∈ TT := mP (q := (⟨"FarStore$Site", "valueOf", "(LFarStore$Thing;[I)J"⟩, 4)) (List.mem_append_left _ (List.mem_of_getElem? (i := 7) (by decide +kernel)))
theorem tp_1_8 : Cond.selects "FarStore$Transaction" ⟨"FarStore$Transaction", "isWithin", "([I)Z"⟩ ⟨"FarStore$Transaction", "isWithin", "([I)Z"⟩ ∈ TT := mP (q := (⟨"FarStore$Transaction", "isWithin", "([I)Z"⟩, 14)) (List.mem_append_left _ (List.mem_of_getElem? (i := 8) (by decide +kernel)))
theorem tp_1_9 : Cond.selects "FarStore$Transaction" ⟨"FarStore$Transaction", "hasCommit", "()Z"⟩ ⟨"FarStore$Transaction", "hasCommit", "()Z"⟩ ∈ TT := mP (q := (⟨"FarStore$Transaction", "hasCommit", "()Z"⟩, 14)) (List.mem_append_left _ (List.mem_of_getElem? (i := 9) (by decide +kernel)))
theorem tp_1_10 : Cond.selects "FarStore" ⟨"FarStore", "findSet", "(I)LFarStore$Thing;"⟩ ⟨"FarStore", "findSet", "(I)LFarStore$Thing;"⟩ ∈ TT := mP (q := (⟨"FarStore", "findSet", "(I)LFarStore$Thing;"⟩, 6)) (List.mem_append_left _ (List.mem_of_getElem? (i := 10) (by decide +kernel)))
theorem tp_1_11 : Cond.selects "FarStore$Thing" ⟨"FarStore$Thing", "slotOf", "(I)I"⟩ ⟨"FarStore$Thing", "slotOf", "(I)I"⟩ ∈ TT := mP (q := (⟨"FarStore$Thing", "slotOf", "(I)I"⟩, 3)) (List.mem_append_left _ (List.mem_of_getElem? (i := 11) (by decide +kernel)))
theorem tp_1_12 : Cond.selects "FarStore$Site" ⟨"FarStore$Site", "countOf", "(I[I)J"⟩ ⟨"FarStore$Site", "countOf", "(I[I)J"⟩ ∈ TT := mP (q := (⟨"FarStore$Site", "countOf", "(I[I)J"⟩, 4)) (List.mem_append_left _ (List.mem_of_getElem? (i := 12) (by decide +kernel)))
theorem tp_1_13 : Cond.selects "FarStore$Transaction" ⟨"FarStore$Transaction", "put", "(LFarStore$Thing;J)V"⟩ ⟨"FarStore$Transaction", "put", "(LFarStore$Thing;J)V"⟩ ∈ TT := mP (q := (⟨"FarStore$Transaction", "put", "(LFarStore$Thing;J)V"⟩, 14)) (List.mem_append_left _ (List.mem_of_getElem? (i := 13) (by decide +kernel)))
theorem tp_1_14 : Cond.selects "FarStore$Transaction" ⟨"FarStore$Transaction", "addTo", "(II)V"⟩ ⟨"FarStore$Transaction", "addTo", "(II)V"⟩ ∈ TT := mP (q := (⟨"FarStore$Transaction", "addTo", "(II)V"⟩, 14)) (List.mem_append_left _ (List.mem_of_getElem? (i := 14) (by decide +kernel)))
theorem tp_1_15 : Cond.selects "FarStore" ⟨"FarStore", "allFree", "(LFarStore$Transaction;LFarStore$Site;)Z"⟩ ⟨"FarStore", "allFree", "(LFarStore$Transaction;LFarStore$Site;)Z"⟩ ∈ TT := mP (q := (⟨"FarStore", "allFree", "(LFarStore$Transaction;LFarStore$Site;)Z"⟩, 6)) (List.mem_append_left _ (List.mem_of_getElem? (i := 15) (by decide +kernel)))
theorem tp_2_0 : Cond.selects "FarStore$Site" ⟨"FarStore$Site", "isFree", "(LFarStore$Thing;LFarStore$Transaction;)Z"⟩ ⟨"FarStore$Site", "isFree", "(LFarStore$Thing;LFarStore$Transaction;)Z"⟩ ∈ TT := mP (q := (⟨"FarStore$Site", "isFree", "(LFarStore$Thing;LFarStore$Transaction;)Z"⟩, 4)) (List.mem_append_right _ (List.mem_append_left _ (List.mem_of_getElem? (i := 0) (by decide +kernel))))
theorem tp_2_1 : Cond.selects "FarStore" ⟨"FarStore", "hasHomesElsewhere", "(LFarStore$Transaction;)Z"⟩ ⟨"FarStore", "hasHomesElsewhere", "(LFarStore$Transaction;)Z"⟩ ∈ TT := mP (q := (⟨"FarStore", "hasHomesElsewhere", "(LFarStore$Transaction;)Z"⟩, 6)) (List.mem_append_right _ (List.mem_append_left _ (List.mem_of_getElem? (i := 1) (by decide +kernel))))
theorem tp_2_2 : Cond.selects "FarStore" ⟨"FarStore", "hasHome", "(LFarStore$Transaction;LFarStore$Site;)Z"⟩ ⟨"FarStore", "hasHome", "(LFarStore$Transaction;LFarStore$Site;)Z"⟩ ∈ TT := mP (q := (⟨"FarStore", "hasHome", "(LFarStore$Transaction;LFarStore$Site;)Z"⟩, 6)) (List.mem_append_right _ (List.mem_append_left _ (List.mem_of_getElem? (i := 2) (by decide +kernel))))
theorem tp_2_3 : Cond.selects "FarStore" ⟨"FarStore", "lockThings", "(LFarStore$Transaction;LFarStore$Site;)V"⟩ ⟨"FarStore", "lockThings", "(LFarStore$Transaction;LFarStore$Site;)V"⟩ ∈ TT := mP (q := (⟨"FarStore", "lockThings", "(LFarStore$Transaction;LFarStore$Site;)V"⟩, 6)) (List.mem_append_right _ (List.mem_append_left _ (List.mem_of_getElem? (i := 3) (by decide +kernel))))
theorem tp_2_4 : Cond.selects "FarStore" ⟨"FarStore", "tellHomes", "(LFarStore$Transaction;I)I"⟩ ⟨"FarStore", "tellHomes", "(LFarStore$Transaction;I)I"⟩ ∈ TT := mP (q := (⟨"FarStore", "tellHomes", "(LFarStore$Transaction;I)I"⟩, 6)) (List.mem_append_right _ (List.mem_append_left _ (List.mem_of_getElem? (i := 4) (by decide +kernel))))
theorem tp_2_5 : Cond.selects "FarStore" ⟨"FarStore", "post", "(ILFarStore$Site;LFarStore$Site;LFarStore$Transaction;)V"⟩ ⟨"FarStore", "post", "(ILFarStore$Site;LFarStore$Site;LFarStore$Transaction;)V"⟩ ∈ TT := mP (q := (⟨"FarStore", "post", "(ILFarStore$Site;LFarStore$Site;LFarStore$Transaction;)V"⟩, 6)) (List.mem_append_right _ (List.mem_append_left _ (List.mem_of_getElem? (i := 5) (by decide +kernel))))
theorem tp_2_6 : Cond.selects "FarStore" ⟨"FarStore", "makeCommitted", "(LFarStore$Transaction;)V"⟩ ⟨"FarStore", "makeCommitted", "(LFarStore$Transaction;)V"⟩ ∈ TT := mP (q := (⟨"FarStore", "makeCommitted", "(LFarStore$Transaction;)V"⟩, 6)) (List.mem_append_right _ (List.mem_append_left _ (List.mem_of_getElem? (i := 6) (by decide +kernel))))
theorem tp_2_7 : Cond.selects "FarStore$Transaction" ⟨"FarStore$Transaction", "wroteAnything", "()Z"⟩ ⟨"FarStore$Transaction", "wroteAnything", "()Z"⟩ ∈ TT := mP (q := (⟨"FarStore$Transaction", "wroteAnything", "()Z"⟩, 14)) (List.mem_append_right _ (List.mem_append_left _ (List.mem_of_getElem? (i := 7) (by decide +kernel))))
theorem tp_2_8 : Cond.selects "FarStore$Site" ⟨"FarStore$Site", "take", "(LFarStore$Transaction;)V"⟩ ⟨"FarStore$Site", "take", "(LFarStore$Transaction;)V"⟩ ∈ TT := mP (q := (⟨"FarStore$Site", "take", "(LFarStore$Transaction;)V"⟩, 4)) (List.mem_append_right _ (List.mem_append_left _ (List.mem_of_getElem? (i := 8) (by decide +kernel))))
theorem tp_2_9 : Cond.selects "FarStore$Site" ⟨"FarStore$Site", "unlock", "(LFarStore$Transaction;)V"⟩ ⟨"FarStore$Site", "unlock", "(LFarStore$Transaction;)V"⟩ ∈ TT := mP (q := (⟨"FarStore$Site", "unlock", "(LFarStore$Transaction;)V"⟩, 4)) (List.mem_append_right _ (List.mem_append_left _ (List.mem_of_getElem? (i := 9) (by decide +kernel))))
theorem tp_2_10 : Cond.selects "FarStore" ⟨"FarStore", "tellOthers", "(LFarStore$Transaction;I)V"⟩ ⟨"FarStore", "tellOthers", "(LFarStore$Transaction;I)V"⟩ ∈ TT := mP (q := (⟨"FarStore", "tellOthers", "(LFarStore$Transaction;I)V"⟩, 6)) (List.mem_append_right _ (List.mem_append_left _ (List.mem_of_getElem? (i := 10) (by decide +kernel))))
theorem tp_2_11 : Cond.selects "FarStore" ⟨"FarStore", "findMessage", "(I)LFarStore$Message;"⟩ ⟨"FarStore", "findMessage", "(I)LFarStore$Message;"⟩ ∈ TT := mP (q := (⟨"FarStore", "findMessage", "(I)LFarStore$Message;"⟩, 6)) (List.mem_append_right _ (List.mem_append_left _ (List.mem_of_getElem? (i := 11) (by decide +kernel))))
theorem tp_2_12 : Cond.selects "FarStore$Message" ⟨"FarStore$Message", "canCome", "()Z"⟩ ⟨"FarStore$Message", "canCome", "()Z"⟩ ∈ TT := mP (q := (⟨"FarStore$Message", "canCome", "()Z"⟩, 4)) (List.mem_append_right _ (List.mem_append_left _ (List.mem_of_getElem? (i := 12) (by decide +kernel))))
theorem tp_2_13 : Cond.selects "FarStore$Site" ⟨"FarStore$Site", "canTake", "(LFarStore$Transaction;)Z"⟩ ⟨"FarStore$Site", "canTake", "(LFarStore$Transaction;)Z"⟩ ∈ TT := mP (q := (⟨"FarStore$Site", "canTake", "(LFarStore$Transaction;)Z"⟩, 4)) (List.mem_append_right _ (List.mem_append_left _ (List.mem_of_getElem? (i := 13) (by decide +kernel))))
theorem tp_2_14 : Cond.selects "java/util/ArrayList" ⟨"java/util/ArrayList", "fastRemove", "([Ljava/lang/Object;I)V"⟩ ⟨"java/util/ArrayList", "fastRemove", "([Ljava/lang/Object;I)V"⟩ ∈ TT := mP (q := (⟨"java/util/ArrayList", "fastRemove", "([Ljava/lang/Object;I)V"⟩, 3)) (List.mem_append_right _ (List.mem_append_left _ (List.mem_of_getElem? (i := 14) (by decide +kernel))))
theorem tp_2_15 : Cond.selects "FarStore" ⟨"FarStore", "receive", "(LFarStore$Message;)V"⟩ ⟨"FarStore", "receive", "(LFarStore$Message;)V"⟩ ∈ TT := mP (q := (⟨"FarStore", "receive", "(LFarStore$Message;)V"⟩, 6)) (List.mem_append_right _ (List.mem_append_left _ (List.mem_of_getElem? (i := 15) (by decide +kernel))))
theorem tp_3_0 : Cond.selects "FarStore" ⟨"FarStore", "receiveAsk", "(LFarStore$Message;)V"⟩ ⟨"FarStore", "receiveAsk", "(LFarStore$Message;)V"⟩ ∈ TT := mP (q := (⟨"FarStore", "receiveAsk", "(LFarStore$Message;)V"⟩, 6)) (List.mem_append_right _ (List.mem_append_right _ (List.mem_append_left _ (List.mem_of_getElem? (i := 0) (by decide +kernel)))))
theorem tp_3_1 : Cond.selects "FarStore" ⟨"FarStore", "receiveYes", "(LFarStore$Transaction;)V"⟩ ⟨"FarStore", "receiveYes", "(LFarStore$Transaction;)V"⟩ ∈ TT := mP (q := (⟨"FarStore", "receiveYes", "(LFarStore$Transaction;)V"⟩, 6)) (List.mem_append_right _ (List.mem_append_right _ (List.mem_append_left _ (List.mem_of_getElem? (i := 1) (by decide +kernel)))))
theorem tp_3_2 : Cond.selects "FarStore" ⟨"FarStore", "receiveNo", "(LFarStore$Transaction;)V"⟩ ⟨"FarStore", "receiveNo", "(LFarStore$Transaction;)V"⟩ ∈ TT := mP (q := (⟨"FarStore", "receiveNo", "(LFarStore$Transaction;)V"⟩, 6)) (List.mem_append_right _ (List.mem_append_right _ (List.mem_append_left _ (List.mem_of_getElem? (i := 2) (by decide +kernel)))))
theorem tp_3_3 : Cond.selects "FarStore" ⟨"FarStore", "receiveDrop", "(LFarStore$Message;)V"⟩ ⟨"FarStore", "receiveDrop", "(LFarStore$Message;)V"⟩ ∈ TT := mP (q := (⟨"FarStore", "receiveDrop", "(LFarStore$Message;)V"⟩, 6)) (List.mem_append_right _ (List.mem_append_right _ (List.mem_append_left _ (List.mem_of_getElem? (i := 3) (by decide +kernel)))))
theorem tp_3_4 : Cond.selects "FarStore" ⟨"FarStore", "receiveSend", "(LFarStore$Message;)V"⟩ ⟨"FarStore", "receiveSend", "(LFarStore$Message;)V"⟩ ∈ TT := mP (q := (⟨"FarStore", "receiveSend", "(LFarStore$Message;)V"⟩, 6)) (List.mem_append_right _ (List.mem_append_right _ (List.mem_append_left _ (List.mem_of_getElem? (i := 4) (by decide +kernel)))))
theorem tp_3_5 : Cond.selects "FarStore" ⟨"FarStore", "firstThatCanCome", "()I"⟩ ⟨"FarStore", "firstThatCanCome", "()I"⟩ ∈ TT := mP (q := (⟨"FarStore", "firstThatCanCome", "()I"⟩, 6)) (List.mem_append_right _ (List.mem_append_right _ (List.mem_append_left _ (List.mem_of_getElem? (i := 5) (by decide +kernel)))))
theorem tp_3_6 : Cond.selects "FarStore" ⟨"FarStore", "isSafe", "(LFarStore$Transaction;)Z"⟩ ⟨"FarStore", "isSafe", "(LFarStore$Transaction;)Z"⟩ ∈ TT := mP (q := (⟨"FarStore", "isSafe", "(LFarStore$Transaction;)Z"⟩, 6)) (List.mem_append_right _ (List.mem_append_right _ (List.mem_append_left _ (List.mem_of_getElem? (i := 6) (by decide +kernel)))))
theorem tp_3_7 : Cond.selects "FarStore" ⟨"FarStore", "isEverywhere", "(LFarStore$Transaction;)Z"⟩ ⟨"FarStore", "isEverywhere", "(LFarStore$Transaction;)Z"⟩ ∈ TT := mP (q := (⟨"FarStore", "isEverywhere", "(LFarStore$Transaction;)Z"⟩, 6)) (List.mem_append_right _ (List.mem_append_right _ (List.mem_append_left _ (List.mem_of_getElem? (i := 7) (by decide +kernel)))))
theorem tp_3_8 : Cond.selects "FarStore" ⟨"FarStore", "howManyAre", "(I)I"⟩ ⟨"FarStore", "howManyAre", "(I)I"⟩ ∈ TT := mP (q := (⟨"FarStore", "howManyAre", "(I)I"⟩, 6)) (List.mem_append_right _ (List.mem_append_right _ (List.mem_append_left _ (List.mem_of_getElem? (i := 8) (by decide +kernel)))))
theorem tp_3_9 : Cond.selects "FarStore" ⟨"FarStore", "howManyCommits", "()I"⟩ ⟨"FarStore", "howManyCommits", "()I"⟩ ∈ TT := mP (q := (⟨"FarStore", "howManyCommits", "()I"⟩, 6)) (List.mem_append_right _ (List.mem_append_right _ (List.mem_append_left _ (List.mem_of_getElem? (i := 9) (by decide +kernel)))))
theorem tp_3_10 : Cond.selects "FarStore" ⟨"FarStore", "howManyLocks", "()I"⟩ ⟨"FarStore", "howManyLocks", "()I"⟩ ∈ TT := mP (q := (⟨"FarStore", "howManyLocks", "()I"⟩, 6)) (List.mem_append_right _ (List.mem_append_right _ (List.mem_append_left _ (List.mem_of_getElem? (i := 10) (by decide +kernel)))))
theorem tp_3_11 : Cond.selects "FarStore$Site" ⟨"FarStore$Site", "howManyLocked", "()I"⟩ ⟨"FarStore$Site", "howManyLocked", "()I"⟩ ∈ TT := mP (q := (⟨"FarStore$Site", "howManyLocked", "()I"⟩, 4)) (List.mem_append_right _ (List.mem_append_right _ (List.mem_append_left _ (List.mem_of_getElem? (i := 11) (by decide +kernel)))))
theorem tp_3_12 : Cond.selects "FarStore" ⟨"FarStore", "howManySafe", "()I"⟩ ⟨"FarStore", "howManySafe", "()I"⟩ ∈ TT := mP (q := (⟨"FarStore", "howManySafe", "()I"⟩, 6)) (List.mem_append_right _ (List.mem_append_right _ (List.mem_append_left _ (List.mem_of_getElem? (i := 12) (by decide +kernel)))))
theorem tp_3_13 : Cond.selects "FarStoreModel" ⟨"FarStoreModel", "isSite", "(I)Z"⟩ ⟨"FarStoreModel", "isSite", "(I)Z"⟩ ∈ TT := mP (q := (⟨"FarStoreModel", "isSite", "(I)Z"⟩, 27)) (List.mem_append_right _ (List.mem_append_right _ (List.mem_append_left _ (List.mem_of_getElem? (i := 13) (by decide +kernel)))))
theorem tp_3_14 : Cond.selects "FarStoreModel" ⟨"FarStoreModel", "is", "(I)Z"⟩ ⟨"FarStoreModel", "is", "(I)Z"⟩ ∈ TT := mP (q := (⟨"FarStoreModel", "is", "(I)Z"⟩, 27)) (List.mem_append_right _ (List.mem_append_right _ (List.mem_append_left _ (List.mem_of_getElem? (i := 14) (by decide +kernel)))))
theorem tp_3_15 : Cond.selects "FarStoreModel" ⟨"FarStoreModel", "isThing", "(I)Z"⟩ ⟨"FarStoreModel", "isThing", "(I)Z"⟩ ∈ TT := mP (q := (⟨"FarStoreModel", "isThing", "(I)Z"⟩, 27)) (List.mem_append_right _ (List.mem_append_right _ (List.mem_append_left _ (List.mem_of_getElem? (i := 15) (by decide +kernel)))))
theorem tp_4_0 : Cond.selects "FarStoreModel" ⟨"FarStoreModel", "has", "(II)Z"⟩ ⟨"FarStoreModel", "has", "(II)Z"⟩ ∈ TT := mP (q := (⟨"FarStoreModel", "has", "(II)Z"⟩, 27)) (List.mem_append_right _ (List.mem_append_right _ (List.mem_append_right _ (List.mem_of_getElem? (i := 0) (by decide +kernel)))))
theorem tp_4_1 : Cond.selects "FarStoreModel" ⟨"FarStoreModel", "plain", "(I)I"⟩ ⟨"FarStoreModel", "plain", "(I)I"⟩ ∈ TT := mP (q := (⟨"FarStoreModel", "plain", "(I)I"⟩, 27)) (List.mem_append_right _ (List.mem_append_right _ (List.mem_append_right _ (List.mem_of_getElem? (i := 1) (by decide +kernel)))))
theorem tp_4_2 : Cond.selects "FarStoreModel" ⟨"FarStoreModel", "areFree", "(II)Z"⟩ ⟨"FarStoreModel", "areFree", "(II)Z"⟩ ∈ TT := mP (q := (⟨"FarStoreModel", "areFree", "(II)Z"⟩, 27)) (List.mem_append_right _ (List.mem_append_right _ (List.mem_append_right _ (List.mem_of_getElem? (i := 2) (by decide +kernel)))))
theorem tp_4_3 : Cond.selects "FarStoreModel" ⟨"FarStoreModel", "isFree", "(III)Z"⟩ ⟨"FarStoreModel", "isFree", "(III)Z"⟩ ∈ TT := mP (q := (⟨"FarStoreModel", "isFree", "(III)Z"⟩, 27)) (List.mem_append_right _ (List.mem_append_right _ (List.mem_append_right _ (List.mem_of_getElem? (i := 3) (by decide +kernel)))))
theorem tp_4_4 : Cond.selects "FarStoreModel" ⟨"FarStoreModel", "becomes", "(I)V"⟩ ⟨"FarStoreModel", "becomes", "(I)V"⟩ ∈ TT := mP (q := (⟨"FarStoreModel", "becomes", "(I)V"⟩, 27)) (List.mem_append_right _ (List.mem_append_right _ (List.mem_append_right _ (List.mem_of_getElem? (i := 4) (by decide +kernel)))))
theorem tp_4_5 : Cond.selects "FarStoreModel" ⟨"FarStoreModel", "comes", "(IIZ)V"⟩ ⟨"FarStoreModel", "comes", "(IIZ)V"⟩ ∈ TT := mP (q := (⟨"FarStoreModel", "comes", "(IIZ)V"⟩, 27)) (List.mem_append_right _ (List.mem_append_right _ (List.mem_append_right _ (List.mem_of_getElem? (i := 5) (by decide +kernel)))))
theorem tp_4_6 : Cond.selects "FarStoreModel" ⟨"FarStoreModel", "unlock", "(II)V"⟩ ⟨"FarStoreModel", "unlock", "(II)V"⟩ ∈ TT := mP (q := (⟨"FarStoreModel", "unlock", "(II)V"⟩, 27)) (List.mem_append_right _ (List.mem_append_right _ (List.mem_append_right _ (List.mem_of_getElem? (i := 6) (by decide +kernel)))))
theorem tp_4_7 : Cond.selects "FarStoreModel" ⟨"FarStoreModel", "send", "(IIII)V"⟩ ⟨"FarStoreModel", "send", "(IIII)V"⟩ ∈ TT := mP (q := (⟨"FarStoreModel", "send", "(IIII)V"⟩, 27)) (List.mem_append_right _ (List.mem_append_right _ (List.mem_append_right _ (List.mem_of_getElem? (i := 7) (by decide +kernel)))))
theorem tp_4_8 : Cond.selects "FarStoreModel" ⟨"FarStoreModel", "lock", "(II)V"⟩ ⟨"FarStoreModel", "lock", "(II)V"⟩ ∈ TT := mP (q := (⟨"FarStoreModel", "lock", "(II)V"⟩, 27)) (List.mem_append_right _ (List.mem_append_right _ (List.mem_append_right _ (List.mem_of_getElem? (i := 8) (by decide +kernel)))))
theorem tp_4_9 : Cond.selects "FarStoreModel" ⟨"FarStoreModel", "writesAt", "(II)Z"⟩ ⟨"FarStoreModel", "writesAt", "(II)Z"⟩ ∈ TT := mP (q := (⟨"FarStoreModel", "writesAt", "(II)Z"⟩, 27)) (List.mem_append_right _ (List.mem_append_right _ (List.mem_append_right _ (List.mem_of_getElem? (i := 9) (by decide +kernel)))))
theorem tp_4_10 : Cond.selects "FarStoreModel" ⟨"FarStoreModel", "isMessage", "(I)Z"⟩ ⟨"FarStoreModel", "isMessage", "(I)Z"⟩ ∈ TT := mP (q := (⟨"FarStoreModel", "isMessage", "(I)Z"⟩, 27)) (List.mem_append_right _ (List.mem_append_right _ (List.mem_append_right _ (List.mem_of_getElem? (i := 10) (by decide +kernel)))))
theorem tp_4_11 : Cond.selects "FarStoreModel" ⟨"FarStoreModel", "canCome", "(I)Z"⟩ ⟨"FarStoreModel", "canCome", "(I)Z"⟩ ∈ TT := mP (q := (⟨"FarStoreModel", "canCome", "(I)Z"⟩, 27)) (List.mem_append_right _ (List.mem_append_right _ (List.mem_append_right _ (List.mem_of_getElem? (i := 11) (by decide +kernel)))))
theorem tp_4_12 : Cond.selects "FarStoreModel" ⟨"FarStoreModel", "comesNow", "(I)I"⟩ ⟨"FarStoreModel", "comesNow", "(I)I"⟩ ∈ TT := mP (q := (⟨"FarStoreModel", "comesNow", "(I)I"⟩, 27)) (List.mem_append_right _ (List.mem_append_right _ (List.mem_append_right _ (List.mem_of_getElem? (i := 12) (by decide +kernel)))))
theorem tp_4_13 : Cond.selects "FarStoreModel" ⟨"FarStoreModel", "refused", "(I)V"⟩ ⟨"FarStoreModel", "refused", "(I)V"⟩ ∈ TT := mP (q := (⟨"FarStoreModel", "refused", "(I)V"⟩, 27)) (List.mem_append_right _ (List.mem_append_right _ (List.mem_append_right _ (List.mem_of_getElem? (i := 13) (by decide +kernel)))))
theorem tp_4_14 : Cond.selects "FarStoreModel" ⟨"FarStoreModel", "isSafe", "(I)Z"⟩ ⟨"FarStoreModel", "isSafe", "(I)Z"⟩ ∈ TT := mP (q := (⟨"FarStoreModel", "isSafe", "(I)Z"⟩, 27)) (List.mem_append_right _ (List.mem_append_right _ (List.mem_append_right _ (List.mem_of_getElem? (i := 14) (by decide +kernel)))))
set_option maxRecDepth 100000 in
theorem in_X0 : ∀ w ∈ u_ws RX0 TX0 4, w ∈ TT := by decide +kernel
set_option maxRecDepth 100000 in
theorem in_X1 : ∀ w ∈ u_ws RX1 TX1 4, w ∈ TT := by decide +kernel
set_option maxRecDepth 100000 in
theorem in_X2 : ∀ w ∈ u_ws RX2 TX2 3, w ∈ TT := by decide +kernel
set_option maxRecDepth 100000 in
theorem in_X3 : ∀ w ∈ u_ws RX3 TX3 14, w ∈ TT := by decide +kernel
set_option maxRecDepth 100000 in
theorem in_X4 : ∀ w ∈ u_ws RX4 TX4 6, w ∈ TT := by decide +kernel
set_option maxRecDepth 100000 in
theorem in_X5 : ∀ w ∈ u_ws RX5 TX5 27, w ∈ TT := by decide +kernel
set_option maxRecDepth 100000 in
theorem in_AL : ∀ w ∈ u_ws RJx4a65c TJx4a65c 3, w ∈ TT := by decide +kernel
end
section
def vN (u : St) (f i j : Nat) (v : Nat) : St := (u.1, uN u.2.1 f i j v, u.2.2)
def wN (u : St) (f i j : Nat) (v : Nat) : St := (u.1, u.2.1, uN u.2.2 f i j v)
def vB (u : St) (f i j : Nat) (v : Bool) : St := (u.1, uB u.2.1 f i j v, u.2.2)
def wB (u : St) (f i j : Nat) (v : Bool) : St := (u.1, u.2.1, uB u.2.2 f i j v)
def vI (u : St) (f i j : Nat) (v : Int32) : St := (u.1, uI u.2.1 f i j v, u.2.2)
def wI (u : St) (f i j : Nat) (v : Int32) : St := (u.1, u.2.1, uI u.2.2 f i j v)
def vJ (u : St) (f i j : Nat) (v : Int64) : St := (u.1, uJ u.2.1 f i j v, u.2.2)
def wJ (u : St) (f i j : Nat) (v : Int64) : St := (u.1, u.2.1, uJ u.2.2 f i j v)
set_option maxHeartbeats 1000000 in
theorem cu_N0 (env : Ev) (u : St) (i : Nat) (v : Nat) : ∀ k' i', cn env (vN u 0 i 0 v) k' i' = if k' = 0 ∧ i' = i then .inr (5, ([.ref (sA u 1 0), .int (nI (gN u.2.1 0 i 0)), .int (nI (gN u.2.1 1 i 0)), .ref (sA u 2 0), .ref (sA u 2 1), .ref (sA u 2 2)] : List Value).set 1 (.int (nI (v)))) else cn env u k' i' := by
  intro k' i'
  match k' with
  | 0 =>
    by_cases h : i' = i
    · subst h; simp [cn, vN, wN, uN, up3, gN, gB, gI, gJ, sA, sM, sE]
    · simp [cn, vN, wN, uN, up3, gN, gB, gI, gJ, sA, sM, sE, h]
  | 1 => rfl
  | 2 => rfl
  | 3 => rfl
  | 4 => rfl
  | 5 => rfl
  | 6 => rfl
  | 7 => rfl
  | 8 => rfl
  | 9 => rfl
  | 10 => rfl
  | 11 => rfl
  | 12 => rfl
  | 13 => rfl
  | 14 => rfl
  | 15 => rfl
  | 16 => rfl
  | 17 => rfl
  | 18 => rfl
  | 19 => rfl
  | 20 => rfl
  | 21 => rfl
  | 22 => rfl
  | 23 => rfl
  | 24 => rfl
  | 25 => rfl
  | 26 => rfl
  | 27 => rfl
  | 28 => rfl
  | 29 => rfl
  | 30 => rfl
  | 31 => rfl
  | 32 => rfl
  | 33 => rfl
  | 34 => rfl
  | 35 => rfl
  | 36 => rfl
  | 37 => rfl
  | 38 => rfl
  | 39 => rfl
  | 40 => rfl
  | 41 => rfl
  | 42 => rfl
  | 43 => rfl
  | 44 => rfl
  | 45 => rfl
  | 46 => rfl
  | 47 => rfl
  | _ + 48 => rfl
set_option maxHeartbeats 1000000 in
theorem cu_N1 (env : Ev) (u : St) (i : Nat) (v : Nat) : ∀ k' i', cn env (vN u 1 i 0 v) k' i' = if k' = 0 ∧ i' = i then .inr (5, ([.ref (sA u 1 0), .int (nI (gN u.2.1 0 i 0)), .int (nI (gN u.2.1 1 i 0)), .ref (sA u 2 0), .ref (sA u 2 1), .ref (sA u 2 2)] : List Value).set 2 (.int (nI (v)))) else cn env u k' i' := by
  intro k' i'
  match k' with
  | 0 =>
    by_cases h : i' = i
    · subst h; simp [cn, vN, wN, uN, up3, gN, gB, gI, gJ, sA, sM, sE]
    · simp [cn, vN, wN, uN, up3, gN, gB, gI, gJ, sA, sM, sE, h]
  | 1 => rfl
  | 2 => rfl
  | 3 => rfl
  | 4 => rfl
  | 5 => rfl
  | 6 => rfl
  | 7 => rfl
  | 8 => rfl
  | 9 => rfl
  | 10 => rfl
  | 11 => rfl
  | 12 => rfl
  | 13 => rfl
  | 14 => rfl
  | 15 => rfl
  | 16 => rfl
  | 17 => rfl
  | 18 => rfl
  | 19 => rfl
  | 20 => rfl
  | 21 => rfl
  | 22 => rfl
  | 23 => rfl
  | 24 => rfl
  | 25 => rfl
  | 26 => rfl
  | 27 => rfl
  | 28 => rfl
  | 29 => rfl
  | 30 => rfl
  | 31 => rfl
  | 32 => rfl
  | 33 => rfl
  | 34 => rfl
  | 35 => rfl
  | 36 => rfl
  | 37 => rfl
  | 38 => rfl
  | 39 => rfl
  | 40 => rfl
  | 41 => rfl
  | 42 => rfl
  | 43 => rfl
  | 44 => rfl
  | 45 => rfl
  | 46 => rfl
  | 47 => rfl
  | _ + 48 => rfl
set_option maxHeartbeats 1000000 in
theorem cu_N3 (env : Ev) (u : St) (i : Nat) (v : Nat) : ∀ k' i', cn env (vN u 3 i 0 v) k' i' = if k' = 2 ∧ i' = i then .inr (0, ([.int (nI (sM u 1 i)), .ref (sA u 3 i), .int (nI (gN u.2.1 3 i 0))] : List Value).set 2 (.int (nI (v)))) else cn env u k' i' := by
  intro k' i'
  match k' with
  | 2 =>
    by_cases h : i' = i
    · subst h; simp [cn, vN, wN, uN, up3, gN, gB, gI, gJ, sA, sM, sE]
    · simp [cn, vN, wN, uN, up3, gN, gB, gI, gJ, sA, sM, sE, h]
  | 0 => rfl
  | 1 => rfl
  | 3 => rfl
  | 4 => rfl
  | 5 => rfl
  | 6 => rfl
  | 7 => rfl
  | 8 => rfl
  | 9 => rfl
  | 10 => rfl
  | 11 => rfl
  | 12 => rfl
  | 13 => rfl
  | 14 => rfl
  | 15 => rfl
  | 16 => rfl
  | 17 => rfl
  | 18 => rfl
  | 19 => rfl
  | 20 => rfl
  | 21 => rfl
  | 22 => rfl
  | 23 => rfl
  | 24 => rfl
  | 25 => rfl
  | 26 => rfl
  | 27 => rfl
  | 28 => rfl
  | 29 => rfl
  | 30 => rfl
  | 31 => rfl
  | 32 => rfl
  | 33 => rfl
  | 34 => rfl
  | 35 => rfl
  | 36 => rfl
  | 37 => rfl
  | 38 => rfl
  | 39 => rfl
  | 40 => rfl
  | 41 => rfl
  | 42 => rfl
  | 43 => rfl
  | 44 => rfl
  | 45 => rfl
  | 46 => rfl
  | 47 => rfl
  | _ + 48 => rfl
set_option maxHeartbeats 1000000 in
theorem cu_B14 (env : Ev) (u : St) (i : Nat) (v : Bool) : ∀ k' i', cn env (vB u 14 i 0 v) k' i' = if k' = 8 ∧ i' = i then .inr (4, ([.int (nI i), .ref (sA u 5 (gN u.2.1 26 i 0)), .ref (sA u 9 i), .ref (sA u 10 i), .ref (sA u 11 i), .ref (sA u 12 i), .ref (sA u 13 i), .int (b2i (gB u.2.1 14 i 0)), .int (nI (gN u.2.1 15 i 0)), .int (nI (gN u.2.1 16 i 0)), .int (nI (gN u.2.1 17 i 0)), .int (nI (gN u.2.1 18 i 0)), .int (nI (gN u.2.1 19 i 0)), .int (nI (gN u.2.1 20 i 0))] : List Value).set 7 (.int (b2i (v)))) else cn env u k' i' := by
  intro k' i'
  match k' with
  | 8 =>
    by_cases h : i' = i
    · subst h; simp [cn, vB, wB, uB, up3, gN, gB, gI, gJ, sA, sM, sE]
    · simp [cn, vB, wB, uB, up3, gN, gB, gI, gJ, sA, sM, sE, h]
  | 0 => rfl
  | 1 => rfl
  | 2 => rfl
  | 3 => rfl
  | 4 => rfl
  | 5 => rfl
  | 6 => rfl
  | 7 => rfl
  | 9 => rfl
  | 10 => rfl
  | 11 => rfl
  | 12 => rfl
  | 13 => rfl
  | 14 => rfl
  | 15 => rfl
  | 16 => rfl
  | 17 => rfl
  | 18 => rfl
  | 19 => rfl
  | 20 => rfl
  | 21 => rfl
  | 22 => rfl
  | 23 => rfl
  | 24 => rfl
  | 25 => rfl
  | 26 => rfl
  | 27 => rfl
  | 28 => rfl
  | 29 => rfl
  | 30 => rfl
  | 31 => rfl
  | 32 => rfl
  | 33 => rfl
  | 34 => rfl
  | 35 => rfl
  | 36 => rfl
  | 37 => rfl
  | 38 => rfl
  | 39 => rfl
  | 40 => rfl
  | 41 => rfl
  | 42 => rfl
  | 43 => rfl
  | 44 => rfl
  | 45 => rfl
  | 46 => rfl
  | 47 => rfl
  | _ + 48 => rfl
set_option maxHeartbeats 1000000 in
theorem cu_N15 (env : Ev) (u : St) (i : Nat) (v : Nat) : ∀ k' i', cn env (vN u 15 i 0 v) k' i' = if k' = 8 ∧ i' = i then .inr (4, ([.int (nI i), .ref (sA u 5 (gN u.2.1 26 i 0)), .ref (sA u 9 i), .ref (sA u 10 i), .ref (sA u 11 i), .ref (sA u 12 i), .ref (sA u 13 i), .int (b2i (gB u.2.1 14 i 0)), .int (nI (gN u.2.1 15 i 0)), .int (nI (gN u.2.1 16 i 0)), .int (nI (gN u.2.1 17 i 0)), .int (nI (gN u.2.1 18 i 0)), .int (nI (gN u.2.1 19 i 0)), .int (nI (gN u.2.1 20 i 0))] : List Value).set 8 (.int (nI (v)))) else cn env u k' i' := by
  intro k' i'
  match k' with
  | 8 =>
    by_cases h : i' = i
    · subst h; simp [cn, vN, wN, uN, up3, gN, gB, gI, gJ, sA, sM, sE]
    · simp [cn, vN, wN, uN, up3, gN, gB, gI, gJ, sA, sM, sE, h]
  | 0 => rfl
  | 1 => rfl
  | 2 => rfl
  | 3 => rfl
  | 4 => rfl
  | 5 => rfl
  | 6 => rfl
  | 7 => rfl
  | 9 => rfl
  | 10 => rfl
  | 11 => rfl
  | 12 => rfl
  | 13 => rfl
  | 14 => rfl
  | 15 => rfl
  | 16 => rfl
  | 17 => rfl
  | 18 => rfl
  | 19 => rfl
  | 20 => rfl
  | 21 => rfl
  | 22 => rfl
  | 23 => rfl
  | 24 => rfl
  | 25 => rfl
  | 26 => rfl
  | 27 => rfl
  | 28 => rfl
  | 29 => rfl
  | 30 => rfl
  | 31 => rfl
  | 32 => rfl
  | 33 => rfl
  | 34 => rfl
  | 35 => rfl
  | 36 => rfl
  | 37 => rfl
  | 38 => rfl
  | 39 => rfl
  | 40 => rfl
  | 41 => rfl
  | 42 => rfl
  | 43 => rfl
  | 44 => rfl
  | 45 => rfl
  | 46 => rfl
  | 47 => rfl
  | _ + 48 => rfl
set_option maxHeartbeats 1000000 in
theorem cu_N16 (env : Ev) (u : St) (i : Nat) (v : Nat) : ∀ k' i', cn env (vN u 16 i 0 v) k' i' = if k' = 8 ∧ i' = i then .inr (4, ([.int (nI i), .ref (sA u 5 (gN u.2.1 26 i 0)), .ref (sA u 9 i), .ref (sA u 10 i), .ref (sA u 11 i), .ref (sA u 12 i), .ref (sA u 13 i), .int (b2i (gB u.2.1 14 i 0)), .int (nI (gN u.2.1 15 i 0)), .int (nI (gN u.2.1 16 i 0)), .int (nI (gN u.2.1 17 i 0)), .int (nI (gN u.2.1 18 i 0)), .int (nI (gN u.2.1 19 i 0)), .int (nI (gN u.2.1 20 i 0))] : List Value).set 9 (.int (nI (v)))) else cn env u k' i' := by
  intro k' i'
  match k' with
  | 8 =>
    by_cases h : i' = i
    · subst h; simp [cn, vN, wN, uN, up3, gN, gB, gI, gJ, sA, sM, sE]
    · simp [cn, vN, wN, uN, up3, gN, gB, gI, gJ, sA, sM, sE, h]
  | 0 => rfl
  | 1 => rfl
  | 2 => rfl
  | 3 => rfl
  | 4 => rfl
  | 5 => rfl
  | 6 => rfl
  | 7 => rfl
  | 9 => rfl
  | 10 => rfl
  | 11 => rfl
  | 12 => rfl
  | 13 => rfl
  | 14 => rfl
  | 15 => rfl
  | 16 => rfl
  | 17 => rfl
  | 18 => rfl
  | 19 => rfl
  | 20 => rfl
  | 21 => rfl
  | 22 => rfl
  | 23 => rfl
  | 24 => rfl
  | 25 => rfl
  | 26 => rfl
  | 27 => rfl
  | 28 => rfl
  | 29 => rfl
  | 30 => rfl
  | 31 => rfl
  | 32 => rfl
  | 33 => rfl
  | 34 => rfl
  | 35 => rfl
  | 36 => rfl
  | 37 => rfl
  | 38 => rfl
  | 39 => rfl
  | 40 => rfl
  | 41 => rfl
  | 42 => rfl
  | 43 => rfl
  | 44 => rfl
  | 45 => rfl
  | 46 => rfl
  | 47 => rfl
  | _ + 48 => rfl
set_option maxHeartbeats 1000000 in
theorem cu_N17 (env : Ev) (u : St) (i : Nat) (v : Nat) : ∀ k' i', cn env (vN u 17 i 0 v) k' i' = if k' = 8 ∧ i' = i then .inr (4, ([.int (nI i), .ref (sA u 5 (gN u.2.1 26 i 0)), .ref (sA u 9 i), .ref (sA u 10 i), .ref (sA u 11 i), .ref (sA u 12 i), .ref (sA u 13 i), .int (b2i (gB u.2.1 14 i 0)), .int (nI (gN u.2.1 15 i 0)), .int (nI (gN u.2.1 16 i 0)), .int (nI (gN u.2.1 17 i 0)), .int (nI (gN u.2.1 18 i 0)), .int (nI (gN u.2.1 19 i 0)), .int (nI (gN u.2.1 20 i 0))] : List Value).set 10 (.int (nI (v)))) else cn env u k' i' := by
  intro k' i'
  match k' with
  | 8 =>
    by_cases h : i' = i
    · subst h; simp [cn, vN, wN, uN, up3, gN, gB, gI, gJ, sA, sM, sE]
    · simp [cn, vN, wN, uN, up3, gN, gB, gI, gJ, sA, sM, sE, h]
  | 0 => rfl
  | 1 => rfl
  | 2 => rfl
  | 3 => rfl
  | 4 => rfl
  | 5 => rfl
  | 6 => rfl
  | 7 => rfl
  | 9 => rfl
  | 10 => rfl
  | 11 => rfl
  | 12 => rfl
  | 13 => rfl
  | 14 => rfl
  | 15 => rfl
  | 16 => rfl
  | 17 => rfl
  | 18 => rfl
  | 19 => rfl
  | 20 => rfl
  | 21 => rfl
  | 22 => rfl
  | 23 => rfl
  | 24 => rfl
  | 25 => rfl
  | 26 => rfl
  | 27 => rfl
  | 28 => rfl
  | 29 => rfl
  | 30 => rfl
  | 31 => rfl
  | 32 => rfl
  | 33 => rfl
  | 34 => rfl
  | 35 => rfl
  | 36 => rfl
  | 37 => rfl
  | 38 => rfl
  | 39 => rfl
  | 40 => rfl
  | 41 => rfl
  | 42 => rfl
  | 43 => rfl
  | 44 => rfl
  | 45 => rfl
  | 46 => rfl
  | 47 => rfl
  | _ + 48 => rfl
set_option maxHeartbeats 1000000 in
theorem cu_N18 (env : Ev) (u : St) (i : Nat) (v : Nat) : ∀ k' i', cn env (vN u 18 i 0 v) k' i' = if k' = 8 ∧ i' = i then .inr (4, ([.int (nI i), .ref (sA u 5 (gN u.2.1 26 i 0)), .ref (sA u 9 i), .ref (sA u 10 i), .ref (sA u 11 i), .ref (sA u 12 i), .ref (sA u 13 i), .int (b2i (gB u.2.1 14 i 0)), .int (nI (gN u.2.1 15 i 0)), .int (nI (gN u.2.1 16 i 0)), .int (nI (gN u.2.1 17 i 0)), .int (nI (gN u.2.1 18 i 0)), .int (nI (gN u.2.1 19 i 0)), .int (nI (gN u.2.1 20 i 0))] : List Value).set 11 (.int (nI (v)))) else cn env u k' i' := by
  intro k' i'
  match k' with
  | 8 =>
    by_cases h : i' = i
    · subst h; simp [cn, vN, wN, uN, up3, gN, gB, gI, gJ, sA, sM, sE]
    · simp [cn, vN, wN, uN, up3, gN, gB, gI, gJ, sA, sM, sE, h]
  | 0 => rfl
  | 1 => rfl
  | 2 => rfl
  | 3 => rfl
  | 4 => rfl
  | 5 => rfl
  | 6 => rfl
  | 7 => rfl
  | 9 => rfl
  | 10 => rfl
  | 11 => rfl
  | 12 => rfl
  | 13 => rfl
  | 14 => rfl
  | 15 => rfl
  | 16 => rfl
  | 17 => rfl
  | 18 => rfl
  | 19 => rfl
  | 20 => rfl
  | 21 => rfl
  | 22 => rfl
  | 23 => rfl
  | 24 => rfl
  | 25 => rfl
  | 26 => rfl
  | 27 => rfl
  | 28 => rfl
  | 29 => rfl
  | 30 => rfl
  | 31 => rfl
  | 32 => rfl
  | 33 => rfl
  | 34 => rfl
  | 35 => rfl
  | 36 => rfl
  | 37 => rfl
  | 38 => rfl
  | 39 => rfl
  | 40 => rfl
  | 41 => rfl
  | 42 => rfl
  | 43 => rfl
  | 44 => rfl
  | 45 => rfl
  | 46 => rfl
  | 47 => rfl
  | _ + 48 => rfl
set_option maxHeartbeats 1000000 in
theorem cu_N19 (env : Ev) (u : St) (i : Nat) (v : Nat) : ∀ k' i', cn env (vN u 19 i 0 v) k' i' = if k' = 8 ∧ i' = i then .inr (4, ([.int (nI i), .ref (sA u 5 (gN u.2.1 26 i 0)), .ref (sA u 9 i), .ref (sA u 10 i), .ref (sA u 11 i), .ref (sA u 12 i), .ref (sA u 13 i), .int (b2i (gB u.2.1 14 i 0)), .int (nI (gN u.2.1 15 i 0)), .int (nI (gN u.2.1 16 i 0)), .int (nI (gN u.2.1 17 i 0)), .int (nI (gN u.2.1 18 i 0)), .int (nI (gN u.2.1 19 i 0)), .int (nI (gN u.2.1 20 i 0))] : List Value).set 12 (.int (nI (v)))) else cn env u k' i' := by
  intro k' i'
  match k' with
  | 8 =>
    by_cases h : i' = i
    · subst h; simp [cn, vN, wN, uN, up3, gN, gB, gI, gJ, sA, sM, sE]
    · simp [cn, vN, wN, uN, up3, gN, gB, gI, gJ, sA, sM, sE, h]
  | 0 => rfl
  | 1 => rfl
  | 2 => rfl
  | 3 => rfl
  | 4 => rfl
  | 5 => rfl
  | 6 => rfl
  | 7 => rfl
  | 9 => rfl
  | 10 => rfl
  | 11 => rfl
  | 12 => rfl
  | 13 => rfl
  | 14 => rfl
  | 15 => rfl
  | 16 => rfl
  | 17 => rfl
  | 18 => rfl
  | 19 => rfl
  | 20 => rfl
  | 21 => rfl
  | 22 => rfl
  | 23 => rfl
  | 24 => rfl
  | 25 => rfl
  | 26 => rfl
  | 27 => rfl
  | 28 => rfl
  | 29 => rfl
  | 30 => rfl
  | 31 => rfl
  | 32 => rfl
  | 33 => rfl
  | 34 => rfl
  | 35 => rfl
  | 36 => rfl
  | 37 => rfl
  | 38 => rfl
  | 39 => rfl
  | 40 => rfl
  | 41 => rfl
  | 42 => rfl
  | 43 => rfl
  | 44 => rfl
  | 45 => rfl
  | 46 => rfl
  | 47 => rfl
  | _ + 48 => rfl
set_option maxHeartbeats 1000000 in
theorem cu_N20 (env : Ev) (u : St) (i : Nat) (v : Nat) : ∀ k' i', cn env (vN u 20 i 0 v) k' i' = if k' = 8 ∧ i' = i then .inr (4, ([.int (nI i), .ref (sA u 5 (gN u.2.1 26 i 0)), .ref (sA u 9 i), .ref (sA u 10 i), .ref (sA u 11 i), .ref (sA u 12 i), .ref (sA u 13 i), .int (b2i (gB u.2.1 14 i 0)), .int (nI (gN u.2.1 15 i 0)), .int (nI (gN u.2.1 16 i 0)), .int (nI (gN u.2.1 17 i 0)), .int (nI (gN u.2.1 18 i 0)), .int (nI (gN u.2.1 19 i 0)), .int (nI (gN u.2.1 20 i 0))] : List Value).set 13 (.int (nI (v)))) else cn env u k' i' := by
  intro k' i'
  match k' with
  | 8 =>
    by_cases h : i' = i
    · subst h; simp [cn, vN, wN, uN, up3, gN, gB, gI, gJ, sA, sM, sE]
    · simp [cn, vN, wN, uN, up3, gN, gB, gI, gJ, sA, sM, sE, h]
  | 0 => rfl
  | 1 => rfl
  | 2 => rfl
  | 3 => rfl
  | 4 => rfl
  | 5 => rfl
  | 6 => rfl
  | 7 => rfl
  | 9 => rfl
  | 10 => rfl
  | 11 => rfl
  | 12 => rfl
  | 13 => rfl
  | 14 => rfl
  | 15 => rfl
  | 16 => rfl
  | 17 => rfl
  | 18 => rfl
  | 19 => rfl
  | 20 => rfl
  | 21 => rfl
  | 22 => rfl
  | 23 => rfl
  | 24 => rfl
  | 25 => rfl
  | 26 => rfl
  | 27 => rfl
  | 28 => rfl
  | 29 => rfl
  | 30 => rfl
  | 31 => rfl
  | 32 => rfl
  | 33 => rfl
  | 34 => rfl
  | 35 => rfl
  | 36 => rfl
  | 37 => rfl
  | 38 => rfl
  | 39 => rfl
  | 40 => rfl
  | 41 => rfl
  | 42 => rfl
  | 43 => rfl
  | 44 => rfl
  | 45 => rfl
  | 46 => rfl
  | 47 => rfl
  | _ + 48 => rfl
set_option maxHeartbeats 1000000 in
theorem cu_N50 (env : Ev) (u : St) (i : Nat) (v : Nat) : ∀ k' i', cn env (wN u 50 i 0 v) k' i' = if k' = 20 ∧ i' = i then .inr (6, ([.int (nI (gN u.2.2 50 i 0)), .int (nI (gN u.2.2 51 i 0)), .int (nI (gN u.2.2 52 i 0)), .ref (sA u 24 0), .ref (sA u 25 0), .int (nI (gN u.2.2 55 i 0)), .ref (sA u 27 0), .ref (sA u 28 0), .ref (sA u 29 0), .ref (sA u 30 0), .ref (sA u 31 0), .ref (sA u 32 0), .ref (sA u 33 0), .ref (sA u 34 0), .ref (sA u 35 0), .ref (sA u 36 0), .ref (sA u 37 0), .ref (sA u 38 0), .ref (sA u 39 0), .ref (sA u 40 0), .ref (sA u 41 0), .ref (sA u 42 0), .int (nI (gN u.2.2 72 i 0)), .ref (sA u 44 0), .ref (sA u 45 0), .ref (sA u 46 0), .ref (sA u 47 0)] : List Value).set 0 (.int (nI (v)))) else cn env u k' i' := by
  intro k' i'
  match k' with
  | 20 =>
    by_cases h : i' = i
    · subst h; simp [cn, vN, wN, uN, up3, gN, gB, gI, gJ, sA, sM, sE]
    · simp [cn, vN, wN, uN, up3, gN, gB, gI, gJ, sA, sM, sE, h]
  | 0 => rfl
  | 1 => rfl
  | 2 => rfl
  | 3 => rfl
  | 4 => rfl
  | 5 => rfl
  | 6 => rfl
  | 7 => rfl
  | 8 => rfl
  | 9 => rfl
  | 10 => rfl
  | 11 => rfl
  | 12 => rfl
  | 13 => rfl
  | 14 => rfl
  | 15 => rfl
  | 16 => rfl
  | 17 => rfl
  | 18 => rfl
  | 19 => rfl
  | 21 => rfl
  | 22 => rfl
  | 23 => rfl
  | 24 => rfl
  | 25 => rfl
  | 26 => rfl
  | 27 => rfl
  | 28 => rfl
  | 29 => rfl
  | 30 => rfl
  | 31 => rfl
  | 32 => rfl
  | 33 => rfl
  | 34 => rfl
  | 35 => rfl
  | 36 => rfl
  | 37 => rfl
  | 38 => rfl
  | 39 => rfl
  | 40 => rfl
  | 41 => rfl
  | 42 => rfl
  | 43 => rfl
  | 44 => rfl
  | 45 => rfl
  | 46 => rfl
  | 47 => rfl
  | _ + 48 => rfl
set_option maxHeartbeats 1000000 in
theorem cu_N51 (env : Ev) (u : St) (i : Nat) (v : Nat) : ∀ k' i', cn env (wN u 51 i 0 v) k' i' = if k' = 20 ∧ i' = i then .inr (6, ([.int (nI (gN u.2.2 50 i 0)), .int (nI (gN u.2.2 51 i 0)), .int (nI (gN u.2.2 52 i 0)), .ref (sA u 24 0), .ref (sA u 25 0), .int (nI (gN u.2.2 55 i 0)), .ref (sA u 27 0), .ref (sA u 28 0), .ref (sA u 29 0), .ref (sA u 30 0), .ref (sA u 31 0), .ref (sA u 32 0), .ref (sA u 33 0), .ref (sA u 34 0), .ref (sA u 35 0), .ref (sA u 36 0), .ref (sA u 37 0), .ref (sA u 38 0), .ref (sA u 39 0), .ref (sA u 40 0), .ref (sA u 41 0), .ref (sA u 42 0), .int (nI (gN u.2.2 72 i 0)), .ref (sA u 44 0), .ref (sA u 45 0), .ref (sA u 46 0), .ref (sA u 47 0)] : List Value).set 1 (.int (nI (v)))) else cn env u k' i' := by
  intro k' i'
  match k' with
  | 20 =>
    by_cases h : i' = i
    · subst h; simp [cn, vN, wN, uN, up3, gN, gB, gI, gJ, sA, sM, sE]
    · simp [cn, vN, wN, uN, up3, gN, gB, gI, gJ, sA, sM, sE, h]
  | 0 => rfl
  | 1 => rfl
  | 2 => rfl
  | 3 => rfl
  | 4 => rfl
  | 5 => rfl
  | 6 => rfl
  | 7 => rfl
  | 8 => rfl
  | 9 => rfl
  | 10 => rfl
  | 11 => rfl
  | 12 => rfl
  | 13 => rfl
  | 14 => rfl
  | 15 => rfl
  | 16 => rfl
  | 17 => rfl
  | 18 => rfl
  | 19 => rfl
  | 21 => rfl
  | 22 => rfl
  | 23 => rfl
  | 24 => rfl
  | 25 => rfl
  | 26 => rfl
  | 27 => rfl
  | 28 => rfl
  | 29 => rfl
  | 30 => rfl
  | 31 => rfl
  | 32 => rfl
  | 33 => rfl
  | 34 => rfl
  | 35 => rfl
  | 36 => rfl
  | 37 => rfl
  | 38 => rfl
  | 39 => rfl
  | 40 => rfl
  | 41 => rfl
  | 42 => rfl
  | 43 => rfl
  | 44 => rfl
  | 45 => rfl
  | 46 => rfl
  | 47 => rfl
  | _ + 48 => rfl
set_option maxHeartbeats 1000000 in
theorem cu_N52 (env : Ev) (u : St) (i : Nat) (v : Nat) : ∀ k' i', cn env (wN u 52 i 0 v) k' i' = if k' = 20 ∧ i' = i then .inr (6, ([.int (nI (gN u.2.2 50 i 0)), .int (nI (gN u.2.2 51 i 0)), .int (nI (gN u.2.2 52 i 0)), .ref (sA u 24 0), .ref (sA u 25 0), .int (nI (gN u.2.2 55 i 0)), .ref (sA u 27 0), .ref (sA u 28 0), .ref (sA u 29 0), .ref (sA u 30 0), .ref (sA u 31 0), .ref (sA u 32 0), .ref (sA u 33 0), .ref (sA u 34 0), .ref (sA u 35 0), .ref (sA u 36 0), .ref (sA u 37 0), .ref (sA u 38 0), .ref (sA u 39 0), .ref (sA u 40 0), .ref (sA u 41 0), .ref (sA u 42 0), .int (nI (gN u.2.2 72 i 0)), .ref (sA u 44 0), .ref (sA u 45 0), .ref (sA u 46 0), .ref (sA u 47 0)] : List Value).set 2 (.int (nI (v)))) else cn env u k' i' := by
  intro k' i'
  match k' with
  | 20 =>
    by_cases h : i' = i
    · subst h; simp [cn, vN, wN, uN, up3, gN, gB, gI, gJ, sA, sM, sE]
    · simp [cn, vN, wN, uN, up3, gN, gB, gI, gJ, sA, sM, sE, h]
  | 0 => rfl
  | 1 => rfl
  | 2 => rfl
  | 3 => rfl
  | 4 => rfl
  | 5 => rfl
  | 6 => rfl
  | 7 => rfl
  | 8 => rfl
  | 9 => rfl
  | 10 => rfl
  | 11 => rfl
  | 12 => rfl
  | 13 => rfl
  | 14 => rfl
  | 15 => rfl
  | 16 => rfl
  | 17 => rfl
  | 18 => rfl
  | 19 => rfl
  | 21 => rfl
  | 22 => rfl
  | 23 => rfl
  | 24 => rfl
  | 25 => rfl
  | 26 => rfl
  | 27 => rfl
  | 28 => rfl
  | 29 => rfl
  | 30 => rfl
  | 31 => rfl
  | 32 => rfl
  | 33 => rfl
  | 34 => rfl
  | 35 => rfl
  | 36 => rfl
  | 37 => rfl
  | 38 => rfl
  | 39 => rfl
  | 40 => rfl
  | 41 => rfl
  | 42 => rfl
  | 43 => rfl
  | 44 => rfl
  | 45 => rfl
  | 46 => rfl
  | 47 => rfl
  | _ + 48 => rfl
set_option maxHeartbeats 1000000 in
theorem cu_N55 (env : Ev) (u : St) (i : Nat) (v : Nat) : ∀ k' i', cn env (wN u 55 i 0 v) k' i' = if k' = 20 ∧ i' = i then .inr (6, ([.int (nI (gN u.2.2 50 i 0)), .int (nI (gN u.2.2 51 i 0)), .int (nI (gN u.2.2 52 i 0)), .ref (sA u 24 0), .ref (sA u 25 0), .int (nI (gN u.2.2 55 i 0)), .ref (sA u 27 0), .ref (sA u 28 0), .ref (sA u 29 0), .ref (sA u 30 0), .ref (sA u 31 0), .ref (sA u 32 0), .ref (sA u 33 0), .ref (sA u 34 0), .ref (sA u 35 0), .ref (sA u 36 0), .ref (sA u 37 0), .ref (sA u 38 0), .ref (sA u 39 0), .ref (sA u 40 0), .ref (sA u 41 0), .ref (sA u 42 0), .int (nI (gN u.2.2 72 i 0)), .ref (sA u 44 0), .ref (sA u 45 0), .ref (sA u 46 0), .ref (sA u 47 0)] : List Value).set 5 (.int (nI (v)))) else cn env u k' i' := by
  intro k' i'
  match k' with
  | 20 =>
    by_cases h : i' = i
    · subst h; simp [cn, vN, wN, uN, up3, gN, gB, gI, gJ, sA, sM, sE]
    · simp [cn, vN, wN, uN, up3, gN, gB, gI, gJ, sA, sM, sE, h]
  | 0 => rfl
  | 1 => rfl
  | 2 => rfl
  | 3 => rfl
  | 4 => rfl
  | 5 => rfl
  | 6 => rfl
  | 7 => rfl
  | 8 => rfl
  | 9 => rfl
  | 10 => rfl
  | 11 => rfl
  | 12 => rfl
  | 13 => rfl
  | 14 => rfl
  | 15 => rfl
  | 16 => rfl
  | 17 => rfl
  | 18 => rfl
  | 19 => rfl
  | 21 => rfl
  | 22 => rfl
  | 23 => rfl
  | 24 => rfl
  | 25 => rfl
  | 26 => rfl
  | 27 => rfl
  | 28 => rfl
  | 29 => rfl
  | 30 => rfl
  | 31 => rfl
  | 32 => rfl
  | 33 => rfl
  | 34 => rfl
  | 35 => rfl
  | 36 => rfl
  | 37 => rfl
  | 38 => rfl
  | 39 => rfl
  | 40 => rfl
  | 41 => rfl
  | 42 => rfl
  | 43 => rfl
  | 44 => rfl
  | 45 => rfl
  | 46 => rfl
  | 47 => rfl
  | _ + 48 => rfl
set_option maxHeartbeats 1000000 in
theorem cu_N72 (env : Ev) (u : St) (i : Nat) (v : Nat) : ∀ k' i', cn env (wN u 72 i 0 v) k' i' = if k' = 20 ∧ i' = i then .inr (6, ([.int (nI (gN u.2.2 50 i 0)), .int (nI (gN u.2.2 51 i 0)), .int (nI (gN u.2.2 52 i 0)), .ref (sA u 24 0), .ref (sA u 25 0), .int (nI (gN u.2.2 55 i 0)), .ref (sA u 27 0), .ref (sA u 28 0), .ref (sA u 29 0), .ref (sA u 30 0), .ref (sA u 31 0), .ref (sA u 32 0), .ref (sA u 33 0), .ref (sA u 34 0), .ref (sA u 35 0), .ref (sA u 36 0), .ref (sA u 37 0), .ref (sA u 38 0), .ref (sA u 39 0), .ref (sA u 40 0), .ref (sA u 41 0), .ref (sA u 42 0), .int (nI (gN u.2.2 72 i 0)), .ref (sA u 44 0), .ref (sA u 45 0), .ref (sA u 46 0), .ref (sA u 47 0)] : List Value).set 22 (.int (nI (v)))) else cn env u k' i' := by
  intro k' i'
  match k' with
  | 20 =>
    by_cases h : i' = i
    · subst h; simp [cn, vN, wN, uN, up3, gN, gB, gI, gJ, sA, sM, sE]
    · simp [cn, vN, wN, uN, up3, gN, gB, gI, gJ, sA, sM, sE, h]
  | 0 => rfl
  | 1 => rfl
  | 2 => rfl
  | 3 => rfl
  | 4 => rfl
  | 5 => rfl
  | 6 => rfl
  | 7 => rfl
  | 8 => rfl
  | 9 => rfl
  | 10 => rfl
  | 11 => rfl
  | 12 => rfl
  | 13 => rfl
  | 14 => rfl
  | 15 => rfl
  | 16 => rfl
  | 17 => rfl
  | 18 => rfl
  | 19 => rfl
  | 21 => rfl
  | 22 => rfl
  | 23 => rfl
  | 24 => rfl
  | 25 => rfl
  | 26 => rfl
  | 27 => rfl
  | 28 => rfl
  | 29 => rfl
  | 30 => rfl
  | 31 => rfl
  | 32 => rfl
  | 33 => rfl
  | 34 => rfl
  | 35 => rfl
  | 36 => rfl
  | 37 => rfl
  | 38 => rfl
  | 39 => rfl
  | 40 => rfl
  | 41 => rfl
  | 42 => rfl
  | 43 => rfl
  | 44 => rfl
  | 45 => rfl
  | 46 => rfl
  | 47 => rfl
  | _ + 48 => rfl
set_option maxHeartbeats 1000000 in
theorem cu_N6 (env : Ev) (u : St) (i j : Nat) (v : Nat) : ∀ k' i', cn env (vN u 6 i j v) k' i' = if k' = 6 ∧ i' = i then .inl (env.2.1 0, 4, .inl (upd (fun j => nI (gN u.2.1 6 i j)) j (nI (v)))) else cn env u k' i' := by
  intro k' i'
  match k' with
  | 6 =>
    show (.inl (env.2.1 0, 4, .inl (fun j' => nI (up3 (gN u.2.1) 6 i j v 6 i' j'))) : va_E) = _
    by_cases h : i' = i
    · subst h
      rw [if_pos ⟨rfl, rfl⟩, show (fun j' => nI (up3 (gN u.2.1) 6 i' j v 6 i' j')) = upd (fun j => nI (gN u.2.1 6 i' j)) j (nI (v)) from by funext j'; by_cases hj : j' = j <;> simp [up3, upd, hj]]
    · rw [if_neg (fun hh => h hh.2), show (fun j' => nI (up3 (gN u.2.1) 6 i j v 6 i' j')) = (fun j => nI (gN u.2.1 6 i' j)) from by funext j'; simp [up3, h]]
      rfl
  | 0 => rfl
  | 1 => rfl
  | 2 => rfl
  | 3 => rfl
  | 4 => rfl
  | 5 => rfl
  | 7 => rfl
  | 8 => rfl
  | 9 => rfl
  | 10 => rfl
  | 11 => rfl
  | 12 => rfl
  | 13 => rfl
  | 14 => rfl
  | 15 => rfl
  | 16 => rfl
  | 17 => rfl
  | 18 => rfl
  | 19 => rfl
  | 20 => rfl
  | 21 => rfl
  | 22 => rfl
  | 23 => rfl
  | 24 => rfl
  | 25 => rfl
  | 26 => rfl
  | 27 => rfl
  | 28 => rfl
  | 29 => rfl
  | 30 => rfl
  | 31 => rfl
  | 32 => rfl
  | 33 => rfl
  | 34 => rfl
  | 35 => rfl
  | 36 => rfl
  | 37 => rfl
  | 38 => rfl
  | 39 => rfl
  | 40 => rfl
  | 41 => rfl
  | 42 => rfl
  | 43 => rfl
  | 44 => rfl
  | 45 => rfl
  | 46 => rfl
  | 47 => rfl
  | _ + 48 => rfl
set_option maxHeartbeats 1000000 in
theorem cu_I7 (env : Ev) (u : St) (i j : Nat) (v : Int32) : ∀ k' i', cn env (vI u 7 i j v) k' i' = if k' = 7 ∧ i' = i then .inl (env.2.1 0, 12, .inl (upd (fun j => gI u.2.1 7 i j) j (v))) else cn env u k' i' := by
  intro k' i'
  match k' with
  | 7 =>
    show (.inl (env.2.1 0, 12, .inl (fun j' => up3 (gI u.2.1) 7 i j v 7 i' j')) : va_E) = _
    by_cases h : i' = i
    · subst h
      rw [if_pos ⟨rfl, rfl⟩, show (fun j' => up3 (gI u.2.1) 7 i' j v 7 i' j') = upd (fun j => gI u.2.1 7 i' j) j (v) from by funext j'; by_cases hj : j' = j <;> simp [up3, upd, hj]]
    · rw [if_neg (fun hh => h hh.2), show (fun j' => up3 (gI u.2.1) 7 i j v 7 i' j') = (fun j => gI u.2.1 7 i' j) from by funext j'; simp [up3, h]]
      rfl
  | 0 => rfl
  | 1 => rfl
  | 2 => rfl
  | 3 => rfl
  | 4 => rfl
  | 5 => rfl
  | 6 => rfl
  | 8 => rfl
  | 9 => rfl
  | 10 => rfl
  | 11 => rfl
  | 12 => rfl
  | 13 => rfl
  | 14 => rfl
  | 15 => rfl
  | 16 => rfl
  | 17 => rfl
  | 18 => rfl
  | 19 => rfl
  | 20 => rfl
  | 21 => rfl
  | 22 => rfl
  | 23 => rfl
  | 24 => rfl
  | 25 => rfl
  | 26 => rfl
  | 27 => rfl
  | 28 => rfl
  | 29 => rfl
  | 30 => rfl
  | 31 => rfl
  | 32 => rfl
  | 33 => rfl
  | 34 => rfl
  | 35 => rfl
  | 36 => rfl
  | 37 => rfl
  | 38 => rfl
  | 39 => rfl
  | 40 => rfl
  | 41 => rfl
  | 42 => rfl
  | 43 => rfl
  | 44 => rfl
  | 45 => rfl
  | 46 => rfl
  | 47 => rfl
  | _ + 48 => rfl
set_option maxHeartbeats 1000000 in
theorem cu_B10 (env : Ev) (u : St) (i j : Nat) (v : Bool) : ∀ k' i', cn env (vB u 10 i j v) k' i' = if k' = 10 ∧ i' = i then .inl (env.2.1 2, 12, .inl (upd (fun j => b2i (gB u.2.1 10 i j)) j (b2i (v)))) else cn env u k' i' := by
  intro k' i'
  match k' with
  | 10 =>
    show (.inl (env.2.1 2, 12, .inl (fun j' => b2i (up3 (gB u.2.1) 10 i j v 10 i' j'))) : va_E) = _
    by_cases h : i' = i
    · subst h
      rw [if_pos ⟨rfl, rfl⟩, show (fun j' => b2i (up3 (gB u.2.1) 10 i' j v 10 i' j')) = upd (fun j => b2i (gB u.2.1 10 i' j)) j (b2i (v)) from by funext j'; by_cases hj : j' = j <;> simp [up3, upd, hj]]
    · rw [if_neg (fun hh => h hh.2), show (fun j' => b2i (up3 (gB u.2.1) 10 i j v 10 i' j')) = (fun j => b2i (gB u.2.1 10 i' j)) from by funext j'; simp [up3, h]]
      rfl
  | 0 => rfl
  | 1 => rfl
  | 2 => rfl
  | 3 => rfl
  | 4 => rfl
  | 5 => rfl
  | 6 => rfl
  | 7 => rfl
  | 8 => rfl
  | 9 => rfl
  | 11 => rfl
  | 12 => rfl
  | 13 => rfl
  | 14 => rfl
  | 15 => rfl
  | 16 => rfl
  | 17 => rfl
  | 18 => rfl
  | 19 => rfl
  | 20 => rfl
  | 21 => rfl
  | 22 => rfl
  | 23 => rfl
  | 24 => rfl
  | 25 => rfl
  | 26 => rfl
  | 27 => rfl
  | 28 => rfl
  | 29 => rfl
  | 30 => rfl
  | 31 => rfl
  | 32 => rfl
  | 33 => rfl
  | 34 => rfl
  | 35 => rfl
  | 36 => rfl
  | 37 => rfl
  | 38 => rfl
  | 39 => rfl
  | 40 => rfl
  | 41 => rfl
  | 42 => rfl
  | 43 => rfl
  | 44 => rfl
  | 45 => rfl
  | 46 => rfl
  | 47 => rfl
  | _ + 48 => rfl
set_option maxHeartbeats 1000000 in
theorem cu_J11 (env : Ev) (u : St) (i j : Nat) (v : Int64) : ∀ k' i', cn env (vJ u 11 i j v) k' i' = if k' = 11 ∧ i' = i then .inl (env.2.1 1, 12, .inr (.inl (vp_updL (fun j => gJ u.2.1 11 i j) j (v)))) else cn env u k' i' := by
  intro k' i'
  match k' with
  | 11 =>
    show (.inl (env.2.1 1, 12, .inr (.inl (fun j' => up3 (gJ u.2.1) 11 i j v 11 i' j'))) : va_E) = _
    by_cases h : i' = i
    · subst h
      rw [if_pos ⟨rfl, rfl⟩, show (fun j' => up3 (gJ u.2.1) 11 i' j v 11 i' j') = vp_updL (fun j => gJ u.2.1 11 i' j) j (v) from by funext j'; by_cases hj : j' = j <;> simp [up3, vp_updL, hj]]
    · rw [if_neg (fun hh => h hh.2), show (fun j' => up3 (gJ u.2.1) 11 i j v 11 i' j') = (fun j => gJ u.2.1 11 i' j) from by funext j'; simp [up3, h]]
      rfl
  | 0 => rfl
  | 1 => rfl
  | 2 => rfl
  | 3 => rfl
  | 4 => rfl
  | 5 => rfl
  | 6 => rfl
  | 7 => rfl
  | 8 => rfl
  | 9 => rfl
  | 10 => rfl
  | 12 => rfl
  | 13 => rfl
  | 14 => rfl
  | 15 => rfl
  | 16 => rfl
  | 17 => rfl
  | 18 => rfl
  | 19 => rfl
  | 20 => rfl
  | 21 => rfl
  | 22 => rfl
  | 23 => rfl
  | 24 => rfl
  | 25 => rfl
  | 26 => rfl
  | 27 => rfl
  | 28 => rfl
  | 29 => rfl
  | 30 => rfl
  | 31 => rfl
  | 32 => rfl
  | 33 => rfl
  | 34 => rfl
  | 35 => rfl
  | 36 => rfl
  | 37 => rfl
  | 38 => rfl
  | 39 => rfl
  | 40 => rfl
  | 41 => rfl
  | 42 => rfl
  | 43 => rfl
  | 44 => rfl
  | 45 => rfl
  | 46 => rfl
  | 47 => rfl
  | _ + 48 => rfl
set_option maxHeartbeats 1000000 in
theorem cu_J12 (env : Ev) (u : St) (i j : Nat) (v : Int64) : ∀ k' i', cn env (vJ u 12 i j v) k' i' = if k' = 12 ∧ i' = i then .inl (env.2.1 1, 96, .inr (.inl (vp_updL (fun j => gJ u.2.1 12 i j) j (v)))) else cn env u k' i' := by
  intro k' i'
  match k' with
  | 12 =>
    show (.inl (env.2.1 1, 96, .inr (.inl (fun j' => up3 (gJ u.2.1) 12 i j v 12 i' j'))) : va_E) = _
    by_cases h : i' = i
    · subst h
      rw [if_pos ⟨rfl, rfl⟩, show (fun j' => up3 (gJ u.2.1) 12 i' j v 12 i' j') = vp_updL (fun j => gJ u.2.1 12 i' j) j (v) from by funext j'; by_cases hj : j' = j <;> simp [up3, vp_updL, hj]]
    · rw [if_neg (fun hh => h hh.2), show (fun j' => up3 (gJ u.2.1) 12 i j v 12 i' j') = (fun j => gJ u.2.1 12 i' j) from by funext j'; simp [up3, h]]
      rfl
  | 0 => rfl
  | 1 => rfl
  | 2 => rfl
  | 3 => rfl
  | 4 => rfl
  | 5 => rfl
  | 6 => rfl
  | 7 => rfl
  | 8 => rfl
  | 9 => rfl
  | 10 => rfl
  | 11 => rfl
  | 13 => rfl
  | 14 => rfl
  | 15 => rfl
  | 16 => rfl
  | 17 => rfl
  | 18 => rfl
  | 19 => rfl
  | 20 => rfl
  | 21 => rfl
  | 22 => rfl
  | 23 => rfl
  | 24 => rfl
  | 25 => rfl
  | 26 => rfl
  | 27 => rfl
  | 28 => rfl
  | 29 => rfl
  | 30 => rfl
  | 31 => rfl
  | 32 => rfl
  | 33 => rfl
  | 34 => rfl
  | 35 => rfl
  | 36 => rfl
  | 37 => rfl
  | 38 => rfl
  | 39 => rfl
  | 40 => rfl
  | 41 => rfl
  | 42 => rfl
  | 43 => rfl
  | 44 => rfl
  | 45 => rfl
  | 46 => rfl
  | 47 => rfl
  | _ + 48 => rfl
set_option maxHeartbeats 1000000 in
theorem cu_B13 (env : Ev) (u : St) (i j : Nat) (v : Bool) : ∀ k' i', cn env (vB u 13 i j v) k' i' = if k' = 13 ∧ i' = i then .inl (env.2.1 2, 4, .inl (upd (fun j => b2i (gB u.2.1 13 i j)) j (b2i (v)))) else cn env u k' i' := by
  intro k' i'
  match k' with
  | 13 =>
    show (.inl (env.2.1 2, 4, .inl (fun j' => b2i (up3 (gB u.2.1) 13 i j v 13 i' j'))) : va_E) = _
    by_cases h : i' = i
    · subst h
      rw [if_pos ⟨rfl, rfl⟩, show (fun j' => b2i (up3 (gB u.2.1) 13 i' j v 13 i' j')) = upd (fun j => b2i (gB u.2.1 13 i' j)) j (b2i (v)) from by funext j'; by_cases hj : j' = j <;> simp [up3, upd, hj]]
    · rw [if_neg (fun hh => h hh.2), show (fun j' => b2i (up3 (gB u.2.1) 13 i j v 13 i' j')) = (fun j => b2i (gB u.2.1 13 i' j)) from by funext j'; simp [up3, h]]
      rfl
  | 0 => rfl
  | 1 => rfl
  | 2 => rfl
  | 3 => rfl
  | 4 => rfl
  | 5 => rfl
  | 6 => rfl
  | 7 => rfl
  | 8 => rfl
  | 9 => rfl
  | 10 => rfl
  | 11 => rfl
  | 12 => rfl
  | 14 => rfl
  | 15 => rfl
  | 16 => rfl
  | 17 => rfl
  | 18 => rfl
  | 19 => rfl
  | 20 => rfl
  | 21 => rfl
  | 22 => rfl
  | 23 => rfl
  | 24 => rfl
  | 25 => rfl
  | 26 => rfl
  | 27 => rfl
  | 28 => rfl
  | 29 => rfl
  | 30 => rfl
  | 31 => rfl
  | 32 => rfl
  | 33 => rfl
  | 34 => rfl
  | 35 => rfl
  | 36 => rfl
  | 37 => rfl
  | 38 => rfl
  | 39 => rfl
  | 40 => rfl
  | 41 => rfl
  | 42 => rfl
  | 43 => rfl
  | 44 => rfl
  | 45 => rfl
  | 46 => rfl
  | 47 => rfl
  | _ + 48 => rfl
set_option maxHeartbeats 1000000 in
theorem cu_N53 (env : Ev) (u : St) (i j : Nat) (v : Nat) : ∀ k' i', cn env (wN u 53 i j v) k' i' = if k' = 24 ∧ i' = i then .inl (env.2.1 0, 12, .inl (upd (fun j => nI (gN u.2.2 53 i j)) j (nI (v)))) else cn env u k' i' := by
  intro k' i'
  match k' with
  | 24 =>
    show (.inl (env.2.1 0, 12, .inl (fun j' => nI (up3 (gN u.2.2) 53 i j v 53 i' j'))) : va_E) = _
    by_cases h : i' = i
    · subst h
      rw [if_pos ⟨rfl, rfl⟩, show (fun j' => nI (up3 (gN u.2.2) 53 i' j v 53 i' j')) = upd (fun j => nI (gN u.2.2 53 i' j)) j (nI (v)) from by funext j'; by_cases hj : j' = j <;> simp [up3, upd, hj]]
    · rw [if_neg (fun hh => h hh.2), show (fun j' => nI (up3 (gN u.2.2) 53 i j v 53 i' j')) = (fun j => nI (gN u.2.2 53 i' j)) from by funext j'; simp [up3, h]]
      rfl
  | 0 => rfl
  | 1 => rfl
  | 2 => rfl
  | 3 => rfl
  | 4 => rfl
  | 5 => rfl
  | 6 => rfl
  | 7 => rfl
  | 8 => rfl
  | 9 => rfl
  | 10 => rfl
  | 11 => rfl
  | 12 => rfl
  | 13 => rfl
  | 14 => rfl
  | 15 => rfl
  | 16 => rfl
  | 17 => rfl
  | 18 => rfl
  | 19 => rfl
  | 20 => rfl
  | 21 => rfl
  | 22 => rfl
  | 23 => rfl
  | 25 => rfl
  | 26 => rfl
  | 27 => rfl
  | 28 => rfl
  | 29 => rfl
  | 30 => rfl
  | 31 => rfl
  | 32 => rfl
  | 33 => rfl
  | 34 => rfl
  | 35 => rfl
  | 36 => rfl
  | 37 => rfl
  | 38 => rfl
  | 39 => rfl
  | 40 => rfl
  | 41 => rfl
  | 42 => rfl
  | 43 => rfl
  | 44 => rfl
  | 45 => rfl
  | 46 => rfl
  | 47 => rfl
  | _ + 48 => rfl
set_option maxHeartbeats 1000000 in
theorem cu_B54 (env : Ev) (u : St) (i j : Nat) (v : Bool) : ∀ k' i', cn env (wB u 54 i j v) k' i' = if k' = 25 ∧ i' = i then .inl (env.2.1 2, 12, .inl (upd (fun j => b2i (gB u.2.2 54 i j)) j (b2i (v)))) else cn env u k' i' := by
  intro k' i'
  match k' with
  | 25 =>
    show (.inl (env.2.1 2, 12, .inl (fun j' => b2i (up3 (gB u.2.2) 54 i j v 54 i' j'))) : va_E) = _
    by_cases h : i' = i
    · subst h
      rw [if_pos ⟨rfl, rfl⟩, show (fun j' => b2i (up3 (gB u.2.2) 54 i' j v 54 i' j')) = upd (fun j => b2i (gB u.2.2 54 i' j)) j (b2i (v)) from by funext j'; by_cases hj : j' = j <;> simp [up3, upd, hj]]
    · rw [if_neg (fun hh => h hh.2), show (fun j' => b2i (up3 (gB u.2.2) 54 i j v 54 i' j')) = (fun j => b2i (gB u.2.2 54 i' j)) from by funext j'; simp [up3, h]]
      rfl
  | 0 => rfl
  | 1 => rfl
  | 2 => rfl
  | 3 => rfl
  | 4 => rfl
  | 5 => rfl
  | 6 => rfl
  | 7 => rfl
  | 8 => rfl
  | 9 => rfl
  | 10 => rfl
  | 11 => rfl
  | 12 => rfl
  | 13 => rfl
  | 14 => rfl
  | 15 => rfl
  | 16 => rfl
  | 17 => rfl
  | 18 => rfl
  | 19 => rfl
  | 20 => rfl
  | 21 => rfl
  | 22 => rfl
  | 23 => rfl
  | 24 => rfl
  | 26 => rfl
  | 27 => rfl
  | 28 => rfl
  | 29 => rfl
  | 30 => rfl
  | 31 => rfl
  | 32 => rfl
  | 33 => rfl
  | 34 => rfl
  | 35 => rfl
  | 36 => rfl
  | 37 => rfl
  | 38 => rfl
  | 39 => rfl
  | 40 => rfl
  | 41 => rfl
  | 42 => rfl
  | 43 => rfl
  | 44 => rfl
  | 45 => rfl
  | 46 => rfl
  | 47 => rfl
  | _ + 48 => rfl
set_option maxHeartbeats 1000000 in
theorem cu_N56 (env : Ev) (u : St) (i j : Nat) (v : Nat) : ∀ k' i', cn env (wN u 56 i j v) k' i' = if k' = 27 ∧ i' = i then .inl (env.2.1 0, 150, .inl (upd (fun j => nI (gN u.2.2 56 i j)) j (nI (v)))) else cn env u k' i' := by
  intro k' i'
  match k' with
  | 27 =>
    show (.inl (env.2.1 0, 150, .inl (fun j' => nI (up3 (gN u.2.2) 56 i j v 56 i' j'))) : va_E) = _
    by_cases h : i' = i
    · subst h
      rw [if_pos ⟨rfl, rfl⟩, show (fun j' => nI (up3 (gN u.2.2) 56 i' j v 56 i' j')) = upd (fun j => nI (gN u.2.2 56 i' j)) j (nI (v)) from by funext j'; by_cases hj : j' = j <;> simp [up3, upd, hj]]
    · rw [if_neg (fun hh => h hh.2), show (fun j' => nI (up3 (gN u.2.2) 56 i j v 56 i' j')) = (fun j => nI (gN u.2.2 56 i' j)) from by funext j'; simp [up3, h]]
      rfl
  | 0 => rfl
  | 1 => rfl
  | 2 => rfl
  | 3 => rfl
  | 4 => rfl
  | 5 => rfl
  | 6 => rfl
  | 7 => rfl
  | 8 => rfl
  | 9 => rfl
  | 10 => rfl
  | 11 => rfl
  | 12 => rfl
  | 13 => rfl
  | 14 => rfl
  | 15 => rfl
  | 16 => rfl
  | 17 => rfl
  | 18 => rfl
  | 19 => rfl
  | 20 => rfl
  | 21 => rfl
  | 22 => rfl
  | 23 => rfl
  | 24 => rfl
  | 25 => rfl
  | 26 => rfl
  | 28 => rfl
  | 29 => rfl
  | 30 => rfl
  | 31 => rfl
  | 32 => rfl
  | 33 => rfl
  | 34 => rfl
  | 35 => rfl
  | 36 => rfl
  | 37 => rfl
  | 38 => rfl
  | 39 => rfl
  | 40 => rfl
  | 41 => rfl
  | 42 => rfl
  | 43 => rfl
  | 44 => rfl
  | 45 => rfl
  | 46 => rfl
  | 47 => rfl
  | _ + 48 => rfl
set_option maxHeartbeats 1000000 in
theorem cu_N57 (env : Ev) (u : St) (i j : Nat) (v : Nat) : ∀ k' i', cn env (wN u 57 i j v) k' i' = if k' = 28 ∧ i' = i then .inl (env.2.1 0, 150, .inl (upd (fun j => nI (gN u.2.2 57 i j)) j (nI (v)))) else cn env u k' i' := by
  intro k' i'
  match k' with
  | 28 =>
    show (.inl (env.2.1 0, 150, .inl (fun j' => nI (up3 (gN u.2.2) 57 i j v 57 i' j'))) : va_E) = _
    by_cases h : i' = i
    · subst h
      rw [if_pos ⟨rfl, rfl⟩, show (fun j' => nI (up3 (gN u.2.2) 57 i' j v 57 i' j')) = upd (fun j => nI (gN u.2.2 57 i' j)) j (nI (v)) from by funext j'; by_cases hj : j' = j <;> simp [up3, upd, hj]]
    · rw [if_neg (fun hh => h hh.2), show (fun j' => nI (up3 (gN u.2.2) 57 i j v 57 i' j')) = (fun j => nI (gN u.2.2 57 i' j)) from by funext j'; simp [up3, h]]
      rfl
  | 0 => rfl
  | 1 => rfl
  | 2 => rfl
  | 3 => rfl
  | 4 => rfl
  | 5 => rfl
  | 6 => rfl
  | 7 => rfl
  | 8 => rfl
  | 9 => rfl
  | 10 => rfl
  | 11 => rfl
  | 12 => rfl
  | 13 => rfl
  | 14 => rfl
  | 15 => rfl
  | 16 => rfl
  | 17 => rfl
  | 18 => rfl
  | 19 => rfl
  | 20 => rfl
  | 21 => rfl
  | 22 => rfl
  | 23 => rfl
  | 24 => rfl
  | 25 => rfl
  | 26 => rfl
  | 27 => rfl
  | 29 => rfl
  | 30 => rfl
  | 31 => rfl
  | 32 => rfl
  | 33 => rfl
  | 34 => rfl
  | 35 => rfl
  | 36 => rfl
  | 37 => rfl
  | 38 => rfl
  | 39 => rfl
  | 40 => rfl
  | 41 => rfl
  | 42 => rfl
  | 43 => rfl
  | 44 => rfl
  | 45 => rfl
  | 46 => rfl
  | 47 => rfl
  | _ + 48 => rfl
set_option maxHeartbeats 1000000 in
theorem cu_N58 (env : Ev) (u : St) (i j : Nat) (v : Nat) : ∀ k' i', cn env (wN u 58 i j v) k' i' = if k' = 29 ∧ i' = i then .inl (env.2.1 0, 600, .inl (upd (fun j => nI (gN u.2.2 58 i j)) j (nI (v)))) else cn env u k' i' := by
  intro k' i'
  match k' with
  | 29 =>
    show (.inl (env.2.1 0, 600, .inl (fun j' => nI (up3 (gN u.2.2) 58 i j v 58 i' j'))) : va_E) = _
    by_cases h : i' = i
    · subst h
      rw [if_pos ⟨rfl, rfl⟩, show (fun j' => nI (up3 (gN u.2.2) 58 i' j v 58 i' j')) = upd (fun j => nI (gN u.2.2 58 i' j)) j (nI (v)) from by funext j'; by_cases hj : j' = j <;> simp [up3, upd, hj]]
    · rw [if_neg (fun hh => h hh.2), show (fun j' => nI (up3 (gN u.2.2) 58 i j v 58 i' j')) = (fun j => nI (gN u.2.2 58 i' j)) from by funext j'; simp [up3, h]]
      rfl
  | 0 => rfl
  | 1 => rfl
  | 2 => rfl
  | 3 => rfl
  | 4 => rfl
  | 5 => rfl
  | 6 => rfl
  | 7 => rfl
  | 8 => rfl
  | 9 => rfl
  | 10 => rfl
  | 11 => rfl
  | 12 => rfl
  | 13 => rfl
  | 14 => rfl
  | 15 => rfl
  | 16 => rfl
  | 17 => rfl
  | 18 => rfl
  | 19 => rfl
  | 20 => rfl
  | 21 => rfl
  | 22 => rfl
  | 23 => rfl
  | 24 => rfl
  | 25 => rfl
  | 26 => rfl
  | 27 => rfl
  | 28 => rfl
  | 30 => rfl
  | 31 => rfl
  | 32 => rfl
  | 33 => rfl
  | 34 => rfl
  | 35 => rfl
  | 36 => rfl
  | 37 => rfl
  | 38 => rfl
  | 39 => rfl
  | 40 => rfl
  | 41 => rfl
  | 42 => rfl
  | 43 => rfl
  | 44 => rfl
  | 45 => rfl
  | 46 => rfl
  | 47 => rfl
  | _ + 48 => rfl
set_option maxHeartbeats 1000000 in
theorem cu_N59 (env : Ev) (u : St) (i j : Nat) (v : Nat) : ∀ k' i', cn env (wN u 59 i j v) k' i' = if k' = 30 ∧ i' = i then .inl (env.2.1 0, 150, .inl (upd (fun j => nI (gN u.2.2 59 i j)) j (nI (v)))) else cn env u k' i' := by
  intro k' i'
  match k' with
  | 30 =>
    show (.inl (env.2.1 0, 150, .inl (fun j' => nI (up3 (gN u.2.2) 59 i j v 59 i' j'))) : va_E) = _
    by_cases h : i' = i
    · subst h
      rw [if_pos ⟨rfl, rfl⟩, show (fun j' => nI (up3 (gN u.2.2) 59 i' j v 59 i' j')) = upd (fun j => nI (gN u.2.2 59 i' j)) j (nI (v)) from by funext j'; by_cases hj : j' = j <;> simp [up3, upd, hj]]
    · rw [if_neg (fun hh => h hh.2), show (fun j' => nI (up3 (gN u.2.2) 59 i j v 59 i' j')) = (fun j => nI (gN u.2.2 59 i' j)) from by funext j'; simp [up3, h]]
      rfl
  | 0 => rfl
  | 1 => rfl
  | 2 => rfl
  | 3 => rfl
  | 4 => rfl
  | 5 => rfl
  | 6 => rfl
  | 7 => rfl
  | 8 => rfl
  | 9 => rfl
  | 10 => rfl
  | 11 => rfl
  | 12 => rfl
  | 13 => rfl
  | 14 => rfl
  | 15 => rfl
  | 16 => rfl
  | 17 => rfl
  | 18 => rfl
  | 19 => rfl
  | 20 => rfl
  | 21 => rfl
  | 22 => rfl
  | 23 => rfl
  | 24 => rfl
  | 25 => rfl
  | 26 => rfl
  | 27 => rfl
  | 28 => rfl
  | 29 => rfl
  | 31 => rfl
  | 32 => rfl
  | 33 => rfl
  | 34 => rfl
  | 35 => rfl
  | 36 => rfl
  | 37 => rfl
  | 38 => rfl
  | 39 => rfl
  | 40 => rfl
  | 41 => rfl
  | 42 => rfl
  | 43 => rfl
  | 44 => rfl
  | 45 => rfl
  | 46 => rfl
  | 47 => rfl
  | _ + 48 => rfl
set_option maxHeartbeats 1000000 in
theorem cu_N60 (env : Ev) (u : St) (i j : Nat) (v : Nat) : ∀ k' i', cn env (wN u 60 i j v) k' i' = if k' = 31 ∧ i' = i then .inl (env.2.1 0, 150, .inl (upd (fun j => nI (gN u.2.2 60 i j)) j (nI (v)))) else cn env u k' i' := by
  intro k' i'
  match k' with
  | 31 =>
    show (.inl (env.2.1 0, 150, .inl (fun j' => nI (up3 (gN u.2.2) 60 i j v 60 i' j'))) : va_E) = _
    by_cases h : i' = i
    · subst h
      rw [if_pos ⟨rfl, rfl⟩, show (fun j' => nI (up3 (gN u.2.2) 60 i' j v 60 i' j')) = upd (fun j => nI (gN u.2.2 60 i' j)) j (nI (v)) from by funext j'; by_cases hj : j' = j <;> simp [up3, upd, hj]]
    · rw [if_neg (fun hh => h hh.2), show (fun j' => nI (up3 (gN u.2.2) 60 i j v 60 i' j')) = (fun j => nI (gN u.2.2 60 i' j)) from by funext j'; simp [up3, h]]
      rfl
  | 0 => rfl
  | 1 => rfl
  | 2 => rfl
  | 3 => rfl
  | 4 => rfl
  | 5 => rfl
  | 6 => rfl
  | 7 => rfl
  | 8 => rfl
  | 9 => rfl
  | 10 => rfl
  | 11 => rfl
  | 12 => rfl
  | 13 => rfl
  | 14 => rfl
  | 15 => rfl
  | 16 => rfl
  | 17 => rfl
  | 18 => rfl
  | 19 => rfl
  | 20 => rfl
  | 21 => rfl
  | 22 => rfl
  | 23 => rfl
  | 24 => rfl
  | 25 => rfl
  | 26 => rfl
  | 27 => rfl
  | 28 => rfl
  | 29 => rfl
  | 30 => rfl
  | 32 => rfl
  | 33 => rfl
  | 34 => rfl
  | 35 => rfl
  | 36 => rfl
  | 37 => rfl
  | 38 => rfl
  | 39 => rfl
  | 40 => rfl
  | 41 => rfl
  | 42 => rfl
  | 43 => rfl
  | 44 => rfl
  | 45 => rfl
  | 46 => rfl
  | 47 => rfl
  | _ + 48 => rfl
set_option maxHeartbeats 1000000 in
theorem cu_N61 (env : Ev) (u : St) (i j : Nat) (v : Nat) : ∀ k' i', cn env (wN u 61 i j v) k' i' = if k' = 32 ∧ i' = i then .inl (env.2.1 0, 150, .inl (upd (fun j => nI (gN u.2.2 61 i j)) j (nI (v)))) else cn env u k' i' := by
  intro k' i'
  match k' with
  | 32 =>
    show (.inl (env.2.1 0, 150, .inl (fun j' => nI (up3 (gN u.2.2) 61 i j v 61 i' j'))) : va_E) = _
    by_cases h : i' = i
    · subst h
      rw [if_pos ⟨rfl, rfl⟩, show (fun j' => nI (up3 (gN u.2.2) 61 i' j v 61 i' j')) = upd (fun j => nI (gN u.2.2 61 i' j)) j (nI (v)) from by funext j'; by_cases hj : j' = j <;> simp [up3, upd, hj]]
    · rw [if_neg (fun hh => h hh.2), show (fun j' => nI (up3 (gN u.2.2) 61 i j v 61 i' j')) = (fun j => nI (gN u.2.2 61 i' j)) from by funext j'; simp [up3, h]]
      rfl
  | 0 => rfl
  | 1 => rfl
  | 2 => rfl
  | 3 => rfl
  | 4 => rfl
  | 5 => rfl
  | 6 => rfl
  | 7 => rfl
  | 8 => rfl
  | 9 => rfl
  | 10 => rfl
  | 11 => rfl
  | 12 => rfl
  | 13 => rfl
  | 14 => rfl
  | 15 => rfl
  | 16 => rfl
  | 17 => rfl
  | 18 => rfl
  | 19 => rfl
  | 20 => rfl
  | 21 => rfl
  | 22 => rfl
  | 23 => rfl
  | 24 => rfl
  | 25 => rfl
  | 26 => rfl
  | 27 => rfl
  | 28 => rfl
  | 29 => rfl
  | 30 => rfl
  | 31 => rfl
  | 33 => rfl
  | 34 => rfl
  | 35 => rfl
  | 36 => rfl
  | 37 => rfl
  | 38 => rfl
  | 39 => rfl
  | 40 => rfl
  | 41 => rfl
  | 42 => rfl
  | 43 => rfl
  | 44 => rfl
  | 45 => rfl
  | 46 => rfl
  | 47 => rfl
  | _ + 48 => rfl
set_option maxHeartbeats 1000000 in
theorem cu_N62 (env : Ev) (u : St) (i j : Nat) (v : Nat) : ∀ k' i', cn env (wN u 62 i j v) k' i' = if k' = 33 ∧ i' = i then .inl (env.2.1 0, 150, .inl (upd (fun j => nI (gN u.2.2 62 i j)) j (nI (v)))) else cn env u k' i' := by
  intro k' i'
  match k' with
  | 33 =>
    show (.inl (env.2.1 0, 150, .inl (fun j' => nI (up3 (gN u.2.2) 62 i j v 62 i' j'))) : va_E) = _
    by_cases h : i' = i
    · subst h
      rw [if_pos ⟨rfl, rfl⟩, show (fun j' => nI (up3 (gN u.2.2) 62 i' j v 62 i' j')) = upd (fun j => nI (gN u.2.2 62 i' j)) j (nI (v)) from by funext j'; by_cases hj : j' = j <;> simp [up3, upd, hj]]
    · rw [if_neg (fun hh => h hh.2), show (fun j' => nI (up3 (gN u.2.2) 62 i j v 62 i' j')) = (fun j => nI (gN u.2.2 62 i' j)) from by funext j'; simp [up3, h]]
      rfl
  | 0 => rfl
  | 1 => rfl
  | 2 => rfl
  | 3 => rfl
  | 4 => rfl
  | 5 => rfl
  | 6 => rfl
  | 7 => rfl
  | 8 => rfl
  | 9 => rfl
  | 10 => rfl
  | 11 => rfl
  | 12 => rfl
  | 13 => rfl
  | 14 => rfl
  | 15 => rfl
  | 16 => rfl
  | 17 => rfl
  | 18 => rfl
  | 19 => rfl
  | 20 => rfl
  | 21 => rfl
  | 22 => rfl
  | 23 => rfl
  | 24 => rfl
  | 25 => rfl
  | 26 => rfl
  | 27 => rfl
  | 28 => rfl
  | 29 => rfl
  | 30 => rfl
  | 31 => rfl
  | 32 => rfl
  | 34 => rfl
  | 35 => rfl
  | 36 => rfl
  | 37 => rfl
  | 38 => rfl
  | 39 => rfl
  | 40 => rfl
  | 41 => rfl
  | 42 => rfl
  | 43 => rfl
  | 44 => rfl
  | 45 => rfl
  | 46 => rfl
  | 47 => rfl
  | _ + 48 => rfl
set_option maxHeartbeats 1000000 in
theorem cu_B63 (env : Ev) (u : St) (i j : Nat) (v : Bool) : ∀ k' i', cn env (wB u 63 i j v) k' i' = if k' = 34 ∧ i' = i then .inl (env.2.1 2, 600, .inl (upd (fun j => b2i (gB u.2.2 63 i j)) j (b2i (v)))) else cn env u k' i' := by
  intro k' i'
  match k' with
  | 34 =>
    show (.inl (env.2.1 2, 600, .inl (fun j' => b2i (up3 (gB u.2.2) 63 i j v 63 i' j'))) : va_E) = _
    by_cases h : i' = i
    · subst h
      rw [if_pos ⟨rfl, rfl⟩, show (fun j' => b2i (up3 (gB u.2.2) 63 i' j v 63 i' j')) = upd (fun j => b2i (gB u.2.2 63 i' j)) j (b2i (v)) from by funext j'; by_cases hj : j' = j <;> simp [up3, upd, hj]]
    · rw [if_neg (fun hh => h hh.2), show (fun j' => b2i (up3 (gB u.2.2) 63 i j v 63 i' j')) = (fun j => b2i (gB u.2.2 63 i' j)) from by funext j'; simp [up3, h]]
      rfl
  | 0 => rfl
  | 1 => rfl
  | 2 => rfl
  | 3 => rfl
  | 4 => rfl
  | 5 => rfl
  | 6 => rfl
  | 7 => rfl
  | 8 => rfl
  | 9 => rfl
  | 10 => rfl
  | 11 => rfl
  | 12 => rfl
  | 13 => rfl
  | 14 => rfl
  | 15 => rfl
  | 16 => rfl
  | 17 => rfl
  | 18 => rfl
  | 19 => rfl
  | 20 => rfl
  | 21 => rfl
  | 22 => rfl
  | 23 => rfl
  | 24 => rfl
  | 25 => rfl
  | 26 => rfl
  | 27 => rfl
  | 28 => rfl
  | 29 => rfl
  | 30 => rfl
  | 31 => rfl
  | 32 => rfl
  | 33 => rfl
  | 35 => rfl
  | 36 => rfl
  | 37 => rfl
  | 38 => rfl
  | 39 => rfl
  | 40 => rfl
  | 41 => rfl
  | 42 => rfl
  | 43 => rfl
  | 44 => rfl
  | 45 => rfl
  | 46 => rfl
  | 47 => rfl
  | _ + 48 => rfl
set_option maxHeartbeats 1000000 in
theorem cu_B64 (env : Ev) (u : St) (i j : Nat) (v : Bool) : ∀ k' i', cn env (wB u 64 i j v) k' i' = if k' = 35 ∧ i' = i then .inl (env.2.1 2, 1800, .inl (upd (fun j => b2i (gB u.2.2 64 i j)) j (b2i (v)))) else cn env u k' i' := by
  intro k' i'
  match k' with
  | 35 =>
    show (.inl (env.2.1 2, 1800, .inl (fun j' => b2i (up3 (gB u.2.2) 64 i j v 64 i' j'))) : va_E) = _
    by_cases h : i' = i
    · subst h
      rw [if_pos ⟨rfl, rfl⟩, show (fun j' => b2i (up3 (gB u.2.2) 64 i' j v 64 i' j')) = upd (fun j => b2i (gB u.2.2 64 i' j)) j (b2i (v)) from by funext j'; by_cases hj : j' = j <;> simp [up3, upd, hj]]
    · rw [if_neg (fun hh => h hh.2), show (fun j' => b2i (up3 (gB u.2.2) 64 i j v 64 i' j')) = (fun j => b2i (gB u.2.2 64 i' j)) from by funext j'; simp [up3, h]]
      rfl
  | 0 => rfl
  | 1 => rfl
  | 2 => rfl
  | 3 => rfl
  | 4 => rfl
  | 5 => rfl
  | 6 => rfl
  | 7 => rfl
  | 8 => rfl
  | 9 => rfl
  | 10 => rfl
  | 11 => rfl
  | 12 => rfl
  | 13 => rfl
  | 14 => rfl
  | 15 => rfl
  | 16 => rfl
  | 17 => rfl
  | 18 => rfl
  | 19 => rfl
  | 20 => rfl
  | 21 => rfl
  | 22 => rfl
  | 23 => rfl
  | 24 => rfl
  | 25 => rfl
  | 26 => rfl
  | 27 => rfl
  | 28 => rfl
  | 29 => rfl
  | 30 => rfl
  | 31 => rfl
  | 32 => rfl
  | 33 => rfl
  | 34 => rfl
  | 36 => rfl
  | 37 => rfl
  | 38 => rfl
  | 39 => rfl
  | 40 => rfl
  | 41 => rfl
  | 42 => rfl
  | 43 => rfl
  | 44 => rfl
  | 45 => rfl
  | 46 => rfl
  | 47 => rfl
  | _ + 48 => rfl
set_option maxHeartbeats 1000000 in
theorem cu_J65 (env : Ev) (u : St) (i j : Nat) (v : Int64) : ∀ k' i', cn env (wJ u 65 i j v) k' i' = if k' = 36 ∧ i' = i then .inl (env.2.1 1, 1800, .inr (.inl (vp_updL (fun j => gJ u.2.2 65 i j) j (v)))) else cn env u k' i' := by
  intro k' i'
  match k' with
  | 36 =>
    show (.inl (env.2.1 1, 1800, .inr (.inl (fun j' => up3 (gJ u.2.2) 65 i j v 65 i' j'))) : va_E) = _
    by_cases h : i' = i
    · subst h
      rw [if_pos ⟨rfl, rfl⟩, show (fun j' => up3 (gJ u.2.2) 65 i' j v 65 i' j') = vp_updL (fun j => gJ u.2.2 65 i' j) j (v) from by funext j'; by_cases hj : j' = j <;> simp [up3, vp_updL, hj]]
    · rw [if_neg (fun hh => h hh.2), show (fun j' => up3 (gJ u.2.2) 65 i j v 65 i' j') = (fun j => gJ u.2.2 65 i' j) from by funext j'; simp [up3, h]]
      rfl
  | 0 => rfl
  | 1 => rfl
  | 2 => rfl
  | 3 => rfl
  | 4 => rfl
  | 5 => rfl
  | 6 => rfl
  | 7 => rfl
  | 8 => rfl
  | 9 => rfl
  | 10 => rfl
  | 11 => rfl
  | 12 => rfl
  | 13 => rfl
  | 14 => rfl
  | 15 => rfl
  | 16 => rfl
  | 17 => rfl
  | 18 => rfl
  | 19 => rfl
  | 20 => rfl
  | 21 => rfl
  | 22 => rfl
  | 23 => rfl
  | 24 => rfl
  | 25 => rfl
  | 26 => rfl
  | 27 => rfl
  | 28 => rfl
  | 29 => rfl
  | 30 => rfl
  | 31 => rfl
  | 32 => rfl
  | 33 => rfl
  | 34 => rfl
  | 35 => rfl
  | 37 => rfl
  | 38 => rfl
  | 39 => rfl
  | 40 => rfl
  | 41 => rfl
  | 42 => rfl
  | 43 => rfl
  | 44 => rfl
  | 45 => rfl
  | 46 => rfl
  | 47 => rfl
  | _ + 48 => rfl
set_option maxHeartbeats 1000000 in
theorem cu_B66 (env : Ev) (u : St) (i j : Nat) (v : Bool) : ∀ k' i', cn env (wB u 66 i j v) k' i' = if k' = 37 ∧ i' = i then .inl (env.2.1 2, 1800, .inl (upd (fun j => b2i (gB u.2.2 66 i j)) j (b2i (v)))) else cn env u k' i' := by
  intro k' i'
  match k' with
  | 37 =>
    show (.inl (env.2.1 2, 1800, .inl (fun j' => b2i (up3 (gB u.2.2) 66 i j v 66 i' j'))) : va_E) = _
    by_cases h : i' = i
    · subst h
      rw [if_pos ⟨rfl, rfl⟩, show (fun j' => b2i (up3 (gB u.2.2) 66 i' j v 66 i' j')) = upd (fun j => b2i (gB u.2.2 66 i' j)) j (b2i (v)) from by funext j'; by_cases hj : j' = j <;> simp [up3, upd, hj]]
    · rw [if_neg (fun hh => h hh.2), show (fun j' => b2i (up3 (gB u.2.2) 66 i j v 66 i' j')) = (fun j => b2i (gB u.2.2 66 i' j)) from by funext j'; simp [up3, h]]
      rfl
  | 0 => rfl
  | 1 => rfl
  | 2 => rfl
  | 3 => rfl
  | 4 => rfl
  | 5 => rfl
  | 6 => rfl
  | 7 => rfl
  | 8 => rfl
  | 9 => rfl
  | 10 => rfl
  | 11 => rfl
  | 12 => rfl
  | 13 => rfl
  | 14 => rfl
  | 15 => rfl
  | 16 => rfl
  | 17 => rfl
  | 18 => rfl
  | 19 => rfl
  | 20 => rfl
  | 21 => rfl
  | 22 => rfl
  | 23 => rfl
  | 24 => rfl
  | 25 => rfl
  | 26 => rfl
  | 27 => rfl
  | 28 => rfl
  | 29 => rfl
  | 30 => rfl
  | 31 => rfl
  | 32 => rfl
  | 33 => rfl
  | 34 => rfl
  | 35 => rfl
  | 36 => rfl
  | 38 => rfl
  | 39 => rfl
  | 40 => rfl
  | 41 => rfl
  | 42 => rfl
  | 43 => rfl
  | 44 => rfl
  | 45 => rfl
  | 46 => rfl
  | 47 => rfl
  | _ + 48 => rfl
set_option maxHeartbeats 1000000 in
theorem cu_J67 (env : Ev) (u : St) (i j : Nat) (v : Int64) : ∀ k' i', cn env (wJ u 67 i j v) k' i' = if k' = 38 ∧ i' = i then .inl (env.2.1 1, 14400, .inr (.inl (vp_updL (fun j => gJ u.2.2 67 i j) j (v)))) else cn env u k' i' := by
  intro k' i'
  match k' with
  | 38 =>
    show (.inl (env.2.1 1, 14400, .inr (.inl (fun j' => up3 (gJ u.2.2) 67 i j v 67 i' j'))) : va_E) = _
    by_cases h : i' = i
    · subst h
      rw [if_pos ⟨rfl, rfl⟩, show (fun j' => up3 (gJ u.2.2) 67 i' j v 67 i' j') = vp_updL (fun j => gJ u.2.2 67 i' j) j (v) from by funext j'; by_cases hj : j' = j <;> simp [up3, vp_updL, hj]]
    · rw [if_neg (fun hh => h hh.2), show (fun j' => up3 (gJ u.2.2) 67 i j v 67 i' j') = (fun j => gJ u.2.2 67 i' j) from by funext j'; simp [up3, h]]
      rfl
  | 0 => rfl
  | 1 => rfl
  | 2 => rfl
  | 3 => rfl
  | 4 => rfl
  | 5 => rfl
  | 6 => rfl
  | 7 => rfl
  | 8 => rfl
  | 9 => rfl
  | 10 => rfl
  | 11 => rfl
  | 12 => rfl
  | 13 => rfl
  | 14 => rfl
  | 15 => rfl
  | 16 => rfl
  | 17 => rfl
  | 18 => rfl
  | 19 => rfl
  | 20 => rfl
  | 21 => rfl
  | 22 => rfl
  | 23 => rfl
  | 24 => rfl
  | 25 => rfl
  | 26 => rfl
  | 27 => rfl
  | 28 => rfl
  | 29 => rfl
  | 30 => rfl
  | 31 => rfl
  | 32 => rfl
  | 33 => rfl
  | 34 => rfl
  | 35 => rfl
  | 36 => rfl
  | 37 => rfl
  | 39 => rfl
  | 40 => rfl
  | 41 => rfl
  | 42 => rfl
  | 43 => rfl
  | 44 => rfl
  | 45 => rfl
  | 46 => rfl
  | 47 => rfl
  | _ + 48 => rfl
set_option maxHeartbeats 1000000 in
theorem cu_N68 (env : Ev) (u : St) (i j : Nat) (v : Nat) : ∀ k' i', cn env (wN u 68 i j v) k' i' = if k' = 39 ∧ i' = i then .inl (env.2.1 0, 16, .inl (upd (fun j => nI (gN u.2.2 68 i j)) j (nI (v)))) else cn env u k' i' := by
  intro k' i'
  match k' with
  | 39 =>
    show (.inl (env.2.1 0, 16, .inl (fun j' => nI (up3 (gN u.2.2) 68 i j v 68 i' j'))) : va_E) = _
    by_cases h : i' = i
    · subst h
      rw [if_pos ⟨rfl, rfl⟩, show (fun j' => nI (up3 (gN u.2.2) 68 i' j v 68 i' j')) = upd (fun j => nI (gN u.2.2 68 i' j)) j (nI (v)) from by funext j'; by_cases hj : j' = j <;> simp [up3, upd, hj]]
    · rw [if_neg (fun hh => h hh.2), show (fun j' => nI (up3 (gN u.2.2) 68 i j v 68 i' j')) = (fun j => nI (gN u.2.2 68 i' j)) from by funext j'; simp [up3, h]]
      rfl
  | 0 => rfl
  | 1 => rfl
  | 2 => rfl
  | 3 => rfl
  | 4 => rfl
  | 5 => rfl
  | 6 => rfl
  | 7 => rfl
  | 8 => rfl
  | 9 => rfl
  | 10 => rfl
  | 11 => rfl
  | 12 => rfl
  | 13 => rfl
  | 14 => rfl
  | 15 => rfl
  | 16 => rfl
  | 17 => rfl
  | 18 => rfl
  | 19 => rfl
  | 20 => rfl
  | 21 => rfl
  | 22 => rfl
  | 23 => rfl
  | 24 => rfl
  | 25 => rfl
  | 26 => rfl
  | 27 => rfl
  | 28 => rfl
  | 29 => rfl
  | 30 => rfl
  | 31 => rfl
  | 32 => rfl
  | 33 => rfl
  | 34 => rfl
  | 35 => rfl
  | 36 => rfl
  | 37 => rfl
  | 38 => rfl
  | 40 => rfl
  | 41 => rfl
  | 42 => rfl
  | 43 => rfl
  | 44 => rfl
  | 45 => rfl
  | 46 => rfl
  | 47 => rfl
  | _ + 48 => rfl
set_option maxHeartbeats 1000000 in
theorem cu_N69 (env : Ev) (u : St) (i j : Nat) (v : Nat) : ∀ k' i', cn env (wN u 69 i j v) k' i' = if k' = 40 ∧ i' = i then .inl (env.2.1 0, 600, .inl (upd (fun j => nI (gN u.2.2 69 i j)) j (nI (v)))) else cn env u k' i' := by
  intro k' i'
  match k' with
  | 40 =>
    show (.inl (env.2.1 0, 600, .inl (fun j' => nI (up3 (gN u.2.2) 69 i j v 69 i' j'))) : va_E) = _
    by_cases h : i' = i
    · subst h
      rw [if_pos ⟨rfl, rfl⟩, show (fun j' => nI (up3 (gN u.2.2) 69 i' j v 69 i' j')) = upd (fun j => nI (gN u.2.2 69 i' j)) j (nI (v)) from by funext j'; by_cases hj : j' = j <;> simp [up3, upd, hj]]
    · rw [if_neg (fun hh => h hh.2), show (fun j' => nI (up3 (gN u.2.2) 69 i j v 69 i' j')) = (fun j => nI (gN u.2.2 69 i' j)) from by funext j'; simp [up3, h]]
      rfl
  | 0 => rfl
  | 1 => rfl
  | 2 => rfl
  | 3 => rfl
  | 4 => rfl
  | 5 => rfl
  | 6 => rfl
  | 7 => rfl
  | 8 => rfl
  | 9 => rfl
  | 10 => rfl
  | 11 => rfl
  | 12 => rfl
  | 13 => rfl
  | 14 => rfl
  | 15 => rfl
  | 16 => rfl
  | 17 => rfl
  | 18 => rfl
  | 19 => rfl
  | 20 => rfl
  | 21 => rfl
  | 22 => rfl
  | 23 => rfl
  | 24 => rfl
  | 25 => rfl
  | 26 => rfl
  | 27 => rfl
  | 28 => rfl
  | 29 => rfl
  | 30 => rfl
  | 31 => rfl
  | 32 => rfl
  | 33 => rfl
  | 34 => rfl
  | 35 => rfl
  | 36 => rfl
  | 37 => rfl
  | 38 => rfl
  | 39 => rfl
  | 41 => rfl
  | 42 => rfl
  | 43 => rfl
  | 44 => rfl
  | 45 => rfl
  | 46 => rfl
  | 47 => rfl
  | _ + 48 => rfl
set_option maxHeartbeats 1000000 in
theorem cu_N70 (env : Ev) (u : St) (i j : Nat) (v : Nat) : ∀ k' i', cn env (wN u 70 i j v) k' i' = if k' = 41 ∧ i' = i then .inl (env.2.1 0, 4, .inl (upd (fun j => nI (gN u.2.2 70 i j)) j (nI (v)))) else cn env u k' i' := by
  intro k' i'
  match k' with
  | 41 =>
    show (.inl (env.2.1 0, 4, .inl (fun j' => nI (up3 (gN u.2.2) 70 i j v 70 i' j'))) : va_E) = _
    by_cases h : i' = i
    · subst h
      rw [if_pos ⟨rfl, rfl⟩, show (fun j' => nI (up3 (gN u.2.2) 70 i' j v 70 i' j')) = upd (fun j => nI (gN u.2.2 70 i' j)) j (nI (v)) from by funext j'; by_cases hj : j' = j <;> simp [up3, upd, hj]]
    · rw [if_neg (fun hh => h hh.2), show (fun j' => nI (up3 (gN u.2.2) 70 i j v 70 i' j')) = (fun j => nI (gN u.2.2 70 i' j)) from by funext j'; simp [up3, h]]
      rfl
  | 0 => rfl
  | 1 => rfl
  | 2 => rfl
  | 3 => rfl
  | 4 => rfl
  | 5 => rfl
  | 6 => rfl
  | 7 => rfl
  | 8 => rfl
  | 9 => rfl
  | 10 => rfl
  | 11 => rfl
  | 12 => rfl
  | 13 => rfl
  | 14 => rfl
  | 15 => rfl
  | 16 => rfl
  | 17 => rfl
  | 18 => rfl
  | 19 => rfl
  | 20 => rfl
  | 21 => rfl
  | 22 => rfl
  | 23 => rfl
  | 24 => rfl
  | 25 => rfl
  | 26 => rfl
  | 27 => rfl
  | 28 => rfl
  | 29 => rfl
  | 30 => rfl
  | 31 => rfl
  | 32 => rfl
  | 33 => rfl
  | 34 => rfl
  | 35 => rfl
  | 36 => rfl
  | 37 => rfl
  | 38 => rfl
  | 39 => rfl
  | 40 => rfl
  | 42 => rfl
  | 43 => rfl
  | 44 => rfl
  | 45 => rfl
  | 46 => rfl
  | 47 => rfl
  | _ + 48 => rfl
set_option maxHeartbeats 1000000 in
theorem cu_I71 (env : Ev) (u : St) (i j : Nat) (v : Int32) : ∀ k' i', cn env (wI u 71 i j v) k' i' = if k' = 42 ∧ i' = i then .inl (env.2.1 0, 48, .inl (upd (fun j => gI u.2.2 71 i j) j (v))) else cn env u k' i' := by
  intro k' i'
  match k' with
  | 42 =>
    show (.inl (env.2.1 0, 48, .inl (fun j' => up3 (gI u.2.2) 71 i j v 71 i' j')) : va_E) = _
    by_cases h : i' = i
    · subst h
      rw [if_pos ⟨rfl, rfl⟩, show (fun j' => up3 (gI u.2.2) 71 i' j v 71 i' j') = upd (fun j => gI u.2.2 71 i' j) j (v) from by funext j'; by_cases hj : j' = j <;> simp [up3, upd, hj]]
    · rw [if_neg (fun hh => h hh.2), show (fun j' => up3 (gI u.2.2) 71 i j v 71 i' j') = (fun j => gI u.2.2 71 i' j) from by funext j'; simp [up3, h]]
      rfl
  | 0 => rfl
  | 1 => rfl
  | 2 => rfl
  | 3 => rfl
  | 4 => rfl
  | 5 => rfl
  | 6 => rfl
  | 7 => rfl
  | 8 => rfl
  | 9 => rfl
  | 10 => rfl
  | 11 => rfl
  | 12 => rfl
  | 13 => rfl
  | 14 => rfl
  | 15 => rfl
  | 16 => rfl
  | 17 => rfl
  | 18 => rfl
  | 19 => rfl
  | 20 => rfl
  | 21 => rfl
  | 22 => rfl
  | 23 => rfl
  | 24 => rfl
  | 25 => rfl
  | 26 => rfl
  | 27 => rfl
  | 28 => rfl
  | 29 => rfl
  | 30 => rfl
  | 31 => rfl
  | 32 => rfl
  | 33 => rfl
  | 34 => rfl
  | 35 => rfl
  | 36 => rfl
  | 37 => rfl
  | 38 => rfl
  | 39 => rfl
  | 40 => rfl
  | 41 => rfl
  | 43 => rfl
  | 44 => rfl
  | 45 => rfl
  | 46 => rfl
  | 47 => rfl
  | _ + 48 => rfl
set_option maxHeartbeats 1000000 in
theorem cu_N73 (env : Ev) (u : St) (i j : Nat) (v : Nat) : ∀ k' i', cn env (wN u 73 i j v) k' i' = if k' = 44 ∧ i' = i then .inl (env.2.1 0, 2400, .inl (upd (fun j => nI (gN u.2.2 73 i j)) j (nI (v)))) else cn env u k' i' := by
  intro k' i'
  match k' with
  | 44 =>
    show (.inl (env.2.1 0, 2400, .inl (fun j' => nI (up3 (gN u.2.2) 73 i j v 73 i' j'))) : va_E) = _
    by_cases h : i' = i
    · subst h
      rw [if_pos ⟨rfl, rfl⟩, show (fun j' => nI (up3 (gN u.2.2) 73 i' j v 73 i' j')) = upd (fun j => nI (gN u.2.2 73 i' j)) j (nI (v)) from by funext j'; by_cases hj : j' = j <;> simp [up3, upd, hj]]
    · rw [if_neg (fun hh => h hh.2), show (fun j' => nI (up3 (gN u.2.2) 73 i j v 73 i' j')) = (fun j => nI (gN u.2.2 73 i' j)) from by funext j'; simp [up3, h]]
      rfl
  | 0 => rfl
  | 1 => rfl
  | 2 => rfl
  | 3 => rfl
  | 4 => rfl
  | 5 => rfl
  | 6 => rfl
  | 7 => rfl
  | 8 => rfl
  | 9 => rfl
  | 10 => rfl
  | 11 => rfl
  | 12 => rfl
  | 13 => rfl
  | 14 => rfl
  | 15 => rfl
  | 16 => rfl
  | 17 => rfl
  | 18 => rfl
  | 19 => rfl
  | 20 => rfl
  | 21 => rfl
  | 22 => rfl
  | 23 => rfl
  | 24 => rfl
  | 25 => rfl
  | 26 => rfl
  | 27 => rfl
  | 28 => rfl
  | 29 => rfl
  | 30 => rfl
  | 31 => rfl
  | 32 => rfl
  | 33 => rfl
  | 34 => rfl
  | 35 => rfl
  | 36 => rfl
  | 37 => rfl
  | 38 => rfl
  | 39 => rfl
  | 40 => rfl
  | 41 => rfl
  | 42 => rfl
  | 43 => rfl
  | 45 => rfl
  | 46 => rfl
  | 47 => rfl
  | _ + 48 => rfl
set_option maxHeartbeats 1000000 in
theorem cu_N74 (env : Ev) (u : St) (i j : Nat) (v : Nat) : ∀ k' i', cn env (wN u 74 i j v) k' i' = if k' = 45 ∧ i' = i then .inl (env.2.1 0, 2400, .inl (upd (fun j => nI (gN u.2.2 74 i j)) j (nI (v)))) else cn env u k' i' := by
  intro k' i'
  match k' with
  | 45 =>
    show (.inl (env.2.1 0, 2400, .inl (fun j' => nI (up3 (gN u.2.2) 74 i j v 74 i' j'))) : va_E) = _
    by_cases h : i' = i
    · subst h
      rw [if_pos ⟨rfl, rfl⟩, show (fun j' => nI (up3 (gN u.2.2) 74 i' j v 74 i' j')) = upd (fun j => nI (gN u.2.2 74 i' j)) j (nI (v)) from by funext j'; by_cases hj : j' = j <;> simp [up3, upd, hj]]
    · rw [if_neg (fun hh => h hh.2), show (fun j' => nI (up3 (gN u.2.2) 74 i j v 74 i' j')) = (fun j => nI (gN u.2.2 74 i' j)) from by funext j'; simp [up3, h]]
      rfl
  | 0 => rfl
  | 1 => rfl
  | 2 => rfl
  | 3 => rfl
  | 4 => rfl
  | 5 => rfl
  | 6 => rfl
  | 7 => rfl
  | 8 => rfl
  | 9 => rfl
  | 10 => rfl
  | 11 => rfl
  | 12 => rfl
  | 13 => rfl
  | 14 => rfl
  | 15 => rfl
  | 16 => rfl
  | 17 => rfl
  | 18 => rfl
  | 19 => rfl
  | 20 => rfl
  | 21 => rfl
  | 22 => rfl
  | 23 => rfl
  | 24 => rfl
  | 25 => rfl
  | 26 => rfl
  | 27 => rfl
  | 28 => rfl
  | 29 => rfl
  | 30 => rfl
  | 31 => rfl
  | 32 => rfl
  | 33 => rfl
  | 34 => rfl
  | 35 => rfl
  | 36 => rfl
  | 37 => rfl
  | 38 => rfl
  | 39 => rfl
  | 40 => rfl
  | 41 => rfl
  | 42 => rfl
  | 43 => rfl
  | 44 => rfl
  | 46 => rfl
  | 47 => rfl
  | _ + 48 => rfl
set_option maxHeartbeats 1000000 in
theorem cu_N75 (env : Ev) (u : St) (i j : Nat) (v : Nat) : ∀ k' i', cn env (wN u 75 i j v) k' i' = if k' = 46 ∧ i' = i then .inl (env.2.1 0, 2400, .inl (upd (fun j => nI (gN u.2.2 75 i j)) j (nI (v)))) else cn env u k' i' := by
  intro k' i'
  match k' with
  | 46 =>
    show (.inl (env.2.1 0, 2400, .inl (fun j' => nI (up3 (gN u.2.2) 75 i j v 75 i' j'))) : va_E) = _
    by_cases h : i' = i
    · subst h
      rw [if_pos ⟨rfl, rfl⟩, show (fun j' => nI (up3 (gN u.2.2) 75 i' j v 75 i' j')) = upd (fun j => nI (gN u.2.2 75 i' j)) j (nI (v)) from by funext j'; by_cases hj : j' = j <;> simp [up3, upd, hj]]
    · rw [if_neg (fun hh => h hh.2), show (fun j' => nI (up3 (gN u.2.2) 75 i j v 75 i' j')) = (fun j => nI (gN u.2.2 75 i' j)) from by funext j'; simp [up3, h]]
      rfl
  | 0 => rfl
  | 1 => rfl
  | 2 => rfl
  | 3 => rfl
  | 4 => rfl
  | 5 => rfl
  | 6 => rfl
  | 7 => rfl
  | 8 => rfl
  | 9 => rfl
  | 10 => rfl
  | 11 => rfl
  | 12 => rfl
  | 13 => rfl
  | 14 => rfl
  | 15 => rfl
  | 16 => rfl
  | 17 => rfl
  | 18 => rfl
  | 19 => rfl
  | 20 => rfl
  | 21 => rfl
  | 22 => rfl
  | 23 => rfl
  | 24 => rfl
  | 25 => rfl
  | 26 => rfl
  | 27 => rfl
  | 28 => rfl
  | 29 => rfl
  | 30 => rfl
  | 31 => rfl
  | 32 => rfl
  | 33 => rfl
  | 34 => rfl
  | 35 => rfl
  | 36 => rfl
  | 37 => rfl
  | 38 => rfl
  | 39 => rfl
  | 40 => rfl
  | 41 => rfl
  | 42 => rfl
  | 43 => rfl
  | 44 => rfl
  | 45 => rfl
  | 47 => rfl
  | _ + 48 => rfl
set_option maxHeartbeats 1000000 in
theorem cu_N76 (env : Ev) (u : St) (i j : Nat) (v : Nat) : ∀ k' i', cn env (wN u 76 i j v) k' i' = if k' = 47 ∧ i' = i then .inl (env.2.1 0, 2400, .inl (upd (fun j => nI (gN u.2.2 76 i j)) j (nI (v)))) else cn env u k' i' := by
  intro k' i'
  match k' with
  | 47 =>
    show (.inl (env.2.1 0, 2400, .inl (fun j' => nI (up3 (gN u.2.2) 76 i j v 76 i' j'))) : va_E) = _
    by_cases h : i' = i
    · subst h
      rw [if_pos ⟨rfl, rfl⟩, show (fun j' => nI (up3 (gN u.2.2) 76 i' j v 76 i' j')) = upd (fun j => nI (gN u.2.2 76 i' j)) j (nI (v)) from by funext j'; by_cases hj : j' = j <;> simp [up3, upd, hj]]
    · rw [if_neg (fun hh => h hh.2), show (fun j' => nI (up3 (gN u.2.2) 76 i j v 76 i' j')) = (fun j => nI (gN u.2.2 76 i' j)) from by funext j'; simp [up3, h]]
      rfl
  | 0 => rfl
  | 1 => rfl
  | 2 => rfl
  | 3 => rfl
  | 4 => rfl
  | 5 => rfl
  | 6 => rfl
  | 7 => rfl
  | 8 => rfl
  | 9 => rfl
  | 10 => rfl
  | 11 => rfl
  | 12 => rfl
  | 13 => rfl
  | 14 => rfl
  | 15 => rfl
  | 16 => rfl
  | 17 => rfl
  | 18 => rfl
  | 19 => rfl
  | 20 => rfl
  | 21 => rfl
  | 22 => rfl
  | 23 => rfl
  | 24 => rfl
  | 25 => rfl
  | 26 => rfl
  | 27 => rfl
  | 28 => rfl
  | 29 => rfl
  | 30 => rfl
  | 31 => rfl
  | 32 => rfl
  | 33 => rfl
  | 34 => rfl
  | 35 => rfl
  | 36 => rfl
  | 37 => rfl
  | 38 => rfl
  | 39 => rfl
  | 40 => rfl
  | 41 => rfl
  | 42 => rfl
  | 43 => rfl
  | 44 => rfl
  | 45 => rfl
  | 46 => rfl
  | _ + 48 => rfl
end
section
theorem b2i_f {e : Bool} (h : b2i e = 0) : e = false := by cases e with | false => rfl | true => exact absurd h (by decide)
theorem b2i_t {e : Bool} (h : ¬ b2i e = 0) : e = true := by cases e with | true => rfl | false => exact absurd rfl h
theorem b2i_nar (e : Bool) : narrow .boolean (.int (b2i e)) = .int (b2i e) := by cases e <;> rfl
theorem b2i_vnar (e : Bool) : vp_nar .boolean (b2i e) = b2i e := by cases e <;> rfl
theorem b2i_fit (e : Bool) : fits .boolean (.int (b2i e)) = true := by cases e <;> rfl
theorem b2i_c0 {e : Bool} (h : e = false) : nI 0 = b2i e := by subst h; rfl
theorem b2i_c1 {e : Bool} (h : e = true) : nI 1 = b2i e := by subst h; rfl
theorem b2i_1 : b2i true = nI 1 := rfl
theorem b2i_0 : b2i false = nI 0 := rfl
/-- an int as an index below n -/
def ix (v : Int32) (n : Nat) : Option Nat := if 0 ≤ v.toInt ∧ v.toInt < n then some v.toInt.toNat else none
theorem ix_lt {v : Int32} {n : Nat} (h : v < 0) : ix v n = none := by
  have h2 : v.toInt < 0 := Int32.lt_iff_toInt_lt.mp h
  simp [ix]; omega
theorem ix_ge {v : Int32} {n : Nat} (hn : n < 2 ^ 31) (h : nI n ≤ v) : ix v n = none := by
  have h2 : (nI n).toInt ≤ v.toInt := Int32.le_iff_toInt_le.mp h
  rw [nI_toInt hn] at h2
  simp [ix]; omega
theorem ix_nI {j n : Nat} (hn : n < 2 ^ 31) (h : j < n) : ix (nI j) n = some j := by
  simp [ix, nI_toInt (show j < 2 ^ 31 by omega)]; omega
theorem ix_in {v : Int32} {n : Nat} (hn : n < 2 ^ 31) (h0 : ¬ v < 0) (h1 : ¬ nI n ≤ v) : ∃ j : Nat, j < n ∧ v = nI j := by
  rcases pk_ix v hn with h | h | h
  · exact absurd h h0
  · exact absurd h h1
  · exact h
theorem ix_some {v : Int32} {n j : Nat} (hn : n < 2 ^ 31) (h : ix v n = some j) : j < n ∧ v = nI j := by
  rcases pk_ix v hn with h1 | h1 | ⟨q, h1, h2⟩
  · rw [ix_lt h1] at h; cases h
  · rw [ix_ge hn h1] at h; cases h
  · subst h2; rw [ix_nI hn h1] at h; cases h; exact ⟨h1, rfl⟩
theorem sw_out {v : Int32} {n : Nat} {x : Int} (hx : x = (n : Int) - 1 := by decide) (hn : n < 2 ^ 31) (h : ix v n = none) : v.toInt < 0 ∨ x < v.toInt := by
  subst hx
  unfold ix at h
  split at h
  · cases h
  · omega
/-! loops of one kind: some, all, how many -/
def anyN (q : Nat → Bool) (n : Nat) : Bool := (List.range n).any q
theorem anyN_t {q : Nat → Bool} {n i : Nat} (hi : i < n) (h : q i = true) : anyN q n = true := by
  simp only [anyN, List.any_eq_true, List.mem_range]; exact ⟨i, hi, h⟩
theorem anyN_f {q : Nat → Bool} {n : Nat} (h : ∀ j, j < n → q j = false) : anyN q n = false := by
  cases he : anyN q n with
  | false => rfl
  | true =>
    simp only [anyN, List.any_eq_true, List.mem_range] at he
    obtain ⟨j, hj, h2⟩ := he
    rw [h j hj] at h2; cases h2
theorem anyN_s (q : Nat → Bool) (n : Nat) : anyN q (n + 1) = (anyN q n || q n) := by simp [anyN, List.range_succ, List.any_append]
theorem anyN_0 (q : Nat → Bool) : anyN q 0 = false := rfl
def allN (q : Nat → Bool) (n : Nat) : Bool := (List.range n).all q
theorem allN_f {q : Nat → Bool} {n i : Nat} (hi : i < n) (h : q i = false) : allN q n = false := by
  cases he : allN q n with
  | false => rfl
  | true =>
    simp only [allN, List.all_eq_true, List.mem_range] at he
    rw [he i hi] at h; cases h
theorem allN_t {q : Nat → Bool} {n : Nat} (h : ∀ j, j < n → q j = true) : allN q n = true := by
  simp only [allN, List.all_eq_true, List.mem_range]; exact h
theorem allN_s (q : Nat → Bool) (n : Nat) : allN q (n + 1) = (allN q n && q n) := by simp [allN, List.range_succ, List.all_append]
theorem allN_0 (q : Nat → Bool) : allN q 0 = true := rfl
def cntN (q : Nat → Bool) : Nat → Nat
  | 0 => 0
  | n + 1 => cntN q n + (if q n then 1 else 0)
theorem cntN_s (q : Nat → Bool) (n : Nat) : cntN q (n + 1) = cntN q n + (if q n then 1 else 0) := rfl
theorem cntN_le (q : Nat → Bool) (n : Nat) : cntN q n ≤ n := by
  induction n with
  | zero => exact Nat.le_refl 0
  | succ n ih => rw [cntN_s]; split <;> omega
def sumL (q : Nat → Int64) : Nat → Int64
  | 0 => 0
  | n + 1 => sumL q n + q n
theorem lt_st {i : Nat} {q : Nat → Prop} (h : ∀ a, a < i → q a) (hi : q i) : ∀ a, a < i + 1 → q a := fun a ha => by
  rcases Nat.lt_or_ge a i with h1 | h1
  · exact h a h1
  · rw [show a = i by omega]; exact hi
/-- the bound under which ints are naturals -/
def Nb (g : Lg) : Prop := ∀ f i j, gN g f i j < 1073741824
theorem Nb.uN {g : Lg} (h : Nb g) {f i j v : Nat} (hv : v < 1073741824) : Nb (uN g f i j v) := by
  intro f' i' j'
  show up3 (gN g) f i j v f' i' j' < _
  unfold up3
  split
  · dsimp only; split
    · exact hv
    · exact h _ _ _
  · exact h _ _ _
theorem Nb.uB {g : Lg} (h : Nb g) {f i j : Nat} {v : Bool} : Nb (uB g f i j v) := h
theorem Nb.uI {g : Lg} (h : Nb g) {f i j : Nat} {v : Int32} : Nb (uI g f i j v) := h
theorem Nb.uJ {g : Lg} (h : Nb g) {f i j : Nat} {v : Int64} : Nb (uJ g f i j v) := h
theorem sub_nI {a b : Nat} (h : b ≤ a) : nI a - nI b = nI (a - b) := pk_sub h
section RV
variable {p : Program} {l : Launch} {e : Env} {R : Room} {s : State} {m : MethodId} {args : Array Value} {below : List Frame} {meth : Method} {c : Code} {H : Heap} {locs : List Loc} {cells slots : Nat} {Q : State → Prop} {cc : ByteArray} {nL : Nat} {own : String} {pc : Nat} {ls : Array Slot} {rest : List Value} {env : Ev} {s0 : Nat} {X : va_W} {u : St} {k i a : Nat}
theorem w_ifeq_b {q : Bool} (hx : p.tables.exec = Jvm.exec) (hb : c.code = cc) {off : Int} {tgt : Nat} (hdg : decode cc pc = .ok (.ifCond .eq off, 3)) (ht : (pc : Int) + off = (tgt : Int)) (kt : q = false → W p l e R s m args below meth c H locs cells slots Q (F0 m tgt ls (rest))) (kf : q = true → W p l e R s m args below meth c H locs cells slots Q (F0 m (pc + 3) ls (rest))) : W p l e R s m args below meth c H locs cells slots Q (F0 m pc ls (.int (b2i q) :: rest)) :=
  lv_if_eq hx hb hdg ht (fun c1 => kt (b2i_f c1)) (fun c1 => kf (b2i_t c1))
theorem w_ifne_b {q : Bool} (hx : p.tables.exec = Jvm.exec) (hb : c.code = cc) {off : Int} {tgt : Nat} (hdg : decode cc pc = .ok (.ifCond .ne off, 3)) (ht : (pc : Int) + off = (tgt : Int)) (kt : q = true → W p l e R s m args below meth c H locs cells slots Q (F0 m tgt ls (rest))) (kf : q = false → W p l e R s m args below meth c H locs cells slots Q (F0 m (pc + 3) ls (rest))) : W p l e R s m args below meth c H locs cells slots Q (F0 m pc ls (.int (b2i q) :: rest)) :=
  lv_if_ne hx hb hdg ht (fun c1 => kt (b2i_t c1)) (fun c1 => kf (b2i_f c1))
theorem w_ifeq_n {q : Nat} (hq : q < 2 ^ 31) (hx : p.tables.exec = Jvm.exec) (hb : c.code = cc) {off : Int} {tgt : Nat} (hdg : decode cc pc = .ok (.ifCond .eq off, 3)) (ht : (pc : Int) + off = (tgt : Int)) (kt : q = 0 → W p l e R s m args below meth c H locs cells slots Q (F0 m tgt ls (rest))) (kf : ¬ q = 0 → W p l e R s m args below meth c H locs cells slots Q (F0 m (pc + 3) ls (rest))) : W p l e R s m args below meth c H locs cells slots Q (F0 m pc ls (.int (nI q) :: rest)) :=
  lv_if_eq hx hb hdg ht (fun c1 => kt ((nI_eq hq (by decide)).mp (c1.trans nI_0.symm))) (fun c1 => kf (fun z => c1 (by rw [z]; exact nI_0)))
theorem w_ifne_n {q : Nat} (hq : q < 2 ^ 31) (hx : p.tables.exec = Jvm.exec) (hb : c.code = cc) {off : Int} {tgt : Nat} (hdg : decode cc pc = .ok (.ifCond .ne off, 3)) (ht : (pc : Int) + off = (tgt : Int)) (kt : ¬ q = 0 → W p l e R s m args below meth c H locs cells slots Q (F0 m tgt ls (rest))) (kf : q = 0 → W p l e R s m args below meth c H locs cells slots Q (F0 m (pc + 3) ls (rest))) : W p l e R s m args below meth c H locs cells slots Q (F0 m pc ls (.int (nI q) :: rest)) :=
  lv_if_ne hx hb hdg ht (fun c1 => kt (fun z => c1 (by rw [z]; exact nI_0))) (fun c1 => kf ((nI_eq hq (by decide)).mp (c1.trans nI_0.symm)))
theorem w_ifle_n {q : Nat} (hq : q < 2 ^ 31) (hx : p.tables.exec = Jvm.exec) (hb : c.code = cc) {off : Int} {tgt : Nat} (hdg : decode cc pc = .ok (.ifCond .le off, 3)) (ht : (pc : Int) + off = (tgt : Int)) (kt : q = 0 → W p l e R s m args below meth c H locs cells slots Q (F0 m tgt ls (rest))) (kf : 0 < q → W p l e R s m args below meth c H locs cells slots Q (F0 m (pc + 3) ls (rest))) : W p l e R s m args below meth c H locs cells slots Q (F0 m pc ls (.int (nI q) :: rest)) :=
  lv_if_le hx hb hdg ht (fun c1 => kt (by rcases Nat.eq_zero_or_pos q with z | z; exact z; exact absurd c1 (nI_nle z hq))) (fun c1 => kf (by rcases Nat.eq_zero_or_pos q with z | z; exact absurd (by rw [z]; exact nI_0 ▸ Int32.le_refl _) c1; exact z))
theorem w_ifgt_n {q : Nat} (hq : q < 2 ^ 31) (hx : p.tables.exec = Jvm.exec) (hb : c.code = cc) {off : Int} {tgt : Nat} (hdg : decode cc pc = .ok (.ifCond .gt off, 3)) (ht : (pc : Int) + off = (tgt : Int)) (kt : 0 < q → W p l e R s m args below meth c H locs cells slots Q (F0 m tgt ls (rest))) (kf : q = 0 → W p l e R s m args below meth c H locs cells slots Q (F0 m (pc + 3) ls (rest))) : W p l e R s m args below meth c H locs cells slots Q (F0 m pc ls (.int (nI q) :: rest)) :=
  lv_if_gt hx hb hdg ht (fun c1 => kt (by rcases Nat.eq_zero_or_pos q with z | z; (exfalso; rw [z, nI_0] at c1; exact absurd c1 (by decide)); exact z)) (fun c1 => kf (by rcases Nat.eq_zero_or_pos q with z | z; exact z; exact absurd (by rw [← nI_0]; exact nI_lt z hq) c1))
theorem w_iflt_n {q : Nat} (hq : q < 2 ^ 31) (hx : p.tables.exec = Jvm.exec) (hb : c.code = cc) {off : Int} {tgt : Nat} (hdg : decode cc pc = .ok (.ifCond .lt off, 3)) (ht : (pc : Int) + off = (tgt : Int)) (kf : W p l e R s m args below meth c H locs cells slots Q (F0 m (pc + 3) ls (rest))) : W p l e R s m args below meth c H locs cells slots Q (F0 m pc ls (.int (nI q) :: rest)) :=
  lv_if_lt hx hb hdg ht (fun c1 => absurd c1 (nI_pos hq)) (fun _ => kf)
theorem w_ifge_n {q : Nat} (hq : q < 2 ^ 31) (hx : p.tables.exec = Jvm.exec) (hb : c.code = cc) {off : Int} {tgt : Nat} (hdg : decode cc pc = .ok (.ifCond .ge off, 3)) (ht : (pc : Int) + off = (tgt : Int)) (kt : W p l e R s m args below meth c H locs cells slots Q (F0 m tgt ls (rest))) : W p l e R s m args below meth c H locs cells slots Q (F0 m pc ls (.int (nI q) :: rest)) :=
  lv_if_ge hx hb hdg ht (fun _ => kt) (fun c1 => absurd (nI_pos' hq) c1)
theorem w_iceq_n {q r : Nat} (hq : q < 2 ^ 31) (hr : r < 2 ^ 31) (hx : p.tables.exec = Jvm.exec) (hb : c.code = cc) {off : Int} {tgt : Nat} (hdg : decode cc pc = .ok (.if_icmp .eq off, 3)) (ht : (pc : Int) + off = (tgt : Int)) (kt : q = r → W p l e R s m args below meth c H locs cells slots Q (F0 m tgt ls (rest))) (kf : ¬ q = r → W p l e R s m args below meth c H locs cells slots Q (F0 m (pc + 3) ls (rest))) : W p l e R s m args below meth c H locs cells slots Q (F0 m pc ls (.int (nI r) :: .int (nI q) :: rest)) :=
  lv_icmp_eq hx hb hdg ht (fun c1 => kt ((nI_eq hq hr).mp c1)) (fun c1 => kf (fun z => c1 (by rw [z])))
theorem w_icne_n {q r : Nat} (hq : q < 2 ^ 31) (hr : r < 2 ^ 31) (hx : p.tables.exec = Jvm.exec) (hb : c.code = cc) {off : Int} {tgt : Nat} (hdg : decode cc pc = .ok (.if_icmp .ne off, 3)) (ht : (pc : Int) + off = (tgt : Int)) (kt : ¬ q = r → W p l e R s m args below meth c H locs cells slots Q (F0 m tgt ls (rest))) (kf : q = r → W p l e R s m args below meth c H locs cells slots Q (F0 m (pc + 3) ls (rest))) : W p l e R s m args below meth c H locs cells slots Q (F0 m pc ls (.int (nI r) :: .int (nI q) :: rest)) :=
  lv_icmp_ne hx hb hdg ht (fun c1 => kt (fun z => c1 (by rw [z]))) (fun c1 => kf ((nI_eq hq hr).mp c1))
theorem w_iclt_n {q r : Nat} (hq : q < 2 ^ 31) (hr : r < 2 ^ 31) (hx : p.tables.exec = Jvm.exec) (hb : c.code = cc) {off : Int} {tgt : Nat} (hdg : decode cc pc = .ok (.if_icmp .lt off, 3)) (ht : (pc : Int) + off = (tgt : Int)) (kt : q < r → W p l e R s m args below meth c H locs cells slots Q (F0 m tgt ls (rest))) (kf : r ≤ q → W p l e R s m args below meth c H locs cells slots Q (F0 m (pc + 3) ls (rest))) : W p l e R s m args below meth c H locs cells slots Q (F0 m pc ls (.int (nI r) :: .int (nI q) :: rest)) :=
  lv_icmp_lt hx hb hdg ht (fun c1 => kt ((nI_ltI hq hr).mp c1)) (fun c1 => kf (Nat.not_lt.mp (fun z => c1 ((nI_ltI hq hr).mpr z))))
theorem w_icge_n {q r : Nat} (hq : q < 2 ^ 31) (hr : r < 2 ^ 31) (hx : p.tables.exec = Jvm.exec) (hb : c.code = cc) {off : Int} {tgt : Nat} (hdg : decode cc pc = .ok (.if_icmp .ge off, 3)) (ht : (pc : Int) + off = (tgt : Int)) (kt : r ≤ q → W p l e R s m args below meth c H locs cells slots Q (F0 m tgt ls (rest))) (kf : q < r → W p l e R s m args below meth c H locs cells slots Q (F0 m (pc + 3) ls (rest))) : W p l e R s m args below meth c H locs cells slots Q (F0 m pc ls (.int (nI r) :: .int (nI q) :: rest)) :=
  lv_icmp_ge hx hb hdg ht (fun c1 => kt ((nI_leI hr hq).mp c1)) (fun c1 => kf (Nat.not_le.mp (fun z => c1 ((nI_leI hr hq).mpr z))))
theorem w_icgt_n {q r : Nat} (hq : q < 2 ^ 31) (hr : r < 2 ^ 31) (hx : p.tables.exec = Jvm.exec) (hb : c.code = cc) {off : Int} {tgt : Nat} (hdg : decode cc pc = .ok (.if_icmp .gt off, 3)) (ht : (pc : Int) + off = (tgt : Int)) (kt : r < q → W p l e R s m args below meth c H locs cells slots Q (F0 m tgt ls (rest))) (kf : q ≤ r → W p l e R s m args below meth c H locs cells slots Q (F0 m (pc + 3) ls (rest))) : W p l e R s m args below meth c H locs cells slots Q (F0 m pc ls (.int (nI r) :: .int (nI q) :: rest)) :=
  lv_icmp_gt hx hb hdg ht (fun c1 => kt ((nI_ltI hr hq).mp c1)) (fun c1 => kf (Nat.not_lt.mp (fun z => c1 ((nI_ltI hr hq).mpr z))))
theorem w_icle_n {q r : Nat} (hq : q < 2 ^ 31) (hr : r < 2 ^ 31) (hx : p.tables.exec = Jvm.exec) (hb : c.code = cc) {off : Int} {tgt : Nat} (hdg : decode cc pc = .ok (.if_icmp .le off, 3)) (ht : (pc : Int) + off = (tgt : Int)) (kt : q ≤ r → W p l e R s m args below meth c H locs cells slots Q (F0 m tgt ls (rest))) (kf : r < q → W p l e R s m args below meth c H locs cells slots Q (F0 m (pc + 3) ls (rest))) : W p l e R s m args below meth c H locs cells slots Q (F0 m pc ls (.int (nI r) :: .int (nI q) :: rest)) :=
  lv_icmp_le hx hb hdg ht (fun c1 => kt ((nI_leI hq hr).mp c1)) (fun c1 => kf (Nat.not_le.mp (fun z => c1 ((nI_leI hq hr).mpr z))))
theorem w_iadd_n {q r : Nat} (hx : p.tables.exec = Jvm.exec) (hb : c.code = cc) (hdg : decode cc pc = .ok (.iadd, 1)) (kk : W p l e R s m args below meth c H locs cells slots Q (F0 m (pc + 1) ls (.int (nI (q + r)) :: rest))) : W p l e R s m args below meth c H locs cells slots Q (F0 m pc ls (.int (nI r) :: .int (nI q) :: rest)) :=
  lv_iadd hx hb hdg (by rw [nI_add]; exact kk)
theorem w_imul_n {q r : Nat} (hx : p.tables.exec = Jvm.exec) (hb : c.code = cc) (hdg : decode cc pc = .ok (.imul, 1)) (kk : W p l e R s m args below meth c H locs cells slots Q (F0 m (pc + 1) ls (.int (nI (q * r)) :: rest))) : W p l e R s m args below meth c H locs cells slots Q (F0 m pc ls (.int (nI r) :: .int (nI q) :: rest)) :=
  lv_imul hx hb hdg (by rw [pk_mul]; exact kk)
theorem w_isub_n {q r : Nat} (hle : r ≤ q) (hx : p.tables.exec = Jvm.exec) (hb : c.code = cc) (hdg : decode cc pc = .ok (.isub, 1)) (kk : W p l e R s m args below meth c H locs cells slots Q (F0 m (pc + 1) ls (.int (nI (q - r)) :: rest))) : W p l e R s m args below meth c H locs cells slots Q (F0 m pc ls (.int (nI r) :: .int (nI q) :: rest)) :=
  lv_isub hx hb hdg (by rw [pk_sub hle]; exact kk)
theorem w_cast (hF : CallFix p m c cc nL s args TT own) (hB : Bd env s0 X u s H locs) {C nm : String} {index : Nat} (hl : Cond.classLink own index nm ∈ TT) (hc : Cond.castable C nm ∈ TT) (hr : ∃ cell : Cell, H[a]? = some cell ∧ cell.vm.isStatics = false ∧ s.vm.findClass C = some cell.cls) (hdg : decode cc pc = .ok (.checkcast index, 3)) (kk : W p l e R s m args below meth c H locs cells slots Q (F0 m (pc + 3) ls (.ref a :: rest))) : W p l e R s m args below meth c H locs cells slots Q (F0 m pc ls (.ref a :: rest)) :=
  va_castY hF.1 hF.2.1 hF.2.2.2.1 (hF.2.2.2.2 _ hl) (va_Nw.of rfl (hF.2.2.2.2 _ hc)) hr hdg kk
theorem w_acmp_eq (hx : p.tables.exec = Jvm.exec) (hb : c.code = cc) {x y : Nat} {off : Int} {tgt : Nat} (hdg : decode cc pc = .ok (.if_acmp .eq off, 3)) (ht : (pc : Int) + off = (tgt : Int)) (kt : x = y → W p l e R s m args below meth c H locs cells slots Q (F0 m tgt ls (rest))) (kf : ¬ x = y → W p l e R s m args below meth c H locs cells slots Q (F0 m (pc + 3) ls (rest))) : W p l e R s m args below meth c H locs cells slots Q (F0 m pc ls (.ref y :: .ref x :: rest)) :=
  lv_acmp_eq (rx := some x) (ry := some y) hx hb hdg ht (fun c1 => kt (Option.some.inj c1)) (fun c1 => kf (fun z => c1 (by rw [z])))
theorem w_acmp_ne (hx : p.tables.exec = Jvm.exec) (hb : c.code = cc) {x y : Nat} {off : Int} {tgt : Nat} (hdg : decode cc pc = .ok (.if_acmp .ne off, 3)) (ht : (pc : Int) + off = (tgt : Int)) (kt : ¬ x = y → W p l e R s m args below meth c H locs cells slots Q (F0 m tgt ls (rest))) (kf : x = y → W p l e R s m args below meth c H locs cells slots Q (F0 m (pc + 3) ls (rest))) : W p l e R s m args below meth c H locs cells slots Q (F0 m pc ls (.ref y :: .ref x :: rest)) :=
  lv_acmp_ne (rx := some x) (ry := some y) hx hb hdg ht (fun c1 => kt (fun z => c1 (by rw [z]))) (fun c1 => kf (Option.some.inj c1))
end RV
end
section
theorem ci_X0_init : Ci yX0_init cX0_init 5 4 := ⟨⟨tw_2_153, tw_1_15, by decide +kernel⟩, tw_2_152, rfl⟩
theorem cv_X0_canCome : Cv yX0_canCome cX0_canCome 1 (some .boolean) 0 := ⟨⟨tw_2_208, tw_1_15, by decide +kernel⟩, tw_2_207, tp_2_12⟩
theorem ci_X1_init : Ci yX1_init cX1_init 2 1 := ⟨⟨tw_1_55, tw_1_5, by decide +kernel⟩, tw_1_54, rfl⟩
theorem cv_X1_isFree : Cv yX1_isFree cX1_isFree 5 (some .boolean) 2 := ⟨⟨tw_2_128, tw_1_5, by decide +kernel⟩, tw_2_127, tp_2_0⟩
theorem cv_X1_valueOf : Cv yX1_valueOf cX1_valueOf 5 (some .long) 2 := ⟨⟨tw_2_67, tw_1_5, by decide +kernel⟩, tw_2_66, tp_1_7⟩
theorem cv_X1_countOf : Cv yX1_countOf cX1_countOf 7 (some .long) 2 := ⟨⟨tw_2_97, tw_1_5, by decide +kernel⟩, tw_2_96, tp_1_12⟩
theorem cv_X1_canTake : Cv yX1_canTake cX1_canTake 3 (some .boolean) 1 := ⟨⟨tw_2_212, tw_1_5, by decide +kernel⟩, tw_2_211, tp_2_13⟩
theorem cv_X1_take : Cv yX1_take cX1_take 2 none 1 := ⟨⟨tw_2_183, tw_1_5, by decide +kernel⟩, tw_2_182, tp_2_8⟩
theorem cv_X1_unlock : Cv yX1_unlock cX1_unlock 3 none 1 := ⟨⟨tw_2_188, tw_1_5, by decide +kernel⟩, tw_2_187, tp_2_9⟩
theorem cv_X1_howManyLocked : Cv yX1_howManyLocked cX1_howManyLocked 3 (some .int) 0 := ⟨⟨tw_3_83, tw_1_5, by decide +kernel⟩, tw_3_82, tp_3_11⟩
theorem ci_X2_init : Ci yX2_init cX2_init 4 3 := ⟨⟨tw_1_124, tw_1_8, by decide +kernel⟩, tw_1_123, rfl⟩
theorem cv_X2_slotOf : Cv yX2_slotOf cX2_slotOf 2 (some .int) 1 := ⟨⟨tw_2_93, tw_1_8, by decide +kernel⟩, tw_2_92, tp_1_11⟩
theorem ci_X3_init : Ci yX3_init cX3_init 3 2 := ⟨⟨tw_1_203, tw_1_12, by decide +kernel⟩, tw_1_202, rfl⟩
theorem cv_X3_put : Cv yX3_put cX3_put 4 none 2 := ⟨⟨tw_2_105, tw_1_12, by decide +kernel⟩, tw_2_104, tp_1_13⟩
theorem cv_X3_addTo : Cv yX3_addTo cX3_addTo 3 none 2 := ⟨⟨tw_2_113, tw_1_12, by decide +kernel⟩, tw_2_112, tp_1_14⟩
theorem cv_X3_wroteAnything : Cv yX3_wroteAnything cX3_wroteAnything 1 (some .boolean) 0 := ⟨⟨tw_2_179, tw_1_12, by decide +kernel⟩, tw_2_178, tp_2_7⟩
theorem cv_X3_hasCommit : Cv yX3_hasCommit cX3_hasCommit 1 (some .boolean) 0 := ⟨⟨tw_2_78, tw_1_12, by decide +kernel⟩, tw_2_77, tp_1_9⟩
theorem cv_X3_isWithin : Cv yX3_isWithin cX3_isWithin 2 (some .boolean) 1 := ⟨⟨tw_2_74, tw_1_12, by decide +kernel⟩, tw_2_73, tp_1_8⟩
theorem ci_X4_init : Ci yX4_init cX4_init 2 0 := ⟨⟨tw_1_20, tw_1_1, by decide +kernel⟩, tw_1_19, rfl⟩
theorem cv_X4_sites : Cv yX4_sites cX4_sites 3 (some .int) 2 := ⟨⟨tw_1_103, tw_1_1, by decide +kernel⟩, tw_1_101, tw_1_102⟩
theorem cv_X4_thing : Cv yX4_thing cX4_thing 5 (some .int) 2 := ⟨⟨tw_1_111, tw_1_1, by decide +kernel⟩, tw_1_109, tw_1_110⟩
theorem cv_X4_begin : Cv yX4_begin cX4_begin 4 (some .int) 1 := ⟨⟨tw_1_198, tw_1_1, by decide +kernel⟩, tw_1_196, tw_1_197⟩
theorem cv_X4_read : Cv yX4_read cX4_read 5 (some .long) 2 := ⟨⟨tw_2_37, tw_1_1, by decide +kernel⟩, tw_2_35, tw_2_36⟩
theorem cv_X4_counted : Cv yX4_counted cX4_counted 7 (some .long) 3 := ⟨⟨tw_2_82, tw_1_1, by decide +kernel⟩, tw_2_80, tw_2_81⟩
theorem cv_X4_write : Cv yX4_write cX4_write 7 (some .int) 3 := ⟨⟨tw_2_101, tw_1_1, by decide +kernel⟩, tw_2_99, tw_2_100⟩
theorem cv_X4_add : Cv yX4_add cX4_add 7 (some .int) 4 := ⟨⟨tw_2_109, tw_1_1, by decide +kernel⟩, tw_2_107, tw_2_108⟩
theorem cv_X4_commit : Cv yX4_commit cX4_commit 3 (some .int) 1 := ⟨⟨tw_2_117, tw_1_1, by decide +kernel⟩, tw_2_115, tw_2_116⟩
theorem cv_X4_abort : Cv yX4_abort cX4_abort 3 (some .int) 1 := ⟨⟨tw_2_196, tw_1_1, by decide +kernel⟩, tw_2_194, tw_2_195⟩
theorem cv_X4_deliver : Cv yX4_deliver cX4_deliver 3 (some .int) 1 := ⟨⟨tw_2_200, tw_1_1, by decide +kernel⟩, tw_2_198, tw_2_199⟩
theorem cv_X4_all : Cv yX4_all cX4_all 5 (some .int) 1 := ⟨⟨tw_3_10, tw_1_1, by decide +kernel⟩, tw_3_8, tw_3_9⟩
theorem cv_X4_message : Cv yX4_message cX4_message 4 (some .int) 2 := ⟨⟨tw_3_18, tw_1_1, by decide +kernel⟩, tw_3_16, tw_3_17⟩
theorem cv_X4_told : Cv yX4_told cX4_told 4 (some .int) 2 := ⟨⟨tw_3_25, tw_1_1, by decide +kernel⟩, tw_3_23, tw_3_24⟩
theorem cv_X4_start : Cv yX4_start cX4_start 5 (some .int) 2 := ⟨⟨tw_3_38, tw_1_1, by decide +kernel⟩, tw_3_36, tw_3_37⟩
theorem cv_X4_had : Cv yX4_had cX4_had 5 (some .int) 2 := ⟨⟨tw_3_42, tw_1_1, by decide +kernel⟩, tw_3_40, tw_3_41⟩
theorem cv_X4_latest : Cv yX4_latest cX4_latest 5 (some .long) 2 := ⟨⟨tw_3_46, tw_1_1, by decide +kernel⟩, tw_3_44, tw_3_45⟩
theorem cv_X4_sum : Cv yX4_sum cX4_sum 6 (some .long) 3 := ⟨⟨tw_3_50, tw_1_1, by decide +kernel⟩, tw_3_48, tw_3_49⟩
theorem cv_X4_locked : Cv yX4_locked cX4_locked 5 (some .int) 2 := ⟨⟨tw_3_54, tw_1_1, by decide +kernel⟩, tw_3_52, tw_3_53⟩
theorem cv_X4_sees : Cv yX4_sees cX4_sees 5 (some .int) 2 := ⟨⟨tw_3_58, tw_1_1, by decide +kernel⟩, tw_3_56, tw_3_57⟩
theorem cv_X4_calm : Cv yX4_calm cX4_calm 3 (some .int) 0 := ⟨⟨tw_3_63, tw_1_1, by decide +kernel⟩, tw_3_61, tw_3_62⟩
theorem cv_X4_count : Cv yX4_count cX4_count 2 (some .int) 1 := ⟨⟨tw_3_67, tw_1_1, by decide +kernel⟩, tw_3_65, tw_3_66⟩
theorem cv_X4_findSite : Cv yX4_findSite cX4_findSite 2 (some (.object "FarStore$Site")) 1 := ⟨⟨tw_1_115, tw_1_1, by decide +kernel⟩, tw_1_114, tp_1_0⟩
theorem cv_X4_findThing : Cv yX4_findThing cX4_findThing 2 (some (.object "FarStore$Thing")) 1 := ⟨⟨tw_2_63, tw_1_1, by decide +kernel⟩, tw_2_62, tp_1_6⟩
theorem cv_X4_findPlain : Cv yX4_findPlain cX4_findPlain 3 (some (.object "FarStore$Thing")) 1 := ⟨⟨tw_2_59, tw_1_1, by decide +kernel⟩, tw_2_58, tp_1_5⟩
theorem cv_X4_findSet : Cv yX4_findSet cX4_findSet 3 (some (.object "FarStore$Thing")) 1 := ⟨⟨tw_2_86, tw_1_1, by decide +kernel⟩, tw_2_85, tp_1_10⟩
theorem cv_X4_findTransaction : Cv yX4_findTransaction cX4_findTransaction 2 (some (.object "FarStore$Transaction")) 1 := ⟨⟨tw_2_41, tw_1_1, by decide +kernel⟩, tw_2_40, tp_1_4⟩
theorem cv_X4_findMessage : Cv yX4_findMessage cX4_findMessage 2 (some (.object "FarStore$Message")) 1 := ⟨⟨tw_2_204, tw_1_1, by decide +kernel⟩, tw_2_203, tp_2_11⟩
theorem cs_X4_isElement : Cs yX4_isElement cX4_isElement 1 (some .boolean) 1 := ⟨⟨tw_2_89, tw_1_1, by decide +kernel⟩, tw_2_88⟩
theorem cs_X4_oneIf : Cs yX4_oneIf cX4_oneIf 1 (some .int) 1 := ⟨⟨tw_3_21, tw_1_1, by decide +kernel⟩, tw_3_20⟩
theorem cs_X4_isPlainOf : Cs yX4_isPlainOf cX4_isPlainOf 3 (some .boolean) 3 := ⟨⟨tw_2_124, tw_1_1, by decide +kernel⟩, tw_2_123⟩
theorem cv_X4_hasHome : Cv yX4_hasHome cX4_hasHome 4 (some .boolean) 2 := ⟨⟨tw_2_136, tw_1_1, by decide +kernel⟩, tw_2_135, tp_2_2⟩
theorem cv_X4_hasHomesElsewhere : Cv yX4_hasHomesElsewhere cX4_hasHomesElsewhere 3 (some .boolean) 1 := ⟨⟨tw_2_132, tw_1_1, by decide +kernel⟩, tw_2_131, tp_2_1⟩
theorem cv_X4_allFree : Cv yX4_allFree cX4_allFree 5 (some .boolean) 2 := ⟨⟨tw_2_121, tw_1_1, by decide +kernel⟩, tw_2_120, tp_1_15⟩
theorem cv_X4_lockThings : Cv yX4_lockThings cX4_lockThings 5 none 2 := ⟨⟨tw_2_140, tw_1_1, by decide +kernel⟩, tw_2_139, tp_2_3⟩
theorem cv_X4_tellHomes : Cv yX4_tellHomes cX4_tellHomes 5 (some .int) 2 := ⟨⟨tw_2_144, tw_1_1, by decide +kernel⟩, tw_2_143, tp_2_4⟩
theorem cv_X4_tellOthers : Cv yX4_tellOthers cX4_tellOthers 4 none 2 := ⟨⟨tw_2_192, tw_1_1, by decide +kernel⟩, tw_2_191, tp_2_10⟩
theorem cv_X4_post : Cv yX4_post cX4_post 5 none 4 := ⟨⟨tw_2_148, tw_1_1, by decide +kernel⟩, tw_2_147, tp_2_5⟩
theorem cv_X4_makeCommitted : Cv yX4_makeCommitted cX4_makeCommitted 2 none 1 := ⟨⟨tw_2_175, tw_1_1, by decide +kernel⟩, tw_2_174, tp_2_6⟩
theorem cv_X4_firstThatCanCome : Cv yX4_firstThatCanCome cX4_firstThatCanCome 2 (some .int) 0 := ⟨⟨tw_3_14, tw_1_1, by decide +kernel⟩, tw_3_13, tp_3_5⟩
theorem cv_X4_receive : Cv yX4_receive cX4_receive 2 none 1 := ⟨⟨tw_2_225, tw_1_1, by decide +kernel⟩, tw_2_224, tp_2_15⟩
theorem cv_X4_receiveAsk : Cv yX4_receiveAsk cX4_receiveAsk 3 none 1 := ⟨⟨tw_2_229, tw_1_1, by decide +kernel⟩, tw_2_228, tp_3_0⟩
theorem cv_X4_receiveYes : Cv yX4_receiveYes cX4_receiveYes 2 none 1 := ⟨⟨tw_2_233, tw_1_1, by decide +kernel⟩, tw_2_232, tp_3_1⟩
theorem cv_X4_receiveNo : Cv yX4_receiveNo cX4_receiveNo 2 none 1 := ⟨⟨tw_2_237, tw_1_1, by decide +kernel⟩, tw_2_236, tp_3_2⟩
theorem cv_X4_receiveDrop : Cv yX4_receiveDrop cX4_receiveDrop 2 none 1 := ⟨⟨tw_3_2, tw_1_1, by decide +kernel⟩, tw_3_1, tp_3_3⟩
theorem cv_X4_receiveSend : Cv yX4_receiveSend cX4_receiveSend 2 none 1 := ⟨⟨tw_3_6, tw_1_1, by decide +kernel⟩, tw_3_5, tp_3_4⟩
theorem cv_X4_isSafe : Cv yX4_isSafe cX4_isSafe 2 (some .boolean) 1 := ⟨⟨tw_3_29, tw_1_1, by decide +kernel⟩, tw_3_28, tp_3_6⟩
theorem cv_X4_isEverywhere : Cv yX4_isEverywhere cX4_isEverywhere 2 (some .boolean) 1 := ⟨⟨tw_3_34, tw_1_1, by decide +kernel⟩, tw_3_33, tp_3_7⟩
theorem cv_X4_howManyAre : Cv yX4_howManyAre cX4_howManyAre 4 (some .int) 1 := ⟨⟨tw_3_71, tw_1_1, by decide +kernel⟩, tw_3_70, tp_3_8⟩
theorem cv_X4_howManyCommits : Cv yX4_howManyCommits cX4_howManyCommits 3 (some .int) 0 := ⟨⟨tw_3_75, tw_1_1, by decide +kernel⟩, tw_3_74, tp_3_9⟩
theorem cv_X4_howManyLocks : Cv yX4_howManyLocks cX4_howManyLocks 3 (some .int) 0 := ⟨⟨tw_3_79, tw_1_1, by decide +kernel⟩, tw_3_78, tp_3_10⟩
theorem cv_X4_howManySafe : Cv yX4_howManySafe cX4_howManySafe 3 (some .int) 0 := ⟨⟨tw_3_88, tw_1_1, by decide +kernel⟩, tw_3_87, tp_3_12⟩
theorem ci_X5_init : Ci yX5_init cX5_init 2 0 := ⟨⟨tw_3_93, tw_1_7, by decide +kernel⟩, tw_3_92, rfl⟩
theorem cs_X5_in : Cs yX5_in cX5_in 6 (some .boolean) 3 := ⟨⟨tw_3_185, tw_1_7, by decide +kernel⟩, tw_3_184⟩
theorem cv_X5_isSite : Cv yX5_isSite cX5_isSite 2 (some .boolean) 1 := ⟨⟨tw_3_193, tw_1_7, by decide +kernel⟩, tw_3_192, tp_3_13⟩
theorem cv_X5_isThing : Cv yX5_isThing cX5_isThing 2 (some .boolean) 1 := ⟨⟨tw_3_209, tw_1_7, by decide +kernel⟩, tw_3_208, tp_3_15⟩
theorem cv_X5_is : Cv yX5_is cX5_is 2 (some .boolean) 1 := ⟨⟨tw_3_205, tw_1_7, by decide +kernel⟩, tw_3_204, tp_3_14⟩
theorem cv_X5_sites : Cv yX5_sites cX5_sites 3 (some .int) 2 := ⟨⟨tw_3_180, tw_1_7, by decide +kernel⟩, tw_3_178, tw_3_179⟩
theorem cv_X5_thing : Cv yX5_thing cX5_thing 3 (some .int) 2 := ⟨⟨tw_3_189, tw_1_7, by decide +kernel⟩, tw_3_187, tw_3_188⟩
theorem cv_X5_begin : Cv yX5_begin cX5_begin 3 (some .int) 1 := ⟨⟨tw_3_197, tw_1_7, by decide +kernel⟩, tw_3_195, tw_3_196⟩
theorem cv_X5_has : Cv yX5_has cX5_has 3 (some .boolean) 2 := ⟨⟨tw_3_213, tw_1_7, by decide +kernel⟩, tw_3_212, tp_4_0⟩
theorem cv_X5_read : Cv yX5_read cX5_read 6 (some .long) 2 := ⟨⟨tw_3_201, tw_1_7, by decide +kernel⟩, tw_3_199, tw_3_200⟩
theorem cs_X5_isElement : Cs yX5_isElement cX5_isElement 1 (some .boolean) 1 := ⟨⟨tw_3_220, tw_1_7, by decide +kernel⟩, tw_3_219⟩
theorem cv_X5_counted : Cv yX5_counted cX5_counted 9 (some .long) 3 := ⟨⟨tw_3_217, tw_1_7, by decide +kernel⟩, tw_3_215, tw_3_216⟩
theorem cv_X5_latest : Cv yX5_latest cX5_latest 5 (some .long) 2 := ⟨⟨tw_3_225, tw_1_7, by decide +kernel⟩, tw_3_223, tw_3_224⟩
theorem cv_X5_sum : Cv yX5_sum cX5_sum 7 (some .long) 3 := ⟨⟨tw_3_229, tw_1_7, by decide +kernel⟩, tw_3_227, tw_3_228⟩
theorem cv_X5_plain : Cv yX5_plain cX5_plain 4 (some .int) 1 := ⟨⟨tw_3_237, tw_1_7, by decide +kernel⟩, tw_3_236, tp_4_1⟩
theorem cv_X5_write : Cv yX5_write cX5_write 5 (some .int) 3 := ⟨⟨tw_3_233, tw_1_7, by decide +kernel⟩, tw_3_231, tw_3_232⟩
theorem cv_X5_add : Cv yX5_add cX5_add 5 (some .int) 4 := ⟨⟨tw_4_1, tw_1_7, by decide +kernel⟩, tw_3_239, tw_4_0⟩
theorem cv_X5_send : Cv yX5_send cX5_send 5 none 4 := ⟨⟨tw_4_29, tw_1_7, by decide +kernel⟩, tw_4_28, tp_4_7⟩
theorem cv_X5_isFree : Cv yX5_isFree cX5_isFree 7 (some .boolean) 3 := ⟨⟨tw_4_13, tw_1_7, by decide +kernel⟩, tw_4_12, tp_4_3⟩
theorem cv_X5_areFree : Cv yX5_areFree cX5_areFree 5 (some .boolean) 2 := ⟨⟨tw_4_9, tw_1_7, by decide +kernel⟩, tw_4_8, tp_4_2⟩
theorem cv_X5_lock : Cv yX5_lock cX5_lock 4 none 2 := ⟨⟨tw_4_33, tw_1_7, by decide +kernel⟩, tw_4_32, tp_4_8⟩
theorem cv_X5_unlock : Cv yX5_unlock cX5_unlock 4 none 2 := ⟨⟨tw_4_25, tw_1_7, by decide +kernel⟩, tw_4_24, tp_4_6⟩
theorem cv_X5_writesAt : Cv yX5_writesAt cX5_writesAt 5 (some .boolean) 2 := ⟨⟨tw_4_37, tw_1_7, by decide +kernel⟩, tw_4_36, tp_4_9⟩
theorem cv_X5_comes : Cv yX5_comes cX5_comes 4 none 3 := ⟨⟨tw_4_21, tw_1_7, by decide +kernel⟩, tw_4_20, tp_4_5⟩
theorem cv_X5_becomes : Cv yX5_becomes cX5_becomes 4 none 1 := ⟨⟨tw_4_17, tw_1_7, by decide +kernel⟩, tw_4_16, tp_4_4⟩
theorem cv_X5_commit : Cv yX5_commit cX5_commit 6 (some .int) 1 := ⟨⟨tw_4_5, tw_1_7, by decide +kernel⟩, tw_4_3, tw_4_4⟩
theorem cv_X5_abort : Cv yX5_abort cX5_abort 2 (some .int) 1 := ⟨⟨tw_4_41, tw_1_7, by decide +kernel⟩, tw_4_39, tw_4_40⟩
theorem cv_X5_isMessage : Cv yX5_isMessage cX5_isMessage 2 (some .boolean) 1 := ⟨⟨tw_4_49, tw_1_7, by decide +kernel⟩, tw_4_48, tp_4_10⟩
theorem cv_X5_canCome : Cv yX5_canCome cX5_canCome 6 (some .boolean) 1 := ⟨⟨tw_4_53, tw_1_7, by decide +kernel⟩, tw_4_52, tp_4_11⟩
theorem cv_X5_comesNow : Cv yX5_comesNow cX5_comesNow 7 (some .int) 1 := ⟨⟨tw_4_57, tw_1_7, by decide +kernel⟩, tw_4_56, tp_4_12⟩
theorem cv_X5_refused : Cv yX5_refused cX5_refused 3 none 1 := ⟨⟨tw_4_61, tw_1_7, by decide +kernel⟩, tw_4_60, tp_4_13⟩
theorem cv_X5_deliver : Cv yX5_deliver cX5_deliver 2 (some .int) 1 := ⟨⟨tw_4_45, tw_1_7, by decide +kernel⟩, tw_4_43, tw_4_44⟩
theorem cv_X5_all : Cv yX5_all cX5_all 5 (some .int) 1 := ⟨⟨tw_4_65, tw_1_7, by decide +kernel⟩, tw_4_63, tw_4_64⟩
theorem cv_X5_message : Cv yX5_message cX5_message 3 (some .int) 2 := ⟨⟨tw_4_70, tw_1_7, by decide +kernel⟩, tw_4_68, tw_4_69⟩
theorem cv_X5_isSafe : Cv yX5_isSafe cX5_isSafe 2 (some .boolean) 1 := ⟨⟨tw_4_78, tw_1_7, by decide +kernel⟩, tw_4_77, tp_4_14⟩
theorem cv_X5_told : Cv yX5_told cX5_told 3 (some .int) 2 := ⟨⟨tw_4_74, tw_1_7, by decide +kernel⟩, tw_4_72, tw_4_73⟩
theorem cv_X5_start : Cv yX5_start cX5_start 3 (some .int) 2 := ⟨⟨tw_4_82, tw_1_7, by decide +kernel⟩, tw_4_80, tw_4_81⟩
theorem cv_X5_had : Cv yX5_had cX5_had 3 (some .int) 2 := ⟨⟨tw_4_86, tw_1_7, by decide +kernel⟩, tw_4_84, tw_4_85⟩
theorem cv_X5_locked : Cv yX5_locked cX5_locked 3 (some .int) 2 := ⟨⟨tw_4_90, tw_1_7, by decide +kernel⟩, tw_4_88, tw_4_89⟩
theorem cv_X5_sees : Cv yX5_sees cX5_sees 3 (some .int) 2 := ⟨⟨tw_4_94, tw_1_7, by decide +kernel⟩, tw_4_92, tw_4_93⟩
theorem cv_X5_calm : Cv yX5_calm cX5_calm 4 (some .int) 0 := ⟨⟨tw_4_98, tw_1_7, by decide +kernel⟩, tw_4_96, tw_4_97⟩
theorem cv_X5_count : Cv yX5_count cX5_count 8 (some .int) 1 := ⟨⟨tw_4_102, tw_1_7, by decide +kernel⟩, tw_4_100, tw_4_101⟩
theorem cs_J9_max_7cf53 : Cs yJ9_max_7cf53 cJ9_max_7cf53 2 (some .int) 2 := ⟨⟨tw_1_162, tw_1_10, by decide +kernel⟩, tw_1_161⟩
theorem cs_J9_min_7cf53 : Cs yJ9_min_7cf53 cJ9_min_7cf53 2 (some .int) 2 := ⟨⟨tw_1_189, tw_1_10, by decide +kernel⟩, tw_1_188⟩
theorem ci_Jxa1e45_init_da8c8 : Ci yJxa1e45_init_da8c8 cJxa1e45_init_da8c8 1 0 := ⟨⟨tw_1_36, tw_1_2, by decide +kernel⟩, tw_1_35, rfl⟩
theorem ci_Jxc12de_init_da8c8 : Ci yJxc12de_init_da8c8 cJxc12de_init_da8c8 1 0 := ⟨⟨tw_1_33, tw_1_3, by decide +kernel⟩, tw_1_32, rfl⟩
theorem ci_Jx4a65c_init_da8c8 : Ci yJx4a65c_init_da8c8 cJx4a65c_init_da8c8 1 0 := ⟨⟨tw_1_30, tw_1_4, by decide +kernel⟩, tw_1_29, rfl⟩
theorem cv_Jx4a65c_grow_92f84 : Cv yJx4a65c_grow_92f84 cJx4a65c_grow_92f84 4 (some (.array (.object "java/lang/Object"))) 1 := ⟨⟨tw_1_156, tw_1_4, by decide +kernel⟩, tw_1_155, tp_1_3⟩
theorem cv_Jx4a65c_grow_d5877 : Cv yJx4a65c_grow_d5877 cJx4a65c_grow_d5877 1 (some (.array (.object "java/lang/Object"))) 0 := ⟨⟨tw_1_152, tw_1_4, by decide +kernel⟩, tw_1_151, tp_1_2⟩
theorem cv_Jx4a65c_size_8abf5 : Cv yJx4a65c_size_8abf5 cJx4a65c_size_8abf5 1 (some .int) 0 := ⟨⟨tw_1_119, tw_1_4, by decide +kernel⟩, tw_1_117, tw_1_118⟩
theorem cv_Jx4a65c_isEmpty_aae02 : Cv yJx4a65c_isEmpty_aae02 cJx4a65c_isEmpty_aae02 1 (some .boolean) 0 := ⟨⟨tw_1_107, tw_1_4, by decide +kernel⟩, tw_1_105, tw_1_106⟩
theorem cv_Jx4a65c_elementData_915e3 : Cv yJx4a65c_elementData_915e3 cJx4a65c_elementData_915e3 2 (some (.object "java/lang/Object")) 1 := ⟨⟨tw_2_55, tw_1_4, by decide +kernel⟩, tw_2_53, tw_2_54⟩
theorem cv_Jx4a65c_get_915e3 : Cv yJx4a65c_get_915e3 cJx4a65c_get_915e3 2 (some (.object "java/lang/Object")) 1 := ⟨⟨tw_2_45, tw_1_4, by decide +kernel⟩, tw_2_43, tw_2_44⟩
theorem cv_Jx4a65c_add_72be8 : Cv yJx4a65c_add_72be8 cJx4a65c_add_72be8 4 none 3 := ⟨⟨tw_1_148, tw_1_4, by decide +kernel⟩, tw_1_147, tp_1_1⟩
theorem cv_Jx4a65c_add_9ea2d : Cv yJx4a65c_add_9ea2d cJx4a65c_add_9ea2d 2 (some .boolean) 1 := ⟨⟨tw_1_144, tw_1_4, by decide +kernel⟩, tw_1_142, tw_1_143⟩
theorem cv_Jx4a65c_remove_915e3 : Cv yJx4a65c_remove_915e3 cJx4a65c_remove_915e3 4 (some (.object "java/lang/Object")) 1 := ⟨⟨tw_2_216, tw_1_4, by decide +kernel⟩, tw_2_214, tw_2_215⟩
theorem cv_Jx4a65c_fastRemove_b59b0 : Cv yJx4a65c_fastRemove_b59b0 cJx4a65c_fastRemove_b59b0 4 none 2 := ⟨⟨tw_2_220, tw_1_4, by decide +kernel⟩, tw_2_219, tp_2_14⟩
theorem cs_J7_fill_53178 : Cs yJ7_fill_53178 cJ7_fill_53178 4 none 2 := ⟨⟨tw_1_61, tw_1_6, by decide +kernel⟩, tw_1_60⟩
theorem cs_J7_copyOf_1904c : Cs yJ7_copyOf_1904c cJ7_copyOf_1904c 2 (some (.array (.object "java/lang/Object"))) 2 := ⟨⟨tw_1_169, tw_1_6, by decide +kernel⟩, tw_1_168⟩
theorem cs_J7_copyOf_6403c : Cs yJ7_copyOf_6403c cJ7_copyOf_6403c 4 (some (.array (.object "java/lang/Object"))) 3 := ⟨⟨tw_1_183, tw_1_6, by decide +kernel⟩, tw_1_182⟩
theorem cs_J15_checkIndex_7cf53 : Cs yJ15_checkIndex_7cf53 cJ15_checkIndex_7cf53 2 (some .int) 2 := ⟨⟨tw_2_48, tw_1_13, by decide +kernel⟩, tw_2_47⟩
theorem cs_J8_newLength_cabcc : Cs yJ8_newLength_cabcc cJ8_newLength_cabcc 4 (some .int) 3 := ⟨⟨tw_1_159, tw_1_9, by decide +kernel⟩, tw_1_158⟩
theorem cs_J8_hugeLength_7cf53 : Cs yJ8_hugeLength_7cf53 cJ8_hugeLength_7cf53 3 (some .int) 2 := ⟨⟨tw_1_166, tw_1_9, by decide +kernel⟩, tw_1_165⟩
theorem cs_J3_checkIndex_8e157 : Cs yJ3_checkIndex_8e157 cJ3_checkIndex_8e157 3 (some .int) 3 := ⟨⟨tw_2_51, tw_1_14, by decide +kernel⟩, tw_2_50⟩
end
section
/-- the class's structure: which keys live, what the lists hold, sizes -/
def SI (env : Ev) (u : St) : Prop :=
  ((0, 0) ∈ sK u ∧ (1, 0) ∈ sK u ∧ (∀ i, i < 7 → (2, i) ∈ sK u) ∧ (∀ i, i < 4 → (5, i) ∈ sK u ∧ (6, i) ∈ sK u ∧ (7, i) ∈ sK u)) ∧
  ((∀ k, k < gN u.2.1 3 0 0 → (4, k) ∈ sK u) ∧ (∀ k, (4, k) ∈ sK u → k < gN u.2.1 3 0 0 ∧ gN u.2.1 25 k 0 < 4) ∧ gN u.2.1 3 0 0 ≤ 12) ∧
  ((∀ t, t < gN u.2.1 3 1 0 → (8, t) ∈ sK u) ∧ (∀ t, (8, t) ∈ sK u → t < gN u.2.1 3 1 0 ∧ gN u.2.1 26 t 0 < 4 ∧ (9, t) ∈ sK u ∧ (10, t) ∈ sK u ∧ (11, t) ∈ sK u ∧ (12, t) ∈ sK u ∧ (13, t) ∈ sK u) ∧ gN u.2.1 3 1 0 ≤ 150) ∧
  (∀ q, (14, q) ∈ sK u → gN u.2.1 22 q 0 < 4 ∧ gN u.2.1 23 q 0 < 4 ∧ gN u.2.1 24 q 0 < gN u.2.1 3 1 0) ∧
  ((∀ j, j < gN u.2.1 3 0 0 → sE u 0 j = some (sA u 4 j)) ∧ (∀ j, j < gN u.2.1 3 1 0 → sE u 1 j = some (sA u 8 j)) ∧ (∀ j, j < gN u.2.1 3 2 0 → sE u 2 j = some (sA u 14 (gN u.2.1 31 0 j)) ∧ (14, gN u.2.1 31 0 j) ∈ sK u) ∧ (∀ s, s < 4 → ∀ j, j < gN u.2.1 3 (3 + s) 0 → sE u (3 + s) j = some (sA u 8 (gN u.2.1 30 s j)) ∧ gN u.2.1 30 s j < gN u.2.1 3 1 0)) ∧
  (∀ i, i < 7 → gN u.2.1 3 i 0 ≤ sM u 0 i ∧ sM u 0 i ≤ 4096 ∧ (0 < sM u 0 i → (3, i) ∈ sK u) ∧ (sM u 0 i = 0 → sA u 3 i = env.2.2)) ∧
  gN u.2.1 0 0 0 ≤ 4
section SIp
variable {env : Ev} {u : St} {i k t q j s : Nat}
theorem SI.k0 (h : SI env u) : (0, 0) ∈ sK u := h.1.1
theorem SI.k1 (h : SI env u) : (1, 0) ∈ sK u := h.1.2.1
theorem SI.k2 (h : SI env u) (hi : i < 7) : (2, i) ∈ sK u := h.1.2.2.1 i hi
theorem SI.k5 (h : SI env u) (hi : i < 4) : (5, i) ∈ sK u := (h.1.2.2.2 i hi).1
theorem SI.k6 (h : SI env u) (hi : i < 4) : (6, i) ∈ sK u := (h.1.2.2.2 i hi).2.1
theorem SI.k7 (h : SI env u) (hi : i < 4) : (7, i) ∈ sK u := (h.1.2.2.2 i hi).2.2
theorem SI.k4 (h : SI env u) (hi : k < gN u.2.1 3 0 0) : (4, k) ∈ sK u := h.2.1.1 k hi
theorem SI.th (h : SI env u) (hi : (4, k) ∈ sK u) : k < gN u.2.1 3 0 0 ∧ gN u.2.1 25 k 0 < 4 := h.2.1.2.1 k hi
theorem SI.nth (h : SI env u) : gN u.2.1 3 0 0 ≤ 12 := h.2.1.2.2
theorem SI.k8 (h : SI env u) (hi : t < gN u.2.1 3 1 0) : (8, t) ∈ sK u := h.2.2.1.1 t hi
theorem SI.tx (h : SI env u) (hi : (8, t) ∈ sK u) : t < gN u.2.1 3 1 0 ∧ gN u.2.1 26 t 0 < 4 := ⟨(h.2.2.1.2.1 t hi).1, (h.2.2.1.2.1 t hi).2.1⟩
theorem SI.ntx (h : SI env u) : gN u.2.1 3 1 0 ≤ 150 := h.2.2.1.2.2
theorem SI.k9 (h : SI env u) (hi : (8, t) ∈ sK u) : (9, t) ∈ sK u := (h.2.2.1.2.1 t hi).2.2.1
theorem SI.k10 (h : SI env u) (hi : (8, t) ∈ sK u) : (10, t) ∈ sK u := (h.2.2.1.2.1 t hi).2.2.2.1
theorem SI.k11 (h : SI env u) (hi : (8, t) ∈ sK u) : (11, t) ∈ sK u := (h.2.2.1.2.1 t hi).2.2.2.2.1
theorem SI.k12 (h : SI env u) (hi : (8, t) ∈ sK u) : (12, t) ∈ sK u := (h.2.2.1.2.1 t hi).2.2.2.2.2.1
theorem SI.k13 (h : SI env u) (hi : (8, t) ∈ sK u) : (13, t) ∈ sK u := (h.2.2.1.2.1 t hi).2.2.2.2.2.2
theorem SI.ms (h : SI env u) (hi : (14, q) ∈ sK u) : gN u.2.1 22 q 0 < 4 ∧ gN u.2.1 23 q 0 < 4 ∧ gN u.2.1 24 q 0 < gN u.2.1 3 1 0 := h.2.2.2.1 q hi
theorem SI.e0 (h : SI env u) (hi : j < gN u.2.1 3 0 0) : sE u 0 j = some (sA u 4 j) := h.2.2.2.2.1.1 j hi
theorem SI.e1 (h : SI env u) (hi : j < gN u.2.1 3 1 0) : sE u 1 j = some (sA u 8 j) := h.2.2.2.2.1.2.1 j hi
theorem SI.e2 (h : SI env u) (hi : j < gN u.2.1 3 2 0) : sE u 2 j = some (sA u 14 (gN u.2.1 31 0 j)) := (h.2.2.2.2.1.2.2.1 j hi).1
theorem SI.k14 (h : SI env u) (hi : j < gN u.2.1 3 2 0) : (14, gN u.2.1 31 0 j) ∈ sK u := (h.2.2.2.2.1.2.2.1 j hi).2
theorem SI.e3 (h : SI env u) (hs : s < 4) (hi : j < gN u.2.1 3 (3 + s) 0) : sE u (3 + s) j = some (sA u 8 (gN u.2.1 30 s j)) := (h.2.2.2.2.1.2.2.2 s hs j hi).1
theorem SI.o3 (h : SI env u) (hs : s < 4) (hi : j < gN u.2.1 3 (3 + s) 0) : gN u.2.1 30 s j < gN u.2.1 3 1 0 := (h.2.2.2.2.1.2.2.2 s hs j hi).2
theorem SI.cap (h : SI env u) (hi : i < 7) : gN u.2.1 3 i 0 ≤ sM u 0 i ∧ sM u 0 i ≤ 4096 ∧ (0 < sM u 0 i → (3, i) ∈ sK u) ∧ (sM u 0 i = 0 → sA u 3 i = env.2.2) := h.2.2.2.2.2.1 i hi
theorem SI.nst (h : SI env u) : gN u.2.1 0 0 0 ≤ 4 := h.2.2.2.2.2.2
end SIp
end
section
set_option maxHeartbeats 4000000 in
set_option maxRecDepth 100000 in
theorem c_Jx4a65c_size_8abf5 (l : Launch) (env : Ev) (s0 : Nat) (X : va_W) (u : St) (a0 : Nat) (i : Nat) (ha0 : At u 2 (i) a0)  : Met l yJx4a65c_size_8abf5 [Cond.code yJx4a65c_size_8abf5 cJx4a65c_size_8abf5 1 (some .int)] { frames := 0, cells := 0, slots := 0, locals := 0 } (va_Pc [.ref (a0)] (Pr env s0 X u)) (va_Qi (fun r u' => u = u' ∧ r = nI (gN u.2.1 3 i 0)) (Po env s0 X) (fun q => s0 ≤ q)) 0 0 (fun q => s0 ≤ q) := by
  refine Met.ofW (cc := cJx4a65c_size_8abf5) (maxL := 1) (ret := (some .int)) (by decide) rfl ?_
  intro p e s m args below meth c s₁ B hml hv
  obtain ⟨rfl, hv⟩ := hv
  have hx := B.exec
  have hb := B.bytes
  have hr := B.returns
  have hts : ∀ ww ∈ TT, ww.before #[.ref (a0)] s = true := fun ww hw => hv.2.1 ww hw _
  have hown : s.vm.findClass RJx4a65c = some m.cls := findClass_of_methodNamed B.named
  have hlocks := B.notSynchronized
  have hF : CallFix p m c cJx4a65c_size_8abf5 1 s #[.ref (a0)] TT RJx4a65c := ⟨hx, hb, hml, hown, hts⟩
  have hB := Bd.entry hv
  have hl := lv_entry ([.ref (a0)]) (n := 1) (Nat.le_of_ble_eq_true rfl)
  rw [lg_entry_eq]
  generalize (lg_sl ([.ref (a0)]) ++ List.replicate (1 - (lg_sl ([.ref (a0)])).length) Slot.unset).toArray = ls at hl ⊢
  have hl : lv_has ls 1 [(0, .ref (a0))] := hl
  refine lv_aload_n hx hb dJx4a65c_size_8abf5_0 rfl (lv_at hl 0 rfl) ?_
  refine w_get (v := .int (nI (gN u.2.1 3 (i) (0)))) (fk := 2) hF hB ha0 (cn_2 env u (i)) rfl in_AL (by decide) tw_1_41 rfl rfl dJx4a65c_size_8abf5_1 ?_
  exact w_iret (v := nI (gN u.2.1 3 (i) (0))) hF hr hlocks hB (⟨rfl, rfl⟩) dJx4a65c_size_8abf5_4
set_option maxHeartbeats 4000000 in
set_option maxRecDepth 100000 in
theorem c_Jx4a65c_isEmpty_aae02 (l : Launch) (env : Ev) (s0 : Nat) (X : va_W) (u : St) (a0 : Nat) (i : Nat) (ha0 : At u 2 (i) a0) (hNb : Nb u.2.1) : Met l yJx4a65c_isEmpty_aae02 [Cond.code yJx4a65c_isEmpty_aae02 cJx4a65c_isEmpty_aae02 1 (some .boolean)] { frames := 0, cells := 0, slots := 0, locals := 0 } (va_Pc [.ref (a0)] (Pr env s0 X u)) (va_Qi (fun r u' => u = u' ∧ r = b2i (decide (gN u.2.1 3 i 0 = 0))) (Po env s0 X) (fun q => s0 ≤ q)) 0 0 (fun q => s0 ≤ q) := by
  refine Met.ofW (cc := cJx4a65c_isEmpty_aae02) (maxL := 1) (ret := (some .boolean)) (by decide) rfl ?_
  intro p e s m args below meth c s₁ B hml hv
  obtain ⟨rfl, hv⟩ := hv
  have hx := B.exec
  have hb := B.bytes
  have hr := B.returns
  have hts : ∀ ww ∈ TT, ww.before #[.ref (a0)] s = true := fun ww hw => hv.2.1 ww hw _
  have hown : s.vm.findClass RJx4a65c = some m.cls := findClass_of_methodNamed B.named
  have hlocks := B.notSynchronized
  have hF : CallFix p m c cJx4a65c_isEmpty_aae02 1 s #[.ref (a0)] TT RJx4a65c := ⟨hx, hb, hml, hown, hts⟩
  have hB := Bd.entry hv
  have hl := lv_entry ([.ref (a0)]) (n := 1) (Nat.le_of_ble_eq_true rfl)
  rw [lg_entry_eq]
  generalize (lg_sl ([.ref (a0)]) ++ List.replicate (1 - (lg_sl ([.ref (a0)])).length) Slot.unset).toArray = ls at hl ⊢
  have hl : lv_has ls 1 [(0, .ref (a0))] := hl
  refine lv_aload_n hx hb dJx4a65c_isEmpty_aae02_0 rfl (lv_at hl 0 rfl) ?_
  refine w_get (v := .int (nI (gN u.2.1 3 (i) (0)))) (fk := 2) hF hB ha0 (cn_2 env u (i)) rfl in_AL (by decide) tw_1_41 rfl rfl dJx4a65c_isEmpty_aae02_1 ?_
  refine w_ifne_n (tgt := 11) (by have := hNb 3 (i) (0); omega) hx hb dJx4a65c_isEmpty_aae02_4 (by decide) (fun c_1 => ?_) (fun c_1 => ?_)
  · refine lv_iconst (v := nI 0) hx hb dJx4a65c_isEmpty_aae02_11 (by decide) ?_
    exact w_zret (v := nI 0) hF hr rfl hlocks hB (⟨rfl, by simp [c_1]; rfl⟩) dJx4a65c_isEmpty_aae02_12
  · refine lv_iconst (v := nI 1) hx hb dJx4a65c_isEmpty_aae02_7 (by decide) ?_
    refine lv_goto (tgt := 12) hx hb dJx4a65c_isEmpty_aae02_8 (by decide) ?_
    exact w_zret (v := nI 1) hF hr rfl hlocks hB (⟨rfl, by simp [c_1]; rfl⟩) dJx4a65c_isEmpty_aae02_12
set_option maxHeartbeats 4000000 in
set_option maxRecDepth 100000 in
theorem c_J3_checkIndex_8e157 (l : Launch) (env : Ev) (s0 : Nat) (X : va_W) (u : St) (j : Nat) (n : Nat) (hj : j < n) (hn : n < 2 ^ 31) : Met l yJ3_checkIndex_8e157 [Cond.code yJ3_checkIndex_8e157 cJ3_checkIndex_8e157 3 (some .int)] { frames := 0, cells := 0, slots := 0, locals := 0 } (va_Pc [.int (nI (j)), .int (nI (n)), .null] (Pr env s0 X u)) (va_Qi (fun r u' => u = u' ∧ r = nI j) (Po env s0 X) (fun q => s0 ≤ q)) 0 0 (fun q => s0 ≤ q) := by
  refine Met.ofW (cc := cJ3_checkIndex_8e157) (maxL := 3) (ret := (some .int)) (by decide) rfl ?_
  intro p e s m args below meth c s₁ B hml hv
  obtain ⟨rfl, hv⟩ := hv
  have hx := B.exec
  have hb := B.bytes
  have hr := B.returns
  have hts : ∀ ww ∈ TT, ww.before #[.int (nI (j)), .int (nI (n)), .null] s = true := fun ww hw => hv.2.1 ww hw _
  have hown : s.vm.findClass RJ3 = some m.cls := findClass_of_methodNamed B.named
  have hlocks := B.notSynchronized
  have hF : CallFix p m c cJ3_checkIndex_8e157 3 s #[.int (nI (j)), .int (nI (n)), .null] TT RJ3 := ⟨hx, hb, hml, hown, hts⟩
  have hB := Bd.entry hv
  have hl := lv_entry ([.int (nI (j)), .int (nI (n)), .null]) (n := 3) (Nat.le_of_ble_eq_true rfl)
  rw [lg_entry_eq]
  generalize (lg_sl ([.int (nI (j)), .int (nI (n)), .null]) ++ List.replicate (3 - (lg_sl ([.int (nI (j)), .int (nI (n)), .null])).length) Slot.unset).toArray = ls at hl ⊢
  have hl : lv_has ls 3 [(0, .int (nI (j))), (1, .int (nI (n))), (2, .null)] := hl
  refine lv_iload_n hx hb dJ3_checkIndex_8e157_0 rfl (lv_at hl 0 rfl) ?_
  refine w_iflt_n (tgt := 9) (by omega) hx hb dJ3_checkIndex_8e157_1 (by decide) ?_
  refine lv_iload_n hx hb dJ3_checkIndex_8e157_4 rfl (lv_at hl 0 rfl) ?_
  refine lv_iload_n hx hb dJ3_checkIndex_8e157_5 rfl (lv_at hl 1 rfl) ?_
  refine w_iclt_n (tgt := 16) (by omega) (by omega) hx hb dJ3_checkIndex_8e157_6 (by decide) (fun c_1 => ?_) (fun c_1 => ?_)
  · refine lv_iload_n hx hb dJ3_checkIndex_8e157_16 rfl (lv_at hl 0 rfl) ?_
    exact w_iret (v := nI j) hF hr hlocks hB (⟨rfl, rfl⟩) dJ3_checkIndex_8e157_17
  · exact absurd c_1 (by omega)
set_option maxHeartbeats 4000000 in
set_option maxRecDepth 100000 in
theorem c_J15_checkIndex_7cf53 (l : Launch) (env : Ev) (s0 : Nat) (X : va_W) (u : St) (j : Nat) (n : Nat) (hj : j < n) (hn : n < 2 ^ 31) : Met l yJ15_checkIndex_7cf53 [Cond.code yJ15_checkIndex_7cf53 cJ15_checkIndex_7cf53 2 (some .int)] { frames := 1, cells := 0, slots := 0, locals := 22 } (va_Pc [.int (nI (j)), .int (nI (n))] (Pr env s0 X u)) (va_Qi (fun r u' => u = u' ∧ r = nI j) (Po env s0 X) (fun q => s0 ≤ q)) 0 0 (fun q => s0 ≤ q) := by
  refine Met.ofW (cc := cJ15_checkIndex_7cf53) (maxL := 2) (ret := (some .int)) (by decide) rfl ?_
  intro p e s m args below meth c s₁ B hml hv
  obtain ⟨rfl, hv⟩ := hv
  have hx := B.exec
  have hb := B.bytes
  have hr := B.returns
  have hts : ∀ ww ∈ TT, ww.before #[.int (nI (j)), .int (nI (n))] s = true := fun ww hw => hv.2.1 ww hw _
  have hown : s.vm.findClass RJ15 = some m.cls := findClass_of_methodNamed B.named
  have hlocks := B.notSynchronized
  have hF : CallFix p m c cJ15_checkIndex_7cf53 2 s #[.int (nI (j)), .int (nI (n))] TT RJ15 := ⟨hx, hb, hml, hown, hts⟩
  have hB := Bd.entry hv
  have hl := lv_entry ([.int (nI (j)), .int (nI (n))]) (n := 2) (Nat.le_of_ble_eq_true rfl)
  rw [lg_entry_eq]
  generalize (lg_sl ([.int (nI (j)), .int (nI (n))]) ++ List.replicate (2 - (lg_sl ([.int (nI (j)), .int (nI (n))])).length) Slot.unset).toArray = ls at hl ⊢
  have hl : lv_has ls 2 [(0, .int (nI (j))), (1, .int (nI (n)))] := hl
  refine lv_iload_n hx hb dJ15_checkIndex_7cf53_0 rfl (lv_at hl 0 rfl) ?_
  refine lv_iload_n hx hb dJ15_checkIndex_7cf53_1 rfl (lv_at hl 1 rfl) ?_
  refine lv_null hx hb dJ15_checkIndex_7cf53_2 ?_
  refine w_ci (r_S (As := [.int (nI (j)), .int (nI (n)), .null]) (rest := []) hF hB (c_J3_checkIndex_8e157 l env s0 X u (j) (n) (by omega) (by omega)) cs_J3_checkIndex_8e157 tw_2_49 ⟨rfl, rfl, by decide, by decide⟩ rfl hl.1 rfl (lv_room (by decide)) dJ15_checkIndex_7cf53_3 ⟨Nat.le_of_ble_eq_true rfl, Nat.le_of_ble_eq_true rfl⟩) hB (fun r_1 u_3 H locs hq_2 hB => ?_)
  obtain ⟨rfl, rfl⟩ := hq_2
  exact w_iret (v := nI j) hF hr hlocks hB (⟨rfl, rfl⟩) dJ15_checkIndex_7cf53_6
set_option maxHeartbeats 4000000 in
set_option maxRecDepth 100000 in
theorem c_Jx4a65c_elementData_915e3 (l : Launch) (env : Ev) (s0 : Nat) (X : va_W) (u : St) (a0 : Nat) (i : Nat) (ha0 : At u 2 (i) a0) (j : Nat) (h3 : (3, i) ∈ sK u) (hj : j < sM u 0 i) (hc : sM u 0 i ≤ 4096) : Met l yJx4a65c_elementData_915e3 [Cond.code yJx4a65c_elementData_915e3 cJx4a65c_elementData_915e3 2 (some (.object "java/lang/Object"))] { frames := 0, cells := 0, slots := 0, locals := 0 } (va_Pc [.ref (a0), .int (nI (j))] (Pr env s0 X u)) (va_Qq (fun r u' => u = u' ∧ r = sE u i j) (Po env s0 X) (fun q => s0 ≤ q)) 0 0 (fun q => s0 ≤ q) := by
  refine Met.ofW (cc := cJx4a65c_elementData_915e3) (maxL := 2) (ret := (some (.object "java/lang/Object"))) (by decide) rfl ?_
  intro p e s m args below meth c s₁ B hml hv
  obtain ⟨rfl, hv⟩ := hv
  have hx := B.exec
  have hb := B.bytes
  have hr := B.returns
  have hts : ∀ ww ∈ TT, ww.before #[.ref (a0), .int (nI (j))] s = true := fun ww hw => hv.2.1 ww hw _
  have hown : s.vm.findClass RJx4a65c = some m.cls := findClass_of_methodNamed B.named
  have hlocks := B.notSynchronized
  have hF : CallFix p m c cJx4a65c_elementData_915e3 2 s #[.ref (a0), .int (nI (j))] TT RJx4a65c := ⟨hx, hb, hml, hown, hts⟩
  have hB := Bd.entry hv
  have hl := lv_entry ([.ref (a0), .int (nI (j))]) (n := 2) (Nat.le_of_ble_eq_true rfl)
  rw [lg_entry_eq]
  generalize (lg_sl ([.ref (a0), .int (nI (j))]) ++ List.replicate (2 - (lg_sl ([.ref (a0), .int (nI (j))])).length) Slot.unset).toArray = ls at hl ⊢
  have hl : lv_has ls 2 [(0, .ref (a0)), (1, .int (nI (j)))] := hl
  refine lv_aload_n hx hb dJx4a65c_elementData_915e3_0 rfl (lv_at hl 0 rfl) ?_
  refine w_get (v := .ref (sA u 3 (i))) (fk := 1) hF hB ha0 (cn_2 env u (i)) rfl in_AL (by decide) tw_1_40 rfl rfl dJx4a65c_elementData_915e3_1 ?_
  refine lv_iload_n hx hb dJx4a65c_elementData_915e3_4 rfl (lv_at hl 1 rfl) ?_
  refine w_aldO hF hB ⟨h3, rfl⟩ (cn_3 env u (i)) hj rfl (by omega) dJx4a65c_elementData_915e3_5 ?_
  exact w_aret (r := sE u (i) (j)) rfl hF hr (by first | exact Or.inl ⟨_, rfl⟩ | exact Or.inr ⟨_, rfl⟩) hlocks hB (⟨rfl, rfl⟩) dJx4a65c_elementData_915e3_6
set_option maxHeartbeats 4000000 in
set_option maxRecDepth 100000 in
theorem c_Jx4a65c_get_915e3 (l : Launch) (env : Ev) (s0 : Nat) (X : va_W) (u : St) (a0 : Nat) (i : Nat) (ha0 : At u 2 (i) a0) (j : Nat) (hNb : Nb u.2.1) (h3 : (3, i) ∈ sK u) (hj : j < gN u.2.1 3 i 0) (hj2 : gN u.2.1 3 i 0 ≤ sM u 0 i) (hc : sM u 0 i ≤ 4096) : Met l yJx4a65c_get_915e3 [Cond.code yJx4a65c_get_915e3 cJx4a65c_get_915e3 2 (some (.object "java/lang/Object"))] { frames := 2, cells := 0, slots := 0, locals := 43 } (va_Pc [.ref (a0), .int (nI (j))] (Pr env s0 X u)) (va_Qq (fun r u' => u = u' ∧ r = sE u i j) (Po env s0 X) (fun q => s0 ≤ q)) 0 0 (fun q => s0 ≤ q) := by
  refine Met.ofW (cc := cJx4a65c_get_915e3) (maxL := 2) (ret := (some (.object "java/lang/Object"))) (by decide) rfl ?_
  intro p e s m args below meth c s₁ B hml hv
  obtain ⟨rfl, hv⟩ := hv
  have hx := B.exec
  have hb := B.bytes
  have hr := B.returns
  have hts : ∀ ww ∈ TT, ww.before #[.ref (a0), .int (nI (j))] s = true := fun ww hw => hv.2.1 ww hw _
  have hown : s.vm.findClass RJx4a65c = some m.cls := findClass_of_methodNamed B.named
  have hlocks := B.notSynchronized
  have hF : CallFix p m c cJx4a65c_get_915e3 2 s #[.ref (a0), .int (nI (j))] TT RJx4a65c := ⟨hx, hb, hml, hown, hts⟩
  have hB := Bd.entry hv
  have hl := lv_entry ([.ref (a0), .int (nI (j))]) (n := 2) (Nat.le_of_ble_eq_true rfl)
  rw [lg_entry_eq]
  generalize (lg_sl ([.ref (a0), .int (nI (j))]) ++ List.replicate (2 - (lg_sl ([.ref (a0), .int (nI (j))])).length) Slot.unset).toArray = ls at hl ⊢
  have hl : lv_has ls 2 [(0, .ref (a0)), (1, .int (nI (j)))] := hl
  refine lv_iload_n hx hb dJx4a65c_get_915e3_0 rfl (lv_at hl 1 rfl) ?_
  refine lv_aload_n hx hb dJx4a65c_get_915e3_1 rfl (lv_at hl 0 rfl) ?_
  refine w_get (v := .int (nI (gN u.2.1 3 (i) (0)))) (fk := 2) hF hB ha0 (cn_2 env u (i)) rfl in_AL (by decide) tw_1_41 rfl rfl dJx4a65c_get_915e3_2 ?_
  refine w_ci (r_S (As := [.int (nI (j)), .int (nI (gN u.2.1 3 (i) (0)))]) (rest := []) hF hB (c_J15_checkIndex_7cf53 l env s0 X u (j) (gN u.2.1 3 (i) (0)) hj (by have := hNb 3 i 0; omega)) cs_J15_checkIndex_7cf53 tw_2_46 ⟨rfl, rfl, by decide, by decide⟩ rfl hl.1 rfl (lv_room (by decide)) dJx4a65c_get_915e3_5 ⟨Nat.le_of_ble_eq_true rfl, Nat.le_of_ble_eq_true rfl⟩) hB (fun r_1 u_3 H locs hq_2 hB => ?_)
  obtain ⟨rfl, rfl⟩ := hq_2
  refine lv_pop hx hb dJx4a65c_get_915e3_8 rfl ?_
  refine lv_aload_n hx hb dJx4a65c_get_915e3_9 rfl (lv_at hl 0 rfl) ?_
  refine lv_iload_n hx hb dJx4a65c_get_915e3_10 rfl (lv_at hl 1 rfl) ?_
  refine w_cq (r_V (As := [.int (nI (j))]) (rest := []) hF hB (c_Jx4a65c_elementData_915e3 l env s0 X u (a0) (i) (ha0) (j) h3 (by omega) hc) cv_Jx4a65c_elementData_915e3 tw_2_52 ⟨rfl, rfl, by decide, by decide⟩ (hB.recv ha0 (cn_2 env u (i)) rfl) rfl hl.1 rfl (lv_room (by decide)) dJx4a65c_get_915e3_11 ⟨Nat.le_of_ble_eq_true rfl, Nat.le_of_ble_eq_true rfl⟩) hB (fun r_4 u_6 H locs hq_5 hB => ?_)
  obtain ⟨rfl, rfl⟩ := hq_5
  exact w_aret (r := sE u (i) (j)) rfl hF hr (by first | exact Or.inl ⟨_, rfl⟩ | exact Or.inr ⟨_, rfl⟩) hlocks hB (⟨rfl, rfl⟩) dJx4a65c_get_915e3_14
end
section
/-- the model's keys live -/
def MI (u : St) : Prop := ∀ k, k ∈ [20, 24, 25, 27, 28, 29, 30, 31, 32, 33, 34, 35, 36, 37, 38, 39, 40, 41, 42, 44, 45, 46, 47] → (k, 0) ∈ sK u
/-- the model's numbers lie in their ranges -/
def MV (m : Lg) : Prop := (∀ j, gN m 56 0 j < 4) ∧ (∀ j, gN m 69 0 j < 150) ∧ (∀ j, gN m 70 0 j ≤ 150) ∧ (∀ j, gN m 74 0 j < 4) ∧ (∀ j, gN m 75 0 j < 4) ∧ (∀ j, gN m 76 0 j < 150) ∧ gN m 52 0 0 ≤ 12 ∧ gN m 55 0 0 ≤ 150 ∧ gN m 72 0 0 ≤ 2400 ∧ gN m 50 0 0 ≤ 4
section MVp
variable {m : Lg}
theorem MV.site (h : MV m) (j : Nat) : gN m 56 0 j < 4 := h.1 j
theorem MV.came (h : MV m) (j : Nat) : gN m 69 0 j < 150 := h.2.1 j
theorem MV.cm (h : MV m) (j : Nat) : gN m 70 0 j ≤ 150 := h.2.2.1 j
theorem MV.to (h : MV m) (j : Nat) : gN m 74 0 j < 4 := h.2.2.2.1 j
theorem MV.fr (h : MV m) (j : Nat) : gN m 75 0 j < 4 := h.2.2.2.2.1 j
theorem MV.of (h : MV m) (j : Nat) : gN m 76 0 j < 150 := h.2.2.2.2.2.1 j
theorem MV.nth (h : MV m) : gN m 52 0 0 ≤ 12 := h.2.2.2.2.2.2.1
theorem MV.ntx (h : MV m) : gN m 55 0 0 ≤ 150 := h.2.2.2.2.2.2.2.1
theorem MV.nms (h : MV m) : gN m 72 0 0 ≤ 2400 := h.2.2.2.2.2.2.2.2.1
theorem MV.nst (h : MV m) : gN m 50 0 0 ≤ 4 := h.2.2.2.2.2.2.2.2.2
end MVp
/-! the reference, read as functions -/
def mHas (m : Lg) (t o : Nat) : Bool := decide (0 < gN m 59 0 o) && decide (gN m 59 0 o ≤ gN m 58 0 (4 * t + gN m 56 0 o))
def mCame (m : Lg) (s i : Nat) : Nat := gN m 69 0 (150 * s + i)
def mFreeQ (m : Lg) (t k s i : Nat) : Bool := !gB m 64 0 (12 * mCame m s i + k) || mHas m t (mCame m s i)
def mIsFree (m : Lg) (t k s : Nat) : Bool := decide (gI m 71 0 (12 * s + k) = -4) && allN (mFreeQ m t k s) (gN m 70 0 s)
def mAFQ (m : Lg) (t s k : Nat) : Bool := !gB m 64 0 (12 * t + k) || (!decide (gN m 53 0 k = s) || mIsFree m t k s)
def mAreFree (m : Lg) (t s : Nat) : Bool := allN (mAFQ m t s) (gN m 52 0 0)
def mPlain (m : Lg) (t : Nat) : Nat := cntN (fun i => gB m 64 0 (12 * t + i)) (gN m 52 0 0)
def mWQ (m : Lg) (t s k : Nat) : Bool := gB m 64 0 (12 * t + k) && decide (gN m 53 0 k = s)
def mWritesAt (m : Lg) (t s : Nat) : Bool := anyN (mWQ m t s) (gN m 52 0 0)
def mIsSafe (m : Lg) (t : Nat) : Bool := decide (0 < gN m 59 0 t) && decide (gN m 51 0 0 ≤ gN m 60 0 t)
def mCanQ (m : Lg) (s t o : Nat) : Bool := decide (gN m 58 0 (4 * t + o) ≤ gN m 68 0 (4 * s + o))
def mCanC (m : Lg) (s t : Nat) : Bool := decide (gN m 68 0 (4 * s + gN m 56 0 t) + 1 = gN m 59 0 t) && allN (mCanQ m s t) (gN m 50 0 0)
def mCanCome (m : Lg) (i : Nat) : Bool := !decide (gN m 73 0 i = 4) || mCanC m (gN m 74 0 i) (gN m 76 0 i)
/-! long compares -/
theorem lgc_lt {x y : Int64} : lg_cmp x y < 0 ↔ x < y := by
  have e1 : (x > y) ↔ y.toInt < x.toInt := Int64.lt_iff_toInt_lt
  have e2 : (x = y) ↔ x.toInt = y.toInt := Int64.toInt_inj.symm
  rw [Int64.lt_iff_toInt_lt]
  unfold lg_cmp
  by_cases q1 : x > y
  · rw [if_pos q1]
    exact ⟨fun h => absurd h (by decide), fun h => by have := e1.mp q1; omega⟩
  · rw [if_neg q1]
    by_cases q2 : x = y
    · rw [if_pos q2]
      exact ⟨fun h => absurd h (by decide), fun h => by have := e2.mp q2; omega⟩
    · rw [if_neg q2]
      exact ⟨fun _ => by have h1 := mt e1.mpr q1; have h2 := mt e2.mpr q2; omega, fun _ => by decide⟩
theorem lgc_gt {x y : Int64} : 0 < lg_cmp x y ↔ y < x := by
  have e1 : (x > y) ↔ y.toInt < x.toInt := Int64.lt_iff_toInt_lt
  have e2 : (x = y) ↔ x.toInt = y.toInt := Int64.toInt_inj.symm
  rw [Int64.lt_iff_toInt_lt]
  unfold lg_cmp
  by_cases q1 : x > y
  · rw [if_pos q1]
    exact ⟨fun _ => e1.mp q1, fun _ => by decide⟩
  · rw [if_neg q1]
    have h1 := mt e1.mpr q1
    by_cases q2 : x = y
    · rw [if_pos q2]
      exact ⟨fun h => absurd h (by decide), fun h => absurd h h1⟩
    · rw [if_neg q2]
      exact ⟨fun h => absurd h (by decide), fun h => absurd h h1⟩
def inL (v a b : Int64) : Bool := decide (a ≤ v) && decide (v ≤ b)
theorem inL_f1 {v a b : Int64} (h : lg_cmp v a < 0) : inL v a b = false := by
  have h := lgc_lt.mp h
  rw [Int64.lt_iff_toInt_lt] at h
  have : ¬ a ≤ v := by rw [Int64.le_iff_toInt_le]; omega
  simp [inL, this]
theorem inL_f2 {v a b : Int64} (h : 0 < lg_cmp v b) : inL v a b = false := by
  have h := lgc_gt.mp h
  rw [Int64.lt_iff_toInt_lt] at h
  have : ¬ v ≤ b := by rw [Int64.le_iff_toInt_le]; omega
  simp [inL, this]
theorem inL_t {v a b : Int64} (h1 : ¬ lg_cmp v a < 0) (h2 : ¬ 0 < lg_cmp v b) : inL v a b = true := by
  have h1 : ¬ v < a := fun z => h1 (lgc_lt.mpr z)
  have h2 : ¬ b < v := fun z => h2 (lgc_gt.mpr z)
  rw [Int64.lt_iff_toInt_lt] at h1 h2
  have : a ≤ v := by rw [Int64.le_iff_toInt_le]; omega
  have : v ≤ b := by rw [Int64.le_iff_toInt_le]; omega
  simp [inL, *]
theorem i2l_toInt (v : Int32) : v.toInt64.toInt = v.toInt := by simp
theorem in_ix (v : Int32) {n : Nat} (hn : n < 1073741824) : inL v.toInt64 0 (nI n - nI 1).toInt64 = (ix v n).isSome := by
  have h1 : (nI n - nI 1).toInt = (n : Int) - 1 := by
    have := pk_sub_toInt (a := n) (b := 1) (by omega) (by omega)
    simpa using this
  have e1 : (0 ≤ v.toInt64) ↔ 0 ≤ v.toInt := by rw [Int64.le_iff_toInt_le, i2l_toInt]; simp
  have e2 : (v.toInt64 ≤ (nI n - nI 1).toInt64) ↔ v.toInt < n := by rw [Int64.le_iff_toInt_le, i2l_toInt, i2l_toInt, h1]; omega
  simp only [inL, e1, e2, ix]
  by_cases q1 : 0 ≤ v.toInt <;> by_cases q2 : v.toInt < (n : Int) <;> simp [q1, q2]
theorem in_c (v : Int32) (a b : Int64) (x y : Int) (ha : a.toInt = x) (hb : b.toInt = y) : inL v.toInt64 a b = (decide (x ≤ v.toInt) && decide (v.toInt ≤ y)) := by
  have e1 : (a ≤ v.toInt64) ↔ x ≤ v.toInt := by rw [Int64.le_iff_toInt_le, i2l_toInt, ha]
  have e2 : (v.toInt64 ≤ b) ↔ v.toInt ≤ y := by rw [Int64.le_iff_toInt_le, i2l_toInt, hb]
  simp only [inL, e1, e2]
theorem in_el (v : Int32) : inL v.toInt64 0 7 = (ix v 8).isSome := by
  rw [in_c v 0 7 0 7 rfl rfl]
  simp only [ix]
  by_cases q1 : 0 ≤ v.toInt <;> by_cases q2 : v.toInt < 8 <;> simp [q1, q2] <;> omega
theorem nI_is_sub1 {h c : Nat} (hh : h < 1073741824) (hc : c < 1073741824) : nI h = nI c - nI 1 ↔ h + 1 = c := by
  have e := pk_sub_toInt (a := c) (b := 1) (by omega) (by omega)
  constructor
  · intro z
    have z2 := congrArg Int32.toInt z
    rw [e, nI_toInt (by omega)] at z2
    omega
  · intro z
    subst z
    rw [pk_sub (by omega)]
    simp
/-- a loop upwards that writes nothing -/
theorem wloop (P : Nat → Array Slot → Prop) (G : Array Slot → Prop) (N : Nat) (step : ∀ i ls, i ≤ N → P i ls → (∀ ls', i < N → P (i + 1) ls' → G ls') → G ls) : ∀ i ls, i ≤ N → P i ls → G ls := by
  have key : ∀ d i ls, N - i < d → i ≤ N → P i ls → G ls := by
    intro d
    induction d with
    | zero => intro i ls h; omega
    | succ d ih => intro i ls hd hi hP; exact step i ls hi hP (fun ls' h1 h2 => ih (i + 1) ls' (by omega) (by omega) h2)
  exact fun i ls hi hP => key (N - i + 1) i ls (by omega) hi hP
/-- a loop downwards that writes nothing -/
theorem wloopD (P : Nat → Array Slot → Prop) (G : Array Slot → Prop) (z : ∀ ls, P 0 ls → G ls) (step : ∀ i ls, P (i + 1) ls → (∀ ls', P i ls' → G ls') → G ls) : ∀ i ls, P i ls → G ls := by
  intro i
  induction i with
  | zero => exact z
  | succ i ih => intro ls h; exact step i ls h ih
/-- a loop upwards that writes -/
theorem wloopH {σ : Type} (P : Nat → σ → Prop) (G : σ → Prop) (N : Nat) (step : ∀ i x, i ≤ N → P i x → (∀ x', i < N → P (i + 1) x' → G x') → G x) : ∀ i x, i ≤ N → P i x → G x := by
  have key : ∀ d i x, N - i < d → i ≤ N → P i x → G x := by
    intro d
    induction d with
    | zero => intro i ls h; omega
    | succ d ih => intro i x hd hi hP; exact step i x hi hP (fun x' h1 h2 => ih (i + 1) x' (by omega) (by omega) h2)
  exact fun i x hi hP => key (N - i + 1) i x (by omega) hi hP
end
section
set_option maxHeartbeats 4000000 in
set_option maxRecDepth 100000 in
theorem c_X5_in (l : Launch) (env : Ev) (s0 : Nat) (X : va_W) (u : St) (v : Int64) (x : Int64) (y : Int64)  : Met l yX5_in [Cond.code yX5_in cX5_in 6 (some .boolean)] { frames := 0, cells := 0, slots := 0, locals := 0 } (va_Pc [.long (v), .long (x), .long (y)] (Pr env s0 X u)) (va_Qi (fun r u' => u = u' ∧ r = b2i (inL v x y)) (Po env s0 X) (fun q => s0 ≤ q)) 0 0 (fun q => s0 ≤ q) := by
  refine Met.ofW (cc := cX5_in) (maxL := 6) (ret := (some .boolean)) (by decide) rfl ?_
  intro p e s m args below meth c s₁ B hml hv
  obtain ⟨rfl, hv⟩ := hv
  have hx := B.exec
  have hb := B.bytes
  have hr := B.returns
  have hts : ∀ ww ∈ TT, ww.before #[.long (v), .long (x), .long (y)] s = true := fun ww hw => hv.2.1 ww hw _
  have hown : s.vm.findClass RX5 = some m.cls := findClass_of_methodNamed B.named
  have hlocks := B.notSynchronized
  have hF : CallFix p m c cX5_in 6 s #[.long (v), .long (x), .long (y)] TT RX5 := ⟨hx, hb, hml, hown, hts⟩
  have hB := Bd.entry hv
  have hl := lv_entry ([.long (v), .long (x), .long (y)]) (n := 6) (Nat.le_of_ble_eq_true rfl)
  rw [lg_entry_eq]
  generalize (lg_sl ([.long (v), .long (x), .long (y)]) ++ List.replicate (6 - (lg_sl ([.long (v), .long (x), .long (y)])).length) Slot.unset).toArray = ls at hl ⊢
  have hl : lv_has ls 6 [(0, .long (v)), (2, .long (x)), (4, .long (y))] := hl
  refine lv_lload_n hx hb dX5_in_0 rfl (lv_at hl 0 rfl) ?_
  refine lv_lload_n hx hb dX5_in_1 rfl (lv_at hl 1 rfl) ?_
  refine W.lcmp hx hb dX5_in_2 ?_
  refine lv_if_lt (tgt := 17) hx hb dX5_in_3 (by decide) (fun c_1 => ?_) (fun c_1 => ?_)
  · refine lv_iconst (v := nI 0) hx hb dX5_in_17 (by decide) ?_
    exact w_zret (v := nI 0) hF hr rfl hlocks hB (⟨rfl, by rw [inL_f1 c_1]; rfl⟩) dX5_in_18
  · refine lv_lload_n hx hb dX5_in_6 rfl (lv_at hl 0 rfl) ?_
    refine lv_lload hx hb dX5_in_7 (lv_at hl 2 rfl) ?_
    refine W.lcmp hx hb dX5_in_9 ?_
    refine lv_if_gt (tgt := 17) hx hb dX5_in_10 (by decide) (fun c_2 => ?_) (fun c_2 => ?_)
    · refine lv_iconst (v := nI 0) hx hb dX5_in_17 (by decide) ?_
      exact w_zret (v := nI 0) hF hr rfl hlocks hB (⟨rfl, by rw [inL_f2 c_2]; rfl⟩) dX5_in_18
    · refine lv_iconst (v := nI 1) hx hb dX5_in_13 (by decide) ?_
      refine lv_goto (tgt := 18) hx hb dX5_in_14 (by decide) ?_
      exact w_zret (v := nI 1) hF hr rfl hlocks hB (⟨rfl, by rw [inL_t c_1 c_2]; rfl⟩) dX5_in_18
set_option maxHeartbeats 4000000 in
set_option maxRecDepth 100000 in
theorem c_X5_isSite (l : Launch) (env : Ev) (s0 : Nat) (X : va_W) (u : St) (a0 : Nat) (_xa0 : Nat) (ha0 : At u 20 (0) a0) (v : Int32) (hM : MI u) (hNm : Nb u.2.2) : Met l yX5_isSite [Cond.code yX5_isSite cX5_isSite 2 (some .boolean)] { frames := 1, cells := 0, slots := 0, locals := 25 } (va_Pc [.ref (a0), .int (v)] (Pr env s0 X u)) (va_Qi (fun r u' => u = u' ∧ r = b2i (ix v (gN u.2.2 50 0 0)).isSome) (Po env s0 X) (fun q => s0 ≤ q)) 0 0 (fun q => s0 ≤ q) := by
  refine Met.ofW (cc := cX5_isSite) (maxL := 2) (ret := (some .boolean)) (by decide) rfl ?_
  intro p e s m args below meth c s₁ B hml hv
  obtain ⟨rfl, hv⟩ := hv
  have hx := B.exec
  have hb := B.bytes
  have hr := B.returns
  have hts : ∀ ww ∈ TT, ww.before #[.ref (a0), .int (v)] s = true := fun ww hw => hv.2.1 ww hw _
  have hown : s.vm.findClass RX5 = some m.cls := findClass_of_methodNamed B.named
  have hlocks := B.notSynchronized
  have hF : CallFix p m c cX5_isSite 2 s #[.ref (a0), .int (v)] TT RX5 := ⟨hx, hb, hml, hown, hts⟩
  have hB := Bd.entry hv
  have hl := lv_entry ([.ref (a0), .int (v)]) (n := 2) (Nat.le_of_ble_eq_true rfl)
  rw [lg_entry_eq]
  generalize (lg_sl ([.ref (a0), .int (v)]) ++ List.replicate (2 - (lg_sl ([.ref (a0), .int (v)])).length) Slot.unset).toArray = ls at hl ⊢
  have hl : lv_has ls 2 [(0, .ref (a0)), (1, .int (v))] := hl
  refine lv_iload_n hx hb dX5_isSite_0 rfl (lv_at hl 1 rfl) ?_
  refine lv_i2l hx hb dX5_isSite_1 rfl ?_
  refine lv_lconst (v := 0) hx hb dX5_isSite_2 (by decide) ?_
  refine lv_aload_n hx hb dX5_isSite_3 rfl (lv_at hl 0 rfl) ?_
  refine w_get (v := .int (nI (gN u.2.2 50 (0) (0)))) (fk := 0) hF hB ha0 (cn_20 env u (0)) rfl in_X5 (by decide) tw_3_95 rfl rfl dX5_isSite_4 ?_
  refine lv_iconst (v := nI 1) hx hb dX5_isSite_7 (by decide) ?_
  refine lv_isub hx hb dX5_isSite_8 ?_
  refine lv_i2l hx hb dX5_isSite_9 rfl ?_
  refine w_ci (r_S (As := [.long ((v).toInt64), .long (0), .long (((nI (gN u.2.2 50 (0) (0))) - (nI 1)).toInt64)]) (rest := []) hF hB (c_X5_in l env s0 X u ((v).toInt64) (0) (((nI (gN u.2.2 50 (0) (0))) - (nI 1)).toInt64) ) cs_X5_in tw_3_183 ⟨rfl, rfl, by decide, by decide⟩ rfl hl.1 rfl (lv_room (by decide)) dX5_isSite_10 ⟨Nat.le_of_ble_eq_true rfl, Nat.le_of_ble_eq_true rfl⟩) hB (fun r_1 u_3 H locs hq_2 hB => ?_)
  obtain ⟨rfl, rfl⟩ := hq_2
  exact w_zret (v := b2i (inL ((v).toInt64) (0) (((nI (gN u.2.2 50 (0) (0))) - (nI 1)).toInt64))) hF hr (b2i_nar _) hlocks hB (⟨rfl, by rw [← in_ix v (hNm 50 0 0)]⟩) dX5_isSite_13
set_option maxHeartbeats 4000000 in
set_option maxRecDepth 100000 in
theorem c_X5_isThing (l : Launch) (env : Ev) (s0 : Nat) (X : va_W) (u : St) (a0 : Nat) (_xa0 : Nat) (ha0 : At u 20 (0) a0) (v : Int32) (hM : MI u) (hNm : Nb u.2.2) : Met l yX5_isThing [Cond.code yX5_isThing cX5_isThing 2 (some .boolean)] { frames := 1, cells := 0, slots := 0, locals := 25 } (va_Pc [.ref (a0), .int (v)] (Pr env s0 X u)) (va_Qi (fun r u' => u = u' ∧ r = b2i (ix v (gN u.2.2 52 0 0)).isSome) (Po env s0 X) (fun q => s0 ≤ q)) 0 0 (fun q => s0 ≤ q) := by
  refine Met.ofW (cc := cX5_isThing) (maxL := 2) (ret := (some .boolean)) (by decide) rfl ?_
  intro p e s m args below meth c s₁ B hml hv
  obtain ⟨rfl, hv⟩ := hv
  have hx := B.exec
  have hb := B.bytes
  have hr := B.returns
  have hts : ∀ ww ∈ TT, ww.before #[.ref (a0), .int (v)] s = true := fun ww hw => hv.2.1 ww hw _
  have hown : s.vm.findClass RX5 = some m.cls := findClass_of_methodNamed B.named
  have hlocks := B.notSynchronized
  have hF : CallFix p m c cX5_isThing 2 s #[.ref (a0), .int (v)] TT RX5 := ⟨hx, hb, hml, hown, hts⟩
  have hB := Bd.entry hv
  have hl := lv_entry ([.ref (a0), .int (v)]) (n := 2) (Nat.le_of_ble_eq_true rfl)
  rw [lg_entry_eq]
  generalize (lg_sl ([.ref (a0), .int (v)]) ++ List.replicate (2 - (lg_sl ([.ref (a0), .int (v)])).length) Slot.unset).toArray = ls at hl ⊢
  have hl : lv_has ls 2 [(0, .ref (a0)), (1, .int (v))] := hl
  refine lv_iload_n hx hb dX5_isThing_0 rfl (lv_at hl 1 rfl) ?_
  refine lv_i2l hx hb dX5_isThing_1 rfl ?_
  refine lv_lconst (v := 0) hx hb dX5_isThing_2 (by decide) ?_
  refine lv_aload_n hx hb dX5_isThing_3 rfl (lv_at hl 0 rfl) ?_
  refine w_get (v := .int (nI (gN u.2.2 52 (0) (0)))) (fk := 2) hF hB ha0 (cn_20 env u (0)) rfl in_X5 (by decide) tw_3_97 rfl rfl dX5_isThing_4 ?_
  refine lv_iconst (v := nI 1) hx hb dX5_isThing_7 (by decide) ?_
  refine lv_isub hx hb dX5_isThing_8 ?_
  refine lv_i2l hx hb dX5_isThing_9 rfl ?_
  refine w_ci (r_S (As := [.long ((v).toInt64), .long (0), .long (((nI (gN u.2.2 52 (0) (0))) - (nI 1)).toInt64)]) (rest := []) hF hB (c_X5_in l env s0 X u ((v).toInt64) (0) (((nI (gN u.2.2 52 (0) (0))) - (nI 1)).toInt64) ) cs_X5_in tw_3_183 ⟨rfl, rfl, by decide, by decide⟩ rfl hl.1 rfl (lv_room (by decide)) dX5_isThing_10 ⟨Nat.le_of_ble_eq_true rfl, Nat.le_of_ble_eq_true rfl⟩) hB (fun r_1 u_3 H locs hq_2 hB => ?_)
  obtain ⟨rfl, rfl⟩ := hq_2
  exact w_zret (v := b2i (inL ((v).toInt64) (0) (((nI (gN u.2.2 52 (0) (0))) - (nI 1)).toInt64))) hF hr (b2i_nar _) hlocks hB (⟨rfl, by rw [← in_ix v (hNm 52 0 0)]⟩) dX5_isThing_13
set_option maxHeartbeats 4000000 in
set_option maxRecDepth 100000 in
theorem c_X5_is (l : Launch) (env : Ev) (s0 : Nat) (X : va_W) (u : St) (a0 : Nat) (_xa0 : Nat) (ha0 : At u 20 (0) a0) (v : Int32) (hM : MI u) (hNm : Nb u.2.2) : Met l yX5_is [Cond.code yX5_is cX5_is 2 (some .boolean)] { frames := 1, cells := 0, slots := 0, locals := 25 } (va_Pc [.ref (a0), .int (v)] (Pr env s0 X u)) (va_Qi (fun r u' => u = u' ∧ r = b2i (ix v (gN u.2.2 55 0 0)).isSome) (Po env s0 X) (fun q => s0 ≤ q)) 0 0 (fun q => s0 ≤ q) := by
  refine Met.ofW (cc := cX5_is) (maxL := 2) (ret := (some .boolean)) (by decide) rfl ?_
  intro p e s m args below meth c s₁ B hml hv
  obtain ⟨rfl, hv⟩ := hv
  have hx := B.exec
  have hb := B.bytes
  have hr := B.returns
  have hts : ∀ ww ∈ TT, ww.before #[.ref (a0), .int (v)] s = true := fun ww hw => hv.2.1 ww hw _
  have hown : s.vm.findClass RX5 = some m.cls := findClass_of_methodNamed B.named
  have hlocks := B.notSynchronized
  have hF : CallFix p m c cX5_is 2 s #[.ref (a0), .int (v)] TT RX5 := ⟨hx, hb, hml, hown, hts⟩
  have hB := Bd.entry hv
  have hl := lv_entry ([.ref (a0), .int (v)]) (n := 2) (Nat.le_of_ble_eq_true rfl)
  rw [lg_entry_eq]
  generalize (lg_sl ([.ref (a0), .int (v)]) ++ List.replicate (2 - (lg_sl ([.ref (a0), .int (v)])).length) Slot.unset).toArray = ls at hl ⊢
  have hl : lv_has ls 2 [(0, .ref (a0)), (1, .int (v))] := hl
  refine lv_iload_n hx hb dX5_is_0 rfl (lv_at hl 1 rfl) ?_
  refine lv_i2l hx hb dX5_is_1 rfl ?_
  refine lv_lconst (v := 0) hx hb dX5_is_2 (by decide) ?_
  refine lv_aload_n hx hb dX5_is_3 rfl (lv_at hl 0 rfl) ?_
  refine w_get (v := .int (nI (gN u.2.2 55 (0) (0)))) (fk := 5) hF hB ha0 (cn_20 env u (0)) rfl in_X5 (by decide) tw_3_100 rfl rfl dX5_is_4 ?_
  refine lv_iconst (v := nI 1) hx hb dX5_is_7 (by decide) ?_
  refine lv_isub hx hb dX5_is_8 ?_
  refine lv_i2l hx hb dX5_is_9 rfl ?_
  refine w_ci (r_S (As := [.long ((v).toInt64), .long (0), .long (((nI (gN u.2.2 55 (0) (0))) - (nI 1)).toInt64)]) (rest := []) hF hB (c_X5_in l env s0 X u ((v).toInt64) (0) (((nI (gN u.2.2 55 (0) (0))) - (nI 1)).toInt64) ) cs_X5_in tw_3_183 ⟨rfl, rfl, by decide, by decide⟩ rfl hl.1 rfl (lv_room (by decide)) dX5_is_10 ⟨Nat.le_of_ble_eq_true rfl, Nat.le_of_ble_eq_true rfl⟩) hB (fun r_1 u_3 H locs hq_2 hB => ?_)
  obtain ⟨rfl, rfl⟩ := hq_2
  exact w_zret (v := b2i (inL ((v).toInt64) (0) (((nI (gN u.2.2 55 (0) (0))) - (nI 1)).toInt64))) hF hr (b2i_nar _) hlocks hB (⟨rfl, by rw [← in_ix v (hNm 55 0 0)]⟩) dX5_is_13
set_option maxHeartbeats 4000000 in
set_option maxRecDepth 100000 in
theorem c_X5_isMessage (l : Launch) (env : Ev) (s0 : Nat) (X : va_W) (u : St) (a0 : Nat) (_xa0 : Nat) (ha0 : At u 20 (0) a0) (v : Int32) (hM : MI u) (hNm : Nb u.2.2) : Met l yX5_isMessage [Cond.code yX5_isMessage cX5_isMessage 2 (some .boolean)] { frames := 1, cells := 0, slots := 0, locals := 25 } (va_Pc [.ref (a0), .int (v)] (Pr env s0 X u)) (va_Qi (fun r u' => u = u' ∧ r = b2i (ix v (gN u.2.2 72 0 0)).isSome) (Po env s0 X) (fun q => s0 ≤ q)) 0 0 (fun q => s0 ≤ q) := by
  refine Met.ofW (cc := cX5_isMessage) (maxL := 2) (ret := (some .boolean)) (by decide) rfl ?_
  intro p e s m args below meth c s₁ B hml hv
  obtain ⟨rfl, hv⟩ := hv
  have hx := B.exec
  have hb := B.bytes
  have hr := B.returns
  have hts : ∀ ww ∈ TT, ww.before #[.ref (a0), .int (v)] s = true := fun ww hw => hv.2.1 ww hw _
  have hown : s.vm.findClass RX5 = some m.cls := findClass_of_methodNamed B.named
  have hlocks := B.notSynchronized
  have hF : CallFix p m c cX5_isMessage 2 s #[.ref (a0), .int (v)] TT RX5 := ⟨hx, hb, hml, hown, hts⟩
  have hB := Bd.entry hv
  have hl := lv_entry ([.ref (a0), .int (v)]) (n := 2) (Nat.le_of_ble_eq_true rfl)
  rw [lg_entry_eq]
  generalize (lg_sl ([.ref (a0), .int (v)]) ++ List.replicate (2 - (lg_sl ([.ref (a0), .int (v)])).length) Slot.unset).toArray = ls at hl ⊢
  have hl : lv_has ls 2 [(0, .ref (a0)), (1, .int (v))] := hl
  refine lv_iload_n hx hb dX5_isMessage_0 rfl (lv_at hl 1 rfl) ?_
  refine lv_i2l hx hb dX5_isMessage_1 rfl ?_
  refine lv_lconst (v := 0) hx hb dX5_isMessage_2 (by decide) ?_
  refine lv_aload_n hx hb dX5_isMessage_3 rfl (lv_at hl 0 rfl) ?_
  refine w_get (v := .int (nI (gN u.2.2 72 (0) (0)))) (fk := 22) hF hB ha0 (cn_20 env u (0)) rfl in_X5 (by decide) tw_3_117 rfl rfl dX5_isMessage_4 ?_
  refine lv_iconst (v := nI 1) hx hb dX5_isMessage_7 (by decide) ?_
  refine lv_isub hx hb dX5_isMessage_8 ?_
  refine lv_i2l hx hb dX5_isMessage_9 rfl ?_
  refine w_ci (r_S (As := [.long ((v).toInt64), .long (0), .long (((nI (gN u.2.2 72 (0) (0))) - (nI 1)).toInt64)]) (rest := []) hF hB (c_X5_in l env s0 X u ((v).toInt64) (0) (((nI (gN u.2.2 72 (0) (0))) - (nI 1)).toInt64) ) cs_X5_in tw_3_183 ⟨rfl, rfl, by decide, by decide⟩ rfl hl.1 rfl (lv_room (by decide)) dX5_isMessage_10 ⟨Nat.le_of_ble_eq_true rfl, Nat.le_of_ble_eq_true rfl⟩) hB (fun r_1 u_3 H locs hq_2 hB => ?_)
  obtain ⟨rfl, rfl⟩ := hq_2
  exact w_zret (v := b2i (inL ((v).toInt64) (0) (((nI (gN u.2.2 72 (0) (0))) - (nI 1)).toInt64))) hF hr (b2i_nar _) hlocks hB (⟨rfl, by rw [← in_ix v (hNm 72 0 0)]⟩) dX5_isMessage_13
set_option maxHeartbeats 4000000 in
set_option maxRecDepth 100000 in
theorem c_X5_isElement (l : Launch) (env : Ev) (s0 : Nat) (X : va_W) (u : St) (v : Int32)  : Met l yX5_isElement [Cond.code yX5_isElement cX5_isElement 1 (some .boolean)] { frames := 1, cells := 0, slots := 0, locals := 25 } (va_Pc [.int (v)] (Pr env s0 X u)) (va_Qi (fun r u' => u = u' ∧ r = b2i (ix v 8).isSome) (Po env s0 X) (fun q => s0 ≤ q)) 0 0 (fun q => s0 ≤ q) := by
  refine Met.ofW (cc := cX5_isElement) (maxL := 1) (ret := (some .boolean)) (by decide) rfl ?_
  intro p e s m args below meth c s₁ B hml hv
  obtain ⟨rfl, hv⟩ := hv
  have hx := B.exec
  have hb := B.bytes
  have hr := B.returns
  have hts : ∀ ww ∈ TT, ww.before #[.int (v)] s = true := fun ww hw => hv.2.1 ww hw _
  have hown : s.vm.findClass RX5 = some m.cls := findClass_of_methodNamed B.named
  have hlocks := B.notSynchronized
  have hF : CallFix p m c cX5_isElement 1 s #[.int (v)] TT RX5 := ⟨hx, hb, hml, hown, hts⟩
  have hB := Bd.entry hv
  have hl := lv_entry ([.int (v)]) (n := 1) (Nat.le_of_ble_eq_true rfl)
  rw [lg_entry_eq]
  generalize (lg_sl ([.int (v)]) ++ List.replicate (1 - (lg_sl ([.int (v)])).length) Slot.unset).toArray = ls at hl ⊢
  have hl : lv_has ls 1 [(0, .int (v))] := hl
  refine lv_iload_n hx hb dX5_isElement_0 rfl (lv_at hl 0 rfl) ?_
  refine lv_i2l hx hb dX5_isElement_1 rfl ?_
  refine lv_lconst (v := 0) hx hb dX5_isElement_2 (by decide) ?_
  refine lv_ldc2 (v := 7) hx hb hown (hts _ tw_3_221) dX5_isElement_3 ?_
  refine w_ci (r_S (As := [.long ((v).toInt64), .long (0), .long (7)]) (rest := []) hF hB (c_X5_in l env s0 X u ((v).toInt64) (0) (7) ) cs_X5_in tw_3_183 ⟨rfl, rfl, by decide, by decide⟩ rfl hl.1 rfl (lv_room (by decide)) dX5_isElement_6 ⟨Nat.le_of_ble_eq_true rfl, Nat.le_of_ble_eq_true rfl⟩) hB (fun r_1 u_3 H locs hq_2 hB => ?_)
  obtain ⟨rfl, rfl⟩ := hq_2
  exact w_zret (v := b2i (inL ((v).toInt64) (0) (7))) hF hr (b2i_nar _) hlocks hB (⟨rfl, by rw [← in_el v]⟩) dX5_isElement_9
set_option maxHeartbeats 4000000 in
set_option maxRecDepth 100000 in
theorem c_X5_has (l : Launch) (env : Ev) (s0 : Nat) (X : va_W) (u : St) (a0 : Nat) (_xa0 : Nat) (ha0 : At u 20 (0) a0) (t : Nat) (o : Nat) (hM : MI u) (hV : MV u.2.2) (hNm : Nb u.2.2) (ht : t < 150) (ho : o < 150) : Met l yX5_has [Cond.code yX5_has cX5_has 3 (some .boolean)] { frames := 0, cells := 0, slots := 0, locals := 0 } (va_Pc [.ref (a0), .int (nI (t)), .int (nI (o))] (Pr env s0 X u)) (va_Qi (fun r u' => u = u' ∧ r = b2i (mHas u.2.2 t o)) (Po env s0 X) (fun q => s0 ≤ q)) 0 0 (fun q => s0 ≤ q) := by
  refine Met.ofW (cc := cX5_has) (maxL := 3) (ret := (some .boolean)) (by decide) rfl ?_
  intro p e s m args below meth c s₁ B hml hv
  obtain ⟨rfl, hv⟩ := hv
  have hx := B.exec
  have hb := B.bytes
  have hr := B.returns
  have hts : ∀ ww ∈ TT, ww.before #[.ref (a0), .int (nI (t)), .int (nI (o))] s = true := fun ww hw => hv.2.1 ww hw _
  have hown : s.vm.findClass RX5 = some m.cls := findClass_of_methodNamed B.named
  have hlocks := B.notSynchronized
  have hF : CallFix p m c cX5_has 3 s #[.ref (a0), .int (nI (t)), .int (nI (o))] TT RX5 := ⟨hx, hb, hml, hown, hts⟩
  have hB := Bd.entry hv
  have hl := lv_entry ([.ref (a0), .int (nI (t)), .int (nI (o))]) (n := 3) (Nat.le_of_ble_eq_true rfl)
  rw [lg_entry_eq]
  generalize (lg_sl ([.ref (a0), .int (nI (t)), .int (nI (o))]) ++ List.replicate (3 - (lg_sl ([.ref (a0), .int (nI (t)), .int (nI (o))])).length) Slot.unset).toArray = ls at hl ⊢
  have hl : lv_has ls 3 [(0, .ref (a0)), (1, .int (nI (t))), (2, .int (nI (o)))] := hl
  refine lv_aload_n hx hb dX5_has_0 rfl (lv_at hl 0 rfl) ?_
  refine w_get (v := .ref (sA u 30 0)) (fk := 9) hF hB ha0 (cn_20 env u (0)) rfl in_X5 (by decide) tw_3_104 rfl rfl dX5_has_1 ?_
  refine lv_iload_n hx hb dX5_has_4 rfl (lv_at hl 2 rfl) ?_
  refine w_iald (v := .int (nI (gN u.2.2 59 (0) (o)))) hF hB ⟨hM 30 (by decide), rfl⟩ (cn_30 env u (0)) (by omega) rfl (by decide) dX5_has_5 ?_
  refine w_ifle_n (tgt := 37) (by have := hNm 59 (0) (o); omega) hx hb dX5_has_6 (by decide) (fun c_1 => ?_) (fun c_1 => ?_)
  · refine lv_iconst (v := nI 0) hx hb dX5_has_37 (by decide) ?_
    exact w_zret (v := nI 0) hF hr rfl hlocks hB (⟨rfl, b2i_c0 (by simp [mHas, c_1] <;> omega)⟩) dX5_has_38
  · refine lv_aload_n hx hb dX5_has_9 rfl (lv_at hl 0 rfl) ?_
    refine w_get (v := .ref (sA u 30 0)) (fk := 9) hF hB ha0 (cn_20 env u (0)) rfl in_X5 (by decide) tw_3_104 rfl rfl dX5_has_10 ?_
    refine lv_iload_n hx hb dX5_has_13 rfl (lv_at hl 2 rfl) ?_
    refine w_iald (v := .int (nI (gN u.2.2 59 (0) (o)))) hF hB ⟨hM 30 (by decide), rfl⟩ (cn_30 env u (0)) (by omega) rfl (by decide) dX5_has_14 ?_
    refine lv_aload_n hx hb dX5_has_15 rfl (lv_at hl 0 rfl) ?_
    refine w_get (v := .ref (sA u 29 0)) (fk := 8) hF hB ha0 (cn_20 env u (0)) rfl in_X5 (by decide) tw_3_103 rfl rfl dX5_has_16 ?_
    refine lv_iconst (v := nI 4) hx hb dX5_has_19 (by decide) ?_
    refine lv_iload_n hx hb dX5_has_20 rfl (lv_at hl 1 rfl) ?_
    refine w_imul_n hx hb dX5_has_21 ?_
    refine lv_aload_n hx hb dX5_has_22 rfl (lv_at hl 0 rfl) ?_
    refine w_get (v := .ref (sA u 27 0)) (fk := 6) hF hB ha0 (cn_20 env u (0)) rfl in_X5 (by decide) tw_3_101 rfl rfl dX5_has_23 ?_
    refine lv_iload_n hx hb dX5_has_26 rfl (lv_at hl 2 rfl) ?_
    refine w_iald (v := .int (nI (gN u.2.2 56 (0) (o)))) hF hB ⟨hM 27 (by decide), rfl⟩ (cn_27 env u (0)) (by omega) rfl (by decide) dX5_has_27 ?_
    refine w_iadd_n hx hb dX5_has_28 ?_
    refine w_iald (v := .int (nI (gN u.2.2 58 (0) ((4 * t) + (gN u.2.2 56 (0) (o)))))) hF hB ⟨hM 29 (by decide), rfl⟩ (cn_29 env u (0)) (by have := hV.site (o); omega) rfl (by decide) dX5_has_29 ?_
    refine w_icgt_n (tgt := 37) (by have := hNm 59 (0) (o); omega) (by have := hNm 58 (0) ((4 * t) + (gN u.2.2 56 (0) (o))); have := hNm 56 (0) (o); omega) hx hb dX5_has_30 (by decide) (fun c_2 => ?_) (fun c_2 => ?_)
    · refine lv_iconst (v := nI 0) hx hb dX5_has_37 (by decide) ?_
      exact w_zret (v := nI 0) hF hr rfl hlocks hB (⟨rfl, b2i_c0 (by simp [mHas, c_1, c_2] <;> omega)⟩) dX5_has_38
    · refine lv_iconst (v := nI 1) hx hb dX5_has_33 (by decide) ?_
      refine lv_goto (tgt := 38) hx hb dX5_has_34 (by decide) ?_
      exact w_zret (v := nI 1) hF hr rfl hlocks hB (⟨rfl, b2i_c1 (by simp [mHas, c_1, c_2] <;> omega)⟩) dX5_has_38
set_option maxHeartbeats 4000000 in
set_option maxRecDepth 100000 in
theorem c_X5_plain (l : Launch) (env : Ev) (s0 : Nat) (X : va_W) (u : St) (a0 : Nat) (_xa0 : Nat) (ha0 : At u 20 (0) a0) (t : Nat) (hM : MI u) (hV : MV u.2.2) (hNm : Nb u.2.2) (ht : t < 150) : Met l yX5_plain [Cond.code yX5_plain cX5_plain 4 (some .int)] { frames := 0, cells := 0, slots := 0, locals := 0 } (va_Pc [.ref (a0), .int (nI (t))] (Pr env s0 X u)) (va_Qi (fun r u' => u = u' ∧ r = nI (mPlain u.2.2 t)) (Po env s0 X) (fun q => s0 ≤ q)) 0 0 (fun q => s0 ≤ q) := by
  refine Met.ofW (cc := cX5_plain) (maxL := 4) (ret := (some .int)) (by decide) rfl ?_
  intro p e s m args below meth c s₁ B hml hv
  obtain ⟨rfl, hv⟩ := hv
  have hx := B.exec
  have hb := B.bytes
  have hr := B.returns
  have hts : ∀ ww ∈ TT, ww.before #[.ref (a0), .int (nI (t))] s = true := fun ww hw => hv.2.1 ww hw _
  have hown : s.vm.findClass RX5 = some m.cls := findClass_of_methodNamed B.named
  have hlocks := B.notSynchronized
  have hF : CallFix p m c cX5_plain 4 s #[.ref (a0), .int (nI (t))] TT RX5 := ⟨hx, hb, hml, hown, hts⟩
  have hB := Bd.entry hv
  have hl := lv_entry ([.ref (a0), .int (nI (t))]) (n := 4) (Nat.le_of_ble_eq_true rfl)
  rw [lg_entry_eq]
  generalize (lg_sl ([.ref (a0), .int (nI (t))]) ++ List.replicate (4 - (lg_sl ([.ref (a0), .int (nI (t))])).length) Slot.unset).toArray = ls at hl ⊢
  have hl : lv_has ls 4 [(0, .ref (a0)), (1, .int (nI (t)))] := hl
  refine lv_iconst (v := nI 0) hx hb dX5_plain_0 (by decide) ?_
  refine lv_istore_n (lv' := [(2, .int (nI (0))), (0, .ref (a0)), (1, .int (nI (t)))]) hx hb dX5_plain_1 rfl hl (by decide) rfl (fun ls hl => ?_)
  refine lv_iconst (v := nI 0) hx hb dX5_plain_2 (by decide) ?_
  refine lv_istore_n (lv' := [(3, .int (nI (0))), (2, .int (nI (0))), (0, .ref (a0)), (1, .int (nI (t)))]) hx hb dX5_plain_3 rfl hl (by decide) rfl (fun ls hl => ?_)
  refine wloopH (σ := Heap × List Loc × Array Slot) (G := fun x => W p l e _ s m _ below meth c x.1 x.2.1 _ _ _ (F0 m 4 x.2.2 [])) (P := fun i_1 x => (True) ∧ Bd env s0 X u s x.1 x.2.1 ∧ lv_has x.2.2 4 [(0, .ref (a0)), (1, .int (nI (t))), (2, .int (nI (cntN (fun i => gB u.2.2 64 0 (12 * t + i)) (i_1)))), (3, .int (nI (i_1)))]) (N := gN u.2.2 52 0 0) ?_ 0 (_, _, ls) (Nat.zero_le _) ⟨trivial, hB, lv_sub hl [2, 3, 1, 0] rfl⟩
  rintro i_1 ⟨H, locs, ls⟩ hi_2 ⟨hv_3, hB, hl⟩ ih
  replace hB : Bd env s0 X u s H locs := hB
  replace hl : lv_has ls 4 [(0, .ref (a0)), (1, .int (nI (t))), (2, .int (nI (cntN (fun i => gB u.2.2 64 0 (12 * t + i)) (i_1)))), (3, .int (nI (i_1)))] := hl
  show W p l e _ s m _ below meth c H locs _ _ _ (F0 m 4 ls [])
  have := hNm 52 0 0
  have := hV.nth
  refine lv_iload_n hx hb dX5_plain_4 rfl (lv_at hl 3 rfl) ?_
  refine lv_aload_n hx hb dX5_plain_5 rfl (lv_at hl 0 rfl) ?_
  refine w_get (v := .int (nI (gN u.2.2 52 (0) (0)))) (fk := 2) hF hB ha0 (cn_20 env u (0)) rfl in_X5 (by decide) tw_3_97 rfl rfl dX5_plain_6 ?_
  refine w_icge_n (tgt := 40) (by omega) (by have := hNm 52 (0) (0); omega) hx hb dX5_plain_9 (by decide) (fun c_4 => ?_) (fun c_4 => ?_)
  · refine lv_iload_n hx hb dX5_plain_40 rfl (lv_at hl 2 rfl) ?_
    exact w_iret (v := nI (cntN (fun i => gB u.2.2 64 0 (12 * t + i)) (i_1))) hF hr hlocks hB (⟨rfl, by rw [show i_1 = gN u.2.2 52 0 0 by omega]; rfl⟩) dX5_plain_41
  · refine lv_iload_n hx hb dX5_plain_12 rfl (lv_at hl 2 rfl) ?_
    refine lv_aload_n hx hb dX5_plain_13 rfl (lv_at hl 0 rfl) ?_
    refine w_get (v := .ref (sA u 35 0)) (fk := 14) hF hB ha0 (cn_20 env u (0)) rfl in_X5 (by decide) tw_3_109 rfl rfl dX5_plain_14 ?_
    refine lv_bipush (v := nI 12) hx hb dX5_plain_17 (by decide) ?_
    refine lv_iload_n hx hb dX5_plain_19 rfl (lv_at hl 1 rfl) ?_
    refine w_imul_n hx hb dX5_plain_20 ?_
    refine lv_iload_n hx hb dX5_plain_21 rfl (lv_at hl 3 rfl) ?_
    refine w_iadd_n hx hb dX5_plain_22 ?_
    refine w_zald (v := .int (b2i (gB u.2.2 64 (0) ((12 * t) + i_1)))) hF hB ⟨hM 35 (by decide), rfl⟩ (cn_35 env u (0)) (by omega) rfl (by decide) dX5_plain_23 ?_
    refine w_ifeq_b (tgt := 31) hx hb dX5_plain_24 (by decide) (fun c_5 => ?_) (fun c_5 => ?_)
    · refine lv_iconst (v := nI 0) hx hb dX5_plain_31 (by decide) ?_
      refine w_iadd_n hx hb dX5_plain_32 ?_
      refine lv_istore_n (lv' := [(2, .int (nI ((cntN (fun i => gB u.2.2 64 0 (12 * t + i)) (i_1)) + 0))), (0, .ref (a0)), (1, .int (nI (t))), (3, .int (nI (i_1)))]) hx hb dX5_plain_33 rfl hl (by decide) rfl (fun ls hl => ?_)
      refine lv_iinc (v := nI (i_1 + 1)) (lv' := [(3, .int (nI (i_1 + 1))), (2, .int (nI ((cntN (fun i => gB u.2.2 64 0 (12 * t + i)) (i_1)) + 0))), (0, .ref (a0)), (1, .int (nI (t)))]) hx hb dX5_plain_34 hl (k := 3) rfl (nI_add _ _) (by decide) rfl (fun ls hl => ?_)
      refine lv_goto (tgt := 4) hx hb dX5_plain_37 (by decide) ?_
      have ea_6 : cntN (fun i => gB u.2.2 64 0 (12 * t + i)) (i_1 + 1) = (cntN (fun i => gB u.2.2 64 0 (12 * t + i)) (i_1)) + 0 := by first | (simp [allN_s, anyN_s, cntN_s, sumL, c_4, c_5] <;> omega) | grind [allN_s, anyN_s, cntN_s, sumL]
      exact ih (H, locs, ls) (by omega) ⟨trivial, hB, by show lv_has ls 4 [(0, .ref (a0)), (1, .int (nI (t))), (2, .int (nI (cntN (fun i => gB u.2.2 64 0 (12 * t + i)) (i_1 + 1)))), (3, .int (nI (i_1 + 1)))]; rw [ea_6]; exact lv_sub hl [2, 3, 1, 0] rfl⟩
    · refine lv_iconst (v := nI 1) hx hb dX5_plain_27 (by decide) ?_
      refine lv_goto (tgt := 32) hx hb dX5_plain_28 (by decide) ?_
      refine w_iadd_n hx hb dX5_plain_32 ?_
      refine lv_istore_n (lv' := [(2, .int (nI ((cntN (fun i => gB u.2.2 64 0 (12 * t + i)) (i_1)) + 1))), (0, .ref (a0)), (1, .int (nI (t))), (3, .int (nI (i_1)))]) hx hb dX5_plain_33 rfl hl (by decide) rfl (fun ls hl => ?_)
      refine lv_iinc (v := nI (i_1 + 1)) (lv' := [(3, .int (nI (i_1 + 1))), (2, .int (nI ((cntN (fun i => gB u.2.2 64 0 (12 * t + i)) (i_1)) + 1))), (0, .ref (a0)), (1, .int (nI (t)))]) hx hb dX5_plain_34 hl (k := 3) rfl (nI_add _ _) (by decide) rfl (fun ls hl => ?_)
      refine lv_goto (tgt := 4) hx hb dX5_plain_37 (by decide) ?_
      have ea_7 : cntN (fun i => gB u.2.2 64 0 (12 * t + i)) (i_1 + 1) = (cntN (fun i => gB u.2.2 64 0 (12 * t + i)) (i_1)) + 1 := by first | (simp [allN_s, anyN_s, cntN_s, sumL, c_4, c_5] <;> omega) | grind [allN_s, anyN_s, cntN_s, sumL]
      exact ih (H, locs, ls) (by omega) ⟨trivial, hB, by show lv_has ls 4 [(0, .ref (a0)), (1, .int (nI (t))), (2, .int (nI (cntN (fun i => gB u.2.2 64 0 (12 * t + i)) (i_1 + 1)))), (3, .int (nI (i_1 + 1)))]; rw [ea_7]; exact lv_sub hl [2, 3, 1, 0] rfl⟩
set_option maxHeartbeats 4000000 in
set_option maxRecDepth 100000 in
theorem c_X5_isFree (l : Launch) (env : Ev) (s0 : Nat) (X : va_W) (u : St) (a0 : Nat) (_xa0 : Nat) (ha0 : At u 20 (0) a0) (t : Nat) (k : Nat) (w : Nat) (hM : MI u) (hV : MV u.2.2) (hNm : Nb u.2.2) (ht : t < 150) (hk : k < 12) (hw : w < 4) : Met l yX5_isFree [Cond.code yX5_isFree cX5_isFree 7 (some .boolean)] { frames := 1, cells := 0, slots := 0, locals := 22 } (va_Pc [.ref (a0), .int (nI (t)), .int (nI (k)), .int (nI (w))] (Pr env s0 X u)) (va_Qi (fun r u' => u = u' ∧ r = b2i (mIsFree u.2.2 t k w)) (Po env s0 X) (fun q => s0 ≤ q)) 0 0 (fun q => s0 ≤ q) := by
  refine Met.ofW (cc := cX5_isFree) (maxL := 7) (ret := (some .boolean)) (by decide) rfl ?_
  intro p e s m args below meth c s₁ B hml hv
  obtain ⟨rfl, hv⟩ := hv
  have hx := B.exec
  have hb := B.bytes
  have hr := B.returns
  have hts : ∀ ww ∈ TT, ww.before #[.ref (a0), .int (nI (t)), .int (nI (k)), .int (nI (w))] s = true := fun ww hw => hv.2.1 ww hw _
  have hown : s.vm.findClass RX5 = some m.cls := findClass_of_methodNamed B.named
  have hlocks := B.notSynchronized
  have hF : CallFix p m c cX5_isFree 7 s #[.ref (a0), .int (nI (t)), .int (nI (k)), .int (nI (w))] TT RX5 := ⟨hx, hb, hml, hown, hts⟩
  have hB := Bd.entry hv
  have hl := lv_entry ([.ref (a0), .int (nI (t)), .int (nI (k)), .int (nI (w))]) (n := 7) (Nat.le_of_ble_eq_true rfl)
  rw [lg_entry_eq]
  generalize (lg_sl ([.ref (a0), .int (nI (t)), .int (nI (k)), .int (nI (w))]) ++ List.replicate (7 - (lg_sl ([.ref (a0), .int (nI (t)), .int (nI (k)), .int (nI (w))])).length) Slot.unset).toArray = ls at hl ⊢
  have hl : lv_has ls 7 [(0, .ref (a0)), (1, .int (nI (t))), (2, .int (nI (k))), (3, .int (nI (w)))] := hl
  refine lv_aload_n hx hb dX5_isFree_0 rfl (lv_at hl 0 rfl) ?_
  refine w_get (v := .ref (sA u 42 0)) (fk := 21) hF hB ha0 (cn_20 env u (0)) rfl in_X5 (by decide) tw_3_116 rfl rfl dX5_isFree_1 ?_
  refine lv_bipush (v := nI 12) hx hb dX5_isFree_4 (by decide) ?_
  refine lv_iload_n hx hb dX5_isFree_6 rfl (lv_at hl 3 rfl) ?_
  refine w_imul_n hx hb dX5_isFree_7 ?_
  refine lv_iload_n hx hb dX5_isFree_8 rfl (lv_at hl 2 rfl) ?_
  refine w_iadd_n hx hb dX5_isFree_9 ?_
  refine w_iald (v := .int (gI u.2.2 71 (0) ((12 * w) + k))) hF hB ⟨hM 42 (by decide), rfl⟩ (cn_42 env u (0)) (by omega) rfl (by decide) dX5_isFree_10 ?_
  refine lv_bipush (v := -4) hx hb dX5_isFree_11 (by decide) ?_
  refine lv_icmp_ne (tgt := 20) hx hb dX5_isFree_13 (by decide) (fun c_1 => ?_) (fun c_1 => ?_)
  · refine lv_iconst (v := nI 0) hx hb dX5_isFree_20 (by decide) ?_
    refine lv_istore (lv' := [(4, .int (nI (0))), (0, .ref (a0)), (1, .int (nI (t))), (2, .int (nI (k))), (3, .int (nI (w)))]) hx hb dX5_isFree_21 hl (by decide) rfl (fun ls hl => ?_)
    refine lv_iconst (v := nI 0) hx hb dX5_isFree_23 (by decide) ?_
    refine lv_istore (lv' := [(5, .int (nI (0))), (4, .int (nI (0))), (0, .ref (a0)), (1, .int (nI (t))), (2, .int (nI (k))), (3, .int (nI (w)))]) hx hb dX5_isFree_24 hl (by decide) rfl (fun ls hl => ?_)
    have ea_3 : (decide (gI u.2.2 71 0 (12 * w + k) = -4) && allN (mFreeQ u.2.2 t k w) (0)) = false := by simp [allN_0, anyN_0, mFreeQ, mCame, c_1] <;> omega
    refine wloopH (σ := Heap × List Loc × Array Slot) (G := fun x => W p l e _ s m _ below meth c x.1 x.2.1 _ _ _ (F0 m 26 x.2.2 [])) (P := fun i_2 x => (True) ∧ Bd env s0 X u s x.1 x.2.1 ∧ lv_has x.2.2 7 [(0, .ref (a0)), (1, .int (nI (t))), (2, .int (nI (k))), (3, .int (nI (w))), (4, .int (b2i ((decide (gI u.2.2 71 0 (12 * w + k) = -4) && allN (mFreeQ u.2.2 t k w) (i_2))))), (5, .int (nI (i_2)))]) (N := gN u.2.2 70 0 w) ?_ 0 (_, _, ls) (Nat.zero_le _) ⟨trivial, hB, by show lv_has ls 7 [(0, .ref (a0)), (1, .int (nI (t))), (2, .int (nI (k))), (3, .int (nI (w))), (4, .int (b2i ((decide (gI u.2.2 71 0 (12 * w + k) = -4) && allN (mFreeQ u.2.2 t k w) (0))))), (5, .int (nI (0)))]; rw [ea_3]; exact lv_sub hl [2, 3, 4, 5, 1, 0] rfl⟩
    rintro i_2 ⟨H, locs, ls⟩ hi_4 ⟨hv_5, hB, hl⟩ ih
    replace hB : Bd env s0 X u s H locs := hB
    replace hl : lv_has ls 7 [(0, .ref (a0)), (1, .int (nI (t))), (2, .int (nI (k))), (3, .int (nI (w))), (4, .int (b2i ((decide (gI u.2.2 71 0 (12 * w + k) = -4) && allN (mFreeQ u.2.2 t k w) (i_2))))), (5, .int (nI (i_2)))] := hl
    show W p l e _ s m _ below meth c H locs _ _ _ (F0 m 26 ls [])
    have := hNm 70 0 w
    have := hV.cm w
    refine lv_iload hx hb dX5_isFree_26 (lv_at hl 5 rfl) ?_
    refine lv_aload_n hx hb dX5_isFree_28 rfl (lv_at hl 0 rfl) ?_
    refine w_get (v := .ref (sA u 41 0)) (fk := 20) hF hB ha0 (cn_20 env u (0)) rfl in_X5 (by decide) tw_3_115 rfl rfl dX5_isFree_29 ?_
    refine lv_iload_n hx hb dX5_isFree_32 rfl (lv_at hl 3 rfl) ?_
    refine w_iald (v := .int (nI (gN u.2.2 70 (0) (w)))) hF hB ⟨hM 41 (by decide), rfl⟩ (cn_41 env u (0)) (by omega) rfl (by decide) dX5_isFree_33 ?_
    refine w_icge_n (tgt := 95) (by omega) (by have := hNm 70 (0) (w); omega) hx hb dX5_isFree_34 (by decide) (fun c_6 => ?_) (fun c_6 => ?_)
    · refine lv_iload hx hb dX5_isFree_95 (lv_at hl 4 rfl) ?_
      exact w_zret (v := b2i ((decide (gI u.2.2 71 0 (12 * w + k) = -4) && allN (mFreeQ u.2.2 t k w) (i_2)))) hF hr (b2i_nar _) hlocks hB (⟨rfl, by rw [show i_2 = gN u.2.2 70 0 w by omega]; rfl⟩) dX5_isFree_97
    · refine lv_aload_n hx hb dX5_isFree_37 rfl (lv_at hl 0 rfl) ?_
      refine w_get (v := .ref (sA u 40 0)) (fk := 19) hF hB ha0 (cn_20 env u (0)) rfl in_X5 (by decide) tw_3_114 rfl rfl dX5_isFree_38 ?_
      refine lv_sipush (v := nI 150) hx hb dX5_isFree_41 (by decide) ?_
      refine lv_iload_n hx hb dX5_isFree_44 rfl (lv_at hl 3 rfl) ?_
      refine w_imul_n hx hb dX5_isFree_45 ?_
      refine lv_iload hx hb dX5_isFree_46 (lv_at hl 5 rfl) ?_
      refine w_iadd_n hx hb dX5_isFree_48 ?_
      refine w_iald (v := .int (nI (gN u.2.2 69 (0) ((150 * w) + i_2)))) hF hB ⟨hM 40 (by decide), rfl⟩ (cn_40 env u (0)) (by omega) rfl (by decide) dX5_isFree_49 ?_
      refine lv_istore (lv' := [(6, .int (nI (gN u.2.2 69 (0) ((150 * w) + i_2)))), (0, .ref (a0)), (1, .int (nI (t))), (2, .int (nI (k))), (3, .int (nI (w))), (4, .int (b2i ((decide (gI u.2.2 71 0 (12 * w + k) = -4) && allN (mFreeQ u.2.2 t k w) (i_2))))), (5, .int (nI (i_2)))]) hx hb dX5_isFree_50 hl (by decide) rfl (fun ls hl => ?_)
      refine lv_iload hx hb dX5_isFree_52 (lv_at hl 5 rfl) ?_
      refine w_ifeq_b (tgt := 86) hx hb dX5_isFree_54 (by decide) (fun c_7 => ?_) (fun c_7 => ?_)
      · refine lv_iconst (v := nI 0) hx hb dX5_isFree_86 (by decide) ?_
        refine lv_istore (lv' := [(4, .int (nI (0))), (6, .int (nI (gN u.2.2 69 (0) ((150 * w) + i_2)))), (0, .ref (a0)), (1, .int (nI (t))), (2, .int (nI (k))), (3, .int (nI (w))), (5, .int (nI (i_2)))]) hx hb dX5_isFree_87 hl (by decide) rfl (fun ls hl => ?_)
        refine lv_iinc (v := nI (i_2 + 1)) (lv' := [(5, .int (nI (i_2 + 1))), (4, .int (nI (0))), (6, .int (nI (gN u.2.2 69 (0) ((150 * w) + i_2)))), (0, .ref (a0)), (1, .int (nI (t))), (2, .int (nI (k))), (3, .int (nI (w)))]) hx hb dX5_isFree_89 hl (k := 6) rfl (nI_add _ _) (by decide) rfl (fun ls hl => ?_)
        refine lv_goto (tgt := 26) hx hb dX5_isFree_92 (by decide) ?_
        have ea_8 : (decide (gI u.2.2 71 0 (12 * w + k) = -4) && allN (mFreeQ u.2.2 t k w) (i_2 + 1)) = false := by first | (simp [allN_s, anyN_s, cntN_s, sumL, mFreeQ, mCame, c_6, c_7] <;> omega) | grind [allN_s, anyN_s, cntN_s, sumL, mFreeQ, mCame]
        exact ih (H, locs, ls) (by omega) ⟨trivial, hB, by show lv_has ls 7 [(0, .ref (a0)), (1, .int (nI (t))), (2, .int (nI (k))), (3, .int (nI (w))), (4, .int (b2i ((decide (gI u.2.2 71 0 (12 * w + k) = -4) && allN (mFreeQ u.2.2 t k w) (i_2 + 1))))), (5, .int (nI (i_2 + 1)))]; rw [ea_8]; exact lv_sub hl [3, 4, 5, 6, 1, 0] rfl⟩
      · refine lv_aload_n hx hb dX5_isFree_57 rfl (lv_at hl 1 rfl) ?_
        refine w_get (v := .ref (sA u 35 0)) (fk := 14) hF hB ha0 (cn_20 env u (0)) rfl in_X5 (by decide) tw_3_109 rfl rfl dX5_isFree_58 ?_
        refine lv_bipush (v := nI 12) hx hb dX5_isFree_61 (by decide) ?_
        refine lv_iload hx hb dX5_isFree_63 (lv_at hl 0 rfl) ?_
        refine w_imul_n hx hb dX5_isFree_65 ?_
        refine lv_iload_n hx hb dX5_isFree_66 rfl (lv_at hl 3 rfl) ?_
        refine w_iadd_n hx hb dX5_isFree_67 ?_
        refine w_zald (v := .int (b2i (gB u.2.2 64 (0) ((12 * (gN u.2.2 69 (0) ((150 * w) + i_2))) + k)))) hF hB ⟨hM 35 (by decide), rfl⟩ (cn_35 env u (0)) (by have := hV.came ((150 * w) + i_2); omega) rfl (by decide) dX5_isFree_68 ?_
        refine w_ifeq_b (tgt := 82) hx hb dX5_isFree_69 (by decide) (fun c_9 => ?_) (fun c_9 => ?_)
        · refine lv_iconst (v := nI 1) hx hb dX5_isFree_82 (by decide) ?_
          refine lv_goto (tgt := 87) hx hb dX5_isFree_83 (by decide) ?_
          refine lv_istore (lv' := [(4, .int (nI (1))), (6, .int (nI (gN u.2.2 69 (0) ((150 * w) + i_2)))), (0, .ref (a0)), (1, .int (nI (t))), (2, .int (nI (k))), (3, .int (nI (w))), (5, .int (nI (i_2)))]) hx hb dX5_isFree_87 hl (by decide) rfl (fun ls hl => ?_)
          refine lv_iinc (v := nI (i_2 + 1)) (lv' := [(5, .int (nI (i_2 + 1))), (4, .int (nI (1))), (6, .int (nI (gN u.2.2 69 (0) ((150 * w) + i_2)))), (0, .ref (a0)), (1, .int (nI (t))), (2, .int (nI (k))), (3, .int (nI (w)))]) hx hb dX5_isFree_89 hl (k := 6) rfl (nI_add _ _) (by decide) rfl (fun ls hl => ?_)
          refine lv_goto (tgt := 26) hx hb dX5_isFree_92 (by decide) ?_
          have ea_10 : (decide (gI u.2.2 71 0 (12 * w + k) = -4) && allN (mFreeQ u.2.2 t k w) (i_2 + 1)) = true := by first | (simp [allN_s, anyN_s, cntN_s, sumL, mFreeQ, mCame, c_6, c_7, c_9] <;> omega) | grind [allN_s, anyN_s, cntN_s, sumL, mFreeQ, mCame]
          exact ih (H, locs, ls) (by omega) ⟨trivial, hB, by show lv_has ls 7 [(0, .ref (a0)), (1, .int (nI (t))), (2, .int (nI (k))), (3, .int (nI (w))), (4, .int (b2i ((decide (gI u.2.2 71 0 (12 * w + k) = -4) && allN (mFreeQ u.2.2 t k w) (i_2 + 1))))), (5, .int (nI (i_2 + 1)))]; rw [ea_10]; exact lv_sub hl [3, 4, 5, 6, 1, 0] rfl⟩
        · refine lv_aload_n hx hb dX5_isFree_72 rfl (lv_at hl 1 rfl) ?_
          refine lv_iload_n hx hb dX5_isFree_73 rfl (lv_at hl 2 rfl) ?_
          refine lv_iload hx hb dX5_isFree_74 (lv_at hl 0 rfl) ?_
          refine w_ci (r_V (As := [.int (nI (t)), .int (nI (gN u.2.2 69 (0) ((150 * w) + i_2)))]) (rest := []) hF hB (c_X5_has l env s0 X u (a0) (0) (ha0) (t) (gN u.2.2 69 (0) ((150 * w) + i_2)) hM hV hNm ht (hV.came _)) cv_X5_has tw_3_210 ⟨rfl, rfl, by decide, by decide⟩ (hB.recv ha0 (cn_20 env u (0)) rfl) rfl hl.1 rfl (lv_room (by decide)) dX5_isFree_76 ⟨Nat.le_of_ble_eq_true rfl, Nat.le_of_ble_eq_true rfl⟩) hB (fun r_11 u_13 H locs hq_12 hB => ?_)
          obtain ⟨rfl, rfl⟩ := hq_12
          refine w_ifeq_b (tgt := 86) hx hb dX5_isFree_79 (by decide) (fun c_14 => ?_) (fun c_14 => ?_)
          · refine lv_iconst (v := nI 0) hx hb dX5_isFree_86 (by decide) ?_
            refine lv_istore (lv' := [(4, .int (nI (0))), (6, .int (nI (gN u.2.2 69 (0) ((150 * w) + i_2)))), (0, .ref (a0)), (1, .int (nI (t))), (2, .int (nI (k))), (3, .int (nI (w))), (5, .int (nI (i_2)))]) hx hb dX5_isFree_87 hl (by decide) rfl (fun ls hl => ?_)
            refine lv_iinc (v := nI (i_2 + 1)) (lv' := [(5, .int (nI (i_2 + 1))), (4, .int (nI (0))), (6, .int (nI (gN u.2.2 69 (0) ((150 * w) + i_2)))), (0, .ref (a0)), (1, .int (nI (t))), (2, .int (nI (k))), (3, .int (nI (w)))]) hx hb dX5_isFree_89 hl (k := 6) rfl (nI_add _ _) (by decide) rfl (fun ls hl => ?_)
            refine lv_goto (tgt := 26) hx hb dX5_isFree_92 (by decide) ?_
            have ea_15 : (decide (gI u.2.2 71 0 (12 * w + k) = -4) && allN (mFreeQ u.2.2 t k w) (i_2 + 1)) = false := by first | (simp [allN_s, anyN_s, cntN_s, sumL, mFreeQ, mCame, c_6, c_7, c_9, c_14] <;> omega) | grind [allN_s, anyN_s, cntN_s, sumL, mFreeQ, mCame]
            exact ih (H, locs, ls) (by omega) ⟨trivial, hB, by show lv_has ls 7 [(0, .ref (a0)), (1, .int (nI (t))), (2, .int (nI (k))), (3, .int (nI (w))), (4, .int (b2i ((decide (gI u.2.2 71 0 (12 * w + k) = -4) && allN (mFreeQ u.2.2 t k w) (i_2 + 1))))), (5, .int (nI (i_2 + 1)))]; rw [ea_15]; exact lv_sub hl [3, 4, 5, 6, 1, 0] rfl⟩
          · refine lv_iconst (v := nI 1) hx hb dX5_isFree_82 (by decide) ?_
            refine lv_goto (tgt := 87) hx hb dX5_isFree_83 (by decide) ?_
            refine lv_istore (lv' := [(4, .int (nI (1))), (6, .int (nI (gN u.2.2 69 (0) ((150 * w) + i_2)))), (0, .ref (a0)), (1, .int (nI (t))), (2, .int (nI (k))), (3, .int (nI (w))), (5, .int (nI (i_2)))]) hx hb dX5_isFree_87 hl (by decide) rfl (fun ls hl => ?_)
            refine lv_iinc (v := nI (i_2 + 1)) (lv' := [(5, .int (nI (i_2 + 1))), (4, .int (nI (1))), (6, .int (nI (gN u.2.2 69 (0) ((150 * w) + i_2)))), (0, .ref (a0)), (1, .int (nI (t))), (2, .int (nI (k))), (3, .int (nI (w)))]) hx hb dX5_isFree_89 hl (k := 6) rfl (nI_add _ _) (by decide) rfl (fun ls hl => ?_)
            refine lv_goto (tgt := 26) hx hb dX5_isFree_92 (by decide) ?_
            have ea_16 : (decide (gI u.2.2 71 0 (12 * w + k) = -4) && allN (mFreeQ u.2.2 t k w) (i_2 + 1)) = true := by first | (simp [allN_s, anyN_s, cntN_s, sumL, mFreeQ, mCame, c_6, c_7, c_9, c_14] <;> omega) | grind [allN_s, anyN_s, cntN_s, sumL, mFreeQ, mCame]
            exact ih (H, locs, ls) (by omega) ⟨trivial, hB, by show lv_has ls 7 [(0, .ref (a0)), (1, .int (nI (t))), (2, .int (nI (k))), (3, .int (nI (w))), (4, .int (b2i ((decide (gI u.2.2 71 0 (12 * w + k) = -4) && allN (mFreeQ u.2.2 t k w) (i_2 + 1))))), (5, .int (nI (i_2 + 1)))]; rw [ea_16]; exact lv_sub hl [3, 4, 5, 6, 1, 0] rfl⟩
  · refine lv_iconst (v := nI 1) hx hb dX5_isFree_16 (by decide) ?_
    refine lv_goto (tgt := 21) hx hb dX5_isFree_17 (by decide) ?_
    refine lv_istore (lv' := [(4, .int (nI (1))), (0, .ref (a0)), (1, .int (nI (t))), (2, .int (nI (k))), (3, .int (nI (w)))]) hx hb dX5_isFree_21 hl (by decide) rfl (fun ls hl => ?_)
    refine lv_iconst (v := nI 0) hx hb dX5_isFree_23 (by decide) ?_
    refine lv_istore (lv' := [(5, .int (nI (0))), (4, .int (nI (1))), (0, .ref (a0)), (1, .int (nI (t))), (2, .int (nI (k))), (3, .int (nI (w)))]) hx hb dX5_isFree_24 hl (by decide) rfl (fun ls hl => ?_)
    have ea_18 : (decide (gI u.2.2 71 0 (12 * w + k) = -4) && allN (mFreeQ u.2.2 t k w) (0)) = true := by simp [allN_0, anyN_0, mFreeQ, mCame, c_1] <;> omega
    refine wloopH (σ := Heap × List Loc × Array Slot) (G := fun x => W p l e _ s m _ below meth c x.1 x.2.1 _ _ _ (F0 m 26 x.2.2 [])) (P := fun i_17 x => (True) ∧ Bd env s0 X u s x.1 x.2.1 ∧ lv_has x.2.2 7 [(0, .ref (a0)), (1, .int (nI (t))), (2, .int (nI (k))), (3, .int (nI (w))), (4, .int (b2i ((decide (gI u.2.2 71 0 (12 * w + k) = -4) && allN (mFreeQ u.2.2 t k w) (i_17))))), (5, .int (nI (i_17)))]) (N := gN u.2.2 70 0 w) ?_ 0 (_, _, ls) (Nat.zero_le _) ⟨trivial, hB, by show lv_has ls 7 [(0, .ref (a0)), (1, .int (nI (t))), (2, .int (nI (k))), (3, .int (nI (w))), (4, .int (b2i ((decide (gI u.2.2 71 0 (12 * w + k) = -4) && allN (mFreeQ u.2.2 t k w) (0))))), (5, .int (nI (0)))]; rw [ea_18]; exact lv_sub hl [2, 3, 4, 5, 1, 0] rfl⟩
    rintro i_17 ⟨H, locs, ls⟩ hi_19 ⟨hv_20, hB, hl⟩ ih
    replace hB : Bd env s0 X u s H locs := hB
    replace hl : lv_has ls 7 [(0, .ref (a0)), (1, .int (nI (t))), (2, .int (nI (k))), (3, .int (nI (w))), (4, .int (b2i ((decide (gI u.2.2 71 0 (12 * w + k) = -4) && allN (mFreeQ u.2.2 t k w) (i_17))))), (5, .int (nI (i_17)))] := hl
    show W p l e _ s m _ below meth c H locs _ _ _ (F0 m 26 ls [])
    have := hNm 70 0 w
    have := hV.cm w
    refine lv_iload hx hb dX5_isFree_26 (lv_at hl 5 rfl) ?_
    refine lv_aload_n hx hb dX5_isFree_28 rfl (lv_at hl 0 rfl) ?_
    refine w_get (v := .ref (sA u 41 0)) (fk := 20) hF hB ha0 (cn_20 env u (0)) rfl in_X5 (by decide) tw_3_115 rfl rfl dX5_isFree_29 ?_
    refine lv_iload_n hx hb dX5_isFree_32 rfl (lv_at hl 3 rfl) ?_
    refine w_iald (v := .int (nI (gN u.2.2 70 (0) (w)))) hF hB ⟨hM 41 (by decide), rfl⟩ (cn_41 env u (0)) (by omega) rfl (by decide) dX5_isFree_33 ?_
    refine w_icge_n (tgt := 95) (by omega) (by have := hNm 70 (0) (w); omega) hx hb dX5_isFree_34 (by decide) (fun c_21 => ?_) (fun c_21 => ?_)
    · refine lv_iload hx hb dX5_isFree_95 (lv_at hl 4 rfl) ?_
      exact w_zret (v := b2i ((decide (gI u.2.2 71 0 (12 * w + k) = -4) && allN (mFreeQ u.2.2 t k w) (i_17)))) hF hr (b2i_nar _) hlocks hB (⟨rfl, by rw [show i_17 = gN u.2.2 70 0 w by omega]; rfl⟩) dX5_isFree_97
    · refine lv_aload_n hx hb dX5_isFree_37 rfl (lv_at hl 0 rfl) ?_
      refine w_get (v := .ref (sA u 40 0)) (fk := 19) hF hB ha0 (cn_20 env u (0)) rfl in_X5 (by decide) tw_3_114 rfl rfl dX5_isFree_38 ?_
      refine lv_sipush (v := nI 150) hx hb dX5_isFree_41 (by decide) ?_
      refine lv_iload_n hx hb dX5_isFree_44 rfl (lv_at hl 3 rfl) ?_
      refine w_imul_n hx hb dX5_isFree_45 ?_
      refine lv_iload hx hb dX5_isFree_46 (lv_at hl 5 rfl) ?_
      refine w_iadd_n hx hb dX5_isFree_48 ?_
      refine w_iald (v := .int (nI (gN u.2.2 69 (0) ((150 * w) + i_17)))) hF hB ⟨hM 40 (by decide), rfl⟩ (cn_40 env u (0)) (by omega) rfl (by decide) dX5_isFree_49 ?_
      refine lv_istore (lv' := [(6, .int (nI (gN u.2.2 69 (0) ((150 * w) + i_17)))), (0, .ref (a0)), (1, .int (nI (t))), (2, .int (nI (k))), (3, .int (nI (w))), (4, .int (b2i ((decide (gI u.2.2 71 0 (12 * w + k) = -4) && allN (mFreeQ u.2.2 t k w) (i_17))))), (5, .int (nI (i_17)))]) hx hb dX5_isFree_50 hl (by decide) rfl (fun ls hl => ?_)
      refine lv_iload hx hb dX5_isFree_52 (lv_at hl 5 rfl) ?_
      refine w_ifeq_b (tgt := 86) hx hb dX5_isFree_54 (by decide) (fun c_22 => ?_) (fun c_22 => ?_)
      · refine lv_iconst (v := nI 0) hx hb dX5_isFree_86 (by decide) ?_
        refine lv_istore (lv' := [(4, .int (nI (0))), (6, .int (nI (gN u.2.2 69 (0) ((150 * w) + i_17)))), (0, .ref (a0)), (1, .int (nI (t))), (2, .int (nI (k))), (3, .int (nI (w))), (5, .int (nI (i_17)))]) hx hb dX5_isFree_87 hl (by decide) rfl (fun ls hl => ?_)
        refine lv_iinc (v := nI (i_17 + 1)) (lv' := [(5, .int (nI (i_17 + 1))), (4, .int (nI (0))), (6, .int (nI (gN u.2.2 69 (0) ((150 * w) + i_17)))), (0, .ref (a0)), (1, .int (nI (t))), (2, .int (nI (k))), (3, .int (nI (w)))]) hx hb dX5_isFree_89 hl (k := 6) rfl (nI_add _ _) (by decide) rfl (fun ls hl => ?_)
        refine lv_goto (tgt := 26) hx hb dX5_isFree_92 (by decide) ?_
        have ea_23 : (decide (gI u.2.2 71 0 (12 * w + k) = -4) && allN (mFreeQ u.2.2 t k w) (i_17 + 1)) = false := by first | (simp [allN_s, anyN_s, cntN_s, sumL, mFreeQ, mCame, c_21, c_22] <;> omega) | grind [allN_s, anyN_s, cntN_s, sumL, mFreeQ, mCame]
        exact ih (H, locs, ls) (by omega) ⟨trivial, hB, by show lv_has ls 7 [(0, .ref (a0)), (1, .int (nI (t))), (2, .int (nI (k))), (3, .int (nI (w))), (4, .int (b2i ((decide (gI u.2.2 71 0 (12 * w + k) = -4) && allN (mFreeQ u.2.2 t k w) (i_17 + 1))))), (5, .int (nI (i_17 + 1)))]; rw [ea_23]; exact lv_sub hl [3, 4, 5, 6, 1, 0] rfl⟩
      · refine lv_aload_n hx hb dX5_isFree_57 rfl (lv_at hl 1 rfl) ?_
        refine w_get (v := .ref (sA u 35 0)) (fk := 14) hF hB ha0 (cn_20 env u (0)) rfl in_X5 (by decide) tw_3_109 rfl rfl dX5_isFree_58 ?_
        refine lv_bipush (v := nI 12) hx hb dX5_isFree_61 (by decide) ?_
        refine lv_iload hx hb dX5_isFree_63 (lv_at hl 0 rfl) ?_
        refine w_imul_n hx hb dX5_isFree_65 ?_
        refine lv_iload_n hx hb dX5_isFree_66 rfl (lv_at hl 3 rfl) ?_
        refine w_iadd_n hx hb dX5_isFree_67 ?_
        refine w_zald (v := .int (b2i (gB u.2.2 64 (0) ((12 * (gN u.2.2 69 (0) ((150 * w) + i_17))) + k)))) hF hB ⟨hM 35 (by decide), rfl⟩ (cn_35 env u (0)) (by have := hV.came ((150 * w) + i_17); omega) rfl (by decide) dX5_isFree_68 ?_
        refine w_ifeq_b (tgt := 82) hx hb dX5_isFree_69 (by decide) (fun c_24 => ?_) (fun c_24 => ?_)
        · refine lv_iconst (v := nI 1) hx hb dX5_isFree_82 (by decide) ?_
          refine lv_goto (tgt := 87) hx hb dX5_isFree_83 (by decide) ?_
          refine lv_istore (lv' := [(4, .int (nI (1))), (6, .int (nI (gN u.2.2 69 (0) ((150 * w) + i_17)))), (0, .ref (a0)), (1, .int (nI (t))), (2, .int (nI (k))), (3, .int (nI (w))), (5, .int (nI (i_17)))]) hx hb dX5_isFree_87 hl (by decide) rfl (fun ls hl => ?_)
          refine lv_iinc (v := nI (i_17 + 1)) (lv' := [(5, .int (nI (i_17 + 1))), (4, .int (nI (1))), (6, .int (nI (gN u.2.2 69 (0) ((150 * w) + i_17)))), (0, .ref (a0)), (1, .int (nI (t))), (2, .int (nI (k))), (3, .int (nI (w)))]) hx hb dX5_isFree_89 hl (k := 6) rfl (nI_add _ _) (by decide) rfl (fun ls hl => ?_)
          refine lv_goto (tgt := 26) hx hb dX5_isFree_92 (by decide) ?_
          have ea_25 : (decide (gI u.2.2 71 0 (12 * w + k) = -4) && allN (mFreeQ u.2.2 t k w) (i_17 + 1)) = true := by first | (simp [allN_s, anyN_s, cntN_s, sumL, mFreeQ, mCame, c_21, c_22, c_24] <;> omega) | grind [allN_s, anyN_s, cntN_s, sumL, mFreeQ, mCame]
          exact ih (H, locs, ls) (by omega) ⟨trivial, hB, by show lv_has ls 7 [(0, .ref (a0)), (1, .int (nI (t))), (2, .int (nI (k))), (3, .int (nI (w))), (4, .int (b2i ((decide (gI u.2.2 71 0 (12 * w + k) = -4) && allN (mFreeQ u.2.2 t k w) (i_17 + 1))))), (5, .int (nI (i_17 + 1)))]; rw [ea_25]; exact lv_sub hl [3, 4, 5, 6, 1, 0] rfl⟩
        · refine lv_aload_n hx hb dX5_isFree_72 rfl (lv_at hl 1 rfl) ?_
          refine lv_iload_n hx hb dX5_isFree_73 rfl (lv_at hl 2 rfl) ?_
          refine lv_iload hx hb dX5_isFree_74 (lv_at hl 0 rfl) ?_
          refine w_ci (r_V (As := [.int (nI (t)), .int (nI (gN u.2.2 69 (0) ((150 * w) + i_17)))]) (rest := []) hF hB (c_X5_has l env s0 X u (a0) (0) (ha0) (t) (gN u.2.2 69 (0) ((150 * w) + i_17)) hM hV hNm ht (hV.came _)) cv_X5_has tw_3_210 ⟨rfl, rfl, by decide, by decide⟩ (hB.recv ha0 (cn_20 env u (0)) rfl) rfl hl.1 rfl (lv_room (by decide)) dX5_isFree_76 ⟨Nat.le_of_ble_eq_true rfl, Nat.le_of_ble_eq_true rfl⟩) hB (fun r_26 u_28 H locs hq_27 hB => ?_)
          obtain ⟨rfl, rfl⟩ := hq_27
          refine w_ifeq_b (tgt := 86) hx hb dX5_isFree_79 (by decide) (fun c_29 => ?_) (fun c_29 => ?_)
          · refine lv_iconst (v := nI 0) hx hb dX5_isFree_86 (by decide) ?_
            refine lv_istore (lv' := [(4, .int (nI (0))), (6, .int (nI (gN u.2.2 69 (0) ((150 * w) + i_17)))), (0, .ref (a0)), (1, .int (nI (t))), (2, .int (nI (k))), (3, .int (nI (w))), (5, .int (nI (i_17)))]) hx hb dX5_isFree_87 hl (by decide) rfl (fun ls hl => ?_)
            refine lv_iinc (v := nI (i_17 + 1)) (lv' := [(5, .int (nI (i_17 + 1))), (4, .int (nI (0))), (6, .int (nI (gN u.2.2 69 (0) ((150 * w) + i_17)))), (0, .ref (a0)), (1, .int (nI (t))), (2, .int (nI (k))), (3, .int (nI (w)))]) hx hb dX5_isFree_89 hl (k := 6) rfl (nI_add _ _) (by decide) rfl (fun ls hl => ?_)
            refine lv_goto (tgt := 26) hx hb dX5_isFree_92 (by decide) ?_
            have ea_30 : (decide (gI u.2.2 71 0 (12 * w + k) = -4) && allN (mFreeQ u.2.2 t k w) (i_17 + 1)) = false := by first | (simp [allN_s, anyN_s, cntN_s, sumL, mFreeQ, mCame, c_21, c_22, c_24, c_29] <;> omega) | grind [allN_s, anyN_s, cntN_s, sumL, mFreeQ, mCame]
            exact ih (H, locs, ls) (by omega) ⟨trivial, hB, by show lv_has ls 7 [(0, .ref (a0)), (1, .int (nI (t))), (2, .int (nI (k))), (3, .int (nI (w))), (4, .int (b2i ((decide (gI u.2.2 71 0 (12 * w + k) = -4) && allN (mFreeQ u.2.2 t k w) (i_17 + 1))))), (5, .int (nI (i_17 + 1)))]; rw [ea_30]; exact lv_sub hl [3, 4, 5, 6, 1, 0] rfl⟩
          · refine lv_iconst (v := nI 1) hx hb dX5_isFree_82 (by decide) ?_
            refine lv_goto (tgt := 87) hx hb dX5_isFree_83 (by decide) ?_
            refine lv_istore (lv' := [(4, .int (nI (1))), (6, .int (nI (gN u.2.2 69 (0) ((150 * w) + i_17)))), (0, .ref (a0)), (1, .int (nI (t))), (2, .int (nI (k))), (3, .int (nI (w))), (5, .int (nI (i_17)))]) hx hb dX5_isFree_87 hl (by decide) rfl (fun ls hl => ?_)
            refine lv_iinc (v := nI (i_17 + 1)) (lv' := [(5, .int (nI (i_17 + 1))), (4, .int (nI (1))), (6, .int (nI (gN u.2.2 69 (0) ((150 * w) + i_17)))), (0, .ref (a0)), (1, .int (nI (t))), (2, .int (nI (k))), (3, .int (nI (w)))]) hx hb dX5_isFree_89 hl (k := 6) rfl (nI_add _ _) (by decide) rfl (fun ls hl => ?_)
            refine lv_goto (tgt := 26) hx hb dX5_isFree_92 (by decide) ?_
            have ea_31 : (decide (gI u.2.2 71 0 (12 * w + k) = -4) && allN (mFreeQ u.2.2 t k w) (i_17 + 1)) = true := by first | (simp [allN_s, anyN_s, cntN_s, sumL, mFreeQ, mCame, c_21, c_22, c_24, c_29] <;> omega) | grind [allN_s, anyN_s, cntN_s, sumL, mFreeQ, mCame]
            exact ih (H, locs, ls) (by omega) ⟨trivial, hB, by show lv_has ls 7 [(0, .ref (a0)), (1, .int (nI (t))), (2, .int (nI (k))), (3, .int (nI (w))), (4, .int (b2i ((decide (gI u.2.2 71 0 (12 * w + k) = -4) && allN (mFreeQ u.2.2 t k w) (i_17 + 1))))), (5, .int (nI (i_17 + 1)))]; rw [ea_31]; exact lv_sub hl [3, 4, 5, 6, 1, 0] rfl⟩
set_option maxHeartbeats 4000000 in
set_option maxRecDepth 100000 in
theorem c_X5_areFree (l : Launch) (env : Ev) (s0 : Nat) (X : va_W) (u : St) (a0 : Nat) (_xa0 : Nat) (ha0 : At u 20 (0) a0) (t : Nat) (w : Nat) (hM : MI u) (hV : MV u.2.2) (hNm : Nb u.2.2) (ht : t < 150) (hw : w < 4) : Met l yX5_areFree [Cond.code yX5_areFree cX5_areFree 5 (some .boolean)] { frames := 2, cells := 0, slots := 0, locals := 48 } (va_Pc [.ref (a0), .int (nI (t)), .int (nI (w))] (Pr env s0 X u)) (va_Qi (fun r u' => u = u' ∧ r = b2i (mAreFree u.2.2 t w)) (Po env s0 X) (fun q => s0 ≤ q)) 0 0 (fun q => s0 ≤ q) := by
  refine Met.ofW (cc := cX5_areFree) (maxL := 5) (ret := (some .boolean)) (by decide) rfl ?_
  intro p e s m args below meth c s₁ B hml hv
  obtain ⟨rfl, hv⟩ := hv
  have hx := B.exec
  have hb := B.bytes
  have hr := B.returns
  have hts : ∀ ww ∈ TT, ww.before #[.ref (a0), .int (nI (t)), .int (nI (w))] s = true := fun ww hw => hv.2.1 ww hw _
  have hown : s.vm.findClass RX5 = some m.cls := findClass_of_methodNamed B.named
  have hlocks := B.notSynchronized
  have hF : CallFix p m c cX5_areFree 5 s #[.ref (a0), .int (nI (t)), .int (nI (w))] TT RX5 := ⟨hx, hb, hml, hown, hts⟩
  have hB := Bd.entry hv
  have hl := lv_entry ([.ref (a0), .int (nI (t)), .int (nI (w))]) (n := 5) (Nat.le_of_ble_eq_true rfl)
  rw [lg_entry_eq]
  generalize (lg_sl ([.ref (a0), .int (nI (t)), .int (nI (w))]) ++ List.replicate (5 - (lg_sl ([.ref (a0), .int (nI (t)), .int (nI (w))])).length) Slot.unset).toArray = ls at hl ⊢
  have hl : lv_has ls 5 [(0, .ref (a0)), (1, .int (nI (t))), (2, .int (nI (w)))] := hl
  refine lv_iconst (v := nI 1) hx hb dX5_areFree_0 (by decide) ?_
  refine lv_istore_n (lv' := [(3, .int (nI (1))), (0, .ref (a0)), (1, .int (nI (t))), (2, .int (nI (w)))]) hx hb dX5_areFree_1 rfl hl (by decide) rfl (fun ls hl => ?_)
  refine lv_iconst (v := nI 0) hx hb dX5_areFree_2 (by decide) ?_
  refine lv_istore (lv' := [(4, .int (nI (0))), (3, .int (nI (1))), (0, .ref (a0)), (1, .int (nI (t))), (2, .int (nI (w)))]) hx hb dX5_areFree_3 hl (by decide) rfl (fun ls hl => ?_)
  have ea_2 : allN (mAFQ u.2.2 t w) (0) = true := by simp [allN_0, anyN_0, mAFQ] <;> omega
  refine wloopH (σ := Heap × List Loc × Array Slot) (G := fun x => W p l e _ s m _ below meth c x.1 x.2.1 _ _ _ (F0 m 5 x.2.2 [])) (P := fun i_1 x => (True) ∧ Bd env s0 X u s x.1 x.2.1 ∧ lv_has x.2.2 5 [(0, .ref (a0)), (1, .int (nI (t))), (2, .int (nI (w))), (3, .int (b2i (allN (mAFQ u.2.2 t w) (i_1)))), (4, .int (nI (i_1)))]) (N := gN u.2.2 52 0 0) ?_ 0 (_, _, ls) (Nat.zero_le _) ⟨trivial, hB, by show lv_has ls 5 [(0, .ref (a0)), (1, .int (nI (t))), (2, .int (nI (w))), (3, .int (b2i (allN (mAFQ u.2.2 t w) (0)))), (4, .int (nI (0)))]; rw [ea_2]; exact lv_sub hl [2, 3, 4, 1, 0] rfl⟩
  rintro i_1 ⟨H, locs, ls⟩ hi_3 ⟨hv_4, hB, hl⟩ ih
  replace hB : Bd env s0 X u s H locs := hB
  replace hl : lv_has ls 5 [(0, .ref (a0)), (1, .int (nI (t))), (2, .int (nI (w))), (3, .int (b2i (allN (mAFQ u.2.2 t w) (i_1)))), (4, .int (nI (i_1)))] := hl
  show W p l e _ s m _ below meth c H locs _ _ _ (F0 m 5 ls [])
  have := hNm 52 0 0
  have := hV.nth
  refine lv_iload hx hb dX5_areFree_5 (lv_at hl 4 rfl) ?_
  refine lv_aload_n hx hb dX5_areFree_7 rfl (lv_at hl 0 rfl) ?_
  refine w_get (v := .int (nI (gN u.2.2 52 (0) (0)))) (fk := 2) hF hB ha0 (cn_20 env u (0)) rfl in_X5 (by decide) tw_3_97 rfl rfl dX5_areFree_8 ?_
  refine w_icge_n (tgt := 67) (by omega) (by have := hNm 52 (0) (0); omega) hx hb dX5_areFree_11 (by decide) (fun c_5 => ?_) (fun c_5 => ?_)
  · refine lv_iload_n hx hb dX5_areFree_67 rfl (lv_at hl 3 rfl) ?_
    exact w_zret (v := b2i (allN (mAFQ u.2.2 t w) (i_1))) hF hr (b2i_nar _) hlocks hB (⟨rfl, by rw [show i_1 = gN u.2.2 52 0 0 by omega]; rfl⟩) dX5_areFree_68
  · refine lv_iload_n hx hb dX5_areFree_14 rfl (lv_at hl 3 rfl) ?_
    refine w_ifeq_b (tgt := 59) hx hb dX5_areFree_15 (by decide) (fun c_6 => ?_) (fun c_6 => ?_)
    · refine lv_iconst (v := nI 0) hx hb dX5_areFree_59 (by decide) ?_
      refine lv_istore_n (lv' := [(3, .int (nI (0))), (0, .ref (a0)), (1, .int (nI (t))), (2, .int (nI (w))), (4, .int (nI (i_1)))]) hx hb dX5_areFree_60 rfl hl (by decide) rfl (fun ls hl => ?_)
      refine lv_iinc (v := nI (i_1 + 1)) (lv' := [(4, .int (nI (i_1 + 1))), (3, .int (nI (0))), (0, .ref (a0)), (1, .int (nI (t))), (2, .int (nI (w)))]) hx hb dX5_areFree_61 hl (k := 4) rfl (nI_add _ _) (by decide) rfl (fun ls hl => ?_)
      refine lv_goto (tgt := 5) hx hb dX5_areFree_64 (by decide) ?_
      have ea_7 : allN (mAFQ u.2.2 t w) (i_1 + 1) = false := by first | (simp [allN_s, anyN_s, cntN_s, sumL, mAFQ, c_5, c_6] <;> omega) | grind [allN_s, anyN_s, cntN_s, sumL, mAFQ]
      exact ih (H, locs, ls) (by omega) ⟨trivial, hB, by show lv_has ls 5 [(0, .ref (a0)), (1, .int (nI (t))), (2, .int (nI (w))), (3, .int (b2i (allN (mAFQ u.2.2 t w) (i_1 + 1)))), (4, .int (nI (i_1 + 1)))]; rw [ea_7]; exact lv_sub hl [2, 3, 4, 1, 0] rfl⟩
    · refine lv_aload_n hx hb dX5_areFree_18 rfl (lv_at hl 0 rfl) ?_
      refine w_get (v := .ref (sA u 35 0)) (fk := 14) hF hB ha0 (cn_20 env u (0)) rfl in_X5 (by decide) tw_3_109 rfl rfl dX5_areFree_19 ?_
      refine lv_bipush (v := nI 12) hx hb dX5_areFree_22 (by decide) ?_
      refine lv_iload_n hx hb dX5_areFree_24 rfl (lv_at hl 1 rfl) ?_
      refine w_imul_n hx hb dX5_areFree_25 ?_
      refine lv_iload hx hb dX5_areFree_26 (lv_at hl 4 rfl) ?_
      refine w_iadd_n hx hb dX5_areFree_28 ?_
      refine w_zald (v := .int (b2i (gB u.2.2 64 (0) ((12 * t) + i_1)))) hF hB ⟨hM 35 (by decide), rfl⟩ (cn_35 env u (0)) (by omega) rfl (by decide) dX5_areFree_29 ?_
      refine w_ifeq_b (tgt := 55) hx hb dX5_areFree_30 (by decide) (fun c_8 => ?_) (fun c_8 => ?_)
      · refine lv_iconst (v := nI 1) hx hb dX5_areFree_55 (by decide) ?_
        refine lv_goto (tgt := 60) hx hb dX5_areFree_56 (by decide) ?_
        refine lv_istore_n (lv' := [(3, .int (nI (1))), (0, .ref (a0)), (1, .int (nI (t))), (2, .int (nI (w))), (4, .int (nI (i_1)))]) hx hb dX5_areFree_60 rfl hl (by decide) rfl (fun ls hl => ?_)
        refine lv_iinc (v := nI (i_1 + 1)) (lv' := [(4, .int (nI (i_1 + 1))), (3, .int (nI (1))), (0, .ref (a0)), (1, .int (nI (t))), (2, .int (nI (w)))]) hx hb dX5_areFree_61 hl (k := 4) rfl (nI_add _ _) (by decide) rfl (fun ls hl => ?_)
        refine lv_goto (tgt := 5) hx hb dX5_areFree_64 (by decide) ?_
        have ea_9 : allN (mAFQ u.2.2 t w) (i_1 + 1) = true := by first | (simp [allN_s, anyN_s, cntN_s, sumL, mAFQ, c_5, c_6, c_8] <;> omega) | grind [allN_s, anyN_s, cntN_s, sumL, mAFQ]
        exact ih (H, locs, ls) (by omega) ⟨trivial, hB, by show lv_has ls 5 [(0, .ref (a0)), (1, .int (nI (t))), (2, .int (nI (w))), (3, .int (b2i (allN (mAFQ u.2.2 t w) (i_1 + 1)))), (4, .int (nI (i_1 + 1)))]; rw [ea_9]; exact lv_sub hl [2, 3, 4, 1, 0] rfl⟩
      · refine lv_aload_n hx hb dX5_areFree_33 rfl (lv_at hl 0 rfl) ?_
        refine w_get (v := .ref (sA u 24 0)) (fk := 3) hF hB ha0 (cn_20 env u (0)) rfl in_X5 (by decide) tw_3_98 rfl rfl dX5_areFree_34 ?_
        refine lv_iload hx hb dX5_areFree_37 (lv_at hl 4 rfl) ?_
        refine w_iald (v := .int (nI (gN u.2.2 53 (0) (i_1)))) hF hB ⟨hM 24 (by decide), rfl⟩ (cn_24 env u (0)) (by omega) rfl (by decide) dX5_areFree_39 ?_
        refine lv_iload_n hx hb dX5_areFree_40 rfl (lv_at hl 2 rfl) ?_
        refine w_icne_n (tgt := 55) (by have := hNm 53 (0) (i_1); omega) (by omega) hx hb dX5_areFree_41 (by decide) (fun c_10 => ?_) (fun c_10 => ?_)
        · refine lv_iconst (v := nI 1) hx hb dX5_areFree_55 (by decide) ?_
          refine lv_goto (tgt := 60) hx hb dX5_areFree_56 (by decide) ?_
          refine lv_istore_n (lv' := [(3, .int (nI (1))), (0, .ref (a0)), (1, .int (nI (t))), (2, .int (nI (w))), (4, .int (nI (i_1)))]) hx hb dX5_areFree_60 rfl hl (by decide) rfl (fun ls hl => ?_)
          refine lv_iinc (v := nI (i_1 + 1)) (lv' := [(4, .int (nI (i_1 + 1))), (3, .int (nI (1))), (0, .ref (a0)), (1, .int (nI (t))), (2, .int (nI (w)))]) hx hb dX5_areFree_61 hl (k := 4) rfl (nI_add _ _) (by decide) rfl (fun ls hl => ?_)
          refine lv_goto (tgt := 5) hx hb dX5_areFree_64 (by decide) ?_
          have ea_11 : allN (mAFQ u.2.2 t w) (i_1 + 1) = true := by first | (simp [allN_s, anyN_s, cntN_s, sumL, mAFQ, c_5, c_6, c_8, c_10] <;> omega) | grind [allN_s, anyN_s, cntN_s, sumL, mAFQ]
          exact ih (H, locs, ls) (by omega) ⟨trivial, hB, by show lv_has ls 5 [(0, .ref (a0)), (1, .int (nI (t))), (2, .int (nI (w))), (3, .int (b2i (allN (mAFQ u.2.2 t w) (i_1 + 1)))), (4, .int (nI (i_1 + 1)))]; rw [ea_11]; exact lv_sub hl [2, 3, 4, 1, 0] rfl⟩
        · refine lv_aload_n hx hb dX5_areFree_44 rfl (lv_at hl 0 rfl) ?_
          refine lv_iload_n hx hb dX5_areFree_45 rfl (lv_at hl 1 rfl) ?_
          refine lv_iload hx hb dX5_areFree_46 (lv_at hl 4 rfl) ?_
          refine lv_iload_n hx hb dX5_areFree_48 rfl (lv_at hl 2 rfl) ?_
          refine w_ci (r_V (As := [.int (nI (t)), .int (nI (i_1)), .int (nI (w))]) (rest := []) hF hB (c_X5_isFree l env s0 X u (a0) (0) (ha0) (t) (i_1) (w) hM hV hNm ht (by omega) hw) cv_X5_isFree tw_4_10 ⟨rfl, rfl, by decide, by decide⟩ (hB.recv ha0 (cn_20 env u (0)) rfl) rfl hl.1 rfl (lv_room (by decide)) dX5_areFree_49 ⟨Nat.le_of_ble_eq_true rfl, Nat.le_of_ble_eq_true rfl⟩) hB (fun r_12 u_14 H locs hq_13 hB => ?_)
          obtain ⟨rfl, rfl⟩ := hq_13
          refine w_ifeq_b (tgt := 59) hx hb dX5_areFree_52 (by decide) (fun c_15 => ?_) (fun c_15 => ?_)
          · refine lv_iconst (v := nI 0) hx hb dX5_areFree_59 (by decide) ?_
            refine lv_istore_n (lv' := [(3, .int (nI (0))), (0, .ref (a0)), (1, .int (nI (t))), (2, .int (nI (w))), (4, .int (nI (i_1)))]) hx hb dX5_areFree_60 rfl hl (by decide) rfl (fun ls hl => ?_)
            refine lv_iinc (v := nI (i_1 + 1)) (lv' := [(4, .int (nI (i_1 + 1))), (3, .int (nI (0))), (0, .ref (a0)), (1, .int (nI (t))), (2, .int (nI (w)))]) hx hb dX5_areFree_61 hl (k := 4) rfl (nI_add _ _) (by decide) rfl (fun ls hl => ?_)
            refine lv_goto (tgt := 5) hx hb dX5_areFree_64 (by decide) ?_
            have ea_16 : allN (mAFQ u.2.2 t w) (i_1 + 1) = false := by first | (simp [allN_s, anyN_s, cntN_s, sumL, mAFQ, c_5, c_6, c_8, c_10, c_15] <;> omega) | grind [allN_s, anyN_s, cntN_s, sumL, mAFQ]
            exact ih (H, locs, ls) (by omega) ⟨trivial, hB, by show lv_has ls 5 [(0, .ref (a0)), (1, .int (nI (t))), (2, .int (nI (w))), (3, .int (b2i (allN (mAFQ u.2.2 t w) (i_1 + 1)))), (4, .int (nI (i_1 + 1)))]; rw [ea_16]; exact lv_sub hl [2, 3, 4, 1, 0] rfl⟩
          · refine lv_iconst (v := nI 1) hx hb dX5_areFree_55 (by decide) ?_
            refine lv_goto (tgt := 60) hx hb dX5_areFree_56 (by decide) ?_
            refine lv_istore_n (lv' := [(3, .int (nI (1))), (0, .ref (a0)), (1, .int (nI (t))), (2, .int (nI (w))), (4, .int (nI (i_1)))]) hx hb dX5_areFree_60 rfl hl (by decide) rfl (fun ls hl => ?_)
            refine lv_iinc (v := nI (i_1 + 1)) (lv' := [(4, .int (nI (i_1 + 1))), (3, .int (nI (1))), (0, .ref (a0)), (1, .int (nI (t))), (2, .int (nI (w)))]) hx hb dX5_areFree_61 hl (k := 4) rfl (nI_add _ _) (by decide) rfl (fun ls hl => ?_)
            refine lv_goto (tgt := 5) hx hb dX5_areFree_64 (by decide) ?_
            have ea_17 : allN (mAFQ u.2.2 t w) (i_1 + 1) = true := by first | (simp [allN_s, anyN_s, cntN_s, sumL, mAFQ, c_5, c_6, c_8, c_10, c_15] <;> omega) | grind [allN_s, anyN_s, cntN_s, sumL, mAFQ]
            exact ih (H, locs, ls) (by omega) ⟨trivial, hB, by show lv_has ls 5 [(0, .ref (a0)), (1, .int (nI (t))), (2, .int (nI (w))), (3, .int (b2i (allN (mAFQ u.2.2 t w) (i_1 + 1)))), (4, .int (nI (i_1 + 1)))]; rw [ea_17]; exact lv_sub hl [2, 3, 4, 1, 0] rfl⟩
set_option maxHeartbeats 4000000 in
set_option maxRecDepth 100000 in
theorem c_X5_isSafe (l : Launch) (env : Ev) (s0 : Nat) (X : va_W) (u : St) (a0 : Nat) (_xa0 : Nat) (ha0 : At u 20 (0) a0) (t : Nat) (hM : MI u) (hV : MV u.2.2) (hNm : Nb u.2.2) (ht : t < 150) : Met l yX5_isSafe [Cond.code yX5_isSafe cX5_isSafe 2 (some .boolean)] { frames := 0, cells := 0, slots := 0, locals := 0 } (va_Pc [.ref (a0), .int (nI (t))] (Pr env s0 X u)) (va_Qi (fun r u' => u = u' ∧ r = b2i (mIsSafe u.2.2 t)) (Po env s0 X) (fun q => s0 ≤ q)) 0 0 (fun q => s0 ≤ q) := by
  refine Met.ofW (cc := cX5_isSafe) (maxL := 2) (ret := (some .boolean)) (by decide) rfl ?_
  intro p e s m args below meth c s₁ B hml hv
  obtain ⟨rfl, hv⟩ := hv
  have hx := B.exec
  have hb := B.bytes
  have hr := B.returns
  have hts : ∀ ww ∈ TT, ww.before #[.ref (a0), .int (nI (t))] s = true := fun ww hw => hv.2.1 ww hw _
  have hown : s.vm.findClass RX5 = some m.cls := findClass_of_methodNamed B.named
  have hlocks := B.notSynchronized
  have hF : CallFix p m c cX5_isSafe 2 s #[.ref (a0), .int (nI (t))] TT RX5 := ⟨hx, hb, hml, hown, hts⟩
  have hB := Bd.entry hv
  have hl := lv_entry ([.ref (a0), .int (nI (t))]) (n := 2) (Nat.le_of_ble_eq_true rfl)
  rw [lg_entry_eq]
  generalize (lg_sl ([.ref (a0), .int (nI (t))]) ++ List.replicate (2 - (lg_sl ([.ref (a0), .int (nI (t))])).length) Slot.unset).toArray = ls at hl ⊢
  have hl : lv_has ls 2 [(0, .ref (a0)), (1, .int (nI (t)))] := hl
  refine lv_aload_n hx hb dX5_isSafe_0 rfl (lv_at hl 0 rfl) ?_
  refine w_get (v := .ref (sA u 30 0)) (fk := 9) hF hB ha0 (cn_20 env u (0)) rfl in_X5 (by decide) tw_3_104 rfl rfl dX5_isSafe_1 ?_
  refine lv_iload_n hx hb dX5_isSafe_4 rfl (lv_at hl 1 rfl) ?_
  refine w_iald (v := .int (nI (gN u.2.2 59 (0) (t)))) hF hB ⟨hM 30 (by decide), rfl⟩ (cn_30 env u (0)) (by omega) rfl (by decide) dX5_isSafe_5 ?_
  refine w_ifle_n (tgt := 26) (by have := hNm 59 (0) (t); omega) hx hb dX5_isSafe_6 (by decide) (fun c_1 => ?_) (fun c_1 => ?_)
  · refine lv_iconst (v := nI 0) hx hb dX5_isSafe_26 (by decide) ?_
    exact w_zret (v := nI 0) hF hr rfl hlocks hB (⟨rfl, b2i_c0 (by simp [mIsSafe, c_1] <;> omega)⟩) dX5_isSafe_27
  · refine lv_aload_n hx hb dX5_isSafe_9 rfl (lv_at hl 0 rfl) ?_
    refine w_get (v := .ref (sA u 31 0)) (fk := 10) hF hB ha0 (cn_20 env u (0)) rfl in_X5 (by decide) tw_3_105 rfl rfl dX5_isSafe_10 ?_
    refine lv_iload_n hx hb dX5_isSafe_13 rfl (lv_at hl 1 rfl) ?_
    refine w_iald (v := .int (nI (gN u.2.2 60 (0) (t)))) hF hB ⟨hM 31 (by decide), rfl⟩ (cn_31 env u (0)) (by omega) rfl (by decide) dX5_isSafe_14 ?_
    refine lv_aload_n hx hb dX5_isSafe_15 rfl (lv_at hl 0 rfl) ?_
    refine w_get (v := .int (nI (gN u.2.2 51 (0) (0)))) (fk := 1) hF hB ha0 (cn_20 env u (0)) rfl in_X5 (by decide) tw_3_96 rfl rfl dX5_isSafe_16 ?_
    refine w_iclt_n (tgt := 26) (by have := hNm 60 (0) (t); omega) (by have := hNm 51 (0) (0); omega) hx hb dX5_isSafe_19 (by decide) (fun c_2 => ?_) (fun c_2 => ?_)
    · refine lv_iconst (v := nI 0) hx hb dX5_isSafe_26 (by decide) ?_
      exact w_zret (v := nI 0) hF hr rfl hlocks hB (⟨rfl, b2i_c0 (by simp [mIsSafe, c_1, c_2] <;> omega)⟩) dX5_isSafe_27
    · refine lv_iconst (v := nI 1) hx hb dX5_isSafe_22 (by decide) ?_
      refine lv_goto (tgt := 27) hx hb dX5_isSafe_23 (by decide) ?_
      exact w_zret (v := nI 1) hF hr rfl hlocks hB (⟨rfl, b2i_c1 (by simp [mIsSafe, c_1, c_2] <;> omega)⟩) dX5_isSafe_27
end
section
def wM (u : St) (m : Lg) : St := (u.1, u.2.1, m)
section MVu
variable {m : Lg} {j v : Nat}
theorem up3_N {P : Nat → Prop} {f i j : Nat} (h : ∀ q, P (gN m f 0 q)) (hv : P v) : ∀ q, P (gN (uN m f i j v) f 0 q) := by
  intro q
  show P (up3 (gN m) f i j v f 0 q)
  unfold up3
  rw [if_pos rfl]
  by_cases z : 0 = i ∧ q = j
  · simp only [if_pos z]; exact hv
  · simp only [if_neg z]; exact h q
theorem MV.u56 (h : MV m) (hv : v < 4) : MV (uN m 56 0 j v) := ⟨up3_N (P := fun x => x < 4) h.1 hv, h.2⟩
theorem MV.u69 (h : MV m) (hv : v < 150) : MV (uN m 69 0 j v) := ⟨h.1, up3_N (P := fun x => x < 150) h.2.1 hv, h.2.2⟩
theorem MV.u70 (h : MV m) (hv : v ≤ 150) : MV (uN m 70 0 j v) := ⟨h.1, h.2.1, up3_N (P := fun x => x ≤ 150) h.2.2.1 hv, h.2.2.2⟩
theorem MV.u74 (h : MV m) (hv : v < 4) : MV (uN m 74 0 j v) := ⟨h.1, h.2.1, h.2.2.1, up3_N (P := fun x => x < 4) h.2.2.2.1 hv, h.2.2.2.2⟩
theorem MV.u75 (h : MV m) (hv : v < 4) : MV (uN m 75 0 j v) := ⟨h.1, h.2.1, h.2.2.1, h.2.2.2.1, up3_N (P := fun x => x < 4) h.2.2.2.2.1 hv, h.2.2.2.2.2⟩
theorem MV.u76 (h : MV m) (hv : v < 150) : MV (uN m 76 0 j v) := ⟨h.1, h.2.1, h.2.2.1, h.2.2.2.1, h.2.2.2.2.1, up3_N (P := fun x => x < 150) h.2.2.2.2.2.1 hv, h.2.2.2.2.2.2⟩
theorem up3_0 (P : Nat → Prop) {f i j : Nat} (h : P (gN m f 0 0)) (hv : P v) : P (gN (uN m f i j v) f 0 0) := by
  show P (up3 (gN m) f i j v f 0 0)
  unfold up3
  rw [if_pos rfl]
  by_cases z : 0 = i ∧ 0 = j
  · simp only [if_pos z]; exact hv
  · simp only [if_neg z]; exact h
theorem MV.u52 (h : MV m) (hv : v ≤ 12) : MV (uN m 52 0 j v) := ⟨h.1, h.2.1, h.2.2.1, h.2.2.2.1, h.2.2.2.2.1, h.2.2.2.2.2.1, up3_0 (fun x => x ≤ 12) h.2.2.2.2.2.2.1 hv, h.2.2.2.2.2.2.2⟩
theorem MV.u55 (h : MV m) (hv : v ≤ 150) : MV (uN m 55 0 j v) := ⟨h.1, h.2.1, h.2.2.1, h.2.2.2.1, h.2.2.2.2.1, h.2.2.2.2.2.1, h.2.2.2.2.2.2.1, up3_0 (fun x => x ≤ 150) h.2.2.2.2.2.2.2.1 hv, h.2.2.2.2.2.2.2.2⟩
theorem MV.u72 (h : MV m) (hv : v ≤ 2400) : MV (uN m 72 0 j v) := ⟨h.1, h.2.1, h.2.2.1, h.2.2.2.1, h.2.2.2.2.1, h.2.2.2.2.2.1, h.2.2.2.2.2.2.1, h.2.2.2.2.2.2.2.1, up3_0 (fun x => x ≤ 2400) h.2.2.2.2.2.2.2.2.1 hv, h.2.2.2.2.2.2.2.2.2⟩
theorem MV.u50 (h : MV m) (hv : v ≤ 4) : MV (uN m 50 0 j v) := ⟨h.1, h.2.1, h.2.2.1, h.2.2.2.1, h.2.2.2.2.1, h.2.2.2.2.2.1, h.2.2.2.2.2.2.1, h.2.2.2.2.2.2.2.1, h.2.2.2.2.2.2.2.2.1, up3_0 (fun x => x ≤ 4) h.2.2.2.2.2.2.2.2.2 hv⟩
end MVu
def mSend (m : Lg) (kind to fr t : Nat) : Lg := uN (uN (uN (uN (uN m 73 0 (gN m 72 0 0) kind) 74 0 (gN m 72 0 0) to) 75 0 (gN m 72 0 0) fr) 76 0 (gN m 72 0 0) t) 72 0 0 (gN m 72 0 0 + 1)
theorem mSend_72 (m : Lg) (kind to fr t : Nat) : gN (mSend m kind to fr t) 72 0 0 = gN m 72 0 0 + 1 := by simp [mSend, uN, gN, up3]
theorem mSend_f (m : Lg) (kind to fr t : Nat) {f : Nat} (hf : f < 72) : gN (mSend m kind to fr t) f = gN m f := by
  show up3 _ 72 _ _ _ f = _
  unfold up3
  rw [if_neg (by omega)]
  show up3 _ 76 _ _ _ f = _
  unfold up3
  rw [if_neg (by omega)]
  show up3 _ 75 _ _ _ f = _
  unfold up3
  rw [if_neg (by omega)]
  show up3 _ 74 _ _ _ f = _
  unfold up3
  rw [if_neg (by omega)]
  show up3 _ 73 _ _ _ f = _
  unfold up3
  rw [if_neg (by omega)]
theorem mSend_V {m : Lg} (h : MV m) {kind to fr t : Nat} (h1 : to < 4) (h2 : fr < 4) (h3 : t < 150) (h4 : gN m 72 0 0 < 2400) : MV (mSend m kind to fr t) :=
  (MV.u72 (MV.u76 (MV.u75 (MV.u74 (show MV (uN m 73 0 (gN m 72 0 0) kind) from h) h1) h2) h3) (by omega))
theorem mSend_Nb {m : Lg} (h : Nb m) {kind to fr t : Nat} (h0 : kind < 100) (h1 : to < 4) (h2 : fr < 4) (h3 : t < 150) (h4 : gN m 72 0 0 < 2400) : Nb (mSend m kind to fr t) :=
  Nb.uN (Nb.uN (Nb.uN (Nb.uN (Nb.uN h (by omega)) (by omega)) (by omega)) (by omega)) (by omega)
def mLock (m : Lg) (t w : Nat) : Nat → Lg
  | 0 => m
  | k + 1 => if gB (mLock m t w k) 64 0 (12 * t + k) = true ∧ gN (mLock m t w k) 53 0 k = w then uI (mLock m t w k) 71 0 (12 * w + k) (nI t) else mLock m t w k
theorem mLock_N (m : Lg) (t w : Nat) : ∀ i, gN (mLock m t w i) = gN m
  | 0 => rfl
  | i + 1 => by unfold mLock; split; exact mLock_N m t w i; exact mLock_N m t w i
theorem mLock_B (m : Lg) (t w : Nat) : ∀ i, gB (mLock m t w i) = gB m
  | 0 => rfl
  | i + 1 => by unfold mLock; split; exact mLock_B m t w i; exact mLock_B m t w i
theorem mLock_J (m : Lg) (t w : Nat) : ∀ i, gJ (mLock m t w i) = gJ m
  | 0 => rfl
  | i + 1 => by unfold mLock; split; exact mLock_J m t w i; exact mLock_J m t w i
theorem MV.ofN {m m' : Lg} (e : gN m' = gN m) (h : MV m) : MV m' := by unfold MV at *; rw [e]; exact h
theorem Nb.ofN {m m' : Lg} (e : gN m' = gN m) (h : Nb m) : Nb m' := by unfold Nb at *; rw [e]; exact h
def mUnlock (m : Lg) (t w : Nat) : Nat → Lg
  | 0 => m
  | k + 1 => if gI (mUnlock m t w k) 71 0 (12 * w + k) = nI t then uI (mUnlock m t w k) 71 0 (12 * w + k) (-4) else mUnlock m t w k
theorem mUnlock_N (m : Lg) (t w : Nat) : ∀ i, gN (mUnlock m t w i) = gN m
  | 0 => rfl
  | i + 1 => by unfold mUnlock; split; exact mUnlock_N m t w i; exact mUnlock_N m t w i
theorem mUnlock_B (m : Lg) (t w : Nat) : ∀ i, gB (mUnlock m t w i) = gB m
  | 0 => rfl
  | i + 1 => by unfold mUnlock; split; exact mUnlock_B m t w i; exact mUnlock_B m t w i
theorem mUnlock_J (m : Lg) (t w : Nat) : ∀ i, gJ (mUnlock m t w i) = gJ m
  | 0 => rfl
  | i + 1 => by unfold mUnlock; split; exact mUnlock_J m t w i; exact mUnlock_J m t w i
def mC3 (m : Lg) (w t : Nat) : Lg := uN (uN (uN m 68 0 (4 * w + gN m 56 0 t) (gN m 68 0 (4 * w + gN m 56 0 t) + 1)) 69 0 (150 * w + gN m 70 0 w) t) 70 0 w (gN m 70 0 w + 1)
def mComes0 (m : Lg) (w t : Nat) : Lg := mUnlock (mC3 m w t) t w (gN m 52 0 0)
def mComes (m : Lg) (w t : Nat) (own : Bool) : Lg := if own then mComes0 m w t else mSend (mComes0 m w t) 5 (gN (mComes0 m w t) 56 0 t) w t
theorem mC3_V {m : Lg} (h : MV m) {w t : Nat} (ht : t < 150) (hc : gN m 70 0 w < 150) : MV (mC3 m w t) := MV.u70 (MV.u69 (show MV (uN m 68 0 (4 * w + gN m 56 0 t) (gN m 68 0 (4 * w + gN m 56 0 t) + 1)) from h) ht) (by omega)
theorem mC3_Nb {m : Lg} (h : Nb m) {w t : Nat} (ht : t < 150) (hc : gN m 70 0 w < 150) (hh : gN m 68 0 (4 * w + gN m 56 0 t) < 1000) : Nb (mC3 m w t) := Nb.uN (Nb.uN (Nb.uN h (by omega)) (by omega)) (by omega)
theorem mComes0_V {m : Lg} (h : MV m) {w t : Nat} (ht : t < 150) (hc : gN m 70 0 w < 150) : MV (mComes0 m w t) := MV.ofN (mUnlock_N _ _ _ _) (mC3_V h ht hc)
theorem mComes0_Nb {m : Lg} (h : Nb m) {w t : Nat} (ht : t < 150) (hc : gN m 70 0 w < 150) (hh : gN m 68 0 (4 * w + gN m 56 0 t) < 1000) : Nb (mComes0 m w t) := Nb.ofN (mUnlock_N _ _ _ _) (mC3_Nb h ht hc hh)
theorem mComes0_f (m : Lg) (w t : Nat) {f : Nat} (h1 : f ≠ 68) (h2 : f ≠ 69) (h3 : f ≠ 70) : gN (mComes0 m w t) f = gN m f := by
  unfold mComes0
  rw [mUnlock_N]
  show up3 _ 70 _ _ _ f = _
  unfold up3
  rw [if_neg h3]
  show up3 _ 69 _ _ _ f = _
  unfold up3
  rw [if_neg h2]
  show up3 _ 68 _ _ _ f = _
  unfold up3
  rw [if_neg h1]
theorem mComes_V {m : Lg} (h : MV m) {w t : Nat} {own : Bool} (hw : w < 4) (ht : t < 150) (hc : gN m 70 0 w < 150) (hm : own = false → gN m 72 0 0 < 2400) : MV (mComes m w t own) := by
  unfold mComes
  have h1 := mComes0_V (w := w) (t := t) h ht hc
  split
  · exact h1
  · rename_i z
    exact mSend_V h1 (h1.site _) hw ht (by rw [mComes0_f m w t (by decide) (by decide) (by decide)]; exact hm (by simpa using z))
theorem mComes_Nb {m : Lg} (hV : MV m) (h : Nb m) {w t : Nat} {own : Bool} (hw : w < 4) (ht : t < 150) (hc : gN m 70 0 w < 150) (hh : gN m 68 0 (4 * w + gN m 56 0 t) < 1000) (hm : own = false → gN m 72 0 0 < 2400) : Nb (mComes m w t own) := by
  unfold mComes
  have h1 := mComes0_V (w := w) (t := t) hV ht hc
  have h2 := mComes0_Nb (w := w) (t := t) h ht hc hh
  split
  · exact h2
  · rename_i z
    exact mSend_Nb h2 (by omega) (h1.site _) hw ht (by rw [mComes0_f m w t (by decide) (by decide) (by decide)]; exact hm (by simpa using z))
def mSendAll (m : Lg) (w t : Nat) : Nat → Lg
  | 0 => m
  | o + 1 => if o = w then mSendAll m w t o else mSend (mSendAll m w t o) 4 o w t
theorem mSendAll_f (m : Lg) (w t : Nat) {f : Nat} (hf : f < 72) : ∀ o, gN (mSendAll m w t o) f = gN m f
  | 0 => rfl
  | o + 1 => by unfold mSendAll; split; exact mSendAll_f m w t hf o; rw [mSend_f _ _ _ _ _ hf]; exact mSendAll_f m w t hf o
theorem mSendAll_72 (m : Lg) (w t : Nat) : ∀ o, gN (mSendAll m w t o) 72 0 0 ≤ gN m 72 0 0 + o
  | 0 => Nat.le_refl _
  | o + 1 => by
    have := mSendAll_72 m w t o
    unfold mSendAll; split
    · omega
    · rw [mSend_72]; omega
theorem mSendAll_V {m : Lg} (h : MV m) {w t : Nat} (hw : w < 4) (ht : t < 150) (hm : gN m 72 0 0 + 4 ≤ 2400) : ∀ o, o ≤ 4 → MV (mSendAll m w t o)
  | 0, _ => h
  | o + 1, ho => by
    have h2 := mSendAll_72 m w t o
    have h3 := mSendAll_V h hw ht hm o (by omega)
    unfold mSendAll; split
    · exact h3
    · exact mSend_V h3 (by omega) hw ht (by omega)
theorem mSendAll_Nb {m : Lg} (h : Nb m) {w t : Nat} (hw : w < 4) (ht : t < 150) (hm : gN m 72 0 0 + 4 ≤ 2400) : ∀ o, o ≤ 4 → Nb (mSendAll m w t o)
  | 0, _ => h
  | o + 1, ho => by
    have h2 := mSendAll_72 m w t o
    have h3 := mSendAll_Nb h hw ht hm o (by omega)
    unfold mSendAll; split
    · exact h3
    · exact mSend_Nb h3 (by omega) (by omega) hw ht (by omega)
def mB2 (m : Lg) (t : Nat) : Lg := uN (uN m 57 0 t 2) 59 0 t (gN m 68 0 (4 * gN m 56 0 t + gN m 56 0 t) + 1)
def mB3 (m : Lg) (t : Nat) : Lg := mComes (mB2 m t) (gN m 56 0 t) t true
def mBecomes (m : Lg) (t : Nat) : Lg := mSendAll (mB3 m t) (gN m 56 0 t) t (gN m 50 0 0)
end
section
set_option maxHeartbeats 4000000 in
set_option maxRecDepth 100000 in
theorem c_X5_writesAt (l : Launch) (env : Ev) (s0 : Nat) (X : va_W) (u : St) (a0 : Nat) (_xa0 : Nat) (ha0 : At u 20 (0) a0) (t : Nat) (w : Nat) (hM : MI u) (hV : MV u.2.2) (hNm : Nb u.2.2) (ht : t < 150) (hw : w < 4) : Met l yX5_writesAt [Cond.code yX5_writesAt cX5_writesAt 5 (some .boolean)] { frames := 0, cells := 0, slots := 0, locals := 0 } (va_Pc [.ref (a0), .int (nI (t)), .int (nI (w))] (Pr env s0 X u)) (va_Qi (fun r u' => u = u' ∧ r = b2i (mWritesAt u.2.2 t w)) (Po env s0 X) (fun q => s0 ≤ q)) 0 0 (fun q => s0 ≤ q) := by
  refine Met.ofW (cc := cX5_writesAt) (maxL := 5) (ret := (some .boolean)) (by decide) rfl ?_
  intro p e s m args below meth c s₁ B hml hv
  obtain ⟨rfl, hv⟩ := hv
  have hx := B.exec
  have hb := B.bytes
  have hr := B.returns
  have hts : ∀ ww ∈ TT, ww.before #[.ref (a0), .int (nI (t)), .int (nI (w))] s = true := fun ww hw => hv.2.1 ww hw _
  have hown : s.vm.findClass RX5 = some m.cls := findClass_of_methodNamed B.named
  have hlocks := B.notSynchronized
  have hF : CallFix p m c cX5_writesAt 5 s #[.ref (a0), .int (nI (t)), .int (nI (w))] TT RX5 := ⟨hx, hb, hml, hown, hts⟩
  have hB := Bd.entry hv
  have hl := lv_entry ([.ref (a0), .int (nI (t)), .int (nI (w))]) (n := 5) (Nat.le_of_ble_eq_true rfl)
  rw [lg_entry_eq]
  generalize (lg_sl ([.ref (a0), .int (nI (t)), .int (nI (w))]) ++ List.replicate (5 - (lg_sl ([.ref (a0), .int (nI (t)), .int (nI (w))])).length) Slot.unset).toArray = ls at hl ⊢
  have hl : lv_has ls 5 [(0, .ref (a0)), (1, .int (nI (t))), (2, .int (nI (w)))] := hl
  refine lv_iconst (v := nI 0) hx hb dX5_writesAt_0 (by decide) ?_
  refine lv_istore_n (lv' := [(3, .int (nI (0))), (0, .ref (a0)), (1, .int (nI (t))), (2, .int (nI (w)))]) hx hb dX5_writesAt_1 rfl hl (by decide) rfl (fun ls hl => ?_)
  refine lv_iconst (v := nI 0) hx hb dX5_writesAt_2 (by decide) ?_
  refine lv_istore (lv' := [(4, .int (nI (0))), (3, .int (nI (0))), (0, .ref (a0)), (1, .int (nI (t))), (2, .int (nI (w)))]) hx hb dX5_writesAt_3 hl (by decide) rfl (fun ls hl => ?_)
  have ea_2 : anyN (mWQ u.2.2 t w) (0) = false := by simp [allN_0, anyN_0, mWQ] <;> omega
  refine wloopH (σ := Heap × List Loc × Array Slot) (G := fun x => W p l e _ s m _ below meth c x.1 x.2.1 _ _ _ (F0 m 5 x.2.2 [])) (P := fun i_1 x => (True) ∧ Bd env s0 X u s x.1 x.2.1 ∧ lv_has x.2.2 5 [(0, .ref (a0)), (1, .int (nI (t))), (2, .int (nI (w))), (3, .int (b2i (anyN (mWQ u.2.2 t w) (i_1)))), (4, .int (nI (i_1)))]) (N := gN u.2.2 52 0 0) ?_ 0 (_, _, ls) (Nat.zero_le _) ⟨trivial, hB, by show lv_has ls 5 [(0, .ref (a0)), (1, .int (nI (t))), (2, .int (nI (w))), (3, .int (b2i (anyN (mWQ u.2.2 t w) (0)))), (4, .int (nI (0)))]; rw [ea_2]; exact lv_sub hl [2, 3, 4, 1, 0] rfl⟩
  rintro i_1 ⟨H, locs, ls⟩ hi_3 ⟨hv_4, hB, hl⟩ ih
  replace hB : Bd env s0 X u s H locs := hB
  replace hl : lv_has ls 5 [(0, .ref (a0)), (1, .int (nI (t))), (2, .int (nI (w))), (3, .int (b2i (anyN (mWQ u.2.2 t w) (i_1)))), (4, .int (nI (i_1)))] := hl
  show W p l e _ s m _ below meth c H locs _ _ _ (F0 m 5 ls [])
  have := hNm 52 0 0
  have := hV.nth
  refine lv_iload hx hb dX5_writesAt_5 (lv_at hl 4 rfl) ?_
  refine lv_aload_n hx hb dX5_writesAt_7 rfl (lv_at hl 0 rfl) ?_
  refine w_get (v := .int (nI (gN u.2.2 52 (0) (0)))) (fk := 2) hF hB ha0 (cn_20 env u (0)) rfl in_X5 (by decide) tw_3_97 rfl rfl dX5_writesAt_8 ?_
  refine w_icge_n (tgt := 56) (by omega) (by have := hNm 52 (0) (0); omega) hx hb dX5_writesAt_11 (by decide) (fun c_5 => ?_) (fun c_5 => ?_)
  · refine lv_iload_n hx hb dX5_writesAt_56 rfl (lv_at hl 3 rfl) ?_
    exact w_zret (v := b2i (anyN (mWQ u.2.2 t w) (i_1))) hF hr (b2i_nar _) hlocks hB (⟨rfl, by rw [show i_1 = gN u.2.2 52 0 0 by omega]; rfl⟩) dX5_writesAt_57
  · refine lv_iload_n hx hb dX5_writesAt_14 rfl (lv_at hl 3 rfl) ?_
    refine w_ifne_b (tgt := 44) hx hb dX5_writesAt_15 (by decide) (fun c_6 => ?_) (fun c_6 => ?_)
    · refine lv_iconst (v := nI 1) hx hb dX5_writesAt_44 (by decide) ?_
      refine lv_goto (tgt := 49) hx hb dX5_writesAt_45 (by decide) ?_
      refine lv_istore_n (lv' := [(3, .int (nI (1))), (0, .ref (a0)), (1, .int (nI (t))), (2, .int (nI (w))), (4, .int (nI (i_1)))]) hx hb dX5_writesAt_49 rfl hl (by decide) rfl (fun ls hl => ?_)
      refine lv_iinc (v := nI (i_1 + 1)) (lv' := [(4, .int (nI (i_1 + 1))), (3, .int (nI (1))), (0, .ref (a0)), (1, .int (nI (t))), (2, .int (nI (w)))]) hx hb dX5_writesAt_50 hl (k := 4) rfl (nI_add _ _) (by decide) rfl (fun ls hl => ?_)
      refine lv_goto (tgt := 5) hx hb dX5_writesAt_53 (by decide) ?_
      have ea_7 : anyN (mWQ u.2.2 t w) (i_1 + 1) = true := by first | (simp [allN_s, anyN_s, cntN_s, sumL, mWQ, c_5, c_6] <;> omega) | grind [allN_s, anyN_s, cntN_s, sumL, mWQ]
      exact ih (H, locs, ls) (by omega) ⟨trivial, hB, by show lv_has ls 5 [(0, .ref (a0)), (1, .int (nI (t))), (2, .int (nI (w))), (3, .int (b2i (anyN (mWQ u.2.2 t w) (i_1 + 1)))), (4, .int (nI (i_1 + 1)))]; rw [ea_7]; exact lv_sub hl [2, 3, 4, 1, 0] rfl⟩
    · refine lv_aload_n hx hb dX5_writesAt_18 rfl (lv_at hl 0 rfl) ?_
      refine w_get (v := .ref (sA u 35 0)) (fk := 14) hF hB ha0 (cn_20 env u (0)) rfl in_X5 (by decide) tw_3_109 rfl rfl dX5_writesAt_19 ?_
      refine lv_bipush (v := nI 12) hx hb dX5_writesAt_22 (by decide) ?_
      refine lv_iload_n hx hb dX5_writesAt_24 rfl (lv_at hl 1 rfl) ?_
      refine w_imul_n hx hb dX5_writesAt_25 ?_
      refine lv_iload hx hb dX5_writesAt_26 (lv_at hl 4 rfl) ?_
      refine w_iadd_n hx hb dX5_writesAt_28 ?_
      refine w_zald (v := .int (b2i (gB u.2.2 64 (0) ((12 * t) + i_1)))) hF hB ⟨hM 35 (by decide), rfl⟩ (cn_35 env u (0)) (by omega) rfl (by decide) dX5_writesAt_29 ?_
      refine w_ifeq_b (tgt := 48) hx hb dX5_writesAt_30 (by decide) (fun c_8 => ?_) (fun c_8 => ?_)
      · refine lv_iconst (v := nI 0) hx hb dX5_writesAt_48 (by decide) ?_
        refine lv_istore_n (lv' := [(3, .int (nI (0))), (0, .ref (a0)), (1, .int (nI (t))), (2, .int (nI (w))), (4, .int (nI (i_1)))]) hx hb dX5_writesAt_49 rfl hl (by decide) rfl (fun ls hl => ?_)
        refine lv_iinc (v := nI (i_1 + 1)) (lv' := [(4, .int (nI (i_1 + 1))), (3, .int (nI (0))), (0, .ref (a0)), (1, .int (nI (t))), (2, .int (nI (w)))]) hx hb dX5_writesAt_50 hl (k := 4) rfl (nI_add _ _) (by decide) rfl (fun ls hl => ?_)
        refine lv_goto (tgt := 5) hx hb dX5_writesAt_53 (by decide) ?_
        have ea_9 : anyN (mWQ u.2.2 t w) (i_1 + 1) = false := by first | (simp [allN_s, anyN_s, cntN_s, sumL, mWQ, c_5, c_6, c_8] <;> omega) | grind [allN_s, anyN_s, cntN_s, sumL, mWQ]
        exact ih (H, locs, ls) (by omega) ⟨trivial, hB, by show lv_has ls 5 [(0, .ref (a0)), (1, .int (nI (t))), (2, .int (nI (w))), (3, .int (b2i (anyN (mWQ u.2.2 t w) (i_1 + 1)))), (4, .int (nI (i_1 + 1)))]; rw [ea_9]; exact lv_sub hl [2, 3, 4, 1, 0] rfl⟩
      · refine lv_aload_n hx hb dX5_writesAt_33 rfl (lv_at hl 0 rfl) ?_
        refine w_get (v := .ref (sA u 24 0)) (fk := 3) hF hB ha0 (cn_20 env u (0)) rfl in_X5 (by decide) tw_3_98 rfl rfl dX5_writesAt_34 ?_
        refine lv_iload hx hb dX5_writesAt_37 (lv_at hl 4 rfl) ?_
        refine w_iald (v := .int (nI (gN u.2.2 53 (0) (i_1)))) hF hB ⟨hM 24 (by decide), rfl⟩ (cn_24 env u (0)) (by omega) rfl (by decide) dX5_writesAt_39 ?_
        refine lv_iload_n hx hb dX5_writesAt_40 rfl (lv_at hl 2 rfl) ?_
        refine w_icne_n (tgt := 48) (by have := hNm 53 (0) (i_1); omega) (by omega) hx hb dX5_writesAt_41 (by decide) (fun c_10 => ?_) (fun c_10 => ?_)
        · refine lv_iconst (v := nI 0) hx hb dX5_writesAt_48 (by decide) ?_
          refine lv_istore_n (lv' := [(3, .int (nI (0))), (0, .ref (a0)), (1, .int (nI (t))), (2, .int (nI (w))), (4, .int (nI (i_1)))]) hx hb dX5_writesAt_49 rfl hl (by decide) rfl (fun ls hl => ?_)
          refine lv_iinc (v := nI (i_1 + 1)) (lv' := [(4, .int (nI (i_1 + 1))), (3, .int (nI (0))), (0, .ref (a0)), (1, .int (nI (t))), (2, .int (nI (w)))]) hx hb dX5_writesAt_50 hl (k := 4) rfl (nI_add _ _) (by decide) rfl (fun ls hl => ?_)
          refine lv_goto (tgt := 5) hx hb dX5_writesAt_53 (by decide) ?_
          have ea_11 : anyN (mWQ u.2.2 t w) (i_1 + 1) = false := by first | (simp [allN_s, anyN_s, cntN_s, sumL, mWQ, c_5, c_6, c_8, c_10] <;> omega) | grind [allN_s, anyN_s, cntN_s, sumL, mWQ]
          exact ih (H, locs, ls) (by omega) ⟨trivial, hB, by show lv_has ls 5 [(0, .ref (a0)), (1, .int (nI (t))), (2, .int (nI (w))), (3, .int (b2i (anyN (mWQ u.2.2 t w) (i_1 + 1)))), (4, .int (nI (i_1 + 1)))]; rw [ea_11]; exact lv_sub hl [2, 3, 4, 1, 0] rfl⟩
        · refine lv_iconst (v := nI 1) hx hb dX5_writesAt_44 (by decide) ?_
          refine lv_goto (tgt := 49) hx hb dX5_writesAt_45 (by decide) ?_
          refine lv_istore_n (lv' := [(3, .int (nI (1))), (0, .ref (a0)), (1, .int (nI (t))), (2, .int (nI (w))), (4, .int (nI (i_1)))]) hx hb dX5_writesAt_49 rfl hl (by decide) rfl (fun ls hl => ?_)
          refine lv_iinc (v := nI (i_1 + 1)) (lv' := [(4, .int (nI (i_1 + 1))), (3, .int (nI (1))), (0, .ref (a0)), (1, .int (nI (t))), (2, .int (nI (w)))]) hx hb dX5_writesAt_50 hl (k := 4) rfl (nI_add _ _) (by decide) rfl (fun ls hl => ?_)
          refine lv_goto (tgt := 5) hx hb dX5_writesAt_53 (by decide) ?_
          have ea_12 : anyN (mWQ u.2.2 t w) (i_1 + 1) = true := by first | (simp [allN_s, anyN_s, cntN_s, sumL, mWQ, c_5, c_6, c_8, c_10] <;> omega) | grind [allN_s, anyN_s, cntN_s, sumL, mWQ]
          exact ih (H, locs, ls) (by omega) ⟨trivial, hB, by show lv_has ls 5 [(0, .ref (a0)), (1, .int (nI (t))), (2, .int (nI (w))), (3, .int (b2i (anyN (mWQ u.2.2 t w) (i_1 + 1)))), (4, .int (nI (i_1 + 1)))]; rw [ea_12]; exact lv_sub hl [2, 3, 4, 1, 0] rfl⟩
set_option maxHeartbeats 4000000 in
set_option maxRecDepth 100000 in
theorem c_X5_canCome (l : Launch) (env : Ev) (s0 : Nat) (X : va_W) (u : St) (a0 : Nat) (_xa0 : Nat) (ha0 : At u 20 (0) a0) (i : Nat) (hM : MI u) (hV : MV u.2.2) (hNm : Nb u.2.2) (hi : i < 2400) : Met l yX5_canCome [Cond.code yX5_canCome cX5_canCome 6 (some .boolean)] { frames := 0, cells := 0, slots := 0, locals := 0 } (va_Pc [.ref (a0), .int (nI (i))] (Pr env s0 X u)) (va_Qi (fun r u' => u = u' ∧ r = b2i (mCanCome u.2.2 i)) (Po env s0 X) (fun q => s0 ≤ q)) 0 0 (fun q => s0 ≤ q) := by
  refine Met.ofW (cc := cX5_canCome) (maxL := 6) (ret := (some .boolean)) (by decide) rfl ?_
  intro p e s m args below meth c s₁ B hml hv
  obtain ⟨rfl, hv⟩ := hv
  have hx := B.exec
  have hb := B.bytes
  have hr := B.returns
  have hts : ∀ ww ∈ TT, ww.before #[.ref (a0), .int (nI (i))] s = true := fun ww hw => hv.2.1 ww hw _
  have hown : s.vm.findClass RX5 = some m.cls := findClass_of_methodNamed B.named
  have hlocks := B.notSynchronized
  have hF : CallFix p m c cX5_canCome 6 s #[.ref (a0), .int (nI (i))] TT RX5 := ⟨hx, hb, hml, hown, hts⟩
  have hB := Bd.entry hv
  have hl := lv_entry ([.ref (a0), .int (nI (i))]) (n := 6) (Nat.le_of_ble_eq_true rfl)
  rw [lg_entry_eq]
  generalize (lg_sl ([.ref (a0), .int (nI (i))]) ++ List.replicate (6 - (lg_sl ([.ref (a0), .int (nI (i))])).length) Slot.unset).toArray = ls at hl ⊢
  have hl : lv_has ls 6 [(0, .ref (a0)), (1, .int (nI (i)))] := hl
  refine lv_aload_n hx hb dX5_canCome_0 rfl (lv_at hl 0 rfl) ?_
  refine w_get (v := .ref (sA u 44 0)) (fk := 23) hF hB ha0 (cn_20 env u (0)) rfl in_X5 (by decide) tw_3_118 rfl rfl dX5_canCome_1 ?_
  refine lv_iload_n hx hb dX5_canCome_4 rfl (lv_at hl 1 rfl) ?_
  refine w_iald (v := .int (nI (gN u.2.2 73 (0) (i)))) hF hB ⟨hM 44 (by decide), rfl⟩ (cn_44 env u (0)) (by omega) rfl (by decide) dX5_canCome_5 ?_
  refine lv_iconst (v := nI 4) hx hb dX5_canCome_6 (by decide) ?_
  refine w_iceq_n (tgt := 12) (by have := hNm 73 (0) (i); omega) (by decide) hx hb dX5_canCome_7 (by decide) (fun c_1 => ?_) (fun c_1 => ?_)
  · refine lv_aload_n hx hb dX5_canCome_12 rfl (lv_at hl 0 rfl) ?_
    refine w_get (v := .ref (sA u 45 0)) (fk := 24) hF hB ha0 (cn_20 env u (0)) rfl in_X5 (by decide) tw_3_119 rfl rfl dX5_canCome_13 ?_
    refine lv_iload_n hx hb dX5_canCome_16 rfl (lv_at hl 1 rfl) ?_
    refine w_iald (v := .int (nI (gN u.2.2 74 (0) (i)))) hF hB ⟨hM 45 (by decide), rfl⟩ (cn_45 env u (0)) (by omega) rfl (by decide) dX5_canCome_17 ?_
    refine lv_istore_n (lv' := [(2, .int (nI (gN u.2.2 74 (0) (i)))), (0, .ref (a0)), (1, .int (nI (i)))]) hx hb dX5_canCome_18 rfl hl (by decide) rfl (fun ls hl => ?_)
    refine lv_aload_n hx hb dX5_canCome_19 rfl (lv_at hl 1 rfl) ?_
    refine w_get (v := .ref (sA u 47 0)) (fk := 26) hF hB ha0 (cn_20 env u (0)) rfl in_X5 (by decide) tw_3_121 rfl rfl dX5_canCome_20 ?_
    refine lv_iload_n hx hb dX5_canCome_23 rfl (lv_at hl 2 rfl) ?_
    refine w_iald (v := .int (nI (gN u.2.2 76 (0) (i)))) hF hB ⟨hM 47 (by decide), rfl⟩ (cn_47 env u (0)) (by omega) rfl (by decide) dX5_canCome_24 ?_
    refine lv_istore_n (lv' := [(3, .int (nI (gN u.2.2 76 (0) (i)))), (2, .int (nI (gN u.2.2 74 (0) (i)))), (0, .ref (a0)), (1, .int (nI (i)))]) hx hb dX5_canCome_25 rfl hl (by decide) rfl (fun ls hl => ?_)
    refine lv_aload_n hx hb dX5_canCome_26 rfl (lv_at hl 2 rfl) ?_
    refine w_get (v := .ref (sA u 39 0)) (fk := 18) hF hB ha0 (cn_20 env u (0)) rfl in_X5 (by decide) tw_3_113 rfl rfl dX5_canCome_27 ?_
    refine lv_iconst (v := nI 4) hx hb dX5_canCome_30 (by decide) ?_
    refine lv_iload_n hx hb dX5_canCome_31 rfl (lv_at hl 1 rfl) ?_
    refine w_imul_n hx hb dX5_canCome_32 ?_
    refine lv_aload_n hx hb dX5_canCome_33 rfl (lv_at hl 2 rfl) ?_
    refine w_get (v := .ref (sA u 27 0)) (fk := 6) hF hB ha0 (cn_20 env u (0)) rfl in_X5 (by decide) tw_3_101 rfl rfl dX5_canCome_34 ?_
    refine lv_iload_n hx hb dX5_canCome_37 rfl (lv_at hl 0 rfl) ?_
    refine w_iald (v := .int (nI (gN u.2.2 56 (0) (gN u.2.2 76 (0) (i))))) hF hB ⟨hM 27 (by decide), rfl⟩ (cn_27 env u (0)) (by have := hV.of (i); omega) rfl (by decide) dX5_canCome_38 ?_
    refine w_iadd_n hx hb dX5_canCome_39 ?_
    refine w_iald (v := .int (nI (gN u.2.2 68 (0) ((4 * (gN u.2.2 74 (0) (i))) + (gN u.2.2 56 (0) (gN u.2.2 76 (0) (i))))))) hF hB ⟨hM 39 (by decide), rfl⟩ (cn_39 env u (0)) (by have := hV.to (i); have := hV.site (gN u.2.2 76 (0) (i)); have := hV.of (i); omega) rfl (by decide) dX5_canCome_40 ?_
    refine lv_aload_n hx hb dX5_canCome_41 rfl (lv_at hl 2 rfl) ?_
    refine w_get (v := .ref (sA u 30 0)) (fk := 9) hF hB ha0 (cn_20 env u (0)) rfl in_X5 (by decide) tw_3_104 rfl rfl dX5_canCome_42 ?_
    refine lv_iload_n hx hb dX5_canCome_45 rfl (lv_at hl 0 rfl) ?_
    refine w_iald (v := .int (nI (gN u.2.2 59 (0) (gN u.2.2 76 (0) (i))))) hF hB ⟨hM 30 (by decide), rfl⟩ (cn_30 env u (0)) (by have := hV.of (i); omega) rfl (by decide) dX5_canCome_46 ?_
    refine lv_iconst (v := nI 1) hx hb dX5_canCome_47 (by decide) ?_
    refine lv_isub hx hb dX5_canCome_48 ?_
    refine lv_icmp_ne (tgt := 56) hx hb dX5_canCome_49 (by decide) (fun c_2 => ?_) (fun c_2 => ?_)
    · have hc_3 := mt (nI_is_sub1 (hNm 68 0 _) (hNm 59 0 _)).mpr c_2
      refine lv_iconst (v := nI 0) hx hb dX5_canCome_56 (by decide) ?_
      refine lv_istore (lv' := [(4, .int (nI (0))), (3, .int (nI (gN u.2.2 76 (0) (i)))), (2, .int (nI (gN u.2.2 74 (0) (i)))), (0, .ref (a0)), (1, .int (nI (i)))]) hx hb dX5_canCome_57 hl (by decide) rfl (fun ls hl => ?_)
      refine lv_iconst (v := nI 0) hx hb dX5_canCome_59 (by decide) ?_
      refine lv_istore (lv' := [(5, .int (nI (0))), (4, .int (nI (0))), (3, .int (nI (gN u.2.2 76 (0) (i)))), (2, .int (nI (gN u.2.2 74 (0) (i)))), (0, .ref (a0)), (1, .int (nI (i)))]) hx hb dX5_canCome_60 hl (by decide) rfl (fun ls hl => ?_)
      have ea_5 : (decide (gN u.2.2 68 0 (4 * (gN u.2.2 74 0 i) + gN u.2.2 56 0 (gN u.2.2 76 0 i)) + 1 = gN u.2.2 59 0 (gN u.2.2 76 0 i)) && allN (mCanQ u.2.2 (gN u.2.2 74 0 i) (gN u.2.2 76 0 i)) (0)) = false := by simp [allN_0, anyN_0, mCanQ, c_1, hc_3] <;> omega
      refine wloopH (σ := Heap × List Loc × Array Slot) (G := fun x => W p l e _ s m _ below meth c x.1 x.2.1 _ _ _ (F0 m 62 x.2.2 [])) (P := fun i_4 x => (True) ∧ Bd env s0 X u s x.1 x.2.1 ∧ lv_has x.2.2 6 [(0, .ref (a0)), (1, .int (nI (i))), (2, .int (nI (gN u.2.2 74 (0) (i)))), (3, .int (nI (gN u.2.2 76 (0) (i)))), (4, .int (b2i ((decide (gN u.2.2 68 0 (4 * (gN u.2.2 74 0 i) + gN u.2.2 56 0 (gN u.2.2 76 0 i)) + 1 = gN u.2.2 59 0 (gN u.2.2 76 0 i)) && allN (mCanQ u.2.2 (gN u.2.2 74 0 i) (gN u.2.2 76 0 i)) (i_4))))), (5, .int (nI (i_4)))]) (N := gN u.2.2 50 0 0) ?_ 0 (_, _, ls) (Nat.zero_le _) ⟨trivial, hB, by show lv_has ls 6 [(0, .ref (a0)), (1, .int (nI (i))), (2, .int (nI (gN u.2.2 74 (0) (i)))), (3, .int (nI (gN u.2.2 76 (0) (i)))), (4, .int (b2i ((decide (gN u.2.2 68 0 (4 * (gN u.2.2 74 0 i) + gN u.2.2 56 0 (gN u.2.2 76 0 i)) + 1 = gN u.2.2 59 0 (gN u.2.2 76 0 i)) && allN (mCanQ u.2.2 (gN u.2.2 74 0 i) (gN u.2.2 76 0 i)) (0))))), (5, .int (nI (0)))]; rw [ea_5]; exact lv_sub hl [4, 5, 3, 2, 1, 0] rfl⟩
      rintro i_4 ⟨H, locs, ls⟩ hi_6 ⟨hv_7, hB, hl⟩ ih
      replace hB : Bd env s0 X u s H locs := hB
      replace hl : lv_has ls 6 [(0, .ref (a0)), (1, .int (nI (i))), (2, .int (nI (gN u.2.2 74 (0) (i)))), (3, .int (nI (gN u.2.2 76 (0) (i)))), (4, .int (b2i ((decide (gN u.2.2 68 0 (4 * (gN u.2.2 74 0 i) + gN u.2.2 56 0 (gN u.2.2 76 0 i)) + 1 = gN u.2.2 59 0 (gN u.2.2 76 0 i)) && allN (mCanQ u.2.2 (gN u.2.2 74 0 i) (gN u.2.2 76 0 i)) (i_4))))), (5, .int (nI (i_4)))] := hl
      show W p l e _ s m _ below meth c H locs _ _ _ (F0 m 62 ls [])
      have := hNm 50 0 0
      have := hV.nst
      refine lv_iload hx hb dX5_canCome_62 (lv_at hl 5 rfl) ?_
      refine lv_aload_n hx hb dX5_canCome_64 rfl (lv_at hl 0 rfl) ?_
      refine w_get (v := .int (nI (gN u.2.2 50 (0) (0)))) (fk := 0) hF hB ha0 (cn_20 env u (0)) rfl in_X5 (by decide) tw_3_95 rfl rfl dX5_canCome_65 ?_
      refine w_icge_n (tgt := 114) (by omega) (by have := hNm 50 (0) (0); omega) hx hb dX5_canCome_68 (by decide) (fun c_8 => ?_) (fun c_8 => ?_)
      · refine lv_iload hx hb dX5_canCome_114 (lv_at hl 4 rfl) ?_
        exact w_zret (v := b2i ((decide (gN u.2.2 68 0 (4 * (gN u.2.2 74 0 i) + gN u.2.2 56 0 (gN u.2.2 76 0 i)) + 1 = gN u.2.2 59 0 (gN u.2.2 76 0 i)) && allN (mCanQ u.2.2 (gN u.2.2 74 0 i) (gN u.2.2 76 0 i)) (i_4)))) hF hr (b2i_nar _) hlocks hB (⟨rfl, by rw [show i_4 = gN u.2.2 50 0 0 by omega]; simp [mCanCome, mCanC, c_1]⟩) dX5_canCome_116
      · refine lv_iload hx hb dX5_canCome_71 (lv_at hl 4 rfl) ?_
        refine w_ifeq_b (tgt := 105) hx hb dX5_canCome_73 (by decide) (fun c_9 => ?_) (fun c_9 => ?_)
        · refine lv_iconst (v := nI 0) hx hb dX5_canCome_105 (by decide) ?_
          refine lv_istore (lv' := [(4, .int (nI (0))), (0, .ref (a0)), (1, .int (nI (i))), (2, .int (nI (gN u.2.2 74 (0) (i)))), (3, .int (nI (gN u.2.2 76 (0) (i)))), (5, .int (nI (i_4)))]) hx hb dX5_canCome_106 hl (by decide) rfl (fun ls hl => ?_)
          refine lv_iinc (v := nI (i_4 + 1)) (lv' := [(5, .int (nI (i_4 + 1))), (4, .int (nI (0))), (0, .ref (a0)), (1, .int (nI (i))), (2, .int (nI (gN u.2.2 74 (0) (i)))), (3, .int (nI (gN u.2.2 76 (0) (i))))]) hx hb dX5_canCome_108 hl (k := 5) rfl (nI_add _ _) (by decide) rfl (fun ls hl => ?_)
          refine lv_goto (tgt := 62) hx hb dX5_canCome_111 (by decide) ?_
          have ea_10 : (decide (gN u.2.2 68 0 (4 * (gN u.2.2 74 0 i) + gN u.2.2 56 0 (gN u.2.2 76 0 i)) + 1 = gN u.2.2 59 0 (gN u.2.2 76 0 i)) && allN (mCanQ u.2.2 (gN u.2.2 74 0 i) (gN u.2.2 76 0 i)) (i_4 + 1)) = false := by first | (simp [allN_s, anyN_s, cntN_s, sumL, mCanQ, c_8, c_9] <;> omega) | grind [allN_s, anyN_s, cntN_s, sumL, mCanQ]
          exact ih (H, locs, ls) (by omega) ⟨trivial, hB, by show lv_has ls 6 [(0, .ref (a0)), (1, .int (nI (i))), (2, .int (nI (gN u.2.2 74 (0) (i)))), (3, .int (nI (gN u.2.2 76 (0) (i)))), (4, .int (b2i ((decide (gN u.2.2 68 0 (4 * (gN u.2.2 74 0 i) + gN u.2.2 56 0 (gN u.2.2 76 0 i)) + 1 = gN u.2.2 59 0 (gN u.2.2 76 0 i)) && allN (mCanQ u.2.2 (gN u.2.2 74 0 i) (gN u.2.2 76 0 i)) (i_4 + 1))))), (5, .int (nI (i_4 + 1)))]; rw [ea_10]; exact lv_sub hl [2, 3, 4, 5, 1, 0] rfl⟩
        · refine lv_aload_n hx hb dX5_canCome_76 rfl (lv_at hl 0 rfl) ?_
          refine w_get (v := .ref (sA u 39 0)) (fk := 18) hF hB ha0 (cn_20 env u (0)) rfl in_X5 (by decide) tw_3_113 rfl rfl dX5_canCome_77 ?_
          refine lv_iconst (v := nI 4) hx hb dX5_canCome_80 (by decide) ?_
          refine lv_iload_n hx hb dX5_canCome_81 rfl (lv_at hl 2 rfl) ?_
          refine w_imul_n hx hb dX5_canCome_82 ?_
          refine lv_iload hx hb dX5_canCome_83 (lv_at hl 5 rfl) ?_
          refine w_iadd_n hx hb dX5_canCome_85 ?_
          refine w_iald (v := .int (nI (gN u.2.2 68 (0) ((4 * (gN u.2.2 74 (0) (i))) + i_4)))) hF hB ⟨hM 39 (by decide), rfl⟩ (cn_39 env u (0)) (by have := hV.to (i); omega) rfl (by decide) dX5_canCome_86 ?_
          refine lv_aload_n hx hb dX5_canCome_87 rfl (lv_at hl 0 rfl) ?_
          refine w_get (v := .ref (sA u 29 0)) (fk := 8) hF hB ha0 (cn_20 env u (0)) rfl in_X5 (by decide) tw_3_103 rfl rfl dX5_canCome_88 ?_
          refine lv_iconst (v := nI 4) hx hb dX5_canCome_91 (by decide) ?_
          refine lv_iload_n hx hb dX5_canCome_92 rfl (lv_at hl 3 rfl) ?_
          refine w_imul_n hx hb dX5_canCome_93 ?_
          refine lv_iload hx hb dX5_canCome_94 (lv_at hl 5 rfl) ?_
          refine w_iadd_n hx hb dX5_canCome_96 ?_
          refine w_iald (v := .int (nI (gN u.2.2 58 (0) ((4 * (gN u.2.2 76 (0) (i))) + i_4)))) hF hB ⟨hM 29 (by decide), rfl⟩ (cn_29 env u (0)) (by have := hV.of (i); omega) rfl (by decide) dX5_canCome_97 ?_
          refine w_iclt_n (tgt := 105) (by have := hNm 68 (0) ((4 * (gN u.2.2 74 (0) (i))) + i_4); have := hNm 74 (0) (i); omega) (by have := hNm 58 (0) ((4 * (gN u.2.2 76 (0) (i))) + i_4); have := hNm 76 (0) (i); omega) hx hb dX5_canCome_98 (by decide) (fun c_11 => ?_) (fun c_11 => ?_)
          · refine lv_iconst (v := nI 0) hx hb dX5_canCome_105 (by decide) ?_
            refine lv_istore (lv' := [(4, .int (nI (0))), (0, .ref (a0)), (1, .int (nI (i))), (2, .int (nI (gN u.2.2 74 (0) (i)))), (3, .int (nI (gN u.2.2 76 (0) (i)))), (5, .int (nI (i_4)))]) hx hb dX5_canCome_106 hl (by decide) rfl (fun ls hl => ?_)
            refine lv_iinc (v := nI (i_4 + 1)) (lv' := [(5, .int (nI (i_4 + 1))), (4, .int (nI (0))), (0, .ref (a0)), (1, .int (nI (i))), (2, .int (nI (gN u.2.2 74 (0) (i)))), (3, .int (nI (gN u.2.2 76 (0) (i))))]) hx hb dX5_canCome_108 hl (k := 5) rfl (nI_add _ _) (by decide) rfl (fun ls hl => ?_)
            refine lv_goto (tgt := 62) hx hb dX5_canCome_111 (by decide) ?_
            have ea_12 : (decide (gN u.2.2 68 0 (4 * (gN u.2.2 74 0 i) + gN u.2.2 56 0 (gN u.2.2 76 0 i)) + 1 = gN u.2.2 59 0 (gN u.2.2 76 0 i)) && allN (mCanQ u.2.2 (gN u.2.2 74 0 i) (gN u.2.2 76 0 i)) (i_4 + 1)) = false := by first | (simp [allN_s, anyN_s, cntN_s, sumL, mCanQ, c_8, c_9, c_11] <;> omega) | grind [allN_s, anyN_s, cntN_s, sumL, mCanQ]
            exact ih (H, locs, ls) (by omega) ⟨trivial, hB, by show lv_has ls 6 [(0, .ref (a0)), (1, .int (nI (i))), (2, .int (nI (gN u.2.2 74 (0) (i)))), (3, .int (nI (gN u.2.2 76 (0) (i)))), (4, .int (b2i ((decide (gN u.2.2 68 0 (4 * (gN u.2.2 74 0 i) + gN u.2.2 56 0 (gN u.2.2 76 0 i)) + 1 = gN u.2.2 59 0 (gN u.2.2 76 0 i)) && allN (mCanQ u.2.2 (gN u.2.2 74 0 i) (gN u.2.2 76 0 i)) (i_4 + 1))))), (5, .int (nI (i_4 + 1)))]; rw [ea_12]; exact lv_sub hl [2, 3, 4, 5, 1, 0] rfl⟩
          · refine lv_iconst (v := nI 1) hx hb dX5_canCome_101 (by decide) ?_
            refine lv_goto (tgt := 106) hx hb dX5_canCome_102 (by decide) ?_
            refine lv_istore (lv' := [(4, .int (nI (1))), (0, .ref (a0)), (1, .int (nI (i))), (2, .int (nI (gN u.2.2 74 (0) (i)))), (3, .int (nI (gN u.2.2 76 (0) (i)))), (5, .int (nI (i_4)))]) hx hb dX5_canCome_106 hl (by decide) rfl (fun ls hl => ?_)
            refine lv_iinc (v := nI (i_4 + 1)) (lv' := [(5, .int (nI (i_4 + 1))), (4, .int (nI (1))), (0, .ref (a0)), (1, .int (nI (i))), (2, .int (nI (gN u.2.2 74 (0) (i)))), (3, .int (nI (gN u.2.2 76 (0) (i))))]) hx hb dX5_canCome_108 hl (k := 5) rfl (nI_add _ _) (by decide) rfl (fun ls hl => ?_)
            refine lv_goto (tgt := 62) hx hb dX5_canCome_111 (by decide) ?_
            have ea_13 : (decide (gN u.2.2 68 0 (4 * (gN u.2.2 74 0 i) + gN u.2.2 56 0 (gN u.2.2 76 0 i)) + 1 = gN u.2.2 59 0 (gN u.2.2 76 0 i)) && allN (mCanQ u.2.2 (gN u.2.2 74 0 i) (gN u.2.2 76 0 i)) (i_4 + 1)) = true := by first | (simp [allN_s, anyN_s, cntN_s, sumL, mCanQ, c_8, c_9, c_11] <;> omega) | grind [allN_s, anyN_s, cntN_s, sumL, mCanQ]
            exact ih (H, locs, ls) (by omega) ⟨trivial, hB, by show lv_has ls 6 [(0, .ref (a0)), (1, .int (nI (i))), (2, .int (nI (gN u.2.2 74 (0) (i)))), (3, .int (nI (gN u.2.2 76 (0) (i)))), (4, .int (b2i ((decide (gN u.2.2 68 0 (4 * (gN u.2.2 74 0 i) + gN u.2.2 56 0 (gN u.2.2 76 0 i)) + 1 = gN u.2.2 59 0 (gN u.2.2 76 0 i)) && allN (mCanQ u.2.2 (gN u.2.2 74 0 i) (gN u.2.2 76 0 i)) (i_4 + 1))))), (5, .int (nI (i_4 + 1)))]; rw [ea_13]; exact lv_sub hl [2, 3, 4, 5, 1, 0] rfl⟩
    · have hc_14 := (nI_is_sub1 (hNm 68 0 _) (hNm 59 0 _)).mp c_2
      refine lv_iconst (v := nI 1) hx hb dX5_canCome_52 (by decide) ?_
      refine lv_goto (tgt := 57) hx hb dX5_canCome_53 (by decide) ?_
      refine lv_istore (lv' := [(4, .int (nI (1))), (3, .int (nI (gN u.2.2 76 (0) (i)))), (2, .int (nI (gN u.2.2 74 (0) (i)))), (0, .ref (a0)), (1, .int (nI (i)))]) hx hb dX5_canCome_57 hl (by decide) rfl (fun ls hl => ?_)
      refine lv_iconst (v := nI 0) hx hb dX5_canCome_59 (by decide) ?_
      refine lv_istore (lv' := [(5, .int (nI (0))), (4, .int (nI (1))), (3, .int (nI (gN u.2.2 76 (0) (i)))), (2, .int (nI (gN u.2.2 74 (0) (i)))), (0, .ref (a0)), (1, .int (nI (i)))]) hx hb dX5_canCome_60 hl (by decide) rfl (fun ls hl => ?_)
      have ea_16 : (decide (gN u.2.2 68 0 (4 * (gN u.2.2 74 0 i) + gN u.2.2 56 0 (gN u.2.2 76 0 i)) + 1 = gN u.2.2 59 0 (gN u.2.2 76 0 i)) && allN (mCanQ u.2.2 (gN u.2.2 74 0 i) (gN u.2.2 76 0 i)) (0)) = true := by simp [allN_0, anyN_0, mCanQ, c_1, hc_14] <;> omega
      refine wloopH (σ := Heap × List Loc × Array Slot) (G := fun x => W p l e _ s m _ below meth c x.1 x.2.1 _ _ _ (F0 m 62 x.2.2 [])) (P := fun i_15 x => (True) ∧ Bd env s0 X u s x.1 x.2.1 ∧ lv_has x.2.2 6 [(0, .ref (a0)), (1, .int (nI (i))), (2, .int (nI (gN u.2.2 74 (0) (i)))), (3, .int (nI (gN u.2.2 76 (0) (i)))), (4, .int (b2i ((decide (gN u.2.2 68 0 (4 * (gN u.2.2 74 0 i) + gN u.2.2 56 0 (gN u.2.2 76 0 i)) + 1 = gN u.2.2 59 0 (gN u.2.2 76 0 i)) && allN (mCanQ u.2.2 (gN u.2.2 74 0 i) (gN u.2.2 76 0 i)) (i_15))))), (5, .int (nI (i_15)))]) (N := gN u.2.2 50 0 0) ?_ 0 (_, _, ls) (Nat.zero_le _) ⟨trivial, hB, by show lv_has ls 6 [(0, .ref (a0)), (1, .int (nI (i))), (2, .int (nI (gN u.2.2 74 (0) (i)))), (3, .int (nI (gN u.2.2 76 (0) (i)))), (4, .int (b2i ((decide (gN u.2.2 68 0 (4 * (gN u.2.2 74 0 i) + gN u.2.2 56 0 (gN u.2.2 76 0 i)) + 1 = gN u.2.2 59 0 (gN u.2.2 76 0 i)) && allN (mCanQ u.2.2 (gN u.2.2 74 0 i) (gN u.2.2 76 0 i)) (0))))), (5, .int (nI (0)))]; rw [ea_16]; exact lv_sub hl [4, 5, 3, 2, 1, 0] rfl⟩
      rintro i_15 ⟨H, locs, ls⟩ hi_17 ⟨hv_18, hB, hl⟩ ih
      replace hB : Bd env s0 X u s H locs := hB
      replace hl : lv_has ls 6 [(0, .ref (a0)), (1, .int (nI (i))), (2, .int (nI (gN u.2.2 74 (0) (i)))), (3, .int (nI (gN u.2.2 76 (0) (i)))), (4, .int (b2i ((decide (gN u.2.2 68 0 (4 * (gN u.2.2 74 0 i) + gN u.2.2 56 0 (gN u.2.2 76 0 i)) + 1 = gN u.2.2 59 0 (gN u.2.2 76 0 i)) && allN (mCanQ u.2.2 (gN u.2.2 74 0 i) (gN u.2.2 76 0 i)) (i_15))))), (5, .int (nI (i_15)))] := hl
      show W p l e _ s m _ below meth c H locs _ _ _ (F0 m 62 ls [])
      have := hNm 50 0 0
      have := hV.nst
      refine lv_iload hx hb dX5_canCome_62 (lv_at hl 5 rfl) ?_
      refine lv_aload_n hx hb dX5_canCome_64 rfl (lv_at hl 0 rfl) ?_
      refine w_get (v := .int (nI (gN u.2.2 50 (0) (0)))) (fk := 0) hF hB ha0 (cn_20 env u (0)) rfl in_X5 (by decide) tw_3_95 rfl rfl dX5_canCome_65 ?_
      refine w_icge_n (tgt := 114) (by omega) (by have := hNm 50 (0) (0); omega) hx hb dX5_canCome_68 (by decide) (fun c_19 => ?_) (fun c_19 => ?_)
      · refine lv_iload hx hb dX5_canCome_114 (lv_at hl 4 rfl) ?_
        exact w_zret (v := b2i ((decide (gN u.2.2 68 0 (4 * (gN u.2.2 74 0 i) + gN u.2.2 56 0 (gN u.2.2 76 0 i)) + 1 = gN u.2.2 59 0 (gN u.2.2 76 0 i)) && allN (mCanQ u.2.2 (gN u.2.2 74 0 i) (gN u.2.2 76 0 i)) (i_15)))) hF hr (b2i_nar _) hlocks hB (⟨rfl, by rw [show i_15 = gN u.2.2 50 0 0 by omega]; simp [mCanCome, mCanC, c_1]⟩) dX5_canCome_116
      · refine lv_iload hx hb dX5_canCome_71 (lv_at hl 4 rfl) ?_
        refine w_ifeq_b (tgt := 105) hx hb dX5_canCome_73 (by decide) (fun c_20 => ?_) (fun c_20 => ?_)
        · refine lv_iconst (v := nI 0) hx hb dX5_canCome_105 (by decide) ?_
          refine lv_istore (lv' := [(4, .int (nI (0))), (0, .ref (a0)), (1, .int (nI (i))), (2, .int (nI (gN u.2.2 74 (0) (i)))), (3, .int (nI (gN u.2.2 76 (0) (i)))), (5, .int (nI (i_15)))]) hx hb dX5_canCome_106 hl (by decide) rfl (fun ls hl => ?_)
          refine lv_iinc (v := nI (i_15 + 1)) (lv' := [(5, .int (nI (i_15 + 1))), (4, .int (nI (0))), (0, .ref (a0)), (1, .int (nI (i))), (2, .int (nI (gN u.2.2 74 (0) (i)))), (3, .int (nI (gN u.2.2 76 (0) (i))))]) hx hb dX5_canCome_108 hl (k := 5) rfl (nI_add _ _) (by decide) rfl (fun ls hl => ?_)
          refine lv_goto (tgt := 62) hx hb dX5_canCome_111 (by decide) ?_
          have ea_21 : (decide (gN u.2.2 68 0 (4 * (gN u.2.2 74 0 i) + gN u.2.2 56 0 (gN u.2.2 76 0 i)) + 1 = gN u.2.2 59 0 (gN u.2.2 76 0 i)) && allN (mCanQ u.2.2 (gN u.2.2 74 0 i) (gN u.2.2 76 0 i)) (i_15 + 1)) = false := by first | (simp [allN_s, anyN_s, cntN_s, sumL, mCanQ, c_19, c_20] <;> omega) | grind [allN_s, anyN_s, cntN_s, sumL, mCanQ]
          exact ih (H, locs, ls) (by omega) ⟨trivial, hB, by show lv_has ls 6 [(0, .ref (a0)), (1, .int (nI (i))), (2, .int (nI (gN u.2.2 74 (0) (i)))), (3, .int (nI (gN u.2.2 76 (0) (i)))), (4, .int (b2i ((decide (gN u.2.2 68 0 (4 * (gN u.2.2 74 0 i) + gN u.2.2 56 0 (gN u.2.2 76 0 i)) + 1 = gN u.2.2 59 0 (gN u.2.2 76 0 i)) && allN (mCanQ u.2.2 (gN u.2.2 74 0 i) (gN u.2.2 76 0 i)) (i_15 + 1))))), (5, .int (nI (i_15 + 1)))]; rw [ea_21]; exact lv_sub hl [2, 3, 4, 5, 1, 0] rfl⟩
        · refine lv_aload_n hx hb dX5_canCome_76 rfl (lv_at hl 0 rfl) ?_
          refine w_get (v := .ref (sA u 39 0)) (fk := 18) hF hB ha0 (cn_20 env u (0)) rfl in_X5 (by decide) tw_3_113 rfl rfl dX5_canCome_77 ?_
          refine lv_iconst (v := nI 4) hx hb dX5_canCome_80 (by decide) ?_
          refine lv_iload_n hx hb dX5_canCome_81 rfl (lv_at hl 2 rfl) ?_
          refine w_imul_n hx hb dX5_canCome_82 ?_
          refine lv_iload hx hb dX5_canCome_83 (lv_at hl 5 rfl) ?_
          refine w_iadd_n hx hb dX5_canCome_85 ?_
          refine w_iald (v := .int (nI (gN u.2.2 68 (0) ((4 * (gN u.2.2 74 (0) (i))) + i_15)))) hF hB ⟨hM 39 (by decide), rfl⟩ (cn_39 env u (0)) (by have := hV.to (i); omega) rfl (by decide) dX5_canCome_86 ?_
          refine lv_aload_n hx hb dX5_canCome_87 rfl (lv_at hl 0 rfl) ?_
          refine w_get (v := .ref (sA u 29 0)) (fk := 8) hF hB ha0 (cn_20 env u (0)) rfl in_X5 (by decide) tw_3_103 rfl rfl dX5_canCome_88 ?_
          refine lv_iconst (v := nI 4) hx hb dX5_canCome_91 (by decide) ?_
          refine lv_iload_n hx hb dX5_canCome_92 rfl (lv_at hl 3 rfl) ?_
          refine w_imul_n hx hb dX5_canCome_93 ?_
          refine lv_iload hx hb dX5_canCome_94 (lv_at hl 5 rfl) ?_
          refine w_iadd_n hx hb dX5_canCome_96 ?_
          refine w_iald (v := .int (nI (gN u.2.2 58 (0) ((4 * (gN u.2.2 76 (0) (i))) + i_15)))) hF hB ⟨hM 29 (by decide), rfl⟩ (cn_29 env u (0)) (by have := hV.of (i); omega) rfl (by decide) dX5_canCome_97 ?_
          refine w_iclt_n (tgt := 105) (by have := hNm 68 (0) ((4 * (gN u.2.2 74 (0) (i))) + i_15); have := hNm 74 (0) (i); omega) (by have := hNm 58 (0) ((4 * (gN u.2.2 76 (0) (i))) + i_15); have := hNm 76 (0) (i); omega) hx hb dX5_canCome_98 (by decide) (fun c_22 => ?_) (fun c_22 => ?_)
          · refine lv_iconst (v := nI 0) hx hb dX5_canCome_105 (by decide) ?_
            refine lv_istore (lv' := [(4, .int (nI (0))), (0, .ref (a0)), (1, .int (nI (i))), (2, .int (nI (gN u.2.2 74 (0) (i)))), (3, .int (nI (gN u.2.2 76 (0) (i)))), (5, .int (nI (i_15)))]) hx hb dX5_canCome_106 hl (by decide) rfl (fun ls hl => ?_)
            refine lv_iinc (v := nI (i_15 + 1)) (lv' := [(5, .int (nI (i_15 + 1))), (4, .int (nI (0))), (0, .ref (a0)), (1, .int (nI (i))), (2, .int (nI (gN u.2.2 74 (0) (i)))), (3, .int (nI (gN u.2.2 76 (0) (i))))]) hx hb dX5_canCome_108 hl (k := 5) rfl (nI_add _ _) (by decide) rfl (fun ls hl => ?_)
            refine lv_goto (tgt := 62) hx hb dX5_canCome_111 (by decide) ?_
            have ea_23 : (decide (gN u.2.2 68 0 (4 * (gN u.2.2 74 0 i) + gN u.2.2 56 0 (gN u.2.2 76 0 i)) + 1 = gN u.2.2 59 0 (gN u.2.2 76 0 i)) && allN (mCanQ u.2.2 (gN u.2.2 74 0 i) (gN u.2.2 76 0 i)) (i_15 + 1)) = false := by first | (simp [allN_s, anyN_s, cntN_s, sumL, mCanQ, c_19, c_20, c_22] <;> omega) | grind [allN_s, anyN_s, cntN_s, sumL, mCanQ]
            exact ih (H, locs, ls) (by omega) ⟨trivial, hB, by show lv_has ls 6 [(0, .ref (a0)), (1, .int (nI (i))), (2, .int (nI (gN u.2.2 74 (0) (i)))), (3, .int (nI (gN u.2.2 76 (0) (i)))), (4, .int (b2i ((decide (gN u.2.2 68 0 (4 * (gN u.2.2 74 0 i) + gN u.2.2 56 0 (gN u.2.2 76 0 i)) + 1 = gN u.2.2 59 0 (gN u.2.2 76 0 i)) && allN (mCanQ u.2.2 (gN u.2.2 74 0 i) (gN u.2.2 76 0 i)) (i_15 + 1))))), (5, .int (nI (i_15 + 1)))]; rw [ea_23]; exact lv_sub hl [2, 3, 4, 5, 1, 0] rfl⟩
          · refine lv_iconst (v := nI 1) hx hb dX5_canCome_101 (by decide) ?_
            refine lv_goto (tgt := 106) hx hb dX5_canCome_102 (by decide) ?_
            refine lv_istore (lv' := [(4, .int (nI (1))), (0, .ref (a0)), (1, .int (nI (i))), (2, .int (nI (gN u.2.2 74 (0) (i)))), (3, .int (nI (gN u.2.2 76 (0) (i)))), (5, .int (nI (i_15)))]) hx hb dX5_canCome_106 hl (by decide) rfl (fun ls hl => ?_)
            refine lv_iinc (v := nI (i_15 + 1)) (lv' := [(5, .int (nI (i_15 + 1))), (4, .int (nI (1))), (0, .ref (a0)), (1, .int (nI (i))), (2, .int (nI (gN u.2.2 74 (0) (i)))), (3, .int (nI (gN u.2.2 76 (0) (i))))]) hx hb dX5_canCome_108 hl (k := 5) rfl (nI_add _ _) (by decide) rfl (fun ls hl => ?_)
            refine lv_goto (tgt := 62) hx hb dX5_canCome_111 (by decide) ?_
            have ea_24 : (decide (gN u.2.2 68 0 (4 * (gN u.2.2 74 0 i) + gN u.2.2 56 0 (gN u.2.2 76 0 i)) + 1 = gN u.2.2 59 0 (gN u.2.2 76 0 i)) && allN (mCanQ u.2.2 (gN u.2.2 74 0 i) (gN u.2.2 76 0 i)) (i_15 + 1)) = true := by first | (simp [allN_s, anyN_s, cntN_s, sumL, mCanQ, c_19, c_20, c_22] <;> omega) | grind [allN_s, anyN_s, cntN_s, sumL, mCanQ]
            exact ih (H, locs, ls) (by omega) ⟨trivial, hB, by show lv_has ls 6 [(0, .ref (a0)), (1, .int (nI (i))), (2, .int (nI (gN u.2.2 74 (0) (i)))), (3, .int (nI (gN u.2.2 76 (0) (i)))), (4, .int (b2i ((decide (gN u.2.2 68 0 (4 * (gN u.2.2 74 0 i) + gN u.2.2 56 0 (gN u.2.2 76 0 i)) + 1 = gN u.2.2 59 0 (gN u.2.2 76 0 i)) && allN (mCanQ u.2.2 (gN u.2.2 74 0 i) (gN u.2.2 76 0 i)) (i_15 + 1))))), (5, .int (nI (i_15 + 1)))]; rw [ea_24]; exact lv_sub hl [2, 3, 4, 5, 1, 0] rfl⟩
  · refine lv_iconst (v := nI 1) hx hb dX5_canCome_10 (by decide) ?_
    exact w_zret (v := nI 1) hF hr rfl hlocks hB (⟨rfl, b2i_c1 (by simp [mCanCome, c_1])⟩) dX5_canCome_11
set_option maxHeartbeats 4000000 in
set_option maxRecDepth 100000 in
theorem c_X5_send (l : Launch) (env : Ev) (s0 : Nat) (X : va_W) (u : St) (a0 : Nat) (_xa0 : Nat) (ha0 : At u 20 (0) a0) (kd : Nat) (to : Nat) (fr : Nat) (t : Nat) (hM : MI u) (hV : MV u.2.2) (hNm : Nb u.2.2) (hm : gN u.2.2 72 0 0 < 2400) (hk : kd < 100) (hto : to < 4) (hfr : fr < 4) (ht : t < 150) : Met l yX5_send [Cond.code yX5_send cX5_send 5 none] { frames := 0, cells := 0, slots := 0, locals := 0 } (va_Pc [.ref (a0), .int (nI (kd)), .int (nI (to)), .int (nI (fr)), .int (nI (t))] (Pr env s0 X u)) (va_Qv (fun u' => u' = wM u (mSend u.2.2 (kd) (to) (fr) (t))) (Po env s0 X) (fun q => s0 ≤ q)) 0 0 (fun q => s0 ≤ q) := by
  refine Met.ofW (cc := cX5_send) (maxL := 5) (ret := none) (by decide) rfl ?_
  intro p e s m args below meth c s₁ B hml hv
  obtain ⟨rfl, hv⟩ := hv
  have hx := B.exec
  have hb := B.bytes
  have hr := B.returns
  have hts : ∀ ww ∈ TT, ww.before #[.ref (a0), .int (nI (kd)), .int (nI (to)), .int (nI (fr)), .int (nI (t))] s = true := fun ww hw => hv.2.1 ww hw _
  have hown : s.vm.findClass RX5 = some m.cls := findClass_of_methodNamed B.named
  have hlocks := B.notSynchronized
  have hF : CallFix p m c cX5_send 5 s #[.ref (a0), .int (nI (kd)), .int (nI (to)), .int (nI (fr)), .int (nI (t))] TT RX5 := ⟨hx, hb, hml, hown, hts⟩
  have hB := Bd.entry hv
  have hl := lv_entry ([.ref (a0), .int (nI (kd)), .int (nI (to)), .int (nI (fr)), .int (nI (t))]) (n := 5) (Nat.le_of_ble_eq_true rfl)
  rw [lg_entry_eq]
  generalize (lg_sl ([.ref (a0), .int (nI (kd)), .int (nI (to)), .int (nI (fr)), .int (nI (t))]) ++ List.replicate (5 - (lg_sl ([.ref (a0), .int (nI (kd)), .int (nI (to)), .int (nI (fr)), .int (nI (t))])).length) Slot.unset).toArray = ls at hl ⊢
  have hl : lv_has ls 5 [(0, .ref (a0)), (1, .int (nI (kd))), (2, .int (nI (to))), (3, .int (nI (fr))), (4, .int (nI (t)))] := hl
  refine lv_aload_n hx hb dX5_send_0 rfl (lv_at hl 0 rfl) ?_
  refine w_get (v := .ref (sA u 44 0)) (fk := 23) hF hB ha0 (cn_20 env u (0)) rfl in_X5 (by decide) tw_3_118 rfl rfl dX5_send_1 ?_
  refine lv_aload_n hx hb dX5_send_4 rfl (lv_at hl 0 rfl) ?_
  refine w_get (v := .int (nI (gN u.2.2 72 (0) (0)))) (fk := 22) hF hB ha0 (cn_20 env u (0)) rfl in_X5 (by decide) tw_3_117 rfl rfl dX5_send_5 ?_
  refine lv_iload_n hx hb dX5_send_8 rfl (lv_at hl 1 rfl) ?_
  refine w_iast (x := nI (kd)) hF hB ⟨hM 44 (by decide), rfl⟩ (wM u (uN u.2.2 73 (0) (gN u.2.2 72 (0) (0)) (kd))) (cn_44 env u (0)) hm (by decide) rfl rfl (cu_N73 env u (0) (gN u.2.2 72 (0) (0)) (kd)) dX5_send_9 (fun H locs hB => ?_)
  refine lv_aload_n hx hb dX5_send_10 rfl (lv_at hl 0 rfl) ?_
  refine w_get (v := .ref (sA u 45 0)) (fk := 24) hF hB ha0 (cn_20 env (wM u (uN u.2.2 73 (0) (gN u.2.2 72 (0) (0)) (kd))) (0)) rfl in_X5 (by decide) tw_3_119 rfl rfl dX5_send_11 ?_
  refine lv_aload_n hx hb dX5_send_14 rfl (lv_at hl 0 rfl) ?_
  refine w_get (v := .int (nI (gN u.2.2 72 (0) (0)))) (fk := 22) hF hB ha0 (cn_20 env (wM u (uN u.2.2 73 (0) (gN u.2.2 72 (0) (0)) (kd))) (0)) rfl in_X5 (by decide) tw_3_117 rfl rfl dX5_send_15 ?_
  refine lv_iload_n hx hb dX5_send_18 rfl (lv_at hl 2 rfl) ?_
  refine w_iast (x := nI (to)) hF hB ⟨hM 45 (by decide), rfl⟩ (wM u (uN (uN u.2.2 73 (0) (gN u.2.2 72 (0) (0)) (kd)) 74 (0) (gN u.2.2 72 (0) (0)) (to))) (cn_45 env (wM u (uN u.2.2 73 (0) (gN u.2.2 72 (0) (0)) (kd))) (0)) hm (by decide) rfl rfl (cu_N74 env (wM u (uN u.2.2 73 (0) (gN u.2.2 72 (0) (0)) (kd))) (0) (gN u.2.2 72 (0) (0)) (to)) dX5_send_19 (fun H locs hB => ?_)
  refine lv_aload_n hx hb dX5_send_20 rfl (lv_at hl 0 rfl) ?_
  refine w_get (v := .ref (sA u 46 0)) (fk := 25) hF hB ha0 (cn_20 env (wM u (uN (uN u.2.2 73 (0) (gN u.2.2 72 (0) (0)) (kd)) 74 (0) (gN u.2.2 72 (0) (0)) (to))) (0)) rfl in_X5 (by decide) tw_3_120 rfl rfl dX5_send_21 ?_
  refine lv_aload_n hx hb dX5_send_24 rfl (lv_at hl 0 rfl) ?_
  refine w_get (v := .int (nI (gN u.2.2 72 (0) (0)))) (fk := 22) hF hB ha0 (cn_20 env (wM u (uN (uN u.2.2 73 (0) (gN u.2.2 72 (0) (0)) (kd)) 74 (0) (gN u.2.2 72 (0) (0)) (to))) (0)) rfl in_X5 (by decide) tw_3_117 rfl rfl dX5_send_25 ?_
  refine lv_iload_n hx hb dX5_send_28 rfl (lv_at hl 3 rfl) ?_
  refine w_iast (x := nI (fr)) hF hB ⟨hM 46 (by decide), rfl⟩ (wM u (uN (uN (uN u.2.2 73 (0) (gN u.2.2 72 (0) (0)) (kd)) 74 (0) (gN u.2.2 72 (0) (0)) (to)) 75 (0) (gN u.2.2 72 (0) (0)) (fr))) (cn_46 env (wM u (uN (uN u.2.2 73 (0) (gN u.2.2 72 (0) (0)) (kd)) 74 (0) (gN u.2.2 72 (0) (0)) (to))) (0)) hm (by decide) rfl rfl (cu_N75 env (wM u (uN (uN u.2.2 73 (0) (gN u.2.2 72 (0) (0)) (kd)) 74 (0) (gN u.2.2 72 (0) (0)) (to))) (0) (gN u.2.2 72 (0) (0)) (fr)) dX5_send_29 (fun H locs hB => ?_)
  refine lv_aload_n hx hb dX5_send_30 rfl (lv_at hl 0 rfl) ?_
  refine w_get (v := .ref (sA u 47 0)) (fk := 26) hF hB ha0 (cn_20 env (wM u (uN (uN (uN u.2.2 73 (0) (gN u.2.2 72 (0) (0)) (kd)) 74 (0) (gN u.2.2 72 (0) (0)) (to)) 75 (0) (gN u.2.2 72 (0) (0)) (fr))) (0)) rfl in_X5 (by decide) tw_3_121 rfl rfl dX5_send_31 ?_
  refine lv_aload_n hx hb dX5_send_34 rfl (lv_at hl 0 rfl) ?_
  refine w_get (v := .int (nI (gN u.2.2 72 (0) (0)))) (fk := 22) hF hB ha0 (cn_20 env (wM u (uN (uN (uN u.2.2 73 (0) (gN u.2.2 72 (0) (0)) (kd)) 74 (0) (gN u.2.2 72 (0) (0)) (to)) 75 (0) (gN u.2.2 72 (0) (0)) (fr))) (0)) rfl in_X5 (by decide) tw_3_117 rfl rfl dX5_send_35 ?_
  refine lv_iload hx hb dX5_send_38 (lv_at hl 4 rfl) ?_
  refine w_iast (x := nI (t)) hF hB ⟨hM 47 (by decide), rfl⟩ (wM u (uN (uN (uN (uN u.2.2 73 (0) (gN u.2.2 72 (0) (0)) (kd)) 74 (0) (gN u.2.2 72 (0) (0)) (to)) 75 (0) (gN u.2.2 72 (0) (0)) (fr)) 76 (0) (gN u.2.2 72 (0) (0)) (t))) (cn_47 env (wM u (uN (uN (uN u.2.2 73 (0) (gN u.2.2 72 (0) (0)) (kd)) 74 (0) (gN u.2.2 72 (0) (0)) (to)) 75 (0) (gN u.2.2 72 (0) (0)) (fr))) (0)) hm (by decide) rfl rfl (cu_N76 env (wM u (uN (uN (uN u.2.2 73 (0) (gN u.2.2 72 (0) (0)) (kd)) 74 (0) (gN u.2.2 72 (0) (0)) (to)) 75 (0) (gN u.2.2 72 (0) (0)) (fr))) (0) (gN u.2.2 72 (0) (0)) (t)) dX5_send_40 (fun H locs hB => ?_)
  refine lv_aload_n hx hb dX5_send_41 rfl (lv_at hl 0 rfl) ?_
  refine lv_dup hx hb dX5_send_42 rfl ?_
  refine w_get (v := .int (nI (gN u.2.2 72 (0) (0)))) (fk := 22) hF hB ha0 (cn_20 env (wM u (uN (uN (uN (uN u.2.2 73 (0) (gN u.2.2 72 (0) (0)) (kd)) 74 (0) (gN u.2.2 72 (0) (0)) (to)) 75 (0) (gN u.2.2 72 (0) (0)) (fr)) 76 (0) (gN u.2.2 72 (0) (0)) (t))) (0)) rfl in_X5 (by decide) tw_3_117 rfl rfl dX5_send_43 ?_
  refine lv_iconst (v := nI 1) hx hb dX5_send_46 (by decide) ?_
  refine w_iadd_n hx hb dX5_send_47 ?_
  refine w_put (fk := 22) (v := .int (nI ((gN u.2.2 72 (0) (0)) + 1))) (ty := .int) hF hB ha0 (wM u (uN (uN (uN (uN (uN u.2.2 73 (0) (gN u.2.2 72 (0) (0)) (kd)) 74 (0) (gN u.2.2 72 (0) (0)) (to)) 75 (0) (gN u.2.2 72 (0) (0)) (fr)) 76 (0) (gN u.2.2 72 (0) (0)) (t)) 72 (0) (0) ((gN u.2.2 72 (0) (0)) + 1))) (cn_20 env (wM u (uN (uN (uN (uN u.2.2 73 (0) (gN u.2.2 72 (0) (0)) (kd)) 74 (0) (gN u.2.2 72 (0) (0)) (to)) 75 (0) (gN u.2.2 72 (0) (0)) (fr)) 76 (0) (gN u.2.2 72 (0) (0)) (t))) (0)) rfl in_X5 tyX5 tyX5_ok nmX5 (by decide) tw_3_117 rfl rfl (by decide +kernel) rfl rfl (Nat.le_of_ble_eq_true rfl) rfl rfl (cu_N72 env (wM u (uN (uN (uN (uN u.2.2 73 (0) (gN u.2.2 72 (0) (0)) (kd)) 74 (0) (gN u.2.2 72 (0) (0)) (to)) 75 (0) (gN u.2.2 72 (0) (0)) (fr)) 76 (0) (gN u.2.2 72 (0) (0)) (t))) (0) ((gN u.2.2 72 (0) (0)) + 1)) dX5_send_48 (fun H locs hB => ?_)
  exact w_vret hF hr hlocks hB (rfl) dX5_send_51
set_option maxHeartbeats 4000000 in
set_option maxRecDepth 100000 in
theorem c_X5_lock (l : Launch) (env : Ev) (s0 : Nat) (X : va_W) (u : St) (a0 : Nat) (_xa0 : Nat) (ha0 : At u 20 (0) a0) (t : Nat) (w : Nat) (hM : MI u) (hV : MV u.2.2) (hNm : Nb u.2.2) (ht : t < 150) (hw : w < 4) : Met l yX5_lock [Cond.code yX5_lock cX5_lock 4 none] { frames := 0, cells := 0, slots := 0, locals := 0 } (va_Pc [.ref (a0), .int (nI (t)), .int (nI (w))] (Pr env s0 X u)) (va_Qv (fun u' => u' = wM u (mLock u.2.2 (t) (w) (gN u.2.2 52 0 0))) (Po env s0 X) (fun q => s0 ≤ q)) 0 0 (fun q => s0 ≤ q) := by
  refine Met.ofW (cc := cX5_lock) (maxL := 4) (ret := none) (by decide) rfl ?_
  intro p e s m args below meth c s₁ B hml hv
  obtain ⟨rfl, hv⟩ := hv
  have hx := B.exec
  have hb := B.bytes
  have hr := B.returns
  have hts : ∀ ww ∈ TT, ww.before #[.ref (a0), .int (nI (t)), .int (nI (w))] s = true := fun ww hw => hv.2.1 ww hw _
  have hown : s.vm.findClass RX5 = some m.cls := findClass_of_methodNamed B.named
  have hlocks := B.notSynchronized
  have hF : CallFix p m c cX5_lock 4 s #[.ref (a0), .int (nI (t)), .int (nI (w))] TT RX5 := ⟨hx, hb, hml, hown, hts⟩
  have hB := Bd.entry hv
  have hl := lv_entry ([.ref (a0), .int (nI (t)), .int (nI (w))]) (n := 4) (Nat.le_of_ble_eq_true rfl)
  rw [lg_entry_eq]
  generalize (lg_sl ([.ref (a0), .int (nI (t)), .int (nI (w))]) ++ List.replicate (4 - (lg_sl ([.ref (a0), .int (nI (t)), .int (nI (w))])).length) Slot.unset).toArray = ls at hl ⊢
  have hl : lv_has ls 4 [(0, .ref (a0)), (1, .int (nI (t))), (2, .int (nI (w)))] := hl
  refine lv_iconst (v := nI 0) hx hb dX5_lock_0 (by decide) ?_
  refine lv_istore_n (lv' := [(3, .int (nI (0))), (0, .ref (a0)), (1, .int (nI (t))), (2, .int (nI (w)))]) hx hb dX5_lock_1 rfl hl (by decide) rfl (fun ls hl => ?_)
  refine wloopH (σ := Heap × List Loc × Array Slot) (G := fun x => W p l e _ s m _ below meth c x.1 x.2.1 _ _ _ (F0 m 2 x.2.2 [])) (P := fun i_1 x => (True) ∧ Bd env s0 X (wM u (mLock u.2.2 t w i_1)) s x.1 x.2.1 ∧ lv_has x.2.2 4 [(0, .ref (a0)), (1, .int (nI (t))), (2, .int (nI (w))), (3, .int (nI (i_1)))]) (N := gN u.2.2 52 0 0) ?_ 0 (_, _, ls) (Nat.zero_le _) ⟨trivial, hB, lv_sub hl [1, 2, 3, 0] rfl⟩
  rintro i_1 ⟨H, locs, ls⟩ hi_2 ⟨hv_3, hB, hl⟩ ih
  replace hB : Bd env s0 X (wM u (mLock u.2.2 t w i_1)) s H locs := hB
  replace hl : lv_has ls 4 [(0, .ref (a0)), (1, .int (nI (t))), (2, .int (nI (w))), (3, .int (nI (i_1)))] := hl
  show W p l e _ s m _ below meth c H locs _ _ _ (F0 m 2 ls [])
  have := hNm 52 0 0
  have := hV.nth
  have hV_4 : MV (mLock u.2.2 t w i_1) := MV.ofN (mLock_N _ _ _ _) hV
  have hNm_5 : Nb (mLock u.2.2 t w i_1) := Nb.ofN (mLock_N _ _ _ _) hNm
  refine lv_iload_n hx hb dX5_lock_2 rfl (lv_at hl 3 rfl) ?_
  refine lv_aload_n hx hb dX5_lock_3 rfl (lv_at hl 0 rfl) ?_
  refine w_get (v := .int (nI (gN (mLock u.2.2 t w i_1) 52 (0) (0)))) (fk := 2) hF hB ha0 (cn_20 env (wM u (mLock u.2.2 t w i_1)) (0)) rfl in_X5 (by decide) tw_3_97 rfl rfl dX5_lock_4 ?_
  refine w_icge_n (tgt := 52) (by omega) (by have := hNm_5 52 (0) (0); omega) hx hb dX5_lock_7 (by decide) (fun c_6 => ?_) (fun c_6 => ?_)
  · rw [mLock_N] at c_6
    exact w_vret hF hr hlocks hB (by rw [show i_1 = gN u.2.2 52 0 0 by omega]) dX5_lock_52
  · rw [mLock_N] at c_6
    refine lv_aload_n hx hb dX5_lock_10 rfl (lv_at hl 0 rfl) ?_
    refine w_get (v := .ref (sA u 35 0)) (fk := 14) hF hB ha0 (cn_20 env (wM u (mLock u.2.2 t w i_1)) (0)) rfl in_X5 (by decide) tw_3_109 rfl rfl dX5_lock_11 ?_
    refine lv_bipush (v := nI 12) hx hb dX5_lock_14 (by decide) ?_
    refine lv_iload_n hx hb dX5_lock_16 rfl (lv_at hl 1 rfl) ?_
    refine w_imul_n hx hb dX5_lock_17 ?_
    refine lv_iload_n hx hb dX5_lock_18 rfl (lv_at hl 3 rfl) ?_
    refine w_iadd_n hx hb dX5_lock_19 ?_
    refine w_zald (v := .int (b2i (gB (mLock u.2.2 t w i_1) 64 (0) ((12 * t) + i_1)))) hF hB ⟨hM 35 (by decide), rfl⟩ (cn_35 env (wM u (mLock u.2.2 t w i_1)) (0)) (by omega) rfl (by decide) dX5_lock_20 ?_
    refine w_ifeq_b (tgt := 46) hx hb dX5_lock_21 (by decide) (fun c_7 => ?_) (fun c_7 => ?_)
    · refine lv_iinc (v := nI (i_1 + 1)) (lv' := [(3, .int (nI (i_1 + 1))), (0, .ref (a0)), (1, .int (nI (t))), (2, .int (nI (w)))]) hx hb dX5_lock_46 hl (k := 3) rfl (nI_add _ _) (by decide) rfl (fun ls hl => ?_)
      refine lv_goto (tgt := 2) hx hb dX5_lock_49 (by decide) ?_
      have em_8 : (mLock u.2.2 t w (i_1 + 1)) = (mLock u.2.2 t w i_1) := by first | rfl | simp [mLock, c_6, c_7]
      exact ih (H, locs, ls) (by omega) ⟨trivial, (by rw [em_8]; exact hB), by exact lv_sub hl [1, 2, 3, 0] rfl⟩
    · refine lv_aload_n hx hb dX5_lock_24 rfl (lv_at hl 0 rfl) ?_
      refine w_get (v := .ref (sA u 24 0)) (fk := 3) hF hB ha0 (cn_20 env (wM u (mLock u.2.2 t w i_1)) (0)) rfl in_X5 (by decide) tw_3_98 rfl rfl dX5_lock_25 ?_
      refine lv_iload_n hx hb dX5_lock_28 rfl (lv_at hl 3 rfl) ?_
      refine w_iald (v := .int (nI (gN (mLock u.2.2 t w i_1) 53 (0) (i_1)))) hF hB ⟨hM 24 (by decide), rfl⟩ (cn_24 env (wM u (mLock u.2.2 t w i_1)) (0)) (by omega) rfl (by decide) dX5_lock_29 ?_
      refine lv_iload_n hx hb dX5_lock_30 rfl (lv_at hl 2 rfl) ?_
      refine w_icne_n (tgt := 46) (by have := hNm_5 53 (0) (i_1); omega) (by omega) hx hb dX5_lock_31 (by decide) (fun c_9 => ?_) (fun c_9 => ?_)
      · refine lv_iinc (v := nI (i_1 + 1)) (lv' := [(3, .int (nI (i_1 + 1))), (0, .ref (a0)), (1, .int (nI (t))), (2, .int (nI (w)))]) hx hb dX5_lock_46 hl (k := 3) rfl (nI_add _ _) (by decide) rfl (fun ls hl => ?_)
        refine lv_goto (tgt := 2) hx hb dX5_lock_49 (by decide) ?_
        have em_10 : (mLock u.2.2 t w (i_1 + 1)) = (mLock u.2.2 t w i_1) := by first | rfl | simp [mLock, c_6, c_7, c_9]
        exact ih (H, locs, ls) (by omega) ⟨trivial, (by rw [em_10]; exact hB), by exact lv_sub hl [1, 2, 3, 0] rfl⟩
      · refine lv_aload_n hx hb dX5_lock_34 rfl (lv_at hl 0 rfl) ?_
        refine w_get (v := .ref (sA u 42 0)) (fk := 21) hF hB ha0 (cn_20 env (wM u (mLock u.2.2 t w i_1)) (0)) rfl in_X5 (by decide) tw_3_116 rfl rfl dX5_lock_35 ?_
        refine lv_bipush (v := nI 12) hx hb dX5_lock_38 (by decide) ?_
        refine lv_iload_n hx hb dX5_lock_40 rfl (lv_at hl 2 rfl) ?_
        refine w_imul_n hx hb dX5_lock_41 ?_
        refine lv_iload_n hx hb dX5_lock_42 rfl (lv_at hl 3 rfl) ?_
        refine w_iadd_n hx hb dX5_lock_43 ?_
        refine lv_iload_n hx hb dX5_lock_44 rfl (lv_at hl 1 rfl) ?_
        refine w_iast (x := nI t) hF hB ⟨hM 42 (by decide), rfl⟩ (wM u (uI (mLock u.2.2 t w i_1) 71 (0) ((12 * w) + i_1) (nI t))) (cn_42 env (wM u (mLock u.2.2 t w i_1)) (0)) (by omega) (by decide) rfl rfl (cu_I71 env (wM u (mLock u.2.2 t w i_1)) (0) ((12 * w) + i_1) (nI t)) dX5_lock_45 (fun H locs hB => ?_)
        refine lv_iinc (v := nI (i_1 + 1)) (lv' := [(3, .int (nI (i_1 + 1))), (0, .ref (a0)), (1, .int (nI (t))), (2, .int (nI (w)))]) hx hb dX5_lock_46 hl (k := 3) rfl (nI_add _ _) (by decide) rfl (fun ls hl => ?_)
        refine lv_goto (tgt := 2) hx hb dX5_lock_49 (by decide) ?_
        have em_11 : (mLock u.2.2 t w (i_1 + 1)) = (uI (mLock u.2.2 t w i_1) 71 (0) ((12 * w) + i_1) (nI t)) := by first | rfl | simp [mLock, c_6, c_7, c_9]
        exact ih (H, locs, ls) (by omega) ⟨trivial, (by rw [em_11]; exact hB), by exact lv_sub hl [1, 2, 3, 0] rfl⟩
set_option maxHeartbeats 4000000 in
set_option maxRecDepth 100000 in
theorem c_X5_unlock (l : Launch) (env : Ev) (s0 : Nat) (X : va_W) (u : St) (a0 : Nat) (_xa0 : Nat) (ha0 : At u 20 (0) a0) (t : Nat) (w : Nat) (hM : MI u) (hV : MV u.2.2) (hNm : Nb u.2.2) (ht : t < 150) (hw : w < 4) : Met l yX5_unlock [Cond.code yX5_unlock cX5_unlock 4 none] { frames := 0, cells := 0, slots := 0, locals := 0 } (va_Pc [.ref (a0), .int (nI (t)), .int (nI (w))] (Pr env s0 X u)) (va_Qv (fun u' => u' = wM u (mUnlock u.2.2 (t) (w) (gN u.2.2 52 0 0))) (Po env s0 X) (fun q => s0 ≤ q)) 0 0 (fun q => s0 ≤ q) := by
  refine Met.ofW (cc := cX5_unlock) (maxL := 4) (ret := none) (by decide) rfl ?_
  intro p e s m args below meth c s₁ B hml hv
  obtain ⟨rfl, hv⟩ := hv
  have hx := B.exec
  have hb := B.bytes
  have hr := B.returns
  have hts : ∀ ww ∈ TT, ww.before #[.ref (a0), .int (nI (t)), .int (nI (w))] s = true := fun ww hw => hv.2.1 ww hw _
  have hown : s.vm.findClass RX5 = some m.cls := findClass_of_methodNamed B.named
  have hlocks := B.notSynchronized
  have hF : CallFix p m c cX5_unlock 4 s #[.ref (a0), .int (nI (t)), .int (nI (w))] TT RX5 := ⟨hx, hb, hml, hown, hts⟩
  have hB := Bd.entry hv
  have hl := lv_entry ([.ref (a0), .int (nI (t)), .int (nI (w))]) (n := 4) (Nat.le_of_ble_eq_true rfl)
  rw [lg_entry_eq]
  generalize (lg_sl ([.ref (a0), .int (nI (t)), .int (nI (w))]) ++ List.replicate (4 - (lg_sl ([.ref (a0), .int (nI (t)), .int (nI (w))])).length) Slot.unset).toArray = ls at hl ⊢
  have hl : lv_has ls 4 [(0, .ref (a0)), (1, .int (nI (t))), (2, .int (nI (w)))] := hl
  refine lv_iconst (v := nI 0) hx hb dX5_unlock_0 (by decide) ?_
  refine lv_istore_n (lv' := [(3, .int (nI (0))), (0, .ref (a0)), (1, .int (nI (t))), (2, .int (nI (w)))]) hx hb dX5_unlock_1 rfl hl (by decide) rfl (fun ls hl => ?_)
  refine wloopH (σ := Heap × List Loc × Array Slot) (G := fun x => W p l e _ s m _ below meth c x.1 x.2.1 _ _ _ (F0 m 2 x.2.2 [])) (P := fun i_1 x => (True) ∧ Bd env s0 X (wM u (mUnlock u.2.2 t w i_1)) s x.1 x.2.1 ∧ lv_has x.2.2 4 [(0, .ref (a0)), (1, .int (nI (t))), (2, .int (nI (w))), (3, .int (nI (i_1)))]) (N := gN u.2.2 52 0 0) ?_ 0 (_, _, ls) (Nat.zero_le _) ⟨trivial, hB, lv_sub hl [1, 2, 3, 0] rfl⟩
  rintro i_1 ⟨H, locs, ls⟩ hi_2 ⟨hv_3, hB, hl⟩ ih
  replace hB : Bd env s0 X (wM u (mUnlock u.2.2 t w i_1)) s H locs := hB
  replace hl : lv_has ls 4 [(0, .ref (a0)), (1, .int (nI (t))), (2, .int (nI (w))), (3, .int (nI (i_1)))] := hl
  show W p l e _ s m _ below meth c H locs _ _ _ (F0 m 2 ls [])
  have := hNm 52 0 0
  have := hV.nth
  have hV_4 : MV (mUnlock u.2.2 t w i_1) := MV.ofN (mUnlock_N _ _ _ _) hV
  have hNm_5 : Nb (mUnlock u.2.2 t w i_1) := Nb.ofN (mUnlock_N _ _ _ _) hNm
  refine lv_iload_n hx hb dX5_unlock_2 rfl (lv_at hl 3 rfl) ?_
  refine lv_aload_n hx hb dX5_unlock_3 rfl (lv_at hl 0 rfl) ?_
  refine w_get (v := .int (nI (gN (mUnlock u.2.2 t w i_1) 52 (0) (0)))) (fk := 2) hF hB ha0 (cn_20 env (wM u (mUnlock u.2.2 t w i_1)) (0)) rfl in_X5 (by decide) tw_3_97 rfl rfl dX5_unlock_4 ?_
  refine w_icge_n (tgt := 44) (by omega) (by have := hNm_5 52 (0) (0); omega) hx hb dX5_unlock_7 (by decide) (fun c_6 => ?_) (fun c_6 => ?_)
  · rw [mUnlock_N] at c_6
    exact w_vret hF hr hlocks hB (by rw [show i_1 = gN u.2.2 52 0 0 by omega]) dX5_unlock_44
  · rw [mUnlock_N] at c_6
    refine lv_aload_n hx hb dX5_unlock_10 rfl (lv_at hl 0 rfl) ?_
    refine w_get (v := .ref (sA u 42 0)) (fk := 21) hF hB ha0 (cn_20 env (wM u (mUnlock u.2.2 t w i_1)) (0)) rfl in_X5 (by decide) tw_3_116 rfl rfl dX5_unlock_11 ?_
    refine lv_bipush (v := nI 12) hx hb dX5_unlock_14 (by decide) ?_
    refine lv_iload_n hx hb dX5_unlock_16 rfl (lv_at hl 2 rfl) ?_
    refine w_imul_n hx hb dX5_unlock_17 ?_
    refine lv_iload_n hx hb dX5_unlock_18 rfl (lv_at hl 3 rfl) ?_
    refine w_iadd_n hx hb dX5_unlock_19 ?_
    refine w_iald (v := .int (gI (mUnlock u.2.2 t w i_1) 71 (0) ((12 * w) + i_1))) hF hB ⟨hM 42 (by decide), rfl⟩ (cn_42 env (wM u (mUnlock u.2.2 t w i_1)) (0)) (by omega) rfl (by decide) dX5_unlock_20 ?_
    refine lv_iload_n hx hb dX5_unlock_21 rfl (lv_at hl 1 rfl) ?_
    refine lv_icmp_ne (tgt := 38) hx hb dX5_unlock_22 (by decide) (fun c_7 => ?_) (fun c_7 => ?_)
    · refine lv_iinc (v := nI (i_1 + 1)) (lv' := [(3, .int (nI (i_1 + 1))), (0, .ref (a0)), (1, .int (nI (t))), (2, .int (nI (w)))]) hx hb dX5_unlock_38 hl (k := 3) rfl (nI_add _ _) (by decide) rfl (fun ls hl => ?_)
      refine lv_goto (tgt := 2) hx hb dX5_unlock_41 (by decide) ?_
      have em_8 : (mUnlock u.2.2 t w (i_1 + 1)) = (mUnlock u.2.2 t w i_1) := by first | rfl | simp [mUnlock, c_6, c_7]
      exact ih (H, locs, ls) (by omega) ⟨trivial, (by rw [em_8]; exact hB), by exact lv_sub hl [1, 2, 3, 0] rfl⟩
    · refine lv_aload_n hx hb dX5_unlock_25 rfl (lv_at hl 0 rfl) ?_
      refine w_get (v := .ref (sA u 42 0)) (fk := 21) hF hB ha0 (cn_20 env (wM u (mUnlock u.2.2 t w i_1)) (0)) rfl in_X5 (by decide) tw_3_116 rfl rfl dX5_unlock_26 ?_
      refine lv_bipush (v := nI 12) hx hb dX5_unlock_29 (by decide) ?_
      refine lv_iload_n hx hb dX5_unlock_31 rfl (lv_at hl 2 rfl) ?_
      refine w_imul_n hx hb dX5_unlock_32 ?_
      refine lv_iload_n hx hb dX5_unlock_33 rfl (lv_at hl 3 rfl) ?_
      refine w_iadd_n hx hb dX5_unlock_34 ?_
      refine lv_bipush (v := -4) hx hb dX5_unlock_35 (by decide) ?_
      refine w_iast (x := -4) hF hB ⟨hM 42 (by decide), rfl⟩ (wM u (uI (mUnlock u.2.2 t w i_1) 71 (0) ((12 * w) + i_1) (-4))) (cn_42 env (wM u (mUnlock u.2.2 t w i_1)) (0)) (by omega) (by decide) rfl rfl (cu_I71 env (wM u (mUnlock u.2.2 t w i_1)) (0) ((12 * w) + i_1) (-4)) dX5_unlock_37 (fun H locs hB => ?_)
      refine lv_iinc (v := nI (i_1 + 1)) (lv' := [(3, .int (nI (i_1 + 1))), (0, .ref (a0)), (1, .int (nI (t))), (2, .int (nI (w)))]) hx hb dX5_unlock_38 hl (k := 3) rfl (nI_add _ _) (by decide) rfl (fun ls hl => ?_)
      refine lv_goto (tgt := 2) hx hb dX5_unlock_41 (by decide) ?_
      have em_9 : (mUnlock u.2.2 t w (i_1 + 1)) = (uI (mUnlock u.2.2 t w i_1) 71 (0) ((12 * w) + i_1) (-4)) := by first | rfl | simp [mUnlock, c_6, c_7]
      exact ih (H, locs, ls) (by omega) ⟨trivial, (by rw [em_9]; exact hB), by exact lv_sub hl [1, 2, 3, 0] rfl⟩
end
section
theorem mB2_V {m : Lg} (h : MV m) (t : Nat) : MV (mB2 m t) := h
theorem mB2_Nb {m : Lg} (h : Nb m) {t : Nat} (hh : gN m 68 0 (4 * gN m 56 0 t + gN m 56 0 t) < 1000) : Nb (mB2 m t) := Nb.uN (Nb.uN h (by omega)) (by omega)
theorem mB3_V {m : Lg} (h : MV m) {t : Nat} (ht : t < 150) (hc : gN m 70 0 (gN m 56 0 t) < 150) : MV (mB3 m t) := mComes_V (mB2_V h t) (h.site t) ht hc (fun z => by cases z)
theorem mB3_Nb {m : Lg} (hV : MV m) (h : Nb m) {t : Nat} (ht : t < 150) (hc : gN m 70 0 (gN m 56 0 t) < 150) (hh : gN m 68 0 (4 * gN m 56 0 t + gN m 56 0 t) < 1000) : Nb (mB3 m t) := mComes_Nb (mB2_V hV t) (mB2_Nb h hh) (hV.site t) ht hc hh (fun z => by cases z)
theorem mB3_72 (m : Lg) (t : Nat) : gN (mB3 m t) 72 = gN m 72 := by
  show gN (mComes0 (mB2 m t) (gN m 56 0 t) t) 72 = _
  rw [mComes0_f _ _ _ (by decide) (by decide) (by decide)]; rfl
theorem mB3_50 (m : Lg) (t : Nat) : gN (mB3 m t) 50 = gN m 50 := by
  show gN (mComes0 (mB2 m t) (gN m 56 0 t) t) 50 = _
  rw [mComes0_f _ _ _ (by decide) (by decide) (by decide)]; rfl
theorem mB3_57 (m : Lg) (t : Nat) : gN (mB3 m t) 57 = gN (uN m 57 0 t 2) 57 := by
  show gN (mComes0 (mB2 m t) (gN m 56 0 t) t) 57 = _
  rw [mComes0_f _ _ _ (by decide) (by decide) (by decide)]; rfl
theorem mBecomes_V {m : Lg} (h : MV m) {t : Nat} (ht : t < 150) (hc : gN m 70 0 (gN m 56 0 t) < 150) (hm : gN m 72 0 0 + 4 ≤ 2400) : MV (mBecomes m t) := mSendAll_V (mB3_V h ht hc) (h.site t) ht (by rw [mB3_72]; exact hm) _ h.nst
theorem mBecomes_Nb {m : Lg} (hV : MV m) (h : Nb m) {t : Nat} (ht : t < 150) (hc : gN m 70 0 (gN m 56 0 t) < 150) (hh : gN m 68 0 (4 * gN m 56 0 t + gN m 56 0 t) < 1000) (hm : gN m 72 0 0 + 4 ≤ 2400) : Nb (mBecomes m t) := mSendAll_Nb (mB3_Nb hV h ht hc hh) (hV.site t) ht (by rw [mB3_72]; exact hm) _ hV.nst
/-! refused -/
def mRefL (m : Lg) (t : Nat) : Nat → Lg
  | 0 => m
  | o + 1 => if ¬ o = gN (mRefL m t o) 56 0 t ∧ mWritesAt (mRefL m t o) t o = true then mSend (mRefL m t o) 3 o (gN (mRefL m t o) 56 0 t) t else mRefL m t o
theorem mRefL_s (m : Lg) (t o : Nat) : mRefL m t (o + 1) = if ¬ o = gN (mRefL m t o) 56 0 t ∧ mWritesAt (mRefL m t o) t o = true then mSend (mRefL m t o) 3 o (gN (mRefL m t o) 56 0 t) t else mRefL m t o := rfl
theorem mRefL_f (m : Lg) (t : Nat) {f : Nat} (hf : f < 72) : ∀ o, gN (mRefL m t o) f = gN m f
  | 0 => rfl
  | o + 1 => by unfold mRefL; split; rw [mSend_f _ _ _ _ _ hf]; exact mRefL_f m t hf o; exact mRefL_f m t hf o
theorem mRefL_72 (m : Lg) (t : Nat) : ∀ o, gN (mRefL m t o) 72 0 0 ≤ gN m 72 0 0 + o
  | 0 => Nat.le_refl _
  | o + 1 => by
    have := mRefL_72 m t o
    unfold mRefL; split
    · rw [mSend_72]; omega
    · omega
theorem mRefL_V {m : Lg} (h : MV m) {t : Nat} (ht : t < 150) (hm : gN m 72 0 0 + 4 ≤ 2400) : ∀ o, o ≤ 4 → MV (mRefL m t o)
  | 0, _ => h
  | o + 1, ho => by
    have h2 := mRefL_72 m t o
    have h3 := mRefL_V h ht hm o (by omega)
    unfold mRefL; split
    · exact mSend_V h3 (by omega) (h3.site _) ht (by omega)
    · exact h3
theorem mRefL_Nb {m : Lg} (hV : MV m) (h : Nb m) {t : Nat} (ht : t < 150) (hm : gN m 72 0 0 + 4 ≤ 2400) : ∀ o, o ≤ 4 → Nb (mRefL m t o)
  | 0, _ => h
  | o + 1, ho => by
    have h2 := mRefL_72 m t o
    have h3 := mRefL_Nb hV h ht hm o (by omega)
    have h4 := mRefL_V hV ht hm o (by omega)
    unfold mRefL; split
    · exact mSend_Nb h3 (by omega) (by omega) (h4.site _) ht (by omega)
    · exact h3
def mR2 (m : Lg) (t : Nat) : Lg := mUnlock (uN m 57 0 t 3) t (gN m 56 0 t) (gN m 52 0 0)
def mRefused (m : Lg) (t : Nat) : Lg := if gN m 57 0 t = 1 then mRefL (mR2 m t) t (gN m 50 0 0) else m
theorem mR2_V {m : Lg} (h : MV m) (t : Nat) : MV (mR2 m t) := MV.ofN (mUnlock_N _ _ _ _) (show MV (uN m 57 0 t 3) from h)
theorem mR2_Nb {m : Lg} (h : Nb m) (t : Nat) : Nb (mR2 m t) := Nb.ofN (mUnlock_N _ _ _ _) (Nb.uN h (by omega))
theorem mR2_f (m : Lg) (t : Nat) {f : Nat} (hf : f ≠ 57) : gN (mR2 m t) f = gN m f := by
  unfold mR2
  rw [mUnlock_N]
  show up3 _ 57 _ _ _ f = _
  unfold up3
  rw [if_neg hf]
theorem mRefused_V {m : Lg} (h : MV m) {t : Nat} (ht : t < 150) (hm : gN m 72 0 0 + 4 ≤ 2400) : MV (mRefused m t) := by
  unfold mRefused; split
  · exact mRefL_V (mR2_V h t) ht (by rw [mR2_f m t (by decide)]; exact hm) _ h.nst
  · exact h
theorem mRefused_Nb {m : Lg} (hV : MV m) (h : Nb m) {t : Nat} (ht : t < 150) (hm : gN m 72 0 0 + 4 ≤ 2400) : Nb (mRefused m t) := by
  unfold mRefused; split
  · exact mRefL_Nb (mR2_V hV t) (mR2_Nb h t) ht (by rw [mR2_f m t (by decide)]; exact hm) _ hV.nst
  · exact h
/-! commit -/
def mAskL (m : Lg) (w t : Nat) : Nat → Lg
  | 0 => m
  | o + 1 => if ¬ o = w ∧ mWritesAt (mAskL m w t o) t o = true then uN (mSend (mAskL m w t o) 0 o w t) 62 0 t (gN (mSend (mAskL m w t o) 0 o w t) 62 0 t + 1) else mAskL m w t o
theorem mAskL_s (m : Lg) (w t o : Nat) : mAskL m w t (o + 1) = if ¬ o = w ∧ mWritesAt (mAskL m w t o) t o = true then uN (mSend (mAskL m w t o) 0 o w t) 62 0 t (gN (mSend (mAskL m w t o) 0 o w t) 62 0 t + 1) else mAskL m w t o := rfl
theorem mAskL_f (m : Lg) (w t : Nat) {f : Nat} (hf : f < 72) (h2 : f ≠ 62) : ∀ o, gN (mAskL m w t o) f = gN m f
  | 0 => rfl
  | o + 1 => by
    unfold mAskL; split
    · show up3 _ 62 _ _ _ f = _
      unfold up3
      rw [if_neg h2, mSend_f _ _ _ _ _ hf]; exact mAskL_f m w t hf h2 o
    · exact mAskL_f m w t hf h2 o
theorem mAskL_72 (m : Lg) (w t : Nat) : ∀ o, gN (mAskL m w t o) 72 0 0 ≤ gN m 72 0 0 + o
  | 0 => Nat.le_refl _
  | o + 1 => by
    have := mAskL_72 m w t o
    unfold mAskL; split
    · show gN (mSend (mAskL m w t o) 0 o w t) 72 0 0 ≤ _
      rw [mSend_72]; omega
    · omega
theorem mAskL_62 (m : Lg) (w t : Nat) : ∀ o, gN (mAskL m w t o) 62 0 t ≤ gN m 62 0 t + o
  | 0 => Nat.le_refl _
  | o + 1 => by
    have := mAskL_62 m w t o
    unfold mAskL; split
    · show up3 _ 62 0 t _ 62 0 t ≤ _
      rw [mSend_f _ _ _ _ _ (by decide)]
      simp [up3]; omega
    · omega
theorem mAskL_V {m : Lg} (h : MV m) {w t : Nat} (hw : w < 4) (ht : t < 150) (hm : gN m 72 0 0 + 4 ≤ 2400) : ∀ o, o ≤ 4 → MV (mAskL m w t o)
  | 0, _ => h
  | o + 1, ho => by
    have h2 := mAskL_72 m w t o
    have h3 := mAskL_V h hw ht hm o (by omega)
    unfold mAskL; split
    · exact (show MV (mSend (mAskL m w t o) 0 o w t) from mSend_V h3 (by omega) hw ht (by omega))
    · exact h3
theorem mAskL_Nb {m : Lg} (h : Nb m) {w t : Nat} (hw : w < 4) (ht : t < 150) (hm : gN m 72 0 0 + 4 ≤ 2400) (ha : gN m 62 0 t < 1000) : ∀ o, o ≤ 4 → Nb (mAskL m w t o)
  | 0, _ => h
  | o + 1, ho => by
    have h2 := mAskL_72 m w t o
    have h4 := mAskL_62 m w t o
    have h3 := mAskL_Nb h hw ht hm ha o (by omega)
    unfold mAskL; split
    · exact Nb.uN (mSend_Nb h3 (by omega) (by omega) hw ht (by omega)) (by rw [mSend_f _ _ _ _ _ (by decide)]; omega)
    · exact h3
def mAddQ (m : Lg) (t k : Nat) : Bool := gB m 66 0 (12 * t + k)
def mAwayQ (m : Lg) (t w k : Nat) : Bool := gB m 64 0 (12 * t + k) && !decide (gN m 53 0 k = w)
def mAny (m : Lg) (t : Nat) : Bool := decide (0 < mPlain m t) || anyN (mAddQ m t) (gN m 52 0 0)
def mAway (m : Lg) (t : Nat) : Bool := anyN (mAwayQ m t (gN m 56 0 t)) (gN m 52 0 0)
def mCommit (m : Lg) (t : Nat) : Lg :=
  if mAny m t = false then uN m 57 0 t 2
  else if mAreFree m t (gN m 56 0 t) = false then uN m 57 0 t 3
  else if mAway m t = false then mBecomes m t
  else mAskL (uN (mLock m t (gN m 56 0 t) (gN m 52 0 0)) 57 0 t 1) (gN m 56 0 t) t (gN m 50 0 0)
def mcommit (m : Lg) (v : Int32) : Int32 × Lg := match ix v (gN m 55 0 0) with
  | none => (-1, m)
  | some t => if gN m 57 0 t = 0 then (nI (gN (mCommit m t) 57 0 t), mCommit m t) else (-2, m)
def mabort (m : Lg) (v : Int32) : Int32 × Lg := match ix v (gN m 55 0 0) with
  | none => (-1, m)
  | some t => if gN m 57 0 t = 0 then (nI 1, uN m 57 0 t 3) else (-2, m)
/-! a message comes -/
def mShiftL (m : Lg) (i : Nat) : Nat → Lg
  | 0 => m
  | d + 1 => uN (uN (uN (uN (mShiftL m i d) 73 0 (i + d) (gN (mShiftL m i d) 73 0 (i + d + 1))) 74 0 (i + d) (gN (mShiftL m i d) 74 0 (i + d + 1))) 75 0 (i + d) (gN (mShiftL m i d) 75 0 (i + d + 1))) 76 0 (i + d) (gN (mShiftL m i d) 76 0 (i + d + 1))
theorem mShiftL_f (m : Lg) (i : Nat) {f : Nat} (hf : f < 73) : ∀ d, gN (mShiftL m i d) f = gN m f
  | 0 => rfl
  | d + 1 => by
    show up3 _ 76 _ _ _ f = _
    unfold up3
    rw [if_neg (by omega)]
    show up3 _ 75 _ _ _ f = _
    unfold up3
    rw [if_neg (by omega)]
    show up3 _ 74 _ _ _ f = _
    unfold up3
    rw [if_neg (by omega)]
    show up3 _ 73 _ _ _ f = _
    unfold up3
    rw [if_neg (by omega)]
    exact mShiftL_f m i hf d
theorem mShiftL_V {m : Lg} (h : MV m) (i : Nat) : ∀ d, MV (mShiftL m i d)
  | 0 => h
  | d + 1 => by
    have h1 := mShiftL_V h i d
    exact MV.u76 (MV.u75 (MV.u74 (show MV (uN (mShiftL m i d) 73 0 (i + d) (gN (mShiftL m i d) 73 0 (i + d + 1))) from h1) (h1.to _)) (h1.fr _)) (h1.of _)
theorem mShiftL_Nb {m : Lg} (h : Nb m) (i : Nat) : ∀ d, Nb (mShiftL m i d)
  | 0 => h
  | d + 1 => by
    have h1 := mShiftL_Nb h i d
    exact Nb.uN (Nb.uN (Nb.uN (Nb.uN h1 (h1 _ _ _)) (h1 _ _ _)) (h1 _ _ _)) (h1 _ _ _)
def mTake (m : Lg) (i : Nat) : Lg := mShiftL (uN m 72 0 0 (gN m 72 0 0 - 1)) i (gN m 72 0 0 - 1 - i)
theorem mTake_V {m : Lg} (h : MV m) (i : Nat) : MV (mTake m i) := mShiftL_V (MV.u72 h (by have := h.nms; omega)) i _
theorem mTake_Nb {m : Lg} (h : Nb m) (i : Nat) : Nb (mTake m i) := mShiftL_Nb (Nb.uN h (by have := h 72 0 0; omega)) i _
theorem mTake_f (m : Lg) (i : Nat) {f : Nat} (hf : f < 72) : gN (mTake m i) f = gN m f := by
  unfold mTake
  rw [mShiftL_f _ _ (by omega)]
  show up3 _ 72 _ _ _ f = _
  unfold up3
  rw [if_neg (by omega)]
theorem mTake_72 (m : Lg) (i : Nat) : gN (mTake m i) 72 0 0 = gN m 72 0 0 - 1 := by
  unfold mTake
  rw [mShiftL_f _ _ (by omega)]
  simp [uN, gN, up3]
def mGotAsk (m : Lg) (w fr t : Nat) : Lg := if gB m 63 0 (4 * t + w) = true then m else if mAreFree m t w = true then mSend (mLock m t w (gN m 52 0 0)) 1 fr w t else mSend m 2 fr w t
def mY1 (m : Lg) (t : Nat) : Lg := uN m 61 0 t (gN m 61 0 t + 1)
def mGotYes (m : Lg) (t : Nat) : Lg := if gN m 57 0 t = 1 ∧ gN m 61 0 t + 1 = gN m 62 0 t then mBecomes (mY1 m t) t else mY1 m t
def mGotDrop (m : Lg) (w t : Nat) : Lg := mUnlock (uB m 63 0 (4 * t + w) true) t w (gN m 52 0 0)
def mGot (m : Lg) (kd w fr t : Nat) : Lg :=
  if kd = 0 then mGotAsk m w fr t else if kd = 1 then mGotYes m t else if kd = 2 then mRefused m t else if kd = 3 then mGotDrop m w t else if kd = 4 then mComes m w t false else uN m 60 0 t (gN m 60 0 t + 1)
def mComesNow (m : Lg) (i : Nat) : Lg := mGot (mTake m i) (gN m 73 0 i) (gN m 74 0 i) (gN m 75 0 i) (gN m 76 0 i)
/-- what must hold so that a message can be let in -/
def mOK (m : Lg) (i : Nat) : Prop := gN m 72 0 0 + 4 ≤ 2400 ∧ (∀ j, gN m 68 0 j < 1000) ∧ (∀ j, gN m 60 0 j < 1000) ∧ (∀ j, gN m 61 0 j < 1000) ∧ (gN m 73 0 i = 1 → gN m 57 0 (gN m 76 0 i) = 1 → gN m 70 0 (gN m 56 0 (gN m 76 0 i)) < 150) ∧ (gN m 73 0 i = 4 → gN m 70 0 (gN m 74 0 i) < 150)
theorem mGot_V {m : Lg} (h : MV m) {kd w fr t : Nat} (hw : w < 4) (hfr : fr < 4) (ht : t < 150) (hm : gN m 72 0 0 + 4 ≤ 2400) (h1 : kd = 1 → gN m 57 0 t = 1 → gN m 70 0 (gN m 56 0 t) < 150) (h4 : kd = 4 → gN m 70 0 w < 150) : MV (mGot m kd w fr t) := by
  unfold mGot
  split
  · unfold mGotAsk
    split
    · exact h
    · split
      · exact mSend_V (MV.ofN (mLock_N _ _ _ _) h) hfr hw ht (by rw [mLock_N]; omega)
      · exact mSend_V h hfr hw ht (by omega)
  · split
    · rename_i z
      unfold mGotYes
      split
      · rename_i q
        exact mBecomes_V (show MV (mY1 m t) from h) ht (h1 z q.1) hm
      · exact h
    · split
      · exact mRefused_V h ht hm
      · split
        · exact MV.ofN (mUnlock_N _ _ _ _) (show MV (uB m 63 0 (4 * t + w) true) from h)
        · split
          · rename_i z
            exact mComes_V h hw ht (h4 z) (fun _ => by omega)
          · exact h
theorem mGot_Nb {m : Lg} (hV : MV m) (h : Nb m) {kd w fr t : Nat} (hw : w < 4) (hfr : fr < 4) (ht : t < 150) (hm : gN m 72 0 0 + 4 ≤ 2400) (h1 : kd = 1 → gN m 57 0 t = 1 → gN m 70 0 (gN m 56 0 t) < 150) (h4 : kd = 4 → gN m 70 0 w < 150) (hh : ∀ j, gN m 68 0 j < 1000) (ha : ∀ j, gN m 60 0 j < 1000) (hy : ∀ j, gN m 61 0 j < 1000) : Nb (mGot m kd w fr t) := by
  unfold mGot
  split
  · unfold mGotAsk
    split
    · exact h
    · split
      · exact mSend_Nb (Nb.ofN (mLock_N _ _ _ _) h) (by omega) hfr hw ht (by rw [mLock_N]; omega)
      · exact mSend_Nb h (by omega) hfr hw ht (by omega)
  · split
    · rename_i z
      have hY : Nb (mY1 m t) := Nb.uN h (by have := hy t; omega)
      unfold mGotYes
      split
      · rename_i q
        exact mBecomes_Nb (show MV (mY1 m t) from hV) hY ht (h1 z q.1) (hh _) hm
      · exact hY
    · split
      · exact mRefused_Nb hV h ht hm
      · split
        · exact Nb.ofN (mUnlock_N _ _ _ _) (show Nb (uB m 63 0 (4 * t + w) true) from h)
        · split
          · rename_i z
            exact mComes_Nb hV h hw ht (h4 z) (hh _) (fun _ => by omega)
          · exact Nb.uN h (by have := ha t; omega)
theorem mComesNow_V {m : Lg} (h : MV m) {i : Nat} (hk : mOK m i) : MV (mComesNow m i) := by
  refine mGot_V (mTake_V h i) (h.to i) (h.fr i) (h.of i) (by rw [mTake_72]; have := hk.1; omega) ?_ ?_
  · rw [mTake_f _ _ (by decide), mTake_f _ _ (by decide), mTake_f _ _ (by decide)]; exact hk.2.2.2.2.1
  · rw [mTake_f _ _ (by decide)]; exact hk.2.2.2.2.2
theorem mComesNow_Nb {m : Lg} (hV : MV m) (h : Nb m) {i : Nat} (hk : mOK m i) : Nb (mComesNow m i) := by
  refine mGot_Nb (mTake_V hV i) (mTake_Nb h i) (hV.to i) (hV.fr i) (hV.of i) (by rw [mTake_72]; have := hk.1; omega) ?_ ?_ ?_ ?_ ?_
  · rw [mTake_f _ _ (by decide), mTake_f _ _ (by decide), mTake_f _ _ (by decide)]; exact hk.2.2.2.2.1
  · rw [mTake_f _ _ (by decide)]; exact hk.2.2.2.2.2
  · rw [mTake_f _ _ (by decide)]; exact hk.2.1
  · rw [mTake_f _ _ (by decide)]; exact hk.2.2.1
  · rw [mTake_f _ _ (by decide)]; exact hk.2.2.2.1
end
section
set_option maxHeartbeats 4000000 in
set_option maxRecDepth 100000 in
theorem c_X5_comes (l : Launch) (env : Ev) (s0 : Nat) (X : va_W) (u : St) (a0 : Nat) (_xa0 : Nat) (ha0 : At u 20 (0) a0) (w : Nat) (t : Nat) (own : Bool) (hM : MI u) (hV : MV u.2.2) (hNm : Nb u.2.2) (hw : w < 4) (ht : t < 150) (hc : gN u.2.2 70 0 w < 150) (hh : gN u.2.2 68 0 (4 * w + gN u.2.2 56 0 t) < 1000) (hm : own = false → gN u.2.2 72 0 0 < 2400) : Met l yX5_comes [Cond.code yX5_comes cX5_comes 4 none] { frames := 1, cells := 0, slots := 0, locals := 24 } (va_Pc [.ref (a0), .int (nI (w)), .int (nI (t)), .int (b2i (own))] (Pr env s0 X u)) (va_Qv (fun u' => u' = wM u (mComes u.2.2 (w) (t) (own))) (Po env s0 X) (fun q => s0 ≤ q)) 0 0 (fun q => s0 ≤ q) := by
  refine Met.ofW (cc := cX5_comes) (maxL := 4) (ret := none) (by decide) rfl ?_
  intro p e s m args below meth c s₁ B hml hv
  obtain ⟨rfl, hv⟩ := hv
  have hx := B.exec
  have hb := B.bytes
  have hr := B.returns
  have hts : ∀ ww ∈ TT, ww.before #[.ref (a0), .int (nI (w)), .int (nI (t)), .int (b2i (own))] s = true := fun ww hw => hv.2.1 ww hw _
  have hown : s.vm.findClass RX5 = some m.cls := findClass_of_methodNamed B.named
  have hlocks := B.notSynchronized
  have hF : CallFix p m c cX5_comes 4 s #[.ref (a0), .int (nI (w)), .int (nI (t)), .int (b2i (own))] TT RX5 := ⟨hx, hb, hml, hown, hts⟩
  have hB := Bd.entry hv
  have hl := lv_entry ([.ref (a0), .int (nI (w)), .int (nI (t)), .int (b2i (own))]) (n := 4) (Nat.le_of_ble_eq_true rfl)
  rw [lg_entry_eq]
  generalize (lg_sl ([.ref (a0), .int (nI (w)), .int (nI (t)), .int (b2i (own))]) ++ List.replicate (4 - (lg_sl ([.ref (a0), .int (nI (w)), .int (nI (t)), .int (b2i (own))])).length) Slot.unset).toArray = ls at hl ⊢
  have hl : lv_has ls 4 [(0, .ref (a0)), (1, .int (nI (w))), (2, .int (nI (t))), (3, .int (b2i (own)))] := hl
  refine lv_aload_n hx hb dX5_comes_0 rfl (lv_at hl 0 rfl) ?_
  refine w_get (v := .ref (sA u 39 0)) (fk := 18) hF hB ha0 (cn_20 env u (0)) rfl in_X5 (by decide) tw_3_113 rfl rfl dX5_comes_1 ?_
  refine lv_iconst (v := nI 4) hx hb dX5_comes_4 (by decide) ?_
  refine lv_iload_n hx hb dX5_comes_5 rfl (lv_at hl 1 rfl) ?_
  refine w_imul_n hx hb dX5_comes_6 ?_
  refine lv_aload_n hx hb dX5_comes_7 rfl (lv_at hl 0 rfl) ?_
  refine w_get (v := .ref (sA u 27 0)) (fk := 6) hF hB ha0 (cn_20 env u (0)) rfl in_X5 (by decide) tw_3_101 rfl rfl dX5_comes_8 ?_
  refine lv_iload_n hx hb dX5_comes_11 rfl (lv_at hl 2 rfl) ?_
  refine w_iald (v := .int (nI (gN u.2.2 56 (0) (t)))) hF hB ⟨hM 27 (by decide), rfl⟩ (cn_27 env u (0)) (by omega) rfl (by decide) dX5_comes_12 ?_
  refine w_iadd_n hx hb dX5_comes_13 ?_
  refine lv_dup2_11 hx hb dX5_comes_14 rfl rfl ?_
  refine w_iald (v := .int (nI (gN u.2.2 68 (0) ((4 * w) + (gN u.2.2 56 (0) (t)))))) hF hB ⟨hM 39 (by decide), rfl⟩ (cn_39 env u (0)) (by have := hV.site (t); omega) rfl (by decide) dX5_comes_15 ?_
  refine lv_iconst (v := nI 1) hx hb dX5_comes_16 (by decide) ?_
  refine w_iadd_n hx hb dX5_comes_17 ?_
  refine w_iast (x := nI ((gN u.2.2 68 (0) ((4 * w) + (gN u.2.2 56 (0) (t)))) + 1)) hF hB ⟨hM 39 (by decide), rfl⟩ (wM u (uN u.2.2 68 (0) ((4 * w) + (gN u.2.2 56 (0) (t))) ((gN u.2.2 68 (0) ((4 * w) + (gN u.2.2 56 (0) (t)))) + 1))) (cn_39 env u (0)) (by have := hV.site (t); omega) (by decide) rfl rfl (cu_N68 env u (0) ((4 * w) + (gN u.2.2 56 (0) (t))) ((gN u.2.2 68 (0) ((4 * w) + (gN u.2.2 56 (0) (t)))) + 1)) dX5_comes_18 (fun H locs hB => ?_)
  refine lv_aload_n hx hb dX5_comes_19 rfl (lv_at hl 0 rfl) ?_
  refine w_get (v := .ref (sA u 40 0)) (fk := 19) hF hB ha0 (cn_20 env (wM u (uN u.2.2 68 (0) ((4 * w) + (gN u.2.2 56 (0) (t))) ((gN u.2.2 68 (0) ((4 * w) + (gN u.2.2 56 (0) (t)))) + 1))) (0)) rfl in_X5 (by decide) tw_3_114 rfl rfl dX5_comes_20 ?_
  refine lv_sipush (v := nI 150) hx hb dX5_comes_23 (by decide) ?_
  refine lv_iload_n hx hb dX5_comes_26 rfl (lv_at hl 1 rfl) ?_
  refine w_imul_n hx hb dX5_comes_27 ?_
  refine lv_aload_n hx hb dX5_comes_28 rfl (lv_at hl 0 rfl) ?_
  refine w_get (v := .ref (sA u 41 0)) (fk := 20) hF hB ha0 (cn_20 env (wM u (uN u.2.2 68 (0) ((4 * w) + (gN u.2.2 56 (0) (t))) ((gN u.2.2 68 (0) ((4 * w) + (gN u.2.2 56 (0) (t)))) + 1))) (0)) rfl in_X5 (by decide) tw_3_115 rfl rfl dX5_comes_29 ?_
  refine lv_iload_n hx hb dX5_comes_32 rfl (lv_at hl 1 rfl) ?_
  refine w_iald (v := .int (nI (gN u.2.2 70 (0) (w)))) hF hB ⟨hM 41 (by decide), rfl⟩ (cn_41 env (wM u (uN u.2.2 68 (0) ((4 * w) + (gN u.2.2 56 (0) (t))) ((gN u.2.2 68 (0) ((4 * w) + (gN u.2.2 56 (0) (t)))) + 1))) (0)) (by omega) rfl (by decide) dX5_comes_33 ?_
  refine w_iadd_n hx hb dX5_comes_34 ?_
  refine lv_iload_n hx hb dX5_comes_35 rfl (lv_at hl 2 rfl) ?_
  refine w_iast (x := nI (t)) hF hB ⟨hM 40 (by decide), rfl⟩ (wM u (uN (uN u.2.2 68 (0) ((4 * w) + (gN u.2.2 56 (0) (t))) ((gN u.2.2 68 (0) ((4 * w) + (gN u.2.2 56 (0) (t)))) + 1)) 69 (0) ((150 * w) + (gN u.2.2 70 (0) (w))) (t))) (cn_40 env (wM u (uN u.2.2 68 (0) ((4 * w) + (gN u.2.2 56 (0) (t))) ((gN u.2.2 68 (0) ((4 * w) + (gN u.2.2 56 (0) (t)))) + 1))) (0)) (by have := hV.cm (w); omega) (by decide) rfl rfl (cu_N69 env (wM u (uN u.2.2 68 (0) ((4 * w) + (gN u.2.2 56 (0) (t))) ((gN u.2.2 68 (0) ((4 * w) + (gN u.2.2 56 (0) (t)))) + 1))) (0) ((150 * w) + (gN u.2.2 70 (0) (w))) (t)) dX5_comes_36 (fun H locs hB => ?_)
  refine lv_aload_n hx hb dX5_comes_37 rfl (lv_at hl 0 rfl) ?_
  refine w_get (v := .ref (sA u 41 0)) (fk := 20) hF hB ha0 (cn_20 env (wM u (uN (uN u.2.2 68 (0) ((4 * w) + (gN u.2.2 56 (0) (t))) ((gN u.2.2 68 (0) ((4 * w) + (gN u.2.2 56 (0) (t)))) + 1)) 69 (0) ((150 * w) + (gN u.2.2 70 (0) (w))) (t))) (0)) rfl in_X5 (by decide) tw_3_115 rfl rfl dX5_comes_38 ?_
  refine lv_iload_n hx hb dX5_comes_41 rfl (lv_at hl 1 rfl) ?_
  refine lv_dup2_11 hx hb dX5_comes_42 rfl rfl ?_
  refine w_iald (v := .int (nI (gN u.2.2 70 (0) (w)))) hF hB ⟨hM 41 (by decide), rfl⟩ (cn_41 env (wM u (uN (uN u.2.2 68 (0) ((4 * w) + (gN u.2.2 56 (0) (t))) ((gN u.2.2 68 (0) ((4 * w) + (gN u.2.2 56 (0) (t)))) + 1)) 69 (0) ((150 * w) + (gN u.2.2 70 (0) (w))) (t))) (0)) (by omega) rfl (by decide) dX5_comes_43 ?_
  refine lv_iconst (v := nI 1) hx hb dX5_comes_44 (by decide) ?_
  refine w_iadd_n hx hb dX5_comes_45 ?_
  refine w_iast (x := nI ((gN u.2.2 70 (0) (w)) + 1)) hF hB ⟨hM 41 (by decide), rfl⟩ (wM u (uN (uN (uN u.2.2 68 (0) ((4 * w) + (gN u.2.2 56 (0) (t))) ((gN u.2.2 68 (0) ((4 * w) + (gN u.2.2 56 (0) (t)))) + 1)) 69 (0) ((150 * w) + (gN u.2.2 70 (0) (w))) (t)) 70 (0) (w) ((gN u.2.2 70 (0) (w)) + 1))) (cn_41 env (wM u (uN (uN u.2.2 68 (0) ((4 * w) + (gN u.2.2 56 (0) (t))) ((gN u.2.2 68 (0) ((4 * w) + (gN u.2.2 56 (0) (t)))) + 1)) 69 (0) ((150 * w) + (gN u.2.2 70 (0) (w))) (t))) (0)) (by omega) (by decide) rfl rfl (cu_N70 env (wM u (uN (uN u.2.2 68 (0) ((4 * w) + (gN u.2.2 56 (0) (t))) ((gN u.2.2 68 (0) ((4 * w) + (gN u.2.2 56 (0) (t)))) + 1)) 69 (0) ((150 * w) + (gN u.2.2 70 (0) (w))) (t))) (0) (w) ((gN u.2.2 70 (0) (w)) + 1)) dX5_comes_46 (fun H locs hB => ?_)
  refine lv_aload_n hx hb dX5_comes_47 rfl (lv_at hl 0 rfl) ?_
  refine lv_iload_n hx hb dX5_comes_48 rfl (lv_at hl 2 rfl) ?_
  refine lv_iload_n hx hb dX5_comes_49 rfl (lv_at hl 1 rfl) ?_
  refine w_cv (r_V (As := [.int (nI (t)), .int (nI (w))]) (rest := []) hF hB (c_X5_unlock l env s0 X (wM u (uN (uN (uN u.2.2 68 (0) ((4 * w) + (gN u.2.2 56 (0) (t))) ((gN u.2.2 68 (0) ((4 * w) + (gN u.2.2 56 (0) (t)))) + 1)) 69 (0) ((150 * w) + (gN u.2.2 70 (0) (w))) (t)) 70 (0) (w) ((gN u.2.2 70 (0) (w)) + 1))) (a0) (0) (ha0) (t) (w) hM (MV.u70 (MV.u69 (show MV (uN u.2.2 68 (0) ((4 * w) + (gN u.2.2 56 (0) (t))) ((gN u.2.2 68 (0) ((4 * w) + (gN u.2.2 56 (0) (t)))) + 1)) from hV) (j := (150 * w) + (gN u.2.2 70 (0) (w))) (v := t) (by omega)) (j := w) (v := (gN u.2.2 70 (0) (w)) + 1) (by omega)) (Nb.uN (Nb.uN (Nb.uN hNm (f := 68) (i := 0) (j := (4 * w) + (gN u.2.2 56 (0) (t))) (v := (gN u.2.2 68 (0) ((4 * w) + (gN u.2.2 56 (0) (t)))) + 1) (by have := hNm 68 (0) ((4 * w) + (gN u.2.2 56 (0) (t))); have := hNm 56 (0) (t); omega)) (f := 69) (i := 0) (j := (150 * w) + (gN u.2.2 70 (0) (w))) (v := t) (by omega)) (f := 70) (i := 0) (j := w) (v := (gN u.2.2 70 (0) (w)) + 1) (by have := hNm 70 (0) (w); omega)) ht hw) cv_X5_unlock tw_4_22 ⟨rfl, rfl, by decide, by decide⟩ (hB.recv ha0 (cn_20 env (wM u (uN (uN (uN u.2.2 68 (0) ((4 * w) + (gN u.2.2 56 (0) (t))) ((gN u.2.2 68 (0) ((4 * w) + (gN u.2.2 56 (0) (t)))) + 1)) 69 (0) ((150 * w) + (gN u.2.2 70 (0) (w))) (t)) 70 (0) (w) ((gN u.2.2 70 (0) (w)) + 1))) (0)) rfl) rfl hl.1 rfl (lv_room (by decide)) dX5_comes_50 ⟨Nat.le_of_ble_eq_true rfl, Nat.le_of_ble_eq_true rfl⟩) hB (fun u_3 H locs hq_2 hB => ?_)
  obtain rfl := hq_2
  replace hB : Bd env s0 X (wM u (mUnlock ((uN (uN (uN u.2.2 68 (0) ((4 * w) + (gN u.2.2 56 (0) (t))) ((gN u.2.2 68 (0) ((4 * w) + (gN u.2.2 56 (0) (t)))) + 1)) 69 (0) ((150 * w) + (gN u.2.2 70 (0) (w))) (t)) 70 (0) (w) ((gN u.2.2 70 (0) (w)) + 1))) (t) (w) (gN ((uN (uN (uN u.2.2 68 (0) ((4 * w) + (gN u.2.2 56 (0) (t))) ((gN u.2.2 68 (0) ((4 * w) + (gN u.2.2 56 (0) (t)))) + 1)) 69 (0) ((150 * w) + (gN u.2.2 70 (0) (w))) (t)) 70 (0) (w) ((gN u.2.2 70 (0) (w)) + 1))) 52 0 0))) s H locs := hB
  have hV_4 : MV (mUnlock ((uN (uN (uN u.2.2 68 (0) ((4 * w) + (gN u.2.2 56 (0) (t))) ((gN u.2.2 68 (0) ((4 * w) + (gN u.2.2 56 (0) (t)))) + 1)) 69 (0) ((150 * w) + (gN u.2.2 70 (0) (w))) (t)) 70 (0) (w) ((gN u.2.2 70 (0) (w)) + 1))) (t) (w) (gN ((uN (uN (uN u.2.2 68 (0) ((4 * w) + (gN u.2.2 56 (0) (t))) ((gN u.2.2 68 (0) ((4 * w) + (gN u.2.2 56 (0) (t)))) + 1)) 69 (0) ((150 * w) + (gN u.2.2 70 (0) (w))) (t)) 70 (0) (w) ((gN u.2.2 70 (0) (w)) + 1))) 52 0 0)) := MV.ofN (mUnlock_N _ _ _ _) (MV.u70 (MV.u69 (show MV (uN u.2.2 68 (0) ((4 * w) + (gN u.2.2 56 (0) (t))) ((gN u.2.2 68 (0) ((4 * w) + (gN u.2.2 56 (0) (t)))) + 1)) from hV) (j := (150 * w) + (gN u.2.2 70 (0) (w))) (v := t) (by omega)) (j := w) (v := (gN u.2.2 70 (0) (w)) + 1) (by omega))
  have hNm_5 : Nb (mUnlock ((uN (uN (uN u.2.2 68 (0) ((4 * w) + (gN u.2.2 56 (0) (t))) ((gN u.2.2 68 (0) ((4 * w) + (gN u.2.2 56 (0) (t)))) + 1)) 69 (0) ((150 * w) + (gN u.2.2 70 (0) (w))) (t)) 70 (0) (w) ((gN u.2.2 70 (0) (w)) + 1))) (t) (w) (gN ((uN (uN (uN u.2.2 68 (0) ((4 * w) + (gN u.2.2 56 (0) (t))) ((gN u.2.2 68 (0) ((4 * w) + (gN u.2.2 56 (0) (t)))) + 1)) 69 (0) ((150 * w) + (gN u.2.2 70 (0) (w))) (t)) 70 (0) (w) ((gN u.2.2 70 (0) (w)) + 1))) 52 0 0)) := Nb.ofN (mUnlock_N _ _ _ _) (Nb.uN (Nb.uN (Nb.uN hNm (f := 68) (i := 0) (j := (4 * w) + (gN u.2.2 56 (0) (t))) (v := (gN u.2.2 68 (0) ((4 * w) + (gN u.2.2 56 (0) (t)))) + 1) (by have := hNm 68 (0) ((4 * w) + (gN u.2.2 56 (0) (t))); have := hNm 56 (0) (t); omega)) (f := 69) (i := 0) (j := (150 * w) + (gN u.2.2 70 (0) (w))) (v := t) (by omega)) (f := 70) (i := 0) (j := w) (v := (gN u.2.2 70 (0) (w)) + 1) (by have := hNm 70 (0) (w); omega))
  refine lv_iload_n hx hb dX5_comes_53 rfl (lv_at hl 3 rfl) ?_
  refine w_ifne_b (tgt := 70) hx hb dX5_comes_54 (by decide) (fun c_6 => ?_) (fun c_6 => ?_)
  · exact w_vret hF hr hlocks hB (by subst c_6; rfl) dX5_comes_70
  · refine lv_aload_n hx hb dX5_comes_57 rfl (lv_at hl 0 rfl) ?_
    refine lv_iconst (v := nI 5) hx hb dX5_comes_58 (by decide) ?_
    refine lv_aload_n hx hb dX5_comes_59 rfl (lv_at hl 0 rfl) ?_
    refine w_get (v := .ref (sA u 27 0)) (fk := 6) hF hB ha0 (cn_20 env (wM u (mUnlock ((uN (uN (uN u.2.2 68 (0) ((4 * w) + (gN u.2.2 56 (0) (t))) ((gN u.2.2 68 (0) ((4 * w) + (gN u.2.2 56 (0) (t)))) + 1)) 69 (0) ((150 * w) + (gN u.2.2 70 (0) (w))) (t)) 70 (0) (w) ((gN u.2.2 70 (0) (w)) + 1))) (t) (w) (gN ((uN (uN (uN u.2.2 68 (0) ((4 * w) + (gN u.2.2 56 (0) (t))) ((gN u.2.2 68 (0) ((4 * w) + (gN u.2.2 56 (0) (t)))) + 1)) 69 (0) ((150 * w) + (gN u.2.2 70 (0) (w))) (t)) 70 (0) (w) ((gN u.2.2 70 (0) (w)) + 1))) 52 0 0))) (0)) rfl in_X5 (by decide) tw_3_101 rfl rfl dX5_comes_60 ?_
    refine lv_iload_n hx hb dX5_comes_63 rfl (lv_at hl 2 rfl) ?_
    refine w_iald (v := .int (nI (gN (mUnlock ((uN (uN (uN u.2.2 68 (0) ((4 * w) + (gN u.2.2 56 (0) (t))) ((gN u.2.2 68 (0) ((4 * w) + (gN u.2.2 56 (0) (t)))) + 1)) 69 (0) ((150 * w) + (gN u.2.2 70 (0) (w))) (t)) 70 (0) (w) ((gN u.2.2 70 (0) (w)) + 1))) (t) (w) (gN ((uN (uN (uN u.2.2 68 (0) ((4 * w) + (gN u.2.2 56 (0) (t))) ((gN u.2.2 68 (0) ((4 * w) + (gN u.2.2 56 (0) (t)))) + 1)) 69 (0) ((150 * w) + (gN u.2.2 70 (0) (w))) (t)) 70 (0) (w) ((gN u.2.2 70 (0) (w)) + 1))) 52 0 0)) 56 (0) (t)))) hF hB ⟨hM 27 (by decide), rfl⟩ (cn_27 env (wM u (mUnlock ((uN (uN (uN u.2.2 68 (0) ((4 * w) + (gN u.2.2 56 (0) (t))) ((gN u.2.2 68 (0) ((4 * w) + (gN u.2.2 56 (0) (t)))) + 1)) 69 (0) ((150 * w) + (gN u.2.2 70 (0) (w))) (t)) 70 (0) (w) ((gN u.2.2 70 (0) (w)) + 1))) (t) (w) (gN ((uN (uN (uN u.2.2 68 (0) ((4 * w) + (gN u.2.2 56 (0) (t))) ((gN u.2.2 68 (0) ((4 * w) + (gN u.2.2 56 (0) (t)))) + 1)) 69 (0) ((150 * w) + (gN u.2.2 70 (0) (w))) (t)) 70 (0) (w) ((gN u.2.2 70 (0) (w)) + 1))) 52 0 0))) (0)) (by omega) rfl (by decide) dX5_comes_64 ?_
    refine lv_iload_n hx hb dX5_comes_65 rfl (lv_at hl 1 rfl) ?_
    refine lv_iload_n hx hb dX5_comes_66 rfl (lv_at hl 2 rfl) ?_
    refine w_cv (r_V (As := [.int (nI (5)), .int (nI (gN (mUnlock ((uN (uN (uN u.2.2 68 (0) ((4 * w) + (gN u.2.2 56 (0) (t))) ((gN u.2.2 68 (0) ((4 * w) + (gN u.2.2 56 (0) (t)))) + 1)) 69 (0) ((150 * w) + (gN u.2.2 70 (0) (w))) (t)) 70 (0) (w) ((gN u.2.2 70 (0) (w)) + 1))) (t) (w) (gN ((uN (uN (uN u.2.2 68 (0) ((4 * w) + (gN u.2.2 56 (0) (t))) ((gN u.2.2 68 (0) ((4 * w) + (gN u.2.2 56 (0) (t)))) + 1)) 69 (0) ((150 * w) + (gN u.2.2 70 (0) (w))) (t)) 70 (0) (w) ((gN u.2.2 70 (0) (w)) + 1))) 52 0 0)) 56 (0) (t))), .int (nI (w)), .int (nI (t))]) (rest := []) hF hB (c_X5_send l env s0 X (wM u (mUnlock ((uN (uN (uN u.2.2 68 (0) ((4 * w) + (gN u.2.2 56 (0) (t))) ((gN u.2.2 68 (0) ((4 * w) + (gN u.2.2 56 (0) (t)))) + 1)) 69 (0) ((150 * w) + (gN u.2.2 70 (0) (w))) (t)) 70 (0) (w) ((gN u.2.2 70 (0) (w)) + 1))) (t) (w) (gN ((uN (uN (uN u.2.2 68 (0) ((4 * w) + (gN u.2.2 56 (0) (t))) ((gN u.2.2 68 (0) ((4 * w) + (gN u.2.2 56 (0) (t)))) + 1)) 69 (0) ((150 * w) + (gN u.2.2 70 (0) (w))) (t)) 70 (0) (w) ((gN u.2.2 70 (0) (w)) + 1))) 52 0 0))) (a0) (0) (ha0) (5) (gN (mUnlock ((uN (uN (uN u.2.2 68 (0) ((4 * w) + (gN u.2.2 56 (0) (t))) ((gN u.2.2 68 (0) ((4 * w) + (gN u.2.2 56 (0) (t)))) + 1)) 69 (0) ((150 * w) + (gN u.2.2 70 (0) (w))) (t)) 70 (0) (w) ((gN u.2.2 70 (0) (w)) + 1))) (t) (w) (gN ((uN (uN (uN u.2.2 68 (0) ((4 * w) + (gN u.2.2 56 (0) (t))) ((gN u.2.2 68 (0) ((4 * w) + (gN u.2.2 56 (0) (t)))) + 1)) 69 (0) ((150 * w) + (gN u.2.2 70 (0) (w))) (t)) 70 (0) (w) ((gN u.2.2 70 (0) (w)) + 1))) 52 0 0)) 56 (0) (t)) (w) (t) hM hV_4 hNm_5 (by show gN (mUnlock ((uN (uN (uN u.2.2 68 (0) ((4 * w) + (gN u.2.2 56 (0) (t))) ((gN u.2.2 68 (0) ((4 * w) + (gN u.2.2 56 (0) (t)))) + 1)) 69 (0) ((150 * w) + (gN u.2.2 70 (0) (w))) (t)) 70 (0) (w) ((gN u.2.2 70 (0) (w)) + 1))) (t) (w) (gN ((uN (uN (uN u.2.2 68 (0) ((4 * w) + (gN u.2.2 56 (0) (t))) ((gN u.2.2 68 (0) ((4 * w) + (gN u.2.2 56 (0) (t)))) + 1)) 69 (0) ((150 * w) + (gN u.2.2 70 (0) (w))) (t)) 70 (0) (w) ((gN u.2.2 70 (0) (w)) + 1))) 52 0 0)) 72 0 0 < 2400; have h1 := hm c_6; rw [mUnlock_N]; exact h1) (by decide) (hV_4.site _) hw ht) cv_X5_send tw_4_26 ⟨rfl, rfl, by decide, by decide⟩ (hB.recv ha0 (cn_20 env (wM u (mUnlock ((uN (uN (uN u.2.2 68 (0) ((4 * w) + (gN u.2.2 56 (0) (t))) ((gN u.2.2 68 (0) ((4 * w) + (gN u.2.2 56 (0) (t)))) + 1)) 69 (0) ((150 * w) + (gN u.2.2 70 (0) (w))) (t)) 70 (0) (w) ((gN u.2.2 70 (0) (w)) + 1))) (t) (w) (gN ((uN (uN (uN u.2.2 68 (0) ((4 * w) + (gN u.2.2 56 (0) (t))) ((gN u.2.2 68 (0) ((4 * w) + (gN u.2.2 56 (0) (t)))) + 1)) 69 (0) ((150 * w) + (gN u.2.2 70 (0) (w))) (t)) 70 (0) (w) ((gN u.2.2 70 (0) (w)) + 1))) 52 0 0))) (0)) rfl) rfl hl.1 rfl (lv_room (by decide)) dX5_comes_67 ⟨Nat.le_of_ble_eq_true rfl, Nat.le_of_ble_eq_true rfl⟩) hB (fun u_9 H locs hq_8 hB => ?_)
    obtain rfl := hq_8
    replace hB : Bd env s0 X (wM u (mSend ((mUnlock ((uN (uN (uN u.2.2 68 (0) ((4 * w) + (gN u.2.2 56 (0) (t))) ((gN u.2.2 68 (0) ((4 * w) + (gN u.2.2 56 (0) (t)))) + 1)) 69 (0) ((150 * w) + (gN u.2.2 70 (0) (w))) (t)) 70 (0) (w) ((gN u.2.2 70 (0) (w)) + 1))) (t) (w) (gN ((uN (uN (uN u.2.2 68 (0) ((4 * w) + (gN u.2.2 56 (0) (t))) ((gN u.2.2 68 (0) ((4 * w) + (gN u.2.2 56 (0) (t)))) + 1)) 69 (0) ((150 * w) + (gN u.2.2 70 (0) (w))) (t)) 70 (0) (w) ((gN u.2.2 70 (0) (w)) + 1))) 52 0 0))) (5) (gN (mUnlock ((uN (uN (uN u.2.2 68 (0) ((4 * w) + (gN u.2.2 56 (0) (t))) ((gN u.2.2 68 (0) ((4 * w) + (gN u.2.2 56 (0) (t)))) + 1)) 69 (0) ((150 * w) + (gN u.2.2 70 (0) (w))) (t)) 70 (0) (w) ((gN u.2.2 70 (0) (w)) + 1))) (t) (w) (gN ((uN (uN (uN u.2.2 68 (0) ((4 * w) + (gN u.2.2 56 (0) (t))) ((gN u.2.2 68 (0) ((4 * w) + (gN u.2.2 56 (0) (t)))) + 1)) 69 (0) ((150 * w) + (gN u.2.2 70 (0) (w))) (t)) 70 (0) (w) ((gN u.2.2 70 (0) (w)) + 1))) 52 0 0)) 56 (0) (t)) (w) (t))) s H locs := hB
    have hV_10 : MV (mSend ((mUnlock ((uN (uN (uN u.2.2 68 (0) ((4 * w) + (gN u.2.2 56 (0) (t))) ((gN u.2.2 68 (0) ((4 * w) + (gN u.2.2 56 (0) (t)))) + 1)) 69 (0) ((150 * w) + (gN u.2.2 70 (0) (w))) (t)) 70 (0) (w) ((gN u.2.2 70 (0) (w)) + 1))) (t) (w) (gN ((uN (uN (uN u.2.2 68 (0) ((4 * w) + (gN u.2.2 56 (0) (t))) ((gN u.2.2 68 (0) ((4 * w) + (gN u.2.2 56 (0) (t)))) + 1)) 69 (0) ((150 * w) + (gN u.2.2 70 (0) (w))) (t)) 70 (0) (w) ((gN u.2.2 70 (0) (w)) + 1))) 52 0 0))) (5) (gN (mUnlock ((uN (uN (uN u.2.2 68 (0) ((4 * w) + (gN u.2.2 56 (0) (t))) ((gN u.2.2 68 (0) ((4 * w) + (gN u.2.2 56 (0) (t)))) + 1)) 69 (0) ((150 * w) + (gN u.2.2 70 (0) (w))) (t)) 70 (0) (w) ((gN u.2.2 70 (0) (w)) + 1))) (t) (w) (gN ((uN (uN (uN u.2.2 68 (0) ((4 * w) + (gN u.2.2 56 (0) (t))) ((gN u.2.2 68 (0) ((4 * w) + (gN u.2.2 56 (0) (t)))) + 1)) 69 (0) ((150 * w) + (gN u.2.2 70 (0) (w))) (t)) 70 (0) (w) ((gN u.2.2 70 (0) (w)) + 1))) 52 0 0)) 56 (0) (t)) (w) (t)) := mSend_V hV_4 (hV_4.site _) hw ht (by show gN (mUnlock ((uN (uN (uN u.2.2 68 (0) ((4 * w) + (gN u.2.2 56 (0) (t))) ((gN u.2.2 68 (0) ((4 * w) + (gN u.2.2 56 (0) (t)))) + 1)) 69 (0) ((150 * w) + (gN u.2.2 70 (0) (w))) (t)) 70 (0) (w) ((gN u.2.2 70 (0) (w)) + 1))) (t) (w) (gN ((uN (uN (uN u.2.2 68 (0) ((4 * w) + (gN u.2.2 56 (0) (t))) ((gN u.2.2 68 (0) ((4 * w) + (gN u.2.2 56 (0) (t)))) + 1)) 69 (0) ((150 * w) + (gN u.2.2 70 (0) (w))) (t)) 70 (0) (w) ((gN u.2.2 70 (0) (w)) + 1))) 52 0 0)) 72 0 0 < 2400; have h1 := hm c_6; rw [mUnlock_N]; exact h1)
    have hNm_11 : Nb (mSend ((mUnlock ((uN (uN (uN u.2.2 68 (0) ((4 * w) + (gN u.2.2 56 (0) (t))) ((gN u.2.2 68 (0) ((4 * w) + (gN u.2.2 56 (0) (t)))) + 1)) 69 (0) ((150 * w) + (gN u.2.2 70 (0) (w))) (t)) 70 (0) (w) ((gN u.2.2 70 (0) (w)) + 1))) (t) (w) (gN ((uN (uN (uN u.2.2 68 (0) ((4 * w) + (gN u.2.2 56 (0) (t))) ((gN u.2.2 68 (0) ((4 * w) + (gN u.2.2 56 (0) (t)))) + 1)) 69 (0) ((150 * w) + (gN u.2.2 70 (0) (w))) (t)) 70 (0) (w) ((gN u.2.2 70 (0) (w)) + 1))) 52 0 0))) (5) (gN (mUnlock ((uN (uN (uN u.2.2 68 (0) ((4 * w) + (gN u.2.2 56 (0) (t))) ((gN u.2.2 68 (0) ((4 * w) + (gN u.2.2 56 (0) (t)))) + 1)) 69 (0) ((150 * w) + (gN u.2.2 70 (0) (w))) (t)) 70 (0) (w) ((gN u.2.2 70 (0) (w)) + 1))) (t) (w) (gN ((uN (uN (uN u.2.2 68 (0) ((4 * w) + (gN u.2.2 56 (0) (t))) ((gN u.2.2 68 (0) ((4 * w) + (gN u.2.2 56 (0) (t)))) + 1)) 69 (0) ((150 * w) + (gN u.2.2 70 (0) (w))) (t)) 70 (0) (w) ((gN u.2.2 70 (0) (w)) + 1))) 52 0 0)) 56 (0) (t)) (w) (t)) := mSend_Nb hNm_5 (by decide) (hV_4.site _) hw ht (by show gN (mUnlock ((uN (uN (uN u.2.2 68 (0) ((4 * w) + (gN u.2.2 56 (0) (t))) ((gN u.2.2 68 (0) ((4 * w) + (gN u.2.2 56 (0) (t)))) + 1)) 69 (0) ((150 * w) + (gN u.2.2 70 (0) (w))) (t)) 70 (0) (w) ((gN u.2.2 70 (0) (w)) + 1))) (t) (w) (gN ((uN (uN (uN u.2.2 68 (0) ((4 * w) + (gN u.2.2 56 (0) (t))) ((gN u.2.2 68 (0) ((4 * w) + (gN u.2.2 56 (0) (t)))) + 1)) 69 (0) ((150 * w) + (gN u.2.2 70 (0) (w))) (t)) 70 (0) (w) ((gN u.2.2 70 (0) (w)) + 1))) 52 0 0)) 72 0 0 < 2400; have h1 := hm c_6; rw [mUnlock_N]; exact h1)
    exact w_vret hF hr hlocks hB (by subst c_6; rfl) dX5_comes_70
set_option maxHeartbeats 4000000 in
set_option maxRecDepth 100000 in
theorem c_X5_becomes (l : Launch) (env : Ev) (s0 : Nat) (X : va_W) (u : St) (a0 : Nat) (_xa0 : Nat) (ha0 : At u 20 (0) a0) (t : Nat) (hM : MI u) (hV : MV u.2.2) (hNm : Nb u.2.2) (ht : t < 150) (hc : gN u.2.2 70 0 (gN u.2.2 56 0 t) < 150) (hh : gN u.2.2 68 0 (4 * gN u.2.2 56 0 t + gN u.2.2 56 0 t) < 1000) (hm : gN u.2.2 72 0 0 + 4 ≤ 2400) : Met l yX5_becomes [Cond.code yX5_becomes cX5_becomes 4 none] { frames := 2, cells := 0, slots := 0, locals := 47 } (va_Pc [.ref (a0), .int (nI (t))] (Pr env s0 X u)) (va_Qv (fun u' => u' = wM u (mBecomes u.2.2 (t))) (Po env s0 X) (fun q => s0 ≤ q)) 0 0 (fun q => s0 ≤ q) := by
  refine Met.ofW (cc := cX5_becomes) (maxL := 4) (ret := none) (by decide) rfl ?_
  intro p e s m args below meth c s₁ B hml hv
  obtain ⟨rfl, hv⟩ := hv
  have hx := B.exec
  have hb := B.bytes
  have hr := B.returns
  have hts : ∀ ww ∈ TT, ww.before #[.ref (a0), .int (nI (t))] s = true := fun ww hw => hv.2.1 ww hw _
  have hown : s.vm.findClass RX5 = some m.cls := findClass_of_methodNamed B.named
  have hlocks := B.notSynchronized
  have hF : CallFix p m c cX5_becomes 4 s #[.ref (a0), .int (nI (t))] TT RX5 := ⟨hx, hb, hml, hown, hts⟩
  have hB := Bd.entry hv
  have hl := lv_entry ([.ref (a0), .int (nI (t))]) (n := 4) (Nat.le_of_ble_eq_true rfl)
  rw [lg_entry_eq]
  generalize (lg_sl ([.ref (a0), .int (nI (t))]) ++ List.replicate (4 - (lg_sl ([.ref (a0), .int (nI (t))])).length) Slot.unset).toArray = ls at hl ⊢
  have hl : lv_has ls 4 [(0, .ref (a0)), (1, .int (nI (t)))] := hl
  have hs4 := hV.site t
  refine lv_aload_n hx hb dX5_becomes_0 rfl (lv_at hl 0 rfl) ?_
  refine w_get (v := .ref (sA u 27 0)) (fk := 6) hF hB ha0 (cn_20 env u (0)) rfl in_X5 (by decide) tw_3_101 rfl rfl dX5_becomes_1 ?_
  refine lv_iload_n hx hb dX5_becomes_4 rfl (lv_at hl 1 rfl) ?_
  refine w_iald (v := .int (nI (gN u.2.2 56 (0) (t)))) hF hB ⟨hM 27 (by decide), rfl⟩ (cn_27 env u (0)) (by omega) rfl (by decide) dX5_becomes_5 ?_
  refine lv_istore_n (lv' := [(2, .int (nI (gN u.2.2 56 (0) (t)))), (0, .ref (a0)), (1, .int (nI (t)))]) hx hb dX5_becomes_6 rfl hl (by decide) rfl (fun ls hl => ?_)
  refine lv_aload_n hx hb dX5_becomes_7 rfl (lv_at hl 1 rfl) ?_
  refine w_get (v := .ref (sA u 28 0)) (fk := 7) hF hB ha0 (cn_20 env u (0)) rfl in_X5 (by decide) tw_3_102 rfl rfl dX5_becomes_8 ?_
  refine lv_iload_n hx hb dX5_becomes_11 rfl (lv_at hl 2 rfl) ?_
  refine lv_iconst (v := nI 2) hx hb dX5_becomes_12 (by decide) ?_
  refine w_iast (x := nI (2)) hF hB ⟨hM 28 (by decide), rfl⟩ (wM u (uN u.2.2 57 (0) (t) (2))) (cn_28 env u (0)) (by omega) (by decide) rfl rfl (cu_N57 env u (0) (t) (2)) dX5_becomes_13 (fun H locs hB => ?_)
  refine lv_aload_n hx hb dX5_becomes_14 rfl (lv_at hl 1 rfl) ?_
  refine w_get (v := .ref (sA u 30 0)) (fk := 9) hF hB ha0 (cn_20 env (wM u (uN u.2.2 57 (0) (t) (2))) (0)) rfl in_X5 (by decide) tw_3_104 rfl rfl dX5_becomes_15 ?_
  refine lv_iload_n hx hb dX5_becomes_18 rfl (lv_at hl 2 rfl) ?_
  refine lv_aload_n hx hb dX5_becomes_19 rfl (lv_at hl 1 rfl) ?_
  refine w_get (v := .ref (sA u 39 0)) (fk := 18) hF hB ha0 (cn_20 env (wM u (uN u.2.2 57 (0) (t) (2))) (0)) rfl in_X5 (by decide) tw_3_113 rfl rfl dX5_becomes_20 ?_
  refine lv_iconst (v := nI 4) hx hb dX5_becomes_23 (by decide) ?_
  refine lv_iload_n hx hb dX5_becomes_24 rfl (lv_at hl 0 rfl) ?_
  refine w_imul_n hx hb dX5_becomes_25 ?_
  refine lv_iload_n hx hb dX5_becomes_26 rfl (lv_at hl 0 rfl) ?_
  refine w_iadd_n hx hb dX5_becomes_27 ?_
  refine w_iald (v := .int (nI (gN u.2.2 68 (0) ((4 * (gN u.2.2 56 (0) (t))) + (gN u.2.2 56 (0) (t)))))) hF hB ⟨hM 39 (by decide), rfl⟩ (cn_39 env (wM u (uN u.2.2 57 (0) (t) (2))) (0)) (by have := hV.site (t); omega) rfl (by decide) dX5_becomes_28 ?_
  refine lv_iconst (v := nI 1) hx hb dX5_becomes_29 (by decide) ?_
  refine w_iadd_n hx hb dX5_becomes_30 ?_
  refine w_iast (x := nI ((gN u.2.2 68 (0) ((4 * (gN u.2.2 56 (0) (t))) + (gN u.2.2 56 (0) (t)))) + 1)) hF hB ⟨hM 30 (by decide), rfl⟩ (wM u (uN (uN u.2.2 57 (0) (t) (2)) 59 (0) (t) ((gN u.2.2 68 (0) ((4 * (gN u.2.2 56 (0) (t))) + (gN u.2.2 56 (0) (t)))) + 1))) (cn_30 env (wM u (uN u.2.2 57 (0) (t) (2))) (0)) (by omega) (by decide) rfl rfl (cu_N59 env (wM u (uN u.2.2 57 (0) (t) (2))) (0) (t) ((gN u.2.2 68 (0) ((4 * (gN u.2.2 56 (0) (t))) + (gN u.2.2 56 (0) (t)))) + 1)) dX5_becomes_31 (fun H locs hB => ?_)
  refine lv_aload_n hx hb dX5_becomes_32 rfl (lv_at hl 1 rfl) ?_
  refine lv_iload_n hx hb dX5_becomes_33 rfl (lv_at hl 0 rfl) ?_
  refine lv_iload_n hx hb dX5_becomes_34 rfl (lv_at hl 2 rfl) ?_
  refine lv_iconst (v := nI 1) hx hb dX5_becomes_35 (by decide) ?_
  refine w_cv (r_V (As := [.int (nI (gN u.2.2 56 (0) (t))), .int (nI (t)), .int (nI (1))]) (rest := []) hF hB (c_X5_comes l env s0 X (wM u (uN (uN u.2.2 57 (0) (t) (2)) 59 (0) (t) ((gN u.2.2 68 (0) ((4 * (gN u.2.2 56 (0) (t))) + (gN u.2.2 56 (0) (t)))) + 1))) (a0) (0) (ha0) (gN u.2.2 56 (0) (t)) (t) (true) hM (show MV (uN (uN u.2.2 57 (0) (t) (2)) 59 (0) (t) ((gN u.2.2 68 (0) ((4 * (gN u.2.2 56 (0) (t))) + (gN u.2.2 56 (0) (t)))) + 1)) from (show MV (uN u.2.2 57 (0) (t) (2)) from hV)) (Nb.uN (Nb.uN hNm (f := 57) (i := 0) (j := t) (v := 2) (by decide)) (f := 59) (i := 0) (j := t) (v := (gN u.2.2 68 (0) ((4 * (gN u.2.2 56 (0) (t))) + (gN u.2.2 56 (0) (t)))) + 1) (by have := hNm 68 (0) ((4 * (gN u.2.2 56 (0) (t))) + (gN u.2.2 56 (0) (t))); have := hNm 56 (0) (t); omega)) (hV.site t) ht hc hh (fun z => by cases z)) cv_X5_comes tw_4_18 ⟨rfl, rfl, by decide, by decide⟩ (hB.recv ha0 (cn_20 env (wM u (uN (uN u.2.2 57 (0) (t) (2)) 59 (0) (t) ((gN u.2.2 68 (0) ((4 * (gN u.2.2 56 (0) (t))) + (gN u.2.2 56 (0) (t)))) + 1))) (0)) rfl) rfl hl.1 rfl (lv_room (by decide)) dX5_becomes_36 ⟨Nat.le_of_ble_eq_true rfl, Nat.le_of_ble_eq_true rfl⟩) hB (fun u_3 H locs hq_2 hB => ?_)
  obtain rfl := hq_2
  replace hB : Bd env s0 X (wM u (mComes ((uN (uN u.2.2 57 (0) (t) (2)) 59 (0) (t) ((gN u.2.2 68 (0) ((4 * (gN u.2.2 56 (0) (t))) + (gN u.2.2 56 (0) (t)))) + 1))) (gN u.2.2 56 (0) (t)) (t) (true))) s H locs := hB
  have hV_4 : MV (mComes ((uN (uN u.2.2 57 (0) (t) (2)) 59 (0) (t) ((gN u.2.2 68 (0) ((4 * (gN u.2.2 56 (0) (t))) + (gN u.2.2 56 (0) (t)))) + 1))) (gN u.2.2 56 (0) (t)) (t) (true)) := mComes_V (show MV (uN (uN u.2.2 57 (0) (t) (2)) 59 (0) (t) ((gN u.2.2 68 (0) ((4 * (gN u.2.2 56 (0) (t))) + (gN u.2.2 56 (0) (t)))) + 1)) from (show MV (uN u.2.2 57 (0) (t) (2)) from hV)) (hV.site t) ht hc (fun z => by cases z)
  have hNm_5 : Nb (mComes ((uN (uN u.2.2 57 (0) (t) (2)) 59 (0) (t) ((gN u.2.2 68 (0) ((4 * (gN u.2.2 56 (0) (t))) + (gN u.2.2 56 (0) (t)))) + 1))) (gN u.2.2 56 (0) (t)) (t) (true)) := mComes_Nb (show MV (uN (uN u.2.2 57 (0) (t) (2)) 59 (0) (t) ((gN u.2.2 68 (0) ((4 * (gN u.2.2 56 (0) (t))) + (gN u.2.2 56 (0) (t)))) + 1)) from (show MV (uN u.2.2 57 (0) (t) (2)) from hV)) (Nb.uN (Nb.uN hNm (f := 57) (i := 0) (j := t) (v := 2) (by decide)) (f := 59) (i := 0) (j := t) (v := (gN u.2.2 68 (0) ((4 * (gN u.2.2 56 (0) (t))) + (gN u.2.2 56 (0) (t)))) + 1) (by have := hNm 68 (0) ((4 * (gN u.2.2 56 (0) (t))) + (gN u.2.2 56 (0) (t))); have := hNm 56 (0) (t); omega)) (hV.site t) ht hc hh (fun z => by cases z)
  replace hB : Bd env s0 X (wM u (mB3 u.2.2 t)) s H locs := hB
  have hV_6 : MV (mB3 u.2.2 t) := mB3_V hV ht hc
  have hNm_7 : Nb (mB3 u.2.2 t) := mB3_Nb hV hNm ht hc hh
  refine lv_iconst (v := nI 0) hx hb dX5_becomes_39 (by decide) ?_
  refine lv_istore_n (lv' := [(3, .int (nI (0))), (2, .int (nI (gN u.2.2 56 (0) (t)))), (0, .ref (a0)), (1, .int (nI (t)))]) hx hb dX5_becomes_40 rfl hl (by decide) rfl (fun ls hl => ?_)
  refine wloopH (σ := Heap × List Loc × Array Slot) (G := fun x => W p l e _ s m _ below meth c x.1 x.2.1 _ _ _ (F0 m 41 x.2.2 [])) (P := fun i_8 x => (True) ∧ Bd env s0 X (wM u (mSendAll (mB3 u.2.2 t) (gN u.2.2 56 0 t) t i_8)) s x.1 x.2.1 ∧ lv_has x.2.2 4 [(0, .ref (a0)), (1, .int (nI (t))), (2, .int (nI (gN u.2.2 56 (0) (t)))), (3, .int (nI (i_8)))]) (N := gN u.2.2 50 0 0) ?_ 0 (_, _, ls) (Nat.zero_le _) ⟨trivial, hB, lv_sub hl [2, 3, 1, 0] rfl⟩
  rintro i_8 ⟨H, locs, ls⟩ hi_9 ⟨hv_10, hB, hl⟩ ih
  replace hB : Bd env s0 X (wM u (mSendAll (mB3 u.2.2 t) (gN u.2.2 56 0 t) t i_8)) s H locs := hB
  replace hl : lv_has ls 4 [(0, .ref (a0)), (1, .int (nI (t))), (2, .int (nI (gN u.2.2 56 (0) (t)))), (3, .int (nI (i_8)))] := hl
  show W p l e _ s m _ below meth c H locs _ _ _ (F0 m 41 ls [])
  have := hNm 50 0 0
  have := hV.nst
  have hV_11 : MV (mSendAll (mB3 u.2.2 t) (gN u.2.2 56 0 t) t i_8) := mSendAll_V hV_6 hs4 ht (by rw [mB3_72]; exact hm) _ (by omega)
  have hNm_12 : Nb (mSendAll (mB3 u.2.2 t) (gN u.2.2 56 0 t) t i_8) := mSendAll_Nb hNm_7 hs4 ht (by rw [mB3_72]; exact hm) _ (by omega)
  refine lv_iload_n hx hb dX5_becomes_41 rfl (lv_at hl 3 rfl) ?_
  refine lv_aload_n hx hb dX5_becomes_42 rfl (lv_at hl 0 rfl) ?_
  refine w_get (v := .int (nI (gN (mSendAll (mB3 u.2.2 t) (gN u.2.2 56 0 t) t i_8) 50 (0) (0)))) (fk := 0) hF hB ha0 (cn_20 env (wM u (mSendAll (mB3 u.2.2 t) (gN u.2.2 56 0 t) t i_8)) (0)) rfl in_X5 (by decide) tw_3_95 rfl rfl dX5_becomes_43 ?_
  refine w_icge_n (tgt := 68) (by omega) (by have := hNm_12 50 (0) (0); have := hNm 56 0 t; omega) hx hb dX5_becomes_46 (by decide) (fun c_13 => ?_) (fun c_13 => ?_)
  · rw [mSendAll_f _ _ _ (by decide), mB3_50] at c_13
    exact w_vret hF hr hlocks hB (by rw [show i_8 = gN u.2.2 50 0 0 by omega]; rfl) dX5_becomes_68
  · rw [mSendAll_f _ _ _ (by decide), mB3_50] at c_13
    refine lv_iload_n hx hb dX5_becomes_49 rfl (lv_at hl 3 rfl) ?_
    refine lv_iload_n hx hb dX5_becomes_50 rfl (lv_at hl 2 rfl) ?_
    refine w_iceq_n (tgt := 62) (by omega) (by have := hNm 56 (0) (t); omega) hx hb dX5_becomes_51 (by decide) (fun c_14 => ?_) (fun c_14 => ?_)
    · refine lv_iinc (v := nI (i_8 + 1)) (lv' := [(3, .int (nI (i_8 + 1))), (0, .ref (a0)), (1, .int (nI (t))), (2, .int (nI (gN u.2.2 56 (0) (t))))]) hx hb dX5_becomes_62 hl (k := 3) rfl (nI_add _ _) (by decide) rfl (fun ls hl => ?_)
      refine lv_goto (tgt := 41) hx hb dX5_becomes_65 (by decide) ?_
      have em_15 : (mSendAll (mB3 u.2.2 t) (gN u.2.2 56 0 t) t (i_8 + 1)) = (mSendAll (mB3 u.2.2 t) (gN u.2.2 56 0 t) t i_8) := by first | rfl | simp [mSendAll, c_13, c_14]
      exact ih (H, locs, ls) (by omega) ⟨trivial, (by rw [em_15]; exact hB), by exact lv_sub hl [1, 2, 3, 0] rfl⟩
    · refine lv_aload_n hx hb dX5_becomes_54 rfl (lv_at hl 0 rfl) ?_
      refine lv_iconst (v := nI 4) hx hb dX5_becomes_55 (by decide) ?_
      refine lv_iload_n hx hb dX5_becomes_56 rfl (lv_at hl 3 rfl) ?_
      refine lv_iload_n hx hb dX5_becomes_57 rfl (lv_at hl 2 rfl) ?_
      refine lv_iload_n hx hb dX5_becomes_58 rfl (lv_at hl 1 rfl) ?_
      refine w_cv (r_V (As := [.int (nI (4)), .int (nI (i_8)), .int (nI (gN u.2.2 56 (0) (t))), .int (nI (t))]) (rest := []) hF hB (c_X5_send l env s0 X (wM u (mSendAll (mB3 u.2.2 t) (gN u.2.2 56 0 t) t i_8)) (a0) (0) (ha0) (4) (i_8) (gN u.2.2 56 (0) (t)) (t) hM hV_11 hNm_12 (by show gN (mSendAll (mB3 u.2.2 t) (gN u.2.2 56 0 t) t i_8) 72 0 0 < 2400; have h1 := mSendAll_72 (mB3 u.2.2 t) (gN u.2.2 56 0 t) t i_8; rw [mB3_72] at h1; omega) (by decide) (by omega) hs4 ht) cv_X5_send tw_4_26 ⟨rfl, rfl, by decide, by decide⟩ (hB.recv ha0 (cn_20 env (wM u (mSendAll (mB3 u.2.2 t) (gN u.2.2 56 0 t) t i_8)) (0)) rfl) rfl hl.1 rfl (lv_room (by decide)) dX5_becomes_59 ⟨Nat.le_of_ble_eq_true rfl, Nat.le_of_ble_eq_true rfl⟩) hB (fun u_18 H locs hq_17 hB => ?_)
      obtain rfl := hq_17
      replace hB : Bd env s0 X (wM u (mSend ((mSendAll (mB3 u.2.2 t) (gN u.2.2 56 0 t) t i_8)) (4) (i_8) (gN u.2.2 56 (0) (t)) (t))) s H locs := hB
      have hV_19 : MV (mSend ((mSendAll (mB3 u.2.2 t) (gN u.2.2 56 0 t) t i_8)) (4) (i_8) (gN u.2.2 56 (0) (t)) (t)) := mSend_V hV_11 (by omega) hs4 ht (by show gN (mSendAll (mB3 u.2.2 t) (gN u.2.2 56 0 t) t i_8) 72 0 0 < 2400; have h1 := mSendAll_72 (mB3 u.2.2 t) (gN u.2.2 56 0 t) t i_8; rw [mB3_72] at h1; omega)
      have hNm_20 : Nb (mSend ((mSendAll (mB3 u.2.2 t) (gN u.2.2 56 0 t) t i_8)) (4) (i_8) (gN u.2.2 56 (0) (t)) (t)) := mSend_Nb hNm_12 (by decide) (by omega) hs4 ht (by show gN (mSendAll (mB3 u.2.2 t) (gN u.2.2 56 0 t) t i_8) 72 0 0 < 2400; have h1 := mSendAll_72 (mB3 u.2.2 t) (gN u.2.2 56 0 t) t i_8; rw [mB3_72] at h1; omega)
      refine lv_iinc (v := nI (i_8 + 1)) (lv' := [(3, .int (nI (i_8 + 1))), (0, .ref (a0)), (1, .int (nI (t))), (2, .int (nI (gN u.2.2 56 (0) (t))))]) hx hb dX5_becomes_62 hl (k := 3) rfl (nI_add _ _) (by decide) rfl (fun ls hl => ?_)
      refine lv_goto (tgt := 41) hx hb dX5_becomes_65 (by decide) ?_
      have em_21 : (mSendAll (mB3 u.2.2 t) (gN u.2.2 56 0 t) t (i_8 + 1)) = (mSend ((mSendAll (mB3 u.2.2 t) (gN u.2.2 56 0 t) t i_8)) (4) (i_8) (gN u.2.2 56 (0) (t)) (t)) := by first | rfl | simp [mSendAll, c_13, c_14]
      exact ih (H, locs, ls) (by omega) ⟨trivial, (by rw [em_21]; exact hB), by exact lv_sub hl [1, 2, 3, 0] rfl⟩
set_option maxHeartbeats 4000000 in
set_option maxRecDepth 100000 in
theorem c_X5_refused (l : Launch) (env : Ev) (s0 : Nat) (X : va_W) (u : St) (a0 : Nat) (_xa0 : Nat) (ha0 : At u 20 (0) a0) (t : Nat) (hM : MI u) (hV : MV u.2.2) (hNm : Nb u.2.2) (ht : t < 150) (hm : gN u.2.2 72 0 0 + 4 ≤ 2400) : Met l yX5_refused [Cond.code yX5_refused cX5_refused 3 none] { frames := 1, cells := 0, slots := 0, locals := 24 } (va_Pc [.ref (a0), .int (nI (t))] (Pr env s0 X u)) (va_Qv (fun u' => u' = wM u (mRefused u.2.2 (t))) (Po env s0 X) (fun q => s0 ≤ q)) 0 0 (fun q => s0 ≤ q) := by
  refine Met.ofW (cc := cX5_refused) (maxL := 3) (ret := none) (by decide) rfl ?_
  intro p e s m args below meth c s₁ B hml hv
  obtain ⟨rfl, hv⟩ := hv
  have hx := B.exec
  have hb := B.bytes
  have hr := B.returns
  have hts : ∀ ww ∈ TT, ww.before #[.ref (a0), .int (nI (t))] s = true := fun ww hw => hv.2.1 ww hw _
  have hown : s.vm.findClass RX5 = some m.cls := findClass_of_methodNamed B.named
  have hlocks := B.notSynchronized
  have hF : CallFix p m c cX5_refused 3 s #[.ref (a0), .int (nI (t))] TT RX5 := ⟨hx, hb, hml, hown, hts⟩
  have hB := Bd.entry hv
  have hl := lv_entry ([.ref (a0), .int (nI (t))]) (n := 3) (Nat.le_of_ble_eq_true rfl)
  rw [lg_entry_eq]
  generalize (lg_sl ([.ref (a0), .int (nI (t))]) ++ List.replicate (3 - (lg_sl ([.ref (a0), .int (nI (t))])).length) Slot.unset).toArray = ls at hl ⊢
  have hl : lv_has ls 3 [(0, .ref (a0)), (1, .int (nI (t)))] := hl
  have hs4 := hV.site t
  refine lv_aload_n hx hb dX5_refused_0 rfl (lv_at hl 0 rfl) ?_
  refine w_get (v := .ref (sA u 28 0)) (fk := 7) hF hB ha0 (cn_20 env u (0)) rfl in_X5 (by decide) tw_3_102 rfl rfl dX5_refused_1 ?_
  refine lv_iload_n hx hb dX5_refused_4 rfl (lv_at hl 1 rfl) ?_
  refine w_iald (v := .int (nI (gN u.2.2 57 (0) (t)))) hF hB ⟨hM 28 (by decide), rfl⟩ (cn_28 env u (0)) (by omega) rfl (by decide) dX5_refused_5 ?_
  refine lv_iconst (v := nI 1) hx hb dX5_refused_6 (by decide) ?_
  refine w_icne_n (tgt := 76) (by have := hNm 57 (0) (t); omega) (by decide) hx hb dX5_refused_7 (by decide) (fun c_1 => ?_) (fun c_1 => ?_)
  · exact w_vret hF hr hlocks hB (by rw [mRefused, if_neg c_1]; rfl) dX5_refused_76
  · refine lv_aload_n hx hb dX5_refused_10 rfl (lv_at hl 0 rfl) ?_
    refine w_get (v := .ref (sA u 28 0)) (fk := 7) hF hB ha0 (cn_20 env u (0)) rfl in_X5 (by decide) tw_3_102 rfl rfl dX5_refused_11 ?_
    refine lv_iload_n hx hb dX5_refused_14 rfl (lv_at hl 1 rfl) ?_
    refine lv_iconst (v := nI 3) hx hb dX5_refused_15 (by decide) ?_
    refine w_iast (x := nI (3)) hF hB ⟨hM 28 (by decide), rfl⟩ (wM u (uN u.2.2 57 (0) (t) (3))) (cn_28 env u (0)) (by omega) (by decide) rfl rfl (cu_N57 env u (0) (t) (3)) dX5_refused_16 (fun H locs hB => ?_)
    refine lv_aload_n hx hb dX5_refused_17 rfl (lv_at hl 0 rfl) ?_
    refine lv_iload_n hx hb dX5_refused_18 rfl (lv_at hl 1 rfl) ?_
    refine lv_aload_n hx hb dX5_refused_19 rfl (lv_at hl 0 rfl) ?_
    refine w_get (v := .ref (sA u 27 0)) (fk := 6) hF hB ha0 (cn_20 env (wM u (uN u.2.2 57 (0) (t) (3))) (0)) rfl in_X5 (by decide) tw_3_101 rfl rfl dX5_refused_20 ?_
    refine lv_iload_n hx hb dX5_refused_23 rfl (lv_at hl 1 rfl) ?_
    refine w_iald (v := .int (nI (gN u.2.2 56 (0) (t)))) hF hB ⟨hM 27 (by decide), rfl⟩ (cn_27 env (wM u (uN u.2.2 57 (0) (t) (3))) (0)) (by omega) rfl (by decide) dX5_refused_24 ?_
    refine w_cv (r_V (As := [.int (nI (t)), .int (nI (gN u.2.2 56 (0) (t)))]) (rest := []) hF hB (c_X5_unlock l env s0 X (wM u (uN u.2.2 57 (0) (t) (3))) (a0) (0) (ha0) (t) (gN u.2.2 56 (0) (t)) hM (show MV (uN u.2.2 57 (0) (t) (3)) from hV) (Nb.uN hNm (f := 57) (i := 0) (j := t) (v := 3) (by decide)) ht hs4) cv_X5_unlock tw_4_22 ⟨rfl, rfl, by decide, by decide⟩ (hB.recv ha0 (cn_20 env (wM u (uN u.2.2 57 (0) (t) (3))) (0)) rfl) rfl hl.1 rfl (lv_room (by decide)) dX5_refused_25 ⟨Nat.le_of_ble_eq_true rfl, Nat.le_of_ble_eq_true rfl⟩) hB (fun u_4 H locs hq_3 hB => ?_)
    obtain rfl := hq_3
    replace hB : Bd env s0 X (wM u (mUnlock ((uN u.2.2 57 (0) (t) (3))) (t) (gN u.2.2 56 (0) (t)) (gN ((uN u.2.2 57 (0) (t) (3))) 52 0 0))) s H locs := hB
    have hV_5 : MV (mUnlock ((uN u.2.2 57 (0) (t) (3))) (t) (gN u.2.2 56 (0) (t)) (gN ((uN u.2.2 57 (0) (t) (3))) 52 0 0)) := MV.ofN (mUnlock_N _ _ _ _) (show MV (uN u.2.2 57 (0) (t) (3)) from hV)
    have hNm_6 : Nb (mUnlock ((uN u.2.2 57 (0) (t) (3))) (t) (gN u.2.2 56 (0) (t)) (gN ((uN u.2.2 57 (0) (t) (3))) 52 0 0)) := Nb.ofN (mUnlock_N _ _ _ _) (Nb.uN hNm (f := 57) (i := 0) (j := t) (v := 3) (by decide))
    replace hB : Bd env s0 X (wM u (mR2 u.2.2 t)) s H locs := hB
    have hV_7 : MV (mR2 u.2.2 t) := mR2_V hV t
    have hNm_8 : Nb (mR2 u.2.2 t) := mR2_Nb hNm t
    refine lv_iconst (v := nI 0) hx hb dX5_refused_28 (by decide) ?_
    refine lv_istore_n (lv' := [(2, .int (nI (0))), (0, .ref (a0)), (1, .int (nI (t)))]) hx hb dX5_refused_29 rfl hl (by decide) rfl (fun ls hl => ?_)
    refine wloopH (σ := Heap × List Loc × Array Slot) (G := fun x => W p l e _ s m _ below meth c x.1 x.2.1 _ _ _ (F0 m 30 x.2.2 [])) (P := fun i_9 x => (True) ∧ Bd env s0 X (wM u (mRefL (mR2 u.2.2 t) t i_9)) s x.1 x.2.1 ∧ lv_has x.2.2 3 [(0, .ref (a0)), (1, .int (nI (t))), (2, .int (nI (i_9)))]) (N := gN u.2.2 50 0 0) ?_ 0 (_, _, ls) (Nat.zero_le _) ⟨trivial, hB, lv_sub hl [1, 2, 0] rfl⟩
    rintro i_9 ⟨H, locs, ls⟩ hi_10 ⟨hv_11, hB, hl⟩ ih
    replace hB : Bd env s0 X (wM u (mRefL (mR2 u.2.2 t) t i_9)) s H locs := hB
    replace hl : lv_has ls 3 [(0, .ref (a0)), (1, .int (nI (t))), (2, .int (nI (i_9)))] := hl
    show W p l e _ s m _ below meth c H locs _ _ _ (F0 m 30 ls [])
    have := hNm 50 0 0
    have := hV.nst
    have hV_12 : MV (mRefL (mR2 u.2.2 t) t i_9) := mRefL_V hV_7 ht (by rw [mR2_f _ _ (by decide)]; exact hm) _ (by omega)
    have hNm_13 : Nb (mRefL (mR2 u.2.2 t) t i_9) := mRefL_Nb (mR2_V hV t) hNm_8 ht (by rw [mR2_f _ _ (by decide)]; exact hm) _ (by omega)
    refine lv_iload_n hx hb dX5_refused_30 rfl (lv_at hl 2 rfl) ?_
    refine lv_aload_n hx hb dX5_refused_31 rfl (lv_at hl 0 rfl) ?_
    refine w_get (v := .int (nI (gN (mRefL (mR2 u.2.2 t) t i_9) 50 (0) (0)))) (fk := 0) hF hB ha0 (cn_20 env (wM u (mRefL (mR2 u.2.2 t) t i_9)) (0)) rfl in_X5 (by decide) tw_3_95 rfl rfl dX5_refused_32 ?_
    refine w_icge_n (tgt := 76) (by omega) (by have := hNm_13 50 (0) (0); omega) hx hb dX5_refused_35 (by decide) (fun c_14 => ?_) (fun c_14 => ?_)
    · rw [mRefL_f _ _ (by decide), mR2_f _ _ (by decide)] at c_14
      exact w_vret hF hr hlocks hB (by rw [mRefused, if_pos c_1, show i_9 = gN u.2.2 50 0 0 by omega]) dX5_refused_76
    · rw [mRefL_f _ _ (by decide), mR2_f _ _ (by decide)] at c_14
      refine lv_iload_n hx hb dX5_refused_38 rfl (lv_at hl 2 rfl) ?_
      refine lv_aload_n hx hb dX5_refused_39 rfl (lv_at hl 0 rfl) ?_
      refine w_get (v := .ref (sA u 27 0)) (fk := 6) hF hB ha0 (cn_20 env (wM u (mRefL (mR2 u.2.2 t) t i_9)) (0)) rfl in_X5 (by decide) tw_3_101 rfl rfl dX5_refused_40 ?_
      refine lv_iload_n hx hb dX5_refused_43 rfl (lv_at hl 1 rfl) ?_
      refine w_iald (v := .int (nI (gN (mRefL (mR2 u.2.2 t) t i_9) 56 (0) (t)))) hF hB ⟨hM 27 (by decide), rfl⟩ (cn_27 env (wM u (mRefL (mR2 u.2.2 t) t i_9)) (0)) (by omega) rfl (by decide) dX5_refused_44 ?_
      refine w_iceq_n (tgt := 70) (by omega) (by have := hNm_13 56 (0) (t); omega) hx hb dX5_refused_45 (by decide) (fun c_15 => ?_) (fun c_15 => ?_)
      · refine lv_iinc (v := nI (i_9 + 1)) (lv' := [(2, .int (nI (i_9 + 1))), (0, .ref (a0)), (1, .int (nI (t)))]) hx hb dX5_refused_70 hl (k := 2) rfl (nI_add _ _) (by decide) rfl (fun ls hl => ?_)
        refine lv_goto (tgt := 30) hx hb dX5_refused_73 (by decide) ?_
        have em_16 : (mRefL (mR2 u.2.2 t) t (i_9 + 1)) = (mRefL (mR2 u.2.2 t) t i_9) := by rw [mRefL_s, if_neg (fun z => z.1 c_15)]
        exact ih (H, locs, ls) (by omega) ⟨trivial, (by rw [em_16]; exact hB), by exact lv_sub hl [1, 2, 0] rfl⟩
      · refine lv_aload_n hx hb dX5_refused_48 rfl (lv_at hl 0 rfl) ?_
        refine lv_iload_n hx hb dX5_refused_49 rfl (lv_at hl 1 rfl) ?_
        refine lv_iload_n hx hb dX5_refused_50 rfl (lv_at hl 2 rfl) ?_
        refine w_ci (r_V (As := [.int (nI (t)), .int (nI (i_9))]) (rest := []) hF hB (c_X5_writesAt l env s0 X (wM u (mRefL (mR2 u.2.2 t) t i_9)) (a0) (0) (ha0) (t) (i_9) hM hV_12 hNm_13 ht (by omega)) cv_X5_writesAt tw_4_34 ⟨rfl, rfl, by decide, by decide⟩ (hB.recv ha0 (cn_20 env (wM u (mRefL (mR2 u.2.2 t) t i_9)) (0)) rfl) rfl hl.1 rfl (lv_room (by decide)) dX5_refused_51 ⟨Nat.le_of_ble_eq_true rfl, Nat.le_of_ble_eq_true rfl⟩) hB (fun r_17 u_19 H locs hq_18 hB => ?_)
        obtain ⟨rfl, rfl⟩ := hq_18
        show W p l e _ s m _ below meth c H locs _ _ _ (F0 m _ ls [.int (b2i (mWritesAt (mRefL (mR2 u.2.2 t) t i_9) (t) (i_9)))])
        refine w_ifeq_b (tgt := 70) hx hb dX5_refused_54 (by decide) (fun c_20 => ?_) (fun c_20 => ?_)
        · refine lv_iinc (v := nI (i_9 + 1)) (lv' := [(2, .int (nI (i_9 + 1))), (0, .ref (a0)), (1, .int (nI (t)))]) hx hb dX5_refused_70 hl (k := 2) rfl (nI_add _ _) (by decide) rfl (fun ls hl => ?_)
          refine lv_goto (tgt := 30) hx hb dX5_refused_73 (by decide) ?_
          have em_21 : (mRefL (mR2 u.2.2 t) t (i_9 + 1)) = (mRefL (mR2 u.2.2 t) t i_9) := by rw [mRefL_s, if_neg (fun z => by rw [c_20] at z; exact absurd z.2 (by decide))]
          exact ih (H, locs, ls) (by omega) ⟨trivial, (by rw [em_21]; exact hB), by exact lv_sub hl [1, 2, 0] rfl⟩
        · refine lv_aload_n hx hb dX5_refused_57 rfl (lv_at hl 0 rfl) ?_
          refine lv_iconst (v := nI 3) hx hb dX5_refused_58 (by decide) ?_
          refine lv_iload_n hx hb dX5_refused_59 rfl (lv_at hl 2 rfl) ?_
          refine lv_aload_n hx hb dX5_refused_60 rfl (lv_at hl 0 rfl) ?_
          refine w_get (v := .ref (sA u 27 0)) (fk := 6) hF hB ha0 (cn_20 env (wM u (mRefL (mR2 u.2.2 t) t i_9)) (0)) rfl in_X5 (by decide) tw_3_101 rfl rfl dX5_refused_61 ?_
          refine lv_iload_n hx hb dX5_refused_64 rfl (lv_at hl 1 rfl) ?_
          refine w_iald (v := .int (nI (gN (mRefL (mR2 u.2.2 t) t i_9) 56 (0) (t)))) hF hB ⟨hM 27 (by decide), rfl⟩ (cn_27 env (wM u (mRefL (mR2 u.2.2 t) t i_9)) (0)) (by omega) rfl (by decide) dX5_refused_65 ?_
          refine lv_iload_n hx hb dX5_refused_66 rfl (lv_at hl 1 rfl) ?_
          refine w_cv (r_V (As := [.int (nI (3)), .int (nI (i_9)), .int (nI (gN (mRefL (mR2 u.2.2 t) t i_9) 56 (0) (t))), .int (nI (t))]) (rest := []) hF hB (c_X5_send l env s0 X (wM u (mRefL (mR2 u.2.2 t) t i_9)) (a0) (0) (ha0) (3) (i_9) (gN (mRefL (mR2 u.2.2 t) t i_9) 56 (0) (t)) (t) hM hV_12 hNm_13 (by show gN (mRefL (mR2 u.2.2 t) t i_9) 72 0 0 < 2400; have h1 := mRefL_72 (mR2 u.2.2 t) t i_9; rw [mR2_f _ _ (by decide)] at h1; omega) (by decide) (by omega) (hV_12.site _) ht) cv_X5_send tw_4_26 ⟨rfl, rfl, by decide, by decide⟩ (hB.recv ha0 (cn_20 env (wM u (mRefL (mR2 u.2.2 t) t i_9)) (0)) rfl) rfl hl.1 rfl (lv_room (by decide)) dX5_refused_67 ⟨Nat.le_of_ble_eq_true rfl, Nat.le_of_ble_eq_true rfl⟩) hB (fun u_24 H locs hq_23 hB => ?_)
          obtain rfl := hq_23
          replace hB : Bd env s0 X (wM u (mSend ((mRefL (mR2 u.2.2 t) t i_9)) (3) (i_9) (gN (mRefL (mR2 u.2.2 t) t i_9) 56 (0) (t)) (t))) s H locs := hB
          have hV_25 : MV (mSend ((mRefL (mR2 u.2.2 t) t i_9)) (3) (i_9) (gN (mRefL (mR2 u.2.2 t) t i_9) 56 (0) (t)) (t)) := mSend_V hV_12 (by omega) (hV_12.site _) ht (by show gN (mRefL (mR2 u.2.2 t) t i_9) 72 0 0 < 2400; have h1 := mRefL_72 (mR2 u.2.2 t) t i_9; rw [mR2_f _ _ (by decide)] at h1; omega)
          have hNm_26 : Nb (mSend ((mRefL (mR2 u.2.2 t) t i_9)) (3) (i_9) (gN (mRefL (mR2 u.2.2 t) t i_9) 56 (0) (t)) (t)) := mSend_Nb hNm_13 (by decide) (by omega) (hV_12.site _) ht (by show gN (mRefL (mR2 u.2.2 t) t i_9) 72 0 0 < 2400; have h1 := mRefL_72 (mR2 u.2.2 t) t i_9; rw [mR2_f _ _ (by decide)] at h1; omega)
          refine lv_iinc (v := nI (i_9 + 1)) (lv' := [(2, .int (nI (i_9 + 1))), (0, .ref (a0)), (1, .int (nI (t)))]) hx hb dX5_refused_70 hl (k := 2) rfl (nI_add _ _) (by decide) rfl (fun ls hl => ?_)
          refine lv_goto (tgt := 30) hx hb dX5_refused_73 (by decide) ?_
          have em_27 : (mRefL (mR2 u.2.2 t) t (i_9 + 1)) = (mSend ((mRefL (mR2 u.2.2 t) t i_9)) (3) (i_9) (gN (mRefL (mR2 u.2.2 t) t i_9) 56 (0) (t)) (t)) := by rw [mRefL_s, if_pos ⟨c_15, c_20⟩]
          exact ih (H, locs, ls) (by omega) ⟨trivial, (by rw [em_27]; exact hB), by exact lv_sub hl [1, 2, 0] rfl⟩
end
section
theorem wloopDH {σ : Type} (P : Nat → σ → Prop) (G : σ → Prop) (z : ∀ x, P 0 x → G x) (step : ∀ i x, P (i + 1) x → (∀ x', P i x' → G x') → G x) : ∀ i x, P i x → G x := by
  intro i
  induction i with
  | zero => exact z
  | succ i ih => intro x h; exact step i x h ih
theorem nI_s1 (d : Nat) : nI (d + 1) - nI 1 = nI d := by rw [pk_sub (by omega)]; simp
theorem nI_dec (d : Nat) : nI d + Int32.ofInt (-1) = nI d - nI 1 := by rw [Int32.sub_eq_add_neg]; rfl
theorem in_24 {v : Int32} (h : inL v.toInt64 2 4 = true) : ∃ a, a < 5 ∧ 2 ≤ a ∧ v = nI a := by
  rw [in_c v 2 4 2 4 rfl rfl] at h
  simp at h
  rcases pk_ix v (n := 5) (by decide) with q | q | ⟨j, q1, q2⟩
  · have := Int32.lt_iff_toInt_lt.mp q
    simp at this; omega
  · have := Int32.le_iff_toInt_le.mp q
    rw [nI_toInt (by decide)] at this; omega
  · refine ⟨j, q1, ?_, q2⟩
    rw [q2, nI_toInt (by omega)] at h; omega
theorem in_24f {v : Int32} (h : inL v.toInt64 2 4 = false) : ∀ a, ix v 5 = some a → a < 2 := by
  intro a ha
  obtain ⟨h1, rfl⟩ := ix_some (by decide) ha
  rw [in_c _ 2 4 2 4 rfl rfl, nI_toInt (by omega)] at h
  simp at h; omega
theorem in_500 (v : Int32) : inL v.toInt64 0 500 = (ix v 501).isSome := by
  rw [in_c v 0 500 0 500 rfl rfl]
  simp only [ix]
  by_cases q1 : 0 ≤ v.toInt <;> by_cases q2 : v.toInt < 501 <;> simp [q1, q2] <;> omega
def lastL (q : Nat → Bool) (val : Nat → Int64) : Nat → Int64
  | 0 => 0
  | i + 1 => if q i then val i else lastL q val i
theorem lastL_s (q : Nat → Bool) (val : Nat → Int64) (i : Nat) : lastL q val (i + 1) = if q i then val i else lastL q val i := rfl
theorem sumL_s (q : Nat → Int64) (n : Nat) : sumL q (n + 1) = sumL q n + q n := rfl
theorem sumL_0 (q : Nat → Int64) : sumL q 0 = 0 := rfl
def mRdQ (m : Lg) (t k i : Nat) : Bool := gB m 64 0 (12 * mCame m (gN m 56 0 t) i + k) && mHas m t (mCame m (gN m 56 0 t) i)
def mRdV (m : Lg) (k s i : Nat) : Int64 := gJ m 65 0 (12 * mCame m s i + k)
def mRead (m : Lg) (t k : Nat) : Int64 := if gB m 64 0 (12 * t + k) = true then gJ m 65 0 (12 * t + k) else lastL (mRdQ m t k) (mRdV m k (gN m 56 0 t)) (gN m 70 0 (gN m 56 0 t))
def mread (m : Lg) (v1 v2 : Int32) : Int64 := match ix v1 (gN m 55 0 0) with
  | none => 0
  | some t => match ix v2 (gN m 52 0 0) with
    | none => 0
    | some k => if gB m 54 0 k = true then 0 else mRead m t k
def mCtV (m : Lg) (t k e i : Nat) : Int64 := if mHas m t (mCame m (gN m 56 0 t) i) = true then gJ m 67 0 (96 * mCame m (gN m 56 0 t) i + 8 * k + e) else 0
def mcounted (m : Lg) (v1 v2 v3 : Int32) : Int64 := match ix v1 (gN m 55 0 0) with
  | none => 0
  | some t => match ix v2 (gN m 52 0 0) with
    | none => 0
    | some k => if gB m 54 0 k = true then (match ix v3 8 with
      | none => 0
      | some e => gJ m 67 0 (96 * t + 8 * k + e) + sumL (mCtV m t k e) (gN m 70 0 (gN m 56 0 t))) else 0
def mLaQ (m : Lg) (w k i : Nat) : Bool := gB m 64 0 (12 * mCame m w i + k)
def mlatest (m : Lg) (v1 v2 : Int32) : Int64 := match ix v1 (gN m 50 0 0) with
  | none => 0
  | some w => match ix v2 (gN m 52 0 0) with
    | none => 0
    | some k => if gB m 54 0 k = true then 0 else lastL (mLaQ m w k) (mRdV m k w) (gN m 70 0 w)
def mSuV (m : Lg) (w k e i : Nat) : Int64 := gJ m 67 0 (96 * mCame m w i + 8 * k + e)
def msum (m : Lg) (v1 v2 v3 : Int32) : Int64 := match ix v1 (gN m 50 0 0) with
  | none => 0
  | some w => match ix v2 (gN m 52 0 0) with
    | none => 0
    | some k => if gB m 54 0 k = true then (match ix v3 8 with
      | none => 0
      | some e => sumL (mSuV m w k e) (gN m 70 0 w)) else 0
def mstart (m : Lg) (v1 v2 : Int32) : Int32 := match ix v1 (gN m 55 0 0) with
  | none => -1
  | some t => match ix v2 (gN m 50 0 0) with
    | none => -1
    | some w => nI (gN m 58 0 (4 * t + w))
def mhad (m : Lg) (v1 v2 : Int32) : Int32 := match ix v1 (gN m 50 0 0) with
  | none => -1
  | some t => match ix v2 (gN m 50 0 0) with
    | none => -1
    | some w => nI (gN m 68 0 (4 * t + w))
def mlocked (m : Lg) (v1 v2 : Int32) : Int32 := match ix v1 (gN m 50 0 0) with
  | none => -1
  | some w => match ix v2 (gN m 52 0 0) with
    | none => -1
    | some k => gI m 71 0 (12 * w + k)
def msees (m : Lg) (v1 v2 : Int32) : Int32 := match ix v1 (gN m 55 0 0) with
  | none => -1
  | some t => match ix v2 (gN m 55 0 0) with
    | none => -1
    | some o => if gN m 59 0 o = 0 then -4 else b2i (decide (t = o) || mHas m t o)
def mmessage (m : Lg) (v w : Int32) : Int32 := match ix v (gN m 72 0 0) with
  | none => -1
  | some i => match ix w 5 with
    | none => -1
    | some j => if j = 0 then nI (gN m 73 0 i) else if j = 1 then nI (gN m 74 0 i) else if j = 2 then nI (gN m 75 0 i) else if j = 3 then nI (gN m 76 0 i) else b2i (mCanCome m i)
def mEvery (m : Lg) (t : Nat) : Bool := decide (0 < gN m 59 0 t) && decide (gN m 60 0 t + 1 = gN m 50 0 0)
def mtold (m : Lg) (v w : Int32) : Int32 := match ix v (gN m 55 0 0) with
  | none => -1
  | some t => match ix w 9 with
    | none => -1
    | some j => if j = 0 then nI (gN m 57 0 t) else if j = 1 then nI (gN m 56 0 t) else if j = 2 then nI (gN m 59 0 t) else if j = 3 then nI (gN m 60 0 t) else if j = 4 then b2i (mIsSafe m t) else if j = 5 then b2i (mEvery m t) else if j = 6 then nI (mPlain m t) else if j = 7 then nI (gN m 61 0 t) else nI (gN m 62 0 t)
def mCaQ (m : Lg) (w o : Nat) : Bool := decide (gN m 68 0 (4 * w + o) = gN m 68 0 (4 * o + o))
def mCaR (m : Lg) (w : Nat) : Bool := allN (mCaQ m w) (gN m 50 0 0)
def mCalm (m : Lg) : Bool := allN (mCaR m) (gN m 50 0 0)
def mStQ (m : Lg) (x t : Nat) : Bool := decide (gN m 57 0 t = x)
def mMdQ (m : Lg) (t : Nat) : Bool := decide (0 < gN m 59 0 t)
def mHdQ (m : Lg) (i : Nat) : Bool := !decide (gI m 71 0 i = -4)
def mcount (m : Lg) (w : Int32) : Int32 := match ix w 10 with
  | none => -1
  | some j => if j = 0 then nI (gN m 50 0 0) else if j = 1 then nI (gN m 51 0 0) else if j = 2 then nI (gN m 52 0 0) else if j = 3 then nI (gN m 55 0 0) else if j = 4 then nI (gN m 72 0 0) else if j = 5 then nI (cntN (mStQ m 2) (gN m 55 0 0)) else if j = 6 then nI (cntN (mStQ m 3) (gN m 55 0 0)) else if j = 7 then nI (cntN (mMdQ m) (gN m 55 0 0)) else if j = 8 then nI (cntN (mHdQ m) 48) else nI (cntN (mIsSafe m) (gN m 55 0 0))
/-! writers -/
def msites (m : Lg) (v1 v2 : Int32) : Int32 × Lg := match ix v1 5 with
  | none => (-1, m)
  | some a => if a < 2 then (-1, m) else match ix v2 a with
    | none => (-1, m)
    | some b => if 0 < gN m 52 0 0 ∨ 0 < gN m 55 0 0 then (-2, m) else (nI 1, uN (uN m 50 0 0 a) 51 0 0 b)
def mthing (m : Lg) (v : Int32) (b : Bool) : Int32 × Lg := match ix v (gN m 50 0 0) with
  | none => (-1, m)
  | some w => if gN m 52 0 0 = 12 then (-3, m) else (nI (gN m 52 0 0), uN (uB (uN m 53 0 (gN m 52 0 0) w) 54 0 (gN m 52 0 0) b) 52 0 0 (gN m 52 0 0 + 1))
def mBegL (m : Lg) (w : Nat) : Nat → Lg
  | 0 => m
  | o + 1 => uN (mBegL m w o) 58 0 (4 * gN (mBegL m w o) 55 0 0 + o) (gN (mBegL m w o) 68 0 (4 * w + o))
theorem mBegL_f (m : Lg) (w : Nat) {f : Nat} (hf : f ≠ 58) : ∀ o, gN (mBegL m w o) f = gN m f
  | 0 => rfl
  | o + 1 => by
    show up3 _ 58 _ _ _ f = _
    unfold up3
    rw [if_neg hf]; exact mBegL_f m w hf o
theorem mBegL_V {m : Lg} (h : MV m) (w : Nat) : ∀ o, MV (mBegL m w o)
  | 0 => h
  | o + 1 => (show MV (mBegL m w (o + 1)) from mBegL_V h w o)
theorem mBegL_Nb {m : Lg} (h : Nb m) (w : Nat) : ∀ o, Nb (mBegL m w o)
  | 0 => h
  | o + 1 => Nb.uN (mBegL_Nb h w o) (mBegL_Nb h w o _ _ _)
def mbegin (m : Lg) (v : Int32) : Int32 × Lg := match ix v (gN m 50 0 0) with
  | none => (-1, m)
  | some w => if gN m 55 0 0 = 150 then (-3, m) else (nI (gN m 55 0 0), uN (mBegL (uN m 56 0 (gN m 55 0 0) w) w 4) 55 0 0 (gN m 55 0 0 + 1))
def mWr (m : Lg) (t k : Nat) (x : Int64) : Lg := uJ (uB m 64 0 (12 * t + k) true) 65 0 (12 * t + k) x
def mwrite (m : Lg) (v1 v2 : Int32) (x : Int64) : Int32 × Lg := match ix v1 (gN m 55 0 0) with
  | none => (-1, m)
  | some t => match ix v2 (gN m 52 0 0) with
    | none => (-1, m)
    | some k => if gB m 54 0 k = true then (-1, m) else if gN m 57 0 t = 0 then (nI (mPlain (mWr m t k x) t), mWr m t k x) else (-2, m)
def mAd (m : Lg) (t k e : Nat) (x : Int32) : Lg := uJ (uB m 66 0 (12 * t + k) true) 67 0 (96 * t + 8 * k + e) (gJ m 67 0 (96 * t + 8 * k + e) + x.toInt64)
def madd (m : Lg) (v1 v2 v3 x : Int32) : Int32 × Lg := match ix v1 (gN m 55 0 0) with
  | none => (-1, m)
  | some t => match ix v2 (gN m 52 0 0) with
    | none => (-1, m)
    | some k => if gB m 54 0 k = true then (match ix v3 8 with
      | none => (-1, m)
      | some e => if gN m 57 0 t = 0 then (nI 1, mAd m t k e x) else (-2, m)) else (-1, m)
def mFirstQ (m : Lg) (i : Nat) : Bool := mCanCome m i
def firstN (q : Nat → Bool) : Nat → Option Nat
  | 0 => none
  | n + 1 => match firstN q n with
    | some i => some i
    | none => if q n then some n else none
theorem firstN_none {q : Nat → Bool} : ∀ {n : Nat}, (∀ j, j < n → q j = false) → firstN q n = none
  | 0, _ => rfl
  | n + 1, h => by
    unfold firstN
    rw [firstN_none (fun j hj => h j (by omega)), h n (by omega)]; rfl
theorem firstN_some {q : Nat → Bool} {i : Nat} (hi : q i = true) (h : ∀ j, j < i → q j = false) : ∀ {n : Nat}, i < n → firstN q n = some i
  | n + 1, hn => by
    unfold firstN
    rcases Nat.lt_or_ge i n with z | z
    · rw [firstN_some hi h z]
    · rw [firstN_none (fun j hj => h j (by omega))]
      rw [show n = i by omega, hi]; rfl
theorem firstN_is {q : Nat → Bool} {i : Nat} : ∀ {n : Nat}, firstN q n = some i → i < n ∧ q i = true
  | n + 1, h => by
    unfold firstN at h
    cases e : firstN q n with
    | some j => rw [e] at h; cases h; have := firstN_is e; exact ⟨by omega, this.2⟩
    | none =>
      rw [e] at h
      by_cases z : q n = true
      · simp [z] at h; subst h; exact ⟨by omega, z⟩
      · simp [z] at h
theorem firstN_congr {q q' : Nat → Bool} : ∀ {n : Nat}, (∀ j, j < n → q j = q' j) → firstN q n = firstN q' n
  | 0, _ => rfl
  | n + 1, h => by
    unfold firstN
    rw [firstN_congr (fun j hj => h j (by omega)), h n (by omega)]
def mFirst (m : Lg) : Option Nat := firstN (mCanCome m) (gN m 72 0 0)
def mAllF (m : Lg) : Nat → Lg
  | 0 => m
  | d + 1 => match mFirst (mAllF m d) with
    | none => mAllF m d
    | some i => mComesNow (mAllF m d) i
def mAllC (m : Lg) : Nat → Nat
  | 0 => 0
  | d + 1 => mAllC m d + (if (mFirst (mAllF m d)).isSome = true then 1 else 0)
theorem mAll_stuck {m : Lg} {d : Nat} (h : mFirst (mAllF m d) = none) : ∀ k, mAllF m (d + k) = mAllF m d ∧ mAllC m (d + k) = mAllC m d
  | 0 => ⟨rfl, rfl⟩
  | k + 1 => by
    obtain ⟨h1, h2⟩ := mAll_stuck h k
    have e1 : mAllF m (d + (k + 1)) = mAllF m d := by
      show mAllF m ((d + k) + 1) = _
      simp [mAllF, h1, h]
    have e2 : mAllC m (d + (k + 1)) = mAllC m d := by
      show mAllC m ((d + k) + 1) = _
      simp [mAllC, h1, h, h2]
    exact ⟨e1, e2⟩
def mall (m : Lg) (v : Int32) : Int32 × Lg := match ix v 501 with
  | none => (-1, m)
  | some k => (nI (mAllC m k), mAllF m k)
def mdeliver (m : Lg) (v : Int32) : Int32 × Lg := match ix v (gN m 72 0 0) with
  | none => (-1, m)
  | some i => if mCanCome m i = true then (nI (gN m 73 0 i), mComesNow m i) else (-2, m)
end
section
theorem zz_last : True := trivial
end
